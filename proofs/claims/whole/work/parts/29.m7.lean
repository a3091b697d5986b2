/-! ===== the model: a troop marches ===== -/
/-- a step that leads nearer to the goal, to a free cell -/
def mW (z f : Row) (c w : Int) : Prop := stT z c w ≠ -1 ∧ f (stT z c w).toNat ≠ -1 ∧ f (stT z c w).toNat = f c.toNat - 1 ∧ tAt z (stT z c w) = -1
/-- the first one of the last n ways, -1 -/
def nxN (z f : Row) (c : Int) : Nat → Int
  | 0 => -1
  | n + 1 => if stT z c (3 - n) ≠ -1 ∧ f (stT z c (3 - n)).toNat ≠ -1 ∧ f (stT z c (3 - n)).toNat = f c.toNat - 1 ∧ tAt z (stT z c (3 - n)) = -1 then stT z c (3 - n) else nxN z f c n
theorem nxN_congr {z f g : Row} {c : Int} (hc : isC c) (h : ∀ t : Int, isC t → f t.toNat = g t.toNat) : ∀ n : Nat, n ≤ 4 → nxN z f c n = nxN z g c n := by
  intro n
  induction n with
  | zero => intro _; rfl
  | succ n ih =>
    intro hn
    unfold nxN
    rw [ih (by omega)]
    rcases stT_cell (z := z) hc (d := 3 - n) (by omega) with q | q
    · rw [if_neg (fun w => w.1 q), if_neg (fun w => w.1 q)]
    · rw [h _ q.1, h _ hc]
theorem nxN_cell {z f : Row} {c : Int} (hc : isC c) : ∀ n : Nat, n ≤ 4 → nxN z f c n = -1 ∨ isC (nxN z f c n) := by
  intro n
  induction n with
  | zero => intro _; exact Or.inl rfl
  | succ n ih =>
    intro hn
    unfold nxN
    split
    · rename_i q
      exact Or.inr ((stT_cell (z := z) hc (d := 3 - n) (by omega)).resolve_left q.1).1
    · exact ih (by omega)
theorem nxN_none {z f : Row} {c : Int} (hc : isC c) (hf : f c.toNat = -1) (hb : ∀ t : Int, isC t → -1 ≤ f t.toNat) : ∀ n : Nat, n ≤ 4 → nxN z f c n = -1 := by
  intro n
  induction n with
  | zero => intro _; rfl
  | succ n ih =>
    intro hn
    unfold nxN
    rw [if_neg (fun w => ?_)]
    · exact ih (by omega)
    · have h1 := hb _ ((stT_cell (z := z) hc (d := 3 - n) (by omega)).resolve_left w.1).1
      have h2 := w.2.2.1
      omega
theorem uz_self (z : Row) (i : Nat) : uz z i (z i) = z := funext (fun j => by
  by_cases h : j = i
  · rw [h, uz_same]
  · rw [uz_ne z _ h])
/-- where troop k goes -/
def mvC (z : Row) (k : Nat) : Int :=
  if tf z k 4 = 1 then (if stT z (tf z k 1) (if tf z k 0 = 0 then 3 else 1) ≠ -1 ∧ tAt z (stT z (tf z k 1) (if tf z k 0 = 0 then 3 else 1)) = -1 then stT z (tf z k 1) (if tf z k 0 = 0 then 3 else 1) else tf z k 1)
  else if tf z k 4 = 2 ∨ tf z k 1 = tf z k 3 then tf z k 1
  else if nxN z (dF z (opM z k) (tf z k 3)) (tf z k 1) 4 = -1 then tf z k 1 else nxN z (dF z (opM z k) (tf z k 3)) (tf z k 1) 4
def marchZ (z : Row) (k : Nat) : Row := uz z (99 + 8 * k + 1) (mvC z k)
theorem L_march {G : amG} {I : Nat → Nat → Int} {R : Nat → Nat → Option Nat} {L : Nat → Nat → Int64} {x : Nat} {Q : amR → amH → Prop} (hG : amG0 G) (hR : RM R) {z f q : Row} (hh : wfH z) (hn : wfN z) {v k : Int} (hcc : isC v) (hfb : ∀ t : Int, isC t → -1 ≤ f t.toNat ∧ f t.toNat < 96) (hK : ∀ (w : Int) (l5 l6 : Option amV), X G mX10_march Q 194 [some (aR (some 361)), some (aI k), some (aI v), some (aI (nxN z f v 4)), some (aI w), l5, l6] [] (m3 I z f q, R, L, SH, x, 0, 0)) :
    ∀ (n : Nat) (w s : Int) (l5 l6 : Option amV), -1 ≤ w ∧ w ≤ 3 ∧ w < (n : Int) - 1 → s = nxN z f v (3 - w).toNat → X G mX10_march Q 100 [some (aR (some 361)), some (aI k), some (aI v), some (aI s), some (aI w), l5, l6] [] (m3 I z f q, R, L, SH, x, 0, 0) := by
  intro n
  induction n with
  | zero =>
    intros
    exfalso; omega
  | succ n ih =>
    intro w s l5 l6 h1 hs
    have hh' : wfH (m3 I z f q 362) := hh
    have hn' : wfN (m3 I z f q 362) := hn
    have hv' : 0 ≤ v ∧ v < 96 := hcc
    have hfv := hfb v hcc
    refine B_X10_march_100 ?_
    try dsimp only
    try simp only [m3_z, m3_f, m3_q, u2_m3_z, u2_m3_f, u2_m3_q, Int.reduceToNat]
    refine ⟨fun c102_0 => ?_, fun c102_0 => ?_⟩
    · first
        | (have e : s = nxN z f v 4 := by
             rw [hs, nxN_none hcc (by omega) (fun t ht => (hfb t ht).1) _ (by omega), nxN_none hcc (by omega) (fun t ht => (hfb t ht).1) _ (by omega)]
           rw [e]
           exact hK _ _ _)
        | (have e : (3 - w).toNat = 4 := by omega
           rw [hs, e]
           exact hK _ _ _)
    · refine ⟨sh361, _, hR.far, ?_⟩
      refine ⟨_, sh365, ⟨by omega, by omega⟩, ?_⟩
      try simp only [m3_z, m3_f, m3_q, u2_m3_z, u2_m3_f, u2_m3_q, Int.reduceToNat]
      refine ⟨fun c112_0 => ?_, fun c112_0 => ?_⟩
      · first
          | (have e : s = nxN z f v 4 := by
               rw [hs, nxN_none hcc (by omega) (fun t ht => (hfb t ht).1) _ (by omega), nxN_none hcc (by omega) (fun t ht => (hfb t ht).1) _ (by omega)]
             rw [e]
             exact hK _ _ _)
          | (have e : (3 - w).toNat = 4 := by omega
             rw [hs, e]
             exact hK _ _ _)
      · refine ⟨⟨Nat.zero_le _, Nat.zero_le _, Nat.le_of_ble_eq_true rfl⟩, sh361, ?_⟩
        have hc := stT_cell (z := z) hcc (d := w) (by omega)
        have hc2 : stT z v w = -1 ∨ (0 ≤ stT z v w ∧ stT z v w < 96) := hc.imp id (fun q => q.1)
        have hfw : stT z v w = -1 ∨ (-1 ≤ f (stT z v w).toNat ∧ f (stT z v w).toNat < 96) := hc.imp id (fun q => hfb _ q.1)
        refine C_stepTo hG hR hh' hcc (by omega) (fun r hr => ?_)
        have hr : r = stT z v w := hr
        subst hr
        refine af_I0 rfl rfl (by decide) ?_
        try dsimp only
        try simp only [m3_z, m3_f, m3_q, u2_m3_z, u2_m3_f, u2_m3_q, Int.reduceToNat]
        refine B_X10_march_122 ?_
        try dsimp only
        try simp only [m3_z, m3_f, m3_q, u2_m3_z, u2_m3_f, u2_m3_q, Int.reduceToNat]
        refine ⟨fun c127_1 => ?_, fun c127_1 => ?_⟩
        · refine B_X10_march_173 ?_
          try dsimp only
          try simp only [m3_z, m3_f, m3_q, u2_m3_z, u2_m3_f, u2_m3_q, Int.reduceToNat]
          refine B_X10_march_174 ?_
          try dsimp only
          try simp only [m3_z, m3_f, m3_q, u2_m3_z, u2_m3_f, u2_m3_q, Int.reduceToNat]
          refine ⟨fun c178_3 => ?_, fun c178_3 => ?_⟩
          · refine B_X10_march_186 ?_
            try dsimp only
            try simp only [m3_z, m3_f, m3_q, u2_m3_z, u2_m3_f, u2_m3_q, Int.reduceToNat]
            refine B_X10_march_187 ?_
            try dsimp only
            try simp only [m3_z, m3_f, m3_q, u2_m3_z, u2_m3_f, u2_m3_q, Int.reduceToNat]
            refine ⟨by (refine ⟨?_, ?_⟩ <;> omega), ?_⟩
            refine ih (w - 1) _ _ _ (by omega) ?_
            rw [show (3 - (w - 1)).toNat = (3 - w).toNat + 1 by omega]
            unfold nxN
            rw [show (3 : Int) - ((3 - w).toNat : Int) = w by omega]
            first | (rw [if_pos ⟨by omega, by omega, by omega, by omega⟩]; done) | (rw [if_neg (by omega)]; exact hs) | (exfalso; omega) | exact absurd True.intro (by assumption)
          · refine B_X10_march_187 ?_
            try dsimp only
            try simp only [m3_z, m3_f, m3_q, u2_m3_z, u2_m3_f, u2_m3_q, Int.reduceToNat]
            refine ⟨by (refine ⟨?_, ?_⟩ <;> omega), ?_⟩
            refine ih (w - 1) _ _ _ (by omega) ?_
            rw [show (3 - (w - 1)).toNat = (3 - w).toNat + 1 by omega]
            unfold nxN
            rw [show (3 : Int) - ((3 - w).toNat : Int) = w by omega]
            first | (rw [if_pos ⟨by omega, by omega, by omega, by omega⟩]; done) | (rw [if_neg (by omega)]; exact hs) | (exfalso; omega) | exact absurd True.intro (by assumption)
        · refine ⟨sh361, _, hR.far, ?_⟩
          refine ⟨_, sh365, ⟨by omega, by omega⟩, ?_⟩
          try simp only [m3_z, m3_f, m3_q, u2_m3_z, u2_m3_f, u2_m3_q, Int.reduceToNat]
          refine ⟨fun c138_1 => ?_, fun c138_1 => ?_⟩
          · refine B_X10_march_173 ?_
            try dsimp only
            try simp only [m3_z, m3_f, m3_q, u2_m3_z, u2_m3_f, u2_m3_q, Int.reduceToNat]
            refine B_X10_march_174 ?_
            try dsimp only
            try simp only [m3_z, m3_f, m3_q, u2_m3_z, u2_m3_f, u2_m3_q, Int.reduceToNat]
            refine ⟨fun c178_3 => ?_, fun c178_3 => ?_⟩
            · refine B_X10_march_186 ?_
              try dsimp only
              try simp only [m3_z, m3_f, m3_q, u2_m3_z, u2_m3_f, u2_m3_q, Int.reduceToNat]
              refine B_X10_march_187 ?_
              try dsimp only
              try simp only [m3_z, m3_f, m3_q, u2_m3_z, u2_m3_f, u2_m3_q, Int.reduceToNat]
              refine ⟨by (refine ⟨?_, ?_⟩ <;> omega), ?_⟩
              refine ih (w - 1) _ _ _ (by omega) ?_
              rw [show (3 - (w - 1)).toNat = (3 - w).toNat + 1 by omega]
              unfold nxN
              rw [show (3 : Int) - ((3 - w).toNat : Int) = w by omega]
              first | (rw [if_pos ⟨by omega, by omega, by omega, by omega⟩]; done) | (rw [if_neg (by omega)]; exact hs) | (exfalso; omega) | exact absurd True.intro (by assumption)
            · refine B_X10_march_187 ?_
              try dsimp only
              try simp only [m3_z, m3_f, m3_q, u2_m3_z, u2_m3_f, u2_m3_q, Int.reduceToNat]
              refine ⟨by (refine ⟨?_, ?_⟩ <;> omega), ?_⟩
              refine ih (w - 1) _ _ _ (by omega) ?_
              rw [show (3 - (w - 1)).toNat = (3 - w).toNat + 1 by omega]
              unfold nxN
              rw [show (3 : Int) - ((3 - w).toNat : Int) = w by omega]
              first | (rw [if_pos ⟨by omega, by omega, by omega, by omega⟩]; done) | (rw [if_neg (by omega)]; exact hs) | (exfalso; omega) | exact absurd True.intro (by assumption)
          · refine ⟨sh361, _, hR.far, ?_⟩
            refine ⟨_, sh365, ⟨by omega, by omega⟩, ?_⟩
            try simp only [m3_z, m3_f, m3_q, u2_m3_z, u2_m3_f, u2_m3_q, Int.reduceToNat]
            refine ⟨sh361, _, hR.far, ?_⟩
            refine ⟨_, sh365, ⟨by omega, by omega⟩, ?_⟩
            try simp only [m3_z, m3_f, m3_q, u2_m3_z, u2_m3_f, u2_m3_q, Int.reduceToNat]
            refine ⟨by (refine ⟨?_, ?_⟩ <;> omega), ?_⟩
            refine ⟨fun c156_1 => ?_, fun c156_1 => ?_⟩
            · refine B_X10_march_173 ?_
              try dsimp only
              try simp only [m3_z, m3_f, m3_q, u2_m3_z, u2_m3_f, u2_m3_q, Int.reduceToNat]
              refine B_X10_march_174 ?_
              try dsimp only
              try simp only [m3_z, m3_f, m3_q, u2_m3_z, u2_m3_f, u2_m3_q, Int.reduceToNat]
              refine ⟨fun c178_3 => ?_, fun c178_3 => ?_⟩
              · refine B_X10_march_186 ?_
                try dsimp only
                try simp only [m3_z, m3_f, m3_q, u2_m3_z, u2_m3_f, u2_m3_q, Int.reduceToNat]
                refine B_X10_march_187 ?_
                try dsimp only
                try simp only [m3_z, m3_f, m3_q, u2_m3_z, u2_m3_f, u2_m3_q, Int.reduceToNat]
                refine ⟨by (refine ⟨?_, ?_⟩ <;> omega), ?_⟩
                refine ih (w - 1) _ _ _ (by omega) ?_
                rw [show (3 - (w - 1)).toNat = (3 - w).toNat + 1 by omega]
                unfold nxN
                rw [show (3 : Int) - ((3 - w).toNat : Int) = w by omega]
                first | (rw [if_pos ⟨by omega, by omega, by omega, by omega⟩]; done) | (rw [if_neg (by omega)]; exact hs) | (exfalso; omega) | exact absurd True.intro (by assumption)
              · refine B_X10_march_187 ?_
                try dsimp only
                try simp only [m3_z, m3_f, m3_q, u2_m3_z, u2_m3_f, u2_m3_q, Int.reduceToNat]
                refine ⟨by (refine ⟨?_, ?_⟩ <;> omega), ?_⟩
                refine ih (w - 1) _ _ _ (by omega) ?_
                rw [show (3 - (w - 1)).toNat = (3 - w).toNat + 1 by omega]
                unfold nxN
                rw [show (3 : Int) - ((3 - w).toNat : Int) = w by omega]
                first | (rw [if_pos ⟨by omega, by omega, by omega, by omega⟩]; done) | (rw [if_neg (by omega)]; exact hs) | (exfalso; omega) | exact absurd True.intro (by assumption)
            · refine ⟨⟨Nat.zero_le _, Nat.zero_le _, Nat.le_of_ble_eq_true rfl⟩, sh361, ?_⟩
              refine C_troopAt hG hR hn' (fun r2 hr2 => ?_)
              have hr2 : r2 = tAt z (stT z v w) := hr2
              subst hr2
              refine af_I0 rfl rfl (by decide) ?_
              try dsimp only
              try simp only [m3_z, m3_f, m3_q, u2_m3_z, u2_m3_f, u2_m3_q, Int.reduceToNat]
              refine B_X10_march_165 ?_
              try dsimp only
              try simp only [m3_z, m3_f, m3_q, u2_m3_z, u2_m3_f, u2_m3_q, Int.reduceToNat]
              refine ⟨fun c166_2 => ?_, fun c166_2 => ?_⟩
              · refine B_X10_march_173 ?_
                try dsimp only
                try simp only [m3_z, m3_f, m3_q, u2_m3_z, u2_m3_f, u2_m3_q, Int.reduceToNat]
                refine B_X10_march_174 ?_
                try dsimp only
                try simp only [m3_z, m3_f, m3_q, u2_m3_z, u2_m3_f, u2_m3_q, Int.reduceToNat]
                refine ⟨fun c178_4 => ?_, fun c178_4 => ?_⟩
                · refine B_X10_march_186 ?_
                  try dsimp only
                  try simp only [m3_z, m3_f, m3_q, u2_m3_z, u2_m3_f, u2_m3_q, Int.reduceToNat]
                  refine B_X10_march_187 ?_
                  try dsimp only
                  try simp only [m3_z, m3_f, m3_q, u2_m3_z, u2_m3_f, u2_m3_q, Int.reduceToNat]
                  refine ⟨by (refine ⟨?_, ?_⟩ <;> omega), ?_⟩
                  refine ih (w - 1) _ _ _ (by omega) ?_
                  rw [show (3 - (w - 1)).toNat = (3 - w).toNat + 1 by omega]
                  unfold nxN
                  rw [show (3 : Int) - ((3 - w).toNat : Int) = w by omega]
                  first | (rw [if_pos ⟨by omega, by omega, by omega, by omega⟩]; done) | (rw [if_neg (by omega)]; exact hs) | (exfalso; omega) | exact absurd True.intro (by assumption)
                · refine B_X10_march_187 ?_
                  try dsimp only
                  try simp only [m3_z, m3_f, m3_q, u2_m3_z, u2_m3_f, u2_m3_q, Int.reduceToNat]
                  refine ⟨by (refine ⟨?_, ?_⟩ <;> omega), ?_⟩
                  refine ih (w - 1) _ _ _ (by omega) ?_
                  rw [show (3 - (w - 1)).toNat = (3 - w).toNat + 1 by omega]
                  unfold nxN
                  rw [show (3 : Int) - ((3 - w).toNat : Int) = w by omega]
                  first | (rw [if_pos ⟨by omega, by omega, by omega, by omega⟩]; done) | (rw [if_neg (by omega)]; exact hs) | (exfalso; omega) | exact absurd True.intro (by assumption)
              · refine B_X10_march_174 ?_
                try dsimp only
                try simp only [m3_z, m3_f, m3_q, u2_m3_z, u2_m3_f, u2_m3_q, Int.reduceToNat]
                refine ⟨fun c178_3 => ?_, fun c178_3 => ?_⟩
                · refine B_X10_march_186 ?_
                  try dsimp only
                  try simp only [m3_z, m3_f, m3_q, u2_m3_z, u2_m3_f, u2_m3_q, Int.reduceToNat]
                  refine B_X10_march_187 ?_
                  try dsimp only
                  try simp only [m3_z, m3_f, m3_q, u2_m3_z, u2_m3_f, u2_m3_q, Int.reduceToNat]
                  refine ⟨by (refine ⟨?_, ?_⟩ <;> omega), ?_⟩
                  refine ih (w - 1) _ _ _ (by omega) ?_
                  rw [show (3 - (w - 1)).toNat = (3 - w).toNat + 1 by omega]
                  unfold nxN
                  rw [show (3 : Int) - ((3 - w).toNat : Int) = w by omega]
                  first | (rw [if_pos ⟨by omega, by omega, by omega, by omega⟩]; done) | (rw [if_neg (by omega)]; exact hs) | (exfalso; omega) | exact absurd True.intro (by assumption)
                · refine B_X10_march_187 ?_
                  try dsimp only
                  try simp only [m3_z, m3_f, m3_q, u2_m3_z, u2_m3_f, u2_m3_q, Int.reduceToNat]
                  refine ⟨by (refine ⟨?_, ?_⟩ <;> omega), ?_⟩
                  refine ih (w - 1) _ _ _ (by omega) ?_
                  rw [show (3 - (w - 1)).toNat = (3 - w).toNat + 1 by omega]
                  unfold nxN
                  rw [show (3 : Int) - ((3 - w).toNat : Int) = w by omega]
                  first | (rw [if_pos ⟨by omega, by omega, by omega, by omega⟩]; done) | (rw [if_neg (by omega)]; exact hs) | (exfalso; omega) | exact absurd True.intro (by assumption)
theorem C_march {G : amG} {I : Nat → Nat → Int} {z f q : Row} {R : Nat → Nat → Option Nat} {L : Nat → Nat → Int64} {x c t : Nat} {Q : amR → amH → Prop} (hG : amG0 G) (hR : RM R) (hh : wfH z) (hn : wfN z) (ht : wfT z) (hg : wfG z) {k : Int} (hk : 0 ≤ k ∧ k < z 98) (hQ : ∀ f q : Row, Q (Sum.inl none) (m3 I (marchZ z k.toNat) f q, R, L, SH, x, 0, 0)) : CT G sX10_march [aR (some 361), aI k] (m3 I z f q, R, L, SH, x, c, t) Q := by
  refine CT_of ok_X10_march hG (Nat.le_of_ble_eq_true rfl) ?_
  show X G mX10_march Q 0 _ [] (m3 I z f q, R, L, SH, x, 0, 0)
  have hn1 := hn.1
  have hn2 := hn.2
  have hT := ht k.toNat (by omega)
  have hT' := hT
  unfold wfT1 at hT'
  have hg' : (0 ≤ z 96 ∧ z 96 < 96) ∧ (0 ≤ z 97 ∧ z 97 < 96) := hg
  have hgg : isC (z (96 + tf z k.toNat 0).toNat) := by
    rcases (by omega : tf z k.toNat 0 = 0 ∨ tf z k.toNat 0 = 1) with e | e
    · rw [e]; exact hg.1
    · rw [e]; exact hg.2
  have hh' : wfH (m3 I z f q 362) := hh
  have hcc : isC (tf z k.toNat 1) := by unfold isC; omega
  have hgc : isC (tf z k.toNat 3) := by unfold isC; omega
  have hn' : wfN (m3 I z f q 362) := hn
  refine B_X10_march_0 ?_
  try dsimp only
  try simp only [m3_z, m3_f, m3_q, u2_m3_z, u2_m3_f, u2_m3_q, Int.reduceToNat]
  refine ⟨⟨Nat.zero_le _, Nat.zero_le _, Nat.le_of_ble_eq_true rfl⟩, sh361, ?_⟩
  refine C_of hG hR (by omega) (by decide) (fun r hr => ?_)
  have hr : r = tf z k.toNat 1 := hr
  subst hr
  refine af_I0 rfl rfl (by decide) ?_
  try dsimp only
  try simp only [m3_z, m3_f, m3_q, u2_m3_z, u2_m3_f, u2_m3_q, Int.reduceToNat]
  refine B_X10_march_6 ?_
  try dsimp only
  try simp only [m3_z, m3_f, m3_q, u2_m3_z, u2_m3_f, u2_m3_q, Int.reduceToNat]
  refine ⟨⟨Nat.zero_le _, Nat.zero_le _, Nat.le_of_ble_eq_true rfl⟩, sh361, ?_⟩
  refine C_of hG hR (by omega) (by decide) (fun r hr => ?_)
  have hr : r = tf z k.toNat 4 := hr
  subst hr
  refine af_I0 rfl rfl (by decide) ?_
  try dsimp only
  try simp only [m3_z, m3_f, m3_q, u2_m3_z, u2_m3_f, u2_m3_q, Int.reduceToNat]
  refine B_X10_march_13 ?_
  try dsimp only
  try simp only [m3_z, m3_f, m3_q, u2_m3_z, u2_m3_f, u2_m3_q, Int.reduceToNat]
  refine ⟨fun c14_2 => ?_, fun c14_2 => ?_⟩
  · refine B_X10_march_63 ?_
    try dsimp only
    try simp only [m3_z, m3_f, m3_q, u2_m3_z, u2_m3_f, u2_m3_q, Int.reduceToNat]
    refine ⟨⟨Nat.zero_le _, Nat.zero_le _, Nat.le_of_ble_eq_true rfl⟩, sh361, ?_⟩
    refine C_of hG hR (by omega) (by decide) (fun r hr => ?_)
    have hr : r = tf z k.toNat 4 := hr
    subst hr
    refine af_I0 rfl rfl (by decide) ?_
    try dsimp only
    try simp only [m3_z, m3_f, m3_q, u2_m3_z, u2_m3_f, u2_m3_q, Int.reduceToNat]
    refine B_X10_march_69 ?_
    try dsimp only
    try simp only [m3_z, m3_f, m3_q, u2_m3_z, u2_m3_f, u2_m3_q, Int.reduceToNat]
    refine ⟨fun c70_4 => ?_, fun c70_4 => ?_⟩
    · refine B_X10_march_83 ?_
      try dsimp only
      try simp only [m3_z, m3_f, m3_q, u2_m3_z, u2_m3_f, u2_m3_q, Int.reduceToNat]
      refine ⟨rfl, ?_⟩
      have e : marchZ z k.toNat = uz z (99 + 8 * k.toNat + 1) (mvC z k.toNat) := rfl
      have hQ := hQ f q
      rw [e] at hQ
      unfold mvC at hQ
      first
        | (rw [if_pos (by omega), if_pos (by omega)] at hQ; exact hQ)
        | (rw [if_pos (by omega), if_neg (by omega)] at hQ; exact hQ)
        | (rw [if_neg (by omega), if_pos (by omega), uz_self] at hQ; exact hQ)
    · refine ⟨⟨Nat.zero_le _, Nat.zero_le _, Nat.le_of_ble_eq_true rfl⟩, sh361, ?_⟩
      refine C_of hG hR (by omega) (by decide) (fun r hr => ?_)
      have hr : r = tf z k.toNat 3 := hr
      subst hr
      refine af_I0 rfl rfl (by decide) ?_
      try dsimp only
      try simp only [m3_z, m3_f, m3_q, u2_m3_z, u2_m3_f, u2_m3_q, Int.reduceToNat]
      refine B_X10_march_80 ?_
      try dsimp only
      try simp only [m3_z, m3_f, m3_q, u2_m3_z, u2_m3_f, u2_m3_q, Int.reduceToNat]
      refine ⟨fun c80_5 => ?_, fun c80_5 => ?_⟩
      · refine B_X10_march_84 ?_
        try dsimp only
        try simp only [m3_z, m3_f, m3_q, u2_m3_z, u2_m3_f, u2_m3_q, Int.reduceToNat]
        refine ⟨⟨Nat.zero_le _, Nat.zero_le _, Nat.le_of_ble_eq_true rfl⟩, sh361, ?_⟩
        refine C_of hG hR (by omega) (by decide) (fun r hr => ?_)
        have hr : r = tf z k.toNat 3 := hr
        subst hr
        refine af_I0 rfl rfl (by decide) ?_
        try dsimp only
        try simp only [m3_z, m3_f, m3_q, u2_m3_z, u2_m3_f, u2_m3_q, Int.reduceToNat]
        refine B_X10_march_91 ?_
        try dsimp only
        try simp only [m3_z, m3_f, m3_q, u2_m3_z, u2_m3_f, u2_m3_q, Int.reduceToNat]
        refine ⟨⟨Nat.zero_le _, Nat.zero_le _, Nat.le_of_ble_eq_true rfl⟩, sh361, ?_⟩
        refine C_spread hG hR hh hn hgc (fun f2 q2 hd => ?_)
        have hfb : ∀ t : Int, isC t → -1 ≤ f2 t.toNat ∧ f2 t.toNat < 96 := fun t ht => by rcases hd t ht with q | q <;> omega
        have hcg : nxN z f2 (tf z k.toNat 1) 4 = nxN z (dF z (opM z k.toNat) (tf z k.toNat 3)) (tf z k.toNat 1) 4 := nxN_congr hcc (fun t ht => dSp_uniq hd (by rw [show ((k.toNat : Nat) : Int) = k by omega]; exact dF_sp hgc) ht) 4 (by decide)
        refine af_N0 rfl rfl rfl ?_
        try dsimp only
        try simp only [m3_z, m3_f, m3_q, u2_m3_z, u2_m3_f, u2_m3_q, Int.reduceToNat]
        refine B_X10_march_95 ?_
        try dsimp only
        try simp only [m3_z, m3_f, m3_q, u2_m3_z, u2_m3_f, u2_m3_q, Int.reduceToNat]
        refine L_march hG hR hh hn hcc hfb (fun w l5 l6 => ?_) 5 3 _ _ _ (by decide) rfl
        rw [hcg]
        refine B_X10_march_194 ?_
        try dsimp only
        try simp only [m3_z, m3_f, m3_q, u2_m3_z, u2_m3_f, u2_m3_q, Int.reduceToNat]
        refine ⟨fun c199_0 => ?_, fun c199_0 => ?_⟩
        · refine B_X10_march_206 ?_
          try dsimp only
          try simp only [m3_z, m3_f, m3_q, u2_m3_z, u2_m3_f, u2_m3_q, Int.reduceToNat]
          refine B_X10_march_207 ?_
          try dsimp only
          try simp only [m3_z, m3_f, m3_q, u2_m3_z, u2_m3_f, u2_m3_q, Int.reduceToNat]
          refine ⟨⟨Nat.zero_le _, Nat.zero_le _, Nat.le_of_ble_eq_true rfl⟩, sh361, ?_⟩
          refine C_lay hG hR (by omega) (by decide) ?_
          refine af_N0 rfl rfl rfl ?_
          try dsimp only
          try simp only [m3_z, m3_f, m3_q, u2_m3_z, u2_m3_f, u2_m3_q, Int.reduceToNat]
          refine B_X10_march_210 ?_
          try dsimp only
          try simp only [m3_z, m3_f, m3_q, u2_m3_z, u2_m3_f, u2_m3_q, Int.reduceToNat]
          refine ⟨rfl, ?_⟩
          have e : marchZ z k.toNat = uz z (99 + 8 * k.toNat + 1) (mvC z k.toNat) := rfl
          have hQ := hQ f2 q2
          rw [e] at hQ
          unfold mvC at hQ
          rw [if_neg (by omega), if_neg (by omega)] at hQ
          first | (rw [if_pos (by omega)] at hQ; exact hQ) | (rw [if_neg (by omega)] at hQ; exact hQ)
        · refine B_X10_march_207 ?_
          try dsimp only
          try simp only [m3_z, m3_f, m3_q, u2_m3_z, u2_m3_f, u2_m3_q, Int.reduceToNat]
          refine ⟨⟨Nat.zero_le _, Nat.zero_le _, Nat.le_of_ble_eq_true rfl⟩, sh361, ?_⟩
          refine C_lay hG hR (by omega) (by decide) ?_
          refine af_N0 rfl rfl rfl ?_
          try dsimp only
          try simp only [m3_z, m3_f, m3_q, u2_m3_z, u2_m3_f, u2_m3_q, Int.reduceToNat]
          refine B_X10_march_210 ?_
          try dsimp only
          try simp only [m3_z, m3_f, m3_q, u2_m3_z, u2_m3_f, u2_m3_q, Int.reduceToNat]
          refine ⟨rfl, ?_⟩
          have e : marchZ z k.toNat = uz z (99 + 8 * k.toNat + 1) (mvC z k.toNat) := rfl
          have hQ := hQ f2 q2
          rw [e] at hQ
          unfold mvC at hQ
          rw [if_neg (by omega), if_neg (by omega)] at hQ
          first | (rw [if_pos (by omega)] at hQ; exact hQ) | (rw [if_neg (by omega)] at hQ; exact hQ)
      · refine B_X10_march_83 ?_
        try dsimp only
        try simp only [m3_z, m3_f, m3_q, u2_m3_z, u2_m3_f, u2_m3_q, Int.reduceToNat]
        refine ⟨rfl, ?_⟩
        have e : marchZ z k.toNat = uz z (99 + 8 * k.toNat + 1) (mvC z k.toNat) := rfl
        have hQ := hQ f q
        rw [e] at hQ
        unfold mvC at hQ
        first
          | (rw [if_pos (by omega), if_pos (by omega)] at hQ; exact hQ)
          | (rw [if_pos (by omega), if_neg (by omega)] at hQ; exact hQ)
          | (rw [if_neg (by omega), if_pos (by omega), uz_self] at hQ; exact hQ)
  · refine ⟨⟨Nat.zero_le _, Nat.zero_le _, Nat.le_of_ble_eq_true rfl⟩, sh361, ?_⟩
    refine C_of hG hR (by omega) (by decide) (fun r hr => ?_)
    have hr : r = tf z k.toNat 0 := hr
    subst hr
    refine af_I0 rfl rfl (by decide) ?_
    try dsimp only
    try simp only [m3_z, m3_f, m3_q, u2_m3_z, u2_m3_f, u2_m3_q, Int.reduceToNat]
    refine B_X10_march_25 ?_
    try dsimp only
    try simp only [m3_z, m3_f, m3_q, u2_m3_z, u2_m3_f, u2_m3_q, Int.reduceToNat]
    refine ⟨fun c25_3 => ?_, fun c25_3 => ?_⟩
    · refine B_X10_march_32 ?_
      try dsimp only
      try simp only [m3_z, m3_f, m3_q, u2_m3_z, u2_m3_f, u2_m3_q, Int.reduceToNat]
      refine B_X10_march_33 ?_
      try dsimp only
      try simp only [m3_z, m3_f, m3_q, u2_m3_z, u2_m3_f, u2_m3_q, Int.reduceToNat]
      refine ⟨⟨Nat.zero_le _, Nat.zero_le _, Nat.le_of_ble_eq_true rfl⟩, sh361, ?_⟩
      refine C_stepTo hG hR hh' hcc (by decide) (fun r hr => ?_)
      first | have hr : r = stT z (tf z k.toNat 1) (if tf z k.toNat 0 = 0 then 3 else 1) := by rw [if_pos (by omega)]; exact hr | have hr : r = stT z (tf z k.toNat 1) (if tf z k.toNat 0 = 0 then 3 else 1) := by rw [if_neg (by omega)]; exact hr
      subst hr
      refine af_I0 rfl rfl (by decide) ?_
      try dsimp only
      try simp only [m3_z, m3_f, m3_q, u2_m3_z, u2_m3_f, u2_m3_q, Int.reduceToNat]
      refine B_X10_march_36 ?_
      try dsimp only
      try simp only [m3_z, m3_f, m3_q, u2_m3_z, u2_m3_f, u2_m3_q, Int.reduceToNat]
      refine ⟨fun c42_6 => ?_, fun c42_6 => ?_⟩
      · refine B_X10_march_58 ?_
        try dsimp only
        try simp only [m3_z, m3_f, m3_q, u2_m3_z, u2_m3_f, u2_m3_q, Int.reduceToNat]
        refine B_X10_march_59 ?_
        try dsimp only
        try simp only [m3_z, m3_f, m3_q, u2_m3_z, u2_m3_f, u2_m3_q, Int.reduceToNat]
        refine ⟨⟨Nat.zero_le _, Nat.zero_le _, Nat.le_of_ble_eq_true rfl⟩, sh361, ?_⟩
        refine C_lay hG hR (by omega) (by decide) ?_
        refine af_N0 rfl rfl rfl ?_
        try dsimp only
        try simp only [m3_z, m3_f, m3_q, u2_m3_z, u2_m3_f, u2_m3_q, Int.reduceToNat]
        refine B_X10_march_62 ?_
        try dsimp only
        try simp only [m3_z, m3_f, m3_q, u2_m3_z, u2_m3_f, u2_m3_q, Int.reduceToNat]
        refine ⟨rfl, ?_⟩
        have e : marchZ z k.toNat = uz z (99 + 8 * k.toNat + 1) (mvC z k.toNat) := rfl
        have hQ := hQ f q
        rw [e] at hQ
        unfold mvC at hQ
        first
          | (rw [if_pos (by omega), if_pos (by omega)] at hQ; exact hQ)
          | (rw [if_pos (by omega), if_neg (by omega)] at hQ; exact hQ)
          | (rw [if_neg (by omega), if_pos (by omega), uz_self] at hQ; exact hQ)
      · refine ⟨⟨Nat.zero_le _, Nat.zero_le _, Nat.le_of_ble_eq_true rfl⟩, sh361, ?_⟩
        refine C_troopAt hG hR hn' (fun r2 hr2 => ?_)
        have hr2 : r2 = tAt z (stT z (tf z k.toNat 1) (if tf z k.toNat 0 = 0 then 3 else 1)) := hr2
        subst hr2
        refine af_I0 rfl rfl (by decide) ?_
        try dsimp only
        try simp only [m3_z, m3_f, m3_q, u2_m3_z, u2_m3_f, u2_m3_q, Int.reduceToNat]
        refine B_X10_march_50 ?_
        try dsimp only
        try simp only [m3_z, m3_f, m3_q, u2_m3_z, u2_m3_f, u2_m3_q, Int.reduceToNat]
        refine ⟨fun c51_7 => ?_, fun c51_7 => ?_⟩
        · refine B_X10_march_58 ?_
          try dsimp only
          try simp only [m3_z, m3_f, m3_q, u2_m3_z, u2_m3_f, u2_m3_q, Int.reduceToNat]
          refine B_X10_march_59 ?_
          try dsimp only
          try simp only [m3_z, m3_f, m3_q, u2_m3_z, u2_m3_f, u2_m3_q, Int.reduceToNat]
          refine ⟨⟨Nat.zero_le _, Nat.zero_le _, Nat.le_of_ble_eq_true rfl⟩, sh361, ?_⟩
          refine C_lay hG hR (by omega) (by decide) ?_
          refine af_N0 rfl rfl rfl ?_
          try dsimp only
          try simp only [m3_z, m3_f, m3_q, u2_m3_z, u2_m3_f, u2_m3_q, Int.reduceToNat]
          refine B_X10_march_62 ?_
          try dsimp only
          try simp only [m3_z, m3_f, m3_q, u2_m3_z, u2_m3_f, u2_m3_q, Int.reduceToNat]
          refine ⟨rfl, ?_⟩
          have e : marchZ z k.toNat = uz z (99 + 8 * k.toNat + 1) (mvC z k.toNat) := rfl
          have hQ := hQ f q
          rw [e] at hQ
          unfold mvC at hQ
          first
            | (rw [if_pos (by omega), if_pos (by omega)] at hQ; exact hQ)
            | (rw [if_pos (by omega), if_neg (by omega)] at hQ; exact hQ)
            | (rw [if_neg (by omega), if_pos (by omega), uz_self] at hQ; exact hQ)
        · refine B_X10_march_59 ?_
          try dsimp only
          try simp only [m3_z, m3_f, m3_q, u2_m3_z, u2_m3_f, u2_m3_q, Int.reduceToNat]
          refine ⟨⟨Nat.zero_le _, Nat.zero_le _, Nat.le_of_ble_eq_true rfl⟩, sh361, ?_⟩
          refine C_lay hG hR (by omega) (by decide) ?_
          refine af_N0 rfl rfl rfl ?_
          try dsimp only
          try simp only [m3_z, m3_f, m3_q, u2_m3_z, u2_m3_f, u2_m3_q, Int.reduceToNat]
          refine B_X10_march_62 ?_
          try dsimp only
          try simp only [m3_z, m3_f, m3_q, u2_m3_z, u2_m3_f, u2_m3_q, Int.reduceToNat]
          refine ⟨rfl, ?_⟩
          have e : marchZ z k.toNat = uz z (99 + 8 * k.toNat + 1) (mvC z k.toNat) := rfl
          have hQ := hQ f q
          rw [e] at hQ
          unfold mvC at hQ
          first
            | (rw [if_pos (by omega), if_pos (by omega)] at hQ; exact hQ)
            | (rw [if_pos (by omega), if_neg (by omega)] at hQ; exact hQ)
            | (rw [if_neg (by omega), if_pos (by omega), uz_self] at hQ; exact hQ)
    · refine B_X10_march_33 ?_
      try dsimp only
      try simp only [m3_z, m3_f, m3_q, u2_m3_z, u2_m3_f, u2_m3_q, Int.reduceToNat]
      refine ⟨⟨Nat.zero_le _, Nat.zero_le _, Nat.le_of_ble_eq_true rfl⟩, sh361, ?_⟩
      refine C_stepTo hG hR hh' hcc (by decide) (fun r hr => ?_)
      first | have hr : r = stT z (tf z k.toNat 1) (if tf z k.toNat 0 = 0 then 3 else 1) := by rw [if_pos (by omega)]; exact hr | have hr : r = stT z (tf z k.toNat 1) (if tf z k.toNat 0 = 0 then 3 else 1) := by rw [if_neg (by omega)]; exact hr
      subst hr
      refine af_I0 rfl rfl (by decide) ?_
      try dsimp only
      try simp only [m3_z, m3_f, m3_q, u2_m3_z, u2_m3_f, u2_m3_q, Int.reduceToNat]
      refine B_X10_march_36 ?_
      try dsimp only
      try simp only [m3_z, m3_f, m3_q, u2_m3_z, u2_m3_f, u2_m3_q, Int.reduceToNat]
      refine ⟨fun c42_5 => ?_, fun c42_5 => ?_⟩
      · refine B_X10_march_58 ?_
        try dsimp only
        try simp only [m3_z, m3_f, m3_q, u2_m3_z, u2_m3_f, u2_m3_q, Int.reduceToNat]
        refine B_X10_march_59 ?_
        try dsimp only
        try simp only [m3_z, m3_f, m3_q, u2_m3_z, u2_m3_f, u2_m3_q, Int.reduceToNat]
        refine ⟨⟨Nat.zero_le _, Nat.zero_le _, Nat.le_of_ble_eq_true rfl⟩, sh361, ?_⟩
        refine C_lay hG hR (by omega) (by decide) ?_
        refine af_N0 rfl rfl rfl ?_
        try dsimp only
        try simp only [m3_z, m3_f, m3_q, u2_m3_z, u2_m3_f, u2_m3_q, Int.reduceToNat]
        refine B_X10_march_62 ?_
        try dsimp only
        try simp only [m3_z, m3_f, m3_q, u2_m3_z, u2_m3_f, u2_m3_q, Int.reduceToNat]
        refine ⟨rfl, ?_⟩
        have e : marchZ z k.toNat = uz z (99 + 8 * k.toNat + 1) (mvC z k.toNat) := rfl
        have hQ := hQ f q
        rw [e] at hQ
        unfold mvC at hQ
        first
          | (rw [if_pos (by omega), if_pos (by omega)] at hQ; exact hQ)
          | (rw [if_pos (by omega), if_neg (by omega)] at hQ; exact hQ)
          | (rw [if_neg (by omega), if_pos (by omega), uz_self] at hQ; exact hQ)
      · refine ⟨⟨Nat.zero_le _, Nat.zero_le _, Nat.le_of_ble_eq_true rfl⟩, sh361, ?_⟩
        refine C_troopAt hG hR hn' (fun r2 hr2 => ?_)
        have hr2 : r2 = tAt z (stT z (tf z k.toNat 1) (if tf z k.toNat 0 = 0 then 3 else 1)) := hr2
        subst hr2
        refine af_I0 rfl rfl (by decide) ?_
        try dsimp only
        try simp only [m3_z, m3_f, m3_q, u2_m3_z, u2_m3_f, u2_m3_q, Int.reduceToNat]
        refine B_X10_march_50 ?_
        try dsimp only
        try simp only [m3_z, m3_f, m3_q, u2_m3_z, u2_m3_f, u2_m3_q, Int.reduceToNat]
        refine ⟨fun c51_6 => ?_, fun c51_6 => ?_⟩
        · refine B_X10_march_58 ?_
          try dsimp only
          try simp only [m3_z, m3_f, m3_q, u2_m3_z, u2_m3_f, u2_m3_q, Int.reduceToNat]
          refine B_X10_march_59 ?_
          try dsimp only
          try simp only [m3_z, m3_f, m3_q, u2_m3_z, u2_m3_f, u2_m3_q, Int.reduceToNat]
          refine ⟨⟨Nat.zero_le _, Nat.zero_le _, Nat.le_of_ble_eq_true rfl⟩, sh361, ?_⟩
          refine C_lay hG hR (by omega) (by decide) ?_
          refine af_N0 rfl rfl rfl ?_
          try dsimp only
          try simp only [m3_z, m3_f, m3_q, u2_m3_z, u2_m3_f, u2_m3_q, Int.reduceToNat]
          refine B_X10_march_62 ?_
          try dsimp only
          try simp only [m3_z, m3_f, m3_q, u2_m3_z, u2_m3_f, u2_m3_q, Int.reduceToNat]
          refine ⟨rfl, ?_⟩
          have e : marchZ z k.toNat = uz z (99 + 8 * k.toNat + 1) (mvC z k.toNat) := rfl
          have hQ := hQ f q
          rw [e] at hQ
          unfold mvC at hQ
          first
            | (rw [if_pos (by omega), if_pos (by omega)] at hQ; exact hQ)
            | (rw [if_pos (by omega), if_neg (by omega)] at hQ; exact hQ)
            | (rw [if_neg (by omega), if_pos (by omega), uz_self] at hQ; exact hQ)
        · refine B_X10_march_59 ?_
          try dsimp only
          try simp only [m3_z, m3_f, m3_q, u2_m3_z, u2_m3_f, u2_m3_q, Int.reduceToNat]
          refine ⟨⟨Nat.zero_le _, Nat.zero_le _, Nat.le_of_ble_eq_true rfl⟩, sh361, ?_⟩
          refine C_lay hG hR (by omega) (by decide) ?_
          refine af_N0 rfl rfl rfl ?_
          try dsimp only
          try simp only [m3_z, m3_f, m3_q, u2_m3_z, u2_m3_f, u2_m3_q, Int.reduceToNat]
          refine B_X10_march_62 ?_
          try dsimp only
          try simp only [m3_z, m3_f, m3_q, u2_m3_z, u2_m3_f, u2_m3_q, Int.reduceToNat]
          refine ⟨rfl, ?_⟩
          have e : marchZ z k.toNat = uz z (99 + 8 * k.toNat + 1) (mvC z k.toNat) := rfl
          have hQ := hQ f q
          rw [e] at hQ
          unfold mvC at hQ
          first
            | (rw [if_pos (by omega), if_pos (by omega)] at hQ; exact hQ)
            | (rw [if_pos (by omega), if_neg (by omega)] at hQ; exact hQ)
            | (rw [if_neg (by omega), if_pos (by omega), uz_self] at hQ; exact hQ)
