/-! ===== the law: a turn: all fight, all settle ===== -/
theorem fA_facts {z : Row} (hb : wfB z) (n : Nat) : wfT (fA z n) ∧ wfU (fA z n) ∧ fA z n 98 = z 98 ∧ wfN (fA z n) := by
  have h := fA_inv (z := z) n
  have e98 := fA_N (z := z) n
  refine ⟨fA_T hb.2.2.1 hb.2.1 n, wfU_of e98 (fun l _ => h.2.1 l 1 (by decide) (by decide)) (fun l _ q => by rw [← h.2.1 l 4 (by decide) (by decide)]; exact q) hb.2.2.2.1, e98, ?_⟩
  unfold wfN
  rw [e98]
  exact hb.2.1
theorem lf_ls2 {z : Row} (hu : wfU z) (h0 : 0 ≤ z 98) (ht : ∀ k : Nat, (k : Int) < z 98 → inL (tf z k 1)) {k : Nat} (hk : (k : Int) < z 98) : lfN z k (z 98).toNat = lsN z k 4 := by
  rw [ls_is, lf_is hu ht hk _ (by omega)]
theorem loss_is {z : Row} (hu : wfU z) (h0 : 0 ≤ z 98) (ht : ∀ k : Nat, (k : Int) < z 98 → inL (tf z k 1)) {k : Nat} (hk : (k : Int) < z 98) : lossZ z k = (if tf z k 4 = 2 then 0 else if tf z k 2 < lfN z k (z 98).toNat then tf z k 2 else lfN z k (z 98).toNat) := by
  unfold lossZ
  rw [lf_ls2 hu h0 ht hk]
  repeat' split
  all_goals omega
theorem KT_sum {G : amG} {I : Nat → Nat → Int} {R : Nat → Nat → Option Nat} {L : Nat → Nat → Int64} {S : List (Nat × Nat)} {c t : Nat} {Q : amR → amH → Prop} (hG : amG0 G) {aT aO aD N : Nat} (hH : LH S aT aO aD) (hA : LA aT aO aD) {aF : Nat} {lf : Int} {J : Nat → Nat → Int} {y : Row} {k : Int} (hZ : LQ N aT aO aD I J y) (ht : wfT y) (hk : 0 ≤ k ∧ k < y 98) (hK : ∀ (s j : Int) (o9 o10 : Option amV), s = lfN y k.toNat (y 98).toNat → X G mL_turn Q 509 [some (aR (some 361)), some (aR (some aT)), some (aR (some aO)), some (aR (some aD)), some (aI lf), some (aR (some aF)), some (aI k), some (aI s), some (aI j), o9, o10] [] (J, R, L, S, 0, c, t)) :
    ∀ (n : Nat) (s j : Int) (o9 o10 : Option amV), 0 ≤ j → (y 98 - j < n ∧ j ≤ y 98) → s = lfN y k.toNat j.toNat → X G mL_turn Q 386 [some (aR (some 361)), some (aR (some aT)), some (aR (some aO)), some (aR (some aD)), some (aI lf), some (aR (some aF)), some (aI k), some (aI s), some (aI j), o9, o10] [] (J, R, L, S, 0, c, t) := by
  intro n
  induction n with
  | zero =>
    intros
    exfalso; omega
  | succ n ih =>
    intro s j o9 o10 h0 hj hs
    have hZn := hZ.1.n
    have hkL := hZ.1.t.c hk.1 hk.2
    have hk8 := sm_in hkL
    have hk9 := hk8
    unfold is8 at hk9
    have hlb := lfN_b y k.toNat j.toNat
    have hls := lfN_s y k.toNat j.toNat
    have tdk : Int.tdiv (s8 (tf y k.toNat 1)) 8 = s8 (tf y k.toNat 1) / 8 := Int.tdiv_eq_ediv_of_nonneg hk9.1
    have tmk : Int.tmod (s8 (tf y k.toNat 1)) 8 = s8 (tf y k.toNat 1) % 8 := Int.tmod_eq_emod_of_nonneg hk9.1
    refine B_L_turn_386 ?_
    try dsimp only
    try simp (disch := omega) only [hZ.1.d.n, hZ.1.t.e0, hZ.1.t.e1, hZ.1.t.e2, hZ.1.t.e3, hZ.1.t.e4, hZ.1.t.e5, hZ.1.t.e6]
    refine ⟨_, by first | exact hH.2.1 | exact hH.2.2.2 | exact hH.1, ⟨by omega, by omega⟩, ?_⟩
    try simp (disch := omega) only [hZ.1.d.n, hZ.1.t.e0, hZ.1.t.e1, hZ.1.t.e2, hZ.1.t.e3, hZ.1.t.e4, hZ.1.t.e5, hZ.1.t.e6]
    refine ⟨fun c391_0 => ?_, fun c391_0 => ?_⟩
    · refine hK s j _ _ ?_
      rw [hs]
      congr 1
      omega
    · have hjL := hZ.1.t.c h0 (by omega : j < y 98)
      have hj8 := sm_in hjL
      have hj9 := hj8
      unfold is8 at hj9
      have hab : ∀ v : Int, ab v = if v < 0 then -v else v := fun v => rfl
      have ejh := (hZ.1.h.1 _ hj8).1
      have ekh := (hZ.1.h.1 _ hk8).1
      rw [bg_sm hjL] at ejh
      rw [bg_sm hkL] at ekh
      have tdj : Int.tdiv (s8 (tf y j.toNat 1)) 8 = s8 (tf y j.toNat 1) / 8 := Int.tdiv_eq_ediv_of_nonneg hj9.1
      have tmj : Int.tmod (s8 (tf y j.toNat 1)) 8 = s8 (tf y j.toNat 1) % 8 := Int.tmod_eq_emod_of_nonneg hj9.1
      refine ⟨by (refine ⟨?_, ?_⟩ <;> omega), ?_⟩
      refine ⟨by (refine ⟨?_, ?_⟩ <;> omega), ?_⟩
      refine ⟨_, by first | exact hH.2.1 | exact hH.2.2.2 | exact hH.1, ⟨by omega, by omega⟩, ?_⟩
      try simp (disch := omega) only [hZ.1.d.n, hZ.1.t.e0, hZ.1.t.e1, hZ.1.t.e2, hZ.1.t.e3, hZ.1.t.e4, hZ.1.t.e5, hZ.1.t.e6]
      refine ⟨by (refine ⟨?_, ?_⟩ <;> omega), ?_⟩
      refine ⟨by (refine ⟨?_, ?_⟩ <;> omega), ?_⟩
      refine ⟨_, by first | exact hH.2.1 | exact hH.2.2.2 | exact hH.1, ⟨by omega, by omega⟩, ?_⟩
      try simp (disch := omega) only [hZ.1.d.n, hZ.1.t.e0, hZ.1.t.e1, hZ.1.t.e2, hZ.1.t.e3, hZ.1.t.e4, hZ.1.t.e5, hZ.1.t.e6]
      refine ⟨by (refine ⟨?_, ?_⟩ <;> omega), ?_⟩
      refine ⟨by (refine ⟨?_, ?_⟩ <;> omega), ?_⟩
      refine ⟨_, by first | exact hH.2.1 | exact hH.2.2.2 | exact hH.1, ⟨by omega, by omega⟩, ?_⟩
      try simp (disch := omega) only [hZ.1.d.n, hZ.1.t.e0, hZ.1.t.e1, hZ.1.t.e2, hZ.1.t.e3, hZ.1.t.e4, hZ.1.t.e5, hZ.1.t.e6]
      refine ⟨fun c426_0 => ?_, fun c426_0 => ?_⟩
      · refine B_L_turn_503 ?_
        try dsimp only
        refine ⟨by (refine ⟨?_, ?_⟩ <;> omega), ?_⟩
        refine ih _ (j + 1) _ _ (by omega) (by omega) ?_
        rw [show (j + 1).toNat = j.toNat + 1 by omega, hls, hs]
        first
          | (rw [if_neg (by omega)]; omega)
          | (rw [if_pos (by omega), if_pos (by omega)])
          | (rw [if_pos (by omega), if_neg (by omega)])
      · refine ⟨by (refine ⟨?_, ?_⟩ <;> omega), ?_⟩
        refine ⟨_, by first | exact hH.2.1 | exact hH.2.2.2 | exact hH.1, ⟨by omega, by omega⟩, ?_⟩
        try simp (disch := omega) only [hZ.1.d.n, hZ.1.t.e0, hZ.1.t.e1, hZ.1.t.e2, hZ.1.t.e3, hZ.1.t.e4, hZ.1.t.e5, hZ.1.t.e6]
        refine ⟨by (refine ⟨?_, ?_⟩ <;> omega), ?_⟩
        refine ⟨_, by first | exact hH.2.1 | exact hH.2.2.2 | exact hH.1, ⟨by omega, by omega⟩, ?_⟩
        try simp (disch := omega) only [hZ.1.d.n, hZ.1.t.e0, hZ.1.t.e1, hZ.1.t.e2, hZ.1.t.e3, hZ.1.t.e4, hZ.1.t.e5, hZ.1.t.e6]
        refine ⟨fun c443_0 => ?_, fun c443_0 => ?_⟩
        · refine B_L_turn_503 ?_
          try dsimp only
          refine ⟨by (refine ⟨?_, ?_⟩ <;> omega), ?_⟩
          refine ih _ (j + 1) _ _ (by omega) (by omega) ?_
          rw [show (j + 1).toNat = j.toNat + 1 by omega, hls, hs]
          first
            | (rw [if_neg (by omega)]; omega)
            | (rw [if_pos (by omega), if_pos (by omega)])
            | (rw [if_pos (by omega), if_neg (by omega)])
        · rw [tmk, tmj]
          refine ⟨⟨by decide, by (refine ⟨?_, ?_⟩ <;> omega)⟩, ?_⟩
          refine ⟨⟨by decide, by (refine ⟨?_, ?_⟩ <;> omega)⟩, ?_⟩
          refine ⟨by (refine ⟨?_, ?_⟩ <;> omega), ?_⟩
          refine ⟨⟨Nat.zero_le _, Nat.zero_le _, Nat.le_of_ble_eq_true rfl⟩, trivial, ?_⟩
          refine K_abs hG (by omega) ?_
          refine af_I0 rfl rfl (by decide) ?_
          try dsimp only
          try simp (disch := omega) only [hZ.1.d.n, hZ.1.t.e0, hZ.1.t.e1, hZ.1.t.e2, hZ.1.t.e3, hZ.1.t.e4, hZ.1.t.e5, hZ.1.t.e6]
          refine B_L_turn_460 ?_
          try dsimp only
          try simp (disch := omega) only [hZ.1.d.n, hZ.1.t.e0, hZ.1.t.e1, hZ.1.t.e2, hZ.1.t.e3, hZ.1.t.e4, hZ.1.t.e5, hZ.1.t.e6]
          rw [tdk, tdj]
          refine ⟨⟨by decide, by (refine ⟨?_, ?_⟩ <;> omega)⟩, ?_⟩
          refine ⟨⟨by decide, by (refine ⟨?_, ?_⟩ <;> omega)⟩, ?_⟩
          refine ⟨by (refine ⟨?_, ?_⟩ <;> omega), ?_⟩
          refine ⟨⟨Nat.zero_le _, Nat.zero_le _, Nat.le_of_ble_eq_true rfl⟩, trivial, ?_⟩
          refine K_abs hG (by omega) ?_
          refine af_I0 rfl rfl (by decide) ?_
          try dsimp only
          try simp (disch := omega) only [hZ.1.d.n, hZ.1.t.e0, hZ.1.t.e1, hZ.1.t.e2, hZ.1.t.e3, hZ.1.t.e4, hZ.1.t.e5, hZ.1.t.e6]
          refine B_L_turn_474 ?_
          try dsimp only
          try simp (disch := omega) only [hZ.1.d.n, hZ.1.t.e0, hZ.1.t.e1, hZ.1.t.e2, hZ.1.t.e3, hZ.1.t.e4, hZ.1.t.e5, hZ.1.t.e6]
          have a1 := hab (s8 (tf y k.toNat 1) % 8 - s8 (tf y j.toNat 1) % 8)
          have a2 := hab (s8 (tf y k.toNat 1) / 8 - s8 (tf y j.toNat 1) / 8)
          refine ⟨by (refine ⟨?_, ?_⟩ <;> omega), ?_⟩
          refine ⟨fun c476_2 => ?_, fun c476_2 => ?_⟩
          · refine B_L_turn_482 ?_
            try dsimp only
            try simp (disch := omega) only [hZ.1.d.n, hZ.1.t.e0, hZ.1.t.e1, hZ.1.t.e2, hZ.1.t.e3, hZ.1.t.e4, hZ.1.t.e5, hZ.1.t.e6]
            refine ⟨_, by first | exact hH.2.1 | exact hH.2.2.2 | exact hH.1, ⟨by omega, by omega⟩, ?_⟩
            try simp (disch := omega) only [hZ.1.d.n, hZ.1.t.e0, hZ.1.t.e1, hZ.1.t.e2, hZ.1.t.e3, hZ.1.t.e4, hZ.1.t.e5, hZ.1.t.e6]
            refine ⟨_, by first | exact hH.2.1 | exact hH.2.2.2 | exact hH.1, ⟨by omega, by omega⟩, ?_⟩
            try simp (disch := omega) only [hZ.1.d.n, hZ.1.t.e0, hZ.1.t.e1, hZ.1.t.e2, hZ.1.t.e3, hZ.1.t.e4, hZ.1.t.e5, hZ.1.t.e6]
            refine ⟨fun c492_3 => ?_, fun c492_3 => ?_⟩
            · refine B_L_turn_499 ?_
              try dsimp only
              try simp (disch := omega) only [hZ.1.d.n, hZ.1.t.e0, hZ.1.t.e1, hZ.1.t.e2, hZ.1.t.e3, hZ.1.t.e4, hZ.1.t.e5, hZ.1.t.e6]
              refine B_L_turn_500 ?_
              try dsimp only
              try simp (disch := omega) only [hZ.1.d.n, hZ.1.t.e0, hZ.1.t.e1, hZ.1.t.e2, hZ.1.t.e3, hZ.1.t.e4, hZ.1.t.e5, hZ.1.t.e6]
              refine ⟨by (refine ⟨?_, ?_⟩ <;> omega), ?_⟩
              refine B_L_turn_503 ?_
              try dsimp only
              refine ⟨by (refine ⟨?_, ?_⟩ <;> omega), ?_⟩
              refine ih _ (j + 1) _ _ (by omega) (by omega) ?_
              rw [show (j + 1).toNat = j.toNat + 1 by omega, hls, hs]
              first
                | (rw [if_neg (by omega)]; omega)
                | (rw [if_pos (by omega), if_pos (by omega)])
                | (rw [if_pos (by omega), if_neg (by omega)])
            · refine B_L_turn_500 ?_
              try dsimp only
              try simp (disch := omega) only [hZ.1.d.n, hZ.1.t.e0, hZ.1.t.e1, hZ.1.t.e2, hZ.1.t.e3, hZ.1.t.e4, hZ.1.t.e5, hZ.1.t.e6]
              refine ⟨by (refine ⟨?_, ?_⟩ <;> omega), ?_⟩
              refine B_L_turn_503 ?_
              try dsimp only
              refine ⟨by (refine ⟨?_, ?_⟩ <;> omega), ?_⟩
              refine ih _ (j + 1) _ _ (by omega) (by omega) ?_
              rw [show (j + 1).toNat = j.toNat + 1 by omega, hls, hs]
              first
                | (rw [if_neg (by omega)]; omega)
                | (rw [if_pos (by omega), if_pos (by omega)])
                | (rw [if_pos (by omega), if_neg (by omega)])
          · refine B_L_turn_503 ?_
            try dsimp only
            refine ⟨by (refine ⟨?_, ?_⟩ <;> omega), ?_⟩
            refine ih _ (j + 1) _ _ (by omega) (by omega) ?_
            rw [show (j + 1).toNat = j.toNat + 1 by omega, hls, hs]
            first
              | (rw [if_neg (by omega)]; omega)
              | (rw [if_pos (by omega), if_pos (by omega)])
              | (rw [if_pos (by omega), if_neg (by omega)])
theorem KT_loss {G : amG} {I : Nat → Nat → Int} {R : Nat → Nat → Option Nat} {L : Nat → Nat → Int64} {S : List (Nat × Nat)} {c t : Nat} {Q : amR → amH → Prop} (hG : amG0 G) {aT aO aD N : Nat} (hH : LH S aT aO aD) (hA : LA aT aO aD) {aF : Nat} {lf : Int} {z : Row} (hbz : wfB z) (hK : ∀ (J : Nat → Nat → Int) (k : Int) (o7 o8 o9 o10 : Option amV), LQ N aT aO aD I J (fA z (z 98).toNat) → X G mL_turn Q 570 [some (aR (some 361)), some (aR (some aT)), some (aR (some aO)), some (aR (some aD)), some (aI lf), some (aR (some aF)), some (aI k), o7, o8, o9, o10] [] (J, R, L, S, 0, c, t)) :
    ∀ (n : Nat) (J : Nat → Nat → Int) (y : Row) (k : Int) (o7 o8 o9 o10 : Option amV), 0 ≤ k → (z 98 - k < n ∧ k ≤ z 98) → y = fA z k.toNat → LQ N aT aO aD I J y → X G mL_turn Q 372 [some (aR (some 361)), some (aR (some aT)), some (aR (some aO)), some (aR (some aD)), some (aI lf), some (aR (some aF)), some (aI k), o7, o8, o9, o10] [] (J, R, L, S, 0, c, t) := by
  intro n
  induction n with
  | zero =>
    intros
    exfalso; omega
  | succ n ih =>
    intro J y k o7 o8 o9 o10 h0 hk hy hZ
    have hf := fA_facts hbz k.toNat
    rw [← hy] at hf
    obtain ⟨ht, hu, e98, hn⟩ := hf
    have hZn := hZ.1.n
    refine B_L_turn_372 ?_
    try dsimp only
    try simp (disch := omega) only [hZ.1.d.n, hZ.1.t.e0, hZ.1.t.e1, hZ.1.t.e2, hZ.1.t.e3, hZ.1.t.e4, hZ.1.t.e5, hZ.1.t.e6]
    refine ⟨_, by first | exact hH.2.1 | exact hH.2.2.2, ⟨by omega, by omega⟩, ?_⟩
    try simp (disch := omega) only [hZ.1.d.n, hZ.1.t.e0, hZ.1.t.e1, hZ.1.t.e2, hZ.1.t.e3, hZ.1.t.e4, hZ.1.t.e5, hZ.1.t.e6]
    refine ⟨fun c377_0 => ?_, fun c377_0 => ?_⟩
    · have e : k.toNat = (z 98).toNat := by omega
      rw [hy, e] at hZ
      exact hK J k _ _ _ _ hZ
    · refine KT_sum hG hH hA (y := y) (k := k) hZ ht ⟨h0, by omega⟩ (fun s j p9 p10 hs => ?_) 8 0 0 _ _ (by decide) ⟨by omega, by omega⟩ rfl
      have hlt : k < y 98 := by omega
      have hw : wfT1 y k.toNat := ht k.toNat (by omega)
      unfold wfT1 at hw
      have hlo := loss_is hu (by omega) (fun m hm => by have := hZ.1.t.c (k := (m : Int)) (by omega) hm; rw [Int.toNat_natCast] at this; exact this) (k := k.toNat) (by omega)
      rw [← hs] at hlo
      have hnx : ∀ (v : Int), v = lossZ y k.toNat → LQ N aT aO aD I (u2 J aT (8 * k + 6).toNat v) (fA z (k + 1).toNat) := fun v hv => by
        rw [show (k + 1).toNat = k.toNat + 1 by omega, fA_s, ← hy, hv]
        exact LQ_wn hA hZ ⟨h0, hlt⟩ 6 (by decide) (by omega) _
      refine B_L_turn_509 ?_
      try dsimp only
      try simp (disch := omega) only [hZ.1.d.n, hZ.1.t.e0, hZ.1.t.e1, hZ.1.t.e2, hZ.1.t.e3, hZ.1.t.e4, hZ.1.t.e5, hZ.1.t.e6]
      refine ⟨by (refine ⟨?_, ?_⟩ <;> omega), ?_⟩
      refine ⟨by (refine ⟨?_, ?_⟩ <;> omega), ?_⟩
      refine ⟨by (refine ⟨?_, ?_⟩ <;> omega), ?_⟩
      refine ⟨by (refine ⟨?_, ?_⟩ <;> omega), ?_⟩
      refine ⟨_, hH.2.1, ⟨by omega, by omega⟩, ?_⟩
      try simp (disch := omega) only [hZ.1.d.n, hZ.1.t.e0, hZ.1.t.e1, hZ.1.t.e2, hZ.1.t.e3, hZ.1.t.e4, hZ.1.t.e5, hZ.1.t.e6]
      refine ⟨fun c528_0 => ?_, fun c528_0 => ?_⟩
      · refine B_L_turn_535 ?_
        try dsimp only
        try simp (disch := omega) only [hZ.1.d.n, hZ.1.t.e0, hZ.1.t.e1, hZ.1.t.e2, hZ.1.t.e3, hZ.1.t.e4, hZ.1.t.e5, hZ.1.t.e6]
        refine ⟨by (refine ⟨?_, ?_⟩ <;> omega), ?_⟩
        refine ⟨by (refine ⟨?_, ?_⟩ <;> omega), ?_⟩
        refine ⟨_, hH.2.1, ⟨by omega, by omega⟩, ?_⟩
        try simp (disch := omega) only [hZ.1.d.n, hZ.1.t.e0, hZ.1.t.e1, hZ.1.t.e2, hZ.1.t.e3, hZ.1.t.e4, hZ.1.t.e5, hZ.1.t.e6]
        refine ⟨fun c546_1 => ?_, fun c546_1 => ?_⟩
        · refine B_L_turn_561 ?_
          try dsimp only
          try simp (disch := omega) only [hZ.1.d.n, hZ.1.t.e0, hZ.1.t.e1, hZ.1.t.e2, hZ.1.t.e3, hZ.1.t.e4, hZ.1.t.e5, hZ.1.t.e6]
          refine B_L_turn_563 ?_
          try dsimp only
          try simp (disch := omega) only [hZ.1.d.n, hZ.1.t.e0, hZ.1.t.e1, hZ.1.t.e2, hZ.1.t.e3, hZ.1.t.e4, hZ.1.t.e5, hZ.1.t.e6]
          refine ⟨_, hH.2.1, ⟨by omega, by omega⟩, ?_⟩
          try simp (disch := omega) only [hZ.1.d.n, hZ.1.t.e0, hZ.1.t.e1, hZ.1.t.e2, hZ.1.t.e3, hZ.1.t.e4, hZ.1.t.e5, hZ.1.t.e6]
          refine ⟨by (refine ⟨?_, ?_⟩ <;> omega), ?_⟩
          refine ih _ _ (k + 1) _ _ _ _ (by omega) (by omega) rfl (hnx _ ?_)
          rw [hlo]
          first
            | (rw [if_pos (by omega)])
            | (rw [if_neg (by omega), if_pos (by omega)])
            | (rw [if_neg (by omega), if_neg (by omega)])
        · refine ⟨by (refine ⟨?_, ?_⟩ <;> omega), ?_⟩
          refine ⟨by (refine ⟨?_, ?_⟩ <;> omega), ?_⟩
          refine ⟨_, hH.2.1, ⟨by omega, by omega⟩, ?_⟩
          try simp (disch := omega) only [hZ.1.d.n, hZ.1.t.e0, hZ.1.t.e1, hZ.1.t.e2, hZ.1.t.e3, hZ.1.t.e4, hZ.1.t.e5, hZ.1.t.e6]
          refine B_L_turn_563 ?_
          try dsimp only
          try simp (disch := omega) only [hZ.1.d.n, hZ.1.t.e0, hZ.1.t.e1, hZ.1.t.e2, hZ.1.t.e3, hZ.1.t.e4, hZ.1.t.e5, hZ.1.t.e6]
          refine ⟨_, hH.2.1, ⟨by omega, by omega⟩, ?_⟩
          try simp (disch := omega) only [hZ.1.d.n, hZ.1.t.e0, hZ.1.t.e1, hZ.1.t.e2, hZ.1.t.e3, hZ.1.t.e4, hZ.1.t.e5, hZ.1.t.e6]
          refine ⟨by (refine ⟨?_, ?_⟩ <;> omega), ?_⟩
          refine ih _ _ (k + 1) _ _ _ _ (by omega) (by omega) rfl (hnx _ ?_)
          rw [hlo]
          first
            | (rw [if_pos (by omega)])
            | (rw [if_neg (by omega), if_pos (by omega)])
            | (rw [if_neg (by omega), if_neg (by omega)])
      · refine B_L_turn_563 ?_
        try dsimp only
        try simp (disch := omega) only [hZ.1.d.n, hZ.1.t.e0, hZ.1.t.e1, hZ.1.t.e2, hZ.1.t.e3, hZ.1.t.e4, hZ.1.t.e5, hZ.1.t.e6]
        refine ⟨_, hH.2.1, ⟨by omega, by omega⟩, ?_⟩
        try simp (disch := omega) only [hZ.1.d.n, hZ.1.t.e0, hZ.1.t.e1, hZ.1.t.e2, hZ.1.t.e3, hZ.1.t.e4, hZ.1.t.e5, hZ.1.t.e6]
        refine ⟨by (refine ⟨?_, ?_⟩ <;> omega), ?_⟩
        refine ih _ _ (k + 1) _ _ _ _ (by omega) (by omega) rfl (hnx _ ?_)
        rw [hlo]
        first
          | (rw [if_pos (by omega)])
          | (rw [if_neg (by omega), if_pos (by omega)])
          | (rw [if_neg (by omega), if_neg (by omega)])
theorem ED.los {d z : Row} (h : ED d z) {s : Int} (hs : 0 ≤ s ∧ s ≤ 1) : d (5 + s).toNat = z (319 + s).toNat := by
  rcases (by omega : s = 0 ∨ s = 1) with q | q <;> subst q
  · exact h.1.2.2.2.2.2.1
  · exact h.1.2.2.2.2.2.2
theorem KT_take {G : amG} {I : Nat → Nat → Int} {R : Nat → Nat → Option Nat} {L : Nat → Nat → Int64} {S : List (Nat × Nat)} {c t : Nat} {Q : amR → amH → Prop} (hG : amG0 G) {aT aO aD N : Nat} (hH : LH S aT aO aD) (hA : LA aT aO aD) {aF : Nat} {lf : Int} {y0 : Row} (hn : wfN y0) (hw : ∀ l : Nat, (l : Int) < y0 98 → (0 ≤ tf y0 l 0 ∧ tf y0 l 0 ≤ 1) ∧ (0 ≤ tf y0 l 2 ∧ tf y0 l 2 ≤ 20) ∧ 0 ≤ tf y0 l 6 ∧ tf y0 l 6 ≤ 20) (hb5 : (0 ≤ y0 319 ∧ y0 319 ≤ 300000) ∧ 0 ≤ y0 320 ∧ y0 320 ≤ 300000) (hK : ∀ (J : Nat → Nat → Int) (k : Int) (o7 o8 o9 o10 : Option amV), LQ N aT aO aD I J (fB y0 (y0 98).toNat) → X G mL_turn Q 655 [some (aR (some 361)), some (aR (some aT)), some (aR (some aO)), some (aR (some aD)), some (aI lf), some (aR (some aF)), some (aI k), o7, o8, o9, o10] [] (J, R, L, S, 0, c, t)) :
    ∀ (n : Nat) (J : Nat → Nat → Int) (y : Row) (k : Int) (o7 o8 o9 o10 : Option amV), 0 ≤ k → (y0 98 - k < n ∧ k ≤ y0 98) → y = fB y0 k.toNat → LQ N aT aO aD I J y → X G mL_turn Q 573 [some (aR (some 361)), some (aR (some aT)), some (aR (some aO)), some (aR (some aD)), some (aI lf), some (aR (some aF)), some (aI k), o7, o8, o9, o10] [] (J, R, L, S, 0, c, t) := by
  intro n
  induction n with
  | zero =>
    intros
    exfalso; omega
  | succ n ih =>
    intro J y k o7 o8 o9 o10 h0 hk hy hZ
    have hn2 := hn.2
    have hf := fB_inv (y := y0) k.toNat (by omega) (fun l hl => by have := hw l (by omega); omega)
    rw [← hy] at hf
    obtain ⟨f1, f2, f3, f4⟩ := hf
    have e98 : y 98 = y0 98 := f1 98 (by omega)
    have hZn := hZ.1.n
    refine B_L_turn_573 ?_
    try dsimp only
    (try simp (disch := omega) only [hZ.1.d.n, hZ.1.t.e0, hZ.1.t.e2, hZ.1.t.e4, hZ.1.t.e6]); (try simp (disch := omega) only [hZ2.1.d.n, hZ2.1.t.e0, hZ2.1.t.e2, hZ2.1.t.e4, hZ2.1.t.e6]); (try simp (disch := omega) only [hZ3.1.d.n, hZ3.1.t.e0, hZ3.1.t.e2, hZ3.1.t.e4, hZ3.1.t.e6])
    refine ⟨_, by first | exact hH.2.1 | exact hH.2.2.2, ⟨by omega, by omega⟩, ?_⟩
    (try simp (disch := omega) only [hZ.1.d.n, hZ.1.t.e0, hZ.1.t.e2, hZ.1.t.e4, hZ.1.t.e6]); (try simp (disch := omega) only [hZ2.1.d.n, hZ2.1.t.e0, hZ2.1.t.e2, hZ2.1.t.e4, hZ2.1.t.e6]); (try simp (disch := omega) only [hZ3.1.d.n, hZ3.1.t.e0, hZ3.1.t.e2, hZ3.1.t.e4, hZ3.1.t.e6])
    refine ⟨fun c578_0 => ?_, fun c578_0 => ?_⟩
    · have e : k.toNat = (y0 98).toNat := by omega
      rw [hy, e] at hZ
      exact hK J k _ _ _ _ hZ
    · have hlt : k < y 98 := by omega
      have hwk := hw k.toNat (by omega)
      have t0 : tf y k.toNat 0 = tf y0 k.toNat 0 := by rw [f2 _ _ (by omega) (by decide), if_neg (by omega), if_neg (by omega)]
      have t2 : tf y k.toNat 2 = tf y0 k.toNat 2 := by rw [f2 _ _ (by omega) (by decide), if_neg (by omega), if_neg (by omega)]
      have t6 : tf y k.toNat 6 = tf y0 k.toNat 6 := by rw [f2 _ _ (by omega) (by decide), if_neg (by omega), if_neg (by omega)]
      refine ⟨by (refine ⟨?_, ?_⟩ <;> omega), ?_⟩
      refine ⟨by (refine ⟨?_, ?_⟩ <;> omega), ?_⟩
      refine ⟨⟨rfl, rfl⟩, ?_⟩
      refine ⟨_, by first | exact hH.2.1 | exact hH.2.2.2, ⟨by omega, by omega⟩, ?_⟩
      (try simp (disch := omega) only [hZ.1.d.n, hZ.1.t.e0, hZ.1.t.e2, hZ.1.t.e4, hZ.1.t.e6]); (try simp (disch := omega) only [hZ2.1.d.n, hZ2.1.t.e0, hZ2.1.t.e2, hZ2.1.t.e4, hZ2.1.t.e6]); (try simp (disch := omega) only [hZ3.1.d.n, hZ3.1.t.e0, hZ3.1.t.e2, hZ3.1.t.e4, hZ3.1.t.e6])
      refine ⟨by (refine ⟨?_, ?_⟩ <;> omega), ?_⟩
      refine ⟨by (refine ⟨?_, ?_⟩ <;> omega), ?_⟩
      refine ⟨_, by first | exact hH.2.1 | exact hH.2.2.2, ⟨by omega, by omega⟩, ?_⟩
      (try simp (disch := omega) only [hZ.1.d.n, hZ.1.t.e0, hZ.1.t.e2, hZ.1.t.e4, hZ.1.t.e6]); (try simp (disch := omega) only [hZ2.1.d.n, hZ2.1.t.e0, hZ2.1.t.e2, hZ2.1.t.e4, hZ2.1.t.e6]); (try simp (disch := omega) only [hZ3.1.d.n, hZ3.1.t.e0, hZ3.1.t.e2, hZ3.1.t.e4, hZ3.1.t.e6])
      refine ⟨by (refine ⟨?_, ?_⟩ <;> omega), ?_⟩
      refine ⟨_, by first | exact hH.2.1 | exact hH.2.2.2, ⟨by omega, by omega⟩, ?_⟩
      have hZ2 := LQ_wn hA hZ ⟨h0, hlt⟩ 2 (i := (8 * k + 2).toNat) (by decide) (by omega) (tf y k.toNat 2 - tf y k.toNat 6)
      obtain ⟨y2, hy2⟩ : ∃ y2 : Row, y2 = uz y (99 + 8 * k.toNat + 2) (tf y k.toNat 2 - tf y k.toNat 6) := ⟨_, rfl⟩
      rw [← hy2] at hZ2
      have hyo : ∀ i : Nat, i ≠ 99 + 8 * k.toNat + 2 → y2 i = y i := fun i hi => by rw [hy2]; exact uz_ne _ _ hi
      have e298 : y2 98 = y 98 := hyo 98 (by omega)
      have r0 : tf y2 k.toNat 0 = tf y k.toNat 0 := hyo _ (by omega)
      have r6 : tf y2 k.toNat 6 = tf y k.toNat 6 := hyo _ (by omega)
      have r2 : tf y2 k.toNat 2 = tf y k.toNat 2 - tf y k.toNat 6 := by rw [hy2]; exact uz_same _ _ _
      generalize u2 J aT (8 * k + 2).toNat (tf y k.toNat 2 - tf y k.toNat 6) = J2 at hZ2 ⊢
      (try simp (disch := omega) only [hZ.1.d.n, hZ.1.t.e0, hZ.1.t.e2, hZ.1.t.e4, hZ.1.t.e6]); (try simp (disch := omega) only [hZ2.1.d.n, hZ2.1.t.e0, hZ2.1.t.e2, hZ2.1.t.e4, hZ2.1.t.e6]); (try simp (disch := omega) only [hZ3.1.d.n, hZ3.1.t.e0, hZ3.1.t.e2, hZ3.1.t.e4, hZ3.1.t.e6])
      refine ⟨by (refine ⟨?_, ?_⟩ <;> omega), ?_⟩
      refine ⟨_, by first | exact hH.2.1 | exact hH.2.2.2, ⟨by omega, by omega⟩, ?_⟩
      (try simp (disch := omega) only [hZ.1.d.n, hZ.1.t.e0, hZ.1.t.e2, hZ.1.t.e4, hZ.1.t.e6]); (try simp (disch := omega) only [hZ2.1.d.n, hZ2.1.t.e0, hZ2.1.t.e2, hZ2.1.t.e4, hZ2.1.t.e6]); (try simp (disch := omega) only [hZ3.1.d.n, hZ3.1.t.e0, hZ3.1.t.e2, hZ3.1.t.e4, hZ3.1.t.e6])
      refine ⟨by (refine ⟨?_, ?_⟩ <;> omega), ?_⟩
      refine ⟨⟨rfl, rfl⟩, ?_⟩
      rw [hZ2.1.d.los (by omega)]
      have hbl : 0 ≤ y2 (319 + tf y2 k.toNat 0).toNat ∧ y2 (319 + tf y2 k.toNat 0).toNat ≤ 300300 := by
        rw [hyo _ (by omega)]
        rcases (by omega : tf y2 k.toNat 0 = 0 ∨ tf y2 k.toNat 0 = 1) with q | q <;> rw [q]
        · show 0 ≤ y 319 ∧ y 319 ≤ 300300
          omega
        · show 0 ≤ y 320 ∧ y 320 ≤ 300300
          omega
      refine ⟨_, by first | exact hH.2.1 | exact hH.2.2.2, ⟨by omega, by omega⟩, ?_⟩
      (try simp (disch := omega) only [hZ.1.d.n, hZ.1.t.e0, hZ.1.t.e2, hZ.1.t.e4, hZ.1.t.e6]); (try simp (disch := omega) only [hZ2.1.d.n, hZ2.1.t.e0, hZ2.1.t.e2, hZ2.1.t.e4, hZ2.1.t.e6]); (try simp (disch := omega) only [hZ3.1.d.n, hZ3.1.t.e0, hZ3.1.t.e2, hZ3.1.t.e4, hZ3.1.t.e6])
      refine ⟨by (refine ⟨?_, ?_⟩ <;> omega), ?_⟩
      refine ⟨by (refine ⟨?_, ?_⟩ <;> omega), ?_⟩
      refine ⟨_, by first | exact hH.2.1 | exact hH.2.2.2, ⟨by omega, by omega⟩, ?_⟩
      (try simp (disch := omega) only [hZ.1.d.n, hZ.1.t.e0, hZ.1.t.e2, hZ.1.t.e4, hZ.1.t.e6]); (try simp (disch := omega) only [hZ2.1.d.n, hZ2.1.t.e0, hZ2.1.t.e2, hZ2.1.t.e4, hZ2.1.t.e6]); (try simp (disch := omega) only [hZ3.1.d.n, hZ3.1.t.e0, hZ3.1.t.e2, hZ3.1.t.e4, hZ3.1.t.e6])
      refine ⟨by (refine ⟨?_, ?_⟩ <;> omega), ?_⟩
      refine ⟨_, by first | exact hH.2.1 | exact hH.2.2.2, ⟨by omega, by omega⟩, ?_⟩
      have hZ3 := LQ_d hA hZ2 (i := (5 + tf y2 k.toNat 0).toNat) (j := (319 + tf y2 k.toNat 0).toNat) (by omega) (y2 (319 + tf y2 k.toNat 0).toNat + tf y2 k.toNat 6)
      obtain ⟨y3, hy3⟩ : ∃ y3 : Row, y3 = uz y2 (319 + tf y2 k.toNat 0).toNat (y2 (319 + tf y2 k.toNat 0).toNat + tf y2 k.toNat 6) := ⟨_, rfl⟩
      rw [← hy3] at hZ3
      have hyp : ∀ i : Nat, i < 319 → y3 i = y2 i := fun i hi => by rw [hy3]; exact uz_ne _ _ (by omega)
      have e398 : y3 98 = y2 98 := hyp 98 (by omega)
      have p2 : tf y3 k.toNat 2 = tf y2 k.toNat 2 := hyp _ (by omega)
      have p4 : tf y3 k.toNat 4 = tf y k.toNat 4 := (hyp _ (by omega)).trans (hyo _ (by omega))
      have hfB : fB y0 (k + 1).toNat = uz y3 (99 + 8 * k.toNat + 4) (if tf y k.toNat 2 - tf y k.toNat 6 = 0 then 2 else tf y k.toNat 4) := by
        rw [show (k + 1).toNat = k.toNat + 1 by omega, fB_s, ← hy, hy3, r0, r6, hyo _ (by omega), hy2]
        rfl
      generalize u2 J2 aD (5 + tf y2 k.toNat 0).toNat (y2 (319 + tf y2 k.toNat 0).toNat + tf y2 k.toNat 6) = J3 at hZ3 ⊢
      (try simp (disch := omega) only [hZ.1.d.n, hZ.1.t.e0, hZ.1.t.e2, hZ.1.t.e4, hZ.1.t.e6]); (try simp (disch := omega) only [hZ2.1.d.n, hZ2.1.t.e0, hZ2.1.t.e2, hZ2.1.t.e4, hZ2.1.t.e6]); (try simp (disch := omega) only [hZ3.1.d.n, hZ3.1.t.e0, hZ3.1.t.e2, hZ3.1.t.e4, hZ3.1.t.e6])
      refine ⟨by (refine ⟨?_, ?_⟩ <;> omega), ?_⟩
      refine ⟨by (refine ⟨?_, ?_⟩ <;> omega), ?_⟩
      refine ⟨_, by first | exact hH.2.1 | exact hH.2.2.2, ⟨by omega, by omega⟩, ?_⟩
      (try simp (disch := omega) only [hZ.1.d.n, hZ.1.t.e0, hZ.1.t.e2, hZ.1.t.e4, hZ.1.t.e6]); (try simp (disch := omega) only [hZ2.1.d.n, hZ2.1.t.e0, hZ2.1.t.e2, hZ2.1.t.e4, hZ2.1.t.e6]); (try simp (disch := omega) only [hZ3.1.d.n, hZ3.1.t.e0, hZ3.1.t.e2, hZ3.1.t.e4, hZ3.1.t.e6])
      refine ⟨fun c636_0 => ?_, fun c636_0 => ?_⟩
      · refine B_L_turn_649 ?_
        try dsimp only
        refine ⟨by (refine ⟨?_, ?_⟩ <;> omega), ?_⟩
        refine ih _ _ (k + 1) _ _ _ _ (by omega) (by omega) rfl ?_
        rw [hfB]
        first
          | (rw [if_neg (by omega), ← p4]
             rw [show tf y3 k.toNat 4 = y3 (99 + 8 * k.toNat + 4) from rfl, uz_self]
             exact hZ3)
          | (rw [if_pos (by omega)]
             exact LQ_wn hA hZ3 ⟨h0, by omega⟩ 4 (by decide) (by omega) 2)
      · refine ⟨by (refine ⟨?_, ?_⟩ <;> omega), ?_⟩
        refine ⟨by (refine ⟨?_, ?_⟩ <;> omega), ?_⟩
        refine ⟨_, by first | exact hH.2.1 | exact hH.2.2.2, ⟨by omega, by omega⟩, ?_⟩
        (try simp (disch := omega) only [hZ.1.d.n, hZ.1.t.e0, hZ.1.t.e2, hZ.1.t.e4, hZ.1.t.e6]); (try simp (disch := omega) only [hZ2.1.d.n, hZ2.1.t.e0, hZ2.1.t.e2, hZ2.1.t.e4, hZ2.1.t.e6]); (try simp (disch := omega) only [hZ3.1.d.n, hZ3.1.t.e0, hZ3.1.t.e2, hZ3.1.t.e4, hZ3.1.t.e6])
        refine B_L_turn_649 ?_
        try dsimp only
        refine ⟨by (refine ⟨?_, ?_⟩ <;> omega), ?_⟩
        refine ih _ _ (k + 1) _ _ _ _ (by omega) (by omega) rfl ?_
        rw [hfB]
        first
          | (rw [if_neg (by omega), ← p4]
             rw [show tf y3 k.toNat 4 = y3 (99 + 8 * k.toNat + 4) from rfl, uz_self]
             exact hZ3)
          | (rw [if_pos (by omega)]
             exact LQ_wn hA hZ3 ⟨h0, by omega⟩ 4 (by decide) (by omega) 2)
theorem KT_seen {G : amG} {I : Nat → Nat → Int} {R : Nat → Nat → Option Nat} {L : Nat → Nat → Int64} {S : List (Nat × Nat)} {c t : Nat} {Q : amR → amH → Prop} (hG : amG0 G) {aT aO aD N : Nat} (hH : LH S aT aO aD) (hA : LA aT aO aD) {aF : Nat} {lf : Int} {J : Nat → Nat → Int} {y : Row} {k : Int} (hZ : LQ N aT aO aD I J y) (hb : wfB y) (hk : 0 ≤ k ∧ k < y 98) (hK : ∀ (s j : Int) (o9 o10 : Option amV), s = seN y k.toNat (y 98).toNat → X G mL_turn Q 843 [some (aR (some 361)), some (aR (some aT)), some (aR (some aO)), some (aR (some aD)), some (aI lf), some (aR (some aF)), some (aI k), some (aI s), some (aI j), o9, o10] [] (J, R, L, S, 0, c, t)) :
    ∀ (n : Nat) (s j : Int) (o9 o10 : Option amV), 0 ≤ j → (y 98 - j < n ∧ j ≤ y 98) → s = seN y k.toNat j.toNat → X G mL_turn Q 762 [some (aR (some 361)), some (aR (some aT)), some (aR (some aO)), some (aR (some aD)), some (aI lf), some (aR (some aF)), some (aI k), some (aI s), some (aI j), o9, o10] [] (J, R, L, S, 0, c, t) := by
  intro n
  induction n with
  | zero =>
    intros
    exfalso; omega
  | succ n ih =>
    intro s j o9 o10 h0 hj hs
    have hZn := hZ.1.n
    have hkL := hZ.1.t.c hk.1 hk.2
    have hsb := seN_b y k.toNat j.toNat
    have hss : seN y k.toNat (j.toNat + 1) = if seN y k.toNat j.toNat = 1 ∨ (tf y j.toNat 4 ≠ 2 ∧ tf y j.toNat 0 ≠ tf y k.toNat 0 ∧ seeI y (tf y k.toNat 1) (tf y j.toNat 1) = 1) then 1 else 0 := rfl
    refine B_L_turn_762 ?_
    try dsimp only
    try simp (disch := omega) only [hZ.1.d.n, hZ.1.t.e0, hZ.1.t.e1, hZ.1.t.e2, hZ.1.t.e3, hZ.1.t.e4, hZ.1.t.e5, hZ.1.t.e6]
    refine ⟨_, by first | exact hH.2.1 | exact hH.2.2.2, ⟨by omega, by omega⟩, ?_⟩
    try simp (disch := omega) only [hZ.1.d.n, hZ.1.t.e0, hZ.1.t.e1, hZ.1.t.e2, hZ.1.t.e3, hZ.1.t.e4, hZ.1.t.e5, hZ.1.t.e6]
    refine ⟨fun c767_0 => ?_, fun c767_0 => ?_⟩
    · refine hK s j _ _ ?_
      rw [hs]
      congr 1
      omega
    · have hjL := hZ.1.t.c h0 (by omega : j < y 98)
      have hwj := hb.t h0 (by omega : j < y 98)
      unfold wfT1 at hwj
      refine ⟨fun c772_0 => ?_, fun c772_0 => ?_⟩
      · refine B_L_turn_830 ?_
        try dsimp only
        try simp (disch := omega) only [hZ.1.d.n, hZ.1.t.e0, hZ.1.t.e1, hZ.1.t.e2, hZ.1.t.e3, hZ.1.t.e4, hZ.1.t.e5, hZ.1.t.e6]
        refine B_L_turn_835 ?_
        try dsimp only
        try simp (disch := omega) only [hZ.1.d.n, hZ.1.t.e0, hZ.1.t.e1, hZ.1.t.e2, hZ.1.t.e3, hZ.1.t.e4, hZ.1.t.e5, hZ.1.t.e6]
        refine ⟨by (refine ⟨?_, ?_⟩ <;> omega), ?_⟩
        refine ih _ (j + 1) _ _ (by omega) (by omega) ?_
        rw [show (j + 1).toNat = j.toNat + 1 by omega, hss]
        first
          | (rw [if_pos (by omega)])
          | (rw [if_neg (by omega)])
      · refine ⟨by (refine ⟨?_, ?_⟩ <;> omega), ?_⟩
        refine ⟨by (refine ⟨?_, ?_⟩ <;> omega), ?_⟩
        refine ⟨_, by first | exact hH.2.1 | exact hH.2.2.2, ⟨by omega, by omega⟩, ?_⟩
        try simp (disch := omega) only [hZ.1.d.n, hZ.1.t.e0, hZ.1.t.e1, hZ.1.t.e2, hZ.1.t.e3, hZ.1.t.e4, hZ.1.t.e5, hZ.1.t.e6]
        refine ⟨fun c785_0 => ?_, fun c785_0 => ?_⟩
        · refine B_L_turn_834 ?_
          try dsimp only
          try simp (disch := omega) only [hZ.1.d.n, hZ.1.t.e0, hZ.1.t.e1, hZ.1.t.e2, hZ.1.t.e3, hZ.1.t.e4, hZ.1.t.e5, hZ.1.t.e6]
          refine B_L_turn_835 ?_
          try dsimp only
          try simp (disch := omega) only [hZ.1.d.n, hZ.1.t.e0, hZ.1.t.e1, hZ.1.t.e2, hZ.1.t.e3, hZ.1.t.e4, hZ.1.t.e5, hZ.1.t.e6]
          refine ⟨by (refine ⟨?_, ?_⟩ <;> omega), ?_⟩
          refine ih _ (j + 1) _ _ (by omega) (by omega) ?_
          rw [show (j + 1).toNat = j.toNat + 1 by omega, hss]
          first
            | (rw [if_pos (by omega)])
            | (rw [if_neg (by omega)])
        · refine ⟨by (refine ⟨?_, ?_⟩ <;> omega), ?_⟩
          refine ⟨_, by first | exact hH.2.1 | exact hH.2.2.2, ⟨by omega, by omega⟩, ?_⟩
          try simp (disch := omega) only [hZ.1.d.n, hZ.1.t.e0, hZ.1.t.e1, hZ.1.t.e2, hZ.1.t.e3, hZ.1.t.e4, hZ.1.t.e5, hZ.1.t.e6]
          refine ⟨by (refine ⟨?_, ?_⟩ <;> omega), ?_⟩
          refine ⟨_, by first | exact hH.2.1 | exact hH.2.2.2, ⟨by omega, by omega⟩, ?_⟩
          try simp (disch := omega) only [hZ.1.d.n, hZ.1.t.e0, hZ.1.t.e1, hZ.1.t.e2, hZ.1.t.e3, hZ.1.t.e4, hZ.1.t.e5, hZ.1.t.e6]
          refine ⟨fun c802_0 => ?_, fun c802_0 => ?_⟩
          · refine B_L_turn_834 ?_
            try dsimp only
            try simp (disch := omega) only [hZ.1.d.n, hZ.1.t.e0, hZ.1.t.e1, hZ.1.t.e2, hZ.1.t.e3, hZ.1.t.e4, hZ.1.t.e5, hZ.1.t.e6]
            refine B_L_turn_835 ?_
            try dsimp only
            try simp (disch := omega) only [hZ.1.d.n, hZ.1.t.e0, hZ.1.t.e1, hZ.1.t.e2, hZ.1.t.e3, hZ.1.t.e4, hZ.1.t.e5, hZ.1.t.e6]
            refine ⟨by (refine ⟨?_, ?_⟩ <;> omega), ?_⟩
            refine ih _ (j + 1) _ _ (by omega) (by omega) ?_
            rw [show (j + 1).toNat = j.toNat + 1 by omega, hss]
            first
              | (rw [if_pos (by omega)])
              | (rw [if_neg (by omega)])
          · refine ⟨by (refine ⟨?_, ?_⟩ <;> omega), ?_⟩
            refine ⟨by (refine ⟨?_, ?_⟩ <;> omega), ?_⟩
            refine ⟨_, by first | exact hH.2.1 | exact hH.2.2.2, ⟨by omega, by omega⟩, ?_⟩
            try simp (disch := omega) only [hZ.1.d.n, hZ.1.t.e0, hZ.1.t.e1, hZ.1.t.e2, hZ.1.t.e3, hZ.1.t.e4, hZ.1.t.e5, hZ.1.t.e6]
            refine ⟨by (refine ⟨?_, ?_⟩ <;> omega), ?_⟩
            refine ⟨by (refine ⟨?_, ?_⟩ <;> omega), ?_⟩
            refine ⟨_, by first | exact hH.2.1 | exact hH.2.2.2, ⟨by omega, by omega⟩, ?_⟩
            try simp (disch := omega) only [hZ.1.d.n, hZ.1.t.e0, hZ.1.t.e1, hZ.1.t.e2, hZ.1.t.e3, hZ.1.t.e4, hZ.1.t.e5, hZ.1.t.e6]
            refine ⟨⟨Nat.zero_le _, Nat.zero_le _, Nat.le_of_ble_eq_true rfl⟩, trivial, ?_⟩
            refine K_sees hG hH.1 hZ.1.h (sm_in hkL) (sm_in hjL) (fun r hr => ?_)
            rw [bg_sm hkL, bg_sm hjL] at hr
            have hr2 : r = seeI y (tf y k.toNat 1) (tf y j.toNat 1) := by
              rcases hr with ⟨q1, q2⟩ | ⟨q1, q2⟩
              · rw [q2, seeI_one q1]
              · rw [q2, seeI_zero q1]
            refine af_I0 rfl rfl (by decide) ?_
            try dsimp only
            try simp (disch := omega) only [hZ.1.d.n, hZ.1.t.e0, hZ.1.t.e1, hZ.1.t.e2, hZ.1.t.e3, hZ.1.t.e4, hZ.1.t.e5, hZ.1.t.e6]
            refine B_L_turn_827 ?_
            try dsimp only
            try simp (disch := omega) only [hZ.1.d.n, hZ.1.t.e0, hZ.1.t.e1, hZ.1.t.e2, hZ.1.t.e3, hZ.1.t.e4, hZ.1.t.e5, hZ.1.t.e6]
            refine ⟨fun c827_1 => ?_, fun c827_1 => ?_⟩
            · refine B_L_turn_834 ?_
              try dsimp only
              try simp (disch := omega) only [hZ.1.d.n, hZ.1.t.e0, hZ.1.t.e1, hZ.1.t.e2, hZ.1.t.e3, hZ.1.t.e4, hZ.1.t.e5, hZ.1.t.e6]
              refine B_L_turn_835 ?_
              try dsimp only
              try simp (disch := omega) only [hZ.1.d.n, hZ.1.t.e0, hZ.1.t.e1, hZ.1.t.e2, hZ.1.t.e3, hZ.1.t.e4, hZ.1.t.e5, hZ.1.t.e6]
              refine ⟨by (refine ⟨?_, ?_⟩ <;> omega), ?_⟩
              refine ih _ (j + 1) _ _ (by omega) (by omega) ?_
              rw [show (j + 1).toNat = j.toNat + 1 by omega, hss]
              first
                | (rw [if_pos (by omega)])
                | (rw [if_neg (by omega)])
            · refine B_L_turn_830 ?_
              try dsimp only
              try simp (disch := omega) only [hZ.1.d.n, hZ.1.t.e0, hZ.1.t.e1, hZ.1.t.e2, hZ.1.t.e3, hZ.1.t.e4, hZ.1.t.e5, hZ.1.t.e6]
              refine B_L_turn_835 ?_
              try dsimp only
              try simp (disch := omega) only [hZ.1.d.n, hZ.1.t.e0, hZ.1.t.e1, hZ.1.t.e2, hZ.1.t.e3, hZ.1.t.e4, hZ.1.t.e5, hZ.1.t.e6]
              refine ⟨by (refine ⟨?_, ?_⟩ <;> omega), ?_⟩
              refine ih _ (j + 1) _ _ (by omega) (by omega) ?_
              rw [show (j + 1).toNat = j.toNat + 1 by omega, hss]
              first
                | (rw [if_pos (by omega)])
                | (rw [if_neg (by omega)])
theorem KT_sett {G : amG} {I : Nat → Nat → Int} {R : Nat → Nat → Option Nat} {L : Nat → Nat → Int64} {S : List (Nat × Nat)} {c t : Nat} {Q : amR → amH → Prop} (hG : amG0 G) {aT aO aD N : Nat} (hH : LH S aT aO aD) (hA : LA aT aO aD) {aF : Nat} {lf : Int} {z : Row} (hbz : wfB z) (hK : ∀ (J : Nat → Nat → Int) (k : Int) (o7 o8 o9 o10 : Option amV), LQ N aT aO aD I J (setN z (z 98).toNat) → X G mL_turn Q 885 [some (aR (some 361)), some (aR (some aT)), some (aR (some aO)), some (aR (some aD)), some (aI lf), some (aR (some aF)), some (aI k), o7, o8, o9, o10] [] (J, R, L, S, 0, c, t)) :
    ∀ (n : Nat) (J : Nat → Nat → Int) (y : Row) (k : Int) (o7 o8 o9 o10 : Option amV), 0 ≤ k → (z 98 - k < n ∧ k ≤ z 98) → y = setN z k.toNat → LQ N aT aO aD I J y → X G mL_turn Q 658 [some (aR (some 361)), some (aR (some aT)), some (aR (some aO)), some (aR (some aD)), some (aI lf), some (aR (some aF)), some (aI k), o7, o8, o9, o10] [] (J, R, L, S, 0, c, t) := by
  intro n
  induction n with
  | zero =>
    intros
    exfalso; omega
  | succ n ih =>
    intro J y k o7 o8 o9 o10 h0 hk hy hZ
    have hm := setN_inv hbz k.toNat (by omega)
    rw [← hy] at hm
    have hb : wfB y := hm.1
    have e98 : y 98 = z 98 := hm.2.1 98 (by omega)
    have hZn := hZ.1.n
    have hnext : ∀ (J2 : Nat → Nat → Int) (p7 p8 p9 p10 : Option amV), k < z 98 → LQ N aT aO aD I J2 (settZ y k.toNat) → X G mL_turn Q 879 [some (aR (some 361)), some (aR (some aT)), some (aR (some aO)), some (aR (some aD)), some (aI lf), some (aR (some aF)), some (aI k), p7, p8, p9, p10] [] (J2, R, L, S, 0, c, t) := fun J2 p7 p8 p9 p10 hlt hZ2 => by
      refine B_L_turn_879 ?_
      try dsimp only
      refine ⟨by (refine ⟨?_, ?_⟩ <;> omega), ?_⟩
      refine ih J2 (settZ y k.toNat) (k + 1) _ _ _ _ (by omega) (by omega) ?_ hZ2
      rw [show (k + 1).toNat = k.toNat + 1 by omega, setN_s, ← hy]
    refine B_L_turn_658 ?_
    try dsimp only
    try simp (disch := omega) only [hZ.1.d.n, hZ.1.t.e0, hZ.1.t.e1, hZ.1.t.e2, hZ.1.t.e3, hZ.1.t.e4, hZ.1.t.e5, hZ.1.t.e6]
    refine ⟨_, by first | exact hH.2.1 | exact hH.2.2.2, ⟨by omega, by omega⟩, ?_⟩
    try simp (disch := omega) only [hZ.1.d.n, hZ.1.t.e0, hZ.1.t.e1, hZ.1.t.e2, hZ.1.t.e3, hZ.1.t.e4, hZ.1.t.e5, hZ.1.t.e6]
    refine ⟨fun c663_0 => ?_, fun c663_0 => ?_⟩
    · have e : k.toNat = (z 98).toNat := by omega
      rw [hy, e] at hZ
      exact hK J k _ _ _ _ hZ
    · have hlt : k < y 98 := by omega
      have hw := hb.t h0 hlt
      unfold wfT1 at hw
      have hsz : settZ y k.toNat = if tf y k.toNat 4 = 0 ∧ 0 < tf y k.toNat 6 ∧ 2 * tf y k.toNat 2 ≤ tf y k.toNat 5 then uz y (99 + 8 * k.toNat + 4) 1 else if tf y k.toNat 4 = 1 ∧ tf y k.toNat 6 = 0 ∧ seN y k.toNat (y 98).toNat = 0 then uz (uz y (99 + 8 * k.toNat + 4) 0) (99 + 8 * k.toNat + 3) (tf y k.toNat 1) else y := rfl
      refine ⟨by (refine ⟨?_, ?_⟩ <;> omega), ?_⟩
      refine ⟨by (refine ⟨?_, ?_⟩ <;> omega), ?_⟩
      refine ⟨_, by first | exact hH.2.1 | exact hH.2.2.2, ⟨by omega, by omega⟩, ?_⟩
      try simp (disch := omega) only [hZ.1.d.n, hZ.1.t.e0, hZ.1.t.e1, hZ.1.t.e2, hZ.1.t.e3, hZ.1.t.e4, hZ.1.t.e5, hZ.1.t.e6]
      refine ⟨fun c675_0 => ?_, fun c675_0 => ?_⟩
      · refine B_L_turn_727 ?_
        try dsimp only
        try simp (disch := omega) only [hZ.1.d.n, hZ.1.t.e0, hZ.1.t.e1, hZ.1.t.e2, hZ.1.t.e3, hZ.1.t.e4, hZ.1.t.e5, hZ.1.t.e6]
        refine ⟨by (refine ⟨?_, ?_⟩ <;> omega), ?_⟩
        refine ⟨by (refine ⟨?_, ?_⟩ <;> omega), ?_⟩
        refine ⟨_, by first | exact hH.2.1 | exact hH.2.2.2, ⟨by omega, by omega⟩, ?_⟩
        try simp (disch := omega) only [hZ.1.d.n, hZ.1.t.e0, hZ.1.t.e1, hZ.1.t.e2, hZ.1.t.e3, hZ.1.t.e4, hZ.1.t.e5, hZ.1.t.e6]
        refine ⟨fun c737_1 => ?_, fun c737_1 => ?_⟩
        · refine hnext _ _ _ _ _ (by omega) ?_
          rw [hsz]
          first
            | (rw [if_neg (by omega), if_neg (by omega)]; exact hZ)
            | (rw [if_pos ⟨by omega, by omega, by omega⟩]
               exact LQ_wn hA hZ ⟨h0, hlt⟩ 4 (by decide) (by omega) 1)
        · refine ⟨by (refine ⟨?_, ?_⟩ <;> omega), ?_⟩
          refine ⟨by (refine ⟨?_, ?_⟩ <;> omega), ?_⟩
          refine ⟨_, by first | exact hH.2.1 | exact hH.2.2.2, ⟨by omega, by omega⟩, ?_⟩
          try simp (disch := omega) only [hZ.1.d.n, hZ.1.t.e0, hZ.1.t.e1, hZ.1.t.e2, hZ.1.t.e3, hZ.1.t.e4, hZ.1.t.e5, hZ.1.t.e6]
          refine ⟨fun c750_1 => ?_, fun c750_1 => ?_⟩
          · refine B_L_turn_756 ?_
            try dsimp only
            try simp (disch := omega) only [hZ.1.d.n, hZ.1.t.e0, hZ.1.t.e1, hZ.1.t.e2, hZ.1.t.e3, hZ.1.t.e4, hZ.1.t.e5, hZ.1.t.e6]
            refine KT_seen hG hH hA (y := y) (k := k) hZ hb ⟨h0, hlt⟩ (fun s j p9 p10 hs => ?_) 8 0 0 _ _ (by decide) ⟨by omega, by omega⟩ rfl
            refine B_L_turn_843 ?_
            try dsimp only
            try simp (disch := omega) only [hZ.1.d.n, hZ.1.t.e0, hZ.1.t.e1, hZ.1.t.e2, hZ.1.t.e3, hZ.1.t.e4, hZ.1.t.e5, hZ.1.t.e6]
            refine ⟨fun c845_0 => ?_, fun c845_0 => ?_⟩
            · refine B_L_turn_851 ?_
              try dsimp only
              try simp (disch := omega) only [hZ.1.d.n, hZ.1.t.e0, hZ.1.t.e1, hZ.1.t.e2, hZ.1.t.e3, hZ.1.t.e4, hZ.1.t.e5, hZ.1.t.e6]
              refine ⟨by (refine ⟨?_, ?_⟩ <;> omega), ?_⟩
              refine ⟨by (refine ⟨?_, ?_⟩ <;> omega), ?_⟩
              refine ⟨_, hH.2.1, ⟨by omega, by omega⟩, ?_⟩
              try simp (disch := omega) only [hZ.1.d.n, hZ.1.t.e0, hZ.1.t.e1, hZ.1.t.e2, hZ.1.t.e3, hZ.1.t.e4, hZ.1.t.e5, hZ.1.t.e6]
              refine ⟨by (refine ⟨?_, ?_⟩ <;> omega), ?_⟩
              refine ⟨by (refine ⟨?_, ?_⟩ <;> omega), ?_⟩
              refine ⟨by (refine ⟨?_, ?_⟩ <;> omega), ?_⟩
              refine ⟨by (refine ⟨?_, ?_⟩ <;> omega), ?_⟩
              have hZ2 := LQ_wn hA hZ ⟨h0, hlt⟩ 4 (i := (8 * k + 4).toNat) (by decide) (by omega) 0
              have hcL := hZ.1.t.c h0 hlt
              have r1 : u2 J aT (8 * k + 4).toNat 0 aT (8 * k + 1).toNat = s8 (tf y k.toNat 1) := by
                rw [u2_ne _ _ (by omega)]
                exact hZ.1.t.e1 h0 hlt
              refine ⟨_, hH.2.1, ⟨by omega, by omega⟩, ?_⟩
              try simp (disch := omega) only [hZ.1.d.n, hZ.1.t.e0, hZ.1.t.e1, hZ.1.t.e2, hZ.1.t.e3, hZ.1.t.e4, hZ.1.t.e5, hZ.1.t.e6]
              rw [r1]
              refine ⟨_, hH.2.1, ⟨by omega, by omega⟩, ?_⟩
              try simp (disch := omega) only [hZ.1.d.n, hZ.1.t.e0, hZ.1.t.e1, hZ.1.t.e2, hZ.1.t.e3, hZ.1.t.e4, hZ.1.t.e5, hZ.1.t.e6]
              refine hnext _ _ _ _ _ (by omega) ?_
              rw [hsz]
              first
                | (rw [if_neg (by omega), if_neg (by omega)]; exact hZ)
                | (rw [if_neg (by omega), if_pos ⟨by omega, by omega, by omega⟩]
                   exact LQ_wc hA hZ2 ⟨h0, by rw [uz_ne _ _ (by omega)]; exact hlt⟩ 3 (Or.inr rfl) (by omega) hcL)
            · refine hnext _ _ _ _ _ (by omega) ?_
              rw [hsz]
              first
                | (rw [if_neg (by omega), if_neg (by omega)]; exact hZ)
                | (rw [if_neg (by omega), if_pos ⟨by omega, by omega, by omega⟩]
                   exact LQ_wc hA hZ2 ⟨h0, by rw [uz_ne _ _ (by omega)]; exact hlt⟩ 3 (Or.inr rfl) (by omega) hcL)
          · refine hnext _ _ _ _ _ (by omega) ?_
            rw [hsz]
            first
              | (rw [if_neg (by omega), if_neg (by omega)]; exact hZ)
              | (rw [if_pos ⟨by omega, by omega, by omega⟩]
                 exact LQ_wn hA hZ ⟨h0, hlt⟩ 4 (by decide) (by omega) 1)
      · refine ⟨by (refine ⟨?_, ?_⟩ <;> omega), ?_⟩
        refine ⟨by (refine ⟨?_, ?_⟩ <;> omega), ?_⟩
        refine ⟨_, by first | exact hH.2.1 | exact hH.2.2.2, ⟨by omega, by omega⟩, ?_⟩
        try simp (disch := omega) only [hZ.1.d.n, hZ.1.t.e0, hZ.1.t.e1, hZ.1.t.e2, hZ.1.t.e3, hZ.1.t.e4, hZ.1.t.e5, hZ.1.t.e6]
        refine ⟨fun c688_0 => ?_, fun c688_0 => ?_⟩
        · refine B_L_turn_727 ?_
          try dsimp only
          try simp (disch := omega) only [hZ.1.d.n, hZ.1.t.e0, hZ.1.t.e1, hZ.1.t.e2, hZ.1.t.e3, hZ.1.t.e4, hZ.1.t.e5, hZ.1.t.e6]
          refine ⟨by (refine ⟨?_, ?_⟩ <;> omega), ?_⟩
          refine ⟨by (refine ⟨?_, ?_⟩ <;> omega), ?_⟩
          refine ⟨_, by first | exact hH.2.1 | exact hH.2.2.2, ⟨by omega, by omega⟩, ?_⟩
          try simp (disch := omega) only [hZ.1.d.n, hZ.1.t.e0, hZ.1.t.e1, hZ.1.t.e2, hZ.1.t.e3, hZ.1.t.e4, hZ.1.t.e5, hZ.1.t.e6]
          refine ⟨fun c737_1 => ?_, fun c737_1 => ?_⟩
          · refine hnext _ _ _ _ _ (by omega) ?_
            rw [hsz]
            first
              | (rw [if_neg (by omega), if_neg (by omega)]; exact hZ)
              | (rw [if_pos ⟨by omega, by omega, by omega⟩]
                 exact LQ_wn hA hZ ⟨h0, hlt⟩ 4 (by decide) (by omega) 1)
          · refine ⟨by (refine ⟨?_, ?_⟩ <;> omega), ?_⟩
            refine ⟨by (refine ⟨?_, ?_⟩ <;> omega), ?_⟩
            refine ⟨_, by first | exact hH.2.1 | exact hH.2.2.2, ⟨by omega, by omega⟩, ?_⟩
            try simp (disch := omega) only [hZ.1.d.n, hZ.1.t.e0, hZ.1.t.e1, hZ.1.t.e2, hZ.1.t.e3, hZ.1.t.e4, hZ.1.t.e5, hZ.1.t.e6]
            refine ⟨fun c750_1 => ?_, fun c750_1 => ?_⟩
            · refine B_L_turn_756 ?_
              try dsimp only
              try simp (disch := omega) only [hZ.1.d.n, hZ.1.t.e0, hZ.1.t.e1, hZ.1.t.e2, hZ.1.t.e3, hZ.1.t.e4, hZ.1.t.e5, hZ.1.t.e6]
              refine KT_seen hG hH hA (y := y) (k := k) hZ hb ⟨h0, hlt⟩ (fun s j p9 p10 hs => ?_) 8 0 0 _ _ (by decide) ⟨by omega, by omega⟩ rfl
              refine B_L_turn_843 ?_
              try dsimp only
              try simp (disch := omega) only [hZ.1.d.n, hZ.1.t.e0, hZ.1.t.e1, hZ.1.t.e2, hZ.1.t.e3, hZ.1.t.e4, hZ.1.t.e5, hZ.1.t.e6]
              refine ⟨fun c845_0 => ?_, fun c845_0 => ?_⟩
              · refine B_L_turn_851 ?_
                try dsimp only
                try simp (disch := omega) only [hZ.1.d.n, hZ.1.t.e0, hZ.1.t.e1, hZ.1.t.e2, hZ.1.t.e3, hZ.1.t.e4, hZ.1.t.e5, hZ.1.t.e6]
                refine ⟨by (refine ⟨?_, ?_⟩ <;> omega), ?_⟩
                refine ⟨by (refine ⟨?_, ?_⟩ <;> omega), ?_⟩
                refine ⟨_, hH.2.1, ⟨by omega, by omega⟩, ?_⟩
                try simp (disch := omega) only [hZ.1.d.n, hZ.1.t.e0, hZ.1.t.e1, hZ.1.t.e2, hZ.1.t.e3, hZ.1.t.e4, hZ.1.t.e5, hZ.1.t.e6]
                refine ⟨by (refine ⟨?_, ?_⟩ <;> omega), ?_⟩
                refine ⟨by (refine ⟨?_, ?_⟩ <;> omega), ?_⟩
                refine ⟨by (refine ⟨?_, ?_⟩ <;> omega), ?_⟩
                refine ⟨by (refine ⟨?_, ?_⟩ <;> omega), ?_⟩
                have hZ2 := LQ_wn hA hZ ⟨h0, hlt⟩ 4 (i := (8 * k + 4).toNat) (by decide) (by omega) 0
                have hcL := hZ.1.t.c h0 hlt
                have r1 : u2 J aT (8 * k + 4).toNat 0 aT (8 * k + 1).toNat = s8 (tf y k.toNat 1) := by
                  rw [u2_ne _ _ (by omega)]
                  exact hZ.1.t.e1 h0 hlt
                refine ⟨_, hH.2.1, ⟨by omega, by omega⟩, ?_⟩
                try simp (disch := omega) only [hZ.1.d.n, hZ.1.t.e0, hZ.1.t.e1, hZ.1.t.e2, hZ.1.t.e3, hZ.1.t.e4, hZ.1.t.e5, hZ.1.t.e6]
                rw [r1]
                refine ⟨_, hH.2.1, ⟨by omega, by omega⟩, ?_⟩
                try simp (disch := omega) only [hZ.1.d.n, hZ.1.t.e0, hZ.1.t.e1, hZ.1.t.e2, hZ.1.t.e3, hZ.1.t.e4, hZ.1.t.e5, hZ.1.t.e6]
                refine hnext _ _ _ _ _ (by omega) ?_
                rw [hsz]
                first
                  | (rw [if_neg (by omega), if_neg (by omega)]; exact hZ)
                  | (rw [if_neg (by omega), if_pos ⟨by omega, by omega, by omega⟩]
                     exact LQ_wc hA hZ2 ⟨h0, by rw [uz_ne _ _ (by omega)]; exact hlt⟩ 3 (Or.inr rfl) (by omega) hcL)
              · refine hnext _ _ _ _ _ (by omega) ?_
                rw [hsz]
                first
                  | (rw [if_neg (by omega), if_neg (by omega)]; exact hZ)
                  | (rw [if_neg (by omega), if_pos ⟨by omega, by omega, by omega⟩]
                     exact LQ_wc hA hZ2 ⟨h0, by rw [uz_ne _ _ (by omega)]; exact hlt⟩ 3 (Or.inr rfl) (by omega) hcL)
            · refine hnext _ _ _ _ _ (by omega) ?_
              rw [hsz]
              first
                | (rw [if_neg (by omega), if_neg (by omega)]; exact hZ)
                | (rw [if_pos ⟨by omega, by omega, by omega⟩]
                   exact LQ_wn hA hZ ⟨h0, hlt⟩ 4 (by decide) (by omega) 1)
        · refine ⟨by (refine ⟨?_, ?_⟩ <;> omega), ?_⟩
          refine ⟨by (refine ⟨?_, ?_⟩ <;> omega), ?_⟩
          refine ⟨_, by first | exact hH.2.1 | exact hH.2.2.2, ⟨by omega, by omega⟩, ?_⟩
          try simp (disch := omega) only [hZ.1.d.n, hZ.1.t.e0, hZ.1.t.e1, hZ.1.t.e2, hZ.1.t.e3, hZ.1.t.e4, hZ.1.t.e5, hZ.1.t.e6]
          refine ⟨by (refine ⟨?_, ?_⟩ <;> omega), ?_⟩
          refine ⟨by (refine ⟨?_, ?_⟩ <;> omega), ?_⟩
          refine ⟨by (refine ⟨?_, ?_⟩ <;> omega), ?_⟩
          refine ⟨_, by first | exact hH.2.1 | exact hH.2.2.2, ⟨by omega, by omega⟩, ?_⟩
          try simp (disch := omega) only [hZ.1.d.n, hZ.1.t.e0, hZ.1.t.e1, hZ.1.t.e2, hZ.1.t.e3, hZ.1.t.e4, hZ.1.t.e5, hZ.1.t.e6]
          refine ⟨fun c711_0 => ?_, fun c711_0 => ?_⟩
          · refine B_L_turn_727 ?_
            try dsimp only
            try simp (disch := omega) only [hZ.1.d.n, hZ.1.t.e0, hZ.1.t.e1, hZ.1.t.e2, hZ.1.t.e3, hZ.1.t.e4, hZ.1.t.e5, hZ.1.t.e6]
            refine ⟨by (refine ⟨?_, ?_⟩ <;> omega), ?_⟩
            refine ⟨by (refine ⟨?_, ?_⟩ <;> omega), ?_⟩
            refine ⟨_, by first | exact hH.2.1 | exact hH.2.2.2, ⟨by omega, by omega⟩, ?_⟩
            try simp (disch := omega) only [hZ.1.d.n, hZ.1.t.e0, hZ.1.t.e1, hZ.1.t.e2, hZ.1.t.e3, hZ.1.t.e4, hZ.1.t.e5, hZ.1.t.e6]
            refine ⟨fun c737_1 => ?_, fun c737_1 => ?_⟩
            · refine hnext _ _ _ _ _ (by omega) ?_
              rw [hsz]
              first
                | (rw [if_neg (by omega), if_neg (by omega)]; exact hZ)
                | (rw [if_pos ⟨by omega, by omega, by omega⟩]
                   exact LQ_wn hA hZ ⟨h0, hlt⟩ 4 (by decide) (by omega) 1)
            · refine ⟨by (refine ⟨?_, ?_⟩ <;> omega), ?_⟩
              refine ⟨by (refine ⟨?_, ?_⟩ <;> omega), ?_⟩
              refine ⟨_, by first | exact hH.2.1 | exact hH.2.2.2, ⟨by omega, by omega⟩, ?_⟩
              try simp (disch := omega) only [hZ.1.d.n, hZ.1.t.e0, hZ.1.t.e1, hZ.1.t.e2, hZ.1.t.e3, hZ.1.t.e4, hZ.1.t.e5, hZ.1.t.e6]
              refine ⟨fun c750_1 => ?_, fun c750_1 => ?_⟩
              · refine B_L_turn_756 ?_
                try dsimp only
                try simp (disch := omega) only [hZ.1.d.n, hZ.1.t.e0, hZ.1.t.e1, hZ.1.t.e2, hZ.1.t.e3, hZ.1.t.e4, hZ.1.t.e5, hZ.1.t.e6]
                refine KT_seen hG hH hA (y := y) (k := k) hZ hb ⟨h0, hlt⟩ (fun s j p9 p10 hs => ?_) 8 0 0 _ _ (by decide) ⟨by omega, by omega⟩ rfl
                refine B_L_turn_843 ?_
                try dsimp only
                try simp (disch := omega) only [hZ.1.d.n, hZ.1.t.e0, hZ.1.t.e1, hZ.1.t.e2, hZ.1.t.e3, hZ.1.t.e4, hZ.1.t.e5, hZ.1.t.e6]
                refine ⟨fun c845_0 => ?_, fun c845_0 => ?_⟩
                · refine B_L_turn_851 ?_
                  try dsimp only
                  try simp (disch := omega) only [hZ.1.d.n, hZ.1.t.e0, hZ.1.t.e1, hZ.1.t.e2, hZ.1.t.e3, hZ.1.t.e4, hZ.1.t.e5, hZ.1.t.e6]
                  refine ⟨by (refine ⟨?_, ?_⟩ <;> omega), ?_⟩
                  refine ⟨by (refine ⟨?_, ?_⟩ <;> omega), ?_⟩
                  refine ⟨_, hH.2.1, ⟨by omega, by omega⟩, ?_⟩
                  try simp (disch := omega) only [hZ.1.d.n, hZ.1.t.e0, hZ.1.t.e1, hZ.1.t.e2, hZ.1.t.e3, hZ.1.t.e4, hZ.1.t.e5, hZ.1.t.e6]
                  refine ⟨by (refine ⟨?_, ?_⟩ <;> omega), ?_⟩
                  refine ⟨by (refine ⟨?_, ?_⟩ <;> omega), ?_⟩
                  refine ⟨by (refine ⟨?_, ?_⟩ <;> omega), ?_⟩
                  refine ⟨by (refine ⟨?_, ?_⟩ <;> omega), ?_⟩
                  have hZ2 := LQ_wn hA hZ ⟨h0, hlt⟩ 4 (i := (8 * k + 4).toNat) (by decide) (by omega) 0
                  have hcL := hZ.1.t.c h0 hlt
                  have r1 : u2 J aT (8 * k + 4).toNat 0 aT (8 * k + 1).toNat = s8 (tf y k.toNat 1) := by
                    rw [u2_ne _ _ (by omega)]
                    exact hZ.1.t.e1 h0 hlt
                  refine ⟨_, hH.2.1, ⟨by omega, by omega⟩, ?_⟩
                  try simp (disch := omega) only [hZ.1.d.n, hZ.1.t.e0, hZ.1.t.e1, hZ.1.t.e2, hZ.1.t.e3, hZ.1.t.e4, hZ.1.t.e5, hZ.1.t.e6]
                  rw [r1]
                  refine ⟨_, hH.2.1, ⟨by omega, by omega⟩, ?_⟩
                  try simp (disch := omega) only [hZ.1.d.n, hZ.1.t.e0, hZ.1.t.e1, hZ.1.t.e2, hZ.1.t.e3, hZ.1.t.e4, hZ.1.t.e5, hZ.1.t.e6]
                  refine hnext _ _ _ _ _ (by omega) ?_
                  rw [hsz]
                  first
                    | (rw [if_neg (by omega), if_neg (by omega)]; exact hZ)
                    | (rw [if_neg (by omega), if_pos ⟨by omega, by omega, by omega⟩]
                       exact LQ_wc hA hZ2 ⟨h0, by rw [uz_ne _ _ (by omega)]; exact hlt⟩ 3 (Or.inr rfl) (by omega) hcL)
                · refine hnext _ _ _ _ _ (by omega) ?_
                  rw [hsz]
                  first
                    | (rw [if_neg (by omega), if_neg (by omega)]; exact hZ)
                    | (rw [if_neg (by omega), if_pos ⟨by omega, by omega, by omega⟩]
                       exact LQ_wc hA hZ2 ⟨h0, by rw [uz_ne _ _ (by omega)]; exact hlt⟩ 3 (Or.inr rfl) (by omega) hcL)
              · refine hnext _ _ _ _ _ (by omega) ?_
                rw [hsz]
                first
                  | (rw [if_neg (by omega), if_neg (by omega)]; exact hZ)
                  | (rw [if_pos ⟨by omega, by omega, by omega⟩]
                     exact LQ_wn hA hZ ⟨h0, hlt⟩ 4 (by decide) (by omega) 1)
          · refine ⟨by (refine ⟨?_, ?_⟩ <;> omega), ?_⟩
            refine ⟨by (refine ⟨?_, ?_⟩ <;> omega), ?_⟩
            refine ⟨_, by first | exact hH.2.1 | exact hH.2.2.2, ⟨by omega, by omega⟩, ?_⟩
            try simp (disch := omega) only [hZ.1.d.n, hZ.1.t.e0, hZ.1.t.e1, hZ.1.t.e2, hZ.1.t.e3, hZ.1.t.e4, hZ.1.t.e5, hZ.1.t.e6]
            refine hnext _ _ _ _ _ (by omega) ?_
            rw [hsz]
            first
              | (rw [if_neg (by omega), if_neg (by omega)]; exact hZ)
              | (rw [if_pos ⟨by omega, by omega, by omega⟩]
                 exact LQ_wn hA hZ ⟨h0, hlt⟩ 4 (by decide) (by omega) 1)
/-- a turn: the law's rows read as the class' row behind it -/
theorem K_turn {G : amG} {I : Nat → Nat → Int} {R : Nat → Nat → Option Nat} {L : Nat → Nat → Int64} {S : List (Nat × Nat)} {c t : Nat} {Q : amR → amH → Prop} (hG : amG0 G) {aT aO aD : Nat} (hH : LH S aT aO aD) (hA : LA aT aO aD) {z : Row} (hZ : LZ I aT aO aD z) (hW : WF z) (hm : z 316 ≤ 1060) (hQ : ∀ (U : List (Nat × Nat)) (J : Nat → Nat → Int) (R' : Nat → Nat → Option Nat) (L' : Nat → Nat → Int64) (c t : Nat), LZ J aT aO aD (passZ z) → FR S.length aT aO aD I J → (∀ a : Nat, a < S.length → R' a = R a) → Q (Sum.inl none) (J, R', L', S ++ U, 0, c, t)) : CT G sL_turn [aR (some 361), aR (some aT), aR (some aO), aR (some aD)] (I, R, L, S, 0, c, t) Q := by
  refine CT_of ok_L_turn hG (Nat.le_of_ble_eq_true rfl) ?_
  show X G mL_turn Q 0 _ [] (I, R, L, S, 0, 1, 64)
  have hT := tick_B hW
  have hwc := hW.2.2
  unfold wfC at hwc
  have hZn := hZ.n
  have hZm := hZ.m
  have hn0 := hW.1.2.1.1
  have e316 := hZ.d.1.1
  have hS := ge_lt hH.1
  refine B_L_turn_0 ?_
  try dsimp only
  refine ⟨⟨rfl, rfl⟩, ?_⟩
  refine ⟨_, hH.2.2.2, ⟨by omega, by omega⟩, ?_⟩
  refine ⟨by (refine ⟨?_, ?_⟩ <;> omega), ?_⟩
  refine ⟨_, hH.2.2.2, ⟨by omega, by omega⟩, ?_⟩
  rw [e316]
  have hZ1 : LQ S.length aT aO aD I (u2 I aD 0 (z 316 + 1)) (uz z 316 (z 316 + 1)) := ⟨LZ_d hA hZ (Or.inl ⟨rfl, rfl⟩) _, FR_u2 (fun _ _ _ _ _ => rfl) (Or.inr (Or.inr rfl)) _ _⟩
  have h7 : ∀ l : Nat, l < 12 → 0 ≤ tf (uz z 316 (z 316 + 1)) l 7 ∧ tf (uz z 316 (z 316 + 1)) l 7 ≤ 100000 := fun l hl => by
    have e : tf (uz z 316 (z 316 + 1)) l 7 = tf z l 7 := uz_ne _ _ (by omega)
    rw [e]
    have := hwc.2.2.2.2.2 l hl
    omega
  refine KT_come hG hH hA (z := uz z 316 (z 316 + 1)) hT.1.2.1 hT.2 (by rw [uz_ne _ _ (by decide)]; exact hZm) h7 (by rw [uz_ne _ _ (by decide)]; omega) (fun J2 k2 o2 y l hy hl hZ2 => ?_) 14 _ _ 0 0 _ (by decide) (by rw [uz_ne _ _ (by decide)]; have := hW.2.1.1.1; omega) rfl rfl hZ1
  have hpa := psA_inv hW
  have hci := cm_inv (wfO_12 hT.1.2.1 hT.2) (by rw [uz_ne _ _ (by decide)]; omega : uz z 316 (z 316 + 1) 195 ≤ 30) (uz z 316 (z 316 + 1) 195).toNat (by rw [uz_ne _ _ (by decide)]; have := hW.2.1.1.1; omega)
  rw [← hy, ← hl] at hci
  have hy195 : y 195 = z 195 := (hci.2.1 195 (by omega) (by decide)).trans (uz_ne _ _ (by decide))
  have hlb := hci.1
  rw [uz_ne _ _ (by decide)] at hlb
  have ho0 := hW.2.1.1.1
  have hZ3 := LQ_d2 hA hZ2 (v := l) (by omega)
  have hca : uz y 195 l = comeAllZ (uz z 316 (z 316 + 1)) := by rw [hy, hl]; rfl
  rw [hca] at hZ3
  have hB := comeAll_B hT.1 hT.2
  refine B_L_turn_137 ?_
  try dsimp only
  refine ⟨_, hH.2.2.2, ⟨by omega, by omega⟩, ?_⟩
  refine ⟨⟨by decide, by decide, by decide, by decide, by first | trivial | rfl⟩, ?_⟩
  have hAl := hA
  unfold LA at hAl
  have lT := ge_lt hH.2.1
  have lO := ge_lt hH.2.2.1
  have lD := ge_lt hH.2.2.2
  have hZ4 : LQ S.length aT aO aD I (u1 (u2 J2 aD 2 l) S.length 0) (comeAllZ (uz z 316 (z 316 + 1))) := ⟨LZ_off hZ3.1 (fun a ha => u1_off _ _ (by rcases ha with q | q | q | q <;> omega)), fun a h1 h2 h3 h4 => by rw [u1_off _ _ (by omega)]; exact hZ3.2 a h1 h2 h3 h4⟩
  have hH2 : LH (S ++ [(20, 64)]) aT aO aD := ⟨ge_at hH.1, ge_at hH.2.1, ge_at hH.2.2.1, ge_at hH.2.2.2⟩
  have hc98 : comeAllZ (uz z 316 (z 316 + 1)) 98 = z 98 := by
    have := hci.2.1 98 (by omega) (by decide)
    rw [← hca, uz_ne _ _ (by decide), this, uz_ne _ _ (by decide)]
  refine KT_march hG hH2 hA (N := S.length) ge_new ⟨Nat.le_refl _, by omega, by omega, by omega, by omega⟩ hB.1 (fun J3 k3 a7 a8 a9 hZ5 => ?_) 8 _ _ 0 _ _ _ (by decide) (by omega) rfl hZ4
  have hps : mchN (comeAllZ (uz z 316 (z 316 + 1))) (comeAllZ (uz z 316 (z 316 + 1)) 98).toNat = psA z := by rw [hc98]; rfl
  rw [hps] at hZ5
  have hp98 : psA z 98 = z 98 := hpa.2.2.1 98 (by omega)
  refine B_L_turn_369 ?_
  try dsimp only
  refine KT_loss hG hH2 hA hpa.1 (fun J4 k4 b7 b8 b9 b10 hZ6 => ?_) 8 _ _ 0 _ _ _ _ (by decide) (by omega) rfl hZ5
  refine B_L_turn_570 ?_
  try dsimp only
  have hff := fA_facts hpa.1 (psA z 98).toNat
  have hfi := fA_inv (z := psA z) (psA z 98).toNat
  have hfT := hff.1
  have h319 : fA (psA z) (psA z 98).toNat 319 = z 319 := (hfi.1 319 (by omega)).trans (hpa.2.2.1 319 (by omega))
  have h320 : fA (psA z) (psA z 98).toNat 320 = z 320 := (hfi.1 320 (by omega)).trans (hpa.2.2.1 320 (by omega))
  refine KT_take hG hH2 hA (y0 := fA (psA z) (psA z 98).toNat) hff.2.2.2 (fun l hl => by have := hfT l hl; unfold wfT1 at this; omega) (by rw [h319, h320]; omega) (fun J5 k5 d7 d8 d9 d10 hZ7 => ?_) 8 _ _ 0 _ _ _ _ (by decide) (by omega) rfl hZ6
  have hfz : fB (fA (psA z) (psA z 98).toNat) (fA (psA z) (psA z 98).toNat 98).toNat = fightZ (psA z) := by rw [hff.2.2.1]; rfl
  rw [hfz] at hZ7
  have hfb := fightZ_B hpa.1
  have hf98 : fightZ (psA z) 98 = z 98 := (fightZ_off hpa.1.2.1 hpa.1.2.2.1 (by omega)).trans hp98
  refine B_L_turn_655 ?_
  try dsimp only
  refine KT_sett hG hH2 hA hfb (fun J6 k6 e7 e8 e9 e10 hZ8 => ?_) 8 _ _ 0 _ _ _ _ (by decide) (by omega) rfl hZ7
  refine B_L_turn_885 ?_
  try dsimp only
  refine ⟨rfl, ?_⟩
  have hpz : setN (fightZ (psA z)) (fightZ (psA z) 98).toNat = passZ z := by rw [hf98]; rfl
  rw [hpz] at hZ8
  exact hQ [(20, 64)] J6 _ _ _ _ hZ8.1 hZ8.2 (fun a ha => u1_off _ _ (by omega))
