theorem C_takesDigit {G : amG} {I : Nat → Nat → Int} {R : Nat → Nat → Option Nat} {L : Nat → Nat → Int64} {x c t : Nat} {Q : amR → amH → Prop} (hG : amG0 G) (hR : RM R) {w d o : Int} {r : Row} {k : Nat} (hk : k ≤ 60) (hp : pI k (w, d, o, r)) {g : Int} (hg : 0 ≤ g ∧ g ≤ 9) (hQ : (okD w d (r (3 * o + w).toNat) g = true → Q (Sum.inl (some (aI 1))) (txH I (w) (d + 1) (o) (uz r (3 * o + w).toNat (nxD d (r (3 * o + w).toNat) g)), R, L, SH, x, 0, 0)) ∧ (okD w d (r (3 * o + w).toNat) g = false → Q (Sum.inl (some (aI 0))) (txH I (w) (d) (o) (r), R, L, SH, x, 0, 0))) : CT G sX10_takesDigit [aR (some 361), aI g] (txH I w d o r, R, L, SH, x, c, t) Q := by
  refine CT_of ok_X10_takesDigit hG (Nat.le_of_ble_eq_true rfl) ?_
  show X G mX10_takesDigit Q 0 _ [] (txH I w d o r, R, L, SH, x, 0, 0)
  have hp' := hp
  unfold pI vS at hp'
  have h1 : 0 ≤ w ∧ w ≤ 2 := hp.1
  have h2 : 0 ≤ o := hp.2.1
  have h3 : 6 * o + 2 * w + (if 0 < d then 1 else 0) ≤ (k : Int) := hp.2.2.1
  have h3a : 6 * o + 2 * w ≤ 60 := by split at h3 <;> omega
  have h4 : d = 0 ∨ (d = 1 ∧ 0 ≤ r (3 * o + w).toNat ∧ r (3 * o + w).toNat ≤ 9) ∨ (d = 2 ∧ 10 ≤ r (3 * o + w).toNat ∧ r (3 * o + w).toNat ≤ 11 ∧ w < 2) := hp.2.2.2.1
  have td3 : (w + 1).tdiv 3 = (w + 1) / 3 := Int.tdiv_eq_ediv_of_nonneg (by omega)
  have tm3 : (w + 1).tmod 3 = (w + 1) % 3 := Int.tmod_eq_emod_of_nonneg (by omega)
  refine B_X10_takesDigit_0 ?_
  try dsimp only
  try simp (disch := omega) only [txH_r, txH_9, txH_10, txH_11, txH_f, txH_o, u2_txH_9, u2_txH_10, u2_txH_11, u2_txH_r, uz_self, Int.add_zero, Int.reduceToNat]
  refine ⟨sh361, ?_⟩
  refine ⟨by (refine ⟨?_, ?_⟩ <;> omega), ?_⟩
  refine ⟨sh361, ?_⟩
  refine ⟨by (refine ⟨?_, ?_⟩ <;> omega), ?_⟩
  refine ⟨sh361, ?_⟩
  refine ⟨fun c16_0 => ?_, fun c16_0 => ?_⟩
  · refine B_X10_takesDigit_23 ?_
    try dsimp only
    try simp (disch := omega) only [txH_r, txH_9, txH_10, txH_11, txH_f, txH_o, u2_txH_9, u2_txH_10, u2_txH_11, u2_txH_r, uz_self, Int.add_zero, Int.reduceToNat]
    refine ⟨sh361, _, hR.read, ?_⟩
    refine ⟨_, sh368, ⟨by omega, by omega⟩, ?_⟩
    try simp (disch := omega) only [txH_r, txH_9, txH_10, txH_11, txH_f, txH_o, u2_txH_9, u2_txH_10, u2_txH_11, u2_txH_r, uz_self, Int.add_zero, Int.reduceToNat]
    refine ⟨by (refine ⟨?_, ?_⟩ <;> omega), ?_⟩
    refine ⟨by (refine ⟨?_, ?_⟩ <;> omega), ?_⟩
    refine B_X10_takesDigit_34 ?_
    try dsimp only
    try simp (disch := omega) only [txH_r, txH_9, txH_10, txH_11, txH_f, txH_o, u2_txH_9, u2_txH_10, u2_txH_11, u2_txH_r, uz_self, Int.add_zero, Int.reduceToNat]
    refine ⟨sh361, ?_⟩
    refine ⟨fun c41_2 => ?_, fun c41_2 => ?_⟩
    · refine B_X10_takesDigit_49 ?_
      try dsimp only
      try simp (disch := omega) only [txH_r, txH_9, txH_10, txH_11, txH_f, txH_o, u2_txH_9, u2_txH_10, u2_txH_11, u2_txH_r, uz_self, Int.add_zero, Int.reduceToNat]
      refine B_X10_takesDigit_51 ?_
      try dsimp only
      try simp (disch := omega) only [txH_r, txH_9, txH_10, txH_11, txH_f, txH_o, u2_txH_9, u2_txH_10, u2_txH_11, u2_txH_r, uz_self, Int.add_zero, Int.reduceToNat]
      refine ⟨fun c51_4 => ?_, fun c51_4 => ?_⟩
      · refine B_X10_takesDigit_74 ?_
        try dsimp only
        try simp (disch := omega) only [txH_r, txH_9, txH_10, txH_11, txH_f, txH_o, u2_txH_9, u2_txH_10, u2_txH_11, u2_txH_r, uz_self, Int.add_zero, Int.reduceToNat]
        refine B_X10_takesDigit_75 ?_
        try dsimp only
        try simp (disch := omega) only [txH_r, txH_9, txH_10, txH_11, txH_f, txH_o, u2_txH_9, u2_txH_10, u2_txH_11, u2_txH_r, uz_self, Int.add_zero, Int.reduceToNat]
        refine ⟨sh361, _, hR.read, ?_⟩
        refine ⟨fun c84_6 => ?_, fun c84_6 => ?_⟩
        · refine B_X10_takesDigit_91 ?_
          try dsimp only
          try simp (disch := omega) only [txH_r, txH_9, txH_10, txH_11, txH_f, txH_o, u2_txH_9, u2_txH_10, u2_txH_11, u2_txH_r, uz_self, Int.add_zero, Int.reduceToNat]
          first
            | (exfalso; omega)
            | exact absurd True.intro (by assumption)
            | (refine ⟨sh361, _, hR.read, ?_⟩
               refine ⟨_, sh368, ⟨by omega, by omega⟩, ?_⟩
               try simp (disch := omega) only [txH_r, txH_9, txH_10, txH_11, txH_f, txH_o, u2_txH_9, u2_txH_10, u2_txH_11, u2_txH_r, uz_self, Int.add_zero, Int.reduceToNat]
               refine B_X10_takesDigit_97 ?_
               try dsimp only
               try simp (disch := omega) only [txH_r, txH_9, txH_10, txH_11, txH_f, txH_o, u2_txH_9, u2_txH_10, u2_txH_11, u2_txH_r, uz_self, Int.add_zero, Int.reduceToNat]
               refine ⟨_, (by first | exact sh362 | exact sh365 | exact sh366 | exact sh363 | exact sh364 | exact sh367 | exact sh368), ⟨by omega, by omega⟩, ?_⟩
               try simp (disch := omega) only [txH_r, txH_9, txH_10, txH_11, txH_f, txH_o, u2_txH_9, u2_txH_10, u2_txH_11, u2_txH_r, uz_self, Int.add_zero, Int.reduceToNat]
               refine ⟨rfl, ?_⟩
               refine ⟨sh361, ?_⟩
               refine ⟨fun c105_8 => ?_, fun c105_8 => ?_⟩
               · refine B_X10_takesDigit_112 ?_
                 try dsimp only
                 try simp (disch := omega) only [txH_r, txH_9, txH_10, txH_11, txH_f, txH_o, u2_txH_9, u2_txH_10, u2_txH_11, u2_txH_r, uz_self, Int.add_zero, Int.reduceToNat]
                 first
                   | (exfalso; omega)
                   | exact absurd True.intro (by assumption)
                   | (refine B_X10_takesDigit_113 ?_
                      try dsimp only
                      try simp (disch := omega) only [txH_r, txH_9, txH_10, txH_11, txH_f, txH_o, u2_txH_9, u2_txH_10, u2_txH_11, u2_txH_r, uz_self, Int.add_zero, Int.reduceToNat]
                      refine ⟨by (refine ⟨?_, ?_⟩ <;> omega), ?_⟩
                      refine ⟨sh361, ?_⟩
                      try simp (disch := omega) only [txH_r, txH_9, txH_10, txH_11, txH_f, txH_o, u2_txH_9, u2_txH_10, u2_txH_11, u2_txH_r, uz_self, Int.add_zero, Int.reduceToNat]
                      first
                        | (exfalso; omega)
                        | exact absurd True.intro (by assumption)
                        | (refine ⟨by first | exact Or.inl rfl | exact Or.inr rfl | exact Or.inl trivial | exact Or.inr trivial | omega, ?_⟩
                           first
                             | exact absurd True.intro (by assumption)
                             | (exfalso; omega)
                             | (have e : okD w d (r (3 * o + w).toNat) g = true := by
                                  unfold okD nxD
                                  refine decide_eq_true ?_
                                  first
                                    | (rw [if_pos (show d = 0 by omega), if_pos (show w < 2 by omega)]; omega)
                                    | (rw [if_pos (show d = 0 by omega), if_neg (show ¬ w < 2 by omega)]; omega)
                                    | (rw [if_neg (show ¬ d = 0 by omega), if_pos (show w < 2 by omega)]; omega)
                                    | (rw [if_neg (show ¬ d = 0 by omega), if_neg (show ¬ w < 2 by omega)]; omega)
                                have hQ := hQ.1 e
                                unfold nxD at hQ
                                first
                                  | (rw [if_pos (show d = 0 by omega)] at hQ; exact hQ)
                                  | (rw [if_neg (show ¬ d = 0 by omega)] at hQ; exact hQ))
                             | (have e : okD w d (r (3 * o + w).toNat) g = false := by
                                  unfold okD nxD
                                  refine decide_eq_false ?_
                                  first
                                    | (rw [if_pos (show d = 0 by omega), if_pos (show w < 2 by omega)]; omega)
                                    | (rw [if_pos (show d = 0 by omega), if_neg (show ¬ w < 2 by omega)]; omega)
                                    | (rw [if_neg (show ¬ d = 0 by omega), if_pos (show w < 2 by omega)]; omega)
                                    | (rw [if_neg (show ¬ d = 0 by omega), if_neg (show ¬ w < 2 by omega)]; omega)
                                exact hQ.2 e)))
               · first
                   | (exfalso; omega)
                   | exact absurd True.intro (by assumption)
                   | (refine B_X10_takesDigit_113 ?_
                      try dsimp only
                      try simp (disch := omega) only [txH_r, txH_9, txH_10, txH_11, txH_f, txH_o, u2_txH_9, u2_txH_10, u2_txH_11, u2_txH_r, uz_self, Int.add_zero, Int.reduceToNat]
                      refine ⟨by (refine ⟨?_, ?_⟩ <;> omega), ?_⟩
                      refine ⟨sh361, ?_⟩
                      try simp (disch := omega) only [txH_r, txH_9, txH_10, txH_11, txH_f, txH_o, u2_txH_9, u2_txH_10, u2_txH_11, u2_txH_r, uz_self, Int.add_zero, Int.reduceToNat]
                      first
                        | (exfalso; omega)
                        | exact absurd True.intro (by assumption)
                        | (refine ⟨by first | exact Or.inl rfl | exact Or.inr rfl | exact Or.inl trivial | exact Or.inr trivial | omega, ?_⟩
                           first
                             | exact absurd True.intro (by assumption)
                             | (exfalso; omega)
                             | (have e : okD w d (r (3 * o + w).toNat) g = true := by
                                  unfold okD nxD
                                  refine decide_eq_true ?_
                                  first
                                    | (rw [if_pos (show d = 0 by omega), if_pos (show w < 2 by omega)]; omega)
                                    | (rw [if_pos (show d = 0 by omega), if_neg (show ¬ w < 2 by omega)]; omega)
                                    | (rw [if_neg (show ¬ d = 0 by omega), if_pos (show w < 2 by omega)]; omega)
                                    | (rw [if_neg (show ¬ d = 0 by omega), if_neg (show ¬ w < 2 by omega)]; omega)
                                have hQ := hQ.1 e
                                unfold nxD at hQ
                                first
                                  | (rw [if_pos (show d = 0 by omega)] at hQ; exact hQ)
                                  | (rw [if_neg (show ¬ d = 0 by omega)] at hQ; exact hQ))
                             | (have e : okD w d (r (3 * o + w).toNat) g = false := by
                                  unfold okD nxD
                                  refine decide_eq_false ?_
                                  first
                                    | (rw [if_pos (show d = 0 by omega), if_pos (show w < 2 by omega)]; omega)
                                    | (rw [if_pos (show d = 0 by omega), if_neg (show ¬ w < 2 by omega)]; omega)
                                    | (rw [if_neg (show ¬ d = 0 by omega), if_pos (show w < 2 by omega)]; omega)
                                    | (rw [if_neg (show ¬ d = 0 by omega), if_neg (show ¬ w < 2 by omega)]; omega)
                                exact hQ.2 e))))
        · first
            | (exfalso; omega)
            | exact absurd True.intro (by assumption)
            | (refine B_X10_takesDigit_97 ?_
               try dsimp only
               try simp (disch := omega) only [txH_r, txH_9, txH_10, txH_11, txH_f, txH_o, u2_txH_9, u2_txH_10, u2_txH_11, u2_txH_r, uz_self, Int.add_zero, Int.reduceToNat]
               refine ⟨_, (by first | exact sh362 | exact sh365 | exact sh366 | exact sh363 | exact sh364 | exact sh367 | exact sh368), ⟨by omega, by omega⟩, ?_⟩
               try simp (disch := omega) only [txH_r, txH_9, txH_10, txH_11, txH_f, txH_o, u2_txH_9, u2_txH_10, u2_txH_11, u2_txH_r, uz_self, Int.add_zero, Int.reduceToNat]
               refine ⟨rfl, ?_⟩
               refine ⟨sh361, ?_⟩
               refine ⟨fun c105_7 => ?_, fun c105_7 => ?_⟩
               · refine B_X10_takesDigit_112 ?_
                 try dsimp only
                 try simp (disch := omega) only [txH_r, txH_9, txH_10, txH_11, txH_f, txH_o, u2_txH_9, u2_txH_10, u2_txH_11, u2_txH_r, uz_self, Int.add_zero, Int.reduceToNat]
                 first
                   | (exfalso; omega)
                   | exact absurd True.intro (by assumption)
                   | (refine B_X10_takesDigit_113 ?_
                      try dsimp only
                      try simp (disch := omega) only [txH_r, txH_9, txH_10, txH_11, txH_f, txH_o, u2_txH_9, u2_txH_10, u2_txH_11, u2_txH_r, uz_self, Int.add_zero, Int.reduceToNat]
                      refine ⟨by (refine ⟨?_, ?_⟩ <;> omega), ?_⟩
                      refine ⟨sh361, ?_⟩
                      try simp (disch := omega) only [txH_r, txH_9, txH_10, txH_11, txH_f, txH_o, u2_txH_9, u2_txH_10, u2_txH_11, u2_txH_r, uz_self, Int.add_zero, Int.reduceToNat]
                      first
                        | (exfalso; omega)
                        | exact absurd True.intro (by assumption)
                        | (refine ⟨by first | exact Or.inl rfl | exact Or.inr rfl | exact Or.inl trivial | exact Or.inr trivial | omega, ?_⟩
                           first
                             | exact absurd True.intro (by assumption)
                             | (exfalso; omega)
                             | (have e : okD w d (r (3 * o + w).toNat) g = true := by
                                  unfold okD nxD
                                  refine decide_eq_true ?_
                                  first
                                    | (rw [if_pos (show d = 0 by omega), if_pos (show w < 2 by omega)]; omega)
                                    | (rw [if_pos (show d = 0 by omega), if_neg (show ¬ w < 2 by omega)]; omega)
                                    | (rw [if_neg (show ¬ d = 0 by omega), if_pos (show w < 2 by omega)]; omega)
                                    | (rw [if_neg (show ¬ d = 0 by omega), if_neg (show ¬ w < 2 by omega)]; omega)
                                have hQ := hQ.1 e
                                unfold nxD at hQ
                                first
                                  | (rw [if_pos (show d = 0 by omega)] at hQ; exact hQ)
                                  | (rw [if_neg (show ¬ d = 0 by omega)] at hQ; exact hQ))
                             | (have e : okD w d (r (3 * o + w).toNat) g = false := by
                                  unfold okD nxD
                                  refine decide_eq_false ?_
                                  first
                                    | (rw [if_pos (show d = 0 by omega), if_pos (show w < 2 by omega)]; omega)
                                    | (rw [if_pos (show d = 0 by omega), if_neg (show ¬ w < 2 by omega)]; omega)
                                    | (rw [if_neg (show ¬ d = 0 by omega), if_pos (show w < 2 by omega)]; omega)
                                    | (rw [if_neg (show ¬ d = 0 by omega), if_neg (show ¬ w < 2 by omega)]; omega)
                                exact hQ.2 e)))
               · first
                   | (exfalso; omega)
                   | exact absurd True.intro (by assumption)
                   | (refine B_X10_takesDigit_113 ?_
                      try dsimp only
                      try simp (disch := omega) only [txH_r, txH_9, txH_10, txH_11, txH_f, txH_o, u2_txH_9, u2_txH_10, u2_txH_11, u2_txH_r, uz_self, Int.add_zero, Int.reduceToNat]
                      refine ⟨by (refine ⟨?_, ?_⟩ <;> omega), ?_⟩
                      refine ⟨sh361, ?_⟩
                      try simp (disch := omega) only [txH_r, txH_9, txH_10, txH_11, txH_f, txH_o, u2_txH_9, u2_txH_10, u2_txH_11, u2_txH_r, uz_self, Int.add_zero, Int.reduceToNat]
                      first
                        | (exfalso; omega)
                        | exact absurd True.intro (by assumption)
                        | (refine ⟨by first | exact Or.inl rfl | exact Or.inr rfl | exact Or.inl trivial | exact Or.inr trivial | omega, ?_⟩
                           first
                             | exact absurd True.intro (by assumption)
                             | (exfalso; omega)
                             | (have e : okD w d (r (3 * o + w).toNat) g = true := by
                                  unfold okD nxD
                                  refine decide_eq_true ?_
                                  first
                                    | (rw [if_pos (show d = 0 by omega), if_pos (show w < 2 by omega)]; omega)
                                    | (rw [if_pos (show d = 0 by omega), if_neg (show ¬ w < 2 by omega)]; omega)
                                    | (rw [if_neg (show ¬ d = 0 by omega), if_pos (show w < 2 by omega)]; omega)
                                    | (rw [if_neg (show ¬ d = 0 by omega), if_neg (show ¬ w < 2 by omega)]; omega)
                                have hQ := hQ.1 e
                                unfold nxD at hQ
                                first
                                  | (rw [if_pos (show d = 0 by omega)] at hQ; exact hQ)
                                  | (rw [if_neg (show ¬ d = 0 by omega)] at hQ; exact hQ))
                             | (have e : okD w d (r (3 * o + w).toNat) g = false := by
                                  unfold okD nxD
                                  refine decide_eq_false ?_
                                  first
                                    | (rw [if_pos (show d = 0 by omega), if_pos (show w < 2 by omega)]; omega)
                                    | (rw [if_pos (show d = 0 by omega), if_neg (show ¬ w < 2 by omega)]; omega)
                                    | (rw [if_neg (show ¬ d = 0 by omega), if_pos (show w < 2 by omega)]; omega)
                                    | (rw [if_neg (show ¬ d = 0 by omega), if_neg (show ¬ w < 2 by omega)]; omega)
                                exact hQ.2 e))))
      · refine ⟨sh361, ?_⟩
        refine ⟨fun c58_4 => ?_, fun c58_4 => ?_⟩
        · refine B_X10_takesDigit_70 ?_
          try dsimp only
          try simp (disch := omega) only [txH_r, txH_9, txH_10, txH_11, txH_f, txH_o, u2_txH_9, u2_txH_10, u2_txH_11, u2_txH_r, uz_self, Int.add_zero, Int.reduceToNat]
          refine B_X10_takesDigit_75 ?_
          try dsimp only
          try simp (disch := omega) only [txH_r, txH_9, txH_10, txH_11, txH_f, txH_o, u2_txH_9, u2_txH_10, u2_txH_11, u2_txH_r, uz_self, Int.add_zero, Int.reduceToNat]
          refine ⟨sh361, _, hR.read, ?_⟩
          refine ⟨fun c84_6 => ?_, fun c84_6 => ?_⟩
          · refine B_X10_takesDigit_91 ?_
            try dsimp only
            try simp (disch := omega) only [txH_r, txH_9, txH_10, txH_11, txH_f, txH_o, u2_txH_9, u2_txH_10, u2_txH_11, u2_txH_r, uz_self, Int.add_zero, Int.reduceToNat]
            first
              | (exfalso; omega)
              | exact absurd True.intro (by assumption)
              | (refine ⟨sh361, _, hR.read, ?_⟩
                 refine ⟨_, sh368, ⟨by omega, by omega⟩, ?_⟩
                 try simp (disch := omega) only [txH_r, txH_9, txH_10, txH_11, txH_f, txH_o, u2_txH_9, u2_txH_10, u2_txH_11, u2_txH_r, uz_self, Int.add_zero, Int.reduceToNat]
                 refine B_X10_takesDigit_97 ?_
                 try dsimp only
                 try simp (disch := omega) only [txH_r, txH_9, txH_10, txH_11, txH_f, txH_o, u2_txH_9, u2_txH_10, u2_txH_11, u2_txH_r, uz_self, Int.add_zero, Int.reduceToNat]
                 refine ⟨_, (by first | exact sh362 | exact sh365 | exact sh366 | exact sh363 | exact sh364 | exact sh367 | exact sh368), ⟨by omega, by omega⟩, ?_⟩
                 try simp (disch := omega) only [txH_r, txH_9, txH_10, txH_11, txH_f, txH_o, u2_txH_9, u2_txH_10, u2_txH_11, u2_txH_r, uz_self, Int.add_zero, Int.reduceToNat]
                 refine ⟨rfl, ?_⟩
                 refine ⟨sh361, ?_⟩
                 refine ⟨fun c105_8 => ?_, fun c105_8 => ?_⟩
                 · refine B_X10_takesDigit_112 ?_
                   try dsimp only
                   try simp (disch := omega) only [txH_r, txH_9, txH_10, txH_11, txH_f, txH_o, u2_txH_9, u2_txH_10, u2_txH_11, u2_txH_r, uz_self, Int.add_zero, Int.reduceToNat]
                   first
                     | (exfalso; omega)
                     | exact absurd True.intro (by assumption)
                     | (refine B_X10_takesDigit_113 ?_
                        try dsimp only
                        try simp (disch := omega) only [txH_r, txH_9, txH_10, txH_11, txH_f, txH_o, u2_txH_9, u2_txH_10, u2_txH_11, u2_txH_r, uz_self, Int.add_zero, Int.reduceToNat]
                        refine ⟨by (refine ⟨?_, ?_⟩ <;> omega), ?_⟩
                        refine ⟨sh361, ?_⟩
                        try simp (disch := omega) only [txH_r, txH_9, txH_10, txH_11, txH_f, txH_o, u2_txH_9, u2_txH_10, u2_txH_11, u2_txH_r, uz_self, Int.add_zero, Int.reduceToNat]
                        first
                          | (exfalso; omega)
                          | exact absurd True.intro (by assumption)
                          | (refine ⟨by first | exact Or.inl rfl | exact Or.inr rfl | exact Or.inl trivial | exact Or.inr trivial | omega, ?_⟩
                             first
                               | exact absurd True.intro (by assumption)
                               | (exfalso; omega)
                               | (have e : okD w d (r (3 * o + w).toNat) g = true := by
                                    unfold okD nxD
                                    refine decide_eq_true ?_
                                    first
                                      | (rw [if_pos (show d = 0 by omega), if_pos (show w < 2 by omega)]; omega)
                                      | (rw [if_pos (show d = 0 by omega), if_neg (show ¬ w < 2 by omega)]; omega)
                                      | (rw [if_neg (show ¬ d = 0 by omega), if_pos (show w < 2 by omega)]; omega)
                                      | (rw [if_neg (show ¬ d = 0 by omega), if_neg (show ¬ w < 2 by omega)]; omega)
                                  have hQ := hQ.1 e
                                  unfold nxD at hQ
                                  first
                                    | (rw [if_pos (show d = 0 by omega)] at hQ; exact hQ)
                                    | (rw [if_neg (show ¬ d = 0 by omega)] at hQ; exact hQ))
                               | (have e : okD w d (r (3 * o + w).toNat) g = false := by
                                    unfold okD nxD
                                    refine decide_eq_false ?_
                                    first
                                      | (rw [if_pos (show d = 0 by omega), if_pos (show w < 2 by omega)]; omega)
                                      | (rw [if_pos (show d = 0 by omega), if_neg (show ¬ w < 2 by omega)]; omega)
                                      | (rw [if_neg (show ¬ d = 0 by omega), if_pos (show w < 2 by omega)]; omega)
                                      | (rw [if_neg (show ¬ d = 0 by omega), if_neg (show ¬ w < 2 by omega)]; omega)
                                  exact hQ.2 e)))
                 · first
                     | (exfalso; omega)
                     | exact absurd True.intro (by assumption)
                     | (refine B_X10_takesDigit_113 ?_
                        try dsimp only
                        try simp (disch := omega) only [txH_r, txH_9, txH_10, txH_11, txH_f, txH_o, u2_txH_9, u2_txH_10, u2_txH_11, u2_txH_r, uz_self, Int.add_zero, Int.reduceToNat]
                        refine ⟨by (refine ⟨?_, ?_⟩ <;> omega), ?_⟩
                        refine ⟨sh361, ?_⟩
                        try simp (disch := omega) only [txH_r, txH_9, txH_10, txH_11, txH_f, txH_o, u2_txH_9, u2_txH_10, u2_txH_11, u2_txH_r, uz_self, Int.add_zero, Int.reduceToNat]
                        first
                          | (exfalso; omega)
                          | exact absurd True.intro (by assumption)
                          | (refine ⟨by first | exact Or.inl rfl | exact Or.inr rfl | exact Or.inl trivial | exact Or.inr trivial | omega, ?_⟩
                             first
                               | exact absurd True.intro (by assumption)
                               | (exfalso; omega)
                               | (have e : okD w d (r (3 * o + w).toNat) g = true := by
                                    unfold okD nxD
                                    refine decide_eq_true ?_
                                    first
                                      | (rw [if_pos (show d = 0 by omega), if_pos (show w < 2 by omega)]; omega)
                                      | (rw [if_pos (show d = 0 by omega), if_neg (show ¬ w < 2 by omega)]; omega)
                                      | (rw [if_neg (show ¬ d = 0 by omega), if_pos (show w < 2 by omega)]; omega)
                                      | (rw [if_neg (show ¬ d = 0 by omega), if_neg (show ¬ w < 2 by omega)]; omega)
                                  have hQ := hQ.1 e
                                  unfold nxD at hQ
                                  first
                                    | (rw [if_pos (show d = 0 by omega)] at hQ; exact hQ)
                                    | (rw [if_neg (show ¬ d = 0 by omega)] at hQ; exact hQ))
                               | (have e : okD w d (r (3 * o + w).toNat) g = false := by
                                    unfold okD nxD
                                    refine decide_eq_false ?_
                                    first
                                      | (rw [if_pos (show d = 0 by omega), if_pos (show w < 2 by omega)]; omega)
                                      | (rw [if_pos (show d = 0 by omega), if_neg (show ¬ w < 2 by omega)]; omega)
                                      | (rw [if_neg (show ¬ d = 0 by omega), if_pos (show w < 2 by omega)]; omega)
                                      | (rw [if_neg (show ¬ d = 0 by omega), if_neg (show ¬ w < 2 by omega)]; omega)
                                  exact hQ.2 e))))
          · first
              | (exfalso; omega)
              | exact absurd True.intro (by assumption)
              | (refine B_X10_takesDigit_97 ?_
                 try dsimp only
                 try simp (disch := omega) only [txH_r, txH_9, txH_10, txH_11, txH_f, txH_o, u2_txH_9, u2_txH_10, u2_txH_11, u2_txH_r, uz_self, Int.add_zero, Int.reduceToNat]
                 refine ⟨_, (by first | exact sh362 | exact sh365 | exact sh366 | exact sh363 | exact sh364 | exact sh367 | exact sh368), ⟨by omega, by omega⟩, ?_⟩
                 try simp (disch := omega) only [txH_r, txH_9, txH_10, txH_11, txH_f, txH_o, u2_txH_9, u2_txH_10, u2_txH_11, u2_txH_r, uz_self, Int.add_zero, Int.reduceToNat]
                 refine ⟨rfl, ?_⟩
                 refine ⟨sh361, ?_⟩
                 refine ⟨fun c105_7 => ?_, fun c105_7 => ?_⟩
                 · refine B_X10_takesDigit_112 ?_
                   try dsimp only
                   try simp (disch := omega) only [txH_r, txH_9, txH_10, txH_11, txH_f, txH_o, u2_txH_9, u2_txH_10, u2_txH_11, u2_txH_r, uz_self, Int.add_zero, Int.reduceToNat]
                   first
                     | (exfalso; omega)
                     | exact absurd True.intro (by assumption)
                     | (refine B_X10_takesDigit_113 ?_
                        try dsimp only
                        try simp (disch := omega) only [txH_r, txH_9, txH_10, txH_11, txH_f, txH_o, u2_txH_9, u2_txH_10, u2_txH_11, u2_txH_r, uz_self, Int.add_zero, Int.reduceToNat]
                        refine ⟨by (refine ⟨?_, ?_⟩ <;> omega), ?_⟩
                        refine ⟨sh361, ?_⟩
                        try simp (disch := omega) only [txH_r, txH_9, txH_10, txH_11, txH_f, txH_o, u2_txH_9, u2_txH_10, u2_txH_11, u2_txH_r, uz_self, Int.add_zero, Int.reduceToNat]
                        first
                          | (exfalso; omega)
                          | exact absurd True.intro (by assumption)
                          | (refine ⟨by first | exact Or.inl rfl | exact Or.inr rfl | exact Or.inl trivial | exact Or.inr trivial | omega, ?_⟩
                             first
                               | exact absurd True.intro (by assumption)
                               | (exfalso; omega)
                               | (have e : okD w d (r (3 * o + w).toNat) g = true := by
                                    unfold okD nxD
                                    refine decide_eq_true ?_
                                    first
                                      | (rw [if_pos (show d = 0 by omega), if_pos (show w < 2 by omega)]; omega)
                                      | (rw [if_pos (show d = 0 by omega), if_neg (show ¬ w < 2 by omega)]; omega)
                                      | (rw [if_neg (show ¬ d = 0 by omega), if_pos (show w < 2 by omega)]; omega)
                                      | (rw [if_neg (show ¬ d = 0 by omega), if_neg (show ¬ w < 2 by omega)]; omega)
                                  have hQ := hQ.1 e
                                  unfold nxD at hQ
                                  first
                                    | (rw [if_pos (show d = 0 by omega)] at hQ; exact hQ)
                                    | (rw [if_neg (show ¬ d = 0 by omega)] at hQ; exact hQ))
                               | (have e : okD w d (r (3 * o + w).toNat) g = false := by
                                    unfold okD nxD
                                    refine decide_eq_false ?_
                                    first
                                      | (rw [if_pos (show d = 0 by omega), if_pos (show w < 2 by omega)]; omega)
                                      | (rw [if_pos (show d = 0 by omega), if_neg (show ¬ w < 2 by omega)]; omega)
                                      | (rw [if_neg (show ¬ d = 0 by omega), if_pos (show w < 2 by omega)]; omega)
                                      | (rw [if_neg (show ¬ d = 0 by omega), if_neg (show ¬ w < 2 by omega)]; omega)
                                  exact hQ.2 e)))
                 · first
                     | (exfalso; omega)
                     | exact absurd True.intro (by assumption)
                     | (refine B_X10_takesDigit_113 ?_
                        try dsimp only
                        try simp (disch := omega) only [txH_r, txH_9, txH_10, txH_11, txH_f, txH_o, u2_txH_9, u2_txH_10, u2_txH_11, u2_txH_r, uz_self, Int.add_zero, Int.reduceToNat]
                        refine ⟨by (refine ⟨?_, ?_⟩ <;> omega), ?_⟩
                        refine ⟨sh361, ?_⟩
                        try simp (disch := omega) only [txH_r, txH_9, txH_10, txH_11, txH_f, txH_o, u2_txH_9, u2_txH_10, u2_txH_11, u2_txH_r, uz_self, Int.add_zero, Int.reduceToNat]
                        first
                          | (exfalso; omega)
                          | exact absurd True.intro (by assumption)
                          | (refine ⟨by first | exact Or.inl rfl | exact Or.inr rfl | exact Or.inl trivial | exact Or.inr trivial | omega, ?_⟩
                             first
                               | exact absurd True.intro (by assumption)
                               | (exfalso; omega)
                               | (have e : okD w d (r (3 * o + w).toNat) g = true := by
                                    unfold okD nxD
                                    refine decide_eq_true ?_
                                    first
                                      | (rw [if_pos (show d = 0 by omega), if_pos (show w < 2 by omega)]; omega)
                                      | (rw [if_pos (show d = 0 by omega), if_neg (show ¬ w < 2 by omega)]; omega)
                                      | (rw [if_neg (show ¬ d = 0 by omega), if_pos (show w < 2 by omega)]; omega)
                                      | (rw [if_neg (show ¬ d = 0 by omega), if_neg (show ¬ w < 2 by omega)]; omega)
                                  have hQ := hQ.1 e
                                  unfold nxD at hQ
                                  first
                                    | (rw [if_pos (show d = 0 by omega)] at hQ; exact hQ)
                                    | (rw [if_neg (show ¬ d = 0 by omega)] at hQ; exact hQ))
                               | (have e : okD w d (r (3 * o + w).toNat) g = false := by
                                    unfold okD nxD
                                    refine decide_eq_false ?_
                                    first
                                      | (rw [if_pos (show d = 0 by omega), if_pos (show w < 2 by omega)]; omega)
                                      | (rw [if_pos (show d = 0 by omega), if_neg (show ¬ w < 2 by omega)]; omega)
                                      | (rw [if_neg (show ¬ d = 0 by omega), if_pos (show w < 2 by omega)]; omega)
                                      | (rw [if_neg (show ¬ d = 0 by omega), if_neg (show ¬ w < 2 by omega)]; omega)
                                  exact hQ.2 e))))
        · refine ⟨sh361, _, hR.read, ?_⟩
          refine ⟨_, sh368, ⟨by omega, by omega⟩, ?_⟩
          try simp (disch := omega) only [txH_r, txH_9, txH_10, txH_11, txH_f, txH_o, u2_txH_9, u2_txH_10, u2_txH_11, u2_txH_r, uz_self, Int.add_zero, Int.reduceToNat]
          refine ⟨fun c67_4 => ?_, fun c67_4 => ?_⟩
          · refine B_X10_takesDigit_74 ?_
            try dsimp only
            try simp (disch := omega) only [txH_r, txH_9, txH_10, txH_11, txH_f, txH_o, u2_txH_9, u2_txH_10, u2_txH_11, u2_txH_r, uz_self, Int.add_zero, Int.reduceToNat]
            refine B_X10_takesDigit_75 ?_
            try dsimp only
            try simp (disch := omega) only [txH_r, txH_9, txH_10, txH_11, txH_f, txH_o, u2_txH_9, u2_txH_10, u2_txH_11, u2_txH_r, uz_self, Int.add_zero, Int.reduceToNat]
            refine ⟨sh361, _, hR.read, ?_⟩
            refine ⟨fun c84_6 => ?_, fun c84_6 => ?_⟩
            · refine B_X10_takesDigit_91 ?_
              try dsimp only
              try simp (disch := omega) only [txH_r, txH_9, txH_10, txH_11, txH_f, txH_o, u2_txH_9, u2_txH_10, u2_txH_11, u2_txH_r, uz_self, Int.add_zero, Int.reduceToNat]
              first
                | (exfalso; omega)
                | exact absurd True.intro (by assumption)
                | (refine ⟨sh361, _, hR.read, ?_⟩
                   refine ⟨_, sh368, ⟨by omega, by omega⟩, ?_⟩
                   try simp (disch := omega) only [txH_r, txH_9, txH_10, txH_11, txH_f, txH_o, u2_txH_9, u2_txH_10, u2_txH_11, u2_txH_r, uz_self, Int.add_zero, Int.reduceToNat]
                   refine B_X10_takesDigit_97 ?_
                   try dsimp only
                   try simp (disch := omega) only [txH_r, txH_9, txH_10, txH_11, txH_f, txH_o, u2_txH_9, u2_txH_10, u2_txH_11, u2_txH_r, uz_self, Int.add_zero, Int.reduceToNat]
                   refine ⟨_, (by first | exact sh362 | exact sh365 | exact sh366 | exact sh363 | exact sh364 | exact sh367 | exact sh368), ⟨by omega, by omega⟩, ?_⟩
                   try simp (disch := omega) only [txH_r, txH_9, txH_10, txH_11, txH_f, txH_o, u2_txH_9, u2_txH_10, u2_txH_11, u2_txH_r, uz_self, Int.add_zero, Int.reduceToNat]
                   refine ⟨rfl, ?_⟩
                   refine ⟨sh361, ?_⟩
                   refine ⟨fun c105_8 => ?_, fun c105_8 => ?_⟩
                   · refine B_X10_takesDigit_112 ?_
                     try dsimp only
                     try simp (disch := omega) only [txH_r, txH_9, txH_10, txH_11, txH_f, txH_o, u2_txH_9, u2_txH_10, u2_txH_11, u2_txH_r, uz_self, Int.add_zero, Int.reduceToNat]
                     first
                       | (exfalso; omega)
                       | exact absurd True.intro (by assumption)
                       | (refine B_X10_takesDigit_113 ?_
                          try dsimp only
                          try simp (disch := omega) only [txH_r, txH_9, txH_10, txH_11, txH_f, txH_o, u2_txH_9, u2_txH_10, u2_txH_11, u2_txH_r, uz_self, Int.add_zero, Int.reduceToNat]
                          refine ⟨by (refine ⟨?_, ?_⟩ <;> omega), ?_⟩
                          refine ⟨sh361, ?_⟩
                          try simp (disch := omega) only [txH_r, txH_9, txH_10, txH_11, txH_f, txH_o, u2_txH_9, u2_txH_10, u2_txH_11, u2_txH_r, uz_self, Int.add_zero, Int.reduceToNat]
                          first
                            | (exfalso; omega)
                            | exact absurd True.intro (by assumption)
                            | (refine ⟨by first | exact Or.inl rfl | exact Or.inr rfl | exact Or.inl trivial | exact Or.inr trivial | omega, ?_⟩
                               first
                                 | exact absurd True.intro (by assumption)
                                 | (exfalso; omega)
                                 | (have e : okD w d (r (3 * o + w).toNat) g = true := by
                                      unfold okD nxD
                                      refine decide_eq_true ?_
                                      first
                                        | (rw [if_pos (show d = 0 by omega), if_pos (show w < 2 by omega)]; omega)
                                        | (rw [if_pos (show d = 0 by omega), if_neg (show ¬ w < 2 by omega)]; omega)
                                        | (rw [if_neg (show ¬ d = 0 by omega), if_pos (show w < 2 by omega)]; omega)
                                        | (rw [if_neg (show ¬ d = 0 by omega), if_neg (show ¬ w < 2 by omega)]; omega)
                                    have hQ := hQ.1 e
                                    unfold nxD at hQ
                                    first
                                      | (rw [if_pos (show d = 0 by omega)] at hQ; exact hQ)
                                      | (rw [if_neg (show ¬ d = 0 by omega)] at hQ; exact hQ))
                                 | (have e : okD w d (r (3 * o + w).toNat) g = false := by
                                      unfold okD nxD
                                      refine decide_eq_false ?_
                                      first
                                        | (rw [if_pos (show d = 0 by omega), if_pos (show w < 2 by omega)]; omega)
                                        | (rw [if_pos (show d = 0 by omega), if_neg (show ¬ w < 2 by omega)]; omega)
                                        | (rw [if_neg (show ¬ d = 0 by omega), if_pos (show w < 2 by omega)]; omega)
                                        | (rw [if_neg (show ¬ d = 0 by omega), if_neg (show ¬ w < 2 by omega)]; omega)
                                    exact hQ.2 e)))
                   · first
                       | (exfalso; omega)
                       | exact absurd True.intro (by assumption)
                       | (refine B_X10_takesDigit_113 ?_
                          try dsimp only
                          try simp (disch := omega) only [txH_r, txH_9, txH_10, txH_11, txH_f, txH_o, u2_txH_9, u2_txH_10, u2_txH_11, u2_txH_r, uz_self, Int.add_zero, Int.reduceToNat]
                          refine ⟨by (refine ⟨?_, ?_⟩ <;> omega), ?_⟩
                          refine ⟨sh361, ?_⟩
                          try simp (disch := omega) only [txH_r, txH_9, txH_10, txH_11, txH_f, txH_o, u2_txH_9, u2_txH_10, u2_txH_11, u2_txH_r, uz_self, Int.add_zero, Int.reduceToNat]
                          first
                            | (exfalso; omega)
                            | exact absurd True.intro (by assumption)
                            | (refine ⟨by first | exact Or.inl rfl | exact Or.inr rfl | exact Or.inl trivial | exact Or.inr trivial | omega, ?_⟩
                               first
                                 | exact absurd True.intro (by assumption)
                                 | (exfalso; omega)
                                 | (have e : okD w d (r (3 * o + w).toNat) g = true := by
                                      unfold okD nxD
                                      refine decide_eq_true ?_
                                      first
                                        | (rw [if_pos (show d = 0 by omega), if_pos (show w < 2 by omega)]; omega)
                                        | (rw [if_pos (show d = 0 by omega), if_neg (show ¬ w < 2 by omega)]; omega)
                                        | (rw [if_neg (show ¬ d = 0 by omega), if_pos (show w < 2 by omega)]; omega)
                                        | (rw [if_neg (show ¬ d = 0 by omega), if_neg (show ¬ w < 2 by omega)]; omega)
                                    have hQ := hQ.1 e
                                    unfold nxD at hQ
                                    first
                                      | (rw [if_pos (show d = 0 by omega)] at hQ; exact hQ)
                                      | (rw [if_neg (show ¬ d = 0 by omega)] at hQ; exact hQ))
                                 | (have e : okD w d (r (3 * o + w).toNat) g = false := by
                                      unfold okD nxD
                                      refine decide_eq_false ?_
                                      first
                                        | (rw [if_pos (show d = 0 by omega), if_pos (show w < 2 by omega)]; omega)
                                        | (rw [if_pos (show d = 0 by omega), if_neg (show ¬ w < 2 by omega)]; omega)
                                        | (rw [if_neg (show ¬ d = 0 by omega), if_pos (show w < 2 by omega)]; omega)
                                        | (rw [if_neg (show ¬ d = 0 by omega), if_neg (show ¬ w < 2 by omega)]; omega)
                                    exact hQ.2 e))))
            · first
                | (exfalso; omega)
                | exact absurd True.intro (by assumption)
                | (refine B_X10_takesDigit_97 ?_
                   try dsimp only
                   try simp (disch := omega) only [txH_r, txH_9, txH_10, txH_11, txH_f, txH_o, u2_txH_9, u2_txH_10, u2_txH_11, u2_txH_r, uz_self, Int.add_zero, Int.reduceToNat]
                   refine ⟨_, (by first | exact sh362 | exact sh365 | exact sh366 | exact sh363 | exact sh364 | exact sh367 | exact sh368), ⟨by omega, by omega⟩, ?_⟩
                   try simp (disch := omega) only [txH_r, txH_9, txH_10, txH_11, txH_f, txH_o, u2_txH_9, u2_txH_10, u2_txH_11, u2_txH_r, uz_self, Int.add_zero, Int.reduceToNat]
                   refine ⟨rfl, ?_⟩
                   refine ⟨sh361, ?_⟩
                   refine ⟨fun c105_7 => ?_, fun c105_7 => ?_⟩
                   · refine B_X10_takesDigit_112 ?_
                     try dsimp only
                     try simp (disch := omega) only [txH_r, txH_9, txH_10, txH_11, txH_f, txH_o, u2_txH_9, u2_txH_10, u2_txH_11, u2_txH_r, uz_self, Int.add_zero, Int.reduceToNat]
                     first
                       | (exfalso; omega)
                       | exact absurd True.intro (by assumption)
                       | (refine B_X10_takesDigit_113 ?_
                          try dsimp only
                          try simp (disch := omega) only [txH_r, txH_9, txH_10, txH_11, txH_f, txH_o, u2_txH_9, u2_txH_10, u2_txH_11, u2_txH_r, uz_self, Int.add_zero, Int.reduceToNat]
                          refine ⟨by (refine ⟨?_, ?_⟩ <;> omega), ?_⟩
                          refine ⟨sh361, ?_⟩
                          try simp (disch := omega) only [txH_r, txH_9, txH_10, txH_11, txH_f, txH_o, u2_txH_9, u2_txH_10, u2_txH_11, u2_txH_r, uz_self, Int.add_zero, Int.reduceToNat]
                          first
                            | (exfalso; omega)
                            | exact absurd True.intro (by assumption)
                            | (refine ⟨by first | exact Or.inl rfl | exact Or.inr rfl | exact Or.inl trivial | exact Or.inr trivial | omega, ?_⟩
                               first
                                 | exact absurd True.intro (by assumption)
                                 | (exfalso; omega)
                                 | (have e : okD w d (r (3 * o + w).toNat) g = true := by
                                      unfold okD nxD
                                      refine decide_eq_true ?_
                                      first
                                        | (rw [if_pos (show d = 0 by omega), if_pos (show w < 2 by omega)]; omega)
                                        | (rw [if_pos (show d = 0 by omega), if_neg (show ¬ w < 2 by omega)]; omega)
                                        | (rw [if_neg (show ¬ d = 0 by omega), if_pos (show w < 2 by omega)]; omega)
                                        | (rw [if_neg (show ¬ d = 0 by omega), if_neg (show ¬ w < 2 by omega)]; omega)
                                    have hQ := hQ.1 e
                                    unfold nxD at hQ
                                    first
                                      | (rw [if_pos (show d = 0 by omega)] at hQ; exact hQ)
                                      | (rw [if_neg (show ¬ d = 0 by omega)] at hQ; exact hQ))
                                 | (have e : okD w d (r (3 * o + w).toNat) g = false := by
                                      unfold okD nxD
                                      refine decide_eq_false ?_
                                      first
                                        | (rw [if_pos (show d = 0 by omega), if_pos (show w < 2 by omega)]; omega)
                                        | (rw [if_pos (show d = 0 by omega), if_neg (show ¬ w < 2 by omega)]; omega)
                                        | (rw [if_neg (show ¬ d = 0 by omega), if_pos (show w < 2 by omega)]; omega)
                                        | (rw [if_neg (show ¬ d = 0 by omega), if_neg (show ¬ w < 2 by omega)]; omega)
                                    exact hQ.2 e)))
                   · first
                       | (exfalso; omega)
                       | exact absurd True.intro (by assumption)
                       | (refine B_X10_takesDigit_113 ?_
                          try dsimp only
                          try simp (disch := omega) only [txH_r, txH_9, txH_10, txH_11, txH_f, txH_o, u2_txH_9, u2_txH_10, u2_txH_11, u2_txH_r, uz_self, Int.add_zero, Int.reduceToNat]
                          refine ⟨by (refine ⟨?_, ?_⟩ <;> omega), ?_⟩
                          refine ⟨sh361, ?_⟩
                          try simp (disch := omega) only [txH_r, txH_9, txH_10, txH_11, txH_f, txH_o, u2_txH_9, u2_txH_10, u2_txH_11, u2_txH_r, uz_self, Int.add_zero, Int.reduceToNat]
                          first
                            | (exfalso; omega)
                            | exact absurd True.intro (by assumption)
                            | (refine ⟨by first | exact Or.inl rfl | exact Or.inr rfl | exact Or.inl trivial | exact Or.inr trivial | omega, ?_⟩
                               first
                                 | exact absurd True.intro (by assumption)
                                 | (exfalso; omega)
                                 | (have e : okD w d (r (3 * o + w).toNat) g = true := by
                                      unfold okD nxD
                                      refine decide_eq_true ?_
                                      first
                                        | (rw [if_pos (show d = 0 by omega), if_pos (show w < 2 by omega)]; omega)
                                        | (rw [if_pos (show d = 0 by omega), if_neg (show ¬ w < 2 by omega)]; omega)
                                        | (rw [if_neg (show ¬ d = 0 by omega), if_pos (show w < 2 by omega)]; omega)
                                        | (rw [if_neg (show ¬ d = 0 by omega), if_neg (show ¬ w < 2 by omega)]; omega)
                                    have hQ := hQ.1 e
                                    unfold nxD at hQ
                                    first
                                      | (rw [if_pos (show d = 0 by omega)] at hQ; exact hQ)
                                      | (rw [if_neg (show ¬ d = 0 by omega)] at hQ; exact hQ))
                                 | (have e : okD w d (r (3 * o + w).toNat) g = false := by
                                      unfold okD nxD
                                      refine decide_eq_false ?_
                                      first
                                        | (rw [if_pos (show d = 0 by omega), if_pos (show w < 2 by omega)]; omega)
                                        | (rw [if_pos (show d = 0 by omega), if_neg (show ¬ w < 2 by omega)]; omega)
                                        | (rw [if_neg (show ¬ d = 0 by omega), if_pos (show w < 2 by omega)]; omega)
                                        | (rw [if_neg (show ¬ d = 0 by omega), if_neg (show ¬ w < 2 by omega)]; omega)
                                    exact hQ.2 e))))
          · refine B_X10_takesDigit_70 ?_
            try dsimp only
            try simp (disch := omega) only [txH_r, txH_9, txH_10, txH_11, txH_f, txH_o, u2_txH_9, u2_txH_10, u2_txH_11, u2_txH_r, uz_self, Int.add_zero, Int.reduceToNat]
            refine B_X10_takesDigit_75 ?_
            try dsimp only
            try simp (disch := omega) only [txH_r, txH_9, txH_10, txH_11, txH_f, txH_o, u2_txH_9, u2_txH_10, u2_txH_11, u2_txH_r, uz_self, Int.add_zero, Int.reduceToNat]
            refine ⟨sh361, _, hR.read, ?_⟩
            refine ⟨fun c84_6 => ?_, fun c84_6 => ?_⟩
            · refine B_X10_takesDigit_91 ?_
              try dsimp only
              try simp (disch := omega) only [txH_r, txH_9, txH_10, txH_11, txH_f, txH_o, u2_txH_9, u2_txH_10, u2_txH_11, u2_txH_r, uz_self, Int.add_zero, Int.reduceToNat]
              first
                | (exfalso; omega)
                | exact absurd True.intro (by assumption)
                | (refine ⟨sh361, _, hR.read, ?_⟩
                   refine ⟨_, sh368, ⟨by omega, by omega⟩, ?_⟩
                   try simp (disch := omega) only [txH_r, txH_9, txH_10, txH_11, txH_f, txH_o, u2_txH_9, u2_txH_10, u2_txH_11, u2_txH_r, uz_self, Int.add_zero, Int.reduceToNat]
                   refine B_X10_takesDigit_97 ?_
                   try dsimp only
                   try simp (disch := omega) only [txH_r, txH_9, txH_10, txH_11, txH_f, txH_o, u2_txH_9, u2_txH_10, u2_txH_11, u2_txH_r, uz_self, Int.add_zero, Int.reduceToNat]
                   refine ⟨_, (by first | exact sh362 | exact sh365 | exact sh366 | exact sh363 | exact sh364 | exact sh367 | exact sh368), ⟨by omega, by omega⟩, ?_⟩
                   try simp (disch := omega) only [txH_r, txH_9, txH_10, txH_11, txH_f, txH_o, u2_txH_9, u2_txH_10, u2_txH_11, u2_txH_r, uz_self, Int.add_zero, Int.reduceToNat]
                   refine ⟨rfl, ?_⟩
                   refine ⟨sh361, ?_⟩
                   refine ⟨fun c105_8 => ?_, fun c105_8 => ?_⟩
                   · refine B_X10_takesDigit_112 ?_
                     try dsimp only
                     try simp (disch := omega) only [txH_r, txH_9, txH_10, txH_11, txH_f, txH_o, u2_txH_9, u2_txH_10, u2_txH_11, u2_txH_r, uz_self, Int.add_zero, Int.reduceToNat]
                     first
                       | (exfalso; omega)
                       | exact absurd True.intro (by assumption)
                       | (refine B_X10_takesDigit_113 ?_
                          try dsimp only
                          try simp (disch := omega) only [txH_r, txH_9, txH_10, txH_11, txH_f, txH_o, u2_txH_9, u2_txH_10, u2_txH_11, u2_txH_r, uz_self, Int.add_zero, Int.reduceToNat]
                          refine ⟨by (refine ⟨?_, ?_⟩ <;> omega), ?_⟩
                          refine ⟨sh361, ?_⟩
                          try simp (disch := omega) only [txH_r, txH_9, txH_10, txH_11, txH_f, txH_o, u2_txH_9, u2_txH_10, u2_txH_11, u2_txH_r, uz_self, Int.add_zero, Int.reduceToNat]
                          first
                            | (exfalso; omega)
                            | exact absurd True.intro (by assumption)
                            | (refine ⟨by first | exact Or.inl rfl | exact Or.inr rfl | exact Or.inl trivial | exact Or.inr trivial | omega, ?_⟩
                               first
                                 | exact absurd True.intro (by assumption)
                                 | (exfalso; omega)
                                 | (have e : okD w d (r (3 * o + w).toNat) g = true := by
                                      unfold okD nxD
                                      refine decide_eq_true ?_
                                      first
                                        | (rw [if_pos (show d = 0 by omega), if_pos (show w < 2 by omega)]; omega)
                                        | (rw [if_pos (show d = 0 by omega), if_neg (show ¬ w < 2 by omega)]; omega)
                                        | (rw [if_neg (show ¬ d = 0 by omega), if_pos (show w < 2 by omega)]; omega)
                                        | (rw [if_neg (show ¬ d = 0 by omega), if_neg (show ¬ w < 2 by omega)]; omega)
                                    have hQ := hQ.1 e
                                    unfold nxD at hQ
                                    first
                                      | (rw [if_pos (show d = 0 by omega)] at hQ; exact hQ)
                                      | (rw [if_neg (show ¬ d = 0 by omega)] at hQ; exact hQ))
                                 | (have e : okD w d (r (3 * o + w).toNat) g = false := by
                                      unfold okD nxD
                                      refine decide_eq_false ?_
                                      first
                                        | (rw [if_pos (show d = 0 by omega), if_pos (show w < 2 by omega)]; omega)
                                        | (rw [if_pos (show d = 0 by omega), if_neg (show ¬ w < 2 by omega)]; omega)
                                        | (rw [if_neg (show ¬ d = 0 by omega), if_pos (show w < 2 by omega)]; omega)
                                        | (rw [if_neg (show ¬ d = 0 by omega), if_neg (show ¬ w < 2 by omega)]; omega)
                                    exact hQ.2 e)))
                   · first
                       | (exfalso; omega)
                       | exact absurd True.intro (by assumption)
                       | (refine B_X10_takesDigit_113 ?_
                          try dsimp only
                          try simp (disch := omega) only [txH_r, txH_9, txH_10, txH_11, txH_f, txH_o, u2_txH_9, u2_txH_10, u2_txH_11, u2_txH_r, uz_self, Int.add_zero, Int.reduceToNat]
                          refine ⟨by (refine ⟨?_, ?_⟩ <;> omega), ?_⟩
                          refine ⟨sh361, ?_⟩
                          try simp (disch := omega) only [txH_r, txH_9, txH_10, txH_11, txH_f, txH_o, u2_txH_9, u2_txH_10, u2_txH_11, u2_txH_r, uz_self, Int.add_zero, Int.reduceToNat]
                          first
                            | (exfalso; omega)
                            | exact absurd True.intro (by assumption)
                            | (refine ⟨by first | exact Or.inl rfl | exact Or.inr rfl | exact Or.inl trivial | exact Or.inr trivial | omega, ?_⟩
                               first
                                 | exact absurd True.intro (by assumption)
                                 | (exfalso; omega)
                                 | (have e : okD w d (r (3 * o + w).toNat) g = true := by
                                      unfold okD nxD
                                      refine decide_eq_true ?_
                                      first
                                        | (rw [if_pos (show d = 0 by omega), if_pos (show w < 2 by omega)]; omega)
                                        | (rw [if_pos (show d = 0 by omega), if_neg (show ¬ w < 2 by omega)]; omega)
                                        | (rw [if_neg (show ¬ d = 0 by omega), if_pos (show w < 2 by omega)]; omega)
                                        | (rw [if_neg (show ¬ d = 0 by omega), if_neg (show ¬ w < 2 by omega)]; omega)
                                    have hQ := hQ.1 e
                                    unfold nxD at hQ
                                    first
                                      | (rw [if_pos (show d = 0 by omega)] at hQ; exact hQ)
                                      | (rw [if_neg (show ¬ d = 0 by omega)] at hQ; exact hQ))
                                 | (have e : okD w d (r (3 * o + w).toNat) g = false := by
                                      unfold okD nxD
                                      refine decide_eq_false ?_
                                      first
                                        | (rw [if_pos (show d = 0 by omega), if_pos (show w < 2 by omega)]; omega)
                                        | (rw [if_pos (show d = 0 by omega), if_neg (show ¬ w < 2 by omega)]; omega)
                                        | (rw [if_neg (show ¬ d = 0 by omega), if_pos (show w < 2 by omega)]; omega)
                                        | (rw [if_neg (show ¬ d = 0 by omega), if_neg (show ¬ w < 2 by omega)]; omega)
                                    exact hQ.2 e))))
            · first
                | (exfalso; omega)
                | exact absurd True.intro (by assumption)
                | (refine B_X10_takesDigit_97 ?_
                   try dsimp only
                   try simp (disch := omega) only [txH_r, txH_9, txH_10, txH_11, txH_f, txH_o, u2_txH_9, u2_txH_10, u2_txH_11, u2_txH_r, uz_self, Int.add_zero, Int.reduceToNat]
                   refine ⟨_, (by first | exact sh362 | exact sh365 | exact sh366 | exact sh363 | exact sh364 | exact sh367 | exact sh368), ⟨by omega, by omega⟩, ?_⟩
                   try simp (disch := omega) only [txH_r, txH_9, txH_10, txH_11, txH_f, txH_o, u2_txH_9, u2_txH_10, u2_txH_11, u2_txH_r, uz_self, Int.add_zero, Int.reduceToNat]
                   refine ⟨rfl, ?_⟩
                   refine ⟨sh361, ?_⟩
                   refine ⟨fun c105_7 => ?_, fun c105_7 => ?_⟩
                   · refine B_X10_takesDigit_112 ?_
                     try dsimp only
                     try simp (disch := omega) only [txH_r, txH_9, txH_10, txH_11, txH_f, txH_o, u2_txH_9, u2_txH_10, u2_txH_11, u2_txH_r, uz_self, Int.add_zero, Int.reduceToNat]
                     first
                       | (exfalso; omega)
                       | exact absurd True.intro (by assumption)
                       | (refine B_X10_takesDigit_113 ?_
                          try dsimp only
                          try simp (disch := omega) only [txH_r, txH_9, txH_10, txH_11, txH_f, txH_o, u2_txH_9, u2_txH_10, u2_txH_11, u2_txH_r, uz_self, Int.add_zero, Int.reduceToNat]
                          refine ⟨by (refine ⟨?_, ?_⟩ <;> omega), ?_⟩
                          refine ⟨sh361, ?_⟩
                          try simp (disch := omega) only [txH_r, txH_9, txH_10, txH_11, txH_f, txH_o, u2_txH_9, u2_txH_10, u2_txH_11, u2_txH_r, uz_self, Int.add_zero, Int.reduceToNat]
                          first
                            | (exfalso; omega)
                            | exact absurd True.intro (by assumption)
                            | (refine ⟨by first | exact Or.inl rfl | exact Or.inr rfl | exact Or.inl trivial | exact Or.inr trivial | omega, ?_⟩
                               first
                                 | exact absurd True.intro (by assumption)
                                 | (exfalso; omega)
                                 | (have e : okD w d (r (3 * o + w).toNat) g = true := by
                                      unfold okD nxD
                                      refine decide_eq_true ?_
                                      first
                                        | (rw [if_pos (show d = 0 by omega), if_pos (show w < 2 by omega)]; omega)
                                        | (rw [if_pos (show d = 0 by omega), if_neg (show ¬ w < 2 by omega)]; omega)
                                        | (rw [if_neg (show ¬ d = 0 by omega), if_pos (show w < 2 by omega)]; omega)
                                        | (rw [if_neg (show ¬ d = 0 by omega), if_neg (show ¬ w < 2 by omega)]; omega)
                                    have hQ := hQ.1 e
                                    unfold nxD at hQ
                                    first
                                      | (rw [if_pos (show d = 0 by omega)] at hQ; exact hQ)
                                      | (rw [if_neg (show ¬ d = 0 by omega)] at hQ; exact hQ))
                                 | (have e : okD w d (r (3 * o + w).toNat) g = false := by
                                      unfold okD nxD
                                      refine decide_eq_false ?_
                                      first
                                        | (rw [if_pos (show d = 0 by omega), if_pos (show w < 2 by omega)]; omega)
                                        | (rw [if_pos (show d = 0 by omega), if_neg (show ¬ w < 2 by omega)]; omega)
                                        | (rw [if_neg (show ¬ d = 0 by omega), if_pos (show w < 2 by omega)]; omega)
                                        | (rw [if_neg (show ¬ d = 0 by omega), if_neg (show ¬ w < 2 by omega)]; omega)
                                    exact hQ.2 e)))
                   · first
                       | (exfalso; omega)
                       | exact absurd True.intro (by assumption)
                       | (refine B_X10_takesDigit_113 ?_
                          try dsimp only
                          try simp (disch := omega) only [txH_r, txH_9, txH_10, txH_11, txH_f, txH_o, u2_txH_9, u2_txH_10, u2_txH_11, u2_txH_r, uz_self, Int.add_zero, Int.reduceToNat]
                          refine ⟨by (refine ⟨?_, ?_⟩ <;> omega), ?_⟩
                          refine ⟨sh361, ?_⟩
                          try simp (disch := omega) only [txH_r, txH_9, txH_10, txH_11, txH_f, txH_o, u2_txH_9, u2_txH_10, u2_txH_11, u2_txH_r, uz_self, Int.add_zero, Int.reduceToNat]
                          first
                            | (exfalso; omega)
                            | exact absurd True.intro (by assumption)
                            | (refine ⟨by first | exact Or.inl rfl | exact Or.inr rfl | exact Or.inl trivial | exact Or.inr trivial | omega, ?_⟩
                               first
                                 | exact absurd True.intro (by assumption)
                                 | (exfalso; omega)
                                 | (have e : okD w d (r (3 * o + w).toNat) g = true := by
                                      unfold okD nxD
                                      refine decide_eq_true ?_
                                      first
                                        | (rw [if_pos (show d = 0 by omega), if_pos (show w < 2 by omega)]; omega)
                                        | (rw [if_pos (show d = 0 by omega), if_neg (show ¬ w < 2 by omega)]; omega)
                                        | (rw [if_neg (show ¬ d = 0 by omega), if_pos (show w < 2 by omega)]; omega)
                                        | (rw [if_neg (show ¬ d = 0 by omega), if_neg (show ¬ w < 2 by omega)]; omega)
                                    have hQ := hQ.1 e
                                    unfold nxD at hQ
                                    first
                                      | (rw [if_pos (show d = 0 by omega)] at hQ; exact hQ)
                                      | (rw [if_neg (show ¬ d = 0 by omega)] at hQ; exact hQ))
                                 | (have e : okD w d (r (3 * o + w).toNat) g = false := by
                                      unfold okD nxD
                                      refine decide_eq_false ?_
                                      first
                                        | (rw [if_pos (show d = 0 by omega), if_pos (show w < 2 by omega)]; omega)
                                        | (rw [if_pos (show d = 0 by omega), if_neg (show ¬ w < 2 by omega)]; omega)
                                        | (rw [if_neg (show ¬ d = 0 by omega), if_pos (show w < 2 by omega)]; omega)
                                        | (rw [if_neg (show ¬ d = 0 by omega), if_neg (show ¬ w < 2 by omega)]; omega)
                                    exact hQ.2 e))))
    · refine B_X10_takesDigit_51 ?_
      try dsimp only
      try simp (disch := omega) only [txH_r, txH_9, txH_10, txH_11, txH_f, txH_o, u2_txH_9, u2_txH_10, u2_txH_11, u2_txH_r, uz_self, Int.add_zero, Int.reduceToNat]
      refine ⟨fun c51_3 => ?_, fun c51_3 => ?_⟩
      · refine B_X10_takesDigit_74 ?_
        try dsimp only
        try simp (disch := omega) only [txH_r, txH_9, txH_10, txH_11, txH_f, txH_o, u2_txH_9, u2_txH_10, u2_txH_11, u2_txH_r, uz_self, Int.add_zero, Int.reduceToNat]
        refine B_X10_takesDigit_75 ?_
        try dsimp only
        try simp (disch := omega) only [txH_r, txH_9, txH_10, txH_11, txH_f, txH_o, u2_txH_9, u2_txH_10, u2_txH_11, u2_txH_r, uz_self, Int.add_zero, Int.reduceToNat]
        refine ⟨sh361, _, hR.read, ?_⟩
        refine ⟨fun c84_5 => ?_, fun c84_5 => ?_⟩
        · refine B_X10_takesDigit_91 ?_
          try dsimp only
          try simp (disch := omega) only [txH_r, txH_9, txH_10, txH_11, txH_f, txH_o, u2_txH_9, u2_txH_10, u2_txH_11, u2_txH_r, uz_self, Int.add_zero, Int.reduceToNat]
          first
            | (exfalso; omega)
            | exact absurd True.intro (by assumption)
            | (refine ⟨sh361, _, hR.read, ?_⟩
               refine ⟨_, sh368, ⟨by omega, by omega⟩, ?_⟩
               try simp (disch := omega) only [txH_r, txH_9, txH_10, txH_11, txH_f, txH_o, u2_txH_9, u2_txH_10, u2_txH_11, u2_txH_r, uz_self, Int.add_zero, Int.reduceToNat]
               refine B_X10_takesDigit_97 ?_
               try dsimp only
               try simp (disch := omega) only [txH_r, txH_9, txH_10, txH_11, txH_f, txH_o, u2_txH_9, u2_txH_10, u2_txH_11, u2_txH_r, uz_self, Int.add_zero, Int.reduceToNat]
               refine ⟨_, (by first | exact sh362 | exact sh365 | exact sh366 | exact sh363 | exact sh364 | exact sh367 | exact sh368), ⟨by omega, by omega⟩, ?_⟩
               try simp (disch := omega) only [txH_r, txH_9, txH_10, txH_11, txH_f, txH_o, u2_txH_9, u2_txH_10, u2_txH_11, u2_txH_r, uz_self, Int.add_zero, Int.reduceToNat]
               refine ⟨rfl, ?_⟩
               refine ⟨sh361, ?_⟩
               refine ⟨fun c105_7 => ?_, fun c105_7 => ?_⟩
               · refine B_X10_takesDigit_112 ?_
                 try dsimp only
                 try simp (disch := omega) only [txH_r, txH_9, txH_10, txH_11, txH_f, txH_o, u2_txH_9, u2_txH_10, u2_txH_11, u2_txH_r, uz_self, Int.add_zero, Int.reduceToNat]
                 first
                   | (exfalso; omega)
                   | exact absurd True.intro (by assumption)
                   | (refine B_X10_takesDigit_113 ?_
                      try dsimp only
                      try simp (disch := omega) only [txH_r, txH_9, txH_10, txH_11, txH_f, txH_o, u2_txH_9, u2_txH_10, u2_txH_11, u2_txH_r, uz_self, Int.add_zero, Int.reduceToNat]
                      refine ⟨by (refine ⟨?_, ?_⟩ <;> omega), ?_⟩
                      refine ⟨sh361, ?_⟩
                      try simp (disch := omega) only [txH_r, txH_9, txH_10, txH_11, txH_f, txH_o, u2_txH_9, u2_txH_10, u2_txH_11, u2_txH_r, uz_self, Int.add_zero, Int.reduceToNat]
                      first
                        | (exfalso; omega)
                        | exact absurd True.intro (by assumption)
                        | (refine ⟨by first | exact Or.inl rfl | exact Or.inr rfl | exact Or.inl trivial | exact Or.inr trivial | omega, ?_⟩
                           first
                             | exact absurd True.intro (by assumption)
                             | (exfalso; omega)
                             | (have e : okD w d (r (3 * o + w).toNat) g = true := by
                                  unfold okD nxD
                                  refine decide_eq_true ?_
                                  first
                                    | (rw [if_pos (show d = 0 by omega), if_pos (show w < 2 by omega)]; omega)
                                    | (rw [if_pos (show d = 0 by omega), if_neg (show ¬ w < 2 by omega)]; omega)
                                    | (rw [if_neg (show ¬ d = 0 by omega), if_pos (show w < 2 by omega)]; omega)
                                    | (rw [if_neg (show ¬ d = 0 by omega), if_neg (show ¬ w < 2 by omega)]; omega)
                                have hQ := hQ.1 e
                                unfold nxD at hQ
                                first
                                  | (rw [if_pos (show d = 0 by omega)] at hQ; exact hQ)
                                  | (rw [if_neg (show ¬ d = 0 by omega)] at hQ; exact hQ))
                             | (have e : okD w d (r (3 * o + w).toNat) g = false := by
                                  unfold okD nxD
                                  refine decide_eq_false ?_
                                  first
                                    | (rw [if_pos (show d = 0 by omega), if_pos (show w < 2 by omega)]; omega)
                                    | (rw [if_pos (show d = 0 by omega), if_neg (show ¬ w < 2 by omega)]; omega)
                                    | (rw [if_neg (show ¬ d = 0 by omega), if_pos (show w < 2 by omega)]; omega)
                                    | (rw [if_neg (show ¬ d = 0 by omega), if_neg (show ¬ w < 2 by omega)]; omega)
                                exact hQ.2 e)))
               · first
                   | (exfalso; omega)
                   | exact absurd True.intro (by assumption)
                   | (refine B_X10_takesDigit_113 ?_
                      try dsimp only
                      try simp (disch := omega) only [txH_r, txH_9, txH_10, txH_11, txH_f, txH_o, u2_txH_9, u2_txH_10, u2_txH_11, u2_txH_r, uz_self, Int.add_zero, Int.reduceToNat]
                      refine ⟨by (refine ⟨?_, ?_⟩ <;> omega), ?_⟩
                      refine ⟨sh361, ?_⟩
                      try simp (disch := omega) only [txH_r, txH_9, txH_10, txH_11, txH_f, txH_o, u2_txH_9, u2_txH_10, u2_txH_11, u2_txH_r, uz_self, Int.add_zero, Int.reduceToNat]
                      first
                        | (exfalso; omega)
                        | exact absurd True.intro (by assumption)
                        | (refine ⟨by first | exact Or.inl rfl | exact Or.inr rfl | exact Or.inl trivial | exact Or.inr trivial | omega, ?_⟩
                           first
                             | exact absurd True.intro (by assumption)
                             | (exfalso; omega)
                             | (have e : okD w d (r (3 * o + w).toNat) g = true := by
                                  unfold okD nxD
                                  refine decide_eq_true ?_
                                  first
                                    | (rw [if_pos (show d = 0 by omega), if_pos (show w < 2 by omega)]; omega)
                                    | (rw [if_pos (show d = 0 by omega), if_neg (show ¬ w < 2 by omega)]; omega)
                                    | (rw [if_neg (show ¬ d = 0 by omega), if_pos (show w < 2 by omega)]; omega)
                                    | (rw [if_neg (show ¬ d = 0 by omega), if_neg (show ¬ w < 2 by omega)]; omega)
                                have hQ := hQ.1 e
                                unfold nxD at hQ
                                first
                                  | (rw [if_pos (show d = 0 by omega)] at hQ; exact hQ)
                                  | (rw [if_neg (show ¬ d = 0 by omega)] at hQ; exact hQ))
                             | (have e : okD w d (r (3 * o + w).toNat) g = false := by
                                  unfold okD nxD
                                  refine decide_eq_false ?_
                                  first
                                    | (rw [if_pos (show d = 0 by omega), if_pos (show w < 2 by omega)]; omega)
                                    | (rw [if_pos (show d = 0 by omega), if_neg (show ¬ w < 2 by omega)]; omega)
                                    | (rw [if_neg (show ¬ d = 0 by omega), if_pos (show w < 2 by omega)]; omega)
                                    | (rw [if_neg (show ¬ d = 0 by omega), if_neg (show ¬ w < 2 by omega)]; omega)
                                exact hQ.2 e))))
        · first
            | (exfalso; omega)
            | exact absurd True.intro (by assumption)
            | (refine B_X10_takesDigit_97 ?_
               try dsimp only
               try simp (disch := omega) only [txH_r, txH_9, txH_10, txH_11, txH_f, txH_o, u2_txH_9, u2_txH_10, u2_txH_11, u2_txH_r, uz_self, Int.add_zero, Int.reduceToNat]
               refine ⟨_, (by first | exact sh362 | exact sh365 | exact sh366 | exact sh363 | exact sh364 | exact sh367 | exact sh368), ⟨by omega, by omega⟩, ?_⟩
               try simp (disch := omega) only [txH_r, txH_9, txH_10, txH_11, txH_f, txH_o, u2_txH_9, u2_txH_10, u2_txH_11, u2_txH_r, uz_self, Int.add_zero, Int.reduceToNat]
               refine ⟨rfl, ?_⟩
               refine ⟨sh361, ?_⟩
               refine ⟨fun c105_6 => ?_, fun c105_6 => ?_⟩
               · refine B_X10_takesDigit_112 ?_
                 try dsimp only
                 try simp (disch := omega) only [txH_r, txH_9, txH_10, txH_11, txH_f, txH_o, u2_txH_9, u2_txH_10, u2_txH_11, u2_txH_r, uz_self, Int.add_zero, Int.reduceToNat]
                 first
                   | (exfalso; omega)
                   | exact absurd True.intro (by assumption)
                   | (refine B_X10_takesDigit_113 ?_
                      try dsimp only
                      try simp (disch := omega) only [txH_r, txH_9, txH_10, txH_11, txH_f, txH_o, u2_txH_9, u2_txH_10, u2_txH_11, u2_txH_r, uz_self, Int.add_zero, Int.reduceToNat]
                      refine ⟨by (refine ⟨?_, ?_⟩ <;> omega), ?_⟩
                      refine ⟨sh361, ?_⟩
                      try simp (disch := omega) only [txH_r, txH_9, txH_10, txH_11, txH_f, txH_o, u2_txH_9, u2_txH_10, u2_txH_11, u2_txH_r, uz_self, Int.add_zero, Int.reduceToNat]
                      first
                        | (exfalso; omega)
                        | exact absurd True.intro (by assumption)
                        | (refine ⟨by first | exact Or.inl rfl | exact Or.inr rfl | exact Or.inl trivial | exact Or.inr trivial | omega, ?_⟩
                           first
                             | exact absurd True.intro (by assumption)
                             | (exfalso; omega)
                             | (have e : okD w d (r (3 * o + w).toNat) g = true := by
                                  unfold okD nxD
                                  refine decide_eq_true ?_
                                  first
                                    | (rw [if_pos (show d = 0 by omega), if_pos (show w < 2 by omega)]; omega)
                                    | (rw [if_pos (show d = 0 by omega), if_neg (show ¬ w < 2 by omega)]; omega)
                                    | (rw [if_neg (show ¬ d = 0 by omega), if_pos (show w < 2 by omega)]; omega)
                                    | (rw [if_neg (show ¬ d = 0 by omega), if_neg (show ¬ w < 2 by omega)]; omega)
                                have hQ := hQ.1 e
                                unfold nxD at hQ
                                first
                                  | (rw [if_pos (show d = 0 by omega)] at hQ; exact hQ)
                                  | (rw [if_neg (show ¬ d = 0 by omega)] at hQ; exact hQ))
                             | (have e : okD w d (r (3 * o + w).toNat) g = false := by
                                  unfold okD nxD
                                  refine decide_eq_false ?_
                                  first
                                    | (rw [if_pos (show d = 0 by omega), if_pos (show w < 2 by omega)]; omega)
                                    | (rw [if_pos (show d = 0 by omega), if_neg (show ¬ w < 2 by omega)]; omega)
                                    | (rw [if_neg (show ¬ d = 0 by omega), if_pos (show w < 2 by omega)]; omega)
                                    | (rw [if_neg (show ¬ d = 0 by omega), if_neg (show ¬ w < 2 by omega)]; omega)
                                exact hQ.2 e)))
               · first
                   | (exfalso; omega)
                   | exact absurd True.intro (by assumption)
                   | (refine B_X10_takesDigit_113 ?_
                      try dsimp only
                      try simp (disch := omega) only [txH_r, txH_9, txH_10, txH_11, txH_f, txH_o, u2_txH_9, u2_txH_10, u2_txH_11, u2_txH_r, uz_self, Int.add_zero, Int.reduceToNat]
                      refine ⟨by (refine ⟨?_, ?_⟩ <;> omega), ?_⟩
                      refine ⟨sh361, ?_⟩
                      try simp (disch := omega) only [txH_r, txH_9, txH_10, txH_11, txH_f, txH_o, u2_txH_9, u2_txH_10, u2_txH_11, u2_txH_r, uz_self, Int.add_zero, Int.reduceToNat]
                      first
                        | (exfalso; omega)
                        | exact absurd True.intro (by assumption)
                        | (refine ⟨by first | exact Or.inl rfl | exact Or.inr rfl | exact Or.inl trivial | exact Or.inr trivial | omega, ?_⟩
                           first
                             | exact absurd True.intro (by assumption)
                             | (exfalso; omega)
                             | (have e : okD w d (r (3 * o + w).toNat) g = true := by
                                  unfold okD nxD
                                  refine decide_eq_true ?_
                                  first
                                    | (rw [if_pos (show d = 0 by omega), if_pos (show w < 2 by omega)]; omega)
                                    | (rw [if_pos (show d = 0 by omega), if_neg (show ¬ w < 2 by omega)]; omega)
                                    | (rw [if_neg (show ¬ d = 0 by omega), if_pos (show w < 2 by omega)]; omega)
                                    | (rw [if_neg (show ¬ d = 0 by omega), if_neg (show ¬ w < 2 by omega)]; omega)
                                have hQ := hQ.1 e
                                unfold nxD at hQ
                                first
                                  | (rw [if_pos (show d = 0 by omega)] at hQ; exact hQ)
                                  | (rw [if_neg (show ¬ d = 0 by omega)] at hQ; exact hQ))
                             | (have e : okD w d (r (3 * o + w).toNat) g = false := by
                                  unfold okD nxD
                                  refine decide_eq_false ?_
                                  first
                                    | (rw [if_pos (show d = 0 by omega), if_pos (show w < 2 by omega)]; omega)
                                    | (rw [if_pos (show d = 0 by omega), if_neg (show ¬ w < 2 by omega)]; omega)
                                    | (rw [if_neg (show ¬ d = 0 by omega), if_pos (show w < 2 by omega)]; omega)
                                    | (rw [if_neg (show ¬ d = 0 by omega), if_neg (show ¬ w < 2 by omega)]; omega)
                                exact hQ.2 e))))
      · refine ⟨sh361, ?_⟩
        refine ⟨fun c58_3 => ?_, fun c58_3 => ?_⟩
        · refine B_X10_takesDigit_70 ?_
          try dsimp only
          try simp (disch := omega) only [txH_r, txH_9, txH_10, txH_11, txH_f, txH_o, u2_txH_9, u2_txH_10, u2_txH_11, u2_txH_r, uz_self, Int.add_zero, Int.reduceToNat]
          refine B_X10_takesDigit_75 ?_
          try dsimp only
          try simp (disch := omega) only [txH_r, txH_9, txH_10, txH_11, txH_f, txH_o, u2_txH_9, u2_txH_10, u2_txH_11, u2_txH_r, uz_self, Int.add_zero, Int.reduceToNat]
          refine ⟨sh361, _, hR.read, ?_⟩
          refine ⟨fun c84_5 => ?_, fun c84_5 => ?_⟩
          · refine B_X10_takesDigit_91 ?_
            try dsimp only
            try simp (disch := omega) only [txH_r, txH_9, txH_10, txH_11, txH_f, txH_o, u2_txH_9, u2_txH_10, u2_txH_11, u2_txH_r, uz_self, Int.add_zero, Int.reduceToNat]
            first
              | (exfalso; omega)
              | exact absurd True.intro (by assumption)
              | (refine ⟨sh361, _, hR.read, ?_⟩
                 refine ⟨_, sh368, ⟨by omega, by omega⟩, ?_⟩
                 try simp (disch := omega) only [txH_r, txH_9, txH_10, txH_11, txH_f, txH_o, u2_txH_9, u2_txH_10, u2_txH_11, u2_txH_r, uz_self, Int.add_zero, Int.reduceToNat]
                 refine B_X10_takesDigit_97 ?_
                 try dsimp only
                 try simp (disch := omega) only [txH_r, txH_9, txH_10, txH_11, txH_f, txH_o, u2_txH_9, u2_txH_10, u2_txH_11, u2_txH_r, uz_self, Int.add_zero, Int.reduceToNat]
                 refine ⟨_, (by first | exact sh362 | exact sh365 | exact sh366 | exact sh363 | exact sh364 | exact sh367 | exact sh368), ⟨by omega, by omega⟩, ?_⟩
                 try simp (disch := omega) only [txH_r, txH_9, txH_10, txH_11, txH_f, txH_o, u2_txH_9, u2_txH_10, u2_txH_11, u2_txH_r, uz_self, Int.add_zero, Int.reduceToNat]
                 refine ⟨rfl, ?_⟩
                 refine ⟨sh361, ?_⟩
                 refine ⟨fun c105_7 => ?_, fun c105_7 => ?_⟩
                 · refine B_X10_takesDigit_112 ?_
                   try dsimp only
                   try simp (disch := omega) only [txH_r, txH_9, txH_10, txH_11, txH_f, txH_o, u2_txH_9, u2_txH_10, u2_txH_11, u2_txH_r, uz_self, Int.add_zero, Int.reduceToNat]
                   first
                     | (exfalso; omega)
                     | exact absurd True.intro (by assumption)
                     | (refine B_X10_takesDigit_113 ?_
                        try dsimp only
                        try simp (disch := omega) only [txH_r, txH_9, txH_10, txH_11, txH_f, txH_o, u2_txH_9, u2_txH_10, u2_txH_11, u2_txH_r, uz_self, Int.add_zero, Int.reduceToNat]
                        refine ⟨by (refine ⟨?_, ?_⟩ <;> omega), ?_⟩
                        refine ⟨sh361, ?_⟩
                        try simp (disch := omega) only [txH_r, txH_9, txH_10, txH_11, txH_f, txH_o, u2_txH_9, u2_txH_10, u2_txH_11, u2_txH_r, uz_self, Int.add_zero, Int.reduceToNat]
                        first
                          | (exfalso; omega)
                          | exact absurd True.intro (by assumption)
                          | (refine ⟨by first | exact Or.inl rfl | exact Or.inr rfl | exact Or.inl trivial | exact Or.inr trivial | omega, ?_⟩
                             first
                               | exact absurd True.intro (by assumption)
                               | (exfalso; omega)
                               | (have e : okD w d (r (3 * o + w).toNat) g = true := by
                                    unfold okD nxD
                                    refine decide_eq_true ?_
                                    first
                                      | (rw [if_pos (show d = 0 by omega), if_pos (show w < 2 by omega)]; omega)
                                      | (rw [if_pos (show d = 0 by omega), if_neg (show ¬ w < 2 by omega)]; omega)
                                      | (rw [if_neg (show ¬ d = 0 by omega), if_pos (show w < 2 by omega)]; omega)
                                      | (rw [if_neg (show ¬ d = 0 by omega), if_neg (show ¬ w < 2 by omega)]; omega)
                                  have hQ := hQ.1 e
                                  unfold nxD at hQ
                                  first
                                    | (rw [if_pos (show d = 0 by omega)] at hQ; exact hQ)
                                    | (rw [if_neg (show ¬ d = 0 by omega)] at hQ; exact hQ))
                               | (have e : okD w d (r (3 * o + w).toNat) g = false := by
                                    unfold okD nxD
                                    refine decide_eq_false ?_
                                    first
                                      | (rw [if_pos (show d = 0 by omega), if_pos (show w < 2 by omega)]; omega)
                                      | (rw [if_pos (show d = 0 by omega), if_neg (show ¬ w < 2 by omega)]; omega)
                                      | (rw [if_neg (show ¬ d = 0 by omega), if_pos (show w < 2 by omega)]; omega)
                                      | (rw [if_neg (show ¬ d = 0 by omega), if_neg (show ¬ w < 2 by omega)]; omega)
                                  exact hQ.2 e)))
                 · first
                     | (exfalso; omega)
                     | exact absurd True.intro (by assumption)
                     | (refine B_X10_takesDigit_113 ?_
                        try dsimp only
                        try simp (disch := omega) only [txH_r, txH_9, txH_10, txH_11, txH_f, txH_o, u2_txH_9, u2_txH_10, u2_txH_11, u2_txH_r, uz_self, Int.add_zero, Int.reduceToNat]
                        refine ⟨by (refine ⟨?_, ?_⟩ <;> omega), ?_⟩
                        refine ⟨sh361, ?_⟩
                        try simp (disch := omega) only [txH_r, txH_9, txH_10, txH_11, txH_f, txH_o, u2_txH_9, u2_txH_10, u2_txH_11, u2_txH_r, uz_self, Int.add_zero, Int.reduceToNat]
                        first
                          | (exfalso; omega)
                          | exact absurd True.intro (by assumption)
                          | (refine ⟨by first | exact Or.inl rfl | exact Or.inr rfl | exact Or.inl trivial | exact Or.inr trivial | omega, ?_⟩
                             first
                               | exact absurd True.intro (by assumption)
                               | (exfalso; omega)
                               | (have e : okD w d (r (3 * o + w).toNat) g = true := by
                                    unfold okD nxD
                                    refine decide_eq_true ?_
                                    first
                                      | (rw [if_pos (show d = 0 by omega), if_pos (show w < 2 by omega)]; omega)
                                      | (rw [if_pos (show d = 0 by omega), if_neg (show ¬ w < 2 by omega)]; omega)
                                      | (rw [if_neg (show ¬ d = 0 by omega), if_pos (show w < 2 by omega)]; omega)
                                      | (rw [if_neg (show ¬ d = 0 by omega), if_neg (show ¬ w < 2 by omega)]; omega)
                                  have hQ := hQ.1 e
                                  unfold nxD at hQ
                                  first
                                    | (rw [if_pos (show d = 0 by omega)] at hQ; exact hQ)
                                    | (rw [if_neg (show ¬ d = 0 by omega)] at hQ; exact hQ))
                               | (have e : okD w d (r (3 * o + w).toNat) g = false := by
                                    unfold okD nxD
                                    refine decide_eq_false ?_
                                    first
                                      | (rw [if_pos (show d = 0 by omega), if_pos (show w < 2 by omega)]; omega)
                                      | (rw [if_pos (show d = 0 by omega), if_neg (show ¬ w < 2 by omega)]; omega)
                                      | (rw [if_neg (show ¬ d = 0 by omega), if_pos (show w < 2 by omega)]; omega)
                                      | (rw [if_neg (show ¬ d = 0 by omega), if_neg (show ¬ w < 2 by omega)]; omega)
                                  exact hQ.2 e))))
          · first
              | (exfalso; omega)
              | exact absurd True.intro (by assumption)
              | (refine B_X10_takesDigit_97 ?_
                 try dsimp only
                 try simp (disch := omega) only [txH_r, txH_9, txH_10, txH_11, txH_f, txH_o, u2_txH_9, u2_txH_10, u2_txH_11, u2_txH_r, uz_self, Int.add_zero, Int.reduceToNat]
                 refine ⟨_, (by first | exact sh362 | exact sh365 | exact sh366 | exact sh363 | exact sh364 | exact sh367 | exact sh368), ⟨by omega, by omega⟩, ?_⟩
                 try simp (disch := omega) only [txH_r, txH_9, txH_10, txH_11, txH_f, txH_o, u2_txH_9, u2_txH_10, u2_txH_11, u2_txH_r, uz_self, Int.add_zero, Int.reduceToNat]
                 refine ⟨rfl, ?_⟩
                 refine ⟨sh361, ?_⟩
                 refine ⟨fun c105_6 => ?_, fun c105_6 => ?_⟩
                 · refine B_X10_takesDigit_112 ?_
                   try dsimp only
                   try simp (disch := omega) only [txH_r, txH_9, txH_10, txH_11, txH_f, txH_o, u2_txH_9, u2_txH_10, u2_txH_11, u2_txH_r, uz_self, Int.add_zero, Int.reduceToNat]
                   first
                     | (exfalso; omega)
                     | exact absurd True.intro (by assumption)
                     | (refine B_X10_takesDigit_113 ?_
                        try dsimp only
                        try simp (disch := omega) only [txH_r, txH_9, txH_10, txH_11, txH_f, txH_o, u2_txH_9, u2_txH_10, u2_txH_11, u2_txH_r, uz_self, Int.add_zero, Int.reduceToNat]
                        refine ⟨by (refine ⟨?_, ?_⟩ <;> omega), ?_⟩
                        refine ⟨sh361, ?_⟩
                        try simp (disch := omega) only [txH_r, txH_9, txH_10, txH_11, txH_f, txH_o, u2_txH_9, u2_txH_10, u2_txH_11, u2_txH_r, uz_self, Int.add_zero, Int.reduceToNat]
                        first
                          | (exfalso; omega)
                          | exact absurd True.intro (by assumption)
                          | (refine ⟨by first | exact Or.inl rfl | exact Or.inr rfl | exact Or.inl trivial | exact Or.inr trivial | omega, ?_⟩
                             first
                               | exact absurd True.intro (by assumption)
                               | (exfalso; omega)
                               | (have e : okD w d (r (3 * o + w).toNat) g = true := by
                                    unfold okD nxD
                                    refine decide_eq_true ?_
                                    first
                                      | (rw [if_pos (show d = 0 by omega), if_pos (show w < 2 by omega)]; omega)
                                      | (rw [if_pos (show d = 0 by omega), if_neg (show ¬ w < 2 by omega)]; omega)
                                      | (rw [if_neg (show ¬ d = 0 by omega), if_pos (show w < 2 by omega)]; omega)
                                      | (rw [if_neg (show ¬ d = 0 by omega), if_neg (show ¬ w < 2 by omega)]; omega)
                                  have hQ := hQ.1 e
                                  unfold nxD at hQ
                                  first
                                    | (rw [if_pos (show d = 0 by omega)] at hQ; exact hQ)
                                    | (rw [if_neg (show ¬ d = 0 by omega)] at hQ; exact hQ))
                               | (have e : okD w d (r (3 * o + w).toNat) g = false := by
                                    unfold okD nxD
                                    refine decide_eq_false ?_
                                    first
                                      | (rw [if_pos (show d = 0 by omega), if_pos (show w < 2 by omega)]; omega)
                                      | (rw [if_pos (show d = 0 by omega), if_neg (show ¬ w < 2 by omega)]; omega)
                                      | (rw [if_neg (show ¬ d = 0 by omega), if_pos (show w < 2 by omega)]; omega)
                                      | (rw [if_neg (show ¬ d = 0 by omega), if_neg (show ¬ w < 2 by omega)]; omega)
                                  exact hQ.2 e)))
                 · first
                     | (exfalso; omega)
                     | exact absurd True.intro (by assumption)
                     | (refine B_X10_takesDigit_113 ?_
                        try dsimp only
                        try simp (disch := omega) only [txH_r, txH_9, txH_10, txH_11, txH_f, txH_o, u2_txH_9, u2_txH_10, u2_txH_11, u2_txH_r, uz_self, Int.add_zero, Int.reduceToNat]
                        refine ⟨by (refine ⟨?_, ?_⟩ <;> omega), ?_⟩
                        refine ⟨sh361, ?_⟩
                        try simp (disch := omega) only [txH_r, txH_9, txH_10, txH_11, txH_f, txH_o, u2_txH_9, u2_txH_10, u2_txH_11, u2_txH_r, uz_self, Int.add_zero, Int.reduceToNat]
                        first
                          | (exfalso; omega)
                          | exact absurd True.intro (by assumption)
                          | (refine ⟨by first | exact Or.inl rfl | exact Or.inr rfl | exact Or.inl trivial | exact Or.inr trivial | omega, ?_⟩
                             first
                               | exact absurd True.intro (by assumption)
                               | (exfalso; omega)
                               | (have e : okD w d (r (3 * o + w).toNat) g = true := by
                                    unfold okD nxD
                                    refine decide_eq_true ?_
                                    first
                                      | (rw [if_pos (show d = 0 by omega), if_pos (show w < 2 by omega)]; omega)
                                      | (rw [if_pos (show d = 0 by omega), if_neg (show ¬ w < 2 by omega)]; omega)
                                      | (rw [if_neg (show ¬ d = 0 by omega), if_pos (show w < 2 by omega)]; omega)
                                      | (rw [if_neg (show ¬ d = 0 by omega), if_neg (show ¬ w < 2 by omega)]; omega)
                                  have hQ := hQ.1 e
                                  unfold nxD at hQ
                                  first
                                    | (rw [if_pos (show d = 0 by omega)] at hQ; exact hQ)
                                    | (rw [if_neg (show ¬ d = 0 by omega)] at hQ; exact hQ))
                               | (have e : okD w d (r (3 * o + w).toNat) g = false := by
                                    unfold okD nxD
                                    refine decide_eq_false ?_
                                    first
                                      | (rw [if_pos (show d = 0 by omega), if_pos (show w < 2 by omega)]; omega)
                                      | (rw [if_pos (show d = 0 by omega), if_neg (show ¬ w < 2 by omega)]; omega)
                                      | (rw [if_neg (show ¬ d = 0 by omega), if_pos (show w < 2 by omega)]; omega)
                                      | (rw [if_neg (show ¬ d = 0 by omega), if_neg (show ¬ w < 2 by omega)]; omega)
                                  exact hQ.2 e))))
        · refine ⟨sh361, _, hR.read, ?_⟩
          refine ⟨_, sh368, ⟨by omega, by omega⟩, ?_⟩
          try simp (disch := omega) only [txH_r, txH_9, txH_10, txH_11, txH_f, txH_o, u2_txH_9, u2_txH_10, u2_txH_11, u2_txH_r, uz_self, Int.add_zero, Int.reduceToNat]
          refine ⟨fun c67_3 => ?_, fun c67_3 => ?_⟩
          · refine B_X10_takesDigit_74 ?_
            try dsimp only
            try simp (disch := omega) only [txH_r, txH_9, txH_10, txH_11, txH_f, txH_o, u2_txH_9, u2_txH_10, u2_txH_11, u2_txH_r, uz_self, Int.add_zero, Int.reduceToNat]
            refine B_X10_takesDigit_75 ?_
            try dsimp only
            try simp (disch := omega) only [txH_r, txH_9, txH_10, txH_11, txH_f, txH_o, u2_txH_9, u2_txH_10, u2_txH_11, u2_txH_r, uz_self, Int.add_zero, Int.reduceToNat]
            refine ⟨sh361, _, hR.read, ?_⟩
            refine ⟨fun c84_5 => ?_, fun c84_5 => ?_⟩
            · refine B_X10_takesDigit_91 ?_
              try dsimp only
              try simp (disch := omega) only [txH_r, txH_9, txH_10, txH_11, txH_f, txH_o, u2_txH_9, u2_txH_10, u2_txH_11, u2_txH_r, uz_self, Int.add_zero, Int.reduceToNat]
              first
                | (exfalso; omega)
                | exact absurd True.intro (by assumption)
                | (refine ⟨sh361, _, hR.read, ?_⟩
                   refine ⟨_, sh368, ⟨by omega, by omega⟩, ?_⟩
                   try simp (disch := omega) only [txH_r, txH_9, txH_10, txH_11, txH_f, txH_o, u2_txH_9, u2_txH_10, u2_txH_11, u2_txH_r, uz_self, Int.add_zero, Int.reduceToNat]
                   refine B_X10_takesDigit_97 ?_
                   try dsimp only
                   try simp (disch := omega) only [txH_r, txH_9, txH_10, txH_11, txH_f, txH_o, u2_txH_9, u2_txH_10, u2_txH_11, u2_txH_r, uz_self, Int.add_zero, Int.reduceToNat]
                   refine ⟨_, (by first | exact sh362 | exact sh365 | exact sh366 | exact sh363 | exact sh364 | exact sh367 | exact sh368), ⟨by omega, by omega⟩, ?_⟩
                   try simp (disch := omega) only [txH_r, txH_9, txH_10, txH_11, txH_f, txH_o, u2_txH_9, u2_txH_10, u2_txH_11, u2_txH_r, uz_self, Int.add_zero, Int.reduceToNat]
                   refine ⟨rfl, ?_⟩
                   refine ⟨sh361, ?_⟩
                   refine ⟨fun c105_7 => ?_, fun c105_7 => ?_⟩
                   · refine B_X10_takesDigit_112 ?_
                     try dsimp only
                     try simp (disch := omega) only [txH_r, txH_9, txH_10, txH_11, txH_f, txH_o, u2_txH_9, u2_txH_10, u2_txH_11, u2_txH_r, uz_self, Int.add_zero, Int.reduceToNat]
                     first
                       | (exfalso; omega)
                       | exact absurd True.intro (by assumption)
                       | (refine B_X10_takesDigit_113 ?_
                          try dsimp only
                          try simp (disch := omega) only [txH_r, txH_9, txH_10, txH_11, txH_f, txH_o, u2_txH_9, u2_txH_10, u2_txH_11, u2_txH_r, uz_self, Int.add_zero, Int.reduceToNat]
                          refine ⟨by (refine ⟨?_, ?_⟩ <;> omega), ?_⟩
                          refine ⟨sh361, ?_⟩
                          try simp (disch := omega) only [txH_r, txH_9, txH_10, txH_11, txH_f, txH_o, u2_txH_9, u2_txH_10, u2_txH_11, u2_txH_r, uz_self, Int.add_zero, Int.reduceToNat]
                          first
                            | (exfalso; omega)
                            | exact absurd True.intro (by assumption)
                            | (refine ⟨by first | exact Or.inl rfl | exact Or.inr rfl | exact Or.inl trivial | exact Or.inr trivial | omega, ?_⟩
                               first
                                 | exact absurd True.intro (by assumption)
                                 | (exfalso; omega)
                                 | (have e : okD w d (r (3 * o + w).toNat) g = true := by
                                      unfold okD nxD
                                      refine decide_eq_true ?_
                                      first
                                        | (rw [if_pos (show d = 0 by omega), if_pos (show w < 2 by omega)]; omega)
                                        | (rw [if_pos (show d = 0 by omega), if_neg (show ¬ w < 2 by omega)]; omega)
                                        | (rw [if_neg (show ¬ d = 0 by omega), if_pos (show w < 2 by omega)]; omega)
                                        | (rw [if_neg (show ¬ d = 0 by omega), if_neg (show ¬ w < 2 by omega)]; omega)
                                    have hQ := hQ.1 e
                                    unfold nxD at hQ
                                    first
                                      | (rw [if_pos (show d = 0 by omega)] at hQ; exact hQ)
                                      | (rw [if_neg (show ¬ d = 0 by omega)] at hQ; exact hQ))
                                 | (have e : okD w d (r (3 * o + w).toNat) g = false := by
                                      unfold okD nxD
                                      refine decide_eq_false ?_
                                      first
                                        | (rw [if_pos (show d = 0 by omega), if_pos (show w < 2 by omega)]; omega)
                                        | (rw [if_pos (show d = 0 by omega), if_neg (show ¬ w < 2 by omega)]; omega)
                                        | (rw [if_neg (show ¬ d = 0 by omega), if_pos (show w < 2 by omega)]; omega)
                                        | (rw [if_neg (show ¬ d = 0 by omega), if_neg (show ¬ w < 2 by omega)]; omega)
                                    exact hQ.2 e)))
                   · first
                       | (exfalso; omega)
                       | exact absurd True.intro (by assumption)
                       | (refine B_X10_takesDigit_113 ?_
                          try dsimp only
                          try simp (disch := omega) only [txH_r, txH_9, txH_10, txH_11, txH_f, txH_o, u2_txH_9, u2_txH_10, u2_txH_11, u2_txH_r, uz_self, Int.add_zero, Int.reduceToNat]
                          refine ⟨by (refine ⟨?_, ?_⟩ <;> omega), ?_⟩
                          refine ⟨sh361, ?_⟩
                          try simp (disch := omega) only [txH_r, txH_9, txH_10, txH_11, txH_f, txH_o, u2_txH_9, u2_txH_10, u2_txH_11, u2_txH_r, uz_self, Int.add_zero, Int.reduceToNat]
                          first
                            | (exfalso; omega)
                            | exact absurd True.intro (by assumption)
                            | (refine ⟨by first | exact Or.inl rfl | exact Or.inr rfl | exact Or.inl trivial | exact Or.inr trivial | omega, ?_⟩
                               first
                                 | exact absurd True.intro (by assumption)
                                 | (exfalso; omega)
                                 | (have e : okD w d (r (3 * o + w).toNat) g = true := by
                                      unfold okD nxD
                                      refine decide_eq_true ?_
                                      first
                                        | (rw [if_pos (show d = 0 by omega), if_pos (show w < 2 by omega)]; omega)
                                        | (rw [if_pos (show d = 0 by omega), if_neg (show ¬ w < 2 by omega)]; omega)
                                        | (rw [if_neg (show ¬ d = 0 by omega), if_pos (show w < 2 by omega)]; omega)
                                        | (rw [if_neg (show ¬ d = 0 by omega), if_neg (show ¬ w < 2 by omega)]; omega)
                                    have hQ := hQ.1 e
                                    unfold nxD at hQ
                                    first
                                      | (rw [if_pos (show d = 0 by omega)] at hQ; exact hQ)
                                      | (rw [if_neg (show ¬ d = 0 by omega)] at hQ; exact hQ))
                                 | (have e : okD w d (r (3 * o + w).toNat) g = false := by
                                      unfold okD nxD
                                      refine decide_eq_false ?_
                                      first
                                        | (rw [if_pos (show d = 0 by omega), if_pos (show w < 2 by omega)]; omega)
                                        | (rw [if_pos (show d = 0 by omega), if_neg (show ¬ w < 2 by omega)]; omega)
                                        | (rw [if_neg (show ¬ d = 0 by omega), if_pos (show w < 2 by omega)]; omega)
                                        | (rw [if_neg (show ¬ d = 0 by omega), if_neg (show ¬ w < 2 by omega)]; omega)
                                    exact hQ.2 e))))
            · first
                | (exfalso; omega)
                | exact absurd True.intro (by assumption)
                | (refine B_X10_takesDigit_97 ?_
                   try dsimp only
                   try simp (disch := omega) only [txH_r, txH_9, txH_10, txH_11, txH_f, txH_o, u2_txH_9, u2_txH_10, u2_txH_11, u2_txH_r, uz_self, Int.add_zero, Int.reduceToNat]
                   refine ⟨_, (by first | exact sh362 | exact sh365 | exact sh366 | exact sh363 | exact sh364 | exact sh367 | exact sh368), ⟨by omega, by omega⟩, ?_⟩
                   try simp (disch := omega) only [txH_r, txH_9, txH_10, txH_11, txH_f, txH_o, u2_txH_9, u2_txH_10, u2_txH_11, u2_txH_r, uz_self, Int.add_zero, Int.reduceToNat]
                   refine ⟨rfl, ?_⟩
                   refine ⟨sh361, ?_⟩
                   refine ⟨fun c105_6 => ?_, fun c105_6 => ?_⟩
                   · refine B_X10_takesDigit_112 ?_
                     try dsimp only
                     try simp (disch := omega) only [txH_r, txH_9, txH_10, txH_11, txH_f, txH_o, u2_txH_9, u2_txH_10, u2_txH_11, u2_txH_r, uz_self, Int.add_zero, Int.reduceToNat]
                     first
                       | (exfalso; omega)
                       | exact absurd True.intro (by assumption)
                       | (refine B_X10_takesDigit_113 ?_
                          try dsimp only
                          try simp (disch := omega) only [txH_r, txH_9, txH_10, txH_11, txH_f, txH_o, u2_txH_9, u2_txH_10, u2_txH_11, u2_txH_r, uz_self, Int.add_zero, Int.reduceToNat]
                          refine ⟨by (refine ⟨?_, ?_⟩ <;> omega), ?_⟩
                          refine ⟨sh361, ?_⟩
                          try simp (disch := omega) only [txH_r, txH_9, txH_10, txH_11, txH_f, txH_o, u2_txH_9, u2_txH_10, u2_txH_11, u2_txH_r, uz_self, Int.add_zero, Int.reduceToNat]
                          first
                            | (exfalso; omega)
                            | exact absurd True.intro (by assumption)
                            | (refine ⟨by first | exact Or.inl rfl | exact Or.inr rfl | exact Or.inl trivial | exact Or.inr trivial | omega, ?_⟩
                               first
                                 | exact absurd True.intro (by assumption)
                                 | (exfalso; omega)
                                 | (have e : okD w d (r (3 * o + w).toNat) g = true := by
                                      unfold okD nxD
                                      refine decide_eq_true ?_
                                      first
                                        | (rw [if_pos (show d = 0 by omega), if_pos (show w < 2 by omega)]; omega)
                                        | (rw [if_pos (show d = 0 by omega), if_neg (show ¬ w < 2 by omega)]; omega)
                                        | (rw [if_neg (show ¬ d = 0 by omega), if_pos (show w < 2 by omega)]; omega)
                                        | (rw [if_neg (show ¬ d = 0 by omega), if_neg (show ¬ w < 2 by omega)]; omega)
                                    have hQ := hQ.1 e
                                    unfold nxD at hQ
                                    first
                                      | (rw [if_pos (show d = 0 by omega)] at hQ; exact hQ)
                                      | (rw [if_neg (show ¬ d = 0 by omega)] at hQ; exact hQ))
                                 | (have e : okD w d (r (3 * o + w).toNat) g = false := by
                                      unfold okD nxD
                                      refine decide_eq_false ?_
                                      first
                                        | (rw [if_pos (show d = 0 by omega), if_pos (show w < 2 by omega)]; omega)
                                        | (rw [if_pos (show d = 0 by omega), if_neg (show ¬ w < 2 by omega)]; omega)
                                        | (rw [if_neg (show ¬ d = 0 by omega), if_pos (show w < 2 by omega)]; omega)
                                        | (rw [if_neg (show ¬ d = 0 by omega), if_neg (show ¬ w < 2 by omega)]; omega)
                                    exact hQ.2 e)))
                   · first
                       | (exfalso; omega)
                       | exact absurd True.intro (by assumption)
                       | (refine B_X10_takesDigit_113 ?_
                          try dsimp only
                          try simp (disch := omega) only [txH_r, txH_9, txH_10, txH_11, txH_f, txH_o, u2_txH_9, u2_txH_10, u2_txH_11, u2_txH_r, uz_self, Int.add_zero, Int.reduceToNat]
                          refine ⟨by (refine ⟨?_, ?_⟩ <;> omega), ?_⟩
                          refine ⟨sh361, ?_⟩
                          try simp (disch := omega) only [txH_r, txH_9, txH_10, txH_11, txH_f, txH_o, u2_txH_9, u2_txH_10, u2_txH_11, u2_txH_r, uz_self, Int.add_zero, Int.reduceToNat]
                          first
                            | (exfalso; omega)
                            | exact absurd True.intro (by assumption)
                            | (refine ⟨by first | exact Or.inl rfl | exact Or.inr rfl | exact Or.inl trivial | exact Or.inr trivial | omega, ?_⟩
                               first
                                 | exact absurd True.intro (by assumption)
                                 | (exfalso; omega)
                                 | (have e : okD w d (r (3 * o + w).toNat) g = true := by
                                      unfold okD nxD
                                      refine decide_eq_true ?_
                                      first
                                        | (rw [if_pos (show d = 0 by omega), if_pos (show w < 2 by omega)]; omega)
                                        | (rw [if_pos (show d = 0 by omega), if_neg (show ¬ w < 2 by omega)]; omega)
                                        | (rw [if_neg (show ¬ d = 0 by omega), if_pos (show w < 2 by omega)]; omega)
                                        | (rw [if_neg (show ¬ d = 0 by omega), if_neg (show ¬ w < 2 by omega)]; omega)
                                    have hQ := hQ.1 e
                                    unfold nxD at hQ
                                    first
                                      | (rw [if_pos (show d = 0 by omega)] at hQ; exact hQ)
                                      | (rw [if_neg (show ¬ d = 0 by omega)] at hQ; exact hQ))
                                 | (have e : okD w d (r (3 * o + w).toNat) g = false := by
                                      unfold okD nxD
                                      refine decide_eq_false ?_
                                      first
                                        | (rw [if_pos (show d = 0 by omega), if_pos (show w < 2 by omega)]; omega)
                                        | (rw [if_pos (show d = 0 by omega), if_neg (show ¬ w < 2 by omega)]; omega)
                                        | (rw [if_neg (show ¬ d = 0 by omega), if_pos (show w < 2 by omega)]; omega)
                                        | (rw [if_neg (show ¬ d = 0 by omega), if_neg (show ¬ w < 2 by omega)]; omega)
                                    exact hQ.2 e))))
          · refine B_X10_takesDigit_70 ?_
            try dsimp only
            try simp (disch := omega) only [txH_r, txH_9, txH_10, txH_11, txH_f, txH_o, u2_txH_9, u2_txH_10, u2_txH_11, u2_txH_r, uz_self, Int.add_zero, Int.reduceToNat]
            refine B_X10_takesDigit_75 ?_
            try dsimp only
            try simp (disch := omega) only [txH_r, txH_9, txH_10, txH_11, txH_f, txH_o, u2_txH_9, u2_txH_10, u2_txH_11, u2_txH_r, uz_self, Int.add_zero, Int.reduceToNat]
            refine ⟨sh361, _, hR.read, ?_⟩
            refine ⟨fun c84_5 => ?_, fun c84_5 => ?_⟩
            · refine B_X10_takesDigit_91 ?_
              try dsimp only
              try simp (disch := omega) only [txH_r, txH_9, txH_10, txH_11, txH_f, txH_o, u2_txH_9, u2_txH_10, u2_txH_11, u2_txH_r, uz_self, Int.add_zero, Int.reduceToNat]
              first
                | (exfalso; omega)
                | exact absurd True.intro (by assumption)
                | (refine ⟨sh361, _, hR.read, ?_⟩
                   refine ⟨_, sh368, ⟨by omega, by omega⟩, ?_⟩
                   try simp (disch := omega) only [txH_r, txH_9, txH_10, txH_11, txH_f, txH_o, u2_txH_9, u2_txH_10, u2_txH_11, u2_txH_r, uz_self, Int.add_zero, Int.reduceToNat]
                   refine B_X10_takesDigit_97 ?_
                   try dsimp only
                   try simp (disch := omega) only [txH_r, txH_9, txH_10, txH_11, txH_f, txH_o, u2_txH_9, u2_txH_10, u2_txH_11, u2_txH_r, uz_self, Int.add_zero, Int.reduceToNat]
                   refine ⟨_, (by first | exact sh362 | exact sh365 | exact sh366 | exact sh363 | exact sh364 | exact sh367 | exact sh368), ⟨by omega, by omega⟩, ?_⟩
                   try simp (disch := omega) only [txH_r, txH_9, txH_10, txH_11, txH_f, txH_o, u2_txH_9, u2_txH_10, u2_txH_11, u2_txH_r, uz_self, Int.add_zero, Int.reduceToNat]
                   refine ⟨rfl, ?_⟩
                   refine ⟨sh361, ?_⟩
                   refine ⟨fun c105_7 => ?_, fun c105_7 => ?_⟩
                   · refine B_X10_takesDigit_112 ?_
                     try dsimp only
                     try simp (disch := omega) only [txH_r, txH_9, txH_10, txH_11, txH_f, txH_o, u2_txH_9, u2_txH_10, u2_txH_11, u2_txH_r, uz_self, Int.add_zero, Int.reduceToNat]
                     first
                       | (exfalso; omega)
                       | exact absurd True.intro (by assumption)
                       | (refine B_X10_takesDigit_113 ?_
                          try dsimp only
                          try simp (disch := omega) only [txH_r, txH_9, txH_10, txH_11, txH_f, txH_o, u2_txH_9, u2_txH_10, u2_txH_11, u2_txH_r, uz_self, Int.add_zero, Int.reduceToNat]
                          refine ⟨by (refine ⟨?_, ?_⟩ <;> omega), ?_⟩
                          refine ⟨sh361, ?_⟩
                          try simp (disch := omega) only [txH_r, txH_9, txH_10, txH_11, txH_f, txH_o, u2_txH_9, u2_txH_10, u2_txH_11, u2_txH_r, uz_self, Int.add_zero, Int.reduceToNat]
                          first
                            | (exfalso; omega)
                            | exact absurd True.intro (by assumption)
                            | (refine ⟨by first | exact Or.inl rfl | exact Or.inr rfl | exact Or.inl trivial | exact Or.inr trivial | omega, ?_⟩
                               first
                                 | exact absurd True.intro (by assumption)
                                 | (exfalso; omega)
                                 | (have e : okD w d (r (3 * o + w).toNat) g = true := by
                                      unfold okD nxD
                                      refine decide_eq_true ?_
                                      first
                                        | (rw [if_pos (show d = 0 by omega), if_pos (show w < 2 by omega)]; omega)
                                        | (rw [if_pos (show d = 0 by omega), if_neg (show ¬ w < 2 by omega)]; omega)
                                        | (rw [if_neg (show ¬ d = 0 by omega), if_pos (show w < 2 by omega)]; omega)
                                        | (rw [if_neg (show ¬ d = 0 by omega), if_neg (show ¬ w < 2 by omega)]; omega)
                                    have hQ := hQ.1 e
                                    unfold nxD at hQ
                                    first
                                      | (rw [if_pos (show d = 0 by omega)] at hQ; exact hQ)
                                      | (rw [if_neg (show ¬ d = 0 by omega)] at hQ; exact hQ))
                                 | (have e : okD w d (r (3 * o + w).toNat) g = false := by
                                      unfold okD nxD
                                      refine decide_eq_false ?_
                                      first
                                        | (rw [if_pos (show d = 0 by omega), if_pos (show w < 2 by omega)]; omega)
                                        | (rw [if_pos (show d = 0 by omega), if_neg (show ¬ w < 2 by omega)]; omega)
                                        | (rw [if_neg (show ¬ d = 0 by omega), if_pos (show w < 2 by omega)]; omega)
                                        | (rw [if_neg (show ¬ d = 0 by omega), if_neg (show ¬ w < 2 by omega)]; omega)
                                    exact hQ.2 e)))
                   · first
                       | (exfalso; omega)
                       | exact absurd True.intro (by assumption)
                       | (refine B_X10_takesDigit_113 ?_
                          try dsimp only
                          try simp (disch := omega) only [txH_r, txH_9, txH_10, txH_11, txH_f, txH_o, u2_txH_9, u2_txH_10, u2_txH_11, u2_txH_r, uz_self, Int.add_zero, Int.reduceToNat]
                          refine ⟨by (refine ⟨?_, ?_⟩ <;> omega), ?_⟩
                          refine ⟨sh361, ?_⟩
                          try simp (disch := omega) only [txH_r, txH_9, txH_10, txH_11, txH_f, txH_o, u2_txH_9, u2_txH_10, u2_txH_11, u2_txH_r, uz_self, Int.add_zero, Int.reduceToNat]
                          first
                            | (exfalso; omega)
                            | exact absurd True.intro (by assumption)
                            | (refine ⟨by first | exact Or.inl rfl | exact Or.inr rfl | exact Or.inl trivial | exact Or.inr trivial | omega, ?_⟩
                               first
                                 | exact absurd True.intro (by assumption)
                                 | (exfalso; omega)
                                 | (have e : okD w d (r (3 * o + w).toNat) g = true := by
                                      unfold okD nxD
                                      refine decide_eq_true ?_
                                      first
                                        | (rw [if_pos (show d = 0 by omega), if_pos (show w < 2 by omega)]; omega)
                                        | (rw [if_pos (show d = 0 by omega), if_neg (show ¬ w < 2 by omega)]; omega)
                                        | (rw [if_neg (show ¬ d = 0 by omega), if_pos (show w < 2 by omega)]; omega)
                                        | (rw [if_neg (show ¬ d = 0 by omega), if_neg (show ¬ w < 2 by omega)]; omega)
                                    have hQ := hQ.1 e
                                    unfold nxD at hQ
                                    first
                                      | (rw [if_pos (show d = 0 by omega)] at hQ; exact hQ)
                                      | (rw [if_neg (show ¬ d = 0 by omega)] at hQ; exact hQ))
                                 | (have e : okD w d (r (3 * o + w).toNat) g = false := by
                                      unfold okD nxD
                                      refine decide_eq_false ?_
                                      first
                                        | (rw [if_pos (show d = 0 by omega), if_pos (show w < 2 by omega)]; omega)
                                        | (rw [if_pos (show d = 0 by omega), if_neg (show ¬ w < 2 by omega)]; omega)
                                        | (rw [if_neg (show ¬ d = 0 by omega), if_pos (show w < 2 by omega)]; omega)
                                        | (rw [if_neg (show ¬ d = 0 by omega), if_neg (show ¬ w < 2 by omega)]; omega)
                                    exact hQ.2 e))))
            · first
                | (exfalso; omega)
                | exact absurd True.intro (by assumption)
                | (refine B_X10_takesDigit_97 ?_
                   try dsimp only
                   try simp (disch := omega) only [txH_r, txH_9, txH_10, txH_11, txH_f, txH_o, u2_txH_9, u2_txH_10, u2_txH_11, u2_txH_r, uz_self, Int.add_zero, Int.reduceToNat]
                   refine ⟨_, (by first | exact sh362 | exact sh365 | exact sh366 | exact sh363 | exact sh364 | exact sh367 | exact sh368), ⟨by omega, by omega⟩, ?_⟩
                   try simp (disch := omega) only [txH_r, txH_9, txH_10, txH_11, txH_f, txH_o, u2_txH_9, u2_txH_10, u2_txH_11, u2_txH_r, uz_self, Int.add_zero, Int.reduceToNat]
                   refine ⟨rfl, ?_⟩
                   refine ⟨sh361, ?_⟩
                   refine ⟨fun c105_6 => ?_, fun c105_6 => ?_⟩
                   · refine B_X10_takesDigit_112 ?_
                     try dsimp only
                     try simp (disch := omega) only [txH_r, txH_9, txH_10, txH_11, txH_f, txH_o, u2_txH_9, u2_txH_10, u2_txH_11, u2_txH_r, uz_self, Int.add_zero, Int.reduceToNat]
                     first
                       | (exfalso; omega)
                       | exact absurd True.intro (by assumption)
                       | (refine B_X10_takesDigit_113 ?_
                          try dsimp only
                          try simp (disch := omega) only [txH_r, txH_9, txH_10, txH_11, txH_f, txH_o, u2_txH_9, u2_txH_10, u2_txH_11, u2_txH_r, uz_self, Int.add_zero, Int.reduceToNat]
                          refine ⟨by (refine ⟨?_, ?_⟩ <;> omega), ?_⟩
                          refine ⟨sh361, ?_⟩
                          try simp (disch := omega) only [txH_r, txH_9, txH_10, txH_11, txH_f, txH_o, u2_txH_9, u2_txH_10, u2_txH_11, u2_txH_r, uz_self, Int.add_zero, Int.reduceToNat]
                          first
                            | (exfalso; omega)
                            | exact absurd True.intro (by assumption)
                            | (refine ⟨by first | exact Or.inl rfl | exact Or.inr rfl | exact Or.inl trivial | exact Or.inr trivial | omega, ?_⟩
                               first
                                 | exact absurd True.intro (by assumption)
                                 | (exfalso; omega)
                                 | (have e : okD w d (r (3 * o + w).toNat) g = true := by
                                      unfold okD nxD
                                      refine decide_eq_true ?_
                                      first
                                        | (rw [if_pos (show d = 0 by omega), if_pos (show w < 2 by omega)]; omega)
                                        | (rw [if_pos (show d = 0 by omega), if_neg (show ¬ w < 2 by omega)]; omega)
                                        | (rw [if_neg (show ¬ d = 0 by omega), if_pos (show w < 2 by omega)]; omega)
                                        | (rw [if_neg (show ¬ d = 0 by omega), if_neg (show ¬ w < 2 by omega)]; omega)
                                    have hQ := hQ.1 e
                                    unfold nxD at hQ
                                    first
                                      | (rw [if_pos (show d = 0 by omega)] at hQ; exact hQ)
                                      | (rw [if_neg (show ¬ d = 0 by omega)] at hQ; exact hQ))
                                 | (have e : okD w d (r (3 * o + w).toNat) g = false := by
                                      unfold okD nxD
                                      refine decide_eq_false ?_
                                      first
                                        | (rw [if_pos (show d = 0 by omega), if_pos (show w < 2 by omega)]; omega)
                                        | (rw [if_pos (show d = 0 by omega), if_neg (show ¬ w < 2 by omega)]; omega)
                                        | (rw [if_neg (show ¬ d = 0 by omega), if_pos (show w < 2 by omega)]; omega)
                                        | (rw [if_neg (show ¬ d = 0 by omega), if_neg (show ¬ w < 2 by omega)]; omega)
                                    exact hQ.2 e)))
                   · first
                       | (exfalso; omega)
                       | exact absurd True.intro (by assumption)
                       | (refine B_X10_takesDigit_113 ?_
                          try dsimp only
                          try simp (disch := omega) only [txH_r, txH_9, txH_10, txH_11, txH_f, txH_o, u2_txH_9, u2_txH_10, u2_txH_11, u2_txH_r, uz_self, Int.add_zero, Int.reduceToNat]
                          refine ⟨by (refine ⟨?_, ?_⟩ <;> omega), ?_⟩
                          refine ⟨sh361, ?_⟩
                          try simp (disch := omega) only [txH_r, txH_9, txH_10, txH_11, txH_f, txH_o, u2_txH_9, u2_txH_10, u2_txH_11, u2_txH_r, uz_self, Int.add_zero, Int.reduceToNat]
                          first
                            | (exfalso; omega)
                            | exact absurd True.intro (by assumption)
                            | (refine ⟨by first | exact Or.inl rfl | exact Or.inr rfl | exact Or.inl trivial | exact Or.inr trivial | omega, ?_⟩
                               first
                                 | exact absurd True.intro (by assumption)
                                 | (exfalso; omega)
                                 | (have e : okD w d (r (3 * o + w).toNat) g = true := by
                                      unfold okD nxD
                                      refine decide_eq_true ?_
                                      first
                                        | (rw [if_pos (show d = 0 by omega), if_pos (show w < 2 by omega)]; omega)
                                        | (rw [if_pos (show d = 0 by omega), if_neg (show ¬ w < 2 by omega)]; omega)
                                        | (rw [if_neg (show ¬ d = 0 by omega), if_pos (show w < 2 by omega)]; omega)
                                        | (rw [if_neg (show ¬ d = 0 by omega), if_neg (show ¬ w < 2 by omega)]; omega)
                                    have hQ := hQ.1 e
                                    unfold nxD at hQ
                                    first
                                      | (rw [if_pos (show d = 0 by omega)] at hQ; exact hQ)
                                      | (rw [if_neg (show ¬ d = 0 by omega)] at hQ; exact hQ))
                                 | (have e : okD w d (r (3 * o + w).toNat) g = false := by
                                      unfold okD nxD
                                      refine decide_eq_false ?_
                                      first
                                        | (rw [if_pos (show d = 0 by omega), if_pos (show w < 2 by omega)]; omega)
                                        | (rw [if_pos (show d = 0 by omega), if_neg (show ¬ w < 2 by omega)]; omega)
                                        | (rw [if_neg (show ¬ d = 0 by omega), if_pos (show w < 2 by omega)]; omega)
                                        | (rw [if_neg (show ¬ d = 0 by omega), if_neg (show ¬ w < 2 by omega)]; omega)
                                    exact hQ.2 e))))
  · refine B_X10_takesDigit_34 ?_
    try dsimp only
    try simp (disch := omega) only [txH_r, txH_9, txH_10, txH_11, txH_f, txH_o, u2_txH_9, u2_txH_10, u2_txH_11, u2_txH_r, uz_self, Int.add_zero, Int.reduceToNat]
    refine ⟨sh361, ?_⟩
    refine ⟨fun c41_1 => ?_, fun c41_1 => ?_⟩
    · refine B_X10_takesDigit_49 ?_
      try dsimp only
      try simp (disch := omega) only [txH_r, txH_9, txH_10, txH_11, txH_f, txH_o, u2_txH_9, u2_txH_10, u2_txH_11, u2_txH_r, uz_self, Int.add_zero, Int.reduceToNat]
      refine B_X10_takesDigit_51 ?_
      try dsimp only
      try simp (disch := omega) only [txH_r, txH_9, txH_10, txH_11, txH_f, txH_o, u2_txH_9, u2_txH_10, u2_txH_11, u2_txH_r, uz_self, Int.add_zero, Int.reduceToNat]
      refine ⟨fun c51_3 => ?_, fun c51_3 => ?_⟩
      · refine B_X10_takesDigit_74 ?_
        try dsimp only
        try simp (disch := omega) only [txH_r, txH_9, txH_10, txH_11, txH_f, txH_o, u2_txH_9, u2_txH_10, u2_txH_11, u2_txH_r, uz_self, Int.add_zero, Int.reduceToNat]
        refine B_X10_takesDigit_75 ?_
        try dsimp only
        try simp (disch := omega) only [txH_r, txH_9, txH_10, txH_11, txH_f, txH_o, u2_txH_9, u2_txH_10, u2_txH_11, u2_txH_r, uz_self, Int.add_zero, Int.reduceToNat]
        refine ⟨sh361, _, hR.read, ?_⟩
        refine ⟨fun c84_5 => ?_, fun c84_5 => ?_⟩
        · refine B_X10_takesDigit_91 ?_
          try dsimp only
          try simp (disch := omega) only [txH_r, txH_9, txH_10, txH_11, txH_f, txH_o, u2_txH_9, u2_txH_10, u2_txH_11, u2_txH_r, uz_self, Int.add_zero, Int.reduceToNat]
          first
            | (exfalso; omega)
            | exact absurd True.intro (by assumption)
            | (refine ⟨sh361, _, hR.read, ?_⟩
               refine ⟨_, sh368, ⟨by omega, by omega⟩, ?_⟩
               try simp (disch := omega) only [txH_r, txH_9, txH_10, txH_11, txH_f, txH_o, u2_txH_9, u2_txH_10, u2_txH_11, u2_txH_r, uz_self, Int.add_zero, Int.reduceToNat]
               refine B_X10_takesDigit_97 ?_
               try dsimp only
               try simp (disch := omega) only [txH_r, txH_9, txH_10, txH_11, txH_f, txH_o, u2_txH_9, u2_txH_10, u2_txH_11, u2_txH_r, uz_self, Int.add_zero, Int.reduceToNat]
               refine ⟨_, (by first | exact sh362 | exact sh365 | exact sh366 | exact sh363 | exact sh364 | exact sh367 | exact sh368), ⟨by omega, by omega⟩, ?_⟩
               try simp (disch := omega) only [txH_r, txH_9, txH_10, txH_11, txH_f, txH_o, u2_txH_9, u2_txH_10, u2_txH_11, u2_txH_r, uz_self, Int.add_zero, Int.reduceToNat]
               refine ⟨rfl, ?_⟩
               refine ⟨sh361, ?_⟩
               refine ⟨fun c105_7 => ?_, fun c105_7 => ?_⟩
               · refine B_X10_takesDigit_112 ?_
                 try dsimp only
                 try simp (disch := omega) only [txH_r, txH_9, txH_10, txH_11, txH_f, txH_o, u2_txH_9, u2_txH_10, u2_txH_11, u2_txH_r, uz_self, Int.add_zero, Int.reduceToNat]
                 first
                   | (exfalso; omega)
                   | exact absurd True.intro (by assumption)
                   | (refine B_X10_takesDigit_113 ?_
                      try dsimp only
                      try simp (disch := omega) only [txH_r, txH_9, txH_10, txH_11, txH_f, txH_o, u2_txH_9, u2_txH_10, u2_txH_11, u2_txH_r, uz_self, Int.add_zero, Int.reduceToNat]
                      refine ⟨by (refine ⟨?_, ?_⟩ <;> omega), ?_⟩
                      refine ⟨sh361, ?_⟩
                      try simp (disch := omega) only [txH_r, txH_9, txH_10, txH_11, txH_f, txH_o, u2_txH_9, u2_txH_10, u2_txH_11, u2_txH_r, uz_self, Int.add_zero, Int.reduceToNat]
                      first
                        | (exfalso; omega)
                        | exact absurd True.intro (by assumption)
                        | (refine ⟨by first | exact Or.inl rfl | exact Or.inr rfl | exact Or.inl trivial | exact Or.inr trivial | omega, ?_⟩
                           first
                             | exact absurd True.intro (by assumption)
                             | (exfalso; omega)
                             | (have e : okD w d (r (3 * o + w).toNat) g = true := by
                                  unfold okD nxD
                                  refine decide_eq_true ?_
                                  first
                                    | (rw [if_pos (show d = 0 by omega), if_pos (show w < 2 by omega)]; omega)
                                    | (rw [if_pos (show d = 0 by omega), if_neg (show ¬ w < 2 by omega)]; omega)
                                    | (rw [if_neg (show ¬ d = 0 by omega), if_pos (show w < 2 by omega)]; omega)
                                    | (rw [if_neg (show ¬ d = 0 by omega), if_neg (show ¬ w < 2 by omega)]; omega)
                                have hQ := hQ.1 e
                                unfold nxD at hQ
                                first
                                  | (rw [if_pos (show d = 0 by omega)] at hQ; exact hQ)
                                  | (rw [if_neg (show ¬ d = 0 by omega)] at hQ; exact hQ))
                             | (have e : okD w d (r (3 * o + w).toNat) g = false := by
                                  unfold okD nxD
                                  refine decide_eq_false ?_
                                  first
                                    | (rw [if_pos (show d = 0 by omega), if_pos (show w < 2 by omega)]; omega)
                                    | (rw [if_pos (show d = 0 by omega), if_neg (show ¬ w < 2 by omega)]; omega)
                                    | (rw [if_neg (show ¬ d = 0 by omega), if_pos (show w < 2 by omega)]; omega)
                                    | (rw [if_neg (show ¬ d = 0 by omega), if_neg (show ¬ w < 2 by omega)]; omega)
                                exact hQ.2 e)))
               · first
                   | (exfalso; omega)
                   | exact absurd True.intro (by assumption)
                   | (refine B_X10_takesDigit_113 ?_
                      try dsimp only
                      try simp (disch := omega) only [txH_r, txH_9, txH_10, txH_11, txH_f, txH_o, u2_txH_9, u2_txH_10, u2_txH_11, u2_txH_r, uz_self, Int.add_zero, Int.reduceToNat]
                      refine ⟨by (refine ⟨?_, ?_⟩ <;> omega), ?_⟩
                      refine ⟨sh361, ?_⟩
                      try simp (disch := omega) only [txH_r, txH_9, txH_10, txH_11, txH_f, txH_o, u2_txH_9, u2_txH_10, u2_txH_11, u2_txH_r, uz_self, Int.add_zero, Int.reduceToNat]
                      first
                        | (exfalso; omega)
                        | exact absurd True.intro (by assumption)
                        | (refine ⟨by first | exact Or.inl rfl | exact Or.inr rfl | exact Or.inl trivial | exact Or.inr trivial | omega, ?_⟩
                           first
                             | exact absurd True.intro (by assumption)
                             | (exfalso; omega)
                             | (have e : okD w d (r (3 * o + w).toNat) g = true := by
                                  unfold okD nxD
                                  refine decide_eq_true ?_
                                  first
                                    | (rw [if_pos (show d = 0 by omega), if_pos (show w < 2 by omega)]; omega)
                                    | (rw [if_pos (show d = 0 by omega), if_neg (show ¬ w < 2 by omega)]; omega)
                                    | (rw [if_neg (show ¬ d = 0 by omega), if_pos (show w < 2 by omega)]; omega)
                                    | (rw [if_neg (show ¬ d = 0 by omega), if_neg (show ¬ w < 2 by omega)]; omega)
                                have hQ := hQ.1 e
                                unfold nxD at hQ
                                first
                                  | (rw [if_pos (show d = 0 by omega)] at hQ; exact hQ)
                                  | (rw [if_neg (show ¬ d = 0 by omega)] at hQ; exact hQ))
                             | (have e : okD w d (r (3 * o + w).toNat) g = false := by
                                  unfold okD nxD
                                  refine decide_eq_false ?_
                                  first
                                    | (rw [if_pos (show d = 0 by omega), if_pos (show w < 2 by omega)]; omega)
                                    | (rw [if_pos (show d = 0 by omega), if_neg (show ¬ w < 2 by omega)]; omega)
                                    | (rw [if_neg (show ¬ d = 0 by omega), if_pos (show w < 2 by omega)]; omega)
                                    | (rw [if_neg (show ¬ d = 0 by omega), if_neg (show ¬ w < 2 by omega)]; omega)
                                exact hQ.2 e))))
        · first
            | (exfalso; omega)
            | exact absurd True.intro (by assumption)
            | (refine B_X10_takesDigit_97 ?_
               try dsimp only
               try simp (disch := omega) only [txH_r, txH_9, txH_10, txH_11, txH_f, txH_o, u2_txH_9, u2_txH_10, u2_txH_11, u2_txH_r, uz_self, Int.add_zero, Int.reduceToNat]
               refine ⟨_, (by first | exact sh362 | exact sh365 | exact sh366 | exact sh363 | exact sh364 | exact sh367 | exact sh368), ⟨by omega, by omega⟩, ?_⟩
               try simp (disch := omega) only [txH_r, txH_9, txH_10, txH_11, txH_f, txH_o, u2_txH_9, u2_txH_10, u2_txH_11, u2_txH_r, uz_self, Int.add_zero, Int.reduceToNat]
               refine ⟨rfl, ?_⟩
               refine ⟨sh361, ?_⟩
               refine ⟨fun c105_6 => ?_, fun c105_6 => ?_⟩
               · refine B_X10_takesDigit_112 ?_
                 try dsimp only
                 try simp (disch := omega) only [txH_r, txH_9, txH_10, txH_11, txH_f, txH_o, u2_txH_9, u2_txH_10, u2_txH_11, u2_txH_r, uz_self, Int.add_zero, Int.reduceToNat]
                 first
                   | (exfalso; omega)
                   | exact absurd True.intro (by assumption)
                   | (refine B_X10_takesDigit_113 ?_
                      try dsimp only
                      try simp (disch := omega) only [txH_r, txH_9, txH_10, txH_11, txH_f, txH_o, u2_txH_9, u2_txH_10, u2_txH_11, u2_txH_r, uz_self, Int.add_zero, Int.reduceToNat]
                      refine ⟨by (refine ⟨?_, ?_⟩ <;> omega), ?_⟩
                      refine ⟨sh361, ?_⟩
                      try simp (disch := omega) only [txH_r, txH_9, txH_10, txH_11, txH_f, txH_o, u2_txH_9, u2_txH_10, u2_txH_11, u2_txH_r, uz_self, Int.add_zero, Int.reduceToNat]
                      first
                        | (exfalso; omega)
                        | exact absurd True.intro (by assumption)
                        | (refine ⟨by first | exact Or.inl rfl | exact Or.inr rfl | exact Or.inl trivial | exact Or.inr trivial | omega, ?_⟩
                           first
                             | exact absurd True.intro (by assumption)
                             | (exfalso; omega)
                             | (have e : okD w d (r (3 * o + w).toNat) g = true := by
                                  unfold okD nxD
                                  refine decide_eq_true ?_
                                  first
                                    | (rw [if_pos (show d = 0 by omega), if_pos (show w < 2 by omega)]; omega)
                                    | (rw [if_pos (show d = 0 by omega), if_neg (show ¬ w < 2 by omega)]; omega)
                                    | (rw [if_neg (show ¬ d = 0 by omega), if_pos (show w < 2 by omega)]; omega)
                                    | (rw [if_neg (show ¬ d = 0 by omega), if_neg (show ¬ w < 2 by omega)]; omega)
                                have hQ := hQ.1 e
                                unfold nxD at hQ
                                first
                                  | (rw [if_pos (show d = 0 by omega)] at hQ; exact hQ)
                                  | (rw [if_neg (show ¬ d = 0 by omega)] at hQ; exact hQ))
                             | (have e : okD w d (r (3 * o + w).toNat) g = false := by
                                  unfold okD nxD
                                  refine decide_eq_false ?_
                                  first
                                    | (rw [if_pos (show d = 0 by omega), if_pos (show w < 2 by omega)]; omega)
                                    | (rw [if_pos (show d = 0 by omega), if_neg (show ¬ w < 2 by omega)]; omega)
                                    | (rw [if_neg (show ¬ d = 0 by omega), if_pos (show w < 2 by omega)]; omega)
                                    | (rw [if_neg (show ¬ d = 0 by omega), if_neg (show ¬ w < 2 by omega)]; omega)
                                exact hQ.2 e)))
               · first
                   | (exfalso; omega)
                   | exact absurd True.intro (by assumption)
                   | (refine B_X10_takesDigit_113 ?_
                      try dsimp only
                      try simp (disch := omega) only [txH_r, txH_9, txH_10, txH_11, txH_f, txH_o, u2_txH_9, u2_txH_10, u2_txH_11, u2_txH_r, uz_self, Int.add_zero, Int.reduceToNat]
                      refine ⟨by (refine ⟨?_, ?_⟩ <;> omega), ?_⟩
                      refine ⟨sh361, ?_⟩
                      try simp (disch := omega) only [txH_r, txH_9, txH_10, txH_11, txH_f, txH_o, u2_txH_9, u2_txH_10, u2_txH_11, u2_txH_r, uz_self, Int.add_zero, Int.reduceToNat]
                      first
                        | (exfalso; omega)
                        | exact absurd True.intro (by assumption)
                        | (refine ⟨by first | exact Or.inl rfl | exact Or.inr rfl | exact Or.inl trivial | exact Or.inr trivial | omega, ?_⟩
                           first
                             | exact absurd True.intro (by assumption)
                             | (exfalso; omega)
                             | (have e : okD w d (r (3 * o + w).toNat) g = true := by
                                  unfold okD nxD
                                  refine decide_eq_true ?_
                                  first
                                    | (rw [if_pos (show d = 0 by omega), if_pos (show w < 2 by omega)]; omega)
                                    | (rw [if_pos (show d = 0 by omega), if_neg (show ¬ w < 2 by omega)]; omega)
                                    | (rw [if_neg (show ¬ d = 0 by omega), if_pos (show w < 2 by omega)]; omega)
                                    | (rw [if_neg (show ¬ d = 0 by omega), if_neg (show ¬ w < 2 by omega)]; omega)
                                have hQ := hQ.1 e
                                unfold nxD at hQ
                                first
                                  | (rw [if_pos (show d = 0 by omega)] at hQ; exact hQ)
                                  | (rw [if_neg (show ¬ d = 0 by omega)] at hQ; exact hQ))
                             | (have e : okD w d (r (3 * o + w).toNat) g = false := by
                                  unfold okD nxD
                                  refine decide_eq_false ?_
                                  first
                                    | (rw [if_pos (show d = 0 by omega), if_pos (show w < 2 by omega)]; omega)
                                    | (rw [if_pos (show d = 0 by omega), if_neg (show ¬ w < 2 by omega)]; omega)
                                    | (rw [if_neg (show ¬ d = 0 by omega), if_pos (show w < 2 by omega)]; omega)
                                    | (rw [if_neg (show ¬ d = 0 by omega), if_neg (show ¬ w < 2 by omega)]; omega)
                                exact hQ.2 e))))
      · refine ⟨sh361, ?_⟩
        refine ⟨fun c58_3 => ?_, fun c58_3 => ?_⟩
        · refine B_X10_takesDigit_70 ?_
          try dsimp only
          try simp (disch := omega) only [txH_r, txH_9, txH_10, txH_11, txH_f, txH_o, u2_txH_9, u2_txH_10, u2_txH_11, u2_txH_r, uz_self, Int.add_zero, Int.reduceToNat]
          refine B_X10_takesDigit_75 ?_
          try dsimp only
          try simp (disch := omega) only [txH_r, txH_9, txH_10, txH_11, txH_f, txH_o, u2_txH_9, u2_txH_10, u2_txH_11, u2_txH_r, uz_self, Int.add_zero, Int.reduceToNat]
          refine ⟨sh361, _, hR.read, ?_⟩
          refine ⟨fun c84_5 => ?_, fun c84_5 => ?_⟩
          · refine B_X10_takesDigit_91 ?_
            try dsimp only
            try simp (disch := omega) only [txH_r, txH_9, txH_10, txH_11, txH_f, txH_o, u2_txH_9, u2_txH_10, u2_txH_11, u2_txH_r, uz_self, Int.add_zero, Int.reduceToNat]
            first
              | (exfalso; omega)
              | exact absurd True.intro (by assumption)
              | (refine ⟨sh361, _, hR.read, ?_⟩
                 refine ⟨_, sh368, ⟨by omega, by omega⟩, ?_⟩
                 try simp (disch := omega) only [txH_r, txH_9, txH_10, txH_11, txH_f, txH_o, u2_txH_9, u2_txH_10, u2_txH_11, u2_txH_r, uz_self, Int.add_zero, Int.reduceToNat]
                 refine B_X10_takesDigit_97 ?_
                 try dsimp only
                 try simp (disch := omega) only [txH_r, txH_9, txH_10, txH_11, txH_f, txH_o, u2_txH_9, u2_txH_10, u2_txH_11, u2_txH_r, uz_self, Int.add_zero, Int.reduceToNat]
                 refine ⟨_, (by first | exact sh362 | exact sh365 | exact sh366 | exact sh363 | exact sh364 | exact sh367 | exact sh368), ⟨by omega, by omega⟩, ?_⟩
                 try simp (disch := omega) only [txH_r, txH_9, txH_10, txH_11, txH_f, txH_o, u2_txH_9, u2_txH_10, u2_txH_11, u2_txH_r, uz_self, Int.add_zero, Int.reduceToNat]
                 refine ⟨rfl, ?_⟩
                 refine ⟨sh361, ?_⟩
                 refine ⟨fun c105_7 => ?_, fun c105_7 => ?_⟩
                 · refine B_X10_takesDigit_112 ?_
                   try dsimp only
                   try simp (disch := omega) only [txH_r, txH_9, txH_10, txH_11, txH_f, txH_o, u2_txH_9, u2_txH_10, u2_txH_11, u2_txH_r, uz_self, Int.add_zero, Int.reduceToNat]
                   first
                     | (exfalso; omega)
                     | exact absurd True.intro (by assumption)
                     | (refine B_X10_takesDigit_113 ?_
                        try dsimp only
                        try simp (disch := omega) only [txH_r, txH_9, txH_10, txH_11, txH_f, txH_o, u2_txH_9, u2_txH_10, u2_txH_11, u2_txH_r, uz_self, Int.add_zero, Int.reduceToNat]
                        refine ⟨by (refine ⟨?_, ?_⟩ <;> omega), ?_⟩
                        refine ⟨sh361, ?_⟩
                        try simp (disch := omega) only [txH_r, txH_9, txH_10, txH_11, txH_f, txH_o, u2_txH_9, u2_txH_10, u2_txH_11, u2_txH_r, uz_self, Int.add_zero, Int.reduceToNat]
                        first
                          | (exfalso; omega)
                          | exact absurd True.intro (by assumption)
                          | (refine ⟨by first | exact Or.inl rfl | exact Or.inr rfl | exact Or.inl trivial | exact Or.inr trivial | omega, ?_⟩
                             first
                               | exact absurd True.intro (by assumption)
                               | (exfalso; omega)
                               | (have e : okD w d (r (3 * o + w).toNat) g = true := by
                                    unfold okD nxD
                                    refine decide_eq_true ?_
                                    first
                                      | (rw [if_pos (show d = 0 by omega), if_pos (show w < 2 by omega)]; omega)
                                      | (rw [if_pos (show d = 0 by omega), if_neg (show ¬ w < 2 by omega)]; omega)
                                      | (rw [if_neg (show ¬ d = 0 by omega), if_pos (show w < 2 by omega)]; omega)
                                      | (rw [if_neg (show ¬ d = 0 by omega), if_neg (show ¬ w < 2 by omega)]; omega)
                                  have hQ := hQ.1 e
                                  unfold nxD at hQ
                                  first
                                    | (rw [if_pos (show d = 0 by omega)] at hQ; exact hQ)
                                    | (rw [if_neg (show ¬ d = 0 by omega)] at hQ; exact hQ))
                               | (have e : okD w d (r (3 * o + w).toNat) g = false := by
                                    unfold okD nxD
                                    refine decide_eq_false ?_
                                    first
                                      | (rw [if_pos (show d = 0 by omega), if_pos (show w < 2 by omega)]; omega)
                                      | (rw [if_pos (show d = 0 by omega), if_neg (show ¬ w < 2 by omega)]; omega)
                                      | (rw [if_neg (show ¬ d = 0 by omega), if_pos (show w < 2 by omega)]; omega)
                                      | (rw [if_neg (show ¬ d = 0 by omega), if_neg (show ¬ w < 2 by omega)]; omega)
                                  exact hQ.2 e)))
                 · first
                     | (exfalso; omega)
                     | exact absurd True.intro (by assumption)
                     | (refine B_X10_takesDigit_113 ?_
                        try dsimp only
                        try simp (disch := omega) only [txH_r, txH_9, txH_10, txH_11, txH_f, txH_o, u2_txH_9, u2_txH_10, u2_txH_11, u2_txH_r, uz_self, Int.add_zero, Int.reduceToNat]
                        refine ⟨by (refine ⟨?_, ?_⟩ <;> omega), ?_⟩
                        refine ⟨sh361, ?_⟩
                        try simp (disch := omega) only [txH_r, txH_9, txH_10, txH_11, txH_f, txH_o, u2_txH_9, u2_txH_10, u2_txH_11, u2_txH_r, uz_self, Int.add_zero, Int.reduceToNat]
                        first
                          | (exfalso; omega)
                          | exact absurd True.intro (by assumption)
                          | (refine ⟨by first | exact Or.inl rfl | exact Or.inr rfl | exact Or.inl trivial | exact Or.inr trivial | omega, ?_⟩
                             first
                               | exact absurd True.intro (by assumption)
                               | (exfalso; omega)
                               | (have e : okD w d (r (3 * o + w).toNat) g = true := by
                                    unfold okD nxD
                                    refine decide_eq_true ?_
                                    first
                                      | (rw [if_pos (show d = 0 by omega), if_pos (show w < 2 by omega)]; omega)
                                      | (rw [if_pos (show d = 0 by omega), if_neg (show ¬ w < 2 by omega)]; omega)
                                      | (rw [if_neg (show ¬ d = 0 by omega), if_pos (show w < 2 by omega)]; omega)
                                      | (rw [if_neg (show ¬ d = 0 by omega), if_neg (show ¬ w < 2 by omega)]; omega)
                                  have hQ := hQ.1 e
                                  unfold nxD at hQ
                                  first
                                    | (rw [if_pos (show d = 0 by omega)] at hQ; exact hQ)
                                    | (rw [if_neg (show ¬ d = 0 by omega)] at hQ; exact hQ))
                               | (have e : okD w d (r (3 * o + w).toNat) g = false := by
                                    unfold okD nxD
                                    refine decide_eq_false ?_
                                    first
                                      | (rw [if_pos (show d = 0 by omega), if_pos (show w < 2 by omega)]; omega)
                                      | (rw [if_pos (show d = 0 by omega), if_neg (show ¬ w < 2 by omega)]; omega)
                                      | (rw [if_neg (show ¬ d = 0 by omega), if_pos (show w < 2 by omega)]; omega)
                                      | (rw [if_neg (show ¬ d = 0 by omega), if_neg (show ¬ w < 2 by omega)]; omega)
                                  exact hQ.2 e))))
          · first
              | (exfalso; omega)
              | exact absurd True.intro (by assumption)
              | (refine B_X10_takesDigit_97 ?_
                 try dsimp only
                 try simp (disch := omega) only [txH_r, txH_9, txH_10, txH_11, txH_f, txH_o, u2_txH_9, u2_txH_10, u2_txH_11, u2_txH_r, uz_self, Int.add_zero, Int.reduceToNat]
                 refine ⟨_, (by first | exact sh362 | exact sh365 | exact sh366 | exact sh363 | exact sh364 | exact sh367 | exact sh368), ⟨by omega, by omega⟩, ?_⟩
                 try simp (disch := omega) only [txH_r, txH_9, txH_10, txH_11, txH_f, txH_o, u2_txH_9, u2_txH_10, u2_txH_11, u2_txH_r, uz_self, Int.add_zero, Int.reduceToNat]
                 refine ⟨rfl, ?_⟩
                 refine ⟨sh361, ?_⟩
                 refine ⟨fun c105_6 => ?_, fun c105_6 => ?_⟩
                 · refine B_X10_takesDigit_112 ?_
                   try dsimp only
                   try simp (disch := omega) only [txH_r, txH_9, txH_10, txH_11, txH_f, txH_o, u2_txH_9, u2_txH_10, u2_txH_11, u2_txH_r, uz_self, Int.add_zero, Int.reduceToNat]
                   first
                     | (exfalso; omega)
                     | exact absurd True.intro (by assumption)
                     | (refine B_X10_takesDigit_113 ?_
                        try dsimp only
                        try simp (disch := omega) only [txH_r, txH_9, txH_10, txH_11, txH_f, txH_o, u2_txH_9, u2_txH_10, u2_txH_11, u2_txH_r, uz_self, Int.add_zero, Int.reduceToNat]
                        refine ⟨by (refine ⟨?_, ?_⟩ <;> omega), ?_⟩
                        refine ⟨sh361, ?_⟩
                        try simp (disch := omega) only [txH_r, txH_9, txH_10, txH_11, txH_f, txH_o, u2_txH_9, u2_txH_10, u2_txH_11, u2_txH_r, uz_self, Int.add_zero, Int.reduceToNat]
                        first
                          | (exfalso; omega)
                          | exact absurd True.intro (by assumption)
                          | (refine ⟨by first | exact Or.inl rfl | exact Or.inr rfl | exact Or.inl trivial | exact Or.inr trivial | omega, ?_⟩
                             first
                               | exact absurd True.intro (by assumption)
                               | (exfalso; omega)
                               | (have e : okD w d (r (3 * o + w).toNat) g = true := by
                                    unfold okD nxD
                                    refine decide_eq_true ?_
                                    first
                                      | (rw [if_pos (show d = 0 by omega), if_pos (show w < 2 by omega)]; omega)
                                      | (rw [if_pos (show d = 0 by omega), if_neg (show ¬ w < 2 by omega)]; omega)
                                      | (rw [if_neg (show ¬ d = 0 by omega), if_pos (show w < 2 by omega)]; omega)
                                      | (rw [if_neg (show ¬ d = 0 by omega), if_neg (show ¬ w < 2 by omega)]; omega)
                                  have hQ := hQ.1 e
                                  unfold nxD at hQ
                                  first
                                    | (rw [if_pos (show d = 0 by omega)] at hQ; exact hQ)
                                    | (rw [if_neg (show ¬ d = 0 by omega)] at hQ; exact hQ))
                               | (have e : okD w d (r (3 * o + w).toNat) g = false := by
                                    unfold okD nxD
                                    refine decide_eq_false ?_
                                    first
                                      | (rw [if_pos (show d = 0 by omega), if_pos (show w < 2 by omega)]; omega)
                                      | (rw [if_pos (show d = 0 by omega), if_neg (show ¬ w < 2 by omega)]; omega)
                                      | (rw [if_neg (show ¬ d = 0 by omega), if_pos (show w < 2 by omega)]; omega)
                                      | (rw [if_neg (show ¬ d = 0 by omega), if_neg (show ¬ w < 2 by omega)]; omega)
                                  exact hQ.2 e)))
                 · first
                     | (exfalso; omega)
                     | exact absurd True.intro (by assumption)
                     | (refine B_X10_takesDigit_113 ?_
                        try dsimp only
                        try simp (disch := omega) only [txH_r, txH_9, txH_10, txH_11, txH_f, txH_o, u2_txH_9, u2_txH_10, u2_txH_11, u2_txH_r, uz_self, Int.add_zero, Int.reduceToNat]
                        refine ⟨by (refine ⟨?_, ?_⟩ <;> omega), ?_⟩
                        refine ⟨sh361, ?_⟩
                        try simp (disch := omega) only [txH_r, txH_9, txH_10, txH_11, txH_f, txH_o, u2_txH_9, u2_txH_10, u2_txH_11, u2_txH_r, uz_self, Int.add_zero, Int.reduceToNat]
                        first
                          | (exfalso; omega)
                          | exact absurd True.intro (by assumption)
                          | (refine ⟨by first | exact Or.inl rfl | exact Or.inr rfl | exact Or.inl trivial | exact Or.inr trivial | omega, ?_⟩
                             first
                               | exact absurd True.intro (by assumption)
                               | (exfalso; omega)
                               | (have e : okD w d (r (3 * o + w).toNat) g = true := by
                                    unfold okD nxD
                                    refine decide_eq_true ?_
                                    first
                                      | (rw [if_pos (show d = 0 by omega), if_pos (show w < 2 by omega)]; omega)
                                      | (rw [if_pos (show d = 0 by omega), if_neg (show ¬ w < 2 by omega)]; omega)
                                      | (rw [if_neg (show ¬ d = 0 by omega), if_pos (show w < 2 by omega)]; omega)
                                      | (rw [if_neg (show ¬ d = 0 by omega), if_neg (show ¬ w < 2 by omega)]; omega)
                                  have hQ := hQ.1 e
                                  unfold nxD at hQ
                                  first
                                    | (rw [if_pos (show d = 0 by omega)] at hQ; exact hQ)
                                    | (rw [if_neg (show ¬ d = 0 by omega)] at hQ; exact hQ))
                               | (have e : okD w d (r (3 * o + w).toNat) g = false := by
                                    unfold okD nxD
                                    refine decide_eq_false ?_
                                    first
                                      | (rw [if_pos (show d = 0 by omega), if_pos (show w < 2 by omega)]; omega)
                                      | (rw [if_pos (show d = 0 by omega), if_neg (show ¬ w < 2 by omega)]; omega)
                                      | (rw [if_neg (show ¬ d = 0 by omega), if_pos (show w < 2 by omega)]; omega)
                                      | (rw [if_neg (show ¬ d = 0 by omega), if_neg (show ¬ w < 2 by omega)]; omega)
                                  exact hQ.2 e))))
        · refine ⟨sh361, _, hR.read, ?_⟩
          refine ⟨_, sh368, ⟨by omega, by omega⟩, ?_⟩
          try simp (disch := omega) only [txH_r, txH_9, txH_10, txH_11, txH_f, txH_o, u2_txH_9, u2_txH_10, u2_txH_11, u2_txH_r, uz_self, Int.add_zero, Int.reduceToNat]
          refine ⟨fun c67_3 => ?_, fun c67_3 => ?_⟩
          · refine B_X10_takesDigit_74 ?_
            try dsimp only
            try simp (disch := omega) only [txH_r, txH_9, txH_10, txH_11, txH_f, txH_o, u2_txH_9, u2_txH_10, u2_txH_11, u2_txH_r, uz_self, Int.add_zero, Int.reduceToNat]
            refine B_X10_takesDigit_75 ?_
            try dsimp only
            try simp (disch := omega) only [txH_r, txH_9, txH_10, txH_11, txH_f, txH_o, u2_txH_9, u2_txH_10, u2_txH_11, u2_txH_r, uz_self, Int.add_zero, Int.reduceToNat]
            refine ⟨sh361, _, hR.read, ?_⟩
            refine ⟨fun c84_5 => ?_, fun c84_5 => ?_⟩
            · refine B_X10_takesDigit_91 ?_
              try dsimp only
              try simp (disch := omega) only [txH_r, txH_9, txH_10, txH_11, txH_f, txH_o, u2_txH_9, u2_txH_10, u2_txH_11, u2_txH_r, uz_self, Int.add_zero, Int.reduceToNat]
              first
                | (exfalso; omega)
                | exact absurd True.intro (by assumption)
                | (refine ⟨sh361, _, hR.read, ?_⟩
                   refine ⟨_, sh368, ⟨by omega, by omega⟩, ?_⟩
                   try simp (disch := omega) only [txH_r, txH_9, txH_10, txH_11, txH_f, txH_o, u2_txH_9, u2_txH_10, u2_txH_11, u2_txH_r, uz_self, Int.add_zero, Int.reduceToNat]
                   refine B_X10_takesDigit_97 ?_
                   try dsimp only
                   try simp (disch := omega) only [txH_r, txH_9, txH_10, txH_11, txH_f, txH_o, u2_txH_9, u2_txH_10, u2_txH_11, u2_txH_r, uz_self, Int.add_zero, Int.reduceToNat]
                   refine ⟨_, (by first | exact sh362 | exact sh365 | exact sh366 | exact sh363 | exact sh364 | exact sh367 | exact sh368), ⟨by omega, by omega⟩, ?_⟩
                   try simp (disch := omega) only [txH_r, txH_9, txH_10, txH_11, txH_f, txH_o, u2_txH_9, u2_txH_10, u2_txH_11, u2_txH_r, uz_self, Int.add_zero, Int.reduceToNat]
                   refine ⟨rfl, ?_⟩
                   refine ⟨sh361, ?_⟩
                   refine ⟨fun c105_7 => ?_, fun c105_7 => ?_⟩
                   · refine B_X10_takesDigit_112 ?_
                     try dsimp only
                     try simp (disch := omega) only [txH_r, txH_9, txH_10, txH_11, txH_f, txH_o, u2_txH_9, u2_txH_10, u2_txH_11, u2_txH_r, uz_self, Int.add_zero, Int.reduceToNat]
                     first
                       | (exfalso; omega)
                       | exact absurd True.intro (by assumption)
                       | (refine B_X10_takesDigit_113 ?_
                          try dsimp only
                          try simp (disch := omega) only [txH_r, txH_9, txH_10, txH_11, txH_f, txH_o, u2_txH_9, u2_txH_10, u2_txH_11, u2_txH_r, uz_self, Int.add_zero, Int.reduceToNat]
                          refine ⟨by (refine ⟨?_, ?_⟩ <;> omega), ?_⟩
                          refine ⟨sh361, ?_⟩
                          try simp (disch := omega) only [txH_r, txH_9, txH_10, txH_11, txH_f, txH_o, u2_txH_9, u2_txH_10, u2_txH_11, u2_txH_r, uz_self, Int.add_zero, Int.reduceToNat]
                          first
                            | (exfalso; omega)
                            | exact absurd True.intro (by assumption)
                            | (refine ⟨by first | exact Or.inl rfl | exact Or.inr rfl | exact Or.inl trivial | exact Or.inr trivial | omega, ?_⟩
                               first
                                 | exact absurd True.intro (by assumption)
                                 | (exfalso; omega)
                                 | (have e : okD w d (r (3 * o + w).toNat) g = true := by
                                      unfold okD nxD
                                      refine decide_eq_true ?_
                                      first
                                        | (rw [if_pos (show d = 0 by omega), if_pos (show w < 2 by omega)]; omega)
                                        | (rw [if_pos (show d = 0 by omega), if_neg (show ¬ w < 2 by omega)]; omega)
                                        | (rw [if_neg (show ¬ d = 0 by omega), if_pos (show w < 2 by omega)]; omega)
                                        | (rw [if_neg (show ¬ d = 0 by omega), if_neg (show ¬ w < 2 by omega)]; omega)
                                    have hQ := hQ.1 e
                                    unfold nxD at hQ
                                    first
                                      | (rw [if_pos (show d = 0 by omega)] at hQ; exact hQ)
                                      | (rw [if_neg (show ¬ d = 0 by omega)] at hQ; exact hQ))
                                 | (have e : okD w d (r (3 * o + w).toNat) g = false := by
                                      unfold okD nxD
                                      refine decide_eq_false ?_
                                      first
                                        | (rw [if_pos (show d = 0 by omega), if_pos (show w < 2 by omega)]; omega)
                                        | (rw [if_pos (show d = 0 by omega), if_neg (show ¬ w < 2 by omega)]; omega)
                                        | (rw [if_neg (show ¬ d = 0 by omega), if_pos (show w < 2 by omega)]; omega)
                                        | (rw [if_neg (show ¬ d = 0 by omega), if_neg (show ¬ w < 2 by omega)]; omega)
                                    exact hQ.2 e)))
                   · first
                       | (exfalso; omega)
                       | exact absurd True.intro (by assumption)
                       | (refine B_X10_takesDigit_113 ?_
                          try dsimp only
                          try simp (disch := omega) only [txH_r, txH_9, txH_10, txH_11, txH_f, txH_o, u2_txH_9, u2_txH_10, u2_txH_11, u2_txH_r, uz_self, Int.add_zero, Int.reduceToNat]
                          refine ⟨by (refine ⟨?_, ?_⟩ <;> omega), ?_⟩
                          refine ⟨sh361, ?_⟩
                          try simp (disch := omega) only [txH_r, txH_9, txH_10, txH_11, txH_f, txH_o, u2_txH_9, u2_txH_10, u2_txH_11, u2_txH_r, uz_self, Int.add_zero, Int.reduceToNat]
                          first
                            | (exfalso; omega)
                            | exact absurd True.intro (by assumption)
                            | (refine ⟨by first | exact Or.inl rfl | exact Or.inr rfl | exact Or.inl trivial | exact Or.inr trivial | omega, ?_⟩
                               first
                                 | exact absurd True.intro (by assumption)
                                 | (exfalso; omega)
                                 | (have e : okD w d (r (3 * o + w).toNat) g = true := by
                                      unfold okD nxD
                                      refine decide_eq_true ?_
                                      first
                                        | (rw [if_pos (show d = 0 by omega), if_pos (show w < 2 by omega)]; omega)
                                        | (rw [if_pos (show d = 0 by omega), if_neg (show ¬ w < 2 by omega)]; omega)
                                        | (rw [if_neg (show ¬ d = 0 by omega), if_pos (show w < 2 by omega)]; omega)
                                        | (rw [if_neg (show ¬ d = 0 by omega), if_neg (show ¬ w < 2 by omega)]; omega)
                                    have hQ := hQ.1 e
                                    unfold nxD at hQ
                                    first
                                      | (rw [if_pos (show d = 0 by omega)] at hQ; exact hQ)
                                      | (rw [if_neg (show ¬ d = 0 by omega)] at hQ; exact hQ))
                                 | (have e : okD w d (r (3 * o + w).toNat) g = false := by
                                      unfold okD nxD
                                      refine decide_eq_false ?_
                                      first
                                        | (rw [if_pos (show d = 0 by omega), if_pos (show w < 2 by omega)]; omega)
                                        | (rw [if_pos (show d = 0 by omega), if_neg (show ¬ w < 2 by omega)]; omega)
                                        | (rw [if_neg (show ¬ d = 0 by omega), if_pos (show w < 2 by omega)]; omega)
                                        | (rw [if_neg (show ¬ d = 0 by omega), if_neg (show ¬ w < 2 by omega)]; omega)
                                    exact hQ.2 e))))
            · first
                | (exfalso; omega)
                | exact absurd True.intro (by assumption)
                | (refine B_X10_takesDigit_97 ?_
                   try dsimp only
                   try simp (disch := omega) only [txH_r, txH_9, txH_10, txH_11, txH_f, txH_o, u2_txH_9, u2_txH_10, u2_txH_11, u2_txH_r, uz_self, Int.add_zero, Int.reduceToNat]
                   refine ⟨_, (by first | exact sh362 | exact sh365 | exact sh366 | exact sh363 | exact sh364 | exact sh367 | exact sh368), ⟨by omega, by omega⟩, ?_⟩
                   try simp (disch := omega) only [txH_r, txH_9, txH_10, txH_11, txH_f, txH_o, u2_txH_9, u2_txH_10, u2_txH_11, u2_txH_r, uz_self, Int.add_zero, Int.reduceToNat]
                   refine ⟨rfl, ?_⟩
                   refine ⟨sh361, ?_⟩
                   refine ⟨fun c105_6 => ?_, fun c105_6 => ?_⟩
                   · refine B_X10_takesDigit_112 ?_
                     try dsimp only
                     try simp (disch := omega) only [txH_r, txH_9, txH_10, txH_11, txH_f, txH_o, u2_txH_9, u2_txH_10, u2_txH_11, u2_txH_r, uz_self, Int.add_zero, Int.reduceToNat]
                     first
                       | (exfalso; omega)
                       | exact absurd True.intro (by assumption)
                       | (refine B_X10_takesDigit_113 ?_
                          try dsimp only
                          try simp (disch := omega) only [txH_r, txH_9, txH_10, txH_11, txH_f, txH_o, u2_txH_9, u2_txH_10, u2_txH_11, u2_txH_r, uz_self, Int.add_zero, Int.reduceToNat]
                          refine ⟨by (refine ⟨?_, ?_⟩ <;> omega), ?_⟩
                          refine ⟨sh361, ?_⟩
                          try simp (disch := omega) only [txH_r, txH_9, txH_10, txH_11, txH_f, txH_o, u2_txH_9, u2_txH_10, u2_txH_11, u2_txH_r, uz_self, Int.add_zero, Int.reduceToNat]
                          first
                            | (exfalso; omega)
                            | exact absurd True.intro (by assumption)
                            | (refine ⟨by first | exact Or.inl rfl | exact Or.inr rfl | exact Or.inl trivial | exact Or.inr trivial | omega, ?_⟩
                               first
                                 | exact absurd True.intro (by assumption)
                                 | (exfalso; omega)
                                 | (have e : okD w d (r (3 * o + w).toNat) g = true := by
                                      unfold okD nxD
                                      refine decide_eq_true ?_
                                      first
                                        | (rw [if_pos (show d = 0 by omega), if_pos (show w < 2 by omega)]; omega)
                                        | (rw [if_pos (show d = 0 by omega), if_neg (show ¬ w < 2 by omega)]; omega)
                                        | (rw [if_neg (show ¬ d = 0 by omega), if_pos (show w < 2 by omega)]; omega)
                                        | (rw [if_neg (show ¬ d = 0 by omega), if_neg (show ¬ w < 2 by omega)]; omega)
                                    have hQ := hQ.1 e
                                    unfold nxD at hQ
                                    first
                                      | (rw [if_pos (show d = 0 by omega)] at hQ; exact hQ)
                                      | (rw [if_neg (show ¬ d = 0 by omega)] at hQ; exact hQ))
                                 | (have e : okD w d (r (3 * o + w).toNat) g = false := by
                                      unfold okD nxD
                                      refine decide_eq_false ?_
                                      first
                                        | (rw [if_pos (show d = 0 by omega), if_pos (show w < 2 by omega)]; omega)
                                        | (rw [if_pos (show d = 0 by omega), if_neg (show ¬ w < 2 by omega)]; omega)
                                        | (rw [if_neg (show ¬ d = 0 by omega), if_pos (show w < 2 by omega)]; omega)
                                        | (rw [if_neg (show ¬ d = 0 by omega), if_neg (show ¬ w < 2 by omega)]; omega)
                                    exact hQ.2 e)))
                   · first
                       | (exfalso; omega)
                       | exact absurd True.intro (by assumption)
                       | (refine B_X10_takesDigit_113 ?_
                          try dsimp only
                          try simp (disch := omega) only [txH_r, txH_9, txH_10, txH_11, txH_f, txH_o, u2_txH_9, u2_txH_10, u2_txH_11, u2_txH_r, uz_self, Int.add_zero, Int.reduceToNat]
                          refine ⟨by (refine ⟨?_, ?_⟩ <;> omega), ?_⟩
                          refine ⟨sh361, ?_⟩
                          try simp (disch := omega) only [txH_r, txH_9, txH_10, txH_11, txH_f, txH_o, u2_txH_9, u2_txH_10, u2_txH_11, u2_txH_r, uz_self, Int.add_zero, Int.reduceToNat]
                          first
                            | (exfalso; omega)
                            | exact absurd True.intro (by assumption)
                            | (refine ⟨by first | exact Or.inl rfl | exact Or.inr rfl | exact Or.inl trivial | exact Or.inr trivial | omega, ?_⟩
                               first
                                 | exact absurd True.intro (by assumption)
                                 | (exfalso; omega)
                                 | (have e : okD w d (r (3 * o + w).toNat) g = true := by
                                      unfold okD nxD
                                      refine decide_eq_true ?_
                                      first
                                        | (rw [if_pos (show d = 0 by omega), if_pos (show w < 2 by omega)]; omega)
                                        | (rw [if_pos (show d = 0 by omega), if_neg (show ¬ w < 2 by omega)]; omega)
                                        | (rw [if_neg (show ¬ d = 0 by omega), if_pos (show w < 2 by omega)]; omega)
                                        | (rw [if_neg (show ¬ d = 0 by omega), if_neg (show ¬ w < 2 by omega)]; omega)
                                    have hQ := hQ.1 e
                                    unfold nxD at hQ
                                    first
                                      | (rw [if_pos (show d = 0 by omega)] at hQ; exact hQ)
                                      | (rw [if_neg (show ¬ d = 0 by omega)] at hQ; exact hQ))
                                 | (have e : okD w d (r (3 * o + w).toNat) g = false := by
                                      unfold okD nxD
                                      refine decide_eq_false ?_
                                      first
                                        | (rw [if_pos (show d = 0 by omega), if_pos (show w < 2 by omega)]; omega)
                                        | (rw [if_pos (show d = 0 by omega), if_neg (show ¬ w < 2 by omega)]; omega)
                                        | (rw [if_neg (show ¬ d = 0 by omega), if_pos (show w < 2 by omega)]; omega)
                                        | (rw [if_neg (show ¬ d = 0 by omega), if_neg (show ¬ w < 2 by omega)]; omega)
                                    exact hQ.2 e))))
          · refine B_X10_takesDigit_70 ?_
            try dsimp only
            try simp (disch := omega) only [txH_r, txH_9, txH_10, txH_11, txH_f, txH_o, u2_txH_9, u2_txH_10, u2_txH_11, u2_txH_r, uz_self, Int.add_zero, Int.reduceToNat]
            refine B_X10_takesDigit_75 ?_
            try dsimp only
            try simp (disch := omega) only [txH_r, txH_9, txH_10, txH_11, txH_f, txH_o, u2_txH_9, u2_txH_10, u2_txH_11, u2_txH_r, uz_self, Int.add_zero, Int.reduceToNat]
            refine ⟨sh361, _, hR.read, ?_⟩
            refine ⟨fun c84_5 => ?_, fun c84_5 => ?_⟩
            · refine B_X10_takesDigit_91 ?_
              try dsimp only
              try simp (disch := omega) only [txH_r, txH_9, txH_10, txH_11, txH_f, txH_o, u2_txH_9, u2_txH_10, u2_txH_11, u2_txH_r, uz_self, Int.add_zero, Int.reduceToNat]
              first
                | (exfalso; omega)
                | exact absurd True.intro (by assumption)
                | (refine ⟨sh361, _, hR.read, ?_⟩
                   refine ⟨_, sh368, ⟨by omega, by omega⟩, ?_⟩
                   try simp (disch := omega) only [txH_r, txH_9, txH_10, txH_11, txH_f, txH_o, u2_txH_9, u2_txH_10, u2_txH_11, u2_txH_r, uz_self, Int.add_zero, Int.reduceToNat]
                   refine B_X10_takesDigit_97 ?_
                   try dsimp only
                   try simp (disch := omega) only [txH_r, txH_9, txH_10, txH_11, txH_f, txH_o, u2_txH_9, u2_txH_10, u2_txH_11, u2_txH_r, uz_self, Int.add_zero, Int.reduceToNat]
                   refine ⟨_, (by first | exact sh362 | exact sh365 | exact sh366 | exact sh363 | exact sh364 | exact sh367 | exact sh368), ⟨by omega, by omega⟩, ?_⟩
                   try simp (disch := omega) only [txH_r, txH_9, txH_10, txH_11, txH_f, txH_o, u2_txH_9, u2_txH_10, u2_txH_11, u2_txH_r, uz_self, Int.add_zero, Int.reduceToNat]
                   refine ⟨rfl, ?_⟩
                   refine ⟨sh361, ?_⟩
                   refine ⟨fun c105_7 => ?_, fun c105_7 => ?_⟩
                   · refine B_X10_takesDigit_112 ?_
                     try dsimp only
                     try simp (disch := omega) only [txH_r, txH_9, txH_10, txH_11, txH_f, txH_o, u2_txH_9, u2_txH_10, u2_txH_11, u2_txH_r, uz_self, Int.add_zero, Int.reduceToNat]
                     first
                       | (exfalso; omega)
                       | exact absurd True.intro (by assumption)
                       | (refine B_X10_takesDigit_113 ?_
                          try dsimp only
                          try simp (disch := omega) only [txH_r, txH_9, txH_10, txH_11, txH_f, txH_o, u2_txH_9, u2_txH_10, u2_txH_11, u2_txH_r, uz_self, Int.add_zero, Int.reduceToNat]
                          refine ⟨by (refine ⟨?_, ?_⟩ <;> omega), ?_⟩
                          refine ⟨sh361, ?_⟩
                          try simp (disch := omega) only [txH_r, txH_9, txH_10, txH_11, txH_f, txH_o, u2_txH_9, u2_txH_10, u2_txH_11, u2_txH_r, uz_self, Int.add_zero, Int.reduceToNat]
                          first
                            | (exfalso; omega)
                            | exact absurd True.intro (by assumption)
                            | (refine ⟨by first | exact Or.inl rfl | exact Or.inr rfl | exact Or.inl trivial | exact Or.inr trivial | omega, ?_⟩
                               first
                                 | exact absurd True.intro (by assumption)
                                 | (exfalso; omega)
                                 | (have e : okD w d (r (3 * o + w).toNat) g = true := by
                                      unfold okD nxD
                                      refine decide_eq_true ?_
                                      first
                                        | (rw [if_pos (show d = 0 by omega), if_pos (show w < 2 by omega)]; omega)
                                        | (rw [if_pos (show d = 0 by omega), if_neg (show ¬ w < 2 by omega)]; omega)
                                        | (rw [if_neg (show ¬ d = 0 by omega), if_pos (show w < 2 by omega)]; omega)
                                        | (rw [if_neg (show ¬ d = 0 by omega), if_neg (show ¬ w < 2 by omega)]; omega)
                                    have hQ := hQ.1 e
                                    unfold nxD at hQ
                                    first
                                      | (rw [if_pos (show d = 0 by omega)] at hQ; exact hQ)
                                      | (rw [if_neg (show ¬ d = 0 by omega)] at hQ; exact hQ))
                                 | (have e : okD w d (r (3 * o + w).toNat) g = false := by
                                      unfold okD nxD
                                      refine decide_eq_false ?_
                                      first
                                        | (rw [if_pos (show d = 0 by omega), if_pos (show w < 2 by omega)]; omega)
                                        | (rw [if_pos (show d = 0 by omega), if_neg (show ¬ w < 2 by omega)]; omega)
                                        | (rw [if_neg (show ¬ d = 0 by omega), if_pos (show w < 2 by omega)]; omega)
                                        | (rw [if_neg (show ¬ d = 0 by omega), if_neg (show ¬ w < 2 by omega)]; omega)
                                    exact hQ.2 e)))
                   · first
                       | (exfalso; omega)
                       | exact absurd True.intro (by assumption)
                       | (refine B_X10_takesDigit_113 ?_
                          try dsimp only
                          try simp (disch := omega) only [txH_r, txH_9, txH_10, txH_11, txH_f, txH_o, u2_txH_9, u2_txH_10, u2_txH_11, u2_txH_r, uz_self, Int.add_zero, Int.reduceToNat]
                          refine ⟨by (refine ⟨?_, ?_⟩ <;> omega), ?_⟩
                          refine ⟨sh361, ?_⟩
                          try simp (disch := omega) only [txH_r, txH_9, txH_10, txH_11, txH_f, txH_o, u2_txH_9, u2_txH_10, u2_txH_11, u2_txH_r, uz_self, Int.add_zero, Int.reduceToNat]
                          first
                            | (exfalso; omega)
                            | exact absurd True.intro (by assumption)
                            | (refine ⟨by first | exact Or.inl rfl | exact Or.inr rfl | exact Or.inl trivial | exact Or.inr trivial | omega, ?_⟩
                               first
                                 | exact absurd True.intro (by assumption)
                                 | (exfalso; omega)
                                 | (have e : okD w d (r (3 * o + w).toNat) g = true := by
                                      unfold okD nxD
                                      refine decide_eq_true ?_
                                      first
                                        | (rw [if_pos (show d = 0 by omega), if_pos (show w < 2 by omega)]; omega)
                                        | (rw [if_pos (show d = 0 by omega), if_neg (show ¬ w < 2 by omega)]; omega)
                                        | (rw [if_neg (show ¬ d = 0 by omega), if_pos (show w < 2 by omega)]; omega)
                                        | (rw [if_neg (show ¬ d = 0 by omega), if_neg (show ¬ w < 2 by omega)]; omega)
                                    have hQ := hQ.1 e
                                    unfold nxD at hQ
                                    first
                                      | (rw [if_pos (show d = 0 by omega)] at hQ; exact hQ)
                                      | (rw [if_neg (show ¬ d = 0 by omega)] at hQ; exact hQ))
                                 | (have e : okD w d (r (3 * o + w).toNat) g = false := by
                                      unfold okD nxD
                                      refine decide_eq_false ?_
                                      first
                                        | (rw [if_pos (show d = 0 by omega), if_pos (show w < 2 by omega)]; omega)
                                        | (rw [if_pos (show d = 0 by omega), if_neg (show ¬ w < 2 by omega)]; omega)
                                        | (rw [if_neg (show ¬ d = 0 by omega), if_pos (show w < 2 by omega)]; omega)
                                        | (rw [if_neg (show ¬ d = 0 by omega), if_neg (show ¬ w < 2 by omega)]; omega)
                                    exact hQ.2 e))))
            · first
                | (exfalso; omega)
                | exact absurd True.intro (by assumption)
                | (refine B_X10_takesDigit_97 ?_
                   try dsimp only
                   try simp (disch := omega) only [txH_r, txH_9, txH_10, txH_11, txH_f, txH_o, u2_txH_9, u2_txH_10, u2_txH_11, u2_txH_r, uz_self, Int.add_zero, Int.reduceToNat]
                   refine ⟨_, (by first | exact sh362 | exact sh365 | exact sh366 | exact sh363 | exact sh364 | exact sh367 | exact sh368), ⟨by omega, by omega⟩, ?_⟩
                   try simp (disch := omega) only [txH_r, txH_9, txH_10, txH_11, txH_f, txH_o, u2_txH_9, u2_txH_10, u2_txH_11, u2_txH_r, uz_self, Int.add_zero, Int.reduceToNat]
                   refine ⟨rfl, ?_⟩
                   refine ⟨sh361, ?_⟩
                   refine ⟨fun c105_6 => ?_, fun c105_6 => ?_⟩
                   · refine B_X10_takesDigit_112 ?_
                     try dsimp only
                     try simp (disch := omega) only [txH_r, txH_9, txH_10, txH_11, txH_f, txH_o, u2_txH_9, u2_txH_10, u2_txH_11, u2_txH_r, uz_self, Int.add_zero, Int.reduceToNat]
                     first
                       | (exfalso; omega)
                       | exact absurd True.intro (by assumption)
                       | (refine B_X10_takesDigit_113 ?_
                          try dsimp only
                          try simp (disch := omega) only [txH_r, txH_9, txH_10, txH_11, txH_f, txH_o, u2_txH_9, u2_txH_10, u2_txH_11, u2_txH_r, uz_self, Int.add_zero, Int.reduceToNat]
                          refine ⟨by (refine ⟨?_, ?_⟩ <;> omega), ?_⟩
                          refine ⟨sh361, ?_⟩
                          try simp (disch := omega) only [txH_r, txH_9, txH_10, txH_11, txH_f, txH_o, u2_txH_9, u2_txH_10, u2_txH_11, u2_txH_r, uz_self, Int.add_zero, Int.reduceToNat]
                          first
                            | (exfalso; omega)
                            | exact absurd True.intro (by assumption)
                            | (refine ⟨by first | exact Or.inl rfl | exact Or.inr rfl | exact Or.inl trivial | exact Or.inr trivial | omega, ?_⟩
                               first
                                 | exact absurd True.intro (by assumption)
                                 | (exfalso; omega)
                                 | (have e : okD w d (r (3 * o + w).toNat) g = true := by
                                      unfold okD nxD
                                      refine decide_eq_true ?_
                                      first
                                        | (rw [if_pos (show d = 0 by omega), if_pos (show w < 2 by omega)]; omega)
                                        | (rw [if_pos (show d = 0 by omega), if_neg (show ¬ w < 2 by omega)]; omega)
                                        | (rw [if_neg (show ¬ d = 0 by omega), if_pos (show w < 2 by omega)]; omega)
                                        | (rw [if_neg (show ¬ d = 0 by omega), if_neg (show ¬ w < 2 by omega)]; omega)
                                    have hQ := hQ.1 e
                                    unfold nxD at hQ
                                    first
                                      | (rw [if_pos (show d = 0 by omega)] at hQ; exact hQ)
                                      | (rw [if_neg (show ¬ d = 0 by omega)] at hQ; exact hQ))
                                 | (have e : okD w d (r (3 * o + w).toNat) g = false := by
                                      unfold okD nxD
                                      refine decide_eq_false ?_
                                      first
                                        | (rw [if_pos (show d = 0 by omega), if_pos (show w < 2 by omega)]; omega)
                                        | (rw [if_pos (show d = 0 by omega), if_neg (show ¬ w < 2 by omega)]; omega)
                                        | (rw [if_neg (show ¬ d = 0 by omega), if_pos (show w < 2 by omega)]; omega)
                                        | (rw [if_neg (show ¬ d = 0 by omega), if_neg (show ¬ w < 2 by omega)]; omega)
                                    exact hQ.2 e)))
                   · first
                       | (exfalso; omega)
                       | exact absurd True.intro (by assumption)
                       | (refine B_X10_takesDigit_113 ?_
                          try dsimp only
                          try simp (disch := omega) only [txH_r, txH_9, txH_10, txH_11, txH_f, txH_o, u2_txH_9, u2_txH_10, u2_txH_11, u2_txH_r, uz_self, Int.add_zero, Int.reduceToNat]
                          refine ⟨by (refine ⟨?_, ?_⟩ <;> omega), ?_⟩
                          refine ⟨sh361, ?_⟩
                          try simp (disch := omega) only [txH_r, txH_9, txH_10, txH_11, txH_f, txH_o, u2_txH_9, u2_txH_10, u2_txH_11, u2_txH_r, uz_self, Int.add_zero, Int.reduceToNat]
                          first
                            | (exfalso; omega)
                            | exact absurd True.intro (by assumption)
                            | (refine ⟨by first | exact Or.inl rfl | exact Or.inr rfl | exact Or.inl trivial | exact Or.inr trivial | omega, ?_⟩
                               first
                                 | exact absurd True.intro (by assumption)
                                 | (exfalso; omega)
                                 | (have e : okD w d (r (3 * o + w).toNat) g = true := by
                                      unfold okD nxD
                                      refine decide_eq_true ?_
                                      first
                                        | (rw [if_pos (show d = 0 by omega), if_pos (show w < 2 by omega)]; omega)
                                        | (rw [if_pos (show d = 0 by omega), if_neg (show ¬ w < 2 by omega)]; omega)
                                        | (rw [if_neg (show ¬ d = 0 by omega), if_pos (show w < 2 by omega)]; omega)
                                        | (rw [if_neg (show ¬ d = 0 by omega), if_neg (show ¬ w < 2 by omega)]; omega)
                                    have hQ := hQ.1 e
                                    unfold nxD at hQ
                                    first
                                      | (rw [if_pos (show d = 0 by omega)] at hQ; exact hQ)
                                      | (rw [if_neg (show ¬ d = 0 by omega)] at hQ; exact hQ))
                                 | (have e : okD w d (r (3 * o + w).toNat) g = false := by
                                      unfold okD nxD
                                      refine decide_eq_false ?_
                                      first
                                        | (rw [if_pos (show d = 0 by omega), if_pos (show w < 2 by omega)]; omega)
                                        | (rw [if_pos (show d = 0 by omega), if_neg (show ¬ w < 2 by omega)]; omega)
                                        | (rw [if_neg (show ¬ d = 0 by omega), if_pos (show w < 2 by omega)]; omega)
                                        | (rw [if_neg (show ¬ d = 0 by omega), if_neg (show ¬ w < 2 by omega)]; omega)
                                    exact hQ.2 e))))
    · refine B_X10_takesDigit_51 ?_
      try dsimp only
      try simp (disch := omega) only [txH_r, txH_9, txH_10, txH_11, txH_f, txH_o, u2_txH_9, u2_txH_10, u2_txH_11, u2_txH_r, uz_self, Int.add_zero, Int.reduceToNat]
      refine ⟨fun c51_2 => ?_, fun c51_2 => ?_⟩
      · refine B_X10_takesDigit_74 ?_
        try dsimp only
        try simp (disch := omega) only [txH_r, txH_9, txH_10, txH_11, txH_f, txH_o, u2_txH_9, u2_txH_10, u2_txH_11, u2_txH_r, uz_self, Int.add_zero, Int.reduceToNat]
        refine B_X10_takesDigit_75 ?_
        try dsimp only
        try simp (disch := omega) only [txH_r, txH_9, txH_10, txH_11, txH_f, txH_o, u2_txH_9, u2_txH_10, u2_txH_11, u2_txH_r, uz_self, Int.add_zero, Int.reduceToNat]
        refine ⟨sh361, _, hR.read, ?_⟩
        refine ⟨fun c84_4 => ?_, fun c84_4 => ?_⟩
        · refine B_X10_takesDigit_91 ?_
          try dsimp only
          try simp (disch := omega) only [txH_r, txH_9, txH_10, txH_11, txH_f, txH_o, u2_txH_9, u2_txH_10, u2_txH_11, u2_txH_r, uz_self, Int.add_zero, Int.reduceToNat]
          first
            | (exfalso; omega)
            | exact absurd True.intro (by assumption)
            | (refine ⟨sh361, _, hR.read, ?_⟩
               refine ⟨_, sh368, ⟨by omega, by omega⟩, ?_⟩
               try simp (disch := omega) only [txH_r, txH_9, txH_10, txH_11, txH_f, txH_o, u2_txH_9, u2_txH_10, u2_txH_11, u2_txH_r, uz_self, Int.add_zero, Int.reduceToNat]
               refine B_X10_takesDigit_97 ?_
               try dsimp only
               try simp (disch := omega) only [txH_r, txH_9, txH_10, txH_11, txH_f, txH_o, u2_txH_9, u2_txH_10, u2_txH_11, u2_txH_r, uz_self, Int.add_zero, Int.reduceToNat]
               refine ⟨_, (by first | exact sh362 | exact sh365 | exact sh366 | exact sh363 | exact sh364 | exact sh367 | exact sh368), ⟨by omega, by omega⟩, ?_⟩
               try simp (disch := omega) only [txH_r, txH_9, txH_10, txH_11, txH_f, txH_o, u2_txH_9, u2_txH_10, u2_txH_11, u2_txH_r, uz_self, Int.add_zero, Int.reduceToNat]
               refine ⟨rfl, ?_⟩
               refine ⟨sh361, ?_⟩
               refine ⟨fun c105_6 => ?_, fun c105_6 => ?_⟩
               · refine B_X10_takesDigit_112 ?_
                 try dsimp only
                 try simp (disch := omega) only [txH_r, txH_9, txH_10, txH_11, txH_f, txH_o, u2_txH_9, u2_txH_10, u2_txH_11, u2_txH_r, uz_self, Int.add_zero, Int.reduceToNat]
                 first
                   | (exfalso; omega)
                   | exact absurd True.intro (by assumption)
                   | (refine B_X10_takesDigit_113 ?_
                      try dsimp only
                      try simp (disch := omega) only [txH_r, txH_9, txH_10, txH_11, txH_f, txH_o, u2_txH_9, u2_txH_10, u2_txH_11, u2_txH_r, uz_self, Int.add_zero, Int.reduceToNat]
                      refine ⟨by (refine ⟨?_, ?_⟩ <;> omega), ?_⟩
                      refine ⟨sh361, ?_⟩
                      try simp (disch := omega) only [txH_r, txH_9, txH_10, txH_11, txH_f, txH_o, u2_txH_9, u2_txH_10, u2_txH_11, u2_txH_r, uz_self, Int.add_zero, Int.reduceToNat]
                      first
                        | (exfalso; omega)
                        | exact absurd True.intro (by assumption)
                        | (refine ⟨by first | exact Or.inl rfl | exact Or.inr rfl | exact Or.inl trivial | exact Or.inr trivial | omega, ?_⟩
                           first
                             | exact absurd True.intro (by assumption)
                             | (exfalso; omega)
                             | (have e : okD w d (r (3 * o + w).toNat) g = true := by
                                  unfold okD nxD
                                  refine decide_eq_true ?_
                                  first
                                    | (rw [if_pos (show d = 0 by omega), if_pos (show w < 2 by omega)]; omega)
                                    | (rw [if_pos (show d = 0 by omega), if_neg (show ¬ w < 2 by omega)]; omega)
                                    | (rw [if_neg (show ¬ d = 0 by omega), if_pos (show w < 2 by omega)]; omega)
                                    | (rw [if_neg (show ¬ d = 0 by omega), if_neg (show ¬ w < 2 by omega)]; omega)
                                have hQ := hQ.1 e
                                unfold nxD at hQ
                                first
                                  | (rw [if_pos (show d = 0 by omega)] at hQ; exact hQ)
                                  | (rw [if_neg (show ¬ d = 0 by omega)] at hQ; exact hQ))
                             | (have e : okD w d (r (3 * o + w).toNat) g = false := by
                                  unfold okD nxD
                                  refine decide_eq_false ?_
                                  first
                                    | (rw [if_pos (show d = 0 by omega), if_pos (show w < 2 by omega)]; omega)
                                    | (rw [if_pos (show d = 0 by omega), if_neg (show ¬ w < 2 by omega)]; omega)
                                    | (rw [if_neg (show ¬ d = 0 by omega), if_pos (show w < 2 by omega)]; omega)
                                    | (rw [if_neg (show ¬ d = 0 by omega), if_neg (show ¬ w < 2 by omega)]; omega)
                                exact hQ.2 e)))
               · first
                   | (exfalso; omega)
                   | exact absurd True.intro (by assumption)
                   | (refine B_X10_takesDigit_113 ?_
                      try dsimp only
                      try simp (disch := omega) only [txH_r, txH_9, txH_10, txH_11, txH_f, txH_o, u2_txH_9, u2_txH_10, u2_txH_11, u2_txH_r, uz_self, Int.add_zero, Int.reduceToNat]
                      refine ⟨by (refine ⟨?_, ?_⟩ <;> omega), ?_⟩
                      refine ⟨sh361, ?_⟩
                      try simp (disch := omega) only [txH_r, txH_9, txH_10, txH_11, txH_f, txH_o, u2_txH_9, u2_txH_10, u2_txH_11, u2_txH_r, uz_self, Int.add_zero, Int.reduceToNat]
                      first
                        | (exfalso; omega)
                        | exact absurd True.intro (by assumption)
                        | (refine ⟨by first | exact Or.inl rfl | exact Or.inr rfl | exact Or.inl trivial | exact Or.inr trivial | omega, ?_⟩
                           first
                             | exact absurd True.intro (by assumption)
                             | (exfalso; omega)
                             | (have e : okD w d (r (3 * o + w).toNat) g = true := by
                                  unfold okD nxD
                                  refine decide_eq_true ?_
                                  first
                                    | (rw [if_pos (show d = 0 by omega), if_pos (show w < 2 by omega)]; omega)
                                    | (rw [if_pos (show d = 0 by omega), if_neg (show ¬ w < 2 by omega)]; omega)
                                    | (rw [if_neg (show ¬ d = 0 by omega), if_pos (show w < 2 by omega)]; omega)
                                    | (rw [if_neg (show ¬ d = 0 by omega), if_neg (show ¬ w < 2 by omega)]; omega)
                                have hQ := hQ.1 e
                                unfold nxD at hQ
                                first
                                  | (rw [if_pos (show d = 0 by omega)] at hQ; exact hQ)
                                  | (rw [if_neg (show ¬ d = 0 by omega)] at hQ; exact hQ))
                             | (have e : okD w d (r (3 * o + w).toNat) g = false := by
                                  unfold okD nxD
                                  refine decide_eq_false ?_
                                  first
                                    | (rw [if_pos (show d = 0 by omega), if_pos (show w < 2 by omega)]; omega)
                                    | (rw [if_pos (show d = 0 by omega), if_neg (show ¬ w < 2 by omega)]; omega)
                                    | (rw [if_neg (show ¬ d = 0 by omega), if_pos (show w < 2 by omega)]; omega)
                                    | (rw [if_neg (show ¬ d = 0 by omega), if_neg (show ¬ w < 2 by omega)]; omega)
                                exact hQ.2 e))))
        · first
            | (exfalso; omega)
            | exact absurd True.intro (by assumption)
            | (refine B_X10_takesDigit_97 ?_
               try dsimp only
               try simp (disch := omega) only [txH_r, txH_9, txH_10, txH_11, txH_f, txH_o, u2_txH_9, u2_txH_10, u2_txH_11, u2_txH_r, uz_self, Int.add_zero, Int.reduceToNat]
               refine ⟨_, (by first | exact sh362 | exact sh365 | exact sh366 | exact sh363 | exact sh364 | exact sh367 | exact sh368), ⟨by omega, by omega⟩, ?_⟩
               try simp (disch := omega) only [txH_r, txH_9, txH_10, txH_11, txH_f, txH_o, u2_txH_9, u2_txH_10, u2_txH_11, u2_txH_r, uz_self, Int.add_zero, Int.reduceToNat]
               refine ⟨rfl, ?_⟩
               refine ⟨sh361, ?_⟩
               refine ⟨fun c105_5 => ?_, fun c105_5 => ?_⟩
               · refine B_X10_takesDigit_112 ?_
                 try dsimp only
                 try simp (disch := omega) only [txH_r, txH_9, txH_10, txH_11, txH_f, txH_o, u2_txH_9, u2_txH_10, u2_txH_11, u2_txH_r, uz_self, Int.add_zero, Int.reduceToNat]
                 first
                   | (exfalso; omega)
                   | exact absurd True.intro (by assumption)
                   | (refine B_X10_takesDigit_113 ?_
                      try dsimp only
                      try simp (disch := omega) only [txH_r, txH_9, txH_10, txH_11, txH_f, txH_o, u2_txH_9, u2_txH_10, u2_txH_11, u2_txH_r, uz_self, Int.add_zero, Int.reduceToNat]
                      refine ⟨by (refine ⟨?_, ?_⟩ <;> omega), ?_⟩
                      refine ⟨sh361, ?_⟩
                      try simp (disch := omega) only [txH_r, txH_9, txH_10, txH_11, txH_f, txH_o, u2_txH_9, u2_txH_10, u2_txH_11, u2_txH_r, uz_self, Int.add_zero, Int.reduceToNat]
                      first
                        | (exfalso; omega)
                        | exact absurd True.intro (by assumption)
                        | (refine ⟨by first | exact Or.inl rfl | exact Or.inr rfl | exact Or.inl trivial | exact Or.inr trivial | omega, ?_⟩
                           first
                             | exact absurd True.intro (by assumption)
                             | (exfalso; omega)
                             | (have e : okD w d (r (3 * o + w).toNat) g = true := by
                                  unfold okD nxD
                                  refine decide_eq_true ?_
                                  first
                                    | (rw [if_pos (show d = 0 by omega), if_pos (show w < 2 by omega)]; omega)
                                    | (rw [if_pos (show d = 0 by omega), if_neg (show ¬ w < 2 by omega)]; omega)
                                    | (rw [if_neg (show ¬ d = 0 by omega), if_pos (show w < 2 by omega)]; omega)
                                    | (rw [if_neg (show ¬ d = 0 by omega), if_neg (show ¬ w < 2 by omega)]; omega)
                                have hQ := hQ.1 e
                                unfold nxD at hQ
                                first
                                  | (rw [if_pos (show d = 0 by omega)] at hQ; exact hQ)
                                  | (rw [if_neg (show ¬ d = 0 by omega)] at hQ; exact hQ))
                             | (have e : okD w d (r (3 * o + w).toNat) g = false := by
                                  unfold okD nxD
                                  refine decide_eq_false ?_
                                  first
                                    | (rw [if_pos (show d = 0 by omega), if_pos (show w < 2 by omega)]; omega)
                                    | (rw [if_pos (show d = 0 by omega), if_neg (show ¬ w < 2 by omega)]; omega)
                                    | (rw [if_neg (show ¬ d = 0 by omega), if_pos (show w < 2 by omega)]; omega)
                                    | (rw [if_neg (show ¬ d = 0 by omega), if_neg (show ¬ w < 2 by omega)]; omega)
                                exact hQ.2 e)))
               · first
                   | (exfalso; omega)
                   | exact absurd True.intro (by assumption)
                   | (refine B_X10_takesDigit_113 ?_
                      try dsimp only
                      try simp (disch := omega) only [txH_r, txH_9, txH_10, txH_11, txH_f, txH_o, u2_txH_9, u2_txH_10, u2_txH_11, u2_txH_r, uz_self, Int.add_zero, Int.reduceToNat]
                      refine ⟨by (refine ⟨?_, ?_⟩ <;> omega), ?_⟩
                      refine ⟨sh361, ?_⟩
                      try simp (disch := omega) only [txH_r, txH_9, txH_10, txH_11, txH_f, txH_o, u2_txH_9, u2_txH_10, u2_txH_11, u2_txH_r, uz_self, Int.add_zero, Int.reduceToNat]
                      first
                        | (exfalso; omega)
                        | exact absurd True.intro (by assumption)
                        | (refine ⟨by first | exact Or.inl rfl | exact Or.inr rfl | exact Or.inl trivial | exact Or.inr trivial | omega, ?_⟩
                           first
                             | exact absurd True.intro (by assumption)
                             | (exfalso; omega)
                             | (have e : okD w d (r (3 * o + w).toNat) g = true := by
                                  unfold okD nxD
                                  refine decide_eq_true ?_
                                  first
                                    | (rw [if_pos (show d = 0 by omega), if_pos (show w < 2 by omega)]; omega)
                                    | (rw [if_pos (show d = 0 by omega), if_neg (show ¬ w < 2 by omega)]; omega)
                                    | (rw [if_neg (show ¬ d = 0 by omega), if_pos (show w < 2 by omega)]; omega)
                                    | (rw [if_neg (show ¬ d = 0 by omega), if_neg (show ¬ w < 2 by omega)]; omega)
                                have hQ := hQ.1 e
                                unfold nxD at hQ
                                first
                                  | (rw [if_pos (show d = 0 by omega)] at hQ; exact hQ)
                                  | (rw [if_neg (show ¬ d = 0 by omega)] at hQ; exact hQ))
                             | (have e : okD w d (r (3 * o + w).toNat) g = false := by
                                  unfold okD nxD
                                  refine decide_eq_false ?_
                                  first
                                    | (rw [if_pos (show d = 0 by omega), if_pos (show w < 2 by omega)]; omega)
                                    | (rw [if_pos (show d = 0 by omega), if_neg (show ¬ w < 2 by omega)]; omega)
                                    | (rw [if_neg (show ¬ d = 0 by omega), if_pos (show w < 2 by omega)]; omega)
                                    | (rw [if_neg (show ¬ d = 0 by omega), if_neg (show ¬ w < 2 by omega)]; omega)
                                exact hQ.2 e))))
      · refine ⟨sh361, ?_⟩
        refine ⟨fun c58_2 => ?_, fun c58_2 => ?_⟩
        · refine B_X10_takesDigit_70 ?_
          try dsimp only
          try simp (disch := omega) only [txH_r, txH_9, txH_10, txH_11, txH_f, txH_o, u2_txH_9, u2_txH_10, u2_txH_11, u2_txH_r, uz_self, Int.add_zero, Int.reduceToNat]
          refine B_X10_takesDigit_75 ?_
          try dsimp only
          try simp (disch := omega) only [txH_r, txH_9, txH_10, txH_11, txH_f, txH_o, u2_txH_9, u2_txH_10, u2_txH_11, u2_txH_r, uz_self, Int.add_zero, Int.reduceToNat]
          refine ⟨sh361, _, hR.read, ?_⟩
          refine ⟨fun c84_4 => ?_, fun c84_4 => ?_⟩
          · refine B_X10_takesDigit_91 ?_
            try dsimp only
            try simp (disch := omega) only [txH_r, txH_9, txH_10, txH_11, txH_f, txH_o, u2_txH_9, u2_txH_10, u2_txH_11, u2_txH_r, uz_self, Int.add_zero, Int.reduceToNat]
            first
              | (exfalso; omega)
              | exact absurd True.intro (by assumption)
              | (refine ⟨sh361, _, hR.read, ?_⟩
                 refine ⟨_, sh368, ⟨by omega, by omega⟩, ?_⟩
                 try simp (disch := omega) only [txH_r, txH_9, txH_10, txH_11, txH_f, txH_o, u2_txH_9, u2_txH_10, u2_txH_11, u2_txH_r, uz_self, Int.add_zero, Int.reduceToNat]
                 refine B_X10_takesDigit_97 ?_
                 try dsimp only
                 try simp (disch := omega) only [txH_r, txH_9, txH_10, txH_11, txH_f, txH_o, u2_txH_9, u2_txH_10, u2_txH_11, u2_txH_r, uz_self, Int.add_zero, Int.reduceToNat]
                 refine ⟨_, (by first | exact sh362 | exact sh365 | exact sh366 | exact sh363 | exact sh364 | exact sh367 | exact sh368), ⟨by omega, by omega⟩, ?_⟩
                 try simp (disch := omega) only [txH_r, txH_9, txH_10, txH_11, txH_f, txH_o, u2_txH_9, u2_txH_10, u2_txH_11, u2_txH_r, uz_self, Int.add_zero, Int.reduceToNat]
                 refine ⟨rfl, ?_⟩
                 refine ⟨sh361, ?_⟩
                 refine ⟨fun c105_6 => ?_, fun c105_6 => ?_⟩
                 · refine B_X10_takesDigit_112 ?_
                   try dsimp only
                   try simp (disch := omega) only [txH_r, txH_9, txH_10, txH_11, txH_f, txH_o, u2_txH_9, u2_txH_10, u2_txH_11, u2_txH_r, uz_self, Int.add_zero, Int.reduceToNat]
                   first
                     | (exfalso; omega)
                     | exact absurd True.intro (by assumption)
                     | (refine B_X10_takesDigit_113 ?_
                        try dsimp only
                        try simp (disch := omega) only [txH_r, txH_9, txH_10, txH_11, txH_f, txH_o, u2_txH_9, u2_txH_10, u2_txH_11, u2_txH_r, uz_self, Int.add_zero, Int.reduceToNat]
                        refine ⟨by (refine ⟨?_, ?_⟩ <;> omega), ?_⟩
                        refine ⟨sh361, ?_⟩
                        try simp (disch := omega) only [txH_r, txH_9, txH_10, txH_11, txH_f, txH_o, u2_txH_9, u2_txH_10, u2_txH_11, u2_txH_r, uz_self, Int.add_zero, Int.reduceToNat]
                        first
                          | (exfalso; omega)
                          | exact absurd True.intro (by assumption)
                          | (refine ⟨by first | exact Or.inl rfl | exact Or.inr rfl | exact Or.inl trivial | exact Or.inr trivial | omega, ?_⟩
                             first
                               | exact absurd True.intro (by assumption)
                               | (exfalso; omega)
                               | (have e : okD w d (r (3 * o + w).toNat) g = true := by
                                    unfold okD nxD
                                    refine decide_eq_true ?_
                                    first
                                      | (rw [if_pos (show d = 0 by omega), if_pos (show w < 2 by omega)]; omega)
                                      | (rw [if_pos (show d = 0 by omega), if_neg (show ¬ w < 2 by omega)]; omega)
                                      | (rw [if_neg (show ¬ d = 0 by omega), if_pos (show w < 2 by omega)]; omega)
                                      | (rw [if_neg (show ¬ d = 0 by omega), if_neg (show ¬ w < 2 by omega)]; omega)
                                  have hQ := hQ.1 e
                                  unfold nxD at hQ
                                  first
                                    | (rw [if_pos (show d = 0 by omega)] at hQ; exact hQ)
                                    | (rw [if_neg (show ¬ d = 0 by omega)] at hQ; exact hQ))
                               | (have e : okD w d (r (3 * o + w).toNat) g = false := by
                                    unfold okD nxD
                                    refine decide_eq_false ?_
                                    first
                                      | (rw [if_pos (show d = 0 by omega), if_pos (show w < 2 by omega)]; omega)
                                      | (rw [if_pos (show d = 0 by omega), if_neg (show ¬ w < 2 by omega)]; omega)
                                      | (rw [if_neg (show ¬ d = 0 by omega), if_pos (show w < 2 by omega)]; omega)
                                      | (rw [if_neg (show ¬ d = 0 by omega), if_neg (show ¬ w < 2 by omega)]; omega)
                                  exact hQ.2 e)))
                 · first
                     | (exfalso; omega)
                     | exact absurd True.intro (by assumption)
                     | (refine B_X10_takesDigit_113 ?_
                        try dsimp only
                        try simp (disch := omega) only [txH_r, txH_9, txH_10, txH_11, txH_f, txH_o, u2_txH_9, u2_txH_10, u2_txH_11, u2_txH_r, uz_self, Int.add_zero, Int.reduceToNat]
                        refine ⟨by (refine ⟨?_, ?_⟩ <;> omega), ?_⟩
                        refine ⟨sh361, ?_⟩
                        try simp (disch := omega) only [txH_r, txH_9, txH_10, txH_11, txH_f, txH_o, u2_txH_9, u2_txH_10, u2_txH_11, u2_txH_r, uz_self, Int.add_zero, Int.reduceToNat]
                        first
                          | (exfalso; omega)
                          | exact absurd True.intro (by assumption)
                          | (refine ⟨by first | exact Or.inl rfl | exact Or.inr rfl | exact Or.inl trivial | exact Or.inr trivial | omega, ?_⟩
                             first
                               | exact absurd True.intro (by assumption)
                               | (exfalso; omega)
                               | (have e : okD w d (r (3 * o + w).toNat) g = true := by
                                    unfold okD nxD
                                    refine decide_eq_true ?_
                                    first
                                      | (rw [if_pos (show d = 0 by omega), if_pos (show w < 2 by omega)]; omega)
                                      | (rw [if_pos (show d = 0 by omega), if_neg (show ¬ w < 2 by omega)]; omega)
                                      | (rw [if_neg (show ¬ d = 0 by omega), if_pos (show w < 2 by omega)]; omega)
                                      | (rw [if_neg (show ¬ d = 0 by omega), if_neg (show ¬ w < 2 by omega)]; omega)
                                  have hQ := hQ.1 e
                                  unfold nxD at hQ
                                  first
                                    | (rw [if_pos (show d = 0 by omega)] at hQ; exact hQ)
                                    | (rw [if_neg (show ¬ d = 0 by omega)] at hQ; exact hQ))
                               | (have e : okD w d (r (3 * o + w).toNat) g = false := by
                                    unfold okD nxD
                                    refine decide_eq_false ?_
                                    first
                                      | (rw [if_pos (show d = 0 by omega), if_pos (show w < 2 by omega)]; omega)
                                      | (rw [if_pos (show d = 0 by omega), if_neg (show ¬ w < 2 by omega)]; omega)
                                      | (rw [if_neg (show ¬ d = 0 by omega), if_pos (show w < 2 by omega)]; omega)
                                      | (rw [if_neg (show ¬ d = 0 by omega), if_neg (show ¬ w < 2 by omega)]; omega)
                                  exact hQ.2 e))))
          · first
              | (exfalso; omega)
              | exact absurd True.intro (by assumption)
              | (refine B_X10_takesDigit_97 ?_
                 try dsimp only
                 try simp (disch := omega) only [txH_r, txH_9, txH_10, txH_11, txH_f, txH_o, u2_txH_9, u2_txH_10, u2_txH_11, u2_txH_r, uz_self, Int.add_zero, Int.reduceToNat]
                 refine ⟨_, (by first | exact sh362 | exact sh365 | exact sh366 | exact sh363 | exact sh364 | exact sh367 | exact sh368), ⟨by omega, by omega⟩, ?_⟩
                 try simp (disch := omega) only [txH_r, txH_9, txH_10, txH_11, txH_f, txH_o, u2_txH_9, u2_txH_10, u2_txH_11, u2_txH_r, uz_self, Int.add_zero, Int.reduceToNat]
                 refine ⟨rfl, ?_⟩
                 refine ⟨sh361, ?_⟩
                 refine ⟨fun c105_5 => ?_, fun c105_5 => ?_⟩
                 · refine B_X10_takesDigit_112 ?_
                   try dsimp only
                   try simp (disch := omega) only [txH_r, txH_9, txH_10, txH_11, txH_f, txH_o, u2_txH_9, u2_txH_10, u2_txH_11, u2_txH_r, uz_self, Int.add_zero, Int.reduceToNat]
                   first
                     | (exfalso; omega)
                     | exact absurd True.intro (by assumption)
                     | (refine B_X10_takesDigit_113 ?_
                        try dsimp only
                        try simp (disch := omega) only [txH_r, txH_9, txH_10, txH_11, txH_f, txH_o, u2_txH_9, u2_txH_10, u2_txH_11, u2_txH_r, uz_self, Int.add_zero, Int.reduceToNat]
                        refine ⟨by (refine ⟨?_, ?_⟩ <;> omega), ?_⟩
                        refine ⟨sh361, ?_⟩
                        try simp (disch := omega) only [txH_r, txH_9, txH_10, txH_11, txH_f, txH_o, u2_txH_9, u2_txH_10, u2_txH_11, u2_txH_r, uz_self, Int.add_zero, Int.reduceToNat]
                        first
                          | (exfalso; omega)
                          | exact absurd True.intro (by assumption)
                          | (refine ⟨by first | exact Or.inl rfl | exact Or.inr rfl | exact Or.inl trivial | exact Or.inr trivial | omega, ?_⟩
                             first
                               | exact absurd True.intro (by assumption)
                               | (exfalso; omega)
                               | (have e : okD w d (r (3 * o + w).toNat) g = true := by
                                    unfold okD nxD
                                    refine decide_eq_true ?_
                                    first
                                      | (rw [if_pos (show d = 0 by omega), if_pos (show w < 2 by omega)]; omega)
                                      | (rw [if_pos (show d = 0 by omega), if_neg (show ¬ w < 2 by omega)]; omega)
                                      | (rw [if_neg (show ¬ d = 0 by omega), if_pos (show w < 2 by omega)]; omega)
                                      | (rw [if_neg (show ¬ d = 0 by omega), if_neg (show ¬ w < 2 by omega)]; omega)
                                  have hQ := hQ.1 e
                                  unfold nxD at hQ
                                  first
                                    | (rw [if_pos (show d = 0 by omega)] at hQ; exact hQ)
                                    | (rw [if_neg (show ¬ d = 0 by omega)] at hQ; exact hQ))
                               | (have e : okD w d (r (3 * o + w).toNat) g = false := by
                                    unfold okD nxD
                                    refine decide_eq_false ?_
                                    first
                                      | (rw [if_pos (show d = 0 by omega), if_pos (show w < 2 by omega)]; omega)
                                      | (rw [if_pos (show d = 0 by omega), if_neg (show ¬ w < 2 by omega)]; omega)
                                      | (rw [if_neg (show ¬ d = 0 by omega), if_pos (show w < 2 by omega)]; omega)
                                      | (rw [if_neg (show ¬ d = 0 by omega), if_neg (show ¬ w < 2 by omega)]; omega)
                                  exact hQ.2 e)))
                 · first
                     | (exfalso; omega)
                     | exact absurd True.intro (by assumption)
                     | (refine B_X10_takesDigit_113 ?_
                        try dsimp only
                        try simp (disch := omega) only [txH_r, txH_9, txH_10, txH_11, txH_f, txH_o, u2_txH_9, u2_txH_10, u2_txH_11, u2_txH_r, uz_self, Int.add_zero, Int.reduceToNat]
                        refine ⟨by (refine ⟨?_, ?_⟩ <;> omega), ?_⟩
                        refine ⟨sh361, ?_⟩
                        try simp (disch := omega) only [txH_r, txH_9, txH_10, txH_11, txH_f, txH_o, u2_txH_9, u2_txH_10, u2_txH_11, u2_txH_r, uz_self, Int.add_zero, Int.reduceToNat]
                        first
                          | (exfalso; omega)
                          | exact absurd True.intro (by assumption)
                          | (refine ⟨by first | exact Or.inl rfl | exact Or.inr rfl | exact Or.inl trivial | exact Or.inr trivial | omega, ?_⟩
                             first
                               | exact absurd True.intro (by assumption)
                               | (exfalso; omega)
                               | (have e : okD w d (r (3 * o + w).toNat) g = true := by
                                    unfold okD nxD
                                    refine decide_eq_true ?_
                                    first
                                      | (rw [if_pos (show d = 0 by omega), if_pos (show w < 2 by omega)]; omega)
                                      | (rw [if_pos (show d = 0 by omega), if_neg (show ¬ w < 2 by omega)]; omega)
                                      | (rw [if_neg (show ¬ d = 0 by omega), if_pos (show w < 2 by omega)]; omega)
                                      | (rw [if_neg (show ¬ d = 0 by omega), if_neg (show ¬ w < 2 by omega)]; omega)
                                  have hQ := hQ.1 e
                                  unfold nxD at hQ
                                  first
                                    | (rw [if_pos (show d = 0 by omega)] at hQ; exact hQ)
                                    | (rw [if_neg (show ¬ d = 0 by omega)] at hQ; exact hQ))
                               | (have e : okD w d (r (3 * o + w).toNat) g = false := by
                                    unfold okD nxD
                                    refine decide_eq_false ?_
                                    first
                                      | (rw [if_pos (show d = 0 by omega), if_pos (show w < 2 by omega)]; omega)
                                      | (rw [if_pos (show d = 0 by omega), if_neg (show ¬ w < 2 by omega)]; omega)
                                      | (rw [if_neg (show ¬ d = 0 by omega), if_pos (show w < 2 by omega)]; omega)
                                      | (rw [if_neg (show ¬ d = 0 by omega), if_neg (show ¬ w < 2 by omega)]; omega)
                                  exact hQ.2 e))))
        · refine ⟨sh361, _, hR.read, ?_⟩
          refine ⟨_, sh368, ⟨by omega, by omega⟩, ?_⟩
          try simp (disch := omega) only [txH_r, txH_9, txH_10, txH_11, txH_f, txH_o, u2_txH_9, u2_txH_10, u2_txH_11, u2_txH_r, uz_self, Int.add_zero, Int.reduceToNat]
          refine ⟨fun c67_2 => ?_, fun c67_2 => ?_⟩
          · refine B_X10_takesDigit_74 ?_
            try dsimp only
            try simp (disch := omega) only [txH_r, txH_9, txH_10, txH_11, txH_f, txH_o, u2_txH_9, u2_txH_10, u2_txH_11, u2_txH_r, uz_self, Int.add_zero, Int.reduceToNat]
            refine B_X10_takesDigit_75 ?_
            try dsimp only
            try simp (disch := omega) only [txH_r, txH_9, txH_10, txH_11, txH_f, txH_o, u2_txH_9, u2_txH_10, u2_txH_11, u2_txH_r, uz_self, Int.add_zero, Int.reduceToNat]
            refine ⟨sh361, _, hR.read, ?_⟩
            refine ⟨fun c84_4 => ?_, fun c84_4 => ?_⟩
            · refine B_X10_takesDigit_91 ?_
              try dsimp only
              try simp (disch := omega) only [txH_r, txH_9, txH_10, txH_11, txH_f, txH_o, u2_txH_9, u2_txH_10, u2_txH_11, u2_txH_r, uz_self, Int.add_zero, Int.reduceToNat]
              first
                | (exfalso; omega)
                | exact absurd True.intro (by assumption)
                | (refine ⟨sh361, _, hR.read, ?_⟩
                   refine ⟨_, sh368, ⟨by omega, by omega⟩, ?_⟩
                   try simp (disch := omega) only [txH_r, txH_9, txH_10, txH_11, txH_f, txH_o, u2_txH_9, u2_txH_10, u2_txH_11, u2_txH_r, uz_self, Int.add_zero, Int.reduceToNat]
                   refine B_X10_takesDigit_97 ?_
                   try dsimp only
                   try simp (disch := omega) only [txH_r, txH_9, txH_10, txH_11, txH_f, txH_o, u2_txH_9, u2_txH_10, u2_txH_11, u2_txH_r, uz_self, Int.add_zero, Int.reduceToNat]
                   refine ⟨_, (by first | exact sh362 | exact sh365 | exact sh366 | exact sh363 | exact sh364 | exact sh367 | exact sh368), ⟨by omega, by omega⟩, ?_⟩
                   try simp (disch := omega) only [txH_r, txH_9, txH_10, txH_11, txH_f, txH_o, u2_txH_9, u2_txH_10, u2_txH_11, u2_txH_r, uz_self, Int.add_zero, Int.reduceToNat]
                   refine ⟨rfl, ?_⟩
                   refine ⟨sh361, ?_⟩
                   refine ⟨fun c105_6 => ?_, fun c105_6 => ?_⟩
                   · refine B_X10_takesDigit_112 ?_
                     try dsimp only
                     try simp (disch := omega) only [txH_r, txH_9, txH_10, txH_11, txH_f, txH_o, u2_txH_9, u2_txH_10, u2_txH_11, u2_txH_r, uz_self, Int.add_zero, Int.reduceToNat]
                     first
                       | (exfalso; omega)
                       | exact absurd True.intro (by assumption)
                       | (refine B_X10_takesDigit_113 ?_
                          try dsimp only
                          try simp (disch := omega) only [txH_r, txH_9, txH_10, txH_11, txH_f, txH_o, u2_txH_9, u2_txH_10, u2_txH_11, u2_txH_r, uz_self, Int.add_zero, Int.reduceToNat]
                          refine ⟨by (refine ⟨?_, ?_⟩ <;> omega), ?_⟩
                          refine ⟨sh361, ?_⟩
                          try simp (disch := omega) only [txH_r, txH_9, txH_10, txH_11, txH_f, txH_o, u2_txH_9, u2_txH_10, u2_txH_11, u2_txH_r, uz_self, Int.add_zero, Int.reduceToNat]
                          first
                            | (exfalso; omega)
                            | exact absurd True.intro (by assumption)
                            | (refine ⟨by first | exact Or.inl rfl | exact Or.inr rfl | exact Or.inl trivial | exact Or.inr trivial | omega, ?_⟩
                               first
                                 | exact absurd True.intro (by assumption)
                                 | (exfalso; omega)
                                 | (have e : okD w d (r (3 * o + w).toNat) g = true := by
                                      unfold okD nxD
                                      refine decide_eq_true ?_
                                      first
                                        | (rw [if_pos (show d = 0 by omega), if_pos (show w < 2 by omega)]; omega)
                                        | (rw [if_pos (show d = 0 by omega), if_neg (show ¬ w < 2 by omega)]; omega)
                                        | (rw [if_neg (show ¬ d = 0 by omega), if_pos (show w < 2 by omega)]; omega)
                                        | (rw [if_neg (show ¬ d = 0 by omega), if_neg (show ¬ w < 2 by omega)]; omega)
                                    have hQ := hQ.1 e
                                    unfold nxD at hQ
                                    first
                                      | (rw [if_pos (show d = 0 by omega)] at hQ; exact hQ)
                                      | (rw [if_neg (show ¬ d = 0 by omega)] at hQ; exact hQ))
                                 | (have e : okD w d (r (3 * o + w).toNat) g = false := by
                                      unfold okD nxD
                                      refine decide_eq_false ?_
                                      first
                                        | (rw [if_pos (show d = 0 by omega), if_pos (show w < 2 by omega)]; omega)
                                        | (rw [if_pos (show d = 0 by omega), if_neg (show ¬ w < 2 by omega)]; omega)
                                        | (rw [if_neg (show ¬ d = 0 by omega), if_pos (show w < 2 by omega)]; omega)
                                        | (rw [if_neg (show ¬ d = 0 by omega), if_neg (show ¬ w < 2 by omega)]; omega)
                                    exact hQ.2 e)))
                   · first
                       | (exfalso; omega)
                       | exact absurd True.intro (by assumption)
                       | (refine B_X10_takesDigit_113 ?_
                          try dsimp only
                          try simp (disch := omega) only [txH_r, txH_9, txH_10, txH_11, txH_f, txH_o, u2_txH_9, u2_txH_10, u2_txH_11, u2_txH_r, uz_self, Int.add_zero, Int.reduceToNat]
                          refine ⟨by (refine ⟨?_, ?_⟩ <;> omega), ?_⟩
                          refine ⟨sh361, ?_⟩
                          try simp (disch := omega) only [txH_r, txH_9, txH_10, txH_11, txH_f, txH_o, u2_txH_9, u2_txH_10, u2_txH_11, u2_txH_r, uz_self, Int.add_zero, Int.reduceToNat]
                          first
                            | (exfalso; omega)
                            | exact absurd True.intro (by assumption)
                            | (refine ⟨by first | exact Or.inl rfl | exact Or.inr rfl | exact Or.inl trivial | exact Or.inr trivial | omega, ?_⟩
                               first
                                 | exact absurd True.intro (by assumption)
                                 | (exfalso; omega)
                                 | (have e : okD w d (r (3 * o + w).toNat) g = true := by
                                      unfold okD nxD
                                      refine decide_eq_true ?_
                                      first
                                        | (rw [if_pos (show d = 0 by omega), if_pos (show w < 2 by omega)]; omega)
                                        | (rw [if_pos (show d = 0 by omega), if_neg (show ¬ w < 2 by omega)]; omega)
                                        | (rw [if_neg (show ¬ d = 0 by omega), if_pos (show w < 2 by omega)]; omega)
                                        | (rw [if_neg (show ¬ d = 0 by omega), if_neg (show ¬ w < 2 by omega)]; omega)
                                    have hQ := hQ.1 e
                                    unfold nxD at hQ
                                    first
                                      | (rw [if_pos (show d = 0 by omega)] at hQ; exact hQ)
                                      | (rw [if_neg (show ¬ d = 0 by omega)] at hQ; exact hQ))
                                 | (have e : okD w d (r (3 * o + w).toNat) g = false := by
                                      unfold okD nxD
                                      refine decide_eq_false ?_
                                      first
                                        | (rw [if_pos (show d = 0 by omega), if_pos (show w < 2 by omega)]; omega)
                                        | (rw [if_pos (show d = 0 by omega), if_neg (show ¬ w < 2 by omega)]; omega)
                                        | (rw [if_neg (show ¬ d = 0 by omega), if_pos (show w < 2 by omega)]; omega)
                                        | (rw [if_neg (show ¬ d = 0 by omega), if_neg (show ¬ w < 2 by omega)]; omega)
                                    exact hQ.2 e))))
            · first
                | (exfalso; omega)
                | exact absurd True.intro (by assumption)
                | (refine B_X10_takesDigit_97 ?_
                   try dsimp only
                   try simp (disch := omega) only [txH_r, txH_9, txH_10, txH_11, txH_f, txH_o, u2_txH_9, u2_txH_10, u2_txH_11, u2_txH_r, uz_self, Int.add_zero, Int.reduceToNat]
                   refine ⟨_, (by first | exact sh362 | exact sh365 | exact sh366 | exact sh363 | exact sh364 | exact sh367 | exact sh368), ⟨by omega, by omega⟩, ?_⟩
                   try simp (disch := omega) only [txH_r, txH_9, txH_10, txH_11, txH_f, txH_o, u2_txH_9, u2_txH_10, u2_txH_11, u2_txH_r, uz_self, Int.add_zero, Int.reduceToNat]
                   refine ⟨rfl, ?_⟩
                   refine ⟨sh361, ?_⟩
                   refine ⟨fun c105_5 => ?_, fun c105_5 => ?_⟩
                   · refine B_X10_takesDigit_112 ?_
                     try dsimp only
                     try simp (disch := omega) only [txH_r, txH_9, txH_10, txH_11, txH_f, txH_o, u2_txH_9, u2_txH_10, u2_txH_11, u2_txH_r, uz_self, Int.add_zero, Int.reduceToNat]
                     first
                       | (exfalso; omega)
                       | exact absurd True.intro (by assumption)
                       | (refine B_X10_takesDigit_113 ?_
                          try dsimp only
                          try simp (disch := omega) only [txH_r, txH_9, txH_10, txH_11, txH_f, txH_o, u2_txH_9, u2_txH_10, u2_txH_11, u2_txH_r, uz_self, Int.add_zero, Int.reduceToNat]
                          refine ⟨by (refine ⟨?_, ?_⟩ <;> omega), ?_⟩
                          refine ⟨sh361, ?_⟩
                          try simp (disch := omega) only [txH_r, txH_9, txH_10, txH_11, txH_f, txH_o, u2_txH_9, u2_txH_10, u2_txH_11, u2_txH_r, uz_self, Int.add_zero, Int.reduceToNat]
                          first
                            | (exfalso; omega)
                            | exact absurd True.intro (by assumption)
                            | (refine ⟨by first | exact Or.inl rfl | exact Or.inr rfl | exact Or.inl trivial | exact Or.inr trivial | omega, ?_⟩
                               first
                                 | exact absurd True.intro (by assumption)
                                 | (exfalso; omega)
                                 | (have e : okD w d (r (3 * o + w).toNat) g = true := by
                                      unfold okD nxD
                                      refine decide_eq_true ?_
                                      first
                                        | (rw [if_pos (show d = 0 by omega), if_pos (show w < 2 by omega)]; omega)
                                        | (rw [if_pos (show d = 0 by omega), if_neg (show ¬ w < 2 by omega)]; omega)
                                        | (rw [if_neg (show ¬ d = 0 by omega), if_pos (show w < 2 by omega)]; omega)
                                        | (rw [if_neg (show ¬ d = 0 by omega), if_neg (show ¬ w < 2 by omega)]; omega)
                                    have hQ := hQ.1 e
                                    unfold nxD at hQ
                                    first
                                      | (rw [if_pos (show d = 0 by omega)] at hQ; exact hQ)
                                      | (rw [if_neg (show ¬ d = 0 by omega)] at hQ; exact hQ))
                                 | (have e : okD w d (r (3 * o + w).toNat) g = false := by
                                      unfold okD nxD
                                      refine decide_eq_false ?_
                                      first
                                        | (rw [if_pos (show d = 0 by omega), if_pos (show w < 2 by omega)]; omega)
                                        | (rw [if_pos (show d = 0 by omega), if_neg (show ¬ w < 2 by omega)]; omega)
                                        | (rw [if_neg (show ¬ d = 0 by omega), if_pos (show w < 2 by omega)]; omega)
                                        | (rw [if_neg (show ¬ d = 0 by omega), if_neg (show ¬ w < 2 by omega)]; omega)
                                    exact hQ.2 e)))
                   · first
                       | (exfalso; omega)
                       | exact absurd True.intro (by assumption)
                       | (refine B_X10_takesDigit_113 ?_
                          try dsimp only
                          try simp (disch := omega) only [txH_r, txH_9, txH_10, txH_11, txH_f, txH_o, u2_txH_9, u2_txH_10, u2_txH_11, u2_txH_r, uz_self, Int.add_zero, Int.reduceToNat]
                          refine ⟨by (refine ⟨?_, ?_⟩ <;> omega), ?_⟩
                          refine ⟨sh361, ?_⟩
                          try simp (disch := omega) only [txH_r, txH_9, txH_10, txH_11, txH_f, txH_o, u2_txH_9, u2_txH_10, u2_txH_11, u2_txH_r, uz_self, Int.add_zero, Int.reduceToNat]
                          first
                            | (exfalso; omega)
                            | exact absurd True.intro (by assumption)
                            | (refine ⟨by first | exact Or.inl rfl | exact Or.inr rfl | exact Or.inl trivial | exact Or.inr trivial | omega, ?_⟩
                               first
                                 | exact absurd True.intro (by assumption)
                                 | (exfalso; omega)
                                 | (have e : okD w d (r (3 * o + w).toNat) g = true := by
                                      unfold okD nxD
                                      refine decide_eq_true ?_
                                      first
                                        | (rw [if_pos (show d = 0 by omega), if_pos (show w < 2 by omega)]; omega)
                                        | (rw [if_pos (show d = 0 by omega), if_neg (show ¬ w < 2 by omega)]; omega)
                                        | (rw [if_neg (show ¬ d = 0 by omega), if_pos (show w < 2 by omega)]; omega)
                                        | (rw [if_neg (show ¬ d = 0 by omega), if_neg (show ¬ w < 2 by omega)]; omega)
                                    have hQ := hQ.1 e
                                    unfold nxD at hQ
                                    first
                                      | (rw [if_pos (show d = 0 by omega)] at hQ; exact hQ)
                                      | (rw [if_neg (show ¬ d = 0 by omega)] at hQ; exact hQ))
                                 | (have e : okD w d (r (3 * o + w).toNat) g = false := by
                                      unfold okD nxD
                                      refine decide_eq_false ?_
                                      first
                                        | (rw [if_pos (show d = 0 by omega), if_pos (show w < 2 by omega)]; omega)
                                        | (rw [if_pos (show d = 0 by omega), if_neg (show ¬ w < 2 by omega)]; omega)
                                        | (rw [if_neg (show ¬ d = 0 by omega), if_pos (show w < 2 by omega)]; omega)
                                        | (rw [if_neg (show ¬ d = 0 by omega), if_neg (show ¬ w < 2 by omega)]; omega)
                                    exact hQ.2 e))))
          · refine B_X10_takesDigit_70 ?_
            try dsimp only
            try simp (disch := omega) only [txH_r, txH_9, txH_10, txH_11, txH_f, txH_o, u2_txH_9, u2_txH_10, u2_txH_11, u2_txH_r, uz_self, Int.add_zero, Int.reduceToNat]
            refine B_X10_takesDigit_75 ?_
            try dsimp only
            try simp (disch := omega) only [txH_r, txH_9, txH_10, txH_11, txH_f, txH_o, u2_txH_9, u2_txH_10, u2_txH_11, u2_txH_r, uz_self, Int.add_zero, Int.reduceToNat]
            refine ⟨sh361, _, hR.read, ?_⟩
            refine ⟨fun c84_4 => ?_, fun c84_4 => ?_⟩
            · refine B_X10_takesDigit_91 ?_
              try dsimp only
              try simp (disch := omega) only [txH_r, txH_9, txH_10, txH_11, txH_f, txH_o, u2_txH_9, u2_txH_10, u2_txH_11, u2_txH_r, uz_self, Int.add_zero, Int.reduceToNat]
              first
                | (exfalso; omega)
                | exact absurd True.intro (by assumption)
                | (refine ⟨sh361, _, hR.read, ?_⟩
                   refine ⟨_, sh368, ⟨by omega, by omega⟩, ?_⟩
                   try simp (disch := omega) only [txH_r, txH_9, txH_10, txH_11, txH_f, txH_o, u2_txH_9, u2_txH_10, u2_txH_11, u2_txH_r, uz_self, Int.add_zero, Int.reduceToNat]
                   refine B_X10_takesDigit_97 ?_
                   try dsimp only
                   try simp (disch := omega) only [txH_r, txH_9, txH_10, txH_11, txH_f, txH_o, u2_txH_9, u2_txH_10, u2_txH_11, u2_txH_r, uz_self, Int.add_zero, Int.reduceToNat]
                   refine ⟨_, (by first | exact sh362 | exact sh365 | exact sh366 | exact sh363 | exact sh364 | exact sh367 | exact sh368), ⟨by omega, by omega⟩, ?_⟩
                   try simp (disch := omega) only [txH_r, txH_9, txH_10, txH_11, txH_f, txH_o, u2_txH_9, u2_txH_10, u2_txH_11, u2_txH_r, uz_self, Int.add_zero, Int.reduceToNat]
                   refine ⟨rfl, ?_⟩
                   refine ⟨sh361, ?_⟩
                   refine ⟨fun c105_6 => ?_, fun c105_6 => ?_⟩
                   · refine B_X10_takesDigit_112 ?_
                     try dsimp only
                     try simp (disch := omega) only [txH_r, txH_9, txH_10, txH_11, txH_f, txH_o, u2_txH_9, u2_txH_10, u2_txH_11, u2_txH_r, uz_self, Int.add_zero, Int.reduceToNat]
                     first
                       | (exfalso; omega)
                       | exact absurd True.intro (by assumption)
                       | (refine B_X10_takesDigit_113 ?_
                          try dsimp only
                          try simp (disch := omega) only [txH_r, txH_9, txH_10, txH_11, txH_f, txH_o, u2_txH_9, u2_txH_10, u2_txH_11, u2_txH_r, uz_self, Int.add_zero, Int.reduceToNat]
                          refine ⟨by (refine ⟨?_, ?_⟩ <;> omega), ?_⟩
                          refine ⟨sh361, ?_⟩
                          try simp (disch := omega) only [txH_r, txH_9, txH_10, txH_11, txH_f, txH_o, u2_txH_9, u2_txH_10, u2_txH_11, u2_txH_r, uz_self, Int.add_zero, Int.reduceToNat]
                          first
                            | (exfalso; omega)
                            | exact absurd True.intro (by assumption)
                            | (refine ⟨by first | exact Or.inl rfl | exact Or.inr rfl | exact Or.inl trivial | exact Or.inr trivial | omega, ?_⟩
                               first
                                 | exact absurd True.intro (by assumption)
                                 | (exfalso; omega)
                                 | (have e : okD w d (r (3 * o + w).toNat) g = true := by
                                      unfold okD nxD
                                      refine decide_eq_true ?_
                                      first
                                        | (rw [if_pos (show d = 0 by omega), if_pos (show w < 2 by omega)]; omega)
                                        | (rw [if_pos (show d = 0 by omega), if_neg (show ¬ w < 2 by omega)]; omega)
                                        | (rw [if_neg (show ¬ d = 0 by omega), if_pos (show w < 2 by omega)]; omega)
                                        | (rw [if_neg (show ¬ d = 0 by omega), if_neg (show ¬ w < 2 by omega)]; omega)
                                    have hQ := hQ.1 e
                                    unfold nxD at hQ
                                    first
                                      | (rw [if_pos (show d = 0 by omega)] at hQ; exact hQ)
                                      | (rw [if_neg (show ¬ d = 0 by omega)] at hQ; exact hQ))
                                 | (have e : okD w d (r (3 * o + w).toNat) g = false := by
                                      unfold okD nxD
                                      refine decide_eq_false ?_
                                      first
                                        | (rw [if_pos (show d = 0 by omega), if_pos (show w < 2 by omega)]; omega)
                                        | (rw [if_pos (show d = 0 by omega), if_neg (show ¬ w < 2 by omega)]; omega)
                                        | (rw [if_neg (show ¬ d = 0 by omega), if_pos (show w < 2 by omega)]; omega)
                                        | (rw [if_neg (show ¬ d = 0 by omega), if_neg (show ¬ w < 2 by omega)]; omega)
                                    exact hQ.2 e)))
                   · first
                       | (exfalso; omega)
                       | exact absurd True.intro (by assumption)
                       | (refine B_X10_takesDigit_113 ?_
                          try dsimp only
                          try simp (disch := omega) only [txH_r, txH_9, txH_10, txH_11, txH_f, txH_o, u2_txH_9, u2_txH_10, u2_txH_11, u2_txH_r, uz_self, Int.add_zero, Int.reduceToNat]
                          refine ⟨by (refine ⟨?_, ?_⟩ <;> omega), ?_⟩
                          refine ⟨sh361, ?_⟩
                          try simp (disch := omega) only [txH_r, txH_9, txH_10, txH_11, txH_f, txH_o, u2_txH_9, u2_txH_10, u2_txH_11, u2_txH_r, uz_self, Int.add_zero, Int.reduceToNat]
                          first
                            | (exfalso; omega)
                            | exact absurd True.intro (by assumption)
                            | (refine ⟨by first | exact Or.inl rfl | exact Or.inr rfl | exact Or.inl trivial | exact Or.inr trivial | omega, ?_⟩
                               first
                                 | exact absurd True.intro (by assumption)
                                 | (exfalso; omega)
                                 | (have e : okD w d (r (3 * o + w).toNat) g = true := by
                                      unfold okD nxD
                                      refine decide_eq_true ?_
                                      first
                                        | (rw [if_pos (show d = 0 by omega), if_pos (show w < 2 by omega)]; omega)
                                        | (rw [if_pos (show d = 0 by omega), if_neg (show ¬ w < 2 by omega)]; omega)
                                        | (rw [if_neg (show ¬ d = 0 by omega), if_pos (show w < 2 by omega)]; omega)
                                        | (rw [if_neg (show ¬ d = 0 by omega), if_neg (show ¬ w < 2 by omega)]; omega)
                                    have hQ := hQ.1 e
                                    unfold nxD at hQ
                                    first
                                      | (rw [if_pos (show d = 0 by omega)] at hQ; exact hQ)
                                      | (rw [if_neg (show ¬ d = 0 by omega)] at hQ; exact hQ))
                                 | (have e : okD w d (r (3 * o + w).toNat) g = false := by
                                      unfold okD nxD
                                      refine decide_eq_false ?_
                                      first
                                        | (rw [if_pos (show d = 0 by omega), if_pos (show w < 2 by omega)]; omega)
                                        | (rw [if_pos (show d = 0 by omega), if_neg (show ¬ w < 2 by omega)]; omega)
                                        | (rw [if_neg (show ¬ d = 0 by omega), if_pos (show w < 2 by omega)]; omega)
                                        | (rw [if_neg (show ¬ d = 0 by omega), if_neg (show ¬ w < 2 by omega)]; omega)
                                    exact hQ.2 e))))
            · first
                | (exfalso; omega)
                | exact absurd True.intro (by assumption)
                | (refine B_X10_takesDigit_97 ?_
                   try dsimp only
                   try simp (disch := omega) only [txH_r, txH_9, txH_10, txH_11, txH_f, txH_o, u2_txH_9, u2_txH_10, u2_txH_11, u2_txH_r, uz_self, Int.add_zero, Int.reduceToNat]
                   refine ⟨_, (by first | exact sh362 | exact sh365 | exact sh366 | exact sh363 | exact sh364 | exact sh367 | exact sh368), ⟨by omega, by omega⟩, ?_⟩
                   try simp (disch := omega) only [txH_r, txH_9, txH_10, txH_11, txH_f, txH_o, u2_txH_9, u2_txH_10, u2_txH_11, u2_txH_r, uz_self, Int.add_zero, Int.reduceToNat]
                   refine ⟨rfl, ?_⟩
                   refine ⟨sh361, ?_⟩
                   refine ⟨fun c105_5 => ?_, fun c105_5 => ?_⟩
                   · refine B_X10_takesDigit_112 ?_
                     try dsimp only
                     try simp (disch := omega) only [txH_r, txH_9, txH_10, txH_11, txH_f, txH_o, u2_txH_9, u2_txH_10, u2_txH_11, u2_txH_r, uz_self, Int.add_zero, Int.reduceToNat]
                     first
                       | (exfalso; omega)
                       | exact absurd True.intro (by assumption)
                       | (refine B_X10_takesDigit_113 ?_
                          try dsimp only
                          try simp (disch := omega) only [txH_r, txH_9, txH_10, txH_11, txH_f, txH_o, u2_txH_9, u2_txH_10, u2_txH_11, u2_txH_r, uz_self, Int.add_zero, Int.reduceToNat]
                          refine ⟨by (refine ⟨?_, ?_⟩ <;> omega), ?_⟩
                          refine ⟨sh361, ?_⟩
                          try simp (disch := omega) only [txH_r, txH_9, txH_10, txH_11, txH_f, txH_o, u2_txH_9, u2_txH_10, u2_txH_11, u2_txH_r, uz_self, Int.add_zero, Int.reduceToNat]
                          first
                            | (exfalso; omega)
                            | exact absurd True.intro (by assumption)
                            | (refine ⟨by first | exact Or.inl rfl | exact Or.inr rfl | exact Or.inl trivial | exact Or.inr trivial | omega, ?_⟩
                               first
                                 | exact absurd True.intro (by assumption)
                                 | (exfalso; omega)
                                 | (have e : okD w d (r (3 * o + w).toNat) g = true := by
                                      unfold okD nxD
                                      refine decide_eq_true ?_
                                      first
                                        | (rw [if_pos (show d = 0 by omega), if_pos (show w < 2 by omega)]; omega)
                                        | (rw [if_pos (show d = 0 by omega), if_neg (show ¬ w < 2 by omega)]; omega)
                                        | (rw [if_neg (show ¬ d = 0 by omega), if_pos (show w < 2 by omega)]; omega)
                                        | (rw [if_neg (show ¬ d = 0 by omega), if_neg (show ¬ w < 2 by omega)]; omega)
                                    have hQ := hQ.1 e
                                    unfold nxD at hQ
                                    first
                                      | (rw [if_pos (show d = 0 by omega)] at hQ; exact hQ)
                                      | (rw [if_neg (show ¬ d = 0 by omega)] at hQ; exact hQ))
                                 | (have e : okD w d (r (3 * o + w).toNat) g = false := by
                                      unfold okD nxD
                                      refine decide_eq_false ?_
                                      first
                                        | (rw [if_pos (show d = 0 by omega), if_pos (show w < 2 by omega)]; omega)
                                        | (rw [if_pos (show d = 0 by omega), if_neg (show ¬ w < 2 by omega)]; omega)
                                        | (rw [if_neg (show ¬ d = 0 by omega), if_pos (show w < 2 by omega)]; omega)
                                        | (rw [if_neg (show ¬ d = 0 by omega), if_neg (show ¬ w < 2 by omega)]; omega)
                                    exact hQ.2 e)))
                   · first
                       | (exfalso; omega)
                       | exact absurd True.intro (by assumption)
                       | (refine B_X10_takesDigit_113 ?_
                          try dsimp only
                          try simp (disch := omega) only [txH_r, txH_9, txH_10, txH_11, txH_f, txH_o, u2_txH_9, u2_txH_10, u2_txH_11, u2_txH_r, uz_self, Int.add_zero, Int.reduceToNat]
                          refine ⟨by (refine ⟨?_, ?_⟩ <;> omega), ?_⟩
                          refine ⟨sh361, ?_⟩
                          try simp (disch := omega) only [txH_r, txH_9, txH_10, txH_11, txH_f, txH_o, u2_txH_9, u2_txH_10, u2_txH_11, u2_txH_r, uz_self, Int.add_zero, Int.reduceToNat]
                          first
                            | (exfalso; omega)
                            | exact absurd True.intro (by assumption)
                            | (refine ⟨by first | exact Or.inl rfl | exact Or.inr rfl | exact Or.inl trivial | exact Or.inr trivial | omega, ?_⟩
                               first
                                 | exact absurd True.intro (by assumption)
                                 | (exfalso; omega)
                                 | (have e : okD w d (r (3 * o + w).toNat) g = true := by
                                      unfold okD nxD
                                      refine decide_eq_true ?_
                                      first
                                        | (rw [if_pos (show d = 0 by omega), if_pos (show w < 2 by omega)]; omega)
                                        | (rw [if_pos (show d = 0 by omega), if_neg (show ¬ w < 2 by omega)]; omega)
                                        | (rw [if_neg (show ¬ d = 0 by omega), if_pos (show w < 2 by omega)]; omega)
                                        | (rw [if_neg (show ¬ d = 0 by omega), if_neg (show ¬ w < 2 by omega)]; omega)
                                    have hQ := hQ.1 e
                                    unfold nxD at hQ
                                    first
                                      | (rw [if_pos (show d = 0 by omega)] at hQ; exact hQ)
                                      | (rw [if_neg (show ¬ d = 0 by omega)] at hQ; exact hQ))
                                 | (have e : okD w d (r (3 * o + w).toNat) g = false := by
                                      unfold okD nxD
                                      refine decide_eq_false ?_
                                      first
                                        | (rw [if_pos (show d = 0 by omega), if_pos (show w < 2 by omega)]; omega)
                                        | (rw [if_pos (show d = 0 by omega), if_neg (show ¬ w < 2 by omega)]; omega)
                                        | (rw [if_neg (show ¬ d = 0 by omega), if_pos (show w < 2 by omega)]; omega)
                                        | (rw [if_neg (show ¬ d = 0 by omega), if_neg (show ¬ w < 2 by omega)]; omega)
                                    exact hQ.2 e))))
theorem C_takes {G : amG} {I : Nat → Nat → Int} {R : Nat → Nat → Option Nat} {L : Nat → Nat → Int64} {x c t : Nat} {Q : amR → amH → Prop} (hG : amG0 G) (hR : RM R) {w d o : Int} {r : Row} {k : Nat} (hk : k ≤ 60) (hp : pI k (w, d, o, r)) {v : Int} (hv : 0 ≤ v ∧ v ≤ 1000) (hQ : (∀ s : TS, tkC (w, d, o, r) v = some s → Q (Sum.inl (some (aI 1))) (txH I (s.1) (s.2.1) (s.2.2.1) (s.2.2.2), R, L, SH, x, 0, 0)) ∧ (tkC (w, d, o, r) v = none → Q (Sum.inl (some (aI 0))) (txH I (w) (d) (o) (r), R, L, SH, x, 0, 0))) : CT G sX10_takes [aR (some 361), aI v] (txH I w d o r, R, L, SH, x, c, t) Q := by
  refine CT_of ok_X10_takes hG (Nat.le_of_ble_eq_true rfl) ?_
  show X G mX10_takes Q 0 _ [] (txH I w d o r, R, L, SH, x, 0, 0)
  have hp' := hp
  unfold pI vS at hp'
  have h1 : 0 ≤ w ∧ w ≤ 2 := hp.1
  have h2 : 0 ≤ o := hp.2.1
  have h3 : 6 * o + 2 * w + (if 0 < d then 1 else 0) ≤ (k : Int) := hp.2.2.1
  have h3a : 6 * o + 2 * w ≤ 60 := by split at h3 <;> omega
  have h4 : d = 0 ∨ (d = 1 ∧ 0 ≤ r (3 * o + w).toNat ∧ r (3 * o + w).toNat ≤ 9) ∨ (d = 2 ∧ 10 ≤ r (3 * o + w).toNat ∧ r (3 * o + w).toNat ≤ 11 ∧ w < 2) := hp.2.2.2.1
  have td3 : (w + 1).tdiv 3 = (w + 1) / 3 := Int.tdiv_eq_ediv_of_nonneg (by omega)
  have tm3 : (w + 1).tmod 3 = (w + 1) % 3 := Int.tmod_eq_emod_of_nonneg (by omega)
  refine B_X10_takes_0 ?_
  try dsimp only
  try simp (disch := omega) only [txH_r, txH_9, txH_10, txH_11, txH_f, txH_o, u2_txH_9, u2_txH_10, u2_txH_11, u2_txH_r, uz_self, Int.add_zero, Int.reduceToNat]
  refine ⟨⟨Nat.zero_le _, Nat.zero_le _, Nat.le_of_ble_eq_true rfl⟩, trivial, ?_⟩
  refine C_within hG (fun r1 hr1 => ?_)
  refine af_I0 rfl rfl (by decide) ?_
  try dsimp only
  try simp (disch := omega) only [txH_r, txH_9, txH_10, txH_11, txH_f, txH_o, u2_txH_9, u2_txH_10, u2_txH_11, u2_txH_r, uz_self, Int.add_zero, Int.reduceToNat]
  refine B_X10_takes_8 ?_
  try dsimp only
  try simp (disch := omega) only [txH_r, txH_9, txH_10, txH_11, txH_f, txH_o, u2_txH_9, u2_txH_10, u2_txH_11, u2_txH_r, uz_self, Int.add_zero, Int.reduceToNat]
  refine ⟨fun c8_1 => ?_, fun c8_1 => ?_⟩
  · refine B_X10_takes_20 ?_
    try dsimp only
    try simp (disch := omega) only [txH_r, txH_9, txH_10, txH_11, txH_f, txH_o, u2_txH_9, u2_txH_10, u2_txH_11, u2_txH_r, uz_self, Int.add_zero, Int.reduceToNat]
    refine ⟨sh361, ?_⟩
    refine ⟨fun c24_2 => ?_, fun c24_2 => ?_⟩
    · refine B_X10_takes_62 ?_
      try dsimp only
      try simp (disch := omega) only [txH_r, txH_9, txH_10, txH_11, txH_f, txH_o, u2_txH_9, u2_txH_10, u2_txH_11, u2_txH_r, uz_self, Int.add_zero, Int.reduceToNat]
      refine B_X10_takes_63 ?_
      try dsimp only
      try simp (disch := omega) only [txH_r, txH_9, txH_10, txH_11, txH_f, txH_o, u2_txH_9, u2_txH_10, u2_txH_11, u2_txH_r, uz_self, Int.add_zero, Int.reduceToNat]
      refine ⟨fun c65_4 => ?_, fun c65_4 => ?_⟩
      · refine B_X10_takes_107 ?_
        try dsimp only
        try simp (disch := omega) only [txH_r, txH_9, txH_10, txH_11, txH_f, txH_o, u2_txH_9, u2_txH_10, u2_txH_11, u2_txH_r, uz_self, Int.add_zero, Int.reduceToNat]
        first
          | (exfalso; omega)
          | exact absurd True.intro (by assumption)
          | (refine ⟨by first | exact Or.inl rfl | exact Or.inr rfl | exact Or.inl trivial | exact Or.inr trivial | omega, ?_⟩
             first
               | exact absurd True.intro (by assumption)
               | (exfalso; omega)
               | exact hQ
               | (have e : tkC (w, d, o, r) v = some ((w + 1) % 3, 0, (if w = 2 then o + 1 else o), r) := by
                    unfold tkC
                    rw [if_neg (show ¬ (48 ≤ v ∧ v ≤ 57) by omega), if_pos (show 0 < d ∧ v = sepC w by unfold sepC; split <;> (try split) <;> omega)]
                  have hQ := hQ.1 _ e
                  have tm : (w + 1).tmod 3 = (w + 1) % 3 := Int.tmod_eq_emod_of_nonneg (by omega)
                  rw [tm]
                  first
                    | (rw [show (if w = 2 then o + 1 else o) = o + 1 from if_pos (by omega)] at hQ; exact hQ)
                    | (rw [show (if w = 2 then o + 1 else o) = o from if_neg (by omega)] at hQ; exact hQ))
               | (have e : tkC (w, d, o, r) v = none := by
                    unfold tkC
                    rw [if_neg (show ¬ (48 ≤ v ∧ v ≤ 57) by omega), if_neg (show ¬ (0 < d ∧ v = sepC w) by unfold sepC; split <;> (try split) <;> omega)]
                  exact hQ.2 e))
      · first
          | (exfalso; omega)
          | exact absurd True.intro (by assumption)
          | (refine ⟨rfl, ?_⟩
             refine ⟨sh361, ?_⟩
             refine ⟨sh361, ?_⟩
             refine ⟨fun c78_4 => ?_, fun c78_4 => ?_⟩
             · refine B_X10_takes_85 ?_
               try dsimp only
               try simp (disch := omega) only [txH_r, txH_9, txH_10, txH_11, txH_f, txH_o, u2_txH_9, u2_txH_10, u2_txH_11, u2_txH_r, uz_self, Int.add_zero, Int.reduceToNat]
               first
                 | (exfalso; omega)
                 | exact absurd True.intro (by assumption)
                 | (refine B_X10_takes_86 ?_
                    try dsimp only
                    try simp (disch := omega) only [txH_r, txH_9, txH_10, txH_11, txH_f, txH_o, u2_txH_9, u2_txH_10, u2_txH_11, u2_txH_r, uz_self, Int.add_zero, Int.reduceToNat]
                    refine ⟨by (refine ⟨?_, ?_⟩ <;> omega), ?_⟩
                    refine ⟨sh361, ?_⟩
                    try simp (disch := omega) only [txH_r, txH_9, txH_10, txH_11, txH_f, txH_o, u2_txH_9, u2_txH_10, u2_txH_11, u2_txH_r, uz_self, Int.add_zero, Int.reduceToNat]
                    refine ⟨sh361, ?_⟩
                    refine ⟨by (refine ⟨?_, ?_⟩ <;> omega), ?_⟩
                    refine ⟨⟨by decide, by (refine ⟨?_, ?_⟩ <;> omega)⟩, ?_⟩
                    refine ⟨sh361, ?_⟩
                    try simp (disch := omega) only [txH_r, txH_9, txH_10, txH_11, txH_f, txH_o, u2_txH_9, u2_txH_10, u2_txH_11, u2_txH_r, uz_self, Int.add_zero, Int.reduceToNat]
                    refine ⟨sh361, ?_⟩
                    try simp (disch := omega) only [txH_r, txH_9, txH_10, txH_11, txH_f, txH_o, u2_txH_9, u2_txH_10, u2_txH_11, u2_txH_r, uz_self, Int.add_zero, Int.reduceToNat]
                    first
                      | (exfalso; omega)
                      | exact absurd True.intro (by assumption)
                      | (refine B_X10_takes_107 ?_
                         try dsimp only
                         try simp (disch := omega) only [txH_r, txH_9, txH_10, txH_11, txH_f, txH_o, u2_txH_9, u2_txH_10, u2_txH_11, u2_txH_r, uz_self, Int.add_zero, Int.reduceToNat]
                         first
                           | (exfalso; omega)
                           | exact absurd True.intro (by assumption)
                           | (refine ⟨by first | exact Or.inl rfl | exact Or.inr rfl | exact Or.inl trivial | exact Or.inr trivial | omega, ?_⟩
                              first
                                | exact absurd True.intro (by assumption)
                                | (exfalso; omega)
                                | exact hQ
                                | (have e : tkC (w, d, o, r) v = some ((w + 1) % 3, 0, (if w = 2 then o + 1 else o), r) := by
                                     unfold tkC
                                     rw [if_neg (show ¬ (48 ≤ v ∧ v ≤ 57) by omega), if_pos (show 0 < d ∧ v = sepC w by unfold sepC; split <;> (try split) <;> omega)]
                                   have hQ := hQ.1 _ e
                                   have tm : (w + 1).tmod 3 = (w + 1) % 3 := Int.tmod_eq_emod_of_nonneg (by omega)
                                   rw [tm]
                                   first
                                     | (rw [show (if w = 2 then o + 1 else o) = o + 1 from if_pos (by omega)] at hQ; exact hQ)
                                     | (rw [show (if w = 2 then o + 1 else o) = o from if_neg (by omega)] at hQ; exact hQ))
                                | (have e : tkC (w, d, o, r) v = none := by
                                     unfold tkC
                                     rw [if_neg (show ¬ (48 ≤ v ∧ v ≤ 57) by omega), if_neg (show ¬ (0 < d ∧ v = sepC w) by unfold sepC; split <;> (try split) <;> omega)]
                                   exact hQ.2 e))))
             · first
                 | (exfalso; omega)
                 | exact absurd True.intro (by assumption)
                 | (refine B_X10_takes_86 ?_
                    try dsimp only
                    try simp (disch := omega) only [txH_r, txH_9, txH_10, txH_11, txH_f, txH_o, u2_txH_9, u2_txH_10, u2_txH_11, u2_txH_r, uz_self, Int.add_zero, Int.reduceToNat]
                    refine ⟨by (refine ⟨?_, ?_⟩ <;> omega), ?_⟩
                    refine ⟨sh361, ?_⟩
                    try simp (disch := omega) only [txH_r, txH_9, txH_10, txH_11, txH_f, txH_o, u2_txH_9, u2_txH_10, u2_txH_11, u2_txH_r, uz_self, Int.add_zero, Int.reduceToNat]
                    refine ⟨sh361, ?_⟩
                    refine ⟨by (refine ⟨?_, ?_⟩ <;> omega), ?_⟩
                    refine ⟨⟨by decide, by (refine ⟨?_, ?_⟩ <;> omega)⟩, ?_⟩
                    refine ⟨sh361, ?_⟩
                    try simp (disch := omega) only [txH_r, txH_9, txH_10, txH_11, txH_f, txH_o, u2_txH_9, u2_txH_10, u2_txH_11, u2_txH_r, uz_self, Int.add_zero, Int.reduceToNat]
                    refine ⟨sh361, ?_⟩
                    try simp (disch := omega) only [txH_r, txH_9, txH_10, txH_11, txH_f, txH_o, u2_txH_9, u2_txH_10, u2_txH_11, u2_txH_r, uz_self, Int.add_zero, Int.reduceToNat]
                    first
                      | (exfalso; omega)
                      | exact absurd True.intro (by assumption)
                      | (refine B_X10_takes_107 ?_
                         try dsimp only
                         try simp (disch := omega) only [txH_r, txH_9, txH_10, txH_11, txH_f, txH_o, u2_txH_9, u2_txH_10, u2_txH_11, u2_txH_r, uz_self, Int.add_zero, Int.reduceToNat]
                         first
                           | (exfalso; omega)
                           | exact absurd True.intro (by assumption)
                           | (refine ⟨by first | exact Or.inl rfl | exact Or.inr rfl | exact Or.inl trivial | exact Or.inr trivial | omega, ?_⟩
                              first
                                | exact absurd True.intro (by assumption)
                                | (exfalso; omega)
                                | exact hQ
                                | (have e : tkC (w, d, o, r) v = some ((w + 1) % 3, 0, (if w = 2 then o + 1 else o), r) := by
                                     unfold tkC
                                     rw [if_neg (show ¬ (48 ≤ v ∧ v ≤ 57) by omega), if_pos (show 0 < d ∧ v = sepC w by unfold sepC; split <;> (try split) <;> omega)]
                                   have hQ := hQ.1 _ e
                                   have tm : (w + 1).tmod 3 = (w + 1) % 3 := Int.tmod_eq_emod_of_nonneg (by omega)
                                   rw [tm]
                                   first
                                     | (rw [show (if w = 2 then o + 1 else o) = o + 1 from if_pos (by omega)] at hQ; exact hQ)
                                     | (rw [show (if w = 2 then o + 1 else o) = o from if_neg (by omega)] at hQ; exact hQ))
                                | (have e : tkC (w, d, o, r) v = none := by
                                     unfold tkC
                                     rw [if_neg (show ¬ (48 ≤ v ∧ v ≤ 57) by omega), if_neg (show ¬ (0 < d ∧ v = sepC w) by unfold sepC; split <;> (try split) <;> omega)]
                                   exact hQ.2 e)))))
    · refine ⟨sh361, ?_⟩
      refine ⟨fun c32_2 => ?_, fun c32_2 => ?_⟩
      · refine B_X10_takes_40 ?_
        try dsimp only
        try simp (disch := omega) only [txH_r, txH_9, txH_10, txH_11, txH_f, txH_o, u2_txH_9, u2_txH_10, u2_txH_11, u2_txH_r, uz_self, Int.add_zero, Int.reduceToNat]
        refine ⟨sh361, ?_⟩
        refine ⟨fun c45_3 => ?_, fun c45_3 => ?_⟩
        · refine B_X10_takes_53 ?_
          try dsimp only
          try simp (disch := omega) only [txH_r, txH_9, txH_10, txH_11, txH_f, txH_o, u2_txH_9, u2_txH_10, u2_txH_11, u2_txH_r, uz_self, Int.add_zero, Int.reduceToNat]
          refine B_X10_takes_55 ?_
          try dsimp only
          try simp (disch := omega) only [txH_r, txH_9, txH_10, txH_11, txH_f, txH_o, u2_txH_9, u2_txH_10, u2_txH_11, u2_txH_r, uz_self, Int.add_zero, Int.reduceToNat]
          refine ⟨fun c55_5 => ?_, fun c55_5 => ?_⟩
          · refine B_X10_takes_62 ?_
            try dsimp only
            try simp (disch := omega) only [txH_r, txH_9, txH_10, txH_11, txH_f, txH_o, u2_txH_9, u2_txH_10, u2_txH_11, u2_txH_r, uz_self, Int.add_zero, Int.reduceToNat]
            refine B_X10_takes_63 ?_
            try dsimp only
            try simp (disch := omega) only [txH_r, txH_9, txH_10, txH_11, txH_f, txH_o, u2_txH_9, u2_txH_10, u2_txH_11, u2_txH_r, uz_self, Int.add_zero, Int.reduceToNat]
            refine ⟨fun c65_7 => ?_, fun c65_7 => ?_⟩
            · refine B_X10_takes_107 ?_
              try dsimp only
              try simp (disch := omega) only [txH_r, txH_9, txH_10, txH_11, txH_f, txH_o, u2_txH_9, u2_txH_10, u2_txH_11, u2_txH_r, uz_self, Int.add_zero, Int.reduceToNat]
              first
                | (exfalso; omega)
                | exact absurd True.intro (by assumption)
                | (refine ⟨by first | exact Or.inl rfl | exact Or.inr rfl | exact Or.inl trivial | exact Or.inr trivial | omega, ?_⟩
                   first
                     | exact absurd True.intro (by assumption)
                     | (exfalso; omega)
                     | exact hQ
                     | (have e : tkC (w, d, o, r) v = some ((w + 1) % 3, 0, (if w = 2 then o + 1 else o), r) := by
                          unfold tkC
                          rw [if_neg (show ¬ (48 ≤ v ∧ v ≤ 57) by omega), if_pos (show 0 < d ∧ v = sepC w by unfold sepC; split <;> (try split) <;> omega)]
                        have hQ := hQ.1 _ e
                        have tm : (w + 1).tmod 3 = (w + 1) % 3 := Int.tmod_eq_emod_of_nonneg (by omega)
                        rw [tm]
                        first
                          | (rw [show (if w = 2 then o + 1 else o) = o + 1 from if_pos (by omega)] at hQ; exact hQ)
                          | (rw [show (if w = 2 then o + 1 else o) = o from if_neg (by omega)] at hQ; exact hQ))
                     | (have e : tkC (w, d, o, r) v = none := by
                          unfold tkC
                          rw [if_neg (show ¬ (48 ≤ v ∧ v ≤ 57) by omega), if_neg (show ¬ (0 < d ∧ v = sepC w) by unfold sepC; split <;> (try split) <;> omega)]
                        exact hQ.2 e))
            · first
                | (exfalso; omega)
                | exact absurd True.intro (by assumption)
                | (refine ⟨rfl, ?_⟩
                   refine ⟨sh361, ?_⟩
                   refine ⟨sh361, ?_⟩
                   refine ⟨fun c78_7 => ?_, fun c78_7 => ?_⟩
                   · refine B_X10_takes_85 ?_
                     try dsimp only
                     try simp (disch := omega) only [txH_r, txH_9, txH_10, txH_11, txH_f, txH_o, u2_txH_9, u2_txH_10, u2_txH_11, u2_txH_r, uz_self, Int.add_zero, Int.reduceToNat]
                     first
                       | (exfalso; omega)
                       | exact absurd True.intro (by assumption)
                       | (refine B_X10_takes_86 ?_
                          try dsimp only
                          try simp (disch := omega) only [txH_r, txH_9, txH_10, txH_11, txH_f, txH_o, u2_txH_9, u2_txH_10, u2_txH_11, u2_txH_r, uz_self, Int.add_zero, Int.reduceToNat]
                          refine ⟨by (refine ⟨?_, ?_⟩ <;> omega), ?_⟩
                          refine ⟨sh361, ?_⟩
                          try simp (disch := omega) only [txH_r, txH_9, txH_10, txH_11, txH_f, txH_o, u2_txH_9, u2_txH_10, u2_txH_11, u2_txH_r, uz_self, Int.add_zero, Int.reduceToNat]
                          refine ⟨sh361, ?_⟩
                          refine ⟨by (refine ⟨?_, ?_⟩ <;> omega), ?_⟩
                          refine ⟨⟨by decide, by (refine ⟨?_, ?_⟩ <;> omega)⟩, ?_⟩
                          refine ⟨sh361, ?_⟩
                          try simp (disch := omega) only [txH_r, txH_9, txH_10, txH_11, txH_f, txH_o, u2_txH_9, u2_txH_10, u2_txH_11, u2_txH_r, uz_self, Int.add_zero, Int.reduceToNat]
                          refine ⟨sh361, ?_⟩
                          try simp (disch := omega) only [txH_r, txH_9, txH_10, txH_11, txH_f, txH_o, u2_txH_9, u2_txH_10, u2_txH_11, u2_txH_r, uz_self, Int.add_zero, Int.reduceToNat]
                          first
                            | (exfalso; omega)
                            | exact absurd True.intro (by assumption)
                            | (refine B_X10_takes_107 ?_
                               try dsimp only
                               try simp (disch := omega) only [txH_r, txH_9, txH_10, txH_11, txH_f, txH_o, u2_txH_9, u2_txH_10, u2_txH_11, u2_txH_r, uz_self, Int.add_zero, Int.reduceToNat]
                               first
                                 | (exfalso; omega)
                                 | exact absurd True.intro (by assumption)
                                 | (refine ⟨by first | exact Or.inl rfl | exact Or.inr rfl | exact Or.inl trivial | exact Or.inr trivial | omega, ?_⟩
                                    first
                                      | exact absurd True.intro (by assumption)
                                      | (exfalso; omega)
                                      | exact hQ
                                      | (have e : tkC (w, d, o, r) v = some ((w + 1) % 3, 0, (if w = 2 then o + 1 else o), r) := by
                                           unfold tkC
                                           rw [if_neg (show ¬ (48 ≤ v ∧ v ≤ 57) by omega), if_pos (show 0 < d ∧ v = sepC w by unfold sepC; split <;> (try split) <;> omega)]
                                         have hQ := hQ.1 _ e
                                         have tm : (w + 1).tmod 3 = (w + 1) % 3 := Int.tmod_eq_emod_of_nonneg (by omega)
                                         rw [tm]
                                         first
                                           | (rw [show (if w = 2 then o + 1 else o) = o + 1 from if_pos (by omega)] at hQ; exact hQ)
                                           | (rw [show (if w = 2 then o + 1 else o) = o from if_neg (by omega)] at hQ; exact hQ))
                                      | (have e : tkC (w, d, o, r) v = none := by
                                           unfold tkC
                                           rw [if_neg (show ¬ (48 ≤ v ∧ v ≤ 57) by omega), if_neg (show ¬ (0 < d ∧ v = sepC w) by unfold sepC; split <;> (try split) <;> omega)]
                                         exact hQ.2 e))))
                   · first
                       | (exfalso; omega)
                       | exact absurd True.intro (by assumption)
                       | (refine B_X10_takes_86 ?_
                          try dsimp only
                          try simp (disch := omega) only [txH_r, txH_9, txH_10, txH_11, txH_f, txH_o, u2_txH_9, u2_txH_10, u2_txH_11, u2_txH_r, uz_self, Int.add_zero, Int.reduceToNat]
                          refine ⟨by (refine ⟨?_, ?_⟩ <;> omega), ?_⟩
                          refine ⟨sh361, ?_⟩
                          try simp (disch := omega) only [txH_r, txH_9, txH_10, txH_11, txH_f, txH_o, u2_txH_9, u2_txH_10, u2_txH_11, u2_txH_r, uz_self, Int.add_zero, Int.reduceToNat]
                          refine ⟨sh361, ?_⟩
                          refine ⟨by (refine ⟨?_, ?_⟩ <;> omega), ?_⟩
                          refine ⟨⟨by decide, by (refine ⟨?_, ?_⟩ <;> omega)⟩, ?_⟩
                          refine ⟨sh361, ?_⟩
                          try simp (disch := omega) only [txH_r, txH_9, txH_10, txH_11, txH_f, txH_o, u2_txH_9, u2_txH_10, u2_txH_11, u2_txH_r, uz_self, Int.add_zero, Int.reduceToNat]
                          refine ⟨sh361, ?_⟩
                          try simp (disch := omega) only [txH_r, txH_9, txH_10, txH_11, txH_f, txH_o, u2_txH_9, u2_txH_10, u2_txH_11, u2_txH_r, uz_self, Int.add_zero, Int.reduceToNat]
                          first
                            | (exfalso; omega)
                            | exact absurd True.intro (by assumption)
                            | (refine B_X10_takes_107 ?_
                               try dsimp only
                               try simp (disch := omega) only [txH_r, txH_9, txH_10, txH_11, txH_f, txH_o, u2_txH_9, u2_txH_10, u2_txH_11, u2_txH_r, uz_self, Int.add_zero, Int.reduceToNat]
                               first
                                 | (exfalso; omega)
                                 | exact absurd True.intro (by assumption)
                                 | (refine ⟨by first | exact Or.inl rfl | exact Or.inr rfl | exact Or.inl trivial | exact Or.inr trivial | omega, ?_⟩
                                    first
                                      | exact absurd True.intro (by assumption)
                                      | (exfalso; omega)
                                      | exact hQ
                                      | (have e : tkC (w, d, o, r) v = some ((w + 1) % 3, 0, (if w = 2 then o + 1 else o), r) := by
                                           unfold tkC
                                           rw [if_neg (show ¬ (48 ≤ v ∧ v ≤ 57) by omega), if_pos (show 0 < d ∧ v = sepC w by unfold sepC; split <;> (try split) <;> omega)]
                                         have hQ := hQ.1 _ e
                                         have tm : (w + 1).tmod 3 = (w + 1) % 3 := Int.tmod_eq_emod_of_nonneg (by omega)
                                         rw [tm]
                                         first
                                           | (rw [show (if w = 2 then o + 1 else o) = o + 1 from if_pos (by omega)] at hQ; exact hQ)
                                           | (rw [show (if w = 2 then o + 1 else o) = o from if_neg (by omega)] at hQ; exact hQ))
                                      | (have e : tkC (w, d, o, r) v = none := by
                                           unfold tkC
                                           rw [if_neg (show ¬ (48 ≤ v ∧ v ≤ 57) by omega), if_neg (show ¬ (0 < d ∧ v = sepC w) by unfold sepC; split <;> (try split) <;> omega)]
                                         exact hQ.2 e)))))
          · refine B_X10_takes_63 ?_
            try dsimp only
            try simp (disch := omega) only [txH_r, txH_9, txH_10, txH_11, txH_f, txH_o, u2_txH_9, u2_txH_10, u2_txH_11, u2_txH_r, uz_self, Int.add_zero, Int.reduceToNat]
            refine ⟨fun c65_6 => ?_, fun c65_6 => ?_⟩
            · refine B_X10_takes_107 ?_
              try dsimp only
              try simp (disch := omega) only [txH_r, txH_9, txH_10, txH_11, txH_f, txH_o, u2_txH_9, u2_txH_10, u2_txH_11, u2_txH_r, uz_self, Int.add_zero, Int.reduceToNat]
              first
                | (exfalso; omega)
                | exact absurd True.intro (by assumption)
                | (refine ⟨by first | exact Or.inl rfl | exact Or.inr rfl | exact Or.inl trivial | exact Or.inr trivial | omega, ?_⟩
                   first
                     | exact absurd True.intro (by assumption)
                     | (exfalso; omega)
                     | exact hQ
                     | (have e : tkC (w, d, o, r) v = some ((w + 1) % 3, 0, (if w = 2 then o + 1 else o), r) := by
                          unfold tkC
                          rw [if_neg (show ¬ (48 ≤ v ∧ v ≤ 57) by omega), if_pos (show 0 < d ∧ v = sepC w by unfold sepC; split <;> (try split) <;> omega)]
                        have hQ := hQ.1 _ e
                        have tm : (w + 1).tmod 3 = (w + 1) % 3 := Int.tmod_eq_emod_of_nonneg (by omega)
                        rw [tm]
                        first
                          | (rw [show (if w = 2 then o + 1 else o) = o + 1 from if_pos (by omega)] at hQ; exact hQ)
                          | (rw [show (if w = 2 then o + 1 else o) = o from if_neg (by omega)] at hQ; exact hQ))
                     | (have e : tkC (w, d, o, r) v = none := by
                          unfold tkC
                          rw [if_neg (show ¬ (48 ≤ v ∧ v ≤ 57) by omega), if_neg (show ¬ (0 < d ∧ v = sepC w) by unfold sepC; split <;> (try split) <;> omega)]
                        exact hQ.2 e))
            · first
                | (exfalso; omega)
                | exact absurd True.intro (by assumption)
                | (refine ⟨rfl, ?_⟩
                   refine ⟨sh361, ?_⟩
                   refine ⟨sh361, ?_⟩
                   refine ⟨fun c78_6 => ?_, fun c78_6 => ?_⟩
                   · refine B_X10_takes_85 ?_
                     try dsimp only
                     try simp (disch := omega) only [txH_r, txH_9, txH_10, txH_11, txH_f, txH_o, u2_txH_9, u2_txH_10, u2_txH_11, u2_txH_r, uz_self, Int.add_zero, Int.reduceToNat]
                     first
                       | (exfalso; omega)
                       | exact absurd True.intro (by assumption)
                       | (refine B_X10_takes_86 ?_
                          try dsimp only
                          try simp (disch := omega) only [txH_r, txH_9, txH_10, txH_11, txH_f, txH_o, u2_txH_9, u2_txH_10, u2_txH_11, u2_txH_r, uz_self, Int.add_zero, Int.reduceToNat]
                          refine ⟨by (refine ⟨?_, ?_⟩ <;> omega), ?_⟩
                          refine ⟨sh361, ?_⟩
                          try simp (disch := omega) only [txH_r, txH_9, txH_10, txH_11, txH_f, txH_o, u2_txH_9, u2_txH_10, u2_txH_11, u2_txH_r, uz_self, Int.add_zero, Int.reduceToNat]
                          refine ⟨sh361, ?_⟩
                          refine ⟨by (refine ⟨?_, ?_⟩ <;> omega), ?_⟩
                          refine ⟨⟨by decide, by (refine ⟨?_, ?_⟩ <;> omega)⟩, ?_⟩
                          refine ⟨sh361, ?_⟩
                          try simp (disch := omega) only [txH_r, txH_9, txH_10, txH_11, txH_f, txH_o, u2_txH_9, u2_txH_10, u2_txH_11, u2_txH_r, uz_self, Int.add_zero, Int.reduceToNat]
                          refine ⟨sh361, ?_⟩
                          try simp (disch := omega) only [txH_r, txH_9, txH_10, txH_11, txH_f, txH_o, u2_txH_9, u2_txH_10, u2_txH_11, u2_txH_r, uz_self, Int.add_zero, Int.reduceToNat]
                          first
                            | (exfalso; omega)
                            | exact absurd True.intro (by assumption)
                            | (refine B_X10_takes_107 ?_
                               try dsimp only
                               try simp (disch := omega) only [txH_r, txH_9, txH_10, txH_11, txH_f, txH_o, u2_txH_9, u2_txH_10, u2_txH_11, u2_txH_r, uz_self, Int.add_zero, Int.reduceToNat]
                               first
                                 | (exfalso; omega)
                                 | exact absurd True.intro (by assumption)
                                 | (refine ⟨by first | exact Or.inl rfl | exact Or.inr rfl | exact Or.inl trivial | exact Or.inr trivial | omega, ?_⟩
                                    first
                                      | exact absurd True.intro (by assumption)
                                      | (exfalso; omega)
                                      | exact hQ
                                      | (have e : tkC (w, d, o, r) v = some ((w + 1) % 3, 0, (if w = 2 then o + 1 else o), r) := by
                                           unfold tkC
                                           rw [if_neg (show ¬ (48 ≤ v ∧ v ≤ 57) by omega), if_pos (show 0 < d ∧ v = sepC w by unfold sepC; split <;> (try split) <;> omega)]
                                         have hQ := hQ.1 _ e
                                         have tm : (w + 1).tmod 3 = (w + 1) % 3 := Int.tmod_eq_emod_of_nonneg (by omega)
                                         rw [tm]
                                         first
                                           | (rw [show (if w = 2 then o + 1 else o) = o + 1 from if_pos (by omega)] at hQ; exact hQ)
                                           | (rw [show (if w = 2 then o + 1 else o) = o from if_neg (by omega)] at hQ; exact hQ))
                                      | (have e : tkC (w, d, o, r) v = none := by
                                           unfold tkC
                                           rw [if_neg (show ¬ (48 ≤ v ∧ v ≤ 57) by omega), if_neg (show ¬ (0 < d ∧ v = sepC w) by unfold sepC; split <;> (try split) <;> omega)]
                                         exact hQ.2 e))))
                   · first
                       | (exfalso; omega)
                       | exact absurd True.intro (by assumption)
                       | (refine B_X10_takes_86 ?_
                          try dsimp only
                          try simp (disch := omega) only [txH_r, txH_9, txH_10, txH_11, txH_f, txH_o, u2_txH_9, u2_txH_10, u2_txH_11, u2_txH_r, uz_self, Int.add_zero, Int.reduceToNat]
                          refine ⟨by (refine ⟨?_, ?_⟩ <;> omega), ?_⟩
                          refine ⟨sh361, ?_⟩
                          try simp (disch := omega) only [txH_r, txH_9, txH_10, txH_11, txH_f, txH_o, u2_txH_9, u2_txH_10, u2_txH_11, u2_txH_r, uz_self, Int.add_zero, Int.reduceToNat]
                          refine ⟨sh361, ?_⟩
                          refine ⟨by (refine ⟨?_, ?_⟩ <;> omega), ?_⟩
                          refine ⟨⟨by decide, by (refine ⟨?_, ?_⟩ <;> omega)⟩, ?_⟩
                          refine ⟨sh361, ?_⟩
                          try simp (disch := omega) only [txH_r, txH_9, txH_10, txH_11, txH_f, txH_o, u2_txH_9, u2_txH_10, u2_txH_11, u2_txH_r, uz_self, Int.add_zero, Int.reduceToNat]
                          refine ⟨sh361, ?_⟩
                          try simp (disch := omega) only [txH_r, txH_9, txH_10, txH_11, txH_f, txH_o, u2_txH_9, u2_txH_10, u2_txH_11, u2_txH_r, uz_self, Int.add_zero, Int.reduceToNat]
                          first
                            | (exfalso; omega)
                            | exact absurd True.intro (by assumption)
                            | (refine B_X10_takes_107 ?_
                               try dsimp only
                               try simp (disch := omega) only [txH_r, txH_9, txH_10, txH_11, txH_f, txH_o, u2_txH_9, u2_txH_10, u2_txH_11, u2_txH_r, uz_self, Int.add_zero, Int.reduceToNat]
                               first
                                 | (exfalso; omega)
                                 | exact absurd True.intro (by assumption)
                                 | (refine ⟨by first | exact Or.inl rfl | exact Or.inr rfl | exact Or.inl trivial | exact Or.inr trivial | omega, ?_⟩
                                    first
                                      | exact absurd True.intro (by assumption)
                                      | (exfalso; omega)
                                      | exact hQ
                                      | (have e : tkC (w, d, o, r) v = some ((w + 1) % 3, 0, (if w = 2 then o + 1 else o), r) := by
                                           unfold tkC
                                           rw [if_neg (show ¬ (48 ≤ v ∧ v ≤ 57) by omega), if_pos (show 0 < d ∧ v = sepC w by unfold sepC; split <;> (try split) <;> omega)]
                                         have hQ := hQ.1 _ e
                                         have tm : (w + 1).tmod 3 = (w + 1) % 3 := Int.tmod_eq_emod_of_nonneg (by omega)
                                         rw [tm]
                                         first
                                           | (rw [show (if w = 2 then o + 1 else o) = o + 1 from if_pos (by omega)] at hQ; exact hQ)
                                           | (rw [show (if w = 2 then o + 1 else o) = o from if_neg (by omega)] at hQ; exact hQ))
                                      | (have e : tkC (w, d, o, r) v = none := by
                                           unfold tkC
                                           rw [if_neg (show ¬ (48 ≤ v ∧ v ≤ 57) by omega), if_neg (show ¬ (0 < d ∧ v = sepC w) by unfold sepC; split <;> (try split) <;> omega)]
                                         exact hQ.2 e)))))
        · refine B_X10_takes_55 ?_
          try dsimp only
          try simp (disch := omega) only [txH_r, txH_9, txH_10, txH_11, txH_f, txH_o, u2_txH_9, u2_txH_10, u2_txH_11, u2_txH_r, uz_self, Int.add_zero, Int.reduceToNat]
          refine ⟨fun c55_4 => ?_, fun c55_4 => ?_⟩
          · refine B_X10_takes_62 ?_
            try dsimp only
            try simp (disch := omega) only [txH_r, txH_9, txH_10, txH_11, txH_f, txH_o, u2_txH_9, u2_txH_10, u2_txH_11, u2_txH_r, uz_self, Int.add_zero, Int.reduceToNat]
            refine B_X10_takes_63 ?_
            try dsimp only
            try simp (disch := omega) only [txH_r, txH_9, txH_10, txH_11, txH_f, txH_o, u2_txH_9, u2_txH_10, u2_txH_11, u2_txH_r, uz_self, Int.add_zero, Int.reduceToNat]
            refine ⟨fun c65_6 => ?_, fun c65_6 => ?_⟩
            · refine B_X10_takes_107 ?_
              try dsimp only
              try simp (disch := omega) only [txH_r, txH_9, txH_10, txH_11, txH_f, txH_o, u2_txH_9, u2_txH_10, u2_txH_11, u2_txH_r, uz_self, Int.add_zero, Int.reduceToNat]
              first
                | (exfalso; omega)
                | exact absurd True.intro (by assumption)
                | (refine ⟨by first | exact Or.inl rfl | exact Or.inr rfl | exact Or.inl trivial | exact Or.inr trivial | omega, ?_⟩
                   first
                     | exact absurd True.intro (by assumption)
                     | (exfalso; omega)
                     | exact hQ
                     | (have e : tkC (w, d, o, r) v = some ((w + 1) % 3, 0, (if w = 2 then o + 1 else o), r) := by
                          unfold tkC
                          rw [if_neg (show ¬ (48 ≤ v ∧ v ≤ 57) by omega), if_pos (show 0 < d ∧ v = sepC w by unfold sepC; split <;> (try split) <;> omega)]
                        have hQ := hQ.1 _ e
                        have tm : (w + 1).tmod 3 = (w + 1) % 3 := Int.tmod_eq_emod_of_nonneg (by omega)
                        rw [tm]
                        first
                          | (rw [show (if w = 2 then o + 1 else o) = o + 1 from if_pos (by omega)] at hQ; exact hQ)
                          | (rw [show (if w = 2 then o + 1 else o) = o from if_neg (by omega)] at hQ; exact hQ))
                     | (have e : tkC (w, d, o, r) v = none := by
                          unfold tkC
                          rw [if_neg (show ¬ (48 ≤ v ∧ v ≤ 57) by omega), if_neg (show ¬ (0 < d ∧ v = sepC w) by unfold sepC; split <;> (try split) <;> omega)]
                        exact hQ.2 e))
            · first
                | (exfalso; omega)
                | exact absurd True.intro (by assumption)
                | (refine ⟨rfl, ?_⟩
                   refine ⟨sh361, ?_⟩
                   refine ⟨sh361, ?_⟩
                   refine ⟨fun c78_6 => ?_, fun c78_6 => ?_⟩
                   · refine B_X10_takes_85 ?_
                     try dsimp only
                     try simp (disch := omega) only [txH_r, txH_9, txH_10, txH_11, txH_f, txH_o, u2_txH_9, u2_txH_10, u2_txH_11, u2_txH_r, uz_self, Int.add_zero, Int.reduceToNat]
                     first
                       | (exfalso; omega)
                       | exact absurd True.intro (by assumption)
                       | (refine B_X10_takes_86 ?_
                          try dsimp only
                          try simp (disch := omega) only [txH_r, txH_9, txH_10, txH_11, txH_f, txH_o, u2_txH_9, u2_txH_10, u2_txH_11, u2_txH_r, uz_self, Int.add_zero, Int.reduceToNat]
                          refine ⟨by (refine ⟨?_, ?_⟩ <;> omega), ?_⟩
                          refine ⟨sh361, ?_⟩
                          try simp (disch := omega) only [txH_r, txH_9, txH_10, txH_11, txH_f, txH_o, u2_txH_9, u2_txH_10, u2_txH_11, u2_txH_r, uz_self, Int.add_zero, Int.reduceToNat]
                          refine ⟨sh361, ?_⟩
                          refine ⟨by (refine ⟨?_, ?_⟩ <;> omega), ?_⟩
                          refine ⟨⟨by decide, by (refine ⟨?_, ?_⟩ <;> omega)⟩, ?_⟩
                          refine ⟨sh361, ?_⟩
                          try simp (disch := omega) only [txH_r, txH_9, txH_10, txH_11, txH_f, txH_o, u2_txH_9, u2_txH_10, u2_txH_11, u2_txH_r, uz_self, Int.add_zero, Int.reduceToNat]
                          refine ⟨sh361, ?_⟩
                          try simp (disch := omega) only [txH_r, txH_9, txH_10, txH_11, txH_f, txH_o, u2_txH_9, u2_txH_10, u2_txH_11, u2_txH_r, uz_self, Int.add_zero, Int.reduceToNat]
                          first
                            | (exfalso; omega)
                            | exact absurd True.intro (by assumption)
                            | (refine B_X10_takes_107 ?_
                               try dsimp only
                               try simp (disch := omega) only [txH_r, txH_9, txH_10, txH_11, txH_f, txH_o, u2_txH_9, u2_txH_10, u2_txH_11, u2_txH_r, uz_self, Int.add_zero, Int.reduceToNat]
                               first
                                 | (exfalso; omega)
                                 | exact absurd True.intro (by assumption)
                                 | (refine ⟨by first | exact Or.inl rfl | exact Or.inr rfl | exact Or.inl trivial | exact Or.inr trivial | omega, ?_⟩
                                    first
                                      | exact absurd True.intro (by assumption)
                                      | (exfalso; omega)
                                      | exact hQ
                                      | (have e : tkC (w, d, o, r) v = some ((w + 1) % 3, 0, (if w = 2 then o + 1 else o), r) := by
                                           unfold tkC
                                           rw [if_neg (show ¬ (48 ≤ v ∧ v ≤ 57) by omega), if_pos (show 0 < d ∧ v = sepC w by unfold sepC; split <;> (try split) <;> omega)]
                                         have hQ := hQ.1 _ e
                                         have tm : (w + 1).tmod 3 = (w + 1) % 3 := Int.tmod_eq_emod_of_nonneg (by omega)
                                         rw [tm]
                                         first
                                           | (rw [show (if w = 2 then o + 1 else o) = o + 1 from if_pos (by omega)] at hQ; exact hQ)
                                           | (rw [show (if w = 2 then o + 1 else o) = o from if_neg (by omega)] at hQ; exact hQ))
                                      | (have e : tkC (w, d, o, r) v = none := by
                                           unfold tkC
                                           rw [if_neg (show ¬ (48 ≤ v ∧ v ≤ 57) by omega), if_neg (show ¬ (0 < d ∧ v = sepC w) by unfold sepC; split <;> (try split) <;> omega)]
                                         exact hQ.2 e))))
                   · first
                       | (exfalso; omega)
                       | exact absurd True.intro (by assumption)
                       | (refine B_X10_takes_86 ?_
                          try dsimp only
                          try simp (disch := omega) only [txH_r, txH_9, txH_10, txH_11, txH_f, txH_o, u2_txH_9, u2_txH_10, u2_txH_11, u2_txH_r, uz_self, Int.add_zero, Int.reduceToNat]
                          refine ⟨by (refine ⟨?_, ?_⟩ <;> omega), ?_⟩
                          refine ⟨sh361, ?_⟩
                          try simp (disch := omega) only [txH_r, txH_9, txH_10, txH_11, txH_f, txH_o, u2_txH_9, u2_txH_10, u2_txH_11, u2_txH_r, uz_self, Int.add_zero, Int.reduceToNat]
                          refine ⟨sh361, ?_⟩
                          refine ⟨by (refine ⟨?_, ?_⟩ <;> omega), ?_⟩
                          refine ⟨⟨by decide, by (refine ⟨?_, ?_⟩ <;> omega)⟩, ?_⟩
                          refine ⟨sh361, ?_⟩
                          try simp (disch := omega) only [txH_r, txH_9, txH_10, txH_11, txH_f, txH_o, u2_txH_9, u2_txH_10, u2_txH_11, u2_txH_r, uz_self, Int.add_zero, Int.reduceToNat]
                          refine ⟨sh361, ?_⟩
                          try simp (disch := omega) only [txH_r, txH_9, txH_10, txH_11, txH_f, txH_o, u2_txH_9, u2_txH_10, u2_txH_11, u2_txH_r, uz_self, Int.add_zero, Int.reduceToNat]
                          first
                            | (exfalso; omega)
                            | exact absurd True.intro (by assumption)
                            | (refine B_X10_takes_107 ?_
                               try dsimp only
                               try simp (disch := omega) only [txH_r, txH_9, txH_10, txH_11, txH_f, txH_o, u2_txH_9, u2_txH_10, u2_txH_11, u2_txH_r, uz_self, Int.add_zero, Int.reduceToNat]
                               first
                                 | (exfalso; omega)
                                 | exact absurd True.intro (by assumption)
                                 | (refine ⟨by first | exact Or.inl rfl | exact Or.inr rfl | exact Or.inl trivial | exact Or.inr trivial | omega, ?_⟩
                                    first
                                      | exact absurd True.intro (by assumption)
                                      | (exfalso; omega)
                                      | exact hQ
                                      | (have e : tkC (w, d, o, r) v = some ((w + 1) % 3, 0, (if w = 2 then o + 1 else o), r) := by
                                           unfold tkC
                                           rw [if_neg (show ¬ (48 ≤ v ∧ v ≤ 57) by omega), if_pos (show 0 < d ∧ v = sepC w by unfold sepC; split <;> (try split) <;> omega)]
                                         have hQ := hQ.1 _ e
                                         have tm : (w + 1).tmod 3 = (w + 1) % 3 := Int.tmod_eq_emod_of_nonneg (by omega)
                                         rw [tm]
                                         first
                                           | (rw [show (if w = 2 then o + 1 else o) = o + 1 from if_pos (by omega)] at hQ; exact hQ)
                                           | (rw [show (if w = 2 then o + 1 else o) = o from if_neg (by omega)] at hQ; exact hQ))
                                      | (have e : tkC (w, d, o, r) v = none := by
                                           unfold tkC
                                           rw [if_neg (show ¬ (48 ≤ v ∧ v ≤ 57) by omega), if_neg (show ¬ (0 < d ∧ v = sepC w) by unfold sepC; split <;> (try split) <;> omega)]
                                         exact hQ.2 e)))))
          · refine B_X10_takes_63 ?_
            try dsimp only
            try simp (disch := omega) only [txH_r, txH_9, txH_10, txH_11, txH_f, txH_o, u2_txH_9, u2_txH_10, u2_txH_11, u2_txH_r, uz_self, Int.add_zero, Int.reduceToNat]
            refine ⟨fun c65_5 => ?_, fun c65_5 => ?_⟩
            · refine B_X10_takes_107 ?_
              try dsimp only
              try simp (disch := omega) only [txH_r, txH_9, txH_10, txH_11, txH_f, txH_o, u2_txH_9, u2_txH_10, u2_txH_11, u2_txH_r, uz_self, Int.add_zero, Int.reduceToNat]
              first
                | (exfalso; omega)
                | exact absurd True.intro (by assumption)
                | (refine ⟨by first | exact Or.inl rfl | exact Or.inr rfl | exact Or.inl trivial | exact Or.inr trivial | omega, ?_⟩
                   first
                     | exact absurd True.intro (by assumption)
                     | (exfalso; omega)
                     | exact hQ
                     | (have e : tkC (w, d, o, r) v = some ((w + 1) % 3, 0, (if w = 2 then o + 1 else o), r) := by
                          unfold tkC
                          rw [if_neg (show ¬ (48 ≤ v ∧ v ≤ 57) by omega), if_pos (show 0 < d ∧ v = sepC w by unfold sepC; split <;> (try split) <;> omega)]
                        have hQ := hQ.1 _ e
                        have tm : (w + 1).tmod 3 = (w + 1) % 3 := Int.tmod_eq_emod_of_nonneg (by omega)
                        rw [tm]
                        first
                          | (rw [show (if w = 2 then o + 1 else o) = o + 1 from if_pos (by omega)] at hQ; exact hQ)
                          | (rw [show (if w = 2 then o + 1 else o) = o from if_neg (by omega)] at hQ; exact hQ))
                     | (have e : tkC (w, d, o, r) v = none := by
                          unfold tkC
                          rw [if_neg (show ¬ (48 ≤ v ∧ v ≤ 57) by omega), if_neg (show ¬ (0 < d ∧ v = sepC w) by unfold sepC; split <;> (try split) <;> omega)]
                        exact hQ.2 e))
            · first
                | (exfalso; omega)
                | exact absurd True.intro (by assumption)
                | (refine ⟨rfl, ?_⟩
                   refine ⟨sh361, ?_⟩
                   refine ⟨sh361, ?_⟩
                   refine ⟨fun c78_5 => ?_, fun c78_5 => ?_⟩
                   · refine B_X10_takes_85 ?_
                     try dsimp only
                     try simp (disch := omega) only [txH_r, txH_9, txH_10, txH_11, txH_f, txH_o, u2_txH_9, u2_txH_10, u2_txH_11, u2_txH_r, uz_self, Int.add_zero, Int.reduceToNat]
                     first
                       | (exfalso; omega)
                       | exact absurd True.intro (by assumption)
                       | (refine B_X10_takes_86 ?_
                          try dsimp only
                          try simp (disch := omega) only [txH_r, txH_9, txH_10, txH_11, txH_f, txH_o, u2_txH_9, u2_txH_10, u2_txH_11, u2_txH_r, uz_self, Int.add_zero, Int.reduceToNat]
                          refine ⟨by (refine ⟨?_, ?_⟩ <;> omega), ?_⟩
                          refine ⟨sh361, ?_⟩
                          try simp (disch := omega) only [txH_r, txH_9, txH_10, txH_11, txH_f, txH_o, u2_txH_9, u2_txH_10, u2_txH_11, u2_txH_r, uz_self, Int.add_zero, Int.reduceToNat]
                          refine ⟨sh361, ?_⟩
                          refine ⟨by (refine ⟨?_, ?_⟩ <;> omega), ?_⟩
                          refine ⟨⟨by decide, by (refine ⟨?_, ?_⟩ <;> omega)⟩, ?_⟩
                          refine ⟨sh361, ?_⟩
                          try simp (disch := omega) only [txH_r, txH_9, txH_10, txH_11, txH_f, txH_o, u2_txH_9, u2_txH_10, u2_txH_11, u2_txH_r, uz_self, Int.add_zero, Int.reduceToNat]
                          refine ⟨sh361, ?_⟩
                          try simp (disch := omega) only [txH_r, txH_9, txH_10, txH_11, txH_f, txH_o, u2_txH_9, u2_txH_10, u2_txH_11, u2_txH_r, uz_self, Int.add_zero, Int.reduceToNat]
                          first
                            | (exfalso; omega)
                            | exact absurd True.intro (by assumption)
                            | (refine B_X10_takes_107 ?_
                               try dsimp only
                               try simp (disch := omega) only [txH_r, txH_9, txH_10, txH_11, txH_f, txH_o, u2_txH_9, u2_txH_10, u2_txH_11, u2_txH_r, uz_self, Int.add_zero, Int.reduceToNat]
                               first
                                 | (exfalso; omega)
                                 | exact absurd True.intro (by assumption)
                                 | (refine ⟨by first | exact Or.inl rfl | exact Or.inr rfl | exact Or.inl trivial | exact Or.inr trivial | omega, ?_⟩
                                    first
                                      | exact absurd True.intro (by assumption)
                                      | (exfalso; omega)
                                      | exact hQ
                                      | (have e : tkC (w, d, o, r) v = some ((w + 1) % 3, 0, (if w = 2 then o + 1 else o), r) := by
                                           unfold tkC
                                           rw [if_neg (show ¬ (48 ≤ v ∧ v ≤ 57) by omega), if_pos (show 0 < d ∧ v = sepC w by unfold sepC; split <;> (try split) <;> omega)]
                                         have hQ := hQ.1 _ e
                                         have tm : (w + 1).tmod 3 = (w + 1) % 3 := Int.tmod_eq_emod_of_nonneg (by omega)
                                         rw [tm]
                                         first
                                           | (rw [show (if w = 2 then o + 1 else o) = o + 1 from if_pos (by omega)] at hQ; exact hQ)
                                           | (rw [show (if w = 2 then o + 1 else o) = o from if_neg (by omega)] at hQ; exact hQ))
                                      | (have e : tkC (w, d, o, r) v = none := by
                                           unfold tkC
                                           rw [if_neg (show ¬ (48 ≤ v ∧ v ≤ 57) by omega), if_neg (show ¬ (0 < d ∧ v = sepC w) by unfold sepC; split <;> (try split) <;> omega)]
                                         exact hQ.2 e))))
                   · first
                       | (exfalso; omega)
                       | exact absurd True.intro (by assumption)
                       | (refine B_X10_takes_86 ?_
                          try dsimp only
                          try simp (disch := omega) only [txH_r, txH_9, txH_10, txH_11, txH_f, txH_o, u2_txH_9, u2_txH_10, u2_txH_11, u2_txH_r, uz_self, Int.add_zero, Int.reduceToNat]
                          refine ⟨by (refine ⟨?_, ?_⟩ <;> omega), ?_⟩
                          refine ⟨sh361, ?_⟩
                          try simp (disch := omega) only [txH_r, txH_9, txH_10, txH_11, txH_f, txH_o, u2_txH_9, u2_txH_10, u2_txH_11, u2_txH_r, uz_self, Int.add_zero, Int.reduceToNat]
                          refine ⟨sh361, ?_⟩
                          refine ⟨by (refine ⟨?_, ?_⟩ <;> omega), ?_⟩
                          refine ⟨⟨by decide, by (refine ⟨?_, ?_⟩ <;> omega)⟩, ?_⟩
                          refine ⟨sh361, ?_⟩
                          try simp (disch := omega) only [txH_r, txH_9, txH_10, txH_11, txH_f, txH_o, u2_txH_9, u2_txH_10, u2_txH_11, u2_txH_r, uz_self, Int.add_zero, Int.reduceToNat]
                          refine ⟨sh361, ?_⟩
                          try simp (disch := omega) only [txH_r, txH_9, txH_10, txH_11, txH_f, txH_o, u2_txH_9, u2_txH_10, u2_txH_11, u2_txH_r, uz_self, Int.add_zero, Int.reduceToNat]
                          first
                            | (exfalso; omega)
                            | exact absurd True.intro (by assumption)
                            | (refine B_X10_takes_107 ?_
                               try dsimp only
                               try simp (disch := omega) only [txH_r, txH_9, txH_10, txH_11, txH_f, txH_o, u2_txH_9, u2_txH_10, u2_txH_11, u2_txH_r, uz_self, Int.add_zero, Int.reduceToNat]
                               first
                                 | (exfalso; omega)
                                 | exact absurd True.intro (by assumption)
                                 | (refine ⟨by first | exact Or.inl rfl | exact Or.inr rfl | exact Or.inl trivial | exact Or.inr trivial | omega, ?_⟩
                                    first
                                      | exact absurd True.intro (by assumption)
                                      | (exfalso; omega)
                                      | exact hQ
                                      | (have e : tkC (w, d, o, r) v = some ((w + 1) % 3, 0, (if w = 2 then o + 1 else o), r) := by
                                           unfold tkC
                                           rw [if_neg (show ¬ (48 ≤ v ∧ v ≤ 57) by omega), if_pos (show 0 < d ∧ v = sepC w by unfold sepC; split <;> (try split) <;> omega)]
                                         have hQ := hQ.1 _ e
                                         have tm : (w + 1).tmod 3 = (w + 1) % 3 := Int.tmod_eq_emod_of_nonneg (by omega)
                                         rw [tm]
                                         first
                                           | (rw [show (if w = 2 then o + 1 else o) = o + 1 from if_pos (by omega)] at hQ; exact hQ)
                                           | (rw [show (if w = 2 then o + 1 else o) = o from if_neg (by omega)] at hQ; exact hQ))
                                      | (have e : tkC (w, d, o, r) v = none := by
                                           unfold tkC
                                           rw [if_neg (show ¬ (48 ≤ v ∧ v ≤ 57) by omega), if_neg (show ¬ (0 < d ∧ v = sepC w) by unfold sepC; split <;> (try split) <;> omega)]
                                         exact hQ.2 e)))))
      · refine B_X10_takes_55 ?_
        try dsimp only
        try simp (disch := omega) only [txH_r, txH_9, txH_10, txH_11, txH_f, txH_o, u2_txH_9, u2_txH_10, u2_txH_11, u2_txH_r, uz_self, Int.add_zero, Int.reduceToNat]
        refine ⟨fun c55_3 => ?_, fun c55_3 => ?_⟩
        · refine B_X10_takes_62 ?_
          try dsimp only
          try simp (disch := omega) only [txH_r, txH_9, txH_10, txH_11, txH_f, txH_o, u2_txH_9, u2_txH_10, u2_txH_11, u2_txH_r, uz_self, Int.add_zero, Int.reduceToNat]
          refine B_X10_takes_63 ?_
          try dsimp only
          try simp (disch := omega) only [txH_r, txH_9, txH_10, txH_11, txH_f, txH_o, u2_txH_9, u2_txH_10, u2_txH_11, u2_txH_r, uz_self, Int.add_zero, Int.reduceToNat]
          refine ⟨fun c65_5 => ?_, fun c65_5 => ?_⟩
          · refine B_X10_takes_107 ?_
            try dsimp only
            try simp (disch := omega) only [txH_r, txH_9, txH_10, txH_11, txH_f, txH_o, u2_txH_9, u2_txH_10, u2_txH_11, u2_txH_r, uz_self, Int.add_zero, Int.reduceToNat]
            first
              | (exfalso; omega)
              | exact absurd True.intro (by assumption)
              | (refine ⟨by first | exact Or.inl rfl | exact Or.inr rfl | exact Or.inl trivial | exact Or.inr trivial | omega, ?_⟩
                 first
                   | exact absurd True.intro (by assumption)
                   | (exfalso; omega)
                   | exact hQ
                   | (have e : tkC (w, d, o, r) v = some ((w + 1) % 3, 0, (if w = 2 then o + 1 else o), r) := by
                        unfold tkC
                        rw [if_neg (show ¬ (48 ≤ v ∧ v ≤ 57) by omega), if_pos (show 0 < d ∧ v = sepC w by unfold sepC; split <;> (try split) <;> omega)]
                      have hQ := hQ.1 _ e
                      have tm : (w + 1).tmod 3 = (w + 1) % 3 := Int.tmod_eq_emod_of_nonneg (by omega)
                      rw [tm]
                      first
                        | (rw [show (if w = 2 then o + 1 else o) = o + 1 from if_pos (by omega)] at hQ; exact hQ)
                        | (rw [show (if w = 2 then o + 1 else o) = o from if_neg (by omega)] at hQ; exact hQ))
                   | (have e : tkC (w, d, o, r) v = none := by
                        unfold tkC
                        rw [if_neg (show ¬ (48 ≤ v ∧ v ≤ 57) by omega), if_neg (show ¬ (0 < d ∧ v = sepC w) by unfold sepC; split <;> (try split) <;> omega)]
                      exact hQ.2 e))
          · first
              | (exfalso; omega)
              | exact absurd True.intro (by assumption)
              | (refine ⟨rfl, ?_⟩
                 refine ⟨sh361, ?_⟩
                 refine ⟨sh361, ?_⟩
                 refine ⟨fun c78_5 => ?_, fun c78_5 => ?_⟩
                 · refine B_X10_takes_85 ?_
                   try dsimp only
                   try simp (disch := omega) only [txH_r, txH_9, txH_10, txH_11, txH_f, txH_o, u2_txH_9, u2_txH_10, u2_txH_11, u2_txH_r, uz_self, Int.add_zero, Int.reduceToNat]
                   first
                     | (exfalso; omega)
                     | exact absurd True.intro (by assumption)
                     | (refine B_X10_takes_86 ?_
                        try dsimp only
                        try simp (disch := omega) only [txH_r, txH_9, txH_10, txH_11, txH_f, txH_o, u2_txH_9, u2_txH_10, u2_txH_11, u2_txH_r, uz_self, Int.add_zero, Int.reduceToNat]
                        refine ⟨by (refine ⟨?_, ?_⟩ <;> omega), ?_⟩
                        refine ⟨sh361, ?_⟩
                        try simp (disch := omega) only [txH_r, txH_9, txH_10, txH_11, txH_f, txH_o, u2_txH_9, u2_txH_10, u2_txH_11, u2_txH_r, uz_self, Int.add_zero, Int.reduceToNat]
                        refine ⟨sh361, ?_⟩
                        refine ⟨by (refine ⟨?_, ?_⟩ <;> omega), ?_⟩
                        refine ⟨⟨by decide, by (refine ⟨?_, ?_⟩ <;> omega)⟩, ?_⟩
                        refine ⟨sh361, ?_⟩
                        try simp (disch := omega) only [txH_r, txH_9, txH_10, txH_11, txH_f, txH_o, u2_txH_9, u2_txH_10, u2_txH_11, u2_txH_r, uz_self, Int.add_zero, Int.reduceToNat]
                        refine ⟨sh361, ?_⟩
                        try simp (disch := omega) only [txH_r, txH_9, txH_10, txH_11, txH_f, txH_o, u2_txH_9, u2_txH_10, u2_txH_11, u2_txH_r, uz_self, Int.add_zero, Int.reduceToNat]
                        first
                          | (exfalso; omega)
                          | exact absurd True.intro (by assumption)
                          | (refine B_X10_takes_107 ?_
                             try dsimp only
                             try simp (disch := omega) only [txH_r, txH_9, txH_10, txH_11, txH_f, txH_o, u2_txH_9, u2_txH_10, u2_txH_11, u2_txH_r, uz_self, Int.add_zero, Int.reduceToNat]
                             first
                               | (exfalso; omega)
                               | exact absurd True.intro (by assumption)
                               | (refine ⟨by first | exact Or.inl rfl | exact Or.inr rfl | exact Or.inl trivial | exact Or.inr trivial | omega, ?_⟩
                                  first
                                    | exact absurd True.intro (by assumption)
                                    | (exfalso; omega)
                                    | exact hQ
                                    | (have e : tkC (w, d, o, r) v = some ((w + 1) % 3, 0, (if w = 2 then o + 1 else o), r) := by
                                         unfold tkC
                                         rw [if_neg (show ¬ (48 ≤ v ∧ v ≤ 57) by omega), if_pos (show 0 < d ∧ v = sepC w by unfold sepC; split <;> (try split) <;> omega)]
                                       have hQ := hQ.1 _ e
                                       have tm : (w + 1).tmod 3 = (w + 1) % 3 := Int.tmod_eq_emod_of_nonneg (by omega)
                                       rw [tm]
                                       first
                                         | (rw [show (if w = 2 then o + 1 else o) = o + 1 from if_pos (by omega)] at hQ; exact hQ)
                                         | (rw [show (if w = 2 then o + 1 else o) = o from if_neg (by omega)] at hQ; exact hQ))
                                    | (have e : tkC (w, d, o, r) v = none := by
                                         unfold tkC
                                         rw [if_neg (show ¬ (48 ≤ v ∧ v ≤ 57) by omega), if_neg (show ¬ (0 < d ∧ v = sepC w) by unfold sepC; split <;> (try split) <;> omega)]
                                       exact hQ.2 e))))
                 · first
                     | (exfalso; omega)
                     | exact absurd True.intro (by assumption)
                     | (refine B_X10_takes_86 ?_
                        try dsimp only
                        try simp (disch := omega) only [txH_r, txH_9, txH_10, txH_11, txH_f, txH_o, u2_txH_9, u2_txH_10, u2_txH_11, u2_txH_r, uz_self, Int.add_zero, Int.reduceToNat]
                        refine ⟨by (refine ⟨?_, ?_⟩ <;> omega), ?_⟩
                        refine ⟨sh361, ?_⟩
                        try simp (disch := omega) only [txH_r, txH_9, txH_10, txH_11, txH_f, txH_o, u2_txH_9, u2_txH_10, u2_txH_11, u2_txH_r, uz_self, Int.add_zero, Int.reduceToNat]
                        refine ⟨sh361, ?_⟩
                        refine ⟨by (refine ⟨?_, ?_⟩ <;> omega), ?_⟩
                        refine ⟨⟨by decide, by (refine ⟨?_, ?_⟩ <;> omega)⟩, ?_⟩
                        refine ⟨sh361, ?_⟩
                        try simp (disch := omega) only [txH_r, txH_9, txH_10, txH_11, txH_f, txH_o, u2_txH_9, u2_txH_10, u2_txH_11, u2_txH_r, uz_self, Int.add_zero, Int.reduceToNat]
                        refine ⟨sh361, ?_⟩
                        try simp (disch := omega) only [txH_r, txH_9, txH_10, txH_11, txH_f, txH_o, u2_txH_9, u2_txH_10, u2_txH_11, u2_txH_r, uz_self, Int.add_zero, Int.reduceToNat]
                        first
                          | (exfalso; omega)
                          | exact absurd True.intro (by assumption)
                          | (refine B_X10_takes_107 ?_
                             try dsimp only
                             try simp (disch := omega) only [txH_r, txH_9, txH_10, txH_11, txH_f, txH_o, u2_txH_9, u2_txH_10, u2_txH_11, u2_txH_r, uz_self, Int.add_zero, Int.reduceToNat]
                             first
                               | (exfalso; omega)
                               | exact absurd True.intro (by assumption)
                               | (refine ⟨by first | exact Or.inl rfl | exact Or.inr rfl | exact Or.inl trivial | exact Or.inr trivial | omega, ?_⟩
                                  first
                                    | exact absurd True.intro (by assumption)
                                    | (exfalso; omega)
                                    | exact hQ
                                    | (have e : tkC (w, d, o, r) v = some ((w + 1) % 3, 0, (if w = 2 then o + 1 else o), r) := by
                                         unfold tkC
                                         rw [if_neg (show ¬ (48 ≤ v ∧ v ≤ 57) by omega), if_pos (show 0 < d ∧ v = sepC w by unfold sepC; split <;> (try split) <;> omega)]
                                       have hQ := hQ.1 _ e
                                       have tm : (w + 1).tmod 3 = (w + 1) % 3 := Int.tmod_eq_emod_of_nonneg (by omega)
                                       rw [tm]
                                       first
                                         | (rw [show (if w = 2 then o + 1 else o) = o + 1 from if_pos (by omega)] at hQ; exact hQ)
                                         | (rw [show (if w = 2 then o + 1 else o) = o from if_neg (by omega)] at hQ; exact hQ))
                                    | (have e : tkC (w, d, o, r) v = none := by
                                         unfold tkC
                                         rw [if_neg (show ¬ (48 ≤ v ∧ v ≤ 57) by omega), if_neg (show ¬ (0 < d ∧ v = sepC w) by unfold sepC; split <;> (try split) <;> omega)]
                                       exact hQ.2 e)))))
        · refine B_X10_takes_63 ?_
          try dsimp only
          try simp (disch := omega) only [txH_r, txH_9, txH_10, txH_11, txH_f, txH_o, u2_txH_9, u2_txH_10, u2_txH_11, u2_txH_r, uz_self, Int.add_zero, Int.reduceToNat]
          refine ⟨fun c65_4 => ?_, fun c65_4 => ?_⟩
          · refine B_X10_takes_107 ?_
            try dsimp only
            try simp (disch := omega) only [txH_r, txH_9, txH_10, txH_11, txH_f, txH_o, u2_txH_9, u2_txH_10, u2_txH_11, u2_txH_r, uz_self, Int.add_zero, Int.reduceToNat]
            first
              | (exfalso; omega)
              | exact absurd True.intro (by assumption)
              | (refine ⟨by first | exact Or.inl rfl | exact Or.inr rfl | exact Or.inl trivial | exact Or.inr trivial | omega, ?_⟩
                 first
                   | exact absurd True.intro (by assumption)
                   | (exfalso; omega)
                   | exact hQ
                   | (have e : tkC (w, d, o, r) v = some ((w + 1) % 3, 0, (if w = 2 then o + 1 else o), r) := by
                        unfold tkC
                        rw [if_neg (show ¬ (48 ≤ v ∧ v ≤ 57) by omega), if_pos (show 0 < d ∧ v = sepC w by unfold sepC; split <;> (try split) <;> omega)]
                      have hQ := hQ.1 _ e
                      have tm : (w + 1).tmod 3 = (w + 1) % 3 := Int.tmod_eq_emod_of_nonneg (by omega)
                      rw [tm]
                      first
                        | (rw [show (if w = 2 then o + 1 else o) = o + 1 from if_pos (by omega)] at hQ; exact hQ)
                        | (rw [show (if w = 2 then o + 1 else o) = o from if_neg (by omega)] at hQ; exact hQ))
                   | (have e : tkC (w, d, o, r) v = none := by
                        unfold tkC
                        rw [if_neg (show ¬ (48 ≤ v ∧ v ≤ 57) by omega), if_neg (show ¬ (0 < d ∧ v = sepC w) by unfold sepC; split <;> (try split) <;> omega)]
                      exact hQ.2 e))
          · first
              | (exfalso; omega)
              | exact absurd True.intro (by assumption)
              | (refine ⟨rfl, ?_⟩
                 refine ⟨sh361, ?_⟩
                 refine ⟨sh361, ?_⟩
                 refine ⟨fun c78_4 => ?_, fun c78_4 => ?_⟩
                 · refine B_X10_takes_85 ?_
                   try dsimp only
                   try simp (disch := omega) only [txH_r, txH_9, txH_10, txH_11, txH_f, txH_o, u2_txH_9, u2_txH_10, u2_txH_11, u2_txH_r, uz_self, Int.add_zero, Int.reduceToNat]
                   first
                     | (exfalso; omega)
                     | exact absurd True.intro (by assumption)
                     | (refine B_X10_takes_86 ?_
                        try dsimp only
                        try simp (disch := omega) only [txH_r, txH_9, txH_10, txH_11, txH_f, txH_o, u2_txH_9, u2_txH_10, u2_txH_11, u2_txH_r, uz_self, Int.add_zero, Int.reduceToNat]
                        refine ⟨by (refine ⟨?_, ?_⟩ <;> omega), ?_⟩
                        refine ⟨sh361, ?_⟩
                        try simp (disch := omega) only [txH_r, txH_9, txH_10, txH_11, txH_f, txH_o, u2_txH_9, u2_txH_10, u2_txH_11, u2_txH_r, uz_self, Int.add_zero, Int.reduceToNat]
                        refine ⟨sh361, ?_⟩
                        refine ⟨by (refine ⟨?_, ?_⟩ <;> omega), ?_⟩
                        refine ⟨⟨by decide, by (refine ⟨?_, ?_⟩ <;> omega)⟩, ?_⟩
                        refine ⟨sh361, ?_⟩
                        try simp (disch := omega) only [txH_r, txH_9, txH_10, txH_11, txH_f, txH_o, u2_txH_9, u2_txH_10, u2_txH_11, u2_txH_r, uz_self, Int.add_zero, Int.reduceToNat]
                        refine ⟨sh361, ?_⟩
                        try simp (disch := omega) only [txH_r, txH_9, txH_10, txH_11, txH_f, txH_o, u2_txH_9, u2_txH_10, u2_txH_11, u2_txH_r, uz_self, Int.add_zero, Int.reduceToNat]
                        first
                          | (exfalso; omega)
                          | exact absurd True.intro (by assumption)
                          | (refine B_X10_takes_107 ?_
                             try dsimp only
                             try simp (disch := omega) only [txH_r, txH_9, txH_10, txH_11, txH_f, txH_o, u2_txH_9, u2_txH_10, u2_txH_11, u2_txH_r, uz_self, Int.add_zero, Int.reduceToNat]
                             first
                               | (exfalso; omega)
                               | exact absurd True.intro (by assumption)
                               | (refine ⟨by first | exact Or.inl rfl | exact Or.inr rfl | exact Or.inl trivial | exact Or.inr trivial | omega, ?_⟩
                                  first
                                    | exact absurd True.intro (by assumption)
                                    | (exfalso; omega)
                                    | exact hQ
                                    | (have e : tkC (w, d, o, r) v = some ((w + 1) % 3, 0, (if w = 2 then o + 1 else o), r) := by
                                         unfold tkC
                                         rw [if_neg (show ¬ (48 ≤ v ∧ v ≤ 57) by omega), if_pos (show 0 < d ∧ v = sepC w by unfold sepC; split <;> (try split) <;> omega)]
                                       have hQ := hQ.1 _ e
                                       have tm : (w + 1).tmod 3 = (w + 1) % 3 := Int.tmod_eq_emod_of_nonneg (by omega)
                                       rw [tm]
                                       first
                                         | (rw [show (if w = 2 then o + 1 else o) = o + 1 from if_pos (by omega)] at hQ; exact hQ)
                                         | (rw [show (if w = 2 then o + 1 else o) = o from if_neg (by omega)] at hQ; exact hQ))
                                    | (have e : tkC (w, d, o, r) v = none := by
                                         unfold tkC
                                         rw [if_neg (show ¬ (48 ≤ v ∧ v ≤ 57) by omega), if_neg (show ¬ (0 < d ∧ v = sepC w) by unfold sepC; split <;> (try split) <;> omega)]
                                       exact hQ.2 e))))
                 · first
                     | (exfalso; omega)
                     | exact absurd True.intro (by assumption)
                     | (refine B_X10_takes_86 ?_
                        try dsimp only
                        try simp (disch := omega) only [txH_r, txH_9, txH_10, txH_11, txH_f, txH_o, u2_txH_9, u2_txH_10, u2_txH_11, u2_txH_r, uz_self, Int.add_zero, Int.reduceToNat]
                        refine ⟨by (refine ⟨?_, ?_⟩ <;> omega), ?_⟩
                        refine ⟨sh361, ?_⟩
                        try simp (disch := omega) only [txH_r, txH_9, txH_10, txH_11, txH_f, txH_o, u2_txH_9, u2_txH_10, u2_txH_11, u2_txH_r, uz_self, Int.add_zero, Int.reduceToNat]
                        refine ⟨sh361, ?_⟩
                        refine ⟨by (refine ⟨?_, ?_⟩ <;> omega), ?_⟩
                        refine ⟨⟨by decide, by (refine ⟨?_, ?_⟩ <;> omega)⟩, ?_⟩
                        refine ⟨sh361, ?_⟩
                        try simp (disch := omega) only [txH_r, txH_9, txH_10, txH_11, txH_f, txH_o, u2_txH_9, u2_txH_10, u2_txH_11, u2_txH_r, uz_self, Int.add_zero, Int.reduceToNat]
                        refine ⟨sh361, ?_⟩
                        try simp (disch := omega) only [txH_r, txH_9, txH_10, txH_11, txH_f, txH_o, u2_txH_9, u2_txH_10, u2_txH_11, u2_txH_r, uz_self, Int.add_zero, Int.reduceToNat]
                        first
                          | (exfalso; omega)
                          | exact absurd True.intro (by assumption)
                          | (refine B_X10_takes_107 ?_
                             try dsimp only
                             try simp (disch := omega) only [txH_r, txH_9, txH_10, txH_11, txH_f, txH_o, u2_txH_9, u2_txH_10, u2_txH_11, u2_txH_r, uz_self, Int.add_zero, Int.reduceToNat]
                             first
                               | (exfalso; omega)
                               | exact absurd True.intro (by assumption)
                               | (refine ⟨by first | exact Or.inl rfl | exact Or.inr rfl | exact Or.inl trivial | exact Or.inr trivial | omega, ?_⟩
                                  first
                                    | exact absurd True.intro (by assumption)
                                    | (exfalso; omega)
                                    | exact hQ
                                    | (have e : tkC (w, d, o, r) v = some ((w + 1) % 3, 0, (if w = 2 then o + 1 else o), r) := by
                                         unfold tkC
                                         rw [if_neg (show ¬ (48 ≤ v ∧ v ≤ 57) by omega), if_pos (show 0 < d ∧ v = sepC w by unfold sepC; split <;> (try split) <;> omega)]
                                       have hQ := hQ.1 _ e
                                       have tm : (w + 1).tmod 3 = (w + 1) % 3 := Int.tmod_eq_emod_of_nonneg (by omega)
                                       rw [tm]
                                       first
                                         | (rw [show (if w = 2 then o + 1 else o) = o + 1 from if_pos (by omega)] at hQ; exact hQ)
                                         | (rw [show (if w = 2 then o + 1 else o) = o from if_neg (by omega)] at hQ; exact hQ))
                                    | (have e : tkC (w, d, o, r) v = none := by
                                         unfold tkC
                                         rw [if_neg (show ¬ (48 ≤ v ∧ v ≤ 57) by omega), if_neg (show ¬ (0 < d ∧ v = sepC w) by unfold sepC; split <;> (try split) <;> omega)]
                                       exact hQ.2 e)))))
  · refine ⟨by (refine ⟨?_, ?_⟩ <;> omega), ?_⟩
    refine ⟨⟨Nat.zero_le _, Nat.zero_le _, Nat.le_of_ble_eq_true rfl⟩, sh361, ?_⟩
    refine C_takesDigit hG hR hk hp (g := v - 48) (by omega) ⟨fun hok => ?_, fun hok => ?_⟩
    · have e : tkC (w, d, o, r) v = some (w, d + 1, o, uz r (3 * o + w).toNat (nxD d (r (3 * o + w).toNat) (v - 48))) := by
        unfold tkC
        rw [if_pos (show 48 ≤ v ∧ v ≤ 57 by omega)]
        exact if_pos hok
      have hQ := hQ.1 _ e
      refine af_I0 rfl rfl (by decide) ?_
      try dsimp only
      refine B_X10_takes_19 ?_
      try dsimp only
      refine ⟨by decide, ?_⟩
      exact hQ
    have e : tkC (w, d, o, r) v = none := by
      unfold tkC
      rw [if_pos (show 48 ≤ v ∧ v ≤ 57 by omega)]
      exact if_neg (by rw [hok]; decide)
    have hQ := hQ.2 e
    refine af_I0 rfl rfl (by decide) ?_
    try dsimp only
    try simp (disch := omega) only [txH_r, txH_9, txH_10, txH_11, txH_f, txH_o, u2_txH_9, u2_txH_10, u2_txH_11, u2_txH_r, uz_self, Int.add_zero, Int.reduceToNat]
    refine B_X10_takes_19 ?_
    try dsimp only
    try simp (disch := omega) only [txH_r, txH_9, txH_10, txH_11, txH_f, txH_o, u2_txH_9, u2_txH_10, u2_txH_11, u2_txH_r, uz_self, Int.add_zero, Int.reduceToNat]
    refine ⟨by first | exact Or.inl rfl | exact Or.inr rfl | exact Or.inl trivial | exact Or.inr trivial | omega, ?_⟩
    first
      | exact absurd True.intro (by assumption)
      | (exfalso; omega)
      | exact hQ
      | (have e : tkC (w, d, o, r) v = some ((w + 1) % 3, 0, (if w = 2 then o + 1 else o), r) := by
           unfold tkC
           rw [if_neg (show ¬ (48 ≤ v ∧ v ≤ 57) by omega), if_pos (show 0 < d ∧ v = sepC w by unfold sepC; split <;> (try split) <;> omega)]
         have hQ := hQ.1 _ e
         have tm : (w + 1).tmod 3 = (w + 1) % 3 := Int.tmod_eq_emod_of_nonneg (by omega)
         rw [tm]
         first
           | (rw [show (if w = 2 then o + 1 else o) = o + 1 from if_pos (by omega)] at hQ; exact hQ)
           | (rw [show (if w = 2 then o + 1 else o) = o from if_neg (by omega)] at hQ; exact hQ))
      | (have e : tkC (w, d, o, r) v = none := by
           unfold tkC
           rw [if_neg (show ¬ (48 ≤ v ∧ v ≤ 57) by omega), if_neg (show ¬ (0 < d ∧ v = sepC w) by unfold sepC; split <;> (try split) <;> omega)]
         exact hQ.2 e)
theorem L_readText {G : amG} {I : Nat → Nat → Int} {R : Nat → Nat → Option Nat} {L : Nat → Nat → Int64} {x : Nat} {Q : amR → amH → Prop} (hG : amG0 G) (hR : RM R) (hl : 0 ≤ I 361 4 ∧ I 361 4 ≤ 60) (ht : ∀ k : Nat, k < 60 → 0 ≤ I 364 k ∧ I 364 k ≤ 1000) {r0 : Row} (hQ : ∀ (k : Nat) (s : TS), (k : Int) ≤ I 361 4 → pS (I 364) r0 k = some s → ((k : Int) = I 361 4 ∨ pS (I 364) r0 (k + 1) = none) → Q (Sum.inl (some (aI k))) (txH I s.1 s.2.1 s.2.2.1 s.2.2.2, R, L, SH, x, 0, 0)) :
    ∀ (n : Nat) (j : Int) (w d o : Int) (r : Row), (0 ≤ j ∧ j ≤ I 361 4 ∧ I 361 4 - j < n) → pS (I 364) r0 j.toNat = some (w, d, o, r) → X G mX10_readText Q 17 [some (aR (some 361)), some (aI j)] [] (txH I w d o r, R, L, SH, x, 0, 0) := by
  intro n
  induction n with
  | zero =>
    intros
    exfalso; omega
  | succ n ih =>
    intro j w d o r h1 hs
    have hp := pS_inv _ _ hs
    have hn := pS_s (I 364) r0 j.toNat
    rw [hs] at hn
    have hn : pS (I 364) r0 (j.toNat + 1) = tkC (w, d, o, r) (I 364 j.toNat) := hn
    refine B_X10_readText_17 ?_
    try dsimp only
    try simp (disch := omega) only [txH_r, txH_9, txH_10, txH_11, txH_f, txH_o, u2_txH_9, u2_txH_10, u2_txH_11, u2_txH_r, uz_self, Int.add_zero, Int.reduceToNat]
    refine ⟨sh361, ?_⟩
    refine ⟨fun c22_0 => ?_, fun c22_0 => ?_⟩
    · refine B_X10_readText_44 ?_
      try dsimp only
      try simp (disch := omega) only [txH_r, txH_9, txH_10, txH_11, txH_f, txH_o, u2_txH_9, u2_txH_10, u2_txH_11, u2_txH_r, uz_self, Int.add_zero, Int.reduceToNat]
      have hQ := hQ j.toNat (w, d, o, r) (by omega) hs (by first | exact Or.inl (by omega) | exact Or.inr (by rw [hn, e]))
      rw [show ((j.toNat : Nat) : Int) = j by omega] at hQ
      exact hQ
    · refine ⟨sh361, _, hR.text, ?_⟩
      refine ⟨_, sh364, ⟨by omega, by omega⟩, ?_⟩
      try simp (disch := omega) only [txH_r, txH_9, txH_10, txH_11, txH_f, txH_o, u2_txH_9, u2_txH_10, u2_txH_11, u2_txH_r, uz_self, Int.add_zero, Int.reduceToNat]
      refine ⟨⟨Nat.zero_le _, Nat.zero_le _, Nat.le_of_ble_eq_true rfl⟩, sh361, ?_⟩
      have htk := ht j.toNat (by omega)
      refine C_takes hG hR (k := j.toNat) (by omega) hp htk ⟨fun s e => ?_, fun e => ?_⟩
      · refine af_I0 rfl rfl (by decide) ?_
        try dsimp only
        refine B_X10_readText_35 ?_
        try dsimp only
        refine ⟨fun c => absurd c (by decide), fun _ => ?_⟩
        refine ⟨by (refine ⟨?_, ?_⟩ <;> omega), ?_⟩
        refine ih (j + 1) s.1 s.2.1 s.2.2.1 s.2.2.2 (by omega) ?_
        rw [show (j + 1).toNat = j.toNat + 1 by omega, hn, e]
      refine af_I0 rfl rfl (by decide) ?_
      try dsimp only
      try simp (disch := omega) only [txH_r, txH_9, txH_10, txH_11, txH_f, txH_o, u2_txH_9, u2_txH_10, u2_txH_11, u2_txH_r, uz_self, Int.add_zero, Int.reduceToNat]
      refine B_X10_readText_35 ?_
      try dsimp only
      try simp (disch := omega) only [txH_r, txH_9, txH_10, txH_11, txH_f, txH_o, u2_txH_9, u2_txH_10, u2_txH_11, u2_txH_r, uz_self, Int.add_zero, Int.reduceToNat]
      refine ⟨fun c35_1 => ?_, fun c35_1 => ?_⟩
      · refine B_X10_readText_44 ?_
        try dsimp only
        try simp (disch := omega) only [txH_r, txH_9, txH_10, txH_11, txH_f, txH_o, u2_txH_9, u2_txH_10, u2_txH_11, u2_txH_r, uz_self, Int.add_zero, Int.reduceToNat]
        have hQ := hQ j.toNat (w, d, o, r) (by omega) hs (by first | exact Or.inl (by omega) | exact Or.inr (by rw [hn, e]))
        rw [show ((j.toNat : Nat) : Int) = j by omega] at hQ
        exact hQ
      · refine ⟨by (refine ⟨?_, ?_⟩ <;> omega), ?_⟩
        exact absurd True.intro (by assumption)
theorem C_readText0 {G : amG} {I : Nat → Nat → Int} {R : Nat → Nat → Option Nat} {L : Nat → Nat → Int64} {x c t : Nat} {Q : amR → amH → Prop} (hG : amG0 G) (hR : RM R) (hl : 0 ≤ I 361 4 ∧ I 361 4 ≤ 60) (ht : ∀ k : Nat, k < 60 → 0 ≤ I 364 k ∧ I 364 k ≤ 1000) (hQ : ∀ (k : Nat) (s : TS), (k : Int) ≤ I 361 4 → pS (I 364) (I 368) k = some s → ((k : Int) = I 361 4 ∨ pS (I 364) (I 368) (k + 1) = none) → Q (Sum.inl (some (aI k))) (txH I s.1 s.2.1 s.2.2.1 s.2.2.2, R, L, SH, x, 0, 0)) : CT G sX10_readText [aR (some 361)] (txH I (I 361 9) (I 361 10) (I 361 11) (I 368), R, L, SH, x, c, t) Q := by
  refine CT_of ok_X10_readText hG (Nat.le_of_ble_eq_true rfl) ?_
  show X G mX10_readText Q 0 _ [] (txH I (I 361 9) (I 361 10) (I 361 11) (I 368), R, L, SH, x, 0, 0)
  refine B_X10_readText_0 ?_
  try dsimp only
  try simp (disch := omega) only [txH_r, txH_9, txH_10, txH_11, txH_f, txH_o, u2_txH_9, u2_txH_10, u2_txH_11, u2_txH_r, uz_self, Int.add_zero, Int.reduceToNat]
  refine ⟨sh361, ?_⟩
  try simp (disch := omega) only [txH_r, txH_9, txH_10, txH_11, txH_f, txH_o, u2_txH_9, u2_txH_10, u2_txH_11, u2_txH_r, uz_self, Int.add_zero, Int.reduceToNat]
  refine ⟨sh361, ?_⟩
  try simp (disch := omega) only [txH_r, txH_9, txH_10, txH_11, txH_f, txH_o, u2_txH_9, u2_txH_10, u2_txH_11, u2_txH_r, uz_self, Int.add_zero, Int.reduceToNat]
  refine ⟨sh361, ?_⟩
  try simp (disch := omega) only [txH_r, txH_9, txH_10, txH_11, txH_f, txH_o, u2_txH_9, u2_txH_10, u2_txH_11, u2_txH_r, uz_self, Int.add_zero, Int.reduceToNat]
  exact L_readText hG hR hl ht hQ 61 0 0 0 0 (I 368) (by omega) rfl
theorem C_readText {G : amG} {I : Nat → Nat → Int} {R : Nat → Nat → Option Nat} {L : Nat → Nat → Int64} {x c t : Nat} {Q : amR → amH → Prop} (hG : amG0 G) (hR : RM R) (hl : 0 ≤ I 361 4 ∧ I 361 4 ≤ 60) (ht : ∀ k : Nat, k < 60 → 0 ≤ I 364 k ∧ I 364 k ≤ 1000) (hQ : ∀ (k : Nat) (s : TS), (k : Int) ≤ I 361 4 → pS (I 364) (I 368) k = some s → ((k : Int) = I 361 4 ∨ pS (I 364) (I 368) (k + 1) = none) → Q (Sum.inl (some (aI k))) (txH I s.1 s.2.1 s.2.2.1 s.2.2.2, R, L, SH, x, 0, 0)) : CT G sX10_readText [aR (some 361)] (I, R, L, SH, x, c, t) Q := by
  have e := C_readText0 (x := x) (c := c) (t := t) (L := L) hG hR hl ht hQ
  rw [txH_self] at e
  exact e
