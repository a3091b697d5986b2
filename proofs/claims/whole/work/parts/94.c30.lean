/-! ===== the bits of normal numbers ===== -/
theorem vb_tails : FP.Core.b64.tails = 4503599627370496 := by decide
theorem vb_exps : FP.Core.b64.exps = 2048 := by decide
theorem vb_qmin : FP.Core.b64.qmin = -1074 := by decide
theorem vb_qmax : FP.Core.b64.qmax = 971 := by decide
theorem vb_p : (2 : Nat) ^ FP.Core.b64.p = 9007199254740992 := by decide
/-- a normal number, by its fields -/
theorem vb_of {x : UInt64} {E T : Nat} (h : x.toNat = E * 4503599627370496 + T) (hT : T < 4503599627370496) (h1 : 1 ≤ E) (h2 : E < 2047) : FP.Core.val64 x = .fin false (4503599627370496 + T) ((E : Int) - 1075) := by
  have h3 : x.toNat = FP.Core.assemble FP.Core.b64 false E T := by
    unfold FP.Core.assemble
    rw [vb_tails, h]
    simp
  unfold FP.Core.val64
  rw [h3, FP.Core.decode_assemble FP.Core.b64 false E T (by rw [vb_exps]; omega) (by rw [vb_tails]; exact hT), if_neg (by rw [vb_exps]; omega), if_neg (by omega), vb_tails, vb_qmin]
  congr 1
  omega
theorem vb_n {x : UInt64} {s : Bool} {c : Nat} {q : Int} (h : FP.Core.val64 x = .fin s c q) : vf_n64 x := by
  unfold vf_n64
  rw [UInt64.le_iff_toNat_le, UInt64.toNat_and]
  show x.toNat &&& (2 ^ 63 - 1) ≤ 9218868437227405312
  rw [Nat.and_two_pow_sub_one_eq_mod]
  refine Decidable.byContradiction (fun hc => ?_)
  unfold FP.Core.val64 FP.Core.decode at h
  have hE : FP.Core.fieldE FP.Core.b64 x.toNat = FP.Core.b64.exps - 1 := by
    unfold FP.Core.fieldE
    rw [vb_tails, vb_exps]
    omega
  rw [if_pos hE] at h
  split at h
  · exact FP.Core.Datum.noConfusion h
  · exact FP.Core.Datum.noConfusion h
theorem vb_two : FP.Core.val64 (UInt64.ofNat 4611686018427387904) = .fin false 4503599627370496 (-51) := by decide +kernel
theorem vb_one : FP.Core.val64 FP.Core.dconst1 = .fin false 4503599627370496 (-52) := by decide +kernel
theorem vb_big : FP.Core.val64 (UInt64.ofNat 4841369599423283200) = .fin false 4503599627370496 0 := by decide +kernel
/-- doubling adds one to the exponent -/
theorem vb_dbl {x : UInt64} {E T : Nat} (h : x.toNat = E * 4503599627370496 + T) (hT : T < 4503599627370496) (h1 : 1 ≤ E) (h2 : E < 1023) : (FP.Core.dmul x (UInt64.ofNat 4611686018427387904)).toNat = (E + 1) * 4503599627370496 + T ∧ vf_n64 (FP.Core.dmul x (UInt64.ofNat 4611686018427387904)) := by
  have hy : (UInt64.ofNat ((E + 1) * 4503599627370496 + T)).toNat = (E + 1) * 4503599627370496 + T := UInt64.toNat_ofNat_of_lt' (by show _ < 2 ^ 64; omega)
  have hv := vb_of hy hT (by omega) (by omega)
  have hf := FP.Core.val64_fits (UInt64.ofNat ((E + 1) * 4503599627370496 + T))
  rw [hv] at hf
  have hm : FP.Core.val64 (FP.Core.dmul x (UInt64.ofNat 4611686018427387904)) = .fin false (4503599627370496 + T) (((E + 1 : Nat) : Int) - 1075) := by
    rw [FP.Core.val64_dmul, vb_of h hT h1 (by omega), vb_two]
    show FP.Core.roundRatio FP.Core.b64 false ((4503599627370496 + T) * 4503599627370496) 1 ((E : Int) - 1075 + -51) = _
    refine FP.Core.roundRatio_exact FP.Core.good_b64 (by decide) hf ?_
    rw [show ((E : Int) - 1075 + -51 - (((E + 1 : Nat) : Int) - 1075)).toNat = 0 by omega, show ((((E + 1 : Nat) : Int) - 1075) - ((E : Int) - 1075 + -51)).toNat = 52 by omega]
    omega
  have he : FP.Core.dmul x (UInt64.ofNat 4611686018427387904) = UInt64.ofNat ((E + 1) * 4503599627370496 + T) := FP.Core.val64_inj (by rw [hm]; exact FP.Core.Datum.noConfusion) (by rw [hm, hv])
  exact ⟨by rw [he, hy], vb_n hm⟩
/-- less than one -/
theorem vb_lt {x : UInt64} {E T : Nat} (h : x.toNat = E * 4503599627370496 + T) (hT : T < 4503599627370496) (h1 : 1 ≤ E) (h2 : E < 1023) : FP.Core.dcmp x FP.Core.dconst1 = some .lt := by
  show FP.Core.order (FP.Core.val64 x) (FP.Core.val64 FP.Core.dconst1) = _
  rw [vb_of h hT h1 (by omega), vb_one]
  unfold FP.Core.order
  show some (compare (FP.Core.signed false _) (FP.Core.signed false _)) = _
  rw [show min ((E : Int) - 1075) (-52) = (E : Int) - 1075 by omega]
  unfold FP.Core.signed FP.Core.inUnits
  rw [show ((E : Int) - 1075 - ((E : Int) - 1075)).toNat = 0 by omega, show (-52 - ((E : Int) - 1075)).toNat = (1022 - E) + 1 by omega, Nat.pow_succ]
  have := Nat.two_pow_pos (1022 - E)
  congr 1
  rw [Int.compare_eq_lt]
  generalize 2 ^ (1022 - E) = k at *
  simp only [Bool.false_eq_true, if_false, Nat.pow_zero, Nat.mul_one]
  omega
theorem vb_ge {x : UInt64} {T : Nat} (h : x.toNat = 1023 * 4503599627370496 + T) (hT : T < 4503599627370496) : FP.Core.dcmp x FP.Core.dconst1 = some .eq ∨ FP.Core.dcmp x FP.Core.dconst1 = some .gt := by
  have e : FP.Core.dcmp x FP.Core.dconst1 = some (compare ((4503599627370496 + T : Nat) : Int) 4503599627370496) := by
    show FP.Core.order (FP.Core.val64 x) (FP.Core.val64 FP.Core.dconst1) = _
    rw [vb_of h hT (by omega) (by omega), vb_one]
    unfold FP.Core.order
    show some (compare (FP.Core.signed false _) (FP.Core.signed false _)) = _
    rw [show min (((1023 : Nat) : Int) - 1075) (-52) = -52 by omega]
    unfold FP.Core.signed FP.Core.inUnits
    simp
  rw [e]
  rcases Nat.eq_zero_or_pos T with r | r
  · left; subst r; decide
  · right; rw [Int.compare_eq_gt.mpr (by omega)]
/-- positive -/
theorem vb_pos {x : UInt64} {E T : Nat} (h : x.toNat = E * 4503599627370496 + T) (hT : T < 4503599627370496) (h1 : 1 ≤ E) (h2 : E ≤ 1023) : FP.Core.dcmp x FP.Core.dconst0 = some .gt := by
  show FP.Core.order (FP.Core.val64 x) (FP.Core.val64 FP.Core.dconst0) = _
  rw [vb_of h hT h1 (by omega), FP.Core.val64_dconst0, vb_qmin]
  unfold FP.Core.order
  show some (compare (FP.Core.signed false _) (FP.Core.signed false _)) = _
  rw [show min ((E : Int) - 1075) (-1074) = -1074 by omega]
  unfold FP.Core.signed FP.Core.inUnits
  have := Nat.two_pow_pos (((E : Int) - 1075) - (-1074)).toNat
  congr 1
  rw [Int.compare_eq_gt]
  generalize 2 ^ (((E : Int) - 1075) - (-1074)).toNat = k at *
  simp only [Bool.false_eq_true, if_false, Nat.zero_mul]
  have : 0 < (4503599627370496 + T) * k := Nat.mul_pos (by omega) this
  omega
/-- the fraction, taken out -/
theorem vb_frac {x : UInt64} {T : Nat} (h : x.toNat = 1023 * 4503599627370496 + T) (hT : T < 4503599627370496) :
    vf_n64 (FP.Core.dsub x FP.Core.dconst1) ∧ vf_n64 (FP.Core.dmul (FP.Core.dsub x FP.Core.dconst1) (UInt64.ofNat 4841369599423283200)) ∧ FP.Core.d2l (FP.Core.dmul (FP.Core.dsub x FP.Core.dconst1) (UInt64.ofNat 4841369599423283200)) = Int64.ofInt (T : Int) := by
  have hs : FP.Core.val64 (FP.Core.dsub x FP.Core.dconst1) = FP.Core.roundRatio FP.Core.b64 false T 1 (-52) := by
    rw [FP.Core.val64_dsub, vb_of h hT (by omega) (by omega), vb_one]
    show FP.Core.roundRatio FP.Core.b64 (FP.Core.sumSign false true (FP.Core.sumUnits false _ _ true _ _ _)) (FP.Core.sumUnits false _ _ true _ _ _).natAbs 1 _ = _
    rw [show min (((1023 : Nat) : Int) - 1075) (-52) = -52 by omega]
    have hu : FP.Core.sumUnits false (4503599627370496 + T) (((1023 : Nat) : Int) - 1075) true 4503599627370496 (-52) (-52) = (T : Int) := by
      unfold FP.Core.sumUnits FP.Core.signed FP.Core.inUnits
      simp
      omega
    rw [hu]
    unfold FP.Core.sumSign
    rw [show (if (T : Int) = 0 then (false && true) else decide ((T : Int) < 0)) = false by split; rfl; exact decide_eq_false (by omega), Int.natAbs_natCast]
  rcases Nat.eq_zero_or_pos T with r | r
  · subst r
    have hs0 : FP.Core.val64 (FP.Core.dsub x FP.Core.dconst1) = .fin false 0 (-1074) := by rw [hs]; decide +kernel
    have hm : FP.Core.val64 (FP.Core.dmul (FP.Core.dsub x FP.Core.dconst1) (UInt64.ofNat 4841369599423283200)) = .fin false 0 (-1074) := by
      rw [FP.Core.val64_dmul, hs0, vb_big]; decide +kernel
    refine ⟨vb_n hs0, vb_n hm, ?_⟩
    show FP.Core.toL (FP.Core.val64 _) = _
    rw [hm]
    decide +kernel
  · have hL : T.log2 < 52 := (Nat.log2_lt (by omega)).mpr hT
    have hL1 : 2 ^ T.log2 ≤ T := Nat.log2_self_le (by omega)
    have hL2 : T < 2 ^ (T.log2 + 1) := Nat.lt_log2_self
    generalize T.log2 = L at *
    have e1 : 2 ^ L * 2 ^ (52 - L) = 4503599627370496 := by rw [← Nat.pow_add, show L + (52 - L) = 52 by omega]
    have e2 : 2 ^ (L + 1) * 2 ^ (52 - L) = 9007199254740992 := by rw [← Nat.pow_add, show L + 1 + (52 - L) = 53 by omega]
    have g1 : 4503599627370496 ≤ T * 2 ^ (52 - L) := by rw [← e1]; exact Nat.mul_le_mul_right _ hL1
    have g2 : T * 2 ^ (52 - L) < 9007199254740992 := by rw [← e2]; exact (Nat.mul_lt_mul_right (Nat.two_pow_pos _)).mpr hL2
    have ft : ∀ q : Int, -1074 ≤ q → q ≤ 971 → FP.Core.fits FP.Core.b64 (.fin false (T * 2 ^ (52 - L)) q) := by
      intro q q1 q2
      refine ⟨?_, ?_, ?_, Or.inr ?_⟩
      · rw [vb_p]; exact g2
      · rw [vb_qmin]; exact q1
      · rw [vb_qmax]; exact q2
      · rw [vb_tails]; exact g1
    have hs0 : FP.Core.val64 (FP.Core.dsub x FP.Core.dconst1) = .fin false (T * 2 ^ (52 - L)) ((L : Int) - 104) := by
      rw [hs]
      refine FP.Core.roundRatio_exact FP.Core.good_b64 (by decide) (ft _ (by omega) (by omega)) ?_
      rw [show (-52 - ((L : Int) - 104)).toNat = 52 - L by omega, show ((L : Int) - 104 - -52).toNat = 0 by omega]
      simp
    have hm : FP.Core.val64 (FP.Core.dmul (FP.Core.dsub x FP.Core.dconst1) (UInt64.ofNat 4841369599423283200)) = .fin false (T * 2 ^ (52 - L)) ((L : Int) - 52) := by
      rw [FP.Core.val64_dmul, hs0, vb_big]
      show FP.Core.roundRatio FP.Core.b64 false (T * 2 ^ (52 - L) * 4503599627370496) 1 ((L : Int) - 104 + 0) = _
      refine FP.Core.roundRatio_exact FP.Core.good_b64 (by decide) (ft _ (by omega) (by omega)) ?_
      rw [show ((L : Int) - 104 + 0 - ((L : Int) - 52)).toNat = 0 by omega, show ((L : Int) - 52 - ((L : Int) - 104 + 0)).toNat = 52 by omega]
      omega
    refine ⟨vb_n hs0, vb_n hm, ?_⟩
    show FP.Core.toL (FP.Core.val64 _) = _
    rw [hm]
    show Int64.ofInt (max (-2 ^ 63) (min (2 ^ 63 - 1) (FP.Core.truncate false (T * 2 ^ (52 - L)) ((L : Int) - 52)))) = _
    unfold FP.Core.truncate FP.Core.signed
    rw [show ((L : Int) - 52).toNat = 0 by omega, show (-((L : Int) - 52)).toNat = 52 - L by omega, Nat.pow_zero, Nat.mul_one, Nat.mul_div_cancel _ (Nat.two_pow_pos _)]
    simp only [Bool.false_eq_true, if_false]
    congr 1
    omega
theorem vb_or {v : UInt64} {E T : Nat} (h : v.toNat = E * 4503599627370496 + T) (hT : T < 4503599627370496) (h1 : 1015 ≤ E) (h2 : E ≤ 1023) : (Int64.ofNat E <<< ((Int32.ofInt (52 : Int)).toInt64 &&& 63)) ||| Int64.ofInt (T : Int) = v.toInt64 := by
  have hs : Int64.ofNat E <<< ((Int32.ofInt (52 : Int)).toInt64 &&& 63) = Int64.ofNat (2 ^ 52 * E) := by
    rcases (by omega : E = 1015 ∨ E = 1016 ∨ E = 1017 ∨ E = 1018 ∨ E = 1019 ∨ E = 1020 ∨ E = 1021 ∨ E = 1022 ∨ E = 1023) with q | q | q | q | q | q | q | q | q <;> subst q <;> decide
  rw [hs]
  apply Int64.toBitVec.inj
  apply BitVec.eq_of_toNat_eq
  show (BitVec.ofNat 64 (2 ^ 52 * E) ||| BitVec.ofInt 64 (T : Int)).toNat = v.toNat
  rw [BitVec.toNat_or, BitVec.toNat_ofNat, BitVec.ofInt_natCast, BitVec.toNat_ofNat, Nat.mod_eq_of_lt (by omega), Nat.mod_eq_of_lt (by omega), ← Nat.two_pow_add_eq_or_of_lt hT, h]
  omega

/-- the loop: x is v with its exponent raised by i -/
theorem L_bitsOf {G : amG} {h : amH} {Q : amR → amH → Prop} {v : UInt64} {E T : Nat} (hE : v.toNat = E * 4503599627370496 + T) (hT : T < 4503599627370496) (hE1 : 1015 ≤ E) (hE2 : E ≤ 1023) (hQ : Q (Sum.inl (some (aL v.toInt64))) h) :
    ∀ (n i : Nat) (x : UInt64), E + i ≤ 1023 → 1023 - (E + i) < n → x.toNat = (E + i) * 4503599627370496 + T → X G mX9_bitsOf Q 15 [some (aD v), none, some (aD x), none, some (aL (Int64.ofNat (1023 - i))), none, none, none] [] h := by
  intro n
  induction n with
  | zero =>
    intros
    exfalso; omega
  | succ n ih =>
    intro i x h1 h2 hx
    refine B_X9_bitsOf_15 ?_
    by_cases hl : E + i = 1023
    · have hx' : x.toNat = 1023 * 4503599627370496 + T := by rw [hx, hl]
      obtain ⟨f1, f2, f3⟩ := vb_frac hx' hT
      have hge : (0 : Int) ≤ ((Op.cmpValue (FP.dcmp x FP.dconst1) .g).toInt) := by
        rcases vb_ge hx' hT with q | q
        · have q : FP.dcmp x FP.dconst1 = some .eq := q
          rw [q]; decide
        · have q : FP.dcmp x FP.dconst1 = some .gt := q
          rw [q]; decide
      refine ⟨fun _ => ?_, fun hc => absurd hge hc⟩
      refine B_X9_bitsOf_43 ⟨f1, f2, rfl, ?_⟩
      have f3 : FP.d2l (FP.dmul (FP.dsub x FP.dconst1) (UInt64.ofNat 4841369599423283200)) = Int64.ofInt (T : Int) := f3
      rw [f3, show 1023 - i = E by omega, vb_or hE hT hE1 hE2]
      exact hQ
    · have hlt : FP.dcmp x FP.dconst1 = some .lt := vb_lt hx hT (by omega) (by omega)
      rw [hlt]
      refine ⟨fun hc => absurd hc (by decide), fun _ => ?_⟩
      have hi : i ≤ 7 := by omega
      have hd := vb_dbl hx hT (by omega) (by omega)
      have e := ih (i + 1) _ (by omega) (by omega) (by rw [hd.1]; congr 1)
      have e1 : Int64.ofNat (1023 - i) - Int64.ofNat 1 = Int64.ofNat (1023 - (i + 1)) := by
        rcases (by omega : i = 0 ∨ i = 1 ∨ i = 2 ∨ i = 3 ∨ i = 4 ∨ i = 5 ∨ i = 6 ∨ i = 7) with q | q | q | q | q | q | q | q <;> subst q <;> decide
      have e2 : ¬ (((lg_cmp (Int64.ofNat (1023 - i)) (Int64.ofNat 1)).toInt) ≤ (0 : Int)) := by
        rcases (by omega : i = 0 ∨ i = 1 ∨ i = 2 ∨ i = 3 ∨ i = 4 ∨ i = 5 ∨ i = 6 ∨ i = 7) with q | q | q | q | q | q | q | q <;> subst q <;> decide
      refine ⟨fun hc => absurd hc e2, fun _ => ⟨hd.2, ?_⟩⟩
      rw [e1]
      exact e
theorem D_bitsOf {G : amG} {h : amH} {Q : amR → amH → Prop} (hG : amG0 G) {v : UInt64} (hv : v.toNat = 0 ∨ 4571153621781053440 ≤ v.toNat) (hv2 : v.toNat ≤ 4607182418800017408) (hQ : Q (Sum.inl (some (aL v.toInt64))) (hGive h 0 0)) : CT G sX9_bitsOf [aD v] h Q := by
  refine CT_of ok_X9_bitsOf hG (Nat.le_of_ble_eq_true rfl) ?_
  show X G mX9_bitsOf Q 0 _ [] (h.1, h.2.1, h.2.2.1, h.2.2.2.1, h.2.2.2.2.1, 0, 0)
  refine B_X9_bitsOf_0 ?_
  rcases hv with hv | hv
  · have e : v = 0 := UInt64.toNat_inj.mp (by rw [hv]; rfl)
    subst e
    refine ⟨fun hc => absurd hc (by decide +kernel), fun _ => ⟨rfl, hQ⟩⟩
  · have hE : v.toNat = (v.toNat / 4503599627370496) * 4503599627370496 + v.toNat % 4503599627370496 := by omega
    have hT : v.toNat % 4503599627370496 < 4503599627370496 := by omega
    have hE1 : 1015 ≤ v.toNat / 4503599627370496 := by omega
    have hE2 : v.toNat / 4503599627370496 ≤ 1023 := by omega
    have hp : FP.dcmp v FP.dconst0 = some .gt := vb_pos hE hT (by omega) hE2
    rw [hp]
    refine ⟨fun _ => ?_, fun hc => absurd (by decide) hc⟩
    refine B_X9_bitsOf_8 ?_
    exact L_bitsOf hE hT hE1 hE2 hQ 10 0 v (by omega) (by omega) (by omega)
