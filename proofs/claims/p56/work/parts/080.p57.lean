theorem fp_two : FP.Core.val64 4611686018427387904 = .fin false 4503599627370496 (-51) := by decide +kernel
theorem fp_one : FP.Core.val64 FP.dconst1 = .fin false 4503599627370496 (-52) := by decide +kernel
theorem fp_zero : FP.Core.val64 FP.dconst0 = .fin false 0 (-1074) := by decide +kernel
theorem fp_big : FP.Core.val64 4841369599423283200 = .fin false 4503599627370496 0 := by decide +kernel
theorem fp_qmin : FP.Core.b64.qmin = -1074 := by decide
theorem fp_qmax : FP.Core.b64.qmax = 971 := by decide
theorem fp_tails : FP.Core.b64.tails = 4503599627370496 := by decide
def nrm (c : Nat) (q : Int) : Prop := 4503599627370496 ≤ c ∧ c < 9007199254740992 ∧ -1000 ≤ q ∧ q ≤ 900
theorem fp_fit {c : Nat} {q : Int} (h : nrm c q) : FP.Core.fits FP.Core.b64 (.fin false c q) := by
  obtain ⟨h1, h2, h3, h4⟩ := h
  refine ⟨h2, ?_, ?_, Or.inr ?_⟩
  · rw [fp_qmin]; omega
  · rw [fp_qmax]; omega
  · rw [fp_tails]; exact h1
theorem fp_nn {x : UInt64} {s : Bool} {c : Nat} {q : Int} (h : FP.Core.val64 x = .fin s c q) : FP.Core.val64 x ≠ .nan := by rw [h]; exact fun z => nomatch z
theorem gnn_v {x : UInt64} {s : Bool} {c : Nat} {q : Int} (h : FP.Core.val64 x = .fin s c q) : gnn x = true := by
  have h1 := (FP.Core.ne_nan x).mp (fp_nn h)
  unfold gnn
  refine decide_eq_true ?_
  rw [UInt64.le_iff_toNat_le, UInt64.toNat_and]
  rw [show (0x7fffffffffffffff : UInt64).toNat = 2 ^ 63 - 1 from rfl, Nat.and_two_pow_sub_one_eq_mod]
  exact h1
theorem fp_half {x : UInt64} {c : Nat} {q : Int} (hx : FP.Core.val64 x = .fin false c q) (h : nrm c q) (h2 : nrm c (q - 1)) : FP.Core.val64 (FP.ddiv x 4611686018427387904) = .fin false c (q - 1) := by
  rw [show FP.ddiv x 4611686018427387904 = FP.Core.ddiv x 4611686018427387904 from rfl, FP.Core.val64_ddiv, hx, fp_two]
  show FP.Core.quotient FP.Core.b64 (.fin false c q) (.fin false 4503599627370496 (-51)) = _
  unfold FP.Core.quotient
  simp only []
  rw [if_neg (by decide), show (false != false) = false from rfl]
  refine FP.Core.roundRatio_exact FP.Core.good_b64 (by decide) (fp_fit h2) ?_
  rw [show (q - -51 - (q - 1)).toNat = 52 by omega, show (q - 1 - (q - -51)).toNat = 0 by omega]
  show c * 4503599627370496 = c * 4503599627370496 * 1
  rw [Nat.mul_one]
theorem fp_dbl {x : UInt64} {c : Nat} {q : Int} (hx : FP.Core.val64 x = .fin false c q) (h : nrm c q) (h2 : nrm c (q + 1)) : FP.Core.val64 (FP.dmul x 4611686018427387904) = .fin false c (q + 1) := by
  rw [show FP.dmul x 4611686018427387904 = FP.Core.dmul x 4611686018427387904 from rfl, FP.Core.val64_dmul, hx, fp_two]
  show FP.Core.roundRatio FP.Core.b64 (false != false) (c * 4503599627370496) 1 (q + -51) = _
  refine FP.Core.roundRatio_exact FP.Core.good_b64 (by decide) (fp_fit h2) ?_
  rw [show (q + -51 - (q + 1)).toNat = 0 by omega, show (q + 1 - (q + -51)).toNat = 52 by omega]
  show c * 4503599627370496 * 1 = c * 1 * 4503599627370496
  rw [Nat.mul_one, Nat.mul_one]
theorem cmp_e (a b : Int) : compare a b = if a < b then Ordering.lt else if a = b then Ordering.eq else Ordering.gt := rfl
theorem cv_lt {a b : Int} (h : a < b) (o : CmpOp) : Op.cmpValue (some (compare a b)) o = -1 := by rw [cmp_e, if_pos h]; rfl
theorem cv_ge {a b : Int} (h : b ≤ a) (o : CmpOp) : 0 ≤ Op.cmpValue (some (compare a b)) o := by
  rw [cmp_e, if_neg (by omega)]
  split
  · show (0 : Int32) ≤ 0; decide
  · show (0 : Int32) ≤ 1; decide
theorem cv_gt {a b : Int} (h : b < a) (o : CmpOp) : Op.cmpValue (some (compare a b)) o = 1 := by
  rw [cmp_e, if_neg (by omega), if_neg (by omega)]; rfl
theorem dcmp_v {x y : UInt64} {s t : Bool} {c d : Nat} {q r : Int} (hx : FP.Core.val64 x = .fin s c q) (hy : FP.Core.val64 y = .fin t d r) : FP.dcmp x y = some (compare (FP.Core.signed s (FP.Core.inUnits c q (min q r))) (FP.Core.signed t (FP.Core.inUnits d r (min q r)))) := by
  show FP.Core.order (FP.Core.val64 x) (FP.Core.val64 y) = _
  rw [hx, hy]; rfl
theorem pow_le {k : Nat} : 1 ≤ 2 ^ k := Nat.one_le_two_pow
theorem lt2 {x : UInt64} {c : Nat} {q : Int} (hx : FP.Core.val64 x = .fin false c q) (h : nrm c q) (o : CmpOp) (D : Nat) (r : Int) {y : UInt64} (hy : FP.Core.val64 y = .fin false 4503599627370496 r) : (q < r → Op.cmpValue (FP.dcmp x y) o = -1) ∧ (r ≤ q → 0 ≤ Op.cmpValue (FP.dcmp x y) o) := by
  obtain ⟨h1, h2, _, _⟩ := h
  rw [dcmp_v hx hy]
  constructor
  · intro hq
    refine cv_lt ?_ o
    show ((c * 2 ^ (q - min q r).toNat : Nat) : Int) < ((4503599627370496 * 2 ^ (r - min q r).toNat : Nat) : Int)
    rw [show (q - min q r).toNat = 0 by omega, show (r - min q r).toNat = ((r - q).toNat - 1) + 1 by omega, Nat.pow_succ]
    have := pow_le (k := (r - q).toNat - 1)
    generalize 2 ^ ((r - q).toNat - 1) = z at *
    omega
  · intro hq
    refine cv_ge ?_ o
    show ((4503599627370496 * 2 ^ (r - min q r).toNat : Nat) : Int) ≤ ((c * 2 ^ (q - min q r).toNat : Nat) : Int)
    rw [show (r - min q r).toNat = 0 by omega]
    have := Nat.mul_le_mul_left c (pow_le (k := (q - min q r).toNat))
    generalize c * 2 ^ (q - min q r).toNat = z at *
    omega
theorem l18 {c : Nat} (hc : 4503599627370496 ≤ c ∧ c < 9007199254740992) : ∀ (d j fuel : Nat) (x : UInt64) (p : Int64), FP.Core.val64 x = .fin false c (-52 + (d : Int)) → j + d < 64 → d < fuel → ∃ y, f_X7_bitsOf_L18 fuel x p (nI j) = some (y, p + Int64.ofNat d) ∧ FP.Core.val64 y = .fin false c (-52) := by
  intro d
  induction d with
  | zero =>
    intro j fuel x p hx hj hf
    obtain ⟨f, rfl⟩ : ∃ f, fuel = f + 1 := ⟨fuel - 1, by omega⟩
    have hx' : FP.Core.val64 x = .fin false c (-52) := hx
    refine ⟨x, ?_, hx'⟩
    rw [f_X7_bitsOf_L18, if_neg (by rw [show (64 : Int32) = nI 64 from rfl, pi_le (by omega) (by omega)]; omega), (lt2 hx' ⟨hc.1, hc.2, by omega, by omega⟩ .l 0 (-51) fp_two).1 (by omega), if_pos (by decide), show Int64.ofNat 0 = (0 : Int64) from rfl, Int64.add_zero]
  | succ d ih =>
    intro j fuel x p hx hj hf
    obtain ⟨f, rfl⟩ : ∃ f, fuel = f + 1 := ⟨fuel - 1, by omega⟩
    have hn : nrm c (-52 + ((d + 1 : Nat) : Int)) := ⟨hc.1, hc.2, by omega, by omega⟩
    have hh := fp_half hx hn ⟨hc.1, hc.2, by omega, by omega⟩
    rw [show (-52 + ((d + 1 : Nat) : Int)) - 1 = -52 + (d : Int) by omega] at hh
    obtain ⟨y, y1, y2⟩ := ih (j + 1) f _ (p + 1) hh (by omega) (by omega)
    refine ⟨y, ?_, y2⟩
    have h0 := (lt2 hx hn .l 0 (-51) fp_two).2 (by omega)
    rw [f_X7_bitsOf_L18, if_neg (by rw [show (64 : Int32) = nI 64 from rfl, pi_le (by omega) (by omega)]; omega), if_neg (Int32.not_lt.mpr h0), gnn_v hh, hg_t, hlet_e, show nI j + (1 : Int32) = nI (j + 1) from pi_add j 1, y1]
    rw [Int64.add_assoc, show (1 : Int64) + Int64.ofNat d = Int64.ofNat (d + 1) by rw [Int64.add_comm]; exact (Int64.ofNat_add d 1).symm]
theorem l54 {c : Nat} (hc : 4503599627370496 ≤ c ∧ c < 9007199254740992) : ∀ (d j fuel : Nat) (x : UInt64) (p : Int64), FP.Core.val64 x = .fin false c (-52 - (d : Int)) → j + d < 64 → d < fuel → ∃ y, f_X7_bitsOf_L54 fuel x p (nI j) = some (y, p - Int64.ofNat d) ∧ FP.Core.val64 y = .fin false c (-52) := by
  intro d
  induction d with
  | zero =>
    intro j fuel x p hx hj hf
    obtain ⟨f, rfl⟩ : ∃ f, fuel = f + 1 := ⟨fuel - 1, by omega⟩
    have hx' : FP.Core.val64 x = .fin false c (-52) := hx
    refine ⟨x, ?_, hx'⟩
    have h0 := (lt2 hx' ⟨hc.1, hc.2, by omega, by omega⟩ .g 0 (-52) fp_one).2 (by omega)
    rw [f_X7_bitsOf_L54, if_neg (by rw [show (64 : Int32) = nI 64 from rfl, pi_le (by omega) (by omega)]; omega), if_pos h0, show Int64.ofNat 0 = (0 : Int64) from rfl, Int64.sub_zero]
  | succ d ih =>
    intro j fuel x p hx hj hf
    obtain ⟨f, rfl⟩ : ∃ f, fuel = f + 1 := ⟨fuel - 1, by omega⟩
    have hn : nrm c (-52 - ((d + 1 : Nat) : Int)) := ⟨hc.1, hc.2, by omega, by omega⟩
    have hh := fp_dbl hx hn ⟨hc.1, hc.2, by omega, by omega⟩
    rw [show (-52 - ((d + 1 : Nat) : Int)) + 1 = -52 - (d : Int) by omega] at hh
    obtain ⟨y, y1, y2⟩ := ih (j + 1) f _ (p - 1) hh (by omega) (by omega)
    refine ⟨y, ?_, y2⟩
    rw [f_X7_bitsOf_L54, if_neg (by rw [show (64 : Int32) = nI 64 from rfl, pi_le (by omega) (by omega)]; omega), (lt2 hx hn .g 0 (-52) fp_one).1 (by omega), if_neg (by decide), gnn_v hh, hg_t, hlet_e, show nI j + (1 : Int32) = nI (j + 1) from pi_add j 1, y1]
    have e : p - 1 - Int64.ofNat d = p - Int64.ofNat (d + 1) := by
      rw [Int64.ofNat_add, Int64.sub_eq_add_neg, Int64.sub_eq_add_neg, Int64.sub_eq_add_neg, Int64.neg_add, Int64.add_assoc, Int64.sub_eq_add_neg, Int64.add_comm (-(Int64.ofNat d))]
      rfl
    rw [e]
theorem fp_lg {T : Nat} (h0 : 0 < T) (h1 : T < 9007199254740992) : ∃ k : Nat, k ≤ 52 ∧ 4503599627370496 ≤ T * 2 ^ k ∧ T * 2 ^ k < 9007199254740992 := by
  have a1 := Nat.log2_self_le (n := T) (by omega)
  have a2 : T.log2 < 53 := (Nat.log2_lt (by omega)).mpr (by rw [show (2 : Nat) ^ 53 = 9007199254740992 from rfl]; exact h1)
  have a3 : T < 2 ^ (T.log2 + 1) := Nat.lt_log2_self
  generalize T.log2 = g at *
  refine ⟨52 - g, by omega, ?_, ?_⟩
  · have := Nat.mul_le_mul_right (2 ^ (52 - g)) a1
    rw [← Nat.pow_add, show g + (52 - g) = 52 by omega] at this
    exact this
  · have := Nat.mul_lt_mul_of_pos_right a3 (Nat.two_pow_pos (52 - g))
    rw [← Nat.pow_add, show g + 1 + (52 - g) = 53 by omega] at this
    exact this
theorem fp_frac {y : UInt64} {c : Nat} (hc : 4503599627370496 ≤ c ∧ c < 9007199254740992) (hy : FP.Core.val64 y = .fin false c (-52)) :
    gnn (FP.dsub y FP.dconst1) = true ∧ gnn (FP.dmul (FP.dsub y FP.dconst1) 4841369599423283200) = true ∧ FP.d2l (FP.dmul (FP.dsub y FP.dconst1) 4841369599423283200) = Int64.ofNat (c - 4503599627370496) := by
  have hT : c - 4503599627370496 < 4503599627370496 := by omega
  have e1 : FP.Core.val64 (FP.dsub y FP.dconst1) = FP.Core.roundRatio FP.Core.b64 false (c - 4503599627370496) 1 (-52) := by
    rw [show FP.dsub y FP.dconst1 = FP.Core.dsub y FP.dconst1 from rfl, FP.Core.val64_dsub, hy, fp_one]
    show FP.Core.roundRatio FP.Core.b64 (FP.Core.sumSign false true (FP.Core.sumUnits false c (-52) true 4503599627370496 (-52) (min (-52) (-52)))) (FP.Core.sumUnits false c (-52) true 4503599627370496 (-52) (min (-52) (-52))).natAbs 1 (min (-52) (-52)) = _
    have eu : FP.Core.sumUnits false c (-52) true 4503599627370496 (-52) (min (-52) (-52)) = ((c - 4503599627370496 : Nat) : Int) := by
      show ((c * 2 ^ 0 : Nat) : Int) + -((4503599627370496 * 2 ^ 0 : Nat) : Int) = _
      omega
    rw [eu, Int.natAbs_natCast]
    have es : FP.Core.sumSign false true ((c - 4503599627370496 : Nat) : Int) = false := by
      unfold FP.Core.sumSign
      split
      · rfl
      · exact decide_eq_false (by omega)
    rw [es]; rfl
  generalize FP.dsub y FP.dconst1 = z at *
  generalize c - 4503599627370496 = T at *
  have key : ∃ s2 c2 q2 s3 c3 q3, FP.Core.val64 z = .fin s2 c2 q2 ∧ FP.Core.val64 (FP.dmul z 4841369599423283200) = .fin s3 c3 q3 ∧ FP.Core.DInt (T : Int) (FP.dmul z 4841369599423283200) := by
    rcases Nat.eq_zero_or_pos T with h0 | h0
    · subst h0
      have ez : FP.Core.val64 z = .fin false 0 FP.Core.b64.qmin := by rw [e1]; rfl
      have ew : FP.Core.val64 (FP.dmul z 4841369599423283200) = .fin false 0 FP.Core.b64.qmin := by
        rw [show FP.dmul z 4841369599423283200 = FP.Core.dmul z 4841369599423283200 from rfl, FP.Core.val64_dmul, ez, fp_big]
        show FP.Core.roundRatio FP.Core.b64 (false != false) (0 * 4503599627370496) 1 (FP.Core.b64.qmin + 0) = _
        rw [Nat.zero_mul]; rfl
      refine ⟨_, _, _, _, _, _, ez, ew, ?_⟩
      unfold FP.Core.DInt
      rw [ew]
      show ((0 * 2 ^ _ : Nat) : Int) = ((0 : Nat) : Int) * _
      rw [Nat.zero_mul]; simp
    · obtain ⟨k, k1, k2, k3⟩ := fp_lg h0 (by omega)
      have hn1 : nrm (T * 2 ^ k) (-52 - (k : Int)) := ⟨k2, k3, by omega, by omega⟩
      have hn2 : nrm (T * 2 ^ k) (-(k : Int)) := ⟨k2, k3, by omega, by omega⟩
      have ez : FP.Core.val64 z = .fin false (T * 2 ^ k) (-52 - (k : Int)) := by
        rw [e1]
        refine FP.Core.roundRatio_exact FP.Core.good_b64 (by decide) (fp_fit hn1) ?_
        rw [show (-52 - (-52 - (k : Int))).toNat = k by omega, show (-52 - (k : Int) - -52).toNat = 0 by omega, Nat.pow_zero, Nat.mul_one, Nat.mul_one]
      have ew : FP.Core.val64 (FP.dmul z 4841369599423283200) = .fin false (T * 2 ^ k) (-(k : Int)) := by
        rw [show FP.dmul z 4841369599423283200 = FP.Core.dmul z 4841369599423283200 from rfl, FP.Core.val64_dmul, ez, fp_big]
        show FP.Core.roundRatio FP.Core.b64 (false != false) (T * 2 ^ k * 4503599627370496) 1 (-52 - (k : Int) + 0) = _
        refine FP.Core.roundRatio_exact FP.Core.good_b64 (by decide) (fp_fit hn2) ?_
        rw [show (-52 - (k : Int) + 0 - -(k : Int)).toNat = 0 by omega, show (-(k : Int) - (-52 - (k : Int) + 0)).toNat = 52 by omega, Nat.pow_zero, Nat.mul_one, Nat.mul_one]
        try rfl
      refine ⟨_, _, _, _, _, _, ez, ew, ?_⟩
      unfold FP.Core.DInt
      rw [ew]
      show ((T * 2 ^ k * 2 ^ (-(k : Int)).toNat : Nat) : Int) = (T : Int) * ((2 ^ (- -(k : Int)).toNat : Nat) : Int)
      rw [show (-(k : Int)).toNat = 0 by omega, show (- -(k : Int)).toNat = k by omega, Nat.pow_zero, Nat.mul_one]
      exact Int.natCast_mul T (2 ^ k)
  obtain ⟨s2, c2, q2, s3, c3, q3, hz, hw, hD⟩ := key
  refine ⟨gnn_v hz, gnn_v hw, ?_⟩
  have ei : (Int64.ofNat T).toInt = (T : Int) := Int64.toInt_ofNat_of_lt (by omega)
  exact FP.Core.d2l_int (a := Int64.ofNat T) (by rw [ei]; exact hD)
theorem sh_e : ∀ e, e < 64 → Int64.ofNat (1000 + e) <<< ((52 : Int32).toInt64 &&& 63) = Int64.ofNat ((1000 + e) * 4503599627370496) := by decide +kernel
theorem ex_up : ∀ d, d < 30 → (1023 : Int64) + Int64.ofNat d = Int64.ofNat (1023 + d) := by decide +kernel
theorem ex_dn : ∀ d, d < 20 → (1023 : Int64) - Int64.ofNat d = Int64.ofNat (1023 - d) := by decide +kernel
theorem toI64 (x : UInt64) : x.toInt64 = Int64.ofNat x.toNat := by
  apply Int64.toBitVec.inj
  show x.toBitVec = BitVec.ofNat 64 x.toNat
  rw [show x.toNat = x.toBitVec.toNat from rfl, BitVec.ofNat_toNat, BitVec.setWidth_eq]
theorem bits_e {x : UInt64} {c : Nat} {q : Int} (hx : FP.Core.val64 x = .fin false c q) (h : nrm c q) : x.toNat = (q + 1075).toNat * 4503599627370496 + (c - 4503599627370496) := by
  have h1 := FP.Core.of64_val64 (fp_nn hx)
  rw [hx] at h1
  have h2 := FP.Core.toNat_of64 (fp_fit h)
  rw [h1] at h2
  rw [h2]
  obtain ⟨a1, a2, a3, a4⟩ := h
  show (if c < FP.Core.b64.tails then FP.Core.assemble FP.Core.b64 false 0 c else FP.Core.assemble FP.Core.b64 false ((q - FP.Core.b64.qmin).toNat + 1) (c - FP.Core.b64.tails)) = _
  rw [fp_tails, if_neg (by omega), fp_qmin]
  unfold FP.Core.assemble
  rw [fp_tails, show (q - -1074).toNat + 1 = (q + 1075).toNat by omega]
  show (0 * _ + _) * _ + _ = _
  rw [Nat.zero_mul, Nat.zero_add]
theorem bitsOf_e {x : UInt64} {c : Nat} {q : Int} (hx : FP.Core.val64 x = .fin false c q) (hc : 4503599627370496 ≤ c ∧ c < 9007199254740992) (hq : -70 ≤ q ∧ q ≤ -30) : f_X7_bitsOf x = some x.toInt64 := by
  have hn : nrm c q := ⟨hc.1, hc.2, by omega, by omega⟩
  have h0 : Op.cmpValue (FP.dcmp x FP.dconst0) .g = 1 := by
    rw [dcmp_v hx fp_zero]
    refine cv_gt ?_ _
    show ((0 * 2 ^ _ : Nat) : Int) < ((c * 2 ^ _ : Nat) : Int)
    rw [Nat.zero_mul]
    have := Nat.mul_le_mul_left c (pow_le (k := (q - min q (-1074)).toNat))
    generalize c * 2 ^ (q - min q (-1074)).toNat = z at *
    omega
  have hl : ∃ y y2 p, f_X7_bitsOf_L18 FU x 1023 0 = some (y, p) ∧ f_X7_bitsOf_L54 FU y p 0 = some (y2, Int64.ofNat (q + 1075).toNat) ∧ FP.Core.val64 y2 = .fin false c (-52) := by
    by_cases c1 : -52 ≤ q
    · obtain ⟨d, hd⟩ : ∃ d : Nat, q = -52 + (d : Int) := ⟨(q + 52).toNat, by omega⟩
      obtain ⟨y, a1, a2⟩ := l18 hc d 0 FU x 1023 (by rw [← hd]; exact hx) (by omega) (by unfold FU; omega)
      obtain ⟨y2, b1, b2⟩ := l54 hc 0 0 FU y (1023 + Int64.ofNat d) a2 (by omega) (by unfold FU; omega)
      refine ⟨y, y2, _, a1, ?_, b2⟩
      rw [show f_X7_bitsOf_L54 FU y (1023 + Int64.ofNat d) 0 = some (y2, 1023 + Int64.ofNat d - Int64.ofNat 0) from b1, show Int64.ofNat 0 = (0 : Int64) from rfl, Int64.sub_zero, ex_up d (by omega), show (q + 1075).toNat = 1023 + d by omega]
    · obtain ⟨d, hd⟩ : ∃ d : Nat, q = -52 - (d : Int) := ⟨(-52 - q).toNat, by omega⟩
      obtain ⟨y2, b1, b2⟩ := l54 hc d 0 FU x 1023 (by rw [← hd]; exact hx) (by omega) (by unfold FU; omega)
      refine ⟨x, y2, 1023, ?_, ?_, b2⟩
      · show f_X7_bitsOf_L18 (4095 + 1) x 1023 (nI 0) = _
        rw [f_X7_bitsOf_L18, if_neg (by decide), (lt2 hx hn .l 0 (-51) fp_two).1 (by omega), if_pos (by decide)]
      · rw [show f_X7_bitsOf_L54 FU x 1023 0 = some (y2, 1023 - Int64.ofNat d) from b1, ex_dn d (by omega), show (q + 1075).toNat = 1023 - d by omega]
  obtain ⟨y, y2, p, a1, a2, a3⟩ := hl
  obtain ⟨f1, f2, f3⟩ := fp_frac hc a3
  unfold f_X7_bitsOf
  rw [h0, if_pos (by decide), a1]
  simp only [Option.bind_some]
  rw [a2]
  simp only [Option.bind_some]
  rw [f1, hg_t, f2, hg_t, f3, toI64, bits_e hx hn]
  obtain ⟨e, he⟩ : ∃ e : Nat, (q + 1075).toNat = 1000 + e := ⟨(q + 1075).toNat - 1000, by omega⟩
  rw [he, sh_e e (by omega), Int64.ofNat_add]
theorem fp_i2d {S : Nat} (h0 : 0 < S) (h1 : S ≤ 30000) : ∃ c q, FP.Core.val64 (FP.i2d (nI S)) = .fin false c q ∧ 4503599627370496 ≤ c ∧ c < 9007199254740992 ∧ -52 ≤ q ∧ q ≤ -37 := by
  obtain ⟨k, k1, k2, k3⟩ := fp_lg h0 (by omega)
  have hk : 37 ≤ k := by
    rcases Nat.lt_or_ge k 37 with h | h
    · have := Nat.mul_le_mul h1 (Nat.pow_le_pow_right (n := 2) (by omega) (show k ≤ 36 by omega))
      rw [show 30000 * 2 ^ 36 = 2061584302080000 from rfl] at this
      omega
    · exact h
  refine ⟨S * 2 ^ k, -(k : Int), ?_, k2, k3, by omega, by omega⟩
  rw [show FP.i2d (nI S) = FP.Core.i2d (nI S) from rfl, FP.Core.val64_i2d, pi_int (by omega)]
  show FP.Core.roundRatio FP.Core.b64 (decide ((S : Int) < 0)) S 1 0 = _
  rw [decide_eq_false (by omega)]
  refine FP.Core.roundRatio_exact FP.Core.good_b64 (by decide) (fp_fit ⟨k2, k3, by omega, by omega⟩) ?_
  rw [show (0 - -(k : Int)).toNat = k by omega, show (-(k : Int) - 0).toNat = 0 by omega, Nat.pow_zero, Nat.mul_one, Nat.mul_one]
theorem fp_lg52 {A : Nat} (h : 4503599627370496 ≤ A ∧ A < 9007199254740992) : A.log2 = 52 := by
  have a1 : A.log2 < 53 := (Nat.log2_lt (by omega)).mpr (by rw [show (2 : Nat) ^ 53 = 9007199254740992 from rfl]; exact h.2)
  have a3 : A < 2 ^ (A.log2 + 1) := Nat.lt_log2_self
  rcases Nat.lt_or_ge A.log2 52 with q | q
  · have := Nat.pow_le_pow_right (n := 2) (by omega) (show A.log2 + 1 ≤ 52 by omega)
    rw [show (2 : Nat) ^ 52 = 4503599627370496 from rfl] at this
    omega
  · omega
theorem fp_rr {A B : Nat} {e : Int} (hA : 4503599627370496 ≤ A ∧ A < 9007199254740992) (hB : 4503599627370496 ≤ B ∧ B < 9007199254740992) (he : -100 ≤ e ∧ e ≤ 100) : ∃ c q, FP.Core.roundRatio FP.Core.b64 false A B e = .fin false c q ∧ 4503599627370496 ≤ c ∧ c < 9007199254740992 ∧ e - 53 ≤ q ∧ q ≤ e - 51 := by
  have hf := FP.Core.roundRatio_fits FP.Core.good_b64 false A (B := B) (by omega) e
  have hq : FP.Core.quantum FP.Core.b64 A B e = e - 52 ∨ FP.Core.quantum FP.Core.b64 A B e = e - 53 := by
    have hl : FP.Core.leading A B = 0 ∨ FP.Core.leading A B = -1 := by
      unfold FP.Core.leading
      rw [fp_lg52 hA, fp_lg52 hB]
      dsimp only
      split
      · left; rfl
      · right; rfl
    unfold FP.Core.quantum
    rw [fp_qmin, show ((FP.Core.b64.p : Nat) : Int) - 1 = 52 from rfl]
    rcases hl with h | h <;> rw [h] <;> omega
  unfold FP.Core.roundRatio FP.Core.roundAt at *
  rw [if_neg (by omega)] at *
  generalize FP.Core.quantum FP.Core.b64 A B e = Q at *
  generalize FP.Core.nearest (FP.Core.unitsNum A e Q) (FP.Core.unitsDen B e Q) = N at *
  unfold FP.Core.settle FP.Core.bound at *
  rw [fp_qmax, fp_tails, show 2 ^ FP.Core.b64.p = 9007199254740992 from rfl] at *
  by_cases c1 : N < 9007199254740992
  · rw [if_pos c1, if_pos (by omega)] at *
    refine ⟨N, Q, rfl, ?_, c1, by omega, by omega⟩
    obtain ⟨_, _, _, h⟩ := hf
    rw [fp_qmin, fp_tails] at h
    rcases h with h | h
    · omega
    · exact h
  · rw [if_neg c1, if_pos (by omega)] at *
    exact ⟨4503599627370496, Q + 1, rfl, by omega, by omega, by omega, by omega⟩
theorem mean_e {S n : Nat} (hS : S ≤ 30000) (h1 : 1 ≤ n) (h2 : n ≤ 8) : gnn (FP.ddiv (FP.i2d (nI S)) (FP.i2d (nI n))) = true ∧ FP.Core.val64 (FP.ddiv (FP.i2d (nI S)) (FP.i2d (nI n))) ≠ .nan ∧ f_X7_bitsOf (FP.ddiv (FP.i2d (nI S)) (FP.i2d (nI n))) = some (FP.ddiv (FP.i2d (nI S)) (FP.i2d (nI n))).toInt64 := by
  obtain ⟨cn, qn, n1, n2, n3, n4, n5⟩ := fp_i2d (S := n) (by omega) (by omega)
  rcases Nat.eq_zero_or_pos S with h0 | h0
  · subst h0
    have e0 : FP.Core.val64 (FP.ddiv (FP.i2d (nI 0)) (FP.i2d (nI n))) = .fin false 0 FP.Core.b64.qmin := by
      rw [show FP.ddiv (FP.i2d (nI 0)) (FP.i2d (nI n)) = FP.Core.ddiv (FP.i2d (nI 0)) (FP.i2d (nI n)) from rfl, FP.Core.val64_ddiv, n1, show FP.Core.val64 (FP.i2d (nI 0)) = .fin false 0 (-1074) by decide +kernel]
      show (if cn = 0 then _ else FP.Core.roundRatio FP.Core.b64 (false != false) 0 cn (-1074 - qn)) = _
      rw [if_neg (by omega)]; rfl
    have ez : FP.ddiv (FP.i2d (nI 0)) (FP.i2d (nI n)) = FP.dconst0 := FP.Core.val64_inj (fp_nn e0) (by rw [e0, fp_zero, fp_qmin])
    refine ⟨gnn_v e0, fp_nn e0, ?_⟩
    rw [ez]
    unfold f_X7_bitsOf
    rw [show Op.cmpValue (FP.dcmp FP.dconst0 FP.dconst0) .g = 0 by decide +kernel, if_neg (by decide)]
    rfl
  · obtain ⟨cs, qs, s1, s2, s3, s4, s5⟩ := fp_i2d h0 hS
    obtain ⟨c, q, r1, r2, r3, r4, r5⟩ := fp_rr (e := qs - qn) ⟨s2, s3⟩ ⟨n2, n3⟩ (by omega)
    have e0 : FP.Core.val64 (FP.ddiv (FP.i2d (nI S)) (FP.i2d (nI n))) = .fin false c q := by
      rw [show FP.ddiv (FP.i2d (nI S)) (FP.i2d (nI n)) = FP.Core.ddiv (FP.i2d (nI S)) (FP.i2d (nI n)) from rfl, FP.Core.val64_ddiv, n1, s1, ← r1]
      show (if cn = 0 then _ else FP.Core.roundRatio FP.Core.b64 (false != false) cs cn (qs - qn)) = _
      rw [if_neg (by omega)]; rfl
    exact ⟨gnn_v e0, fp_nn e0, bitsOf_e e0 ⟨r2, r3⟩ (by omega)⟩
