def pN (x : Nat) : Nat := if 70 ≤ x % 100 then x % 400 / 100 + 4 else x % 400 / 100
theorem pN_b (x : Nat) : pN x < 8 := by unfold pN; split <;> omega
theorem mod_e {x m : Nat} (hx : x < 2147483648) (hm : m < 2147483648) : nI x - nI x / nI m * nI m = nI (x % m) := by
  rw [pi_div hx hm, pi_mul, pi_sub (Nat.div_mul_le_self x m)]
  congr 1
  have := Nat.mod_add_div x m
  rw [Nat.mul_comm (x / m) m]; omega
theorem x6_partOfCourse {I : Nat → Nat → Int32} {c x : Nat} (hx : x ≤ 3600) (ex : I c 4 = nI x) : f_X6_partOfCourse c I = some (nI (pN x)) := by
  unfold f_X6_partOfCourse
  rw [ex, show (100 : Int32) = nI 100 from rfl, show (400 : Int32) = nI 400 from rfl, show (70 : Int32) = nI 70 from rfl, show (4 : Int32) = nI 4 from rfl]
  rw [mod_e (by omega) (by omega), mod_e (by omega) (by omega), pi_div (by omega) (by omega), pi_add]
  unfold pN
  by_cases h : 70 ≤ x % 100
  · rw [if_pos h, if_pos (by rw [pi_le (by omega) (by omega)]; exact h)]
  · rw [if_neg h, if_neg (by rw [pi_le (by omega) (by omega)]; exact h)]
theorem x8_where {I : Nat → Nat → Int32} {b x : Nat} (hb : b < 8) (hx : x ≤ 3600) (ex : I 130 (16 * b + 7) = nI x) : f_X8_where (nI b) I = some (nI (pN x)) := by
  unfold f_X8_where
  rw [show (7 : Int32) = nI 7 from rfl, x8_of hb (by omega), ex]
  simp only [Option.bind_some]
  rw [show (100 : Int32) = nI 100 from rfl, show (400 : Int32) = nI 400 from rfl, show (70 : Int32) = nI 70 from rfl, show (4 : Int32) = nI 4 from rfl]
  rw [mod_e (by omega) (by omega), mod_e (by omega) (by omega), pi_div (by omega) (by omega), pi_add]
  have e : x % 400 % 100 = x % 100 := by omega
  unfold pN
  rw [e]
  by_cases h : 70 ≤ x % 100
  · rw [if_pos h, if_pos (by rw [pi_le (by omega) (by omega)]; exact h), Nat.add_comm]
  · rw [if_neg h, if_neg (by rw [pi_le (by omega) (by omega)]; exact h)]
def aB (s : Nat → Int32) (b : Nat) : Nat :=
  if pN (fl s b) < 4 then tn (s (16 * b)) else min (tn (s (16 * b))) (tn (s (129 + (pN (fl s b) - 4))) + 2 * tn (s (16 * b + 5)))
def aF (s : Nat → Int32) (b : Nat) : Nat := if 4 + tn (s (16 * b + 4)) / 10 ≤ aB s b then aB s b - tn (s (16 * b + 4)) / 10 else 4
theorem aB_b {s : Nat → Int32} {n b : Nat} (h : WX s n) (hb : b < n) : 8 ≤ aB s b ∧ aB s b ≤ 40 := by
  have h1 := ((h.2.1 b hb).1).e (by omega)
  have hp := pN_b (fl s b)
  unfold aB
  split
  · omega
  · have h2 := (h.2.2.2.1 (pN (fl s b) - 4) (by omega)).e (by omega)
    omega
theorem aF_b {s : Nat → Int32} {n b : Nat} (h : WX s n) (hb : b < n) : 4 ≤ aF s b ∧ aF s b ≤ 40 := by
  have := aB_b h hb
  unfold aF; split <;> omega
theorem low_e {x y : Nat} (hx : x ≤ 100000) (hy : y ≤ 100000) : (if (4 : Int32) ≤ nI x - nI y then some (nI x - nI y) else some (4 : Int32)) = some (nI (if 4 + y ≤ x then x - y else 4)) := by
  have e : (nI x - nI y).toInt = (x : Int) - y := by
    rw [Int32.toInt_sub, pi_int (by omega), pi_int (by omega)]; apply Int.bmod_eq_of_le <;> omega
  by_cases h : 4 + y ≤ x
  · rw [if_pos (by rw [Int32.le_iff_toInt_le, e, show (4 : Int32).toInt = 4 from rfl]; omega), if_pos h, pi_sub (by omega)]
  · rw [if_neg (by rw [Int32.le_iff_toInt_le, e, show (4 : Int32).toInt = 4 from rfl]; omega), if_neg h]; rfl
theorem x8_allowed {I : Nat → Nat → Int32} {n b : Nat} (h : WX (I 130) n) (hb : b < n) : f_X8_allowed (nI b) I = some (nI (aF (I 130) b)) := by
  have hf := h.fl.2.2 b hb
  have hb8 : b < 8 := by have := h.1.2; omega
  have h1 := ((h.2.1 b hb).1).e (by omega)
  have h4 := ((h.2.1 b hb).2.2.2.2.1).e (by omega)
  have h5 := ((h.2.1 b hb).2.2.2.2.2.1).e (by omega)
  have hp := pN_b (fl (I 130) b)
  have hab := aB_b h hb
  unfold f_X8_allowed
  rw [x8_where hb8 hf.2 hf.1, show (5 : Int32) = nI 5 from rfl, show f_X8_of (nI b) (0 : Int32) I = some (I 130 (16 * b)) from x8_of hb8 (f := 0) (by omega), x8_of hb8 (f := 5) (by omega)]
  rw [show f_X8_of (nI b) (4 : Int32) I = some (I 130 (16 * b + 4)) from x8_of hb8 (f := 4) (by omega)]
  simp only [Option.bind_some]
  have key : ((if (4 : Int32) ≤ nI (pN (fl (I 130) b)) then
      hg (gin (((129 : Int32) + nI (pN (fl (I 130) b))) - (4 : Int32)) 151) <|
      some ((I 130 ((((129 : Int32) + nI (pN (fl (I 130) b))) - (4 : Int32)).toNatClampNeg)) + ((2 : Int32) * I 130 (16 * b + 5)))
    else some (I 130 (16 * b))).bind fun p3 => (if p3 ≤ I 130 (16 * b) then some p3 else some (I 130 (16 * b)))) = some (nI (aB (I 130) b)) := by
    rw [show (129 : Int32) = nI 129 from rfl, show (4 : Int32) = nI 4 from rfl, show (2 : Int32) = nI 2 from rfl, pi_add]
    unfold aB
    by_cases c : pN (fl (I 130) b) < 4
    · rw [if_neg (by rw [pi_le (by omega) (by omega)]; omega), if_pos c]
      simp only [Option.bind_some]
      rw [if_pos (Int32.le_refl _)]; exact congrArg some h1.1
    · rw [if_pos (by rw [pi_le (by omega) (by omega)]; omega), if_neg c, pi_sub (by omega), pi_gin (by omega), pi_tn (by omega)]
      rw [show 129 + pN (fl (I 130) b) - 4 = 129 + (pN (fl (I 130) b) - 4) by omega, show decide (129 + (pN (fl (I 130) b) - 4) < 151) = true from decide_eq_true (by omega), hg_t]
      have h2 := (h.2.2.2.1 (pN (fl (I 130) b) - 4) (by omega)).e (by omega)
      rw [h2.1, h5.1, h1.1, pi_mul, pi_add]
      simp only [Option.bind_some]
      rw [← h2.1, ← h5.1, ← h1.1]
      generalize tn (I 130 (129 + (pN (fl (I 130) b) - 4))) = u at *
      generalize tn (I 130 (16 * b + 5)) = v at *
      rw [h1.1]
      generalize tn (I 130 (16 * b)) = w at *
      rw [show tn (nI w) = w from pi_tn (by omega)]
      by_cases d : u + 2 * v ≤ w
      · rw [if_pos (by rw [pi_le (by omega) (by omega)]; exact d), Nat.min_eq_right d]
      · rw [if_neg (by rw [pi_le (by omega) (by omega)]; exact d), Nat.min_eq_left (by omega)]
  simp only [← Option.bind_assoc]
  refine (congrArg (fun z => Option.bind z _) key).trans ?_
  simp only [Option.bind_some]
  rw [h4.1, show (10 : Int32) = nI 10 from rfl, pi_div (by omega) (by omega), low_e (by omega) (by omega)]
  rfl
theorem x3_limitAt {I : Nat → Nat → Int32} {β c : Nat} (hc : c < 4) : f_X3_limitAt β (nI c) I = some (I (β + 3) c) := by
  unfold f_X3_limitAt
  rw [show (0 : Int32) = nI 0 from rfl, show (4 : Int32) = nI 4 from rfl, if_neg (by rw [pi_lt (by omega) (by omega)]; omega), if_neg (by rw [pi_le (by omega) (by omega)]; omega), pi_gin (by omega), decide_eq_true hc, hg_t, pi_tn (by omega)]
theorem x3_allowedFeet {I : Nat → Nat → Int32} {β n b : Nat} {s : Nat → Int32} (h : WX s n) (hb : b < n) (hr : RB I (cB β b) s b) (hl : ∀ k, k < 4 → I (β + 3) k = s (129 + k)) : f_X3_allowedFeet β (cB β b) I = some (nI (aF s b)) := by
  have hf := h.fl.2.2 b hb
  have hb8 : b < 8 := by have := h.1.2; omega
  have h1 := ((h.2.1 b hb).1).e (by omega)
  have h4 := ((h.2.1 b hb).2.2.2.2.1).e (by omega)
  have h5 := ((h.2.1 b hb).2.2.2.2.2.1).e (by omega)
  have hp := pN_b (fl s b)
  have hab := aB_b h hb
  unfold f_X3_allowedFeet
  rw [x6_partOfCourse hf.2 (hr.2.2.2.1.trans hf.1), hr.1, hr.2.2.2.2.2.2.1, hr.2.2.2.2.2.2.2.1]
  simp only [Option.bind_some]
  have key : (if nI (pN (fl s b)) - (4 : Int32) < 0 then some (s (16 * b)) else
      (f_X3_limitAt β (nI (pN (fl s b)) - (4 : Int32)) I).bind fun r5 =>
      (if s (16 * b + 5) = (1 : Int32) then some (2 : Int32) else some (0 : Int32)).bind fun p7 =>
      (if s (16 * b) ≤ (r5 + p7) then some (s (16 * b)) else some (r5 + p7)).bind fun p8 => some p8) = some (nI (aB s b)) := by
    unfold aB
    have e4 : (nI (pN (fl s b)) - (4 : Int32)).toInt = (pN (fl s b) : Int) - 4 := by
      rw [Int32.toInt_sub, pi_int (by omega), show (4 : Int32).toInt = 4 from rfl]; apply Int.bmod_eq_of_le <;> omega
    by_cases c : pN (fl s b) < 4
    · rw [if_pos (by rw [Int32.lt_iff_toInt_lt, e4, show (0 : Int32).toInt = 0 from rfl]; omega), if_pos c]
      rw [← h1.1]
    · rw [if_neg (by rw [Int32.lt_iff_toInt_lt, e4, show (0 : Int32).toInt = 0 from rfl]; omega), if_neg c]
      rw [show (4 : Int32) = nI 4 from rfl, pi_sub (by omega), x3_limitAt (by omega), hl _ (by omega)]
      have h2 := (h.2.2.2.1 (pN (fl s b) - 4) (by omega)).e (by omega)
      simp only [Option.bind_some]
      have h7 : (if s (16 * b + 5) = (1 : Int32) then some (2 : Int32) else some (0 : Int32)) = some (nI (2 * tn (s (16 * b + 5)))) := by
        have hv := h5.2.2
        by_cases d : tn (s (16 * b + 5)) = 1
        · rw [d, if_pos (by rw [h5.1, d]; rfl)]; rfl
        · rw [if_neg (by rw [h5.1, show (1 : Int32) = nI 1 from rfl, pi_eq (by omega) (by omega)]; exact d), show tn (s (16 * b + 5)) = 0 by omega]; rfl
      rw [h7]
      simp only [Option.bind_some]
      generalize tn (s (16 * b + 5)) = v at *
      rw [h2.1, h1.1, pi_add, ← h2.1, ← h1.1]
      generalize tn (s (129 + (pN (fl s b) - 4))) = u at *
      generalize tn (s (16 * b)) = w at *
      rw [h1.1]
      by_cases d : w ≤ u + 2 * v
      · rw [if_pos (by rw [pi_le (by omega) (by omega)]; exact d), Nat.min_eq_left d]; rfl
      · rw [if_neg (by rw [pi_le (by omega) (by omega)]; exact d), Nat.min_eq_right (by omega)]; rfl
  refine (congrArg (fun z => Option.bind z _) key).trans ?_
  simp only [Option.bind_some]
  rw [h4.1, show (10 : Int32) = nI 10 from rfl, pi_div (by omega) (by omega), low_e (by omega) (by omega)]
  rfl
