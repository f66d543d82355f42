section QQ
variable {I : Nat → Nat → Int32} {n : Nat} {J : Nat → Nat → Int64}
theorem q_limitOf (h : QS I n) (a : Int32) : QA (f_W_limitOf a I J) (f_X8_limitOf a I) I J := by
  unfold f_W_limitOf f_X7_limitOf f_X8_limitOf f_X7_checkCorner f_X8_in
  by_cases c0 : a < 0
  · right
    refine ⟨1, 0, by decide, ?_, ?_⟩
    · rw [if_pos c0]; rfl
    · rw [if_pos c0]; rfl
  · obtain ⟨k, hk, rfl⟩ := pi_of (x := a) (by rw [Int32.lt_iff_toInt_lt, show (0 : Int32).toInt = 0 from rfl] at c0; omega)
    rw [if_neg c0, if_neg c0, show (4 : Int32) = nI 4 from rfl, show (3 : Int32) = nI 3 from rfl]
    by_cases c : k < 4
    · left
      refine ⟨I 130 (129 + k), ?_, ?_⟩
      · rw [if_pos (by rw [pi_lt (by omega) (by omega)]; exact c)]
        simp only [Option.bind_some, hsum]
        rw [x3_limitAt c, h.1.2.1 k c]
        simp only [Option.bind_some, hlet_e]
        rw [t0']
      · rw [if_neg (by rw [pi_lt (by omega) (by omega)]; omega)]
        simp only [Option.bind_some]
        rw [if_neg (by decide)]; simp only [Option.bind_some]
        rw [ref0]; simp only [Option.bind_some, if_true]
        rw [show (129 : Int32) = nI 129 from rfl, pi_add, pi_gin (by omega), decide_eq_true (by omega), hg_t, pi_tn (by omega), g130]
    · right
      refine ⟨1, 0, by decide, ?_, ?_⟩
      · rw [if_neg (by rw [pi_lt (by omega) (by omega)]; exact c)]; rfl
      · rw [if_pos (by rw [pi_lt (by omega) (by omega)]; omega)]; rfl
theorem q_allowance (h : QS I n) (a : Int32) : QA (f_W_allowance a I J) (f_X8_allowance a I) I J := by
  have hn := h.2.2.2.1.1.2
  unfold f_W_allowance f_X7_allowance f_X7_knownToFly f_X8_allowance f_X8_isIdle
  rcases h.k a with ⟨b, hb, rfl, e1, e2⟩ | ⟨e1, e2⟩
  · have rb := h.1.2.2.1 b hb
    have hs := sk_b (β := 1) (b := b) (Or.inl rfl) (by omega)
    rw [e1, e2]
    simp only [Option.bind_some, hsum]
    rw [hk_e hs, rb.2.2.2.2.2.2.2.2.1, x8_flies (by omega)]
    simp only [Option.bind_some]
    by_cases c : I 130 (16 * b + 6) = 1
    · left
      refine ⟨nI (aF (I 130) b), ?_, ?_⟩
      · rw [if_pos c]; simp only [Option.bind_some]
        rw [hk_e hs, x3_allowedFeet h.2.2.2.1 hb rb h.1.2.1]; simp only [Option.bind_some, hlet_e]; rw [t0']
      · rw [if_pos c, if_neg (by decide), if_neg (by decide)]; simp only [Option.bind_some]
        rw [ref0]; simp only [Option.bind_some]
        rw [show gz (0 : Int32) = true by decide, hg_t]; simp only [Option.bind_some, if_true]
        rw [x8_allowed (I := gup I 129 8 0) (n := n) (by rw [g130]; exact h.2.2.2.1) hb, g130]; rfl
    · right
      refine ⟨2, 0, by decide, ?_, ?_⟩
      · rw [if_neg c]; rfl
      · rw [if_neg c, if_neg (by decide), if_pos rfl]; rfl
  · right
    refine ⟨1, 0, by decide, ?_, ?_⟩
    · rw [e1]; rfl
    · rw [e2]; rfl
theorem q_isDrafting (h : QS I n) (a : Int32) : (∃ v : Int64, (f_W_isDrafting a I J = some (0, gup J 137 0 v)) ∧ ∃ r, f_X8_isDrafting a I = some (r, gup I 129 8 0) ∧ (if r = 0 then (0 : Int64) else 1) = v) ∨ (∃ c r : Int32, c ≠ 0 ∧ f_W_isDrafting a I J = some (c, J) ∧ f_X8_isDrafting a I = some (r, gup I 129 8 c)) := by
  have hn := h.2.2.2.1.1.2
  unfold f_W_isDrafting f_X7_isDrafting f_X7_knownToFly f_X8_isDrafting f_X8_isIdle
  rcases h.k a with ⟨b, hb, rfl, e1, e2⟩ | ⟨e1, e2⟩
  · have rb := h.1.2.2.1 b hb
    have hs := sk_b (β := 1) (b := b) (Or.inl rfl) (by omega)
    rw [e1, e2]
    simp only [Option.bind_some, hsum]
    rw [hk_e hs, rb.2.2.2.2.2.2.2.2.1, x8_flies (by omega)]
    simp only [Option.bind_some]
    by_cases c : I 130 (16 * b + 6) = 1
    · left
      have hq := h.1.q (Or.inl rfl) h.2.1 h.2.2.2.1
      obtain ⟨r, hr, hN⟩ := x3_nextAhead hq hb
      have hd := x3_draftFeet hq hb hN
      have hm := x8_isDrafted (I := gup I 129 8 0) (n := n) (b := b) (r := r) (by rw [g130]; exact h.2.2.2.1.fl) hb (by rw [g130]; exact hN)
      rw [g130] at hm
      rw [if_pos c, if_pos c, if_neg (show ¬ ((1 : Int32) = 0) by decide), if_neg (show ¬ ((1 : Int32) = 0) by decide)]
      simp only [Option.bind_some]
      rw [hk_e hs, hr, ref0]
      simp only [Option.bind_some]
      rw [hd, show gz (0 : Int32) = true by decide, hg_t]
      simp only [Option.bind_some, if_true]
      rw [hm]
      simp only [Option.bind_some, hlet_e]
      rw [t0']
      have hdb := drf_b (s := I 130) (b := b) (r := r)
      by_cases d : drf (I 130) b r = 0
      · rw [d, if_pos (show nI 0 ≤ 0 by decide)]
        exact ⟨0, rfl, 0, rfl, rfl⟩
      · have d0 : ¬ (nI (drf (I 130) b r) ≤ 0) := by rw [show (0 : Int32) = nI 0 from rfl, pi_le (by omega) (by omega)]; omega
        rw [if_neg d0, if_neg d]
        exact ⟨1, rfl, 1, rfl, rfl⟩
    · right
      refine ⟨2, 0, by decide, ?_, ?_⟩
      · rw [if_neg c]; rfl
      · rw [if_neg c, if_neg (by decide), if_pos rfl]; rfl
  · right
    refine ⟨1, 0, by decide, ?_, ?_⟩
    · rw [e1]; rfl
    · rw [e2]; rfl
theorem q_arrivedAt (h : QS I n) (a : Int32) : QA (f_W_arrivedAt a I J) (f_X8_arrivedAt a I) I J := by
  have hn := h.2.2.2.1.1.2
  have hw := h.2.2.2.1
  have hc := cnt3_le (I 130) n
  unfold f_W_arrivedAt f_X7_arrivedAt f_X8_arrivedAt
  have hin : f_X8_in a (0 : Int32) (nI (cnt3 (I 130) n) - (1 : Int32)) = some (if ∃ k, k < cnt3 (I 130) n ∧ a = nI k then 1 else 0) := by
    unfold f_X8_in
    by_cases c0 : a < 0
    · rw [if_pos c0, if_neg]
      rintro ⟨k, hk, rfl⟩
      rw [show (0 : Int32) = nI 0 from rfl, pi_lt (by omega) (by omega)] at c0; omega
    · obtain ⟨k, hk, rfl⟩ := pi_of (x := a) (by rw [Int32.lt_iff_toInt_lt, show (0 : Int32).toInt = 0 from rfl] at c0; omega)
      have e1 : (nI (cnt3 (I 130) n) - (1 : Int32)).toInt = (cnt3 (I 130) n : Int) - 1 := by
        rw [Int32.toInt_sub, pi_int (by omega), show (1 : Int32).toInt = 1 from rfl]; apply Int.bmod_eq_of_le <;> omega
      rw [if_neg c0]
      by_cases c1 : k < cnt3 (I 130) n
      · rw [if_neg (by rw [Int32.lt_iff_toInt_lt, pi_int hk, e1]; omega), if_pos ⟨k, c1, rfl⟩]
      · rw [if_pos (by rw [Int32.lt_iff_toInt_lt, pi_int hk, e1]; omega), if_neg]
        rintro ⟨j, hj, e⟩
        rw [pi_eq hk (by omega)] at e; omega
  rw [t135, hw.a.1]
  rcases x3_arrivedAs (a := a) (Or.inl rfl) hw h.1 h.2.1 with ⟨k, b, hk, rfl, hb, e1, e2⟩ | ⟨hno, e2⟩
  · left
    refine ⟨nI b, ?_, ?_⟩
    · rw [e2]; simp only [Option.bind_some, hopt_e2]
      rw [hk_e (sk_b (Or.inl rfl) (by omega)), (h.2.1 b (by omega)).1]
      simp only [Option.bind_some, hsum, hlet_e]
      rw [t0']
    · have h1 : f_X8_in (nI k) (0 : Int32) (nI (cnt3 (I 130) n) - (1 : Int32)) = some 1 := by rw [hin, if_pos ⟨k, hk, rfl⟩]
      rw [h1]; simp only [Option.bind_some]
      rw [if_neg (by decide)]; simp only [Option.bind_some]
      rw [ref0]; simp only [Option.bind_some, if_true]
      rw [show (136 : Int32) = nI 136 from rfl, pi_add, pi_gin (by omega), decide_eq_true (by omega), hg_t, pi_tn (by omega), g130, e1]
  · right
    refine ⟨1, 0, by decide, ?_, ?_⟩
    · rw [e2]; rfl
    · have h1 : f_X8_in a (0 : Int32) (nI (cnt3 (I 130) n) - (1 : Int32)) = some 0 := by rw [hin, if_neg (fun ⟨k, hk, e⟩ => hno k hk e)]
      rw [h1]; rfl
end QQ
