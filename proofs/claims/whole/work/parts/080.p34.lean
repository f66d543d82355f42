theorem x8_copyBack {K : Nat → Nat → Int32} {p : Nat} (hp : p < 6) (h3 : K 129 3 = nI p) : ∃ X, f_X8_undo_L31 FU 0 K = some X ∧ (∀ b, b ≠ 130 → X b = K b) ∧ (∀ k, k < 151 → X 130 k = K 132 (151 * p + k)) := by
  have := loop_go (fun fuel k (st : Nat → Nat → Int32) => f_X8_undo_L31 fuel k st) 151 (fun k X => (∀ b, b ≠ 130 → X b = K b) ∧ (∀ j, j < k → X 130 j = K 132 (151 * p + j))) (fun X => (∀ b, b ≠ 130 → X b = K b) ∧ (∀ j, j < 151 → X 130 j = K 132 (151 * p + j))) ?_ FU 0 K (by omega) ⟨fun _ _ => rfl, fun i hi => absurd hi (by omega)⟩ (by unfold FU; omega)
  · exact this
  · rintro k X hk ⟨e1, e2⟩
    rcases Nat.lt_or_ge k 151 with h | h
    · right
      refine ⟨h, gup X 130 k (K 132 (151 * p + k)), ⟨fun b hb => (gup_ne hb).trans (e1 b hb), fun i hi => ?_⟩, fun fuel => ?_⟩
      · by_cases e : i = k
        · rw [e, gup_at]
        · rw [gup_i (by omega)]; exact e2 i (by omega)
      · show f_X8_undo_L31 (fuel+1) (nI k) X = _
        rw [f_X8_undo_L31, if_neg (by rw [show (151 : Int32) = nI 151 from rfl, pi_le (by omega) (by omega)]; omega), e1 129 (by omega), h3, show (151 : Int32) = nI 151 from rfl, pi_mul, pi_add, pi_gin (by omega), decide_eq_true (by omega), hg_t, pi_gin (by omega), decide_eq_true (by omega), hg_t, hlet_e, hlet_e, pi_tn (by omega), pi_tn (by omega), show nI k + (1 : Int32) = nI (k + 1) from pi_add k 1, e1 132 (by omega)]
    · left
      have : k = 151 := by omega
      subst this
      refine ⟨X, fun fuel => ?_, e1, e2⟩
      show f_X8_undo_L31 (fuel+1) (nI 151) X = _
      rw [f_X8_undo_L31, if_pos (by decide)]
section CS
variable {SL' : Nat} {sx : Nat → Int32} {p4 : Int32} {I : Nat → Nat → Int32} {O : Nat → Nat → Option Nat} {J : Nat → Nat → Int64}
theorem cs_14 (h : Inv2 I I O) : CaseOk (f_L_case14 SL' sx p4 I O J) := by
  have hh := h
  obtain ⟨n, p, len, h1, h2, ⟨s1, s2, s3, σ, s4, s5, s6⟩, h4, h5, h6, h7, h8⟩ := hh
  unfold f_L_case14 f_L_undo f_X7_undo f_X4_dropLatest f_X8_undo
  by_cases hp : p = 0
  · subst hp
    refine ⟨gup I 129 8 1, O, J, ?_, Inv2_th h⟩
    have c0 : I 129 3 = 0 := by rw [s2]; rfl
    have c1 : I 25 1 ≤ 0 := by rw [s1]; decide
    rw [if_pos c1]
    simp only [Option.bind_some, hopt_e1, hsum, if_true, eq_self]
    rw [if_pos c0]
    simp only [Option.bind_some]
    rw [ref1]
    simp only [Option.bind_some, show ¬ ((1 : Int32) = 0) by decide, if_false, f_X8_thrown, gup_at, if_true]
  · have hq : p - 1 < 6 := by omega
    obtain ⟨sq, oq⟩ := s4 (p - 1) hq
    have hBq := isB_s sq
    obtain ⟨m, hm⟩ := s6 (p - 1) (by omega)
    have em : nI p - (1 : Int32) = nI (p - 1) := pi_sub (b := 1) (by omega)
    have z : ∀ b, b ≠ 25 → gup I 25 1 (nI (p - 1)) b = I b := fun b hb => gup_ne hb
    have hm' : RR (gup I 25 1 (nI (p - 1))) (27 + 12 * σ (p - 1)) (fun k => I 132 (151 * (p - 1) + k)) m := RR_I (fun b q1 q2 => z b (by omega)) hm
    obtain ⟨X, x1, x2, x3, x4, x5, x6⟩ := x3_take (I := gup I 25 1 (nI (p - 1))) (β := 1) (γ := 27 + 12 * σ (p - 1)) (Or.inl rfl) hBq (by omega) hm'.2.1 hm'.gz5
    have hZ1 : RZ (gup I 25 1 (nI (p - 1))) 1 := RZ_I (fun b q1 q2 => z b (by omega)) (h2 1 (Or.inl rfl))
    have hRX := take_RR hZ1 hm' x3 x4 x5 x6
    have e3 : gup (gup X 129 8 0) 129 3 (nI (p - 1)) 129 3 = nI (p - 1) := gup_at
    obtain ⟨Y, y1, y2, y3⟩ := x8_copyBack (K := gup (gup X 129 8 0) 129 3 (nI (p - 1))) hq e3
    have wX : ∀ b, 13 ≤ b → b ≠ 25 → X b = I b := fun b q1 q2 => (x2 b (by omega)).trans (z b q2)
    have wY : ∀ b, 13 ≤ b → b ≠ 25 → b ≠ 129 → b ≠ 130 → Y b = I b := fun b q1 q2 q3 q4 => by rw [y2 b q4, gup_ne q3, gup_ne q3]; exact wX b q1 q2
    have y129 : ∀ f, f ≠ 8 → f ≠ 3 → Y 129 f = I 129 f := fun f q1 q2 => by rw [y2 129 (by omega), gup_i q2, gup_i q1, wX 129 (by omega) (by omega)]
    have yc : ∀ b, b < 13 → Y b = X b := fun b hb => by rw [y2 b (by omega), gup_ne (by omega), gup_ne (by omega)]
    refine ⟨Y, O, J, ?_, m, p - 1, len, ?_, fun β hβ => ?_, ⟨?_, ?_, by omega, σ, s4, s5, fun i hi => ?_⟩, fun j hj => ?_, ?_, ?_, h7, fun i hi => ?_⟩
    · rw [s1, if_neg (by rw [show (0 : Int32) = nI 0 from rfl, pi_le (by omega) (by omega)]; omega), if_pos (by rw [show (6 : Int32) = nI 6 from rfl, pi_le (by omega) (by omega)]; omega), em]
      simp only [hlet_e, gup_at]
      rw [pi_gin (by omega), decide_eq_true hq, hg_t, pi_tn (by omega), oq, ov_some (sk_3 sq)]
      simp only [Option.bind_some, hopt_e2]
      rw [hk_e (sk_3 sq), x1]
      simp only [Option.bind_some, hsum]
      have x129 : X 129 3 = nI p := by rw [wX 129 (by omega) (by omega)]; exact s2
      have c0 : ¬ (X 129 3 = 0) := by rw [x129, show (0 : Int32) = nI 0 from rfl, pi_eq (by omega) (by omega)]; exact hp
      rw [if_neg c0]
      simp only [Option.bind_some]
      rw [ref0]
      simp only [Option.bind_some, if_true]
      rw [gup_i (show (3 : Nat) ≠ 8 by omega), x129, em, y1]
      simp only [Option.bind_some, f_X8_thrown]
      have t8 : Y 129 8 = 0 := by rw [y2 129 (by omega), gup_i (by omega), gup_at]
      exact if_pos t8
    · refine RR_I (fun b q1 q2 => yc b (by omega)) (RR_s (s := fun k => I 132 (151 * (p - 1) + k)) (fun k hk => ?_) hRX)
      rw [y3 k hk, gup_n (by omega), gup_n (by omega), wX 132 (by omega) (by omega)]
    · by_cases eβ : β = 1
      · rw [eβ]; exact RZ_I (fun b q1 q2 => yc b (by omega)) hRX.2.1
      · have hb : 13 ≤ β ∧ (β + 12 ≤ 25 ∨ 26 ≤ β) ∧ β + 12 ≤ 129 := by rcases hβ with rfl | rfl | ⟨k, hk, rfl⟩ | rfl | rfl <;> omega
        exact RZ_I (fun b q1 q2 => wY b (by omega) (by omega) (by omega) (by omega)) (h2 β hβ)
    · rw [y2 25 (by omega), gup_ne (by omega), gup_ne (by omega), x2 25 (by omega), gup_at]
    · rw [y2 129 (by omega), gup_at]
    · obtain ⟨m', hm2⟩ := s6 i (by omega)
      have := (s4 i (by omega)).1
      rw [wY 132 (by omega) (by omega) (by omega) (by omega)]
      exact ⟨m', RR_I (fun b q1 q2 => wY b (by omega) (by omega) (by omega) (by omega)) hm2⟩
    · obtain ⟨a1, a2, a3⟩ := h4 j hj
      rw [wY 101 (by omega) (by omega) (by omega) (by omega), wY 134 (by omega) (by omega) (by omega) (by omega), wY 133 (by omega) (by omega) (by omega) (by omega)]
      refine ⟨a1, a2, fun hq => ?_⟩
      obtain ⟨m', hm2⟩ := a3 hq
      exact ⟨m', RR_I (fun b q1 q2 => wY b (by omega) (by omega) (by omega) (by omega)) hm2⟩
    · rw [wY 126 (by omega) (by omega) (by omega) (by omega)]; exact h5
    · rw [y129 7 (by omega) (by omega)]; exact h6
    · rw [wY 127 (by omega) (by omega) (by omega) (by omega), wY 135 (by omega) (by omega) (by omega) (by omega)]; exact h8 i hi
end CS
