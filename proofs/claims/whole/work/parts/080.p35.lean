theorem x8_slotBack {K : Nat → Nat → Int32} {a : Nat} (ha : a < 2) : ∃ X, f_X8_goBack_L40 (nI a) FU 0 K = some X ∧ (∀ b, b ≠ 130 → X b = K b) ∧ (∀ k, k < 151 → X 130 k = K 133 (151 * a + k)) := by
  have := loop_go (fun fuel k (st : Nat → Nat → Int32) => f_X8_goBack_L40 (nI a) fuel k st) 151 (fun k X => (∀ b, b ≠ 130 → X b = K b) ∧ (∀ j, j < k → X 130 j = K 133 (151 * a + j))) (fun X => (∀ b, b ≠ 130 → X b = K b) ∧ (∀ j, j < 151 → X 130 j = K 133 (151 * a + j))) ?_ FU 0 K (by omega) ⟨fun _ _ => rfl, fun i hi => absurd hi (by omega)⟩ (by unfold FU; omega)
  · exact this
  · rintro k X hk ⟨e1, e2⟩
    rcases Nat.lt_or_ge k 151 with h | h
    · right
      refine ⟨h, gup X 130 k (K 133 (151 * a + k)), ⟨fun b hb => (gup_ne hb).trans (e1 b hb), fun i hi => ?_⟩, fun fuel => ?_⟩
      · by_cases e : i = k
        · rw [e, gup_at]
        · rw [gup_i (by omega)]; exact e2 i (by omega)
      · show f_X8_goBack_L40 (nI a) (fuel+1) (nI k) X = _
        rw [f_X8_goBack_L40, if_neg (by rw [show (151 : Int32) = nI 151 from rfl, pi_le (by omega) (by omega)]; omega), show (151 : Int32) = nI 151 from rfl, pi_mul, pi_add, pi_gin (by omega), decide_eq_true (by omega), hg_t, pi_gin (by omega), decide_eq_true (by omega), hg_t, hlet_e, hlet_e, pi_tn (by omega), pi_tn (by omega), show nI k + (1 : Int32) = nI (k + 1) from pi_add k 1, e1 133 (by omega)]
    · left
      have : k = 151 := by omega
      subst this
      refine ⟨X, fun fuel => ?_, e1, e2⟩
      show f_X8_goBack_L40 (nI a) (fuel+1) (nI 151) X = _
      rw [f_X8_goBack_L40, if_pos (by decide)]
theorem sk_k {k : Nat} (hk : k < 2) : SHK (102 + 12 * k) = 3 := (by decide : ∀ k, k < 2 → SHK (102 + 12 * k) = 3) k hk
section CS
variable {SL' : Nat} {sx : Nat → Int32} {p4 : Int32} {I : Nat → Nat → Int32} {O : Nat → Nat → Option Nat} {J : Nat → Nat → Int64}
theorem cs_13 (h : Inv2 I I O) (g1 : gin (p4 + (1 : Int32)) SL' = true) : CaseOk (f_L_case13 SL' sx p4 I O J) := by
  unfold f_L_case13
  simp only [g1, hg_t]
  generalize sx (p4 + (1 : Int32)).toNatClampNeg = a
  rcases slot_e a with ⟨k, hk, rfl, e1, e2⟩ | ⟨e1, e2⟩
  · have hSL : SL I I := by obtain ⟨_, _, _, _, _, _, hs, _⟩ := h; exact hs
    obtain ⟨b1, b2, b3⟩ := hSL k hk
    have d0 : ¬ (nI k < 0) := by rw [show (0 : Int32) = nI 0 from rfl, pi_lt (by omega) (by omega)]; omega
    have d2 : ¬ ((2 : Int32) ≤ nI k) := by rw [show (2 : Int32) = nI 2 from rfl, pi_le (by omega) (by omega)]; omega
    have dg : gin (nI k) 2 = true := by rw [pi_gin (by omega)]; exact decide_eq_true hk
    have dt : (nI k).toNatClampNeg = k := pi_tn (by omega)
    have kept : f_X5_kept (nI k) I = if I 101 k = 0 then some none else some (some (102 + 12 * k)) := by
      unfold f_X5_kept
      rw [if_neg d0, if_neg d2, if_neg d2, dg, hg_t, hg_t, dt]
    rcases b1 with b1 | b1
    · refine ⟨gup I 129 8 2, O, J, ?_, Inv2_th h⟩
      unfold f_L_goBack f_X7_goBack f_X8_goBack
      rw [e1]
      simp only [Option.bind_some, hsum]
      rw [kept, if_pos b1]
      simp only [Option.bind_some, hopt_e1, show ¬ ((2 : Nat) = 1) by decide, if_false, if_true, eq_self]
      rw [e2]
      simp only [Option.bind_some, show ¬ ((1 : Int32) = 0) by decide, if_false, dg, hg_t, dt]
      have c134 : I 134 k = 0 := by rw [b2, b1]
      rw [if_pos c134]
      simp only [Option.bind_some]
      rw [ref2]
      simp only [Option.bind_some, show ¬ ((1 : Int32) = 0) by decide, if_false, f_X8_thrown, gup_at, if_true]
    · obtain ⟨n, I1, O1, K1, a1, a2, a3, a4, a5, a6, a7, a8, a9⟩ := sv_step h
      have hBk := isB_k hk
      have i101 : I1 101 k = 1 := by
        obtain ⟨n', I1', O1', K1', q1, _⟩ := sv_step h
        have hs4 : SL I1 K1 := by obtain ⟨_, _, _, _, _, _, hs, _⟩ := a4; exact hs
        have := (hs4 k hk).2.1
        have hh := h
        obtain ⟨n0, p0, l0, r1, r2, r3, _⟩ := hh
        obtain ⟨s1, s2, s3, σ, s4, s5, s6⟩ := r3
        have e0 : ∀ a, 130 ≤ a → gup I 129 8 0 a = I a := fun a ha => gup_ne (by omega)
        obtain ⟨I', O', K', p', w1, w2, w3, w4, w5, _⟩ := save_both (K := gup I 129 8 0) r2 (by rw [e0 130 (by omega)]; exact r1) ⟨s1, by rw [gup_i (by omega)]; exact s2, s3, σ, s4, s5, fun i hi => by rw [e0 132 (by omega)]; exact s6 i hi⟩
        rw [a1] at w1
        simp only [Option.some.injEq, Prod.mk.injEq] at w1
        rw [w1.1, w5 101 (by omega) (by omega)]; exact b1
      have hs4 : SL I1 K1 := by obtain ⟨_, _, _, _, _, _, hs, _⟩ := a4; exact hs
      obtain ⟨m0, hm0⟩ := (hs4 k hk).2.2 i101
      obtain ⟨X, x1, x2, x3, x4, x5, x6⟩ := x3_take (I := I1) (β := 1) (γ := 102 + 12 * k) (Or.inl rfl) hBk (by omega) hm0.2.1 hm0.gz5
      have hI2 : Inv2 I X O := Inv2_K (K := I) (fun a ha => (x2 a (by omega)).trans (a8 a (by omega))) (by rw [x2 129 (by omega), a8 129 (by omega)]) (by rw [x2 129 (by omega), a8 129 (by omega)]) h
      obtain ⟨n2, I2, O2, K2, c1, c2, c3, c4, c5, c6, c7, c8, c9⟩ := sv_step hI2
      rw [a1] at c1
      simp only [Option.some.injEq, Prod.mk.injEq] at c1
      obtain ⟨ci, co⟩ := c1
      subst ci; subst co
      have hs5 : SL I1 K2 := by obtain ⟨_, _, _, _, _, _, hs, _⟩ := c4; exact hs
      obtain ⟨m, hm⟩ := (hs5 k hk).2.2 i101
      obtain ⟨Y, y1, y2, y3⟩ := x8_slotBack (K := K2) hk
      have hZ1 : RZ I1 1 := by obtain ⟨_, _, _, _, hz, _⟩ := c4; exact hz 1 (Or.inl rfl)
      have hRX := take_RR hZ1 hm x3 x4 x5 x6
      refine ⟨Y, O1, J, ?_, ?_⟩
      · unfold f_L_goBack f_X7_goBack f_X8_goBack
        rw [e1]
        simp only [Option.bind_some, hsum]
        rw [kept, if_neg (by rw [b1]; decide)]
        simp only [Option.bind_some, hopt_e2]
        rw [hk_e (sk_k hk), a1]
        simp only [Option.bind_some]
        rw [x1]
        simp only [Option.bind_some]
        rw [e2]
        simp only [Option.bind_some, show ¬ ((1 : Int32) = 0) by decide, if_false, dg, hg_t, dt]
        have c134 : ¬ (X 134 k = 0) := by rw [x2 134 (by omega), a8 134 (by omega), b2, b1]; decide
        rw [if_neg c134]
        simp only [Option.bind_some]
        rw [ref0]
        simp only [Option.bind_some, if_true]
        rw [c2]
        simp only [Option.bind_some]
        rw [y1]
        simp only [Option.bind_some, f_X8_thrown]
        have t8 : Y 129 8 = 0 := by rw [y2 129 (by omega)]; exact c5
        exact if_pos t8
      · have hfin : Inv2 X Y O1 := Inv2_now c4 (fun a q1 q2 => x2 a (by omega)) (RZ_I (fun a q1 q2 => x2 a (by omega)) (ZZ13 c4)) (RR_s (s := fun q => K2 133 (151 * k + q)) (fun q hq => y3 q hq) hRX) (fun a q1 q2 => y2 a (by omega)) (by rw [y2 129 (by omega)]) (by rw [y2 129 (by omega)]) rfl
        exact Inv2_I (I := X) (fun a ha => by rw [y2 a (by omega)]; exact c9 a ha) hfin
  · refine ⟨gup I 129 8 1, O, J, ?_, Inv2_th h⟩
    unfold f_L_goBack f_X7_goBack f_X8_goBack
    rw [e1]
    simp only [Option.bind_some, hsum, if_true, eq_self]
    rw [e2]
    simp only [Option.bind_some, if_true]
    rw [ref1]
    simp only [Option.bind_some, show ¬ ((1 : Int32) = 0) by decide, if_false, f_X8_thrown, gup_at, if_true]
end CS
