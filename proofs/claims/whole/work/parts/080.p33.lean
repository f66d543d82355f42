theorem x8_copySlot {K : Nat → Nat → Int32} {a : Nat} (ha : a < 2) : ∃ X, f_X8_keep_L23 (nI a) FU 0 K = some X ∧ (∀ b, b ≠ 133 → X b = K b) ∧ (∀ k, k < 151 → X 133 (151 * a + k) = K 130 k) ∧ (∀ j, j < 151 * a ∨ 151 * a + 151 ≤ j → X 133 j = K 133 j) := by
  have := loop_go (fun fuel k (st : Nat → Nat → Int32) => f_X8_keep_L23 (nI a) fuel k st) 151 (fun k X => (∀ b, b ≠ 133 → X b = K b) ∧ (∀ j, j < k → X 133 (151 * a + j) = K 130 j) ∧ (∀ j, j < 151 * a ∨ 151 * a + 151 ≤ j → X 133 j = K 133 j)) (fun X => (∀ b, b ≠ 133 → X b = K b) ∧ (∀ j, j < 151 → X 133 (151 * a + j) = K 130 j) ∧ (∀ j, j < 151 * a ∨ 151 * a + 151 ≤ j → X 133 j = K 133 j)) ?_ FU 0 K (by omega) ⟨fun _ _ => rfl, fun i hi => absurd hi (by omega), fun _ _ => rfl⟩ (by unfold FU; omega)
  · exact this
  · rintro k X hk ⟨e1, e2, e3⟩
    rcases Nat.lt_or_ge k 151 with h | h
    · right
      refine ⟨h, gup X 133 (151 * a + k) (K 130 k), ⟨fun b hb => (gup_ne hb).trans (e1 b hb), fun i hi => ?_, fun j hj => ?_⟩, fun fuel => ?_⟩
      · by_cases e : i = k
        · rw [e, gup_at]
        · rw [gup_i (by omega)]; exact e2 i (by omega)
      · rw [gup_i (by omega)]; exact e3 j hj
      · show f_X8_keep_L23 (nI a) (fuel+1) (nI k) X = _
        rw [f_X8_keep_L23, if_neg (by rw [show (151 : Int32) = nI 151 from rfl, pi_le (by omega) (by omega)]; omega), show (151 : Int32) = nI 151 from rfl, pi_mul, pi_add, pi_gin (by omega), decide_eq_true (by omega), hg_t, pi_gin (by omega), decide_eq_true (by omega), hg_t, hlet_e, hlet_e, pi_tn (by omega), pi_tn (by omega), show nI k + (1 : Int32) = nI (k + 1) from pi_add k 1, e1 130 (by omega)]
    · left
      have : k = 151 := by omega
      subst this
      refine ⟨X, fun fuel => ?_, e1, e2, e3⟩
      show f_X8_keep_L23 (nI a) (fuel+1) (nI 151) X = _
      rw [f_X8_keep_L23, if_pos (by decide)]
theorem slot_e (a : Int32) : (∃ k, k < 2 ∧ a = nI k ∧ f_X7_checkSlot a = some (Sum.inr ()) ∧ f_X8_in a (0 : Int32) (1 : Int32) = some 1) ∨ (f_X7_checkSlot a = some (Sum.inl 1) ∧ f_X8_in a (0 : Int32) (1 : Int32) = some 0) := by
  rcases in_chk (a := a) (lo := 0) (hi := 1) (by omega) (by omega) with ⟨m, m1, m2, e0, e1, e2, e3⟩ | ⟨e1, e2⟩
  · refine Or.inl ⟨m, by omega, e0, ?_, e1⟩
    unfold f_X7_checkSlot
    have e2' : ¬ (a < 0) := e2
    rw [if_neg e2', if_pos]
    rw [e0, show (2 : Int32) = nI 2 from rfl, pi_lt (by omega) (by omega)]; omega
  · refine Or.inr ⟨?_, e1⟩
    unfold f_X7_checkSlot
    rcases e2 with e | ⟨e, e'⟩
    · exact if_pos e
    · have e2' : ¬ (a < 0) := e
      rw [if_neg e2', if_neg]
      intro c; apply e'
      rw [Int32.lt_iff_toInt_lt, show (2 : Int32).toInt = 2 from rfl] at c
      rw [Int32.le_iff_toInt_le, show (nI 1).toInt = 1 from rfl]; omega
theorem isB_k {k : Nat} (hk : k < 2) : IsB (102 + 12 * k) := by
  rcases (show k = 0 ∨ k = 1 by omega) with rfl | rfl
  · exact Or.inr (Or.inr (Or.inr (Or.inl rfl)))
  · exact Or.inr (Or.inr (Or.inr (Or.inr rfl)))
section CS
variable {SL' : Nat} {sx : Nat → Int32} {p4 : Int32} {I : Nat → Nat → Int32} {O : Nat → Nat → Option Nat} {J : Nat → Nat → Int64}
theorem cs_12 (h : Inv2 I I O) (g1 : gin (p4 + (1 : Int32)) SL' = true) : CaseOk (f_L_case12 SL' sx p4 I O J) := by
  unfold f_L_case12
  simp only [g1, hg_t]
  generalize sx (p4 + (1 : Int32)).toNatClampNeg = a
  rcases slot_e a with ⟨k, hk, rfl, e1, e2⟩ | ⟨e1, e2⟩
  · have hh := h
    obtain ⟨n, p, len, h1, h2, h3, h4, h5, h6, h7, h8⟩ := hh
    have hBk := isB_k hk
    obtain ⟨X, x1, x2, x3, x4, x5, x6⟩ := x3_take (β := 102 + 12 * k) (γ := 1) hBk (Or.inl rfl) (by omega) h1.2.1 h1.gz5
    have hRX : RR X (102 + 12 * k) (I 130) n := take_RR (h2 _ hBk) h1 x3 x4 x5 x6
    obtain ⟨Y, y1, y2, y3, y4⟩ := x8_copySlot (K := gup (gup X 101 k 1) 129 8 0) hk
    have cX : ∀ b, b ≠ 101 → b < 102 + 12 * k ∨ 102 + 12 * k + 12 ≤ b → gup X 101 k 1 b = I b := fun b hb hr => (gup_ne hb).trans (x2 b hr)
    have cY : ∀ b, b ≠ 101 → b ≠ 129 → b ≠ 133 → b < 102 + 12 * k ∨ 102 + 12 * k + 12 ≤ b → Y b = I b := fun b q1 q2 q3 hr => by rw [y2 b q3, gup_ne q2]; exact cX b q1 hr
    have y133 : ∀ j, j < 151 * k ∨ 151 * k + 151 ≤ j → Y 133 j = I 133 j := fun j hj => by rw [y4 j hj, gup_n (by omega), cX 133 (by omega) (by omega)]
    have yk : ∀ q, q < 151 → Y 133 (151 * k + q) = I 130 q := fun q hq => by rw [y3 q hq, gup_n (by omega), cX 130 (by omega) (by omega)]
    have y129 : ∀ f, f ≠ 8 → Y 129 f = I 129 f := fun f hf => by rw [y2 129 (by omega), gup_i hf, cX 129 (by omega) (by omega)]
    refine ⟨gup Y 134 k 1, O, J, ?_, ?_⟩
    · unfold f_L_keep f_X7_keep f_X8_keep
      rw [e1]
      simp only [Option.bind_some, hsum]
      unfold f_X5_put
      have c0 : ¬ (nI k < 0) := by rw [show (0 : Int32) = nI 0 from rfl, pi_lt (by omega) (by omega)]; omega
      have c2 : ¬ ((2 : Int32) ≤ nI k) := by rw [show (2 : Int32) = nI 2 from rfl, pi_le (by omega) (by omega)]; omega
      rw [if_neg c0, if_neg c2, if_neg c2, pi_gin (by omega), decide_eq_true hk, hg_t, pi_tn (by omega), x1]
      simp only [Option.bind_some, hg_t, hlet_e]
      rw [e2]
      simp only [Option.bind_some, show ¬ ((1 : Int32) = 0) by decide, if_false]
      rw [ref0]
      simp only [Option.bind_some, if_true]
      rw [y1]
      simp only [Option.bind_some, f_X8_thrown]
      have t8 : gup Y 134 k 1 129 8 = 0 := by rw [gup_n (by omega), y2 129 (by omega), gup_at]
      exact if_pos t8
    · obtain ⟨s1, s2, s3, σ, s4, s5, s6⟩ := h3
      have z : ∀ b, b ≠ 134 → gup Y 134 k 1 b = Y b := fun b hb => gup_ne hb
      refine ⟨n, p, len, ?_, fun β hβ => ?_, ⟨?_, ?_, s3, σ, s4, s5, fun i hi => ?_⟩, fun j hj => ?_, ?_, ?_, h7, fun i hi => ?_⟩
      · rw [z 130 (by omega), cY 130 (by omega) (by omega) (by omega) (by omega)]
        exact RR_I (fun b q1 q2 => by rw [z b (by omega)]; exact cY b (by omega) (by omega) (by omega) (by omega)) h1
      · by_cases eβ : β = 102 + 12 * k
        · rw [eβ]
          exact RZ_I (fun b q1 q2 => by rw [z b (by omega), y2 b (by omega), gup_ne (by omega), gup_ne (by omega)]) hRX.2.1
        · have hd := base_disj hβ hBk eβ
          have hb : β + 12 ≤ 101 ∨ 102 ≤ β := by rcases hβ with rfl | rfl | ⟨k, hk, rfl⟩ | rfl | rfl <;> omega
          have hb2 : β + 12 ≤ 129 := by rcases hβ with rfl | rfl | ⟨k, hk, rfl⟩ | rfl | rfl <;> omega
          exact RZ_I (fun b q1 q2 => by rw [z b (by omega)]; exact cY b (by omega) (by omega) (by omega) (by omega)) (h2 β hβ)
      · rw [z 25 (by omega), cY 25 (by omega) (by omega) (by omega) (by omega)]; exact s1
      · rw [z 129 (by omega), y129 3 (by omega)]; exact s2
      · obtain ⟨m, hm⟩ := s6 i hi
        have := (s4 i (by omega)).1
        rw [z 132 (by omega), cY 132 (by omega) (by omega) (by omega) (by omega)]
        exact ⟨m, RR_I (fun b q1 q2 => by rw [z b (by omega)]; exact cY b (by omega) (by omega) (by omega) (by omega)) hm⟩
      · have z101 : ∀ q, gup Y 134 k 1 101 q = if q = k then 1 else I 101 q := by
          intro q
          rw [z 101 (by omega), y2 101 (by omega), gup_n (by omega)]
          by_cases c : q = k
          · rw [if_pos c, c, gup_at]
          · rw [if_neg c, gup_i c, x2 101 (by omega)]
        rw [z101, z 133 (by omega)]
        by_cases c : j = k
        · subst c
          rw [if_pos rfl, gup_at]
          refine ⟨Or.inr rfl, rfl, fun _ => ⟨n, ?_⟩⟩
          exact RR_I (fun b q1 q2 => by rw [z b (by omega), y2 b (by omega), gup_ne (by omega), gup_ne (by omega)]) (RR_s (s := I 130) (fun q hq => yk q hq) hRX)
        · rw [if_neg c, gup_i c, cY 134 (by omega) (by omega) (by omega) (by omega)]
          obtain ⟨a1, a2, a3⟩ := h4 j hj
          refine ⟨a1, a2, fun hq => ?_⟩
          obtain ⟨m, hm⟩ := a3 hq
          refine ⟨m, RR_I (fun b q1 q2 => by rw [z b (by omega)]; exact cY b (by omega) (by omega) (by omega) (by omega)) (RR_s (s := fun k => I 133 (151 * j + k)) (fun q hq => ?_) hm)⟩
          exact y133 _ (by omega)
      · rw [z 126 (by omega), cY 126 (by omega) (by omega) (by omega) (by omega)]; exact h5
      · rw [z 129 (by omega), y129 7 (by omega)]; exact h6
      · rw [z 127 (by omega), z 135 (by omega), cY 127 (by omega) (by omega) (by omega) (by omega), cY 135 (by omega) (by omega) (by omega) (by omega)]; exact h8 i hi
  · refine ⟨gup I 129 8 1, O, J, ?_, Inv2_th h⟩
    unfold f_L_keep f_X7_keep f_X8_keep
    rw [e1]
    simp only [Option.bind_some, hsum, if_true]
    rw [e2]
    simp only [Option.bind_some, if_true]
    rw [ref1]
    simp only [Option.bind_some, show ¬ ((1 : Int32) = 0) by decide, if_false, f_X8_thrown, gup_at, if_true]
end CS
