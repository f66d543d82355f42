theorem WX_s {s t : Nat → Int32} {n : Nat} (e : ∀ k, k < 151 → t k = s k) (h : WX s n) : WX t n ∧ cnt3 t n = cnt3 s n := by
  obtain ⟨h1, h2, h3, h4, h5, h6, h7, h8, h9⟩ := h
  have hn := h1.2
  have hc : cnt3 t n = cnt3 s n := cnt3_far (fun b hb => by rw [e _ (by omega)])
  have hcn := cnt3_le s n
  refine ⟨⟨⟨by rw [e _ (by omega)]; exact h1.1, hn⟩, fun b hb => ?_, fun b hb q hq hqn => ?_, fun c hc => by rw [e _ (by omega)]; exact h4 c hc, ⟨by rw [e _ (by omega)]; exact h5.1, by rw [e _ (by omega)]; exact h5.2⟩, ?_, ?_, ?_, ?_⟩, hc⟩
  · simp only [e (16 * b) (by omega), e (16 * b + 1) (by omega), e (16 * b + 2) (by omega), e (16 * b + 3) (by omega), e (16 * b + 4) (by omega), e (16 * b + 5) (by omega), e (16 * b + 6) (by omega), e (16 * b + 7) (by omega), e (16 * b + 9) (by omega), e (16 * b + 10) (by omega), e (16 * b + 12) (by omega)]
    exact h2 b hb
  · rw [e _ (by omega)] at hq ⊢; exact h3 b hb q hq hqn
  · rw [hc, e _ (by omega)]; exact h6
  · rw [hc]; intro q hq
    obtain ⟨b, hb, e1, e2⟩ := h7 q hq
    exact ⟨b, hb, by rw [e _ (by omega)]; exact e1, by rw [e _ (by omega)]; exact e2⟩
  · rw [hc]; intro q j hq hj; rw [e _ (by omega), e _ (by omega)]; exact h8 q j hq hj
  · rw [hc]; intro b hb hq; rw [e _ (by omega)] at hq
    obtain ⟨q, hq1, hq2⟩ := h9 b hb hq
    exact ⟨q, hq1, by rw [e _ (by omega)]; exact hq2⟩
theorem WF_s {s t : Nat → Int32} {n : Nat} (e : ∀ k, k < 151 → t k = s k) (h : WF s n) : WF t n := by
  obtain ⟨hw, hr, hl⟩ := h
  have hn := hw.1.2
  obtain ⟨w1, w2⟩ := WX_s e hw
  refine ⟨w1, fun h b hb h3 => ?_, fun h => ?_⟩
  · rw [e _ (by omega)] at h h3 ⊢
    rw [e 133 (by omega)]; exact hr h b hb h3
  · rw [e _ (by omega)] at h; rw [w2]; exact hl h
theorem RR_s {I : Nat → Nat → Int32} {β n : Nat} {s t : Nat → Int32} (e : ∀ k, k < 151 → t k = s k) (h : RR I β s n) : RR I β t n := by
  obtain ⟨⟨h1, h2, h3, h4⟩, hZ, h6, hw⟩ := h
  have hn := hw.1.1.2
  have ha := hw.1.a
  refine ⟨⟨?_, fun k hk => by rw [e _ (by omega)]; exact h2 k hk, fun b hb => ?_, fun b k hb hk he => ?_⟩, hZ, by rw [e _ (by omega)]; exact h6, WF_s e hw⟩
  · rw [e 128 (by omega), e 133 (by omega), e 150 (by omega), e 135 (by omega), e 144 (by omega), e 145 (by omega), e 146 (by omega), e 147 (by omega), e 148 (by omega), e 149 (by omega)]
    exact h1
  · have r := h3 b hb
    unfold RB at *
    rw [e (16 * b) (by omega), e (16 * b + 1) (by omega), e (16 * b + 2) (by omega), e (16 * b + 3) (by omega), e (16 * b + 4) (by omega), e (16 * b + 5) (by omega), e (16 * b + 6) (by omega), e (16 * b + 7) (by omega), e (16 * b + 8) (by omega), e (16 * b + 9) (by omega), e (16 * b + 10) (by omega), e (16 * b + 11) (by omega), e (16 * b + 12) (by omega)]
    exact r
  · rw [e 135 (by omega)] at hk
    rw [e _ (by omega)] at he
    exact h4 b k hb hk he
theorem x8_putAside {K : Nat → Nat → Int32} : ∃ X, f_X8_putAside K = some X ∧ (∀ a, a ≠ 131 → X a = K a) ∧ (∀ k, k < 151 → X 131 k = K 130 k) := by
  have := loop_go (fun fuel k (st : Nat → Nat → Int32) => f_X8_putAside_L2 fuel k st) 151 (fun k X => (∀ a, a ≠ 131 → X a = K a) ∧ (∀ j, j < k → X 131 j = K 130 j)) (fun X => (∀ a, a ≠ 131 → X a = K a) ∧ (∀ j, j < 151 → X 131 j = K 130 j)) ?_ FU 0 K (by omega) ⟨fun _ _ => rfl, fun i hi => absurd hi (by omega)⟩ (by unfold FU; omega)
  · obtain ⟨X, x1, x2⟩ := this
    refine ⟨X, ?_, x2⟩
    unfold f_X8_putAside
    rw [show f_X8_putAside_L2 FU 0 K = some X from x1]; rfl
  · rintro k X hk ⟨e1, e2⟩
    rcases Nat.lt_or_ge k 151 with h | h
    · right
      refine ⟨h, gup X 131 k (K 130 k), ⟨fun a ha => (gup_ne ha).trans (e1 a ha), fun i hi => ?_⟩, fun fuel => ?_⟩
      · by_cases e : i = k
        · rw [e, gup_at]
        · rw [gup_i e]; exact e2 i (by omega)
      · show f_X8_putAside_L2 (fuel+1) (nI k) X = _
        rw [f_X8_putAside_L2, if_neg (by rw [show (151 : Int32) = nI 151 from rfl, pi_le (by omega) (by omega)]; omega), pi_gin (by omega), decide_eq_true (by omega), hg_t, hg_t, hlet_e, hlet_e, pi_tn (by omega), show nI k + (1 : Int32) = nI (k + 1) from pi_add k 1, e1 130 (by omega)]
    · left
      have : k = 151 := by omega
      subst this
      refine ⟨X, fun fuel => ?_, e1, e2⟩
      show f_X8_putAside_L2 (fuel+1) (nI 151) X = _
      rw [f_X8_putAside_L2, if_pos (by decide)]
theorem x8_putBack {K : Nat → Nat → Int32} : ∃ X, f_X8_putBack K = some X ∧ (∀ a, a ≠ 130 → X a = K a) ∧ (∀ k, k < 151 → X 130 k = K 131 k) := by
  have := loop_go (fun fuel k (st : Nat → Nat → Int32) => f_X8_putBack_L2 fuel k st) 151 (fun k X => (∀ a, a ≠ 130 → X a = K a) ∧ (∀ j, j < k → X 130 j = K 131 j)) (fun X => (∀ a, a ≠ 130 → X a = K a) ∧ (∀ j, j < 151 → X 130 j = K 131 j)) ?_ FU 0 K (by omega) ⟨fun _ _ => rfl, fun i hi => absurd hi (by omega)⟩ (by unfold FU; omega)
  · obtain ⟨X, x1, x2⟩ := this
    refine ⟨X, ?_, x2⟩
    unfold f_X8_putBack
    rw [show f_X8_putBack_L2 FU 0 K = some X from x1]; rfl
  · rintro k X hk ⟨e1, e2⟩
    rcases Nat.lt_or_ge k 151 with h | h
    · right
      refine ⟨h, gup X 130 k (K 131 k), ⟨fun a ha => (gup_ne ha).trans (e1 a ha), fun i hi => ?_⟩, fun fuel => ?_⟩
      · by_cases e : i = k
        · rw [e, gup_at]
        · rw [gup_i e]; exact e2 i (by omega)
      · show f_X8_putBack_L2 (fuel+1) (nI k) X = _
        rw [f_X8_putBack_L2, if_neg (by rw [show (151 : Int32) = nI 151 from rfl, pi_le (by omega) (by omega)]; omega), pi_gin (by omega), decide_eq_true (by omega), hg_t, hg_t, hlet_e, hlet_e, pi_tn (by omega), show nI k + (1 : Int32) = nI (k + 1) from pi_add k 1, e1 131 (by omega)]
    · left
      have : k = 151 := by omega
      subst this
      refine ⟨X, fun fuel => ?_, e1, e2⟩
      show f_X8_putBack_L2 (fuel+1) (nI 151) X = _
      rw [f_X8_putBack_L2, if_pos (by decide)]
theorem x8_copyPast {K : Nat → Nat → Int32} {p : Nat} (hp : p < 6) (h3 : K 129 3 = nI p) : ∃ X, f_X8_records_L52 FU 0 K = some X ∧ (∀ a, a ≠ 132 → X a = K a) ∧ (∀ k, k < 151 → X 132 (151 * p + k) = K 130 k) ∧ (∀ j, j < 151 * p → X 132 j = K 132 j) := by
  have := loop_go (fun fuel k (st : Nat → Nat → Int32) => f_X8_records_L52 fuel k st) 151 (fun k X => (∀ a, a ≠ 132 → X a = K a) ∧ (∀ j, j < k → X 132 (151 * p + j) = K 130 j) ∧ (∀ j, j < 151 * p → X 132 j = K 132 j)) (fun X => (∀ a, a ≠ 132 → X a = K a) ∧ (∀ j, j < 151 → X 132 (151 * p + j) = K 130 j) ∧ (∀ j, j < 151 * p → X 132 j = K 132 j)) ?_ FU 0 K (by omega) ⟨fun _ _ => rfl, fun i hi => absurd hi (by omega), fun _ _ => rfl⟩ (by unfold FU; omega)
  · exact this
  · rintro k X hk ⟨e1, e2, e3⟩
    rcases Nat.lt_or_ge k 151 with h | h
    · right
      refine ⟨h, gup X 132 (151 * p + k) (K 130 k), ⟨fun a ha => (gup_ne ha).trans (e1 a ha), fun i hi => ?_, fun j hj => ?_⟩, fun fuel => ?_⟩
      · by_cases e : i = k
        · rw [e, gup_at]
        · rw [gup_i (by omega)]; exact e2 i (by omega)
      · rw [gup_i (by omega)]; exact e3 j hj
      · show f_X8_records_L52 (fuel+1) (nI k) X = _
        rw [f_X8_records_L52, if_neg (by rw [show (151 : Int32) = nI 151 from rfl, pi_le (by omega) (by omega)]; omega), e1 129 (by omega), h3, show (151 : Int32) = nI 151 from rfl, pi_mul, pi_add, pi_gin (by omega), decide_eq_true (by omega), hg_t, pi_gin (by omega), decide_eq_true (by omega), hg_t, hlet_e, hlet_e, pi_tn (by omega), pi_tn (by omega), show nI k + (1 : Int32) = nI (k + 1) from pi_add k 1, e1 130 (by omega)]
    · left
      have : k = 151 := by omega
      subst this
      refine ⟨X, fun fuel => ?_, e1, e2, e3⟩
      show f_X8_records_L52 (fuel+1) (nI 151) X = _
      rw [f_X8_records_L52, if_pos (by decide)]
theorem x8_shiftPast {K : Nat → Nat → Int32} : ∃ X, f_X8_records_L11 FU 0 K = some X ∧ (∀ a, a ≠ 132 → X a = K a) ∧ (∀ k, k < 755 → X 132 k = K 132 (151 + k)) := by
  have := loop_go (fun fuel k (st : Nat → Nat → Int32) => f_X8_records_L11 fuel k st) 755 (fun k X => (∀ a, a ≠ 132 → X a = K a) ∧ (∀ j, j < k → X 132 j = K 132 (151 + j)) ∧ (∀ j, k ≤ j → X 132 j = K 132 j)) (fun X => (∀ a, a ≠ 132 → X a = K a) ∧ (∀ j, j < 755 → X 132 j = K 132 (151 + j))) ?_ FU 0 K (by omega) ⟨fun _ _ => rfl, fun i hi => absurd hi (by omega), fun _ _ => rfl⟩ (by unfold FU; omega)
  · exact this
  · rintro k X hk ⟨e1, e2, e3⟩
    rcases Nat.lt_or_ge k 755 with h | h
    · right
      refine ⟨h, gup X 132 k (K 132 (151 + k)), ⟨fun a ha => (gup_ne ha).trans (e1 a ha), fun i hi => ?_, fun j hj => ?_⟩, fun fuel => ?_⟩
      · by_cases e : i = k
        · rw [e, gup_at]
        · rw [gup_i (by omega)]; exact e2 i (by omega)
      · rw [gup_i (by omega)]; exact e3 j (by omega)
      · show f_X8_records_L11 (fuel+1) (nI k) X = _
        rw [f_X8_records_L11, if_neg (by rw [show (755 : Int32) = nI 755 from rfl, pi_le (by omega) (by omega)]; omega), show (151 : Int32) = nI 151 from rfl, pi_add, pi_gin (by omega), decide_eq_true (by omega), hg_t, pi_gin (by omega), decide_eq_true (by omega), hg_t, hlet_e, hlet_e, pi_tn (by omega), pi_tn (by omega), show nI k + (1 : Int32) = nI (k + 1) from pi_add k 1, e3 (151 + k) (by omega)]
    · left
      have : k = 755 := by omega
      subst this
      refine ⟨X, fun fuel => ?_, e1, e2⟩
      show f_X8_records_L11 (fuel+1) (nI 755) X = _
      rw [f_X8_records_L11, if_pos (by decide)]
