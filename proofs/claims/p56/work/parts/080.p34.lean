theorem x8_copyBack {K : Nat → Nat → Int32} {p : Nat} (hp : p < 6) (h3 : K 129 3 = nI p) : ∃ X, f_X8_undo_L31 FU 0 K = some X ∧ (∀ b, b ≠ 130 → X b = K b) ∧ (∀ k, k < 151 → X 130 k = K 132 (151 * p + k)) := by
  have := loop_go (fun fuel k (st : Nat → Nat → Int32) => f_X8_undo_L31 fuel k st) 151 (fun k X => (∀ b, b ≠ 130 → X b = K b) ∧ (∀ j, j < k → X 130 j = K 132 (151 * p + j))) (fun X => (∀ b, b ≠ 130 → X b = K b) ∧ (∀ j, j < 151 → X 130 j = K 132 (151 * p + j))) ?_ FU 0 K (by omega) ⟨fun _ _ => rfl, fun i hi => absurd hi (by omega)⟩ (by unfold FU; omega)
  · exact this
  · rintro k X hk ⟨e1, e2⟩
    rcases Nat.lt_or_ge k 151 with h | h
    · right
      refine ⟨h, gup X 130 k (K 132 (151 * p + k)), ⟨fun b hb => (gup_ne hb).trans (e1 b hb), fun i hi => ?_⟩, fun fuel => ?_⟩
      · by_cases e : i = k
        · rw [e, gup_at]
        · rw [gup_i (by omega)]; exact e2 i (by omega)
      · show f_X8_undo_L31 (fuel+1) (nI k) X = _
        rw [f_X8_undo_L31, if_neg (by rw [show (151 : Int32) = nI 151 from rfl, pi_le (by omega) (by omega)]; omega), e1 129 (by omega), h3, show (151 : Int32) = nI 151 from rfl, pi_mul, pi_add, pi_gin (by omega), decide_eq_true (by omega), hg_t, pi_gin (by omega), decide_eq_true (by omega), hg_t, hlet_e, hlet_e, pi_tn (by omega), pi_tn (by omega), show nI k + (1 : Int32) = nI (k + 1) from pi_add k 1, e1 132 (by omega)]
    · left
      have : k = 151 := by omega
      subst this
      refine ⟨X, fun fuel => ?_, e1, e2⟩
      show f_X8_undo_L31 (fuel+1) (nI 151) X = _
      rw [f_X8_undo_L31, if_pos (by decide)]
section CS
variable {SL' : Nat} {sx : Nat → Int32} {p4 : Int32} {I : Nat → Nat → Int32} {O : Nat → Nat → Option Nat} {J : Nat → Nat → Int64}
end CS
