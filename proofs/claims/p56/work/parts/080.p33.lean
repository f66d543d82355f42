theorem x8_copySlot {K : Nat → Nat → Int32} {a : Nat} (ha : a < 2) : ∃ X, f_X8_keep_L23 (nI a) FU 0 K = some X ∧ (∀ b, b ≠ 133 → X b = K b) ∧ (∀ k, k < 151 → X 133 (151 * a + k) = K 130 k) ∧ (∀ j, j < 151 * a ∨ 151 * a + 151 ≤ j → X 133 j = K 133 j) := by
  have := loop_go (fun fuel k (st : Nat → Nat → Int32) => f_X8_keep_L23 (nI a) fuel k st) 151 (fun k X => (∀ b, b ≠ 133 → X b = K b) ∧ (∀ j, j < k → X 133 (151 * a + j) = K 130 j) ∧ (∀ j, j < 151 * a ∨ 151 * a + 151 ≤ j → X 133 j = K 133 j)) (fun X => (∀ b, b ≠ 133 → X b = K b) ∧ (∀ j, j < 151 → X 133 (151 * a + j) = K 130 j) ∧ (∀ j, j < 151 * a ∨ 151 * a + 151 ≤ j → X 133 j = K 133 j)) ?_ FU 0 K (by omega) ⟨fun _ _ => rfl, fun i hi => absurd hi (by omega), fun _ _ => rfl⟩ (by unfold FU; omega)
  · exact this
  · rintro k X hk ⟨e1, e2, e3⟩
    rcases Nat.lt_or_ge k 151 with h | h
    · right
      refine ⟨h, gup X 133 (151 * a + k) (K 130 k), ⟨fun b hb => (gup_ne hb).trans (e1 b hb), fun i hi => ?_, fun j hj => ?_⟩, fun fuel => ?_⟩
      · by_cases e : i = k
        · rw [e, gup_at]
        · rw [gup_i (by omega)]; exact e2 i (by omega)
      · rw [gup_i (by omega)]; exact e3 j hj
      · show f_X8_keep_L23 (nI a) (fuel+1) (nI k) X = _
        rw [f_X8_keep_L23, if_neg (by rw [show (151 : Int32) = nI 151 from rfl, pi_le (by omega) (by omega)]; omega), show (151 : Int32) = nI 151 from rfl, pi_mul, pi_add, pi_gin (by omega), decide_eq_true (by omega), hg_t, pi_gin (by omega), decide_eq_true (by omega), hg_t, hlet_e, hlet_e, pi_tn (by omega), pi_tn (by omega), show nI k + (1 : Int32) = nI (k + 1) from pi_add k 1, e1 130 (by omega)]
    · left
      have : k = 151 := by omega
      subst this
      refine ⟨X, fun fuel => ?_, e1, e2, e3⟩
      show f_X8_keep_L23 (nI a) (fuel+1) (nI 151) X = _
      rw [f_X8_keep_L23, if_pos (by decide)]
theorem slot_e (a : Int32) : (∃ k, k < 2 ∧ a = nI k ∧ f_X7_checkSlot a = some (Sum.inr ()) ∧ f_X8_in a (0 : Int32) (1 : Int32) = some 1) ∨ (f_X7_checkSlot a = some (Sum.inl 1) ∧ f_X8_in a (0 : Int32) (1 : Int32) = some 0) := by
  rcases in_chk (a := a) (lo := 0) (hi := 1) (by omega) (by omega) with ⟨m, m1, m2, e0, e1, e2, e3⟩ | ⟨e1, e2⟩
  · refine Or.inl ⟨m, by omega, e0, ?_, e1⟩
    unfold f_X7_checkSlot
    have e2' : ¬ (a < 0) := e2
    rw [if_neg e2', if_pos]
    rw [e0, show (2 : Int32) = nI 2 from rfl, pi_lt (by omega) (by omega)]; omega
  · refine Or.inr ⟨?_, e1⟩
    unfold f_X7_checkSlot
    rcases e2 with e | ⟨e, e'⟩
    · exact if_pos e
    · have e2' : ¬ (a < 0) := e
      rw [if_neg e2', if_neg]
      intro c; apply e'
      rw [Int32.lt_iff_toInt_lt, show (2 : Int32).toInt = 2 from rfl] at c
      rw [Int32.le_iff_toInt_le, show (nI 1).toInt = 1 from rfl]; omega
theorem isB_k {k : Nat} (hk : k < 2) : IsB (102 + 12 * k) := by
  rcases (show k = 0 ∨ k = 1 by omega) with rfl | rfl
  · exact Or.inr (Or.inr (Or.inr (Or.inl rfl)))
  · exact Or.inr (Or.inr (Or.inr (Or.inr rfl)))
section CS
variable {SL' : Nat} {sx : Nat → Int32} {p4 : Int32} {I : Nat → Nat → Int32} {O : Nat → Nat → Option Nat} {J : Nat → Nat → Int64}
end CS
