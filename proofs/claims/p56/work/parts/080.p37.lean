theorem ch_e : ∀ m, m < 127 → ((nI m).toUInt32 % 65536).toInt32 = nI m ∧ gc (nI m) = true := by decide
section CS
variable {SL' : Nat} {sx : Nat → Int32} {p4 : Int32} {I : Nat → Nat → Int32} {O : Nat → Nat → Option Nat} {J : Nat → Nat → Int64}
theorem q_append (h : Inv2 I I O) (a : Int32) :
    (∃ v : Int32, ∃ I1 I2, f_W_append a I J = some (0, I1, gup J 137 0 v.toInt64) ∧ f_X8_append a I1 = some (v, I2) ∧ I2 129 8 = 0 ∧ Inv2 I2 I2 O) ∨ (∃ c r : Int32, c ≠ 0 ∧ f_W_append a I J = some (c, I, J) ∧ f_X8_append a I = some (r, gup I 129 8 c)) := by
  obtain ⟨n, p, len, h1, h2, ⟨s1, s2, s3, σ, s4, s5, s6⟩, h4, h5, h6, h7, h8⟩ := h
  rcases in_chk (a := a) (lo := 33) (hi := 126) (by omega) (by omega) with ⟨m, m1, m2, rfl, c1, c2, c3⟩ | ⟨c1, c2⟩
  · have c1' : f_X8_in (nI m) (33 : Int32) (126 : Int32) = some 1 := c1
    have c2' : ¬ (nI m < (33 : Int32)) := c2
    have c3' : nI m ≤ (126 : Int32) := c3
    by_cases hl : len < 60
    · left
      obtain ⟨e1, e2⟩ := ch_e m (by omega)
      have f1 : nI len < (60 : Int32) := by rw [show (60 : Int32) = nI 60 from rfl, pi_lt (by omega) (by omega)]; exact hl
      have f2 : ¬ (nI len < 0) := by rw [show (0 : Int32) = nI 0 from rfl, pi_lt (by omega) (by omega)]; omega
      have f3 : ¬ ((60 : Int32) ≤ nI len) := by rw [show (60 : Int32) = nI 60 from rfl, pi_le (by omega) (by omega)]; omega
      have f4 : ¬ (nI len = (60 : Int32)) := by rw [show (60 : Int32) = nI 60 from rfl, pi_eq (by omega) (by omega)]; omega
      have f5 : gin (nI len) 60 = true := by rw [pi_gin (by omega)]; exact decide_eq_true hl
      have f6 : (nI len).toNatClampNeg = len := pi_tn (by omega)
      have f7 : nI len + (1 : Int32) = nI (len + 1) := pi_add len 1
      generalize hX : gup (gup I 127 len (nI m)) 126 1 (nI (len + 1)) = X
      have x129 : X 129 = I 129 := by rw [← hX, gup_ne (by omega), gup_ne (by omega)]
      have xw : ∀ b, b ≠ 126 → b ≠ 127 → X b = I b := fun b q1 q2 => by rw [← hX, gup_ne q1, gup_ne q2]
      generalize hY : gup (gup (gup X 129 8 0) 135 len (nI m)) 129 7 (nI (len + 1)) = Y
      have yw : ∀ b, b ≠ 129 → b ≠ 135 → Y b = X b := fun b q1 q2 => by rw [← hY, gup_ne q1, gup_ne q2, gup_ne q1]
      have yw2 : ∀ b, b ≠ 126 → b ≠ 127 → b ≠ 129 → b ≠ 135 → Y b = I b := fun b q1 q2 q3 q4 => (yw b q3 q4).trans (xw b q1 q2)
      refine ⟨nI (len + 1), X, Y, ?_, ?_, ?_, ?_⟩
      · unfold f_W_append f_X7_append f_X2_isFull f_X2_add
        rw [if_neg c2', if_pos c3', h5, if_pos f1]
        simp only [Option.bind_some, if_true]
        rw [if_neg f2, if_neg f3, f5, hg_t, e1, e2, hg_t, f6, hlet_e, hlet_e, gup_n (by omega), h5, f7, hX]
        simp only [Option.bind_some, hsum, hlet_e]
        rw [t0', ← hX, gup_at]
      · unfold f_X8_append
        rw [c1', x129, h6]
        simp only [Option.bind_some, show ¬ ((1 : Int32) = 0) by decide, if_false, if_neg f4]
        rw [ref0]
        simp only [Option.bind_some, if_true, hlet_e]
        rw [gup_i (show (7 : Nat) ≠ 8 by omega), x129, h6, f5, hg_t, f6, gup_n (show (129 : Nat) ≠ 135 by omega), gup_i (show (7 : Nat) ≠ 8 by omega), x129, h6, f7, hY, ← hY, gup_at]
      · rw [← hY, gup_i (by omega), gup_n (by omega), gup_at]
      · refine ⟨n, p, len + 1, ?_, fun β hβ => RZ_I (fun b q1 q2 => yw2 b ?_ ?_ ?_ ?_) (h2 β hβ), ⟨?_, ?_, s3, σ, s4, s5, fun i hi => ?_⟩, fun j hj => ?_, ?_, ?_, by omega, fun i hi => ?_⟩
        · rw [yw2 130 (by omega) (by omega) (by omega) (by omega)]
          exact RR_I (fun b q1 q2 => yw2 b (by omega) (by omega) (by omega) (by omega)) h1
        · rcases hβ with rfl | rfl | ⟨k, hk, rfl⟩ | rfl | rfl <;> omega
        · rcases hβ with rfl | rfl | ⟨k, hk, rfl⟩ | rfl | rfl <;> omega
        · rcases hβ with rfl | rfl | ⟨k, hk, rfl⟩ | rfl | rfl <;> omega
        · rcases hβ with rfl | rfl | ⟨k, hk, rfl⟩ | rfl | rfl <;> omega
        · rw [yw2 25 (by omega) (by omega) (by omega) (by omega)]; exact s1
        · rw [← hY, gup_i (by omega), gup_n (by omega), gup_i (by omega), x129]; exact s2
        · obtain ⟨m', hm⟩ := s6 i hi
          have := (s4 i (by omega)).1
          rw [yw2 132 (by omega) (by omega) (by omega) (by omega)]
          exact ⟨m', RR_I (fun b q1 q2 => yw2 b (by omega) (by omega) (by omega) (by omega)) hm⟩
        · obtain ⟨a1, a2, a3⟩ := h4 j hj
          rw [yw2 101 (by omega) (by omega) (by omega) (by omega), yw2 134 (by omega) (by omega) (by omega) (by omega), yw2 133 (by omega) (by omega) (by omega) (by omega)]
          refine ⟨a1, a2, fun hq => ?_⟩
          obtain ⟨m', hm⟩ := a3 hq
          exact ⟨m', RR_I (fun b q1 q2 => yw2 b (by omega) (by omega) (by omega) (by omega)) hm⟩
        · rw [yw 126 (by omega) (by omega), ← hX, gup_at]
        · rw [← hY, gup_at]
        · have y127 : Y 127 i = if i = len then nI m else I 127 i := by
            rw [yw 127 (by omega) (by omega), ← hX, gup_n (by omega)]
            by_cases c : i = len
            · rw [if_pos c, c, gup_at]
            · rw [if_neg c, gup_i c]
          have y135 : Y 135 i = if i = len then nI m else I 135 i := by
            rw [← hY, gup_n (by omega)]
            by_cases c : i = len
            · rw [if_pos c, c, gup_at]
            · rw [if_neg c, gup_i c, gup_n (by omega), xw 135 (by omega) (by omega)]
          rw [y127, y135]
          by_cases c : i = len
          · rw [if_pos c, if_pos c]; exact ⟨m, m1, m2, rfl, rfl⟩
          · rw [if_neg c, if_neg c]; exact h8 i (by omega)
    · right
      have hl6 : len = 60 := by omega
      subst hl6
      refine ⟨2, 0, by decide, ?_, ?_⟩
      · unfold f_W_append f_X7_append f_X2_isFull
        rw [if_neg c2', if_pos c3', h5]; rfl
      · unfold f_X8_append
        rw [c1', h6]; rfl
  · have c1' : f_X8_in a (33 : Int32) (126 : Int32) = some 0 := c1
    right
    refine ⟨1, 0, by decide, ?_, ?_⟩
    · unfold f_W_append f_X7_append
      rcases c2 with e | ⟨e, e'⟩
      · have e9 : a < (33 : Int32) := e
        rw [if_pos e9]; rfl
      · have e9 : ¬ (a < (33 : Int32)) := e
        have e8 : ¬ (a ≤ (126 : Int32)) := e'
        rw [if_neg e9, if_neg e8]; rfl
    · unfold f_X8_append
      rw [c1']; rfl
end CS
