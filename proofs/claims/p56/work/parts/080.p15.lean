def pos (s : Nat → Int32) (a : Nat) : Nat → Nat
  | 0 => 8
  | m + 1 => if s (136 + m) = nI a then m else pos s a m
def ky (s : Nat → Int32) (n a : Nat) : Nat := if s (16 * a + 6) = 3 then pos s a (cnt3 s n) else 8 + (3600 - fl s a) * 8 + a
theorem pos_b (s : Nat → Int32) (a m : Nat) : pos s a m = 8 ∨ (pos s a m < m ∧ s (136 + pos s a m) = nI a) := by
  induction m with
  | zero => exact Or.inl rfl
  | succ m ih =>
    unfold pos
    by_cases c : s (136 + m) = nI a
    · rw [if_pos c]; exact Or.inr ⟨by omega, c⟩
    · rw [if_neg c]
      rcases ih with h | ⟨h1, h2⟩
      · exact Or.inl h
      · exact Or.inr ⟨by omega, h2⟩
theorem pos_f (s : Nat → Int32) (a m : Nat) {k : Nat} (hk : k < m) (h : s (136 + k) = nI a) : pos s a m < m ∧ s (136 + pos s a m) = nI a := by
  induction m with
  | zero => omega
  | succ m ih =>
    unfold pos
    by_cases c : s (136 + m) = nI a
    · rw [if_pos c]; exact ⟨by omega, c⟩
    · rw [if_neg c]
      have : k < m := by
        rcases Nat.lt_or_ge k m with h2 | h2
        · exact h2
        · exfalso; apply c; rw [show m = k by omega]; exact h
      have := ih this
      exact ⟨by omega, this.2⟩
theorem pos_o {s : Nat → Int32} {n a : Nat} (hw : WX s n) (ha : a < n) (h : s (16 * a + 6) = 3) : pos s a (cnt3 s n) < cnt3 s n ∧ s (136 + pos s a (cnt3 s n)) = nI a := by
  obtain ⟨k, hk, e⟩ := hw.2.2.2.2.2.2.2.2 a ha h
  exact pos_f s a _ hk e
theorem ky_o {s : Nat → Int32} {n a : Nat} (h : s (16 * a + 6) = 3) : ky s n a = pos s a (cnt3 s n) := if_pos h
theorem ky_n {s : Nat → Int32} {n a : Nat} (h : ¬ s (16 * a + 6) = 3) : ky s n a = 8 + (3600 - fl s a) * 8 + a := if_neg h
theorem ky_inj {s : Nat → Int32} {n a b : Nat} (hw : WX s n) (ha : a < n) (hb : b < n) (h : a ≠ b) : ky s n a ≠ ky s n b := by
  have hn := hw.1.2
  have hc := cnt3_le s n
  by_cases oa : s (16 * a + 6) = 3
  · have pa := pos_o hw ha oa
    rw [ky_o oa]
    by_cases ob : s (16 * b + 6) = 3
    · have pb := pos_o hw hb ob
      rw [ky_o ob]
      intro e
      rw [e] at pa
      have := pa.2.symm.trans pb.2
      rw [pi_eq (by omega) (by omega)] at this; exact h this
    · rw [ky_n ob]; omega
  · rw [ky_n oa]
    by_cases ob : s (16 * b + 6) = 3
    · have pb := pos_o hw hb ob
      rw [ky_o ob]; omega
    · rw [ky_n ob]; omega
theorem x8_arrival {K : Nat → Nat → Int32} {n a : Nat} (hw : WX (K 130) n) (ha : a < 8) : f_X8_arrival (nI a) K = some (nI (pos (K 130) a (cnt3 (K 130) n))) := by
  have hn := hw.1.2
  have hc := cnt3_le (K 130) n
  have h135 := hw.a.1
  have := loop_go (fun fuel k (st : Int32) => f_X8_arrival_L5 (nI a) K fuel st k) (cnt3 (K 130) n) (fun k st => st = nI (pos (K 130) a k)) (fun v => v = nI (pos (K 130) a (cnt3 (K 130) n))) ?_ FU 0 (nI 8) (by omega) rfl (by unfold FU; omega)
  · obtain ⟨v, hv, rfl⟩ := this
    unfold f_X8_arrival
    rw [show (8 : Int32) = nI 8 from rfl, show (0 : Int32) = nI 0 from rfl, hv]; rfl
  · rintro k st hk rfl
    rcases Nat.lt_or_ge k (cnt3 (K 130) n) with h | h
    · right
      refine ⟨h, _, rfl, fun fuel => ?_⟩
      show f_X8_arrival_L5 (nI a) K (fuel+1) (nI (pos (K 130) a k)) (nI k) = _
      rw [f_X8_arrival_L5, t135, h135, if_neg (by rw [pi_le (by omega) (by omega)]; omega), show (136 : Int32) + nI k = nI (136 + k) from pi_add 136 k, pi_gin (by omega), pi_tn (by omega), show decide (136 + k < 151) = true from decide_eq_true (by omega), hg_t, show nI k + (1 : Int32) = nI (k + 1) from pi_add k 1]
      show _ = f_X8_arrival_L5 (nI a) K fuel (nI (if K 130 (136 + k) = nI a then k else pos (K 130) a k)) (nI (k + 1))
      by_cases c : K 130 (136 + k) = nI a
      · rw [if_pos c, if_pos c]; rfl
      · rw [if_neg c, if_neg c]; rfl
    · left
      have : k = cnt3 (K 130) n := by omega
      subst this
      refine ⟨_, fun fuel => ?_, rfl⟩
      show f_X8_arrival_L5 (nI a) K (fuel+1) _ _ = _
      rw [f_X8_arrival_L5, t135, h135, if_pos (Int32.le_refl _)]
theorem x8_isAhead {K : Nat → Nat → Int32} {n a b : Nat} (hw : WX (K 130) n) (ha : a < n) (hb : b < n) : f_X8_isAhead (nI a) (nI b) K = some (if ky (K 130) n a < ky (K 130) n b then 1 else 0) := by
  have hn := hw.1.2
  have hc := cnt3_le (K 130) n
  have fa := hw.fl.2.2 a ha
  have fb := hw.fl.2.2 b hb
  unfold f_X8_isAhead
  simp only [x8_isOver (show a < 8 by omega), x8_isOver (show b < 8 by omega), Option.bind_some, hlet_e, i32_ne]
  rw [x8_arrival hw (show a < 8 by omega), x8_arrival hw (show b < 8 by omega), show (7 : Int32) = nI 7 from rfl, x8_of (show a < 8 by omega) (show 7 < 16 by omega), x8_of (show b < 8 by omega) (show 7 < 16 by omega), fa.1, fb.1]
  simp only [Option.bind_some]
  by_cases oa : K 130 (16 * a + 6) = 3
  · have pa := pos_o hw ha oa
    rw [if_neg (fun c => c oa), if_neg (fun c => c oa), ky_o oa]
    by_cases ob : K 130 (16 * b + 6) = 3
    · have pb := pos_o hw hb ob
      rw [if_neg (fun c => c ob), ky_o ob]
      by_cases c : pos (K 130) a (cnt3 (K 130) n) < pos (K 130) b (cnt3 (K 130) n)
      · rw [if_neg (by rw [pi_le (by omega) (by omega)]; omega), if_pos c]
      · rw [if_pos (by rw [pi_le (by omega) (by omega)]; omega), if_neg c]
    · rw [if_pos ob, ky_n ob, if_pos (by omega)]
  · rw [if_pos oa, if_pos oa, ky_n oa]
    by_cases ob : K 130 (16 * b + 6) = 3
    · have pb := pos_o hw hb ob
      rw [if_neg (fun c => c ob), ky_o ob, if_neg (by omega)]
    · rw [if_pos ob, ky_n ob]
      by_cases c : fl (K 130) a = fl (K 130) b
      · rw [if_pos (by rw [c])]
        by_cases d : a < b
        · rw [if_neg (by rw [pi_le (by omega) (by omega)]; omega), if_pos (by omega)]
        · rw [if_pos (by rw [pi_le (by omega) (by omega)]; omega), if_neg (by omega)]
      · rw [if_neg (by rw [pi_eq (by omega) (by omega)]; exact c)]
        by_cases d : fl (K 130) a ≤ fl (K 130) b
        · rw [if_pos (by rw [pi_le (by omega) (by omega)]; exact d), if_neg (by omega)]
        · rw [if_neg (by rw [pi_le (by omega) (by omega)]; exact d), if_pos (by omega)]
theorem x6_isAheadOf {I : Nat → Nat → Int32} {β n a b : Nat} {s : Nat → Int32} (hw : WX s n) (ha : a < n) (hb : b < n) (hR : R I β s n) (hZ : RZ I β) : f_X6_isAheadOf (cB β a) (cB β b) I = some (if ky s n a < ky s n b then 1 else 0) := by
  have hn := hw.1.2
  have hc := cnt3_le s n
  have fa := hw.fl.2.2 a ha
  have fb := hw.fl.2.2 b hb
  have ra := hR.2.2.1 a ha
  have rb := hR.2.2.1 b hb
  have h135 := hw.a.1
  have hcnt : tn (s 135) = cnt3 s n := by rw [h135]; exact pi_tn (by omega)
  unfold f_X6_isAheadOf
  rw [ra.2.2.2.2.2.2.2.2.1, rb.2.2.2.2.2.2.2.2.1, ra.2.2.2.1, rb.2.2.2.1, fa.1, fb.1, (hZ a (by omega)).1, (hZ b (by omega)).1]
  by_cases oa : s (16 * a + 6) = 3
  · have pa := pos_o hw ha oa
    have h13 : I (cB β a) 13 = nI (pos s a (cnt3 s n)) := hR.2.2.2 a _ ha (by omega) pa.2
    rw [if_pos oa]
    simp only [Option.bind_some, hlet_e]
    rw [ky_o oa]
    by_cases ob : s (16 * b + 6) = 3
    · have pb := pos_o hw hb ob
      have h13b : I (cB β b) 13 = nI (pos s b (cnt3 s n)) := hR.2.2.2 b _ hb (by omega) pb.2
      rw [if_pos ob]
      simp only [Option.bind_some, show ¬ ((1 : Int32) = 0) by decide, if_false]
      rw [h13, h13b, ky_o ob]
      by_cases c : pos s a (cnt3 s n) < pos s b (cnt3 s n)
      · rw [if_neg (by rw [pi_le (by omega) (by omega)]; omega), if_pos c]
      · rw [if_pos (by rw [pi_le (by omega) (by omega)]; omega), if_neg c]
    · rw [if_neg ob]
      simp only [Option.bind_some, if_true, show ¬ ((1 : Int32) = 0) by decide, if_false]
      rw [ky_n ob, if_pos (by omega)]; rfl
  · rw [if_neg oa]
    simp only [Option.bind_some, hlet_e, if_true]
    rw [ky_n oa]
    by_cases ob : s (16 * b + 6) = 3
    · have pb := pos_o hw hb ob
      rw [if_pos ob]
      simp only [Option.bind_some]
      rw [if_neg (show ¬ ((1 : Int32) = 0) by decide), ky_o ob, if_neg (by omega)]; rfl
    · rw [if_neg ob]
      simp only [Option.bind_some, if_true]
      rw [ky_n ob]
      by_cases d : fl s b < fl s a
      · rw [if_pos (by rw [pi_lt (by omega) (by omega)]; exact d), if_pos (by omega)]
      · rw [if_neg (by rw [pi_lt (by omega) (by omega)]; exact d)]
        by_cases c : fl s a = fl s b
        · rw [if_pos (by rw [c])]
          by_cases e : a < b
          · rw [if_neg (by rw [pi_le (by omega) (by omega)]; omega), if_pos (by omega)]
          · rw [if_pos (by rw [pi_le (by omega) (by omega)]; omega), if_neg (by omega)]
        · rw [if_neg (by rw [pi_eq (by omega) (by omega)]; exact c), if_neg (by omega)]
def rk (κ : Nat → Nat) (b : Nat) : Nat → Nat
  | 0 => 0
  | m + 1 => rk κ b m + if κ m < κ b then 1 else 0
theorem rk_le (κ : Nat → Nat) (b m : Nat) : rk κ b m + (if b < m then 1 else 0) ≤ m := by
  induction m with
  | zero => simp [rk]
  | succ m ih =>
    unfold rk
    by_cases e : b = m
    · subst e
      rw [if_neg (Nat.lt_irrefl b)] at ih
      rw [if_neg (Nat.lt_irrefl _), if_pos (by omega)]; omega
    · by_cases c : b < m
      · rw [if_pos c] at ih; rw [if_pos (show b < m + 1 by omega)]; split <;> omega
      · rw [if_neg c] at ih; rw [if_neg (show ¬ b < m + 1 by omega)]; split <;> omega
theorem rk_mono {κ : Nat → Nat} {x y : Nat} (h : κ x < κ y) (m : Nat) : rk κ x m + (if x < m then 1 else 0) ≤ rk κ y m := by
  induction m with
  | zero => simp [rk]
  | succ m ih =>
    unfold rk
    by_cases e : x = m
    · subst e
      rw [if_neg (Nat.lt_irrefl x)] at ih
      rw [if_neg (Nat.lt_irrefl _), if_pos (by omega), if_pos h]; omega
    · have e2 : (if x < m + 1 then 1 else 0) = (if x < m then 1 else 0) := by
        by_cases c : x < m
        · rw [if_pos c, if_pos (by omega)]
        · rw [if_neg c, if_neg (by omega)]
      rw [e2]
      by_cases c : κ m < κ x
      · rw [if_pos c, if_pos (show κ m < κ y by omega)]; omega
      · rw [if_neg c]
        by_cases d : κ m < κ y
        · rw [if_pos d]; omega
        · rw [if_neg d]; omega
theorem rk_inj {κ : Nat → Nat} {x y m : Nat} (hx : x < m) (hy : y < m) (hk : x ≠ y → κ x ≠ κ y) (h : rk κ x m = rk κ y m) : x = y := by
  by_cases e : x = y
  · exact e
  · exfalso
    rcases Nat.lt_or_gt_of_ne (hk e) with c | c
    · have := rk_mono c m; rw [if_pos hx] at this; omega
    · have := rk_mono c m; rw [if_pos hy] at this; omega
theorem x8_place {K : Nat → Nat → Int32} {n b : Nat} (hw : WX (K 130) n) (hb : b < n) : f_X8_place (nI b) K = some (nI (rk (ky (K 130) n) b n)) := by
  have hn := hw.1.2
  have := loop_go (fun fuel k (st : Int32) => f_X8_place_L4 (nI b) K fuel st k) n (fun k st => st = nI (rk (ky (K 130) n) b k)) (fun v => v = nI (rk (ky (K 130) n) b n)) ?_ FU 0 (nI 0) (by omega) rfl (by unfold FU; omega)
  · obtain ⟨v, hv, rfl⟩ := this
    unfold f_X8_place
    rw [show (0 : Int32) = nI 0 from rfl, hv]; rfl
  · rintro k st hk rfl
    rcases Nat.lt_or_ge k n with h | h
    · right
      refine ⟨h, _, rfl, fun fuel => ?_⟩
      show f_X8_place_L4 (nI b) K (fuel+1) (nI (rk (ky (K 130) n) b k)) (nI k) = _
      rw [f_X8_place_L4, t128, hw.1.1, if_neg (by rw [pi_le (by omega) (by omega)]; omega), x8_isAhead hw h hb, show nI k + (1 : Int32) = nI (k + 1) from pi_add k 1]
      simp only [Option.bind_some, hlet_e, i32_ne, pi_eq (show k < 2147483648 by omega) (show b < 2147483648 by omega)]
      show _ = f_X8_place_L4 (nI b) K fuel (nI (rk (ky (K 130) n) b k + if ky (K 130) n k < ky (K 130) n b then 1 else 0)) (nI (k + 1))
      have e0 : nI (rk (ky (K 130) n) b k) + (0 : Int32) = nI (rk (ky (K 130) n) b k + 0) := pi_add _ 0
      have e1 : nI (rk (ky (K 130) n) b k) + (1 : Int32) = nI (rk (ky (K 130) n) b k + 1) := pi_add _ 1
      by_cases e : k = b
      · rw [if_pos e, if_neg (show ¬ ky (K 130) n k < ky (K 130) n b by rw [e]; exact Nat.lt_irrefl _), ← e0]; rfl
      · rw [if_neg e]
        by_cases c : ky (K 130) n k < ky (K 130) n b
        · rw [if_neg (fun d => d c), if_pos c, ← e1]; rfl
        · rw [if_pos c, if_neg c, ← e0]; rfl
    · left
      have : k = n := by omega
      subst this
      refine ⟨_, fun fuel => ?_, rfl⟩
      show f_X8_place_L4 (nI b) K (fuel+1) _ _ = _
      rw [f_X8_place_L4, t128, hw.1.1, if_pos (Int32.le_refl _)]
