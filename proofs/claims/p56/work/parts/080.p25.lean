theorem x3_countAheadOf {I : Nat → Nat → Int32} {β n b : Nat} {s : Nat → Int32} (hB : IsB β) (hw : WX s n) (hb : b < n) (hR : R I β s n) (hZ : RZ I β) : f_X3_countAheadOf β (cB β b) I = some (nI (rk (ky s n) b n)) := by
  have hn := hw.1.2
  have h3 : I β 3 = nI n := hR.1.1.trans hw.1.1
  have := loop_go (fun fuel k (st : Int32) => f_X3_countAheadOf_L14 β (cB β b) I fuel st k) 8 (fun k st => st = nI (rk (ky s n) b (min k n))) (fun v => v = nI (rk (ky s n) b n)) ?_ FU 0 (nI 0) (by omega) (by rw [Nat.zero_min]; rfl) (by unfold FU; omega)
  · obtain ⟨v, hv, rfl⟩ := this
    unfold f_X3_countAheadOf
    rw [show (0 : Int32) = nI 0 from rfl, hv]; rfl
  · rintro k st hk rfl
    rcases Nat.lt_or_ge k 8 with hk8 | hk8
    · right
      have hnle : ¬ ((8 : Int32) ≤ nI k) := by rw [show (8 : Int32) = nI 8 from rfl, pi_le (by omega) (by omega)]; omega
      have hgin : gin (nI k) 8 = true := by rw [pi_gin (by omega)]; exact decide_eq_true hk8
      have htn : β + 1 + 3 + (nI k).toNatClampNeg = cB β k := by rw [pi_tn (by omega)]; rfl
      refine ⟨hk8, _, rfl, fun fuel => ?_⟩
      show f_X3_countAheadOf_L14 β (cB β b) I (fuel+1) (nI (rk (ky s n) b (min k n))) (nI k) = _
      rw [f_X3_countAheadOf_L14, if_neg hnle, hgin, hg_t, htn]
      unfold f_X3_isThere
      rw [hopt_e2, hk_e (sk_b hB hk8), h3, (hZ k hk8).1]
      by_cases hkn : k < n
      · rw [if_neg (by rw [pi_le (by omega) (by omega)]; omega)]
        simp only [Option.bind_some]
        rw [if_neg (show ¬ ((1 : Int32) = 0) by decide), x6_isAheadOf hw hkn hb hR hZ, Nat.min_eq_left (by omega), Nat.min_eq_left (by omega)]
        simp only [Option.bind_some, hlet_e, i32_ne]
        rw [show nI k + (1 : Int32) = nI (k + 1) from pi_add k 1]
        show _ = f_X3_countAheadOf_L14 β (cB β b) I fuel (nI (rk (ky s n) b k + if ky s n k < ky s n b then 1 else 0)) (nI (k + 1))
        by_cases c : ky s n k < ky s n b
        · rw [if_neg (fun d => d c), if_pos c, show nI (rk (ky s n) b k) + (1 : Int32) = nI (rk (ky s n) b k + 1) from pi_add _ 1]; rfl
        · rw [if_pos c, if_neg c]; rfl
      · rw [if_pos (by rw [pi_le (by omega) (by omega)]; omega), Nat.min_eq_right (by omega), Nat.min_eq_right (by omega)]
        simp only [Option.bind_some, hlet_e, if_true]
        rw [show nI k + (1 : Int32) = nI (k + 1) from pi_add k 1]
    · left
      have : k = 8 := by omega
      subst this
      refine ⟨nI (rk (ky s n) b (min 8 n)), fun fuel => ?_, by rw [Nat.min_eq_right (by omega)]⟩
      show f_X3_countAheadOf_L14 β (cB β b) I (fuel+1) _ (nI 8) = _
      rw [f_X3_countAheadOf_L14, if_pos (by decide)]
theorem x3_arrivedAs {I : Nat → Nat → Int32} {β n : Nat} {s : Nat → Int32} {a : Int32} (hB : IsB β) (hw : WX s n) (hR : R I β s n) (hZ : RZ I β) :
    (∃ k b, k < cnt3 s n ∧ a = nI k ∧ b < n ∧ s (136 + k) = nI b ∧ f_X3_arrivedAs β a I = some (some (cB β b))) ∨ ((∀ k, k < cnt3 s n → a ≠ nI k) ∧ f_X3_arrivedAs β a I = some none) := by
  have hn := hw.1.2
  have hc := cnt3_le s n
  have h3 : I β 3 = nI n := hR.1.1.trans hw.1.1
  have hcnt : tn (s 135) = cnt3 s n := by rw [hw.a.1]; exact pi_tn (by omega)
  have := loop_go (fun fuel k (st : Unit) => f_X3_arrivedAs_L11 β a I fuel k) 8
    (fun k st => ∀ b, b < k → b < n → s (16 * b + 6) = 3 → a ≠ nI (pos s b (cnt3 s n)))
    (fun v => (∃ b, b < n ∧ s (16 * b + 6) = 3 ∧ a = nI (pos s b (cnt3 s n)) ∧ v = some (cB β b)) ∨ ((∀ b, b < n → s (16 * b + 6) = 3 → a ≠ nI (pos s b (cnt3 s n))) ∧ v = none)) ?_ FU 0 () (by omega) (fun b hb => absurd hb (by omega)) (by unfold FU; omega)
  · obtain ⟨v, hv, hq⟩ := this
    rcases hq with ⟨b, hb, h6, ha, rfl⟩ | ⟨hno, rfl⟩
    · have hp := pos_o hw hb h6
      exact Or.inl ⟨_, b, hp.1, ha, hb, hp.2, hv⟩
    · right
      refine ⟨fun k hk e => ?_, hv⟩
      obtain ⟨b, hb, e1, e2⟩ := hw.2.2.2.2.2.2.1 k hk
      have hp := pos_o hw hb e2
      have := hw.2.2.2.2.2.2.2.1 k (pos s b (cnt3 s n)) hk hp.1 (e1.trans hp.2.symm)
      exact hno b hb e2 (this ▸ e)
  · rintro k st hk hP
    rcases Nat.lt_or_ge k 8 with hk8 | hk8
    · have hnle : ¬ ((8 : Int32) ≤ nI k) := by rw [show (8 : Int32) = nI 8 from rfl, pi_le (by omega) (by omega)]; omega
      have hgin : gin (nI k) 8 = true := by rw [pi_gin (by omega)]; exact decide_eq_true hk8
      have htn : β + 1 + 3 + (nI k).toNatClampNeg = cB β k := by rw [pi_tn (by omega)]; rfl
      have unf : ∀ fuel, f_X3_arrivedAs_L11 β a I (fuel+1) (nI k) = (if k < n then (if I (cB β k) 9 = 3 then (if I (cB β k) 13 = a then some (some (cB β k)) else f_X3_arrivedAs_L11 β a I fuel (nI (k+1))) else f_X3_arrivedAs_L11 β a I fuel (nI (k+1))) else f_X3_arrivedAs_L11 β a I fuel (nI (k+1))) := by
        intro fuel
        rw [f_X3_arrivedAs_L11, if_neg hnle, hgin, hg_t, htn]
        unfold f_X3_isThere
        rw [hopt_e2, hk_e (sk_b hB hk8), h3, (hZ k hk8).1, show nI k + (1 : Int32) = nI (k + 1) from pi_add k 1]
        by_cases hkn : k < n
        · rw [if_neg (by rw [pi_le (by omega) (by omega)]; omega), if_pos hkn]
          simp only [Option.bind_some, hlet_e, show ¬ ((1 : Int32) = 0) by decide, if_false]
        · rw [if_pos (by rw [pi_le (by omega) (by omega)]; omega), if_neg hkn]
          simp only [Option.bind_some, hlet_e, if_true]
      by_cases hit : k < n ∧ s (16 * k + 6) = 3 ∧ a = nI (pos s k (cnt3 s n))
      · left
        obtain ⟨c1, c2, c3⟩ := hit
        have hp := pos_o hw c1 c2
        refine ⟨some (cB β k), fun fuel => ?_, Or.inl ⟨k, c1, c2, c3, rfl⟩⟩
        show f_X3_arrivedAs_L11 β a I (fuel+1) (nI k) = _
        rw [unf, if_pos c1, (hR.2.2.1 k c1).2.2.2.2.2.2.2.2.1, if_pos c2, hR.2.2.2 k _ c1 (by rw [hcnt]; exact hp.1) hp.2, if_pos c3.symm]
      · right
        refine ⟨hk8, (), fun b hb hbn h6 => ?_, fun fuel => ?_⟩
        · rcases lt_succ'.mp hb with h | rfl
          · exact hP b h hbn h6
          · exact fun e => hit ⟨hbn, h6, e⟩
        · show f_X3_arrivedAs_L11 β a I (fuel+1) (nI k) = _
          rw [unf]
          by_cases c1 : k < n
          · rw [if_pos c1, (hR.2.2.1 k c1).2.2.2.2.2.2.2.2.1]
            by_cases c2 : s (16 * k + 6) = 3
            · have hp := pos_o hw c1 c2
              rw [if_pos c2, hR.2.2.2 k _ c1 (by rw [hcnt]; exact hp.1) hp.2, if_neg (fun e => hit ⟨c1, c2, e.symm⟩)]
            · rw [if_neg c2]
          · rw [if_neg c1]
    · left
      have : k = 8 := by omega
      subst this
      refine ⟨none, fun fuel => ?_, Or.inr ⟨fun b hb h6 => hP b (by omega) hb h6, rfl⟩⟩
      show f_X3_arrivedAs_L11 β a I (fuel+1) (nI 8) = _
      rw [f_X3_arrivedAs_L11, if_pos (by decide)]
section QQ
variable {I : Nat → Nat → Int32} {n : Nat} {J : Nat → Nat → Int64}
theorem q_placeByCounting (h : QS I n) (a : Int32) : QA (f_W_placeByCounting a I J) (f_X8_placeByCounting a I) I J := by
  have hn := h.2.2.2.1.1.2
  unfold f_W_placeByCounting f_X7_placeByCounting f_X8_placeByCounting
  rcases h.k a with ⟨b, hb, rfl, e1, e2⟩ | ⟨e1, e2⟩
  · left
    refine ⟨nI (rk (ky (I 130) n) b n), ?_, ?_⟩
    · rw [e1]; simp only [Option.bind_some, hsum]
      rw [hk_e (sk_b (Or.inl rfl) (by omega)), x3_countAheadOf (Or.inl rfl) h.2.2.2.1 hb h.1 h.2.1]
      simp only [Option.bind_some, hlet_e]
      rw [t0']
    · rw [e2]; simp only [Option.bind_some]
      rw [if_neg (by decide)]; simp only [Option.bind_some]
      rw [ref0]; simp only [Option.bind_some, if_true]
      rw [x8_place (K := gup I 129 8 0) (by rw [g130]; exact h.2.2.2.1) hb, g130]; rfl
  · right
    refine ⟨1, 0, by decide, ?_, ?_⟩
    · rw [e1]; simp only [Option.bind_some, hsum, if_true]
    · rw [e2]; rfl
theorem q_timeOf (h : QS I n) (a : Int32) : QA (f_W_timeOf a I J) (f_X8_timeOf a I) I J := by
  have hn := h.2.2.2.1.1.2
  unfold f_W_timeOf f_X7_timeOf f_X8_timeOf
  rcases h.k a with ⟨b, hb, rfl, e1, e2⟩ | ⟨e1, e2⟩
  · have rb := h.1.2.2.1 b hb
    rw [e1, e2]
    simp only [Option.bind_some, hsum]
    rw [hk_e (sk_b (Or.inl rfl) (by omega)), rb.2.2.2.2.2.2.2.2.1, rb.2.2.2.2.2.2.2.2.2.2.2.2, x8_isOver (by omega)]
    simp only [Option.bind_some]
    by_cases c : I 130 (16 * b + 6) = 3
    · left
      refine ⟨I 130 (16 * b + 11), ?_, ?_⟩
      · rw [if_pos c]; simp only [Option.bind_some, hlet_e]; rw [t0']
      · rw [if_pos c, if_neg (by decide), if_neg (by decide)]; simp only [Option.bind_some]
        rw [ref0]; simp only [Option.bind_some, if_true]
        rw [show (11 : Int32) = nI 11 from rfl, x8_of (by omega) (by omega), g130]; rfl
    · right
      refine ⟨2, 0, by decide, ?_, ?_⟩
      · rw [if_neg c]; rfl
      · rw [if_neg c, if_neg (by decide), if_pos rfl]; rfl
  · right
    refine ⟨1, 0, by decide, ?_, ?_⟩
    · rw [e1]; simp only [Option.bind_some, hsum, if_true]
    · rw [e2]; rfl
theorem q_partnerOf (h : QS I n) (a : Int32) : QA (f_W_partnerOf a I J) (f_X8_partnerOf a I) I J := by
  have hn := h.2.2.2.1.1.2
  unfold f_W_partnerOf f_X7_partnerOf f_X8_partnerOf
  rcases h.k a with ⟨b, hb, rfl, e1, e2⟩ | ⟨e1, e2⟩
  · have rb := h.1.2.2.1 b hb
    rw [e1, e2]
    simp only [Option.bind_some, hsum]
    rw [hk_e (sk_b (Or.inl rfl) (by omega)), rb.2.2.2.2.2.2.2.2.2.2.2.1, show (10 : Int32) = nI 10 from rfl, x8_of (by omega) (by omega)]
    simp only [Option.bind_some]
    by_cases c : I 130 (16 * b + 10) = 0
    · right
      refine ⟨2, 0, by decide, ?_, ?_⟩
      · rw [c, if_pos (by decide)]; rfl
      · rw [if_neg (by decide), if_pos c]; rfl
    · left
      have c' : ¬ (I 130 (16 * b + 10) - 1 = -1) := by
        intro e
        have e2 : I 130 (16 * b + 10) - 1 + 1 = -1 + 1 := by rw [e]
        rw [Int32.sub_add_cancel] at e2; exact c (e2.trans (by decide))
      refine ⟨I 130 (16 * b + 10) - 1, ?_, ?_⟩
      · rw [if_neg c']; simp only [Option.bind_some, hlet_e]; rw [t0']
      · rw [if_neg (by decide), if_neg c]; simp only [Option.bind_some]
        rw [ref0]; simp only [Option.bind_some, if_true]
        rw [x8_of (by omega) (by omega), g130]; rfl
  · right
    refine ⟨1, 0, by decide, ?_, ?_⟩
    · rw [e1]; simp only [Option.bind_some, hsum, if_true]
    · rw [e2]; rfl
end QQ
