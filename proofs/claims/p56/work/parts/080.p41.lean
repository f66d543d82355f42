theorem let_one {I K : Nat → Nat → Int32} {O : Nat → Nat → Option Nat} {β n : Nat} (hB : IsB β) (h : RR I β (K 130) n) (hr : K 130 150 = 1) :
    ∃ I' O' K' v, f_X3_letGoBy β (1 : Int32) I O = some (I', O') ∧ f_X8_second K = some (nI v, K') ∧ RR I' β (K' 130) n ∧ cnt3 (K' 130) n = cnt3 (K 130) n + v ∧ (v = 0 → K' 130 150 = 1) ∧ FK2 K K' ∧ FI β I I' ∧ FO β O O' := by
  obtain ⟨O7, I11, p12, K1, v1, a1, a2, a3, a4, a5, a6, a7, a8, a9, a10, a11⟩ := one_second (O := O) hB h hr
  have h5 : I β 5 = K 130 150 := h.1.1.2.2.1
  refine ⟨_, O7, K1, v1, ?_, a5, a6, a7, a8, a9, a10, a11⟩
  unfold f_X3_letGoBy
  have e : f_X3_letGoBy_L2 β (1 : Int32) FU 0 I O = some (gup I11 β 5 p12, O7) := by
    show f_X3_letGoBy_L2 β (1 : Int32) (4095 + 1) 0 I O = _
    rw [f_X3_letGoBy_L2, if_neg (by decide), h5, hr, if_neg (by decide), hlet_e, a1]
    simp only [Option.bind_some]
    rw [a2]
    simp only [Option.bind_some]
    refine (congrArg (fun z => Option.bind z _) a3).trans ?_
    simp only [Option.bind_some]
    rw [a4, hg_t, hlet_e, hlet_e]
    show f_X3_letGoBy_L2 β (1 : Int32) (4094 + 1) (0 + 1) _ O7 = _
    rw [f_X3_letGoBy_L2, if_pos (by decide)]
  rw [e]; rfl
theorem next_loop {β n c0 : Nat} (hB : IsB 13) :
    ∀ d k fuel (I : Nat → Nat → Int32) (O : Nat → Nat → Option Nat) (K : Nat → Nat → Int32), k + d = 2000 → d + 1 < fuel → RR I 13 (K 130) n → K 130 150 = 1 → cnt3 (K 130) n = c0 → I 1 7 = nI c0 →
    ∃ I' O' K', RZ I' 13 ∧ FK2 K K' ∧ FI 13 I I' ∧ FO 13 O O' ∧
      ((f_X7_foretellSeconds_L13 fuel (nI (k + 1)) I O = some (-1, I', O') ∧ f_X8_nextIn_L21 fuel (nI k) 0 K = some (nI 2000, 0, K')) ∨
       (∃ t, k < t ∧ t ≤ 2000 ∧ f_X7_foretellSeconds_L13 fuel (nI (k + 1)) I O = some (nI t, I', O') ∧ f_X8_nextIn_L21 fuel (nI k) 0 K = some (nI t, 1, K') ∧ RR I' 13 (K' 130) n ∧ c0 < cnt3 (K' 130) n)) := by
  intro d
  induction d with
  | zero =>
    intro k fuel I O K hk hf h hr hc h1
    obtain ⟨f, rfl⟩ : ∃ f, fuel = f + 1 := ⟨fuel - 1, by omega⟩
    refine ⟨I, O, K, h.2.1, fun _ _ _ => rfl, FI.rf, fun _ _ => rfl, Or.inl ⟨?_, ?_⟩⟩
    · rw [f_X7_foretellSeconds_L13, if_pos (by rw [show (2000 : Int32) = nI 2000 from rfl, pi_lt (by omega) (by omega)]; omega)]
    · rw [f_X8_nextIn_L21, if_pos (by rw [show (2000 : Int32) = nI 2000 from rfl, pi_le (by omega) (by omega)]; omega), show k = 2000 by omega]
  | succ d ih =>
    intro k fuel I O K hk hf h hr hc h1
    obtain ⟨f, rfl⟩ : ∃ f, fuel = f + 1 := ⟨fuel - 1, by omega⟩
    have h5 : I 13 5 = K 130 150 := h.1.1.2.2.1
    have hn := h.2.2.2.1.1.2
    obtain ⟨I1, O1, K1, v, a1, a2, a3, a4, a5, a6, a7, a8⟩ := let_one (O := O) hB h hr
    have hle := cnt3_le (K1 130) n
    have r7 : I1 13 7 = nI (c0 + v) := (a3.1.1.2.2.2.1.trans a3.2.2.2.1.a.1).trans (by rw [a4, hc])
    have r1 : I1 1 7 = nI c0 := by rw [a7 1 (by omega)]; exact h1
    have sA : f_X7_foretellSeconds_L13 (f + 1) (nI (k + 1)) I O = if v = 0 then f_X7_foretellSeconds_L13 f (nI (k + 1 + 1)) I1 O1 else some (nI (k + 1), I1, O1) := by
      rw [f_X7_foretellSeconds_L13, if_neg (by rw [show (2000 : Int32) = nI 2000 from rfl, pi_lt (by omega) (by omega)]; omega), h5, hr, if_neg (by decide), a1]
      simp only [Option.bind_some]
      rw [r7, r1, hlet_e, show nI (k + 1) + (1 : Int32) = nI (k + 1 + 1) from pi_add (k + 1) 1]
      by_cases c : v = 0
      · rw [if_pos c, if_pos (by rw [pi_le (by omega) (by omega)]; omega)]
      · rw [if_neg c, if_neg (by rw [pi_le (by omega) (by omega)]; omega)]
    have sB : f_X8_nextIn_L21 (f + 1) (nI k) 0 K = if v = 0 then f_X8_nextIn_L21 f (nI (k + 1)) 0 K1 else f_X8_nextIn_L21 f (nI (k + 1)) 1 K1 := by
      rw [f_X8_nextIn_L21, if_neg (by rw [show (2000 : Int32) = nI 2000 from rfl, pi_le (by omega) (by omega)]; omega), if_pos rfl, a2]
      simp only [Option.bind_some]
      by_cases c : v = 0
      · rw [if_pos c, c, if_pos (by decide)]
        simp only [Option.bind_some, hlet_e]
        rw [show nI k + (1 : Int32) = nI (k + 1) from pi_add k 1]
      · rw [if_neg c, if_neg (by rw [show (0 : Int32) = nI 0 from rfl, pi_le (by omega) (by omega)]; omega)]
        simp only [Option.bind_some, hlet_e]
        rw [show nI k + (1 : Int32) = nI (k + 1) from pi_add k 1]
    rw [sA, sB]
    by_cases c : v = 0
    · rw [if_pos c, if_pos c]
      obtain ⟨I', O', K', b1, b2, b3, b4, b5⟩ := ih (k + 1) f I1 O1 K1 (by omega) (by omega) a3 (a5 c) (by rw [a4, hc, c]; rfl) r1
      refine ⟨I', O', K', b1, a6.tr b2, a7.tr b3, a8.tr b4, ?_⟩
      rcases b5 with h | ⟨t, t1, t2, t3⟩
      · exact Or.inl h
      · exact Or.inr ⟨t, by omega, t2, t3⟩
    · rw [if_neg c, if_neg c]
      refine ⟨I1, O1, K1, a3.2.1, a6, a7, a8, Or.inr ⟨k + 1, by omega, by omega, rfl, ?_, a3, by rw [a4]; omega⟩⟩
      obtain ⟨f', rfl⟩ : ∃ f', f = f' + 1 := ⟨f - 1, by omega⟩
      rw [f_X8_nextIn_L21]
      by_cases e : (2000 : Int32) ≤ nI (k + 1)
      · rw [if_pos e]
      · rw [if_neg e, if_neg (by decide)]
