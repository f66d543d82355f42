def RR (I : Nat → Nat → Int32) (β : Nat) (s : Nat → Int32) (n : Nat) : Prop := R I β s n ∧ RZ I β ∧ I β 6 = s 134 ∧ WF s n
theorem FO.tr {β : Nat} {K K' K'' : Nat → Nat → Option Nat} (h : FO β K K') (h2 : FO β K' K'') : FO β K K'' := fun a ha => (h2 a ha).trans (h a ha)
theorem one_second {I K : Nat → Nat → Int32} {O : Nat → Nat → Option Nat} {β n : Nat} (hB : IsB β) (h : RR I β (K 130) n) (hr : K 130 150 = 1) :
    ∃ O7 I11 p12 K' v, f_X3_putInOrder β (gup I β 6 (I β 6 + 1)) O = some O7 ∧ f_X3_letGoBy_L30 β O7 FU (0 : Int32) (gup I β 6 (I β 6 + 1)) = some I11 ∧
      (if (I11 β 3) ≤ (I11 β 7) then some (0 : Int32) else some (1 : Int32)) = some p12 ∧ gz p12 = true ∧ f_X8_second K = some (nI v, K') ∧
      RR (gup I11 β 5 p12) β (K' 130) n ∧ cnt3 (K' 130) n = cnt3 (K 130) n + v ∧ (v = 0 → K' 130 150 = 1) ∧ FK2 K K' ∧ FI β I (gup I11 β 5 p12) ∧ FO β O O7 := by
  obtain ⟨hR, hZ, h6, hw, hwr, hlt⟩ := h
  obtain ⟨O7, I11, p12, K', v, a1, a2, a3, a4, a5, a6, a7, a8, a9, a10, a11, a12, a13, a14, a15⟩ := second_both (O := O) hB hw hR hZ h6 (hwr hr)
  refine ⟨O7, I11, p12, K', v, a1, a2, a3, a4, a5, ⟨a6, a7, a10, a8, fun _ => a9, fun e => ?_⟩, a11, fun e => ?_, a13, a14, a15⟩
  · rcases a12 with h | h
    · exact h.2
    · rw [h.1] at e; exact absurd e (by decide)
  · rcases a12 with h | h
    · exact h.1
    · have := hlt hr; omega
theorem pass_loop {β n m : Nat} (hB : IsB β) (hm : m < 4000) :
    ∀ d k fuel (I : Nat → Nat → Int32) (O : Nat → Nat → Option Nat) (K : Nat → Nat → Int32) (p1 : Int32), k + d = m → d < fuel → RR I β (K 130) n →
    ∃ I' O' K' v, f_X3_letGoBy_L2 β (nI m) fuel (nI k) I O = some (I', O') ∧ f_X8_passes_L4 (nI m) fuel p1 (nI k) K = some (p1 + nI v, K') ∧
      RR I' β (K' 130) n ∧ cnt3 (K' 130) n = cnt3 (K 130) n + v ∧ FK2 K K' ∧ FI β I I' ∧ FO β O O' := by
  intro d
  induction d with
  | zero =>
    intro k fuel I O K p1 hk hf h
    obtain ⟨f, rfl⟩ : ∃ f, fuel = f + 1 := ⟨fuel - 1, by omega⟩
    refine ⟨I, O, K, 0, ?_, ?_, h, rfl, fun _ _ _ => rfl, FI.rf, fun _ _ => rfl⟩
    · rw [f_X3_letGoBy_L2, if_pos (by rw [pi_le (by omega) (by omega)]; omega)]
    · rw [f_X8_passes_L4, if_pos (by rw [pi_le (by omega) (by omega)]; omega), show nI 0 = (0 : Int32) from rfl, Int32.add_zero]
  | succ d ih =>
    intro k fuel I O K p1 hk hf h
    obtain ⟨f, rfl⟩ : ∃ f, fuel = f + 1 := ⟨fuel - 1, by omega⟩
    have h5 : I β 5 = K 130 150 := h.1.1.2.2.1
    have hb := h.2.2.2.1.2.2.2.2.1.2.e (by omega)
    by_cases hr : K 130 150 = 1
    · obtain ⟨O7, I11, p12, K1, v1, a1, a2, a3, a4, a5, a6, a7, a8, a9, a10, a11⟩ := one_second (O := O) hB h hr
      obtain ⟨I', O', K', v, b1, b2, b3, b4, b5, b6, b7⟩ := ih (k + 1) f _ O7 K1 (p1 + nI v1) (by omega) (by omega) a6
      refine ⟨I', O', K', v1 + v, ?_, ?_, b3, by rw [b4, a7]; omega, a9.tr b5, a10.tr b6, a11.tr b7⟩
      · rw [f_X3_letGoBy_L2, if_neg (by rw [pi_le (by omega) (by omega)]; omega), h5, hr, if_neg (by decide), hlet_e, a1]
        simp only [Option.bind_some]
        rw [a2]
        simp only [Option.bind_some]
        refine (congrArg (fun z => Option.bind z _) a3).trans ?_
        simp only [Option.bind_some]
        rw [a4, hg_t, hlet_e, hlet_e, show nI k + (1 : Int32) = nI (k + 1) from pi_add k 1]; exact b1
      · rw [f_X8_passes_L4, if_neg (by rw [pi_le (by omega) (by omega)]; omega), t150, if_pos hr, a5]
        simp only [Option.bind_some]
        rw [hlet_e, show nI k + (1 : Int32) = nI (k + 1) from pi_add k 1, b2, Int32.add_assoc, pi_add]
    · have h0 : K 130 150 = 0 := by
        have : tn (K 130 150) ≠ 1 := fun e => hr (by rw [hb.1, e]; rfl)
        rw [hb.1, show tn (K 130 150) = 0 by omega]; rfl
      refine ⟨I, O, K, 0, ?_, ?_, h, rfl, fun _ _ _ => rfl, FI.rf, fun _ _ => rfl⟩
      · rw [f_X3_letGoBy_L2, if_neg (by rw [pi_le (by omega) (by omega)]; omega), h5, h0, if_pos rfl]
      · rw [f_X8_passes_L4, if_neg (by rw [pi_le (by omega) (by omega)]; omega), t150, if_neg hr, show nI 0 = (0 : Int32) from rfl, Int32.add_zero]
theorem pass_both {I K : Nat → Nat → Int32} {O : Nat → Nat → Option Nat} {β n m : Nat} (hB : IsB β) (hm : m < 4000) (h : RR I β (K 130) n) :
    ∃ I' O' K' v, f_X3_letGoBy β (nI m) I O = some (I', O') ∧ f_X8_passes (nI m) K = some (nI v, K') ∧
      RR I' β (K' 130) n ∧ cnt3 (K' 130) n = cnt3 (K 130) n + v ∧ FK2 K K' ∧ FI β I I' ∧ FO β O O' := by
  obtain ⟨I', O', K', v, a1, a2, a3⟩ := pass_loop hB hm m 0 FU I O K 0 (by omega) (by unfold FU; omega) h
  refine ⟨I', O', K', v, ?_, ?_, a3⟩
  · unfold f_X3_letGoBy
    rw [show f_X3_letGoBy_L2 β (nI m) FU 0 I O = some (I', O') from a1]; rfl
  · unfold f_X8_passes
    rw [show f_X8_passes_L4 (nI m) FU 0 0 K = some (0 + nI v, K') from a2, Int32.zero_add]; rfl
