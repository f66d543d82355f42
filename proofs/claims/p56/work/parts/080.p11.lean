def nd (f d : Nat) : Nat := if d = 0 then f * f / 40 + 1 else (f * f / 40 + 1) * 3 / 5
theorem nd_b {f d : Nat} (hf : f ≤ 100) : nd f d ≤ 300 := by
  have : f * f ≤ 100 * 100 := Nat.mul_le_mul hf hf
  unfold nd; split <;> omega
theorem nd_e {f d : Nat} (hf : f ≤ 100) : (if (if d = 0 then (0 : Int32) else 1) = 0 then some (((nI f * nI f) / (40 : Int32)) + (1 : Int32)) else some (((((nI f * nI f) / (40 : Int32)) + (1 : Int32)) * (3 : Int32)) / (5 : Int32))) = some (nI (nd f d)) := by
  have h : f * f ≤ 100 * 100 := Nat.mul_le_mul hf hf
  rw [show (40 : Int32) = nI 40 from rfl, show (3 : Int32) = nI 3 from rfl, show (5 : Int32) = nI 5 from rfl, pi_mul, pi_div (by omega) (by omega)]
  rw [show nI (f * f / 40) + (1 : Int32) = nI (f * f / 40 + 1) from pi_add _ _, pi_mul, pi_div (by omega) (by omega)]
  unfold nd
  by_cases c : d = 0
  · rw [if_pos c, if_pos c, if_pos rfl]
  · rw [if_neg c, if_neg c, if_neg (by decide)]
theorem fly_C {I K : Nat → Nat → Int32} {β n b f1 d : Nat} (hB : IsB β) (hw : WX (K 130) n) (hb : b < n) (hR : R I β (K 130) n) (hZ : RZ I β) (hf : f1 ≤ 100) :
    ∃ I12 I15 K17 w f2,
      f_X6_flyWithStrength (cB β b) (nI f1) (if d = 0 then 0 else 1) I = some (nI f2, I12) ∧
      (if nI f2 < (15 : Int32) then
      some I12
    else
      if (100 : Int32) ≤ (I12 (cB β b) 7) then
        some I12
      else
        hlet (gup I12 (cB β b) 7 ((I12 (cB β b) 7) + (1 : Int32))) fun I18 =>
        some I18) = some I15 ∧
      (if nI (nd f1 d) ≤ (K 130 ((((16 : Int32) * nI b) + (3 : Int32)).toNatClampNeg)) then
      hg (gin (((16 : Int32) * nI b) + (3 : Int32)) 151) <|
      hg (gin (((16 : Int32) * nI b) + (3 : Int32)) 151) <|
      hlet (gup K 130 ((((16 : Int32) * nI b) + (3 : Int32)).toNatClampNeg) ((K 130 ((((16 : Int32) * nI b) + (3 : Int32)).toNatClampNeg)) - nI (nd f1 d))) fun I75 =>
      some (nI f1, I75)
    else
      (show Option (Int32) from
        if nI f1 ≤ (4 : Int32) then
          some (nI f1)
        else
          some (4 : Int32)).bind fun p76 =>
      some (p76, K)) = some (nI f2, K17) ∧
      (if nI f2 < (15 : Int32) then
      some (0 : Int32)
    else
      hg (gin (((16 : Int32) * nI b) + (4 : Int32)) 151) <|
      if (100 : Int32) ≤ (K17 130 ((((16 : Int32) * nI b) + (4 : Int32)).toNatClampNeg)) then
        some (0 : Int32)
      else
        some (1 : Int32)) = some w ∧
      f2 ≤ f1 ∧ R I15 β (wpd (K17 130) (16 * b + 4) (K17 130 (16 * b + 4) + w)) n ∧ RZ I15 β ∧ WX (wpd (K17 130) (16 * b + 4) (K17 130 (16 * b + 4) + w)) n ∧ (∀ i, i ≠ 16 * b + 3 → K17 130 i = K 130 i) ∧ FK K K17 ∧ FI β I I15 ∧ (I15 β = I β) := by
  have hn := hw.1.2
  have hb8 : b < 8 := by omega
  have ha := hw.a
  have hnb := nd_b (d := d) hf
  have hst := ((hw.2.1 b hb).2.2.2.1).e (by omega)
  have h6 : I (cB β b) 6 = K 130 (16 * b + 3) := (hR.2.2.1 b hb).2.2.2.2.2.1
  have e3 : (3 : Int32) = nI 3 := rfl
  have e4 : (4 : Int32) = nI 4 := rfl
  have e15 : (15 : Int32) = nI 15 := rfl
  have e100 : (100 : Int32) = nI 100 := rfl
  have hS : ∃ I12 K17 f2, f_X6_flyWithStrength (cB β b) (nI f1) (if d = 0 then 0 else 1) I = some (nI f2, I12) ∧
      (if nI (nd f1 d) ≤ (K 130 (16 * b + 3)) then some (nI f1, gup K 130 (16 * b + 3) ((K 130 (16 * b + 3)) - nI (nd f1 d))) else some (nI (min f1 4), K)) = some (nI f2, K17) ∧ f2 ≤ f1 ∧ R I12 β (K17 130) n ∧ RZ I12 β ∧ WX (K17 130) n ∧ (∀ i, i ≠ 16 * b + 3 → K17 130 i = K 130 i) ∧ FK K K17 ∧ FI β I I12 ∧ I12 β = I β := by
    unfold f_X6_flyWithStrength
    have hnd := nd_e (d := d) hf
    by_cases c : nd f1 d ≤ tn (K 130 (16 * b + 3))
    · have c' : nI (nd f1 d) ≤ K 130 (16 * b + 3) := by rw [hst.1, pi_le (by omega) (by omega)]; exact c
      refine ⟨gup I (cB β b) 6 (K 130 (16 * b + 3) - nI (nd f1 d)), gup K 130 (16 * b + 3) (K 130 (16 * b + 3) - nI (nd f1 d)), f1, ?_, if_pos c', Nat.le_refl _, ?_, RZ_keep (Or.inl ⟨by omega, by omega⟩) hZ, ?_, ?_, FK.gup FK.rf, FI.gup (by unfold cB; omega) FI.rf, gup_ne (fun c => cB_ne c.symm)⟩
      · refine (congrArg (fun z => Option.bind z _) hnd).trans ?_
        simp only [Option.bind_some]
        rw [h6, if_pos c', hlet_e]
      · rw [wpd_gup]; exact R_bird hn ha.2 hb (by unfold bPair; omega) hR
      · rw [wpd_gup]
        refine WX_bird hb ?_ hw
        have : Bd (K 130 (16 * b + 3) - nI (nd f1 d)) 0 999 := ⟨tn (K 130 (16 * b + 3)) - nd f1 d, by rw [← pi_sub c, ← hst.1], by omega, by omega⟩
        unfold okv; right; right; right; left; exact ⟨rfl, this⟩
      · intro i hi; exact gup_i hi
    · have c' : ¬ nI (nd f1 d) ≤ K 130 (16 * b + 3) := by rw [hst.1, pi_le (by omega) (by omega)]; exact c
      refine ⟨I, K, min f1 4, ?_, if_neg c', by omega, hR, hZ, hw, fun _ _ => rfl, FK.rf, FI.rf, rfl⟩
      refine (congrArg (fun z => Option.bind z _) hnd).trans ?_
      simp only [Option.bind_some]
      rw [h6, if_neg c', e4]
      by_cases c4 : 4 ≤ f1
      · rw [if_pos (by rw [pi_le (by omega) (by omega)]; exact c4), Nat.min_eq_right c4]
      · rw [if_neg (by rw [pi_le (by omega) (by omega)]; exact c4), Nat.min_eq_left (by omega)]
  obtain ⟨I12, K17, f2, s1, s2, s3, s4, s5, s6, s7, s8, s9, s10⟩ := hS
  have hm4 : (if nI f1 ≤ (4 : Int32) then some (nI f1) else some (4 : Int32)) = some (nI (min f1 4)) := by
    rw [e4]
    by_cases c4 : f1 ≤ 4
    · rw [if_pos (by rw [pi_le (by omega) (by omega)]; exact c4), Nat.min_eq_left c4]
    · rw [if_neg (by rw [pi_le (by omega) (by omega)]; exact c4), Nat.min_eq_right (by omega)]
  have hwr := ((s6.2.1 b hb).2.2.2.2.1).e (by omega)
  have h7 : I12 (cB β b) 7 = K17 130 (16 * b + 4) := (s4.2.2.1 b hb).2.2.2.2.2.2.1
  have hcond : ∃ I15 w, (if nI f2 < (15 : Int32) then some I12 else if (100 : Int32) ≤ (I12 (cB β b) 7) then some I12 else hlet (gup I12 (cB β b) 7 ((I12 (cB β b) 7) + (1 : Int32))) fun I18 => some I18) = some I15 ∧ (if nI f2 < (15 : Int32) then some (0 : Int32) else if (100 : Int32) ≤ (K17 130 (16 * b + 4)) then some (0 : Int32) else some (1 : Int32)) = some w ∧ R I15 β (wpd (K17 130) (16 * b + 4) (K17 130 (16 * b + 4) + w)) n ∧ RZ I15 β ∧ WX (wpd (K17 130) (16 * b + 4) (K17 130 (16 * b + 4) + w)) n ∧ FI β I12 I15 ∧ I15 β = I12 β := by
    have h0 : wpd (K17 130) (16 * b + 4) (K17 130 (16 * b + 4) + 0) = K17 130 := by
      funext i; unfold wpd; split
      · next h => rw [Int32.add_zero, h]
      · rfl
    by_cases c : nI f2 < (15 : Int32)
    · exact ⟨I12, 0, if_pos c, if_pos c, by rw [h0]; exact s4, s5, by rw [h0]; exact s6, FI.rf, rfl⟩
    · rw [if_neg c, if_neg c, h7]
      by_cases c2 : (100 : Int32) ≤ K17 130 (16 * b + 4)
      · exact ⟨I12, 0, if_pos c2, if_pos c2, by rw [h0]; exact s4, s5, by rw [h0]; exact s6, FI.rf, rfl⟩
      · refine ⟨gup I12 (cB β b) 7 (K17 130 (16 * b + 4) + 1), 1, if_neg c2, if_neg c2, R_bird hn s6.a.2 hb (by unfold bPair; omega) s4, RZ_keep (Or.inl ⟨by omega, by omega⟩) s5, ?_, FI.gup (by unfold cB; omega) FI.rf, gup_ne (fun c => cB_ne c.symm)⟩
        refine WX_bird hb ?_ s6
        have hlt : tn (K17 130 (16 * b + 4)) < 100 := by
          rcases Nat.lt_or_ge (tn (K17 130 (16 * b + 4))) 100 with h | h
          · exact h
          · exact absurd (by rw [hwr.1, e100, pi_le (by omega) (by omega)]; exact h) c2
        have : Bd (K17 130 (16 * b + 4) + 1) 0 100 := ⟨tn (K17 130 (16 * b + 4)) + 1, by rw [← pi_add, ← hwr.1]; rfl, by omega, by omega⟩
        unfold okv; right; right; right; right; left; exact ⟨rfl, this⟩
  obtain ⟨I15, w, u1, u2, u3, u4, u5, u6, u7⟩ := hcond
  refine ⟨I12, I15, K17, w, f2, s1, u1, ?_, ?_, s3, u3, u4, u5, s7, s8, s9.tr u6, u7.trans s10⟩
  · rw [e3, ix hb8 (by omega), ixg hb8 (by omega)]
    simp only [hg_t, hlet_e]
    refine Eq.trans ?_ s2
    congr 1
    exact (congrArg (fun z => Option.bind z (fun p76 => some (p76, K))) hm4)
  · rw [show ((16 : Int32) * nI b + (4 : Int32)).toNatClampNeg = 16 * b + 4 from ix (g := 4) hb8 (by omega), show gin ((16 : Int32) * nI b + (4 : Int32)) 151 = true from ixg (g := 4) hb8 (by omega), hg_t]
    exact u2
