def FK (K K' : Nat → Nat → Int32) : Prop := ∀ a, a ≠ 130 → K' a = K a
def FI (β : Nat) (I I' : Nat → Nat → Int32) : Prop := ∀ a, a < β ∨ β + 12 ≤ a → I' a = I a
theorem FK.gup {K K' : Nat → Nat → Int32} {k : Nat} {v : Int32} (h : FK K K') : FK K (gup K' 130 k v) := fun a ha => (gup_ne ha).trans (h a ha)
theorem FK.rf {K : Nat → Nat → Int32} : FK K K := fun _ _ => rfl
theorem FK.tr {K K' K'' : Nat → Nat → Int32} (h : FK K K') (h2 : FK K' K'') : FK K K'' := fun a ha => (h2 a ha).trans (h a ha)
theorem FI.rf {β : Nat} {I : Nat → Nat → Int32} : FI β I I := fun _ _ => rfl
theorem FI.tr {β : Nat} {K K' K'' : Nat → Nat → Int32} (h : FI β K K') (h2 : FI β K' K'') : FI β K K'' := fun a ha => (h2 a ha).trans (h a ha)
theorem FI.gup {β c k : Nat} {K K' : Nat → Nat → Int32} {v : Int32} (hc : β ≤ c ∧ c < β + 12) (h : FI β K K') : FI β K (gup K' c k v) := fun a ha => (gup_ne (by omega)).trans (h a ha)
theorem ix {b g : Nat} (hb : b < 8) (hg : g < 16) : ((16 : Int32) * nI b + nI g).toNatClampNeg = 16 * b + g := by
  rw [show (16 : Int32) = nI 16 from rfl, pi_mul, pi_add, pi_tn (by omega)]
theorem ixg {b g : Nat} (hb : b < 8) (hg : g < 16) : gin ((16 : Int32) * nI b + nI g) 151 = true := by
  rw [show (16 : Int32) = nI 16 from rfl, pi_mul, pi_add, pi_gin (by omega)]; exact decide_eq_true (by omega)
theorem R.q {I : Nat → Nat → Int32} {β n : Nat} {s : Nat → Int32} (hB : IsB β) (h : R I β s n) (hZ : RZ I β) (hw : WX s n) : QR I β s n :=
  ⟨hB, h.1.1.trans hw.1.1, fun k hk => (hZ k hk).1, h.2.2.1, hw.fl⟩
theorem WX.a {s : Nat → Int32} {n : Nat} (hw : WX s n) : s 135 = nI (cnt3 s n) ∧ tn (s 135) ≤ 8 := by
  have h1 := hw.2.2.2.2.2.1
  have := cnt3_le s n
  have := hw.1.2
  refine ⟨h1, ?_⟩
  rw [h1, show tn (nI (cnt3 s n)) = cnt3 s n from pi_tn (by omega)]; omega
def nxg (s : Nat → Int32) (b : Nat) (r : Option Nat) : Nat := match r with | none => 0 | some j => gD s j b
theorem t145 : (145 : Int32).toNatClampNeg = 145 := by decide
theorem t146 : (146 : Int32).toNatClampNeg = 146 := by decide
theorem t147 : (147 : Int32).toNatClampNeg = 147 := by decide
theorem t144 : (144 : Int32).toNatClampNeg = 144 := by decide
theorem t149 : (149 : Int32).toNatClampNeg = 149 := by decide
theorem t150 : (150 : Int32).toNatClampNeg = 150 := by decide
theorem t133 : (133 : Int32).toNatClampNeg = 133 := by decide
theorem t134 : (134 : Int32).toNatClampNeg = 134 := by decide
theorem t135 : (135 : Int32).toNatClampNeg = 135 := by decide
theorem lane_e {v : Int32} (h : Bd v 0 1) : Bd (1 - v) 0 1 := by
  obtain ⟨w, rfl, _, hw⟩ := h
  exact ⟨1 - w, by rw [show (1 : Int32) = nI 1 from rfl, pi_sub hw], by omega, by omega⟩
theorem x8_atMost {f g : Nat} (hf : f < 2147483648) (hg : g < 2147483648) : f_X8_atMost (nI f) (nI g) = some (nI (if g = 0 then f else min f (g - 1))) := by
  unfold f_X8_atMost
  rw [show (0 : Int32) = nI 0 from rfl, show (1 : Int32) = nI 1 from rfl]
  simp only [pi_eq hg (show 0 < 2147483648 by omega), pi_le hg hf]
  by_cases c : g = 0
  · rw [if_pos c, if_pos c]
  · rw [if_neg c, if_neg c]
    by_cases c2 : g ≤ f
    · rw [if_pos c2, pi_sub (by omega), Nat.min_eq_right (by omega)]
    · rw [if_neg c2, Nat.min_eq_left (by omega)]
theorem room_e {f j : Nat} (hf : f < 1000) (hj : 1 ≤ j) (hj2 : j < 1000) : (if nI f ≤ nI j - (1 : Int32) then some (nI f) else some (nI j - (1 : Int32))) = some (nI (min f (j - 1))) := by
  rw [show (1 : Int32) = nI 1 from rfl, pi_sub hj]
  by_cases c : f ≤ j - 1
  · rw [if_pos (by rw [pi_le (by omega) (by omega)]; exact c), Nat.min_eq_left c]
  · rw [if_neg (by rw [pi_le (by omega) (by omega)]; exact c), Nat.min_eq_right (by omega)]
theorem fly_B {I K : Nat → Nat → Int32} {β n b f0 : Nat} {r : Option Nat} (hB : IsB β) (hw : WX (K 130) n) (hb : b < n) (hR : R I β (K 130) n) (hZ : RZ I β) (hN : NX (K 130) n b (K 130 (16 * b + 5)) 8 r) (hf : f0 ≤ 100) :
    ∃ I9 K13 r' f1,
      (hopt (Option.map (cB β) r) (
      some ((none : Option Nat), I)) fun n27 => hk n27 6 <|
    (f_X6_feetBehind (cB β b) n27 I).bind fun r28 =>
    if nI f0 < (r28 - (1 : Int32)) then
      some ((some n27), I)
    else
      (f_X3_mayChangeLane β (cB β b) I).bind fun r30 =>
      if r30 = 0 then
        some ((some n27), I)
      else
        hlet (gup I (cB β b) 8 ((1 : Int32) - (I (cB β b) 8))) fun I32 =>
        hlet (gup I32 β 10 ((I32 β 10) + (1 : Int32))) fun I33 =>
        (f_X3_nextAhead β (cB β b) I33).bind fun r34 =>
        some (r34, I33)) = some (Option.map (cB β) r', I9) ∧
      (hopt (Option.map (cB β) r') (
      some (nI f0)) fun n22 => hk n22 6 <|
    (f_X6_feetBehind (cB β b) n22 I9).bind fun r23 =>
    (show Option (Int32) from
      if nI f0 ≤ (r23 - (1 : Int32)) then
        some (nI f0)
      else
        some (r23 - (1 : Int32))).bind fun p25 =>
    some p25) = some (nI f1) ∧
      (if nI (nxg (K 130) b r) ≤ 0 then
      some (nI f0, K)
    else
      if (1 : Int32) < (nI (nxg (K 130) b r) - nI f0) then
        some (nI f0, K)
      else
        hg (gin (((16 : Int32) * nI b) + (5 : Int32)) 151) <|
        (f_X8_where (nI b) K).bind fun r81 =>
        (show Option (Int32 × (Nat → Nat → Int32)) from
          if (4 : Int32) ≤ r81 then
            some (nI (nxg (K 130) b r), K)
          else
            (f_X8_isFree (nI b) ((1 : Int32) - (K 130 ((((16 : Int32) * nI b) + (5 : Int32)).toNatClampNeg))) K).bind fun r87 =>
            if r87 = 0 then
              some (nI (nxg (K 130) b r), K)
            else
              hg (gin (((16 : Int32) * nI b) + (5 : Int32)) 151) <|
              hlet (gup K 130 ((((16 : Int32) * nI b) + (5 : Int32)).toNatClampNeg) ((1 : Int32) - (K 130 ((((16 : Int32) * nI b) + (5 : Int32)).toNatClampNeg)))) fun I90 =>
              hlet (gup I90 130 ((146 : Int32).toNatClampNeg) ((I90 130 ((146 : Int32).toNatClampNeg)) + (1 : Int32))) fun I91 =>
              (f_X8_gap (nI b) ((1 : Int32) - (K 130 ((((16 : Int32) * nI b) + (5 : Int32)).toNatClampNeg))) I91).bind fun r92 =>
              some (r92, I91)).bind fun (p83, I84) =>
        (f_X8_atMost (nI f0) p83).bind fun r85 =>
        some (r85, I84)) = some (nI f1, K13) ∧
      f1 ≤ f0 ∧ R I9 β (K13 130) n ∧ RZ I9 β ∧ WX (K13 130) n ∧ (∀ i, i ≠ 16 * b + 5 → i ≠ 146 → K13 130 i = K 130 i) ∧ FK K K13 ∧ FI β I I9 ∧ (∀ f, f < 9 → I9 β f = I β f) := by
  have hn := hw.1.2
  have hb8 : b < 8 := by omega
  have hq := hR.q hB hZ hw
  have hfl := hw.fl.2.2 b hb
  have ha := hw.a
  cases r with
  | none =>
    refine ⟨I, K, none, f0, rfl, rfl, ?_, Nat.le_refl _, hR, hZ, hw, fun _ _ _ => rfl, FK.rf, FI.rf, fun _ _ => rfl⟩
    rw [if_pos (by rw [show (0 : Int32) = nI 0 from rfl]; exact Int32.le_refl _)]
  | some j =>
    have hj := hN.2.1.1
    have hD := dN_b (fl (K 130) j) (fl (K 130) b)
    have hG : nxg (K 130) b (some j) = gD (K 130) j b := rfl
    have hD2 : 1 ≤ gD (K 130) j b ∧ gD (K 130) j b ≤ 400 := hD
    have hsk : SHK (cB β j) = 6 := sk_b hB (by omega)
    have e5 : (5 : Int32) = nI 5 := rfl
    rw [hG]
    simp only [Option.map_some, hopt_e2, hk_e hsk, hq.fb hb hj, Option.bind_some]
    have m0 : ¬ (nI (gD (K 130) j b) ≤ 0) := by rw [show (0 : Int32) = nI 0 from rfl, pi_le (by omega) (by omega)]; omega
    rw [if_neg m0, e5, ix hb8 (by omega), ixg hb8 (by omega)]
    simp only [hg_t, hlet_e]
    have esub : (nI (gD (K 130) j b) - nI f0).toInt = (gD (K 130) j b : Int) - f0 := by
      rw [Int32.toInt_sub, pi_int (by omega), pi_int (by omega)]; apply Int.bmod_eq_of_le <;> omega
    have hlane := (hw.2.1 b hb).2.2.2.2.2.1
    have hst : hopt (some (cB β j)) (some (nI f0)) (fun n22 => hk n22 6 <| (f_X6_feetBehind (cB β b) n22 I).bind fun r23 => (show Option (Int32) from if nI f0 ≤ (r23 - (1 : Int32)) then some (nI f0) else some (r23 - (1 : Int32))).bind fun p25 => some p25) = some (nI (min f0 (gD (K 130) j b - 1))) := by
      simp only [hopt_e2, hk_e hsk, hq.fb hb hj, Option.bind_some]
      rw [room_e (by omega) (by omega) (by omega)]; rfl
    by_cases c1 : f0 < gD (K 130) j b - 1
    · have m2' : nI f0 < nI (gD (K 130) j b) - (1 : Int32) := by
        rw [show (1 : Int32) = nI 1 from rfl, pi_sub (by omega), pi_lt (by omega) (by omega)]; exact c1
      have m1' : (1 : Int32) < nI (gD (K 130) j b) - nI f0 := by rw [Int32.lt_iff_toInt_lt, esub, show (1 : Int32).toInt = 1 from rfl]; omega
      refine ⟨I, K, some j, f0, ?_, ?_, ?_, Nat.le_refl _, hR, hZ, hw, fun _ _ _ => rfl, FK.rf, FI.rf, fun _ _ => rfl⟩
      · rw [if_pos m2']; rfl
      · refine hst.trans ?_
        rw [Nat.min_eq_left (by omega)]
      · rw [if_pos m1']
    · have m1 : ¬ ((1 : Int32) < nI (gD (K 130) j b) - nI f0) := by rw [Int32.lt_iff_toInt_lt, esub, show (1 : Int32).toInt = 1 from rfl]; omega
      have m2 : ¬ (nI f0 < nI (gD (K 130) j b) - (1 : Int32)) := by
        rw [show (1 : Int32) = nI 1 from rfl, pi_sub (by omega), pi_lt (by omega) (by omega)]; exact c1
      rw [if_neg m1]
      simp only [if_neg m2]
      rw [x8_where hb8 hfl.2 hfl.1]
      simp only [Option.bind_some]
      obtain ⟨v, hv, hv2⟩ := x3_mayChangeLane hq hb
      rw [hv]
      simp only [Option.bind_some]
      have hpb := pN_b (fl (K 130) b)
      have emin : (if gD (K 130) j b = 0 then f0 else min f0 (gD (K 130) j b - 1)) = min f0 (gD (K 130) j b - 1) := if_neg (by omega)
      rcases hv2 with ⟨rfl, hp4, hfree⟩ | ⟨rfl, hnot⟩
      · have m4 : ¬ ((4 : Int32) ≤ nI (pN (fl (K 130) b))) := by rw [show (4 : Int32) = nI 4 from rfl, pi_le (by omega) (by omega)]; omega
        rw [if_neg m4]
        obtain ⟨u, hu, hu2⟩ := x8_isFree (lane := 1 - K 130 (16 * b + 5)) hw.fl hb
        rw [hu]
        simp only [Option.bind_some]
        have hu1 : u = 1 := by
          rcases hu2 with ⟨h, _⟩ | ⟨_, h⟩
          · exact h
          · exact absurd hfree h
        subst hu1
        rw [if_neg (show ¬ ((1 : Int32) = 0) by decide), if_neg (show ¬ ((1 : Int32) = 0) by decide)]
        rw [t146]
        have hl8 : I (cB β b) 8 = K 130 (16 * b + 5) := (hR.2.2.1 b hb).2.2.2.2.2.2.2.1
        rw [hl8]
        have hw1 : WX (wpd (K 130) (16 * b + 5) (1 - K 130 (16 * b + 5))) n := WX_bird hb (by unfold okv; right; right; right; right; right; left; exact ⟨rfl, lane_e hlane⟩) hw
        have hR1 : R (gup I (cB β b) 8 (1 - K 130 (16 * b + 5))) β (wpd (K 130) (16 * b + 5) (1 - K 130 (16 * b + 5))) n := R_bird hn ha.2 hb (by unfold bPair; omega) hR
        have e146 : gup (gup K 130 (16 * b + 5) (1 - K 130 (16 * b + 5))) 130 146 (gup K 130 (16 * b + 5) (1 - K 130 (16 * b + 5)) 130 146 + 1) 130 = wpd (wpd (K 130) (16 * b + 5) (1 - K 130 (16 * b + 5))) 146 (K 130 146 + 1) := by
          rw [wpd_gup, wpd_gup, wpd_ne (by omega)]
        have hi10 : gup I (cB β b) 8 (1 - K 130 (16 * b + 5)) β 10 = K 130 146 := by
          rw [gup_n (fun c => cB_ne c.symm)]; exact hR.1.2.2.2.2.2.2.1
        rw [hi10]
        generalize hI33 : gup (gup I (cB β b) 8 (1 - K 130 (16 * b + 5))) β 10 (K 130 146 + 1) = I33
        generalize hK91 : gup (gup K 130 (16 * b + 5) (1 - K 130 (16 * b + 5))) 130 146 (gup K 130 (16 * b + 5) (1 - K 130 (16 * b + 5)) 130 146 + 1) = K91
        rw [hK91] at e146
        have hw2 : WX (K91 130) n := by rw [e146]; exact WX_glob (by omega) hw1
        have hR2 : R I33 β (K91 130) n := by
          rw [e146, ← hI33]
          exact R_glob hn hw1.a.2 (by unfold gPair; omega) hR1
        have hZ2 : RZ I33 β := by
          rw [← hI33]
          exact RZ_keep (Or.inl ⟨by omega, by omega⟩) (RZ_keep (Or.inl ⟨by omega, by omega⟩) hZ)
        have hrow : ∀ i, i ≠ 16 * b + 5 → i ≠ 146 → K91 130 i = K 130 i := by
          intro i h1 h2; rw [e146, wpd_ne h2, wpd_ne h1]
        have hl2 : K91 130 (16 * b + 5) = 1 - K 130 (16 * b + 5) := by rw [e146, wpd_ne (by omega), wpd_at]
        have hFK : FK K K91 := by rw [← hK91]; exact FK.gup (FK.gup FK.rf)
        have hFI : FI β I I33 := by rw [← hI33]; exact FI.gup (by omega) (FI.gup (by unfold cB; omega) FI.rf)
        have hI9 : ∀ f, f < 9 → I33 β f = I β f := by
          intro f hf; rw [← hI33, gup_i (by omega), gup_n (fun c => cB_ne c.symm)]
        have hq2 := hR2.q hB hZ2 hw2
        obtain ⟨r', hr', hN'⟩ := x3_nextAhead hq2 hb
        rw [hr']
        simp only [Option.bind_some]
        obtain ⟨g', hg', hg4, hG'⟩ := x8_gap (I := K91) (lane := K91 130 (16 * b + 5)) hw2.fl hb
        have eg := GP_NX hn hG' hN'
        rw [← hl2, hg']
        simp only [Option.bind_some]
        rw [x8_atMost (by omega) (by omega)]
        simp only [Option.bind_some]
        refine ⟨I33, K91, r', if g' = 0 then f0 else min f0 (g' - 1), rfl, ?_, rfl, by split <;> omega, hR2, hZ2, hw2, hrow, hFK, hFI, hI9⟩
        cases r' with
        | none => simp only at eg; rw [if_pos eg]; rfl
        | some i =>
          simp only at eg
          have hi := hN'.2.1.1
          have hD3 : 1 ≤ gD (K91 130) i b ∧ gD (K91 130) i b ≤ 400 := dN_b (fl (K91 130) i) (fl (K91 130) b)
          rw [if_neg (by omega), eg]
          simp only [Option.map_some, hopt_e2, hk_e (sk_b hB (show i < 8 by omega)), hq2.fb hb hi, Option.bind_some]
          rw [room_e (by omega) (by omega) (by omega)]; rfl
      · rw [if_pos rfl]
        have hm : (if (4 : Int32) ≤ nI (pN (fl (K 130) b)) then some (nI (gD (K 130) j b), K) else (f_X8_isFree (nI b) ((1 : Int32) - K 130 (16 * b + 5)) K).bind fun r87 => if r87 = 0 then some (nI (gD (K 130) j b), K) else (f_X8_gap (nI b) ((1 : Int32) - K 130 (16 * b + 5)) (gup (gup K 130 (16 * b + 5) (1 - K 130 (16 * b + 5))) 130 ((146 : Int32).toNatClampNeg) (gup K 130 (16 * b + 5) (1 - K 130 (16 * b + 5)) 130 ((146 : Int32).toNatClampNeg) + 1))).bind fun r92 => some (r92, (gup (gup K 130 (16 * b + 5) (1 - K 130 (16 * b + 5))) 130 ((146 : Int32).toNatClampNeg) (gup K 130 (16 * b + 5) (1 - K 130 (16 * b + 5)) 130 ((146 : Int32).toNatClampNeg) + 1)))) = some (nI (gD (K 130) j b), K) := by
          by_cases c4 : pN (fl (K 130) b) < 4
          · rw [if_neg (by rw [show (4 : Int32) = nI 4 from rfl, pi_le (by omega) (by omega)]; omega)]
            obtain ⟨u, hu, hu2⟩ := x8_isFree (lane := 1 - K 130 (16 * b + 5)) hw.fl hb
            rw [hu]
            simp only [Option.bind_some]
            rcases hu2 with ⟨_, h⟩ | ⟨h, _⟩
            · exact absurd ⟨c4, h⟩ hnot
            · rw [if_pos h]
          · rw [if_pos (by rw [show (4 : Int32) = nI 4 from rfl, pi_le (by omega) (by omega)]; omega)]
        rw [hm]
        simp only [Option.bind_some]
        rw [x8_atMost (by omega) (by omega), emin]
        exact ⟨I, K, some j, min f0 (gD (K 130) j b - 1), rfl, hst, rfl, by omega, hR, hZ, hw, fun _ _ _ => rfl, FK.rf, FI.rf, fun _ _ => rfl⟩
