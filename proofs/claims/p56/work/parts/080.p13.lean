theorem fly_D {I K : Nat → Nat → Int32} {β n b f2 : Nat} (hB : IsB β) (hw : WX (K 130) n) (hb : b < n) (hR : R I β (K 130) n) (hZ : RZ I β) (hf : f2 ≤ 100) (h6 : I β 6 = K 130 134 + 1) (h1 : K 130 (16 * b + 6) = 1) (hF : fl (K 130) b < 400 * tn (K 130 133)) :
    ∃ I' K' v,
      f_X3_flyOn β (cB β b) (nI f2) I = some I' ∧
      ((show Option (Int32) from
    if (nI (fl (K 130) b) + nI f2) < ((400 : Int32) * ((nI (fl (K 130) b) / (400 : Int32)) + (1 : Int32))) then
      some (0 : Int32)
    else
      some (1 : Int32)).bind fun p22 =>
  (show Option (Int32) from
    if p22 = 0 then
      some (0 : Int32)
    else
      if ((nI (fl (K 130) b) / (400 : Int32)) + (1 : Int32)) = (K 130 ((133 : Int32).toNatClampNeg)) then
        some (1 : Int32)
      else
        some (0 : Int32)).bind fun p23 =>
  (show Option (Int32) from
    if p22 = 0 then
      some (0 : Int32)
    else
      if p23 = 0 then
        hg (gin (((16 : Int32) * nI b) + (9 : Int32)) 151) <|
        if (K 130 ((((16 : Int32) * nI b) + (9 : Int32)).toNatClampNeg)) = (1 : Int32) then
          some (1 : Int32)
        else
          some (0 : Int32)
      else
        some (0 : Int32)).bind fun p24 =>
  (show Option (Int32) from
    if p23 = 0 then
      if p24 = 0 then
        some (nI (fl (K 130) b) + nI f2)
      else
        some ((400 : Int32) * ((nI (fl (K 130) b) / (400 : Int32)) + (1 : Int32)))
    else
      some ((400 : Int32) * ((nI (fl (K 130) b) / (400 : Int32)) + (1 : Int32)))).bind fun p25 =>
  hg (gin (((16 : Int32) * nI b) + (7 : Int32)) 151) <|
  hlet (gup K 130 ((((16 : Int32) * nI b) + (7 : Int32)).toNatClampNeg) p25) fun I27 =>
  hg (gin (((16 : Int32) * nI b) + (8 : Int32)) 151) <|
  hlet (gup I27 130 ((((16 : Int32) * nI b) + (8 : Int32)).toNatClampNeg) (p25 - nI (fl (K 130) b))) fun I29 =>
  hlet (gup I29 130 ((144 : Int32).toNatClampNeg) ((I29 130 ((144 : Int32).toNatClampNeg)) + (p25 - nI (fl (K 130) b)))) fun I30 =>
  (show Option (Nat → Nat → Int32) from
    if p24 = 0 then
      some I30
    else
      hg (gin (((16 : Int32) * nI b) + (6 : Int32)) 151) <|
      hlet (gup I30 130 ((((16 : Int32) * nI b) + (6 : Int32)).toNatClampNeg) (2 : Int32)) fun I46 =>
      hg (gin (((16 : Int32) * nI b) + (12 : Int32)) 151) <|
      hlet (gup I46 130 ((((16 : Int32) * nI b) + (12 : Int32)).toNatClampNeg) (12 : Int32)) fun I48 =>
      hg (gin (((16 : Int32) * nI b) + (9 : Int32)) 151) <|
      hlet (gup I48 130 ((((16 : Int32) * nI b) + (9 : Int32)).toNatClampNeg) (0 : Int32)) fun I50 =>
      hg (gin (((16 : Int32) * nI b) + (4 : Int32)) 151) <|
      hlet (gup I50 130 ((((16 : Int32) * nI b) + (4 : Int32)).toNatClampNeg) (0 : Int32)) fun I52 =>
      hg (gin (((16 : Int32) * nI b) + (3 : Int32)) 151) <|
      (show Option (Int32) from
        if ((I52 130 ((((16 : Int32) * nI b) + (3 : Int32)).toNatClampNeg)) + (300 : Int32)) ≤ (999 : Int32) then
          hg (gin (((16 : Int32) * nI b) + (3 : Int32)) 151) <|
          some ((I52 130 ((((16 : Int32) * nI b) + (3 : Int32)).toNatClampNeg)) + (300 : Int32))
        else
          some (999 : Int32)).bind fun p54 =>
      hg (gin (((16 : Int32) * nI b) + (3 : Int32)) 151) <|
      hlet (gup I52 130 ((((16 : Int32) * nI b) + (3 : Int32)).toNatClampNeg) p54) fun I56 =>
      hlet (gup I56 130 ((147 : Int32).toNatClampNeg) ((I56 130 ((147 : Int32).toNatClampNeg)) + (1 : Int32))) fun I57 =>
      some I57).bind fun I31 =>
  if p23 = 0 then
    hg (gz p23) <|
    some (p23, I31)
  else
    hg (gin (((16 : Int32) * nI b) + (6 : Int32)) 151) <|
    hlet (gup I31 130 ((((16 : Int32) * nI b) + (6 : Int32)).toNatClampNeg) (3 : Int32)) fun I33 =>
    hg (gin (((16 : Int32) * nI b) + (11 : Int32)) 151) <|
    hlet (gup I33 130 ((((16 : Int32) * nI b) + (11 : Int32)).toNatClampNeg) ((I33 130 ((134 : Int32).toNatClampNeg)) + (1 : Int32))) fun I35 =>
    (show Option (Int32) from
      if (I35 130 ((135 : Int32).toNatClampNeg)) = 0 then
        hg (gin (((16 : Int32) * nI b) + (10 : Int32)) 151) <|
        if (I35 130 ((((16 : Int32) * nI b) + (10 : Int32)).toNatClampNeg)) ≤ 0 then
          some (0 : Int32)
        else
          some (1 : Int32)
      else
        some (0 : Int32)).bind fun p36 =>
    hlet (gup I35 130 ((149 : Int32).toNatClampNeg) ((I35 130 ((149 : Int32).toNatClampNeg)) + p36)) fun I37 =>
    hg (gin ((136 : Int32) + (I37 130 ((135 : Int32).toNatClampNeg))) 151) <|
    hlet (gup I37 130 (((136 : Int32) + (I37 130 ((135 : Int32).toNatClampNeg))).toNatClampNeg) (nI b)) fun I39 =>
    hlet (gup I39 130 ((135 : Int32).toNatClampNeg) ((I39 130 ((135 : Int32).toNatClampNeg)) + (1 : Int32))) fun I40 =>
    hg (gz p23) <|
    some (p23, I40)) = some (v, K') ∧
      (v = 0 ∨ v = 1) ∧ R I' β (K' 130) n ∧ RZ I' β ∧ WX (K' 130) n ∧ (K' 130 (16 * b + 6) ≠ 3 → tn (K' 130 (16 * b + 7)) < 400 * tn (K 130 133)) ∧
      (∀ i, i < 16 * b ∨ (16 * b + 16 ≤ i ∧ i < 135) → K' 130 i = K 130 i) ∧ K' 130 150 = K 130 150 ∧ cnt3 (K' 130) n = cnt3 (K 130) n + tn v ∧ FK K K' ∧ FI β I I' ∧ I' β 6 = I β 6 := by
  have hn := hw.1.2
  have hb8 : b < 8 := by omega
  have h135 := hw.a
  have hfl := hw.fl.2.2 b hb
  have hlp := hw.2.2.2.2.1.1.e (by omega)
  have hcd := ((hw.2.1 b hb).2.2.2.2.2.2.2.2.1).e (by omega)
  have hc4 : I (cB β b) 4 = nI (fl (K 130) b) := (hR.2.2.1 b hb).2.2.2.1.trans hfl.1
  have hc11 : I (cB β b) 11 = K 130 (16 * b + 9) := (hR.2.2.1 b hb).2.2.2.2.2.2.2.2.2.2.1
  have hb8' : I β 8 = K 130 144 := hR.1.2.2.2.2.1
  have hb4 : I β 4 = K 130 133 := hR.1.2.1
  unfold f_X3_flyOn f_X6_lapsOver
  simp only [Option.bind_some, hlet_e]
  rw [hc4, hc11, hb4, t133, t144, t147, t149, t134, t135]
  generalize hFF : fl (K 130) b = F at *
  generalize hLL : tn (K 130 133) = lp at *
  have a1 : nI F + nI f2 = nI (F + f2) := pi_add _ _
  have a2 : nI F / (400 : Int32) = nI (F / 400) := pi_div (b := 400) (by omega) (by omega)
  have a3 : nI (F / 400) + (1 : Int32) = nI (F / 400 + 1) := pi_add _ _
  have a4 : (400 : Int32) * nI (F / 400 + 1) = nI (400 * (F / 400 + 1)) := pi_mul _ _
  have a5 : nI (F / 400 + 1) * (400 : Int32) = nI (400 * (F / 400 + 1)) := by rw [← a4]; exact Int32.mul_comm _ _
  have a6 : K 130 133 * (400 : Int32) = nI (400 * lp) := by rw [hlp.1, show (400 : Int32) = nI 400 from rfl, pi_mul, Nat.mul_comm]
  rw [a1, a2, a3, a4, a5, a6]
  generalize hEE : 400 * (F / 400 + 1) = E
  have x3e : (3 : Int32) = nI 3 := rfl
  have y3 : ((16 : Int32) * nI b + (3 : Int32)).toNatClampNeg = 16 * b + 3 := ix (g := 3) hb8 (by omega)
  have y4 : ((16 : Int32) * nI b + (4 : Int32)).toNatClampNeg = 16 * b + 4 := ix (g := 4) hb8 (by omega)
  have y6 : ((16 : Int32) * nI b + (6 : Int32)).toNatClampNeg = 16 * b + 6 := ix (g := 6) hb8 (by omega)
  have y7 : ((16 : Int32) * nI b + (7 : Int32)).toNatClampNeg = 16 * b + 7 := ix (g := 7) hb8 (by omega)
  have y8 : ((16 : Int32) * nI b + (8 : Int32)).toNatClampNeg = 16 * b + 8 := ix (g := 8) hb8 (by omega)
  have y9 : ((16 : Int32) * nI b + (9 : Int32)).toNatClampNeg = 16 * b + 9 := ix (g := 9) hb8 (by omega)
  have y10 : ((16 : Int32) * nI b + (10 : Int32)).toNatClampNeg = 16 * b + 10 := ix (g := 10) hb8 (by omega)
  have y11 : ((16 : Int32) * nI b + (11 : Int32)).toNatClampNeg = 16 * b + 11 := ix (g := 11) hb8 (by omega)
  have y12 : ((16 : Int32) * nI b + (12 : Int32)).toNatClampNeg = 16 * b + 12 := ix (g := 12) hb8 (by omega)
  have z3 : gin ((16 : Int32) * nI b + (3 : Int32)) 151 = true := ixg (g := 3) hb8 (by omega)
  have z4 : gin ((16 : Int32) * nI b + (4 : Int32)) 151 = true := ixg (g := 4) hb8 (by omega)
  have z6 : gin ((16 : Int32) * nI b + (6 : Int32)) 151 = true := ixg (g := 6) hb8 (by omega)
  have z7 : gin ((16 : Int32) * nI b + (7 : Int32)) 151 = true := ixg (g := 7) hb8 (by omega)
  have z8 : gin ((16 : Int32) * nI b + (8 : Int32)) 151 = true := ixg (g := 8) hb8 (by omega)
  have z9 : gin ((16 : Int32) * nI b + (9 : Int32)) 151 = true := ixg (g := 9) hb8 (by omega)
  have z10 : gin ((16 : Int32) * nI b + (10 : Int32)) 151 = true := ixg (g := 10) hb8 (by omega)
  have z11 : gin ((16 : Int32) * nI b + (11 : Int32)) 151 = true := ixg (g := 11) hb8 (by omega)
  have z12 : gin ((16 : Int32) * nI b + (12 : Int32)) 151 = true := ixg (g := 12) hb8 (by omega)
  simp only [y3, y4, y6, y7, y8, y9, y10, y11, y12, z3, z4, z6, z7, z8, z9, z10, z11, z12, hg_t]
  have core : ∀ to : Nat, F ≤ to → to ≤ 3600 → ∃ I9 K4, gup (gup (gup I (cB β b) 5 (nI to - nI F)) (cB β b) 4 (nI to)) β 8 (gup (gup I (cB β b) 5 (nI to - nI F)) (cB β b) 4 (nI to) β 8 + gup (gup I (cB β b) 5 (nI to - nI F)) (cB β b) 4 (nI to) (cB β b) 5) = I9 ∧
      gup (gup (gup K 130 (16 * b + 7) (nI to)) 130 (16 * b + 8) (nI to - nI F)) 130 144 (gup (gup K 130 (16 * b + 7) (nI to)) 130 (16 * b + 8) (nI to - nI F) 130 144 + (nI to - nI F)) = K4 ∧
      R I9 β (K4 130) n ∧ RZ I9 β ∧ WX (K4 130) n ∧ K4 130 (16 * b + 7) = nI to ∧ (∀ i, i ≠ 16 * b + 7 → i ≠ 16 * b + 8 → i ≠ 144 → K4 130 i = K 130 i) ∧ FK K K4 ∧ FI β I I9 ∧ I9 β 6 = I β 6 := by
    intro to hto1 hto2
    refine ⟨_, _, rfl, rfl, ?_⟩
    have e1 : gup (gup K 130 (16 * b + 7) (nI to)) 130 (16 * b + 8) (nI to - nI F) 130 = wpd (wpd (K 130) (16 * b + 7) (nI to)) (16 * b + 8) (nI to - nI F) := by rw [wpd_gup, wpd_gup]
    have e2 : gup (gup I (cB β b) 5 (nI to - nI F)) (cB β b) 4 (nI to) β 8 = K 130 144 := by rw [gup_n (fun c => cB_ne c.symm), gup_n (fun c => cB_ne c.symm), hb8']
    have e3 : gup (gup I (cB β b) 5 (nI to - nI F)) (cB β b) 4 (nI to) (cB β b) 5 = nI to - nI F := by rw [gup_i (by omega), gup_at]
    have r1 := R_bird (f := 4) (g := 7) (v := nI to) hn h135.2 hb (by unfold bPair; omega) hR
    have r2 := R_bird (f := 5) (g := 8) (v := nI to - nI F) hn (by rw [wpd_ne (by omega)]; exact h135.2) hb (by unfold bPair; omega) r1
    have r3 := R_glob (f := 8) (k := 144) (v := K 130 144 + (nI to - nI F)) hn (by rw [wpd_ne (by omega), wpd_ne (by omega)]; exact h135.2) (by unfold gPair; omega) r2
    have w1 := WX_bird (g := 7) (v := nI to) hb (by unfold okv; right; right; right; right; right; right; right; left; exact ⟨rfl, ⟨to, rfl, by omega, hto2⟩⟩) hw
    have w2 := WX_bird (g := 8) (v := nI to - nI F) hb (by unfold okv; right; right; right; right; right; right; right; right; left; rfl) w1
    have w3 := WX_glob (k := 144) (v := K 130 144 + (nI to - nI F)) (by omega) w2
    have e4 : gup (gup (gup K 130 (16 * b + 7) (nI to)) 130 (16 * b + 8) (nI to - nI F)) 130 144 (gup (gup K 130 (16 * b + 7) (nI to)) 130 (16 * b + 8) (nI to - nI F) 130 144 + (nI to - nI F)) 130 = wpd (wpd (wpd (K 130) (16 * b + 7) (nI to)) (16 * b + 8) (nI to - nI F)) 144 (K 130 144 + (nI to - nI F)) := by
      rw [wpd_gup, e1, wpd_ne (by omega), wpd_ne (by omega)]
    rw [e2, e3, e4]
    refine ⟨?_, ?_, w3, ?_, ?_, FK.gup (FK.gup (FK.gup FK.rf)), ?_, ?_⟩
    · rw [gup_comm (f := I) (Or.inr (by omega))]; exact r3
    · exact RZ_keep (Or.inr (fun b => fun c => cB_ne c.symm)) (RZ_keep (Or.inl ⟨by omega, by omega⟩) (RZ_keep (Or.inl ⟨by omega, by omega⟩) hZ))
    · rw [wpd_ne (by omega), wpd_ne (by omega), wpd_at]
    · intro i i1 i2 i3; rw [wpd_ne i3, wpd_ne i2, wpd_ne i1]
    · exact FI.gup (by omega) (FI.gup (by unfold cB; omega) (FI.gup (by unfold cB; omega) FI.rf))
    · rw [gup_i (by omega), gup_n (fun c => cB_ne c.symm), gup_n (fun c => cB_ne c.symm)]
  have tnn : ∀ x, x ≤ 3600 → tn (nI x) = x := fun x hx => pi_tn (by omega)
  have lt1 : (nI (F + f2) < nI E) ↔ F + f2 < E := pi_lt (by omega) (by omega)
  have lt2 : (nI E < nI (400 * lp)) ↔ E < 400 * lp := pi_lt (by omega) (by omega)
  have eq3 : (nI (F / 400 + 1) = K 130 133) ↔ F / 400 + 1 = lp := by rw [hlp.1]; exact pi_eq (by omega) (by omega)
  have ne10 : ¬ ((1 : Int32) = 0) := by decide
  simp only [lt1, lt2, eq3]
  have plain : ∀ to : Nat, F ≤ to → to < 400 * lp → ∃ I' K', gup (gup (gup I (cB β b) 5 (nI to - nI F)) (cB β b) 4 (nI to)) β 8 (gup (gup I (cB β b) 5 (nI to - nI F)) (cB β b) 4 (nI to) β 8 + gup (gup I (cB β b) 5 (nI to - nI F)) (cB β b) 4 (nI to) (cB β b) 5) = I' ∧
      gup (gup (gup K 130 (16 * b + 7) (nI to)) 130 (16 * b + 8) (nI to - nI F)) 130 144 (gup (gup K 130 (16 * b + 7) (nI to)) 130 (16 * b + 8) (nI to - nI F) 130 144 + (nI to - nI F)) = K' ∧ R I' β (K' 130) n ∧ RZ I' β ∧ WX (K' 130) n ∧ (K' 130 (16 * b + 6) ≠ 3 → tn (K' 130 (16 * b + 7)) < 400 * lp) ∧
      (∀ i, i < 16 * b ∨ (16 * b + 16 ≤ i ∧ i < 135) → K' 130 i = K 130 i) ∧ K' 130 150 = K 130 150 ∧ cnt3 (K' 130) n = cnt3 (K 130) n + tn 0 ∧ FK K K' ∧ FI β I I' ∧ I' β 6 = I β 6 := by
    intro to h1 h2
    obtain ⟨I9, K4, c1, c2, c3, c4, c5, c6, c7, c8, c9, c10⟩ := core to h1 (by omega)
    refine ⟨I9, K4, c1, c2, c3, c4, c5, fun _ => by rw [c6, tnn _ (by omega)]; exact h2, fun i hi => c7 i (by omega) (by omega) (by omega), c7 150 (by omega) (by omega) (by omega), ?_, c8, c9, c10⟩
    rw [cnt3_far (t := K4 130) (s := K 130) (fun c hc => by rw [c7 _ (by omega) (by omega) (by omega)])]; rfl
  by_cases ends : F + f2 < E
  · rw [if_pos ends]
    obtain ⟨I9, K4, c1, c2, rest⟩ := plain (F + f2) (by omega) (by omega)
    refine ⟨I9, K4, 0, ?_, ?_, Or.inl rfl, rest⟩
    · simp only [Option.bind_some, if_true, c1]
    · simp only [Option.bind_some, if_true, c2]; rfl
  · rw [if_neg ends]
    simp only [Option.bind_some, if_neg ne10]
    by_cases arr : F / 400 + 1 = lp
    · have e1 : ¬ (E < 400 * lp) := by omega
      rw [if_neg e1, if_pos arr]
      simp only [Option.bind_some, if_neg ne10]
      obtain ⟨I9, K4, c1, c2, c3, c4, c5, c6, c7, c8, c9, c10⟩ := core E (by omega) (by omega)
      have k6 : K4 130 (16 * b + 6) = 1 := (c7 _ (by omega) (by omega) (by omega)).trans h1
      have k134 : K4 130 134 = K 130 134 := c7 _ (by omega) (by omega) (by omega)
      rw [c1, c2]
      obtain ⟨I', pw, d1, d2, d3, d4, d5, d6⟩ := x3_noteArrival hB hn hb c3 c5 c4 (by rw [c10, k134]; exact h6) k6
      obtain ⟨q1, q2, q3⟩ := WX_arrive hb (by rw [k6]; decide) c5
      have k135 := c5.a
      rw [d1]
      simp only [Option.bind_some, if_true]
      have g1 : gup K4 130 (16 * b + 6) 3 130 134 = K4 130 134 := gup_i (by omega)
      rw [g1]
      generalize hI35 : gup (gup K4 130 (16 * b + 6) 3) 130 (16 * b + 11) (K4 130 134 + 1) = I35
      have i135 : I35 130 135 = K4 130 135 := by rw [← hI35, gup_i (by omega), gup_i (by omega)]
      have i10 : I35 130 (16 * b + 10) = K4 130 (16 * b + 10) := by rw [← hI35, gup_i (by omega), gup_i (by omega)]
      have i149 : I35 130 149 = K4 130 149 := by rw [← hI35, gup_i (by omega), gup_i (by omega)]
      rw [i135, i10, i149, d2]
      simp only [Option.bind_some]
      have j135 : gup I35 130 149 (K4 130 149 + pw) 130 135 = nI (cnt3 (K4 130) n) := by rw [gup_i (by omega), i135]; exact k135.1
      rw [j135, show (136 : Int32) + nI (cnt3 (K4 130) n) = nI (136 + cnt3 (K4 130) n) from pi_add 136 _, pi_tn (by omega), pi_gin (by omega), show decide (136 + cnt3 (K4 130) n < 151) = true from decide_eq_true (by omega)]
      have j2 : gup (gup I35 130 149 (K4 130 149 + pw)) 130 (136 + cnt3 (K4 130) n) (nI b) 130 135 = nI (cnt3 (K4 130) n) := by rw [gup_i (by omega)]; exact j135
      rw [j2, show nI (cnt3 (K4 130) n) + (1 : Int32) = nI (cnt3 (K4 130) n + 1) from pi_add _ 1, show gz 1 = true by decide]
      simp only [hg_t]
      have row : gup (gup (gup I35 130 149 (K4 130 149 + pw)) 130 (136 + cnt3 (K4 130) n) (nI b)) 130 135 (nI (cnt3 (K4 130) n + 1)) 130 = wpd (wpd (wpd (wpd (wpd (K4 130) (16 * b + 6) 3) (16 * b + 11) (K4 130 134 + 1)) 149 (K4 130 149 + pw)) (136 + cnt3 (K4 130) n) (nI b)) 135 (nI (cnt3 (K4 130) n + 1)) := by
        rw [wpd_gup, wpd_gup, wpd_gup, ← hI35, wpd_gup, wpd_gup]
      have row2 : wpd (wpd (wpd (wpd (wpd (K4 130) (16 * b + 6) 3) (16 * b + 11) (K4 130 134 + 1)) 149 (K4 130 149 + pw)) (136 + cnt3 (K4 130) n) (nI b)) 135 (nI (cnt3 (K4 130) n + 1)) = wpd (wpd (wpd (wpd (wpd (K4 130) (16 * b + 6) 3) (136 + cnt3 (K4 130) n) (nI b)) 135 (nI (cnt3 (K4 130) n + 1))) (16 * b + 11) (K4 130 134 + 1)) 149 (K4 130 149 + pw) := by
        rw [wpd_comm (s := wpd (wpd (K4 130) (16 * b + 6) 3) (16 * b + 11) (K4 130 134 + 1)) (show 149 ≠ 136 + cnt3 (K4 130) n by omega)]
        rw [wpd_comm (k := 149) (show 149 ≠ 135 by omega)]
        rw [wpd_comm (s := wpd (K4 130) (16 * b + 6) 3) (show 16 * b + 11 ≠ 136 + cnt3 (K4 130) n by omega)]
        rw [wpd_comm (k := 16 * b + 11) (show 16 * b + 11 ≠ 135 by omega)]
      refine ⟨I', _, 1, rfl, rfl, Or.inr rfl, ?_, d4, ?_, ?_, ?_, ?_, ?_, ?_, c9.tr d5, d6.trans c10⟩
      · rw [row]; exact d3
      · rw [row, row2]
        exact WX_glob (by omega) (WX_bird hb (by unfold okv; right; right; right; right; right; right; right; right; right; right; left; rfl) q2)
      · intro h; exfalso; apply h
        rw [row, wpd_ne (by omega), wpd_ne (by omega), wpd_ne (by omega), wpd_ne (by omega), wpd_at]
      · intro i hi
        rw [row, wpd_ne (by omega), wpd_ne (by omega), wpd_ne (by omega), wpd_ne (by omega), wpd_ne (by omega)]
        exact c7 i (by omega) (by omega) (by omega)
      · rw [row, wpd_ne (by omega), wpd_ne (by omega), wpd_ne (by omega), wpd_ne (by omega), wpd_ne (by omega)]
        exact c7 _ (by omega) (by omega) (by omega)
      · rw [row, cnt3_far (t := wpd (wpd (wpd (wpd (wpd (K4 130) (16 * b + 6) 3) (16 * b + 11) (K4 130 134 + 1)) 149 (K4 130 149 + pw)) (136 + cnt3 (K4 130) n) (nI b)) 135 (nI (cnt3 (K4 130) n + 1))) (s := wpd (K4 130) (16 * b + 6) 3) (fun c hc => by rw [wpd_ne (by omega), wpd_ne (by omega), wpd_ne (by omega), wpd_ne (by omega)])]
        rw [cnt3_new hb (by rw [k6]; decide), cnt3_far (t := K4 130) (s := K 130) (fun c hc => by rw [c7 _ (by omega) (by omega) (by omega)])]; rfl
      · refine c8.tr ?_
        rw [← hI35]
        exact FK.gup (FK.gup (FK.gup (FK.gup (FK.gup FK.rf))))
    · have e1 : E < 400 * lp := by omega
      rw [if_pos e1, if_neg arr]
      simp only [Option.bind_some, if_true]
      have hc9 : (K 130 (16 * b + 9) = 0) ∨ (K 130 (16 * b + 9) = 1) := by
        rw [hcd.1]
        rcases Nat.eq_zero_or_pos (tn (K 130 (16 * b + 9))) with h | h
        · left; rw [h]; rfl
        · right; rw [show tn (K 130 (16 * b + 9)) = 1 by omega]; rfl
      rcases hc9 with hc9 | hc9
      · rw [hc9, if_pos rfl, if_neg (show ¬ ((0 : Int32) = 1) by decide)]
        obtain ⟨I9, K4, c1, c2, rest⟩ := plain (F + f2) (by omega) (by omega)
        refine ⟨I9, K4, 0, ?_, ?_, Or.inl rfl, rest⟩
        · simp only [Option.bind_some, if_true, c1]
        · simp only [Option.bind_some, if_true, c2]; rfl
      · rw [hc9, if_neg ne10, if_pos rfl]
        simp only [Option.bind_some, if_neg ne10]
        obtain ⟨I9, K4, c1, c2, c3, c4, c5, c6, c7, c8, c9, c10⟩ := core E (by omega) (by omega)
        have k6 : K4 130 (16 * b + 6) = 1 := (c7 _ (by omega) (by omega) (by omega)).trans h1
        rw [c1, c2]
        obtain ⟨I', v, d1, d2, d3, d4, d5, d6, d7⟩ := x6_goToNest hn hb c3 c5 c4 k6
        rw [d1]
        simp only [Option.bind_some]
        have g3 : gup (gup (gup (gup K4 130 (16 * b + 6) 2) 130 (16 * b + 12) 12) 130 (16 * b + 9) 0) 130 (16 * b + 4) 0 130 (16 * b + 3) = K4 130 (16 * b + 3) := by
          rw [gup_i (by omega), gup_i (by omega), gup_i (by omega), gup_i (by omega)]
        rw [g3, d2]
        simp only [Option.bind_some]
        generalize hK5 : gup (gup (gup (gup (gup K4 130 (16 * b + 6) 2) 130 (16 * b + 12) 12) 130 (16 * b + 9) 0) 130 (16 * b + 4) 0) 130 (16 * b + 3) v = K5
        have row5 : K5 130 = wpd (wpd (wpd (wpd (wpd (K4 130) (16 * b + 6) 2) (16 * b + 12) 12) (16 * b + 9) 0) (16 * b + 4) 0) (16 * b + 3) v := by
          rw [← hK5, wpd_gup, wpd_gup, wpd_gup, wpd_gup, wpd_gup]
        rw [← row5] at d3 d4
        have b11 : I' β 11 = K5 130 147 := d3.1.2.2.2.2.2.2.2.1
        have row : gup K5 130 147 (K5 130 147 + 1) 130 = wpd (K5 130) 147 (K5 130 147 + 1) := wpd_gup
        have far : ∀ i, i ≠ 16 * b + 6 → i ≠ 16 * b + 12 → i ≠ 16 * b + 9 → i ≠ 16 * b + 4 → i ≠ 16 * b + 3 → K5 130 i = K4 130 i := by
          intro i i1 i2 i3 i4 i5; rw [row5, wpd_ne i5, wpd_ne i4, wpd_ne i3, wpd_ne i2, wpd_ne i1]
        have k56 : K5 130 (16 * b + 6) = 2 := by rw [row5, wpd_ne (by omega), wpd_ne (by omega), wpd_ne (by omega), wpd_ne (by omega), wpd_at]
        rw [show gz 0 = true by decide, b11]
        simp only [hg_t, if_true]
        refine ⟨_, _, 0, rfl, rfl, Or.inl rfl, ?_, ?_, ?_, ?_, ?_, ?_, ?_, ?_, ?_, ?_⟩
        · rw [row]; exact R_glob hn d4.a.2 (by unfold gPair; omega) d3
        · exact RZ_keep (Or.inr (fun b => fun c => cB_ne c.symm)) d5
        · rw [row]; exact WX_glob (by omega) d4
        · intro _; rw [row, wpd_ne (by omega), far _ (by omega) (by omega) (by omega) (by omega) (by omega), c6, tnn _ (by omega)]; exact e1
        · intro i hi; rw [row, wpd_ne (by omega), far _ (by omega) (by omega) (by omega) (by omega) (by omega)]; exact c7 i (by omega) (by omega) (by omega)
        · rw [row, wpd_ne (by omega), far _ (by omega) (by omega) (by omega) (by omega) (by omega)]; exact c7 _ (by omega) (by omega) (by omega)
        · rw [row, cnt3_far (t := wpd (K5 130) 147 (K5 130 147 + 1)) (s := K 130) (fun c hc => ?_)]
          · rfl
          · rw [wpd_ne (by omega)]
            by_cases ec : c = b
            · rw [ec, k56, h1]; decide
            · rw [far _ (by omega) (by omega) (by omega) (by omega) (by omega), c7 _ (by omega) (by omega) (by omega)]
        · refine c8.tr ?_
          rw [← hK5]
          exact FK.gup (FK.gup (FK.gup (FK.gup (FK.gup (FK.gup FK.rf)))))
        · exact FI.gup (by omega) (c9.tr d6)
        · rw [gup_i (by omega), d7]; exact c10
