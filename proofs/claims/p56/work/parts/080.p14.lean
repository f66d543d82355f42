theorem WX_row {s t : Nat → Int32} (h : s = t) {n : Nat} (hw : WX s n) : WX t n := h ▸ hw
theorem wy_cg {s t : Nat → Int32} {n b k : Nat} {lane : Int32} (h : ∀ i, i < 128 → t i = s i) (hn : n ≤ 8) : wy t n b lane k ↔ wy s n b lane k := by
  unfold wy
  constructor
  · rintro ⟨h1, h2, h3, h4⟩
    rw [h _ (by omega)] at h3 h4; exact ⟨h1, h2, h3, h4⟩
  · rintro ⟨h1, h2, h3, h4⟩
    rw [← h _ (by omega)] at h3 h4; exact ⟨h1, h2, h3, h4⟩
theorem gD_cg {s t : Nat → Int32} {k b : Nat} (h : ∀ i, i < 128 → t i = s i) (hk : k < 8) (hb : b < 8) : gD t k b = gD s k b := by
  unfold gD fl; rw [h _ (by omega), h _ (by omega)]
theorem NX_cg {s t : Nat → Int32} {n b : Nat} {lane : Int32} {r : Option Nat} (h : ∀ i, i < 128 → t i = s i) (hn : n ≤ 8) (hb : b < 8) (hN : NX s n b lane 8 r) : NX t n b lane 8 r := by
  cases r with
  | none => exact fun k hk hw => hN k hk ((wy_cg h hn).mp hw)
  | some j =>
    have hj := hN.1
    refine ⟨hj, (wy_cg h hn).mpr hN.2.1, fun k hk hw => ?_, fun k hk hw => ?_⟩
    · rw [gD_cg h hj hb, gD_cg h hk hb]; exact hN.2.2.1 k hk ((wy_cg h hn).mp hw)
    · rw [gD_cg h hj hb, gD_cg h (by omega) hb]; exact hN.2.2.2 k hk ((wy_cg h hn).mp hw)
theorem drf_b {s : Nat → Int32} {b : Nat} {r : Option Nat} : drf s b r ≤ 2 := by
  unfold drf
  cases r with
  | none => simp
  | some j => simp only; split <;> (try split) <;> omega
theorem fly_both {I K : Nat → Nat → Int32} {β n b : Nat} (hB : IsB β) (hw : WX (K 130) n) (hb : b < n) (hR : R I β (K 130) n) (hZ : RZ I β) (h6 : I β 6 = K 130 134 + 1) (h1 : K 130 (16 * b + 6) = 1) (hF : tn (K 130 (16 * b + 7)) < 400 * tn (K 130 133)) :
    ∃ I' K' v, f_X3_fly β (cB β b) I = some I' ∧ f_X8_fly (nI b) K = some (v, K') ∧
      (v = 0 ∨ v = 1) ∧ R I' β (K' 130) n ∧ RZ I' β ∧ WX (K' 130) n ∧ (K' 130 (16 * b + 6) ≠ 3 → tn (K' 130 (16 * b + 7)) < 400 * tn (K 130 133)) ∧
      (∀ i, i < 16 * b ∨ (16 * b + 16 ≤ i ∧ i < 135) → K' 130 i = K 130 i) ∧ K' 130 150 = K 130 150 ∧ cnt3 (K' 130) n = cnt3 (K 130) n + tn v ∧ FK K K' ∧ FI β I I' ∧ I' β 6 = I β 6 := by
  have hn := hw.1.2
  have hb8 : b < 8 := by omega
  have hq := hR.q hB hZ hw
  have hfl := hw.fl.2.2 b hb
  obtain ⟨r, hr, hN⟩ := x3_nextAhead hq hb
  have hd := x3_draftFeet hq hb hN
  have hdb := drf_b (s := K 130) (b := b) (r := r)
  have hm := x8_isDrafted hw.fl hb hN
  have haF := aF_b hw hb
  obtain ⟨g, hg, hg4, hG⟩ := x8_gap (lane := K 130 (16 * b + 5)) hw.fl hb
  have eg : g = nxg (K 130) b r := by
    have := GP_NX hn hG hN
    cases r <;> exact this
  have y5 : ((16 : Int32) * nI b + (5 : Int32)).toNatClampNeg = 16 * b + 5 := ix (g := 5) hb8 (by omega)
  have y7 : ((16 : Int32) * nI b + (7 : Int32)).toNatClampNeg = 16 * b + 7 := ix (g := 7) hb8 (by omega)
  have z5 : gin ((16 : Int32) * nI b + (5 : Int32)) 151 = true := ixg (g := 5) hb8 (by omega)
  have z7 : gin ((16 : Int32) * nI b + (7 : Int32)) 151 = true := ixg (g := 7) hb8 (by omega)
  have z3 : gin ((16 : Int32) * nI b + (3 : Int32)) 151 = true := ixg (g := 3) hb8 (by omega)
  have z4 : gin ((16 : Int32) * nI b + (4 : Int32)) 151 = true := ixg (g := 4) hb8 (by omega)
  have y4 : ((16 : Int32) * nI b + (4 : Int32)).toNatClampNeg = 16 * b + 4 := ix (g := 4) hb8 (by omega)
  have hA : ∃ I5 x, (if nI (drf (K 130) b r) ≤ 0 then some I else hlet (gup I β 9 ((I β 9) + (1 : Int32))) fun I38 => some I38) = some I5 ∧ (if (if drf (K 130) b r = 0 then (0 : Int32) else 1) = 0 then some (0 : Int32) else some (1 : Int32)) = some x ∧ (if nI (drf (K 130) b r) ≤ 0 then some (0 : Int32) else some (1 : Int32)) = some (if drf (K 130) b r = 0 then (0 : Int32) else 1) ∧ I5 = gup I β 9 (I β 9 + x) := by
    by_cases c : drf (K 130) b r = 0
    · refine ⟨I, 0, ?_, ?_, ?_, gup_id.symm⟩
      · rw [c, if_pos (by decide)]
      · rw [if_pos c, if_pos rfl]
      · rw [c, if_pos (by decide), if_pos rfl]
    · have c0 : ¬ (nI (drf (K 130) b r) ≤ 0) := by rw [show (0 : Int32) = nI 0 from rfl, pi_le (by omega) (by omega)]; omega
      refine ⟨_, 1, if_neg c0, ?_, ?_, rfl⟩
      · rw [if_neg c, if_neg (by decide)]
      · rw [if_neg c0, if_neg c]
  obtain ⟨I5, x, hA1, hA2, hA3, hA4⟩ := hA
  generalize hK11 : gup K 130 145 (K 130 145 + x) = K11
  have row11 : K11 130 = wpd (K 130) 145 (K 130 145 + x) := by rw [← hK11, wpd_gup]
  have far11 : ∀ i, i ≠ 145 → K11 130 i = K 130 i := by intro i hi; rw [row11, wpd_ne hi]
  have hR5 : R I5 β (K11 130) n := by
    rw [row11, hA4, show I β 9 = K 130 145 from hR.1.2.2.2.2.2.1]
    exact R_glob hn hw.a.2 (by unfold gPair; omega) hR
  have hw5 : WX (K11 130) n := by rw [row11]; exact WX_glob (by omega) hw
  have hZ5 : RZ I5 β := by rw [hA4]; exact RZ_keep (Or.inr (fun b => fun c => cB_ne c.symm)) hZ
  have h128 : ∀ i, i < 128 → K11 130 i = K 130 i := fun i hi => far11 i (by omega)
  have hN5 : NX (K11 130) n b (K11 130 (16 * b + 5)) 8 r := by rw [h128 _ (by omega)]; exact NX_cg h128 hn hb8 hN
  have egx : nxg (K11 130) b r = g := by
    rw [eg]
    cases r with
    | none => rfl
    | some j => exact gD_cg h128 (by have := hN.2.1.1; omega) hb8
  have eaF : f_X3_allowedFeet β (cB β b) I5 = some (nI (aF (K 130) b)) := by
    refine x3_allowedFeet hw hb ?_ ?_
    · rw [hA4]; exact RB_cell (gup_ne cB_ne) (hR.2.2.1 b hb)
    · intro k hk; rw [hA4, gup_n (by omega)]; exact hR.2.1 k hk
  have epn : (if (if drf (K 130) b r = 0 then (0 : Int32) else 1) = 0 then some (0 : Int32) else (f_X8_isPartnerNext (nI b) K).bind fun r99 => if r99 = 0 then some (1 : Int32) else some (2 : Int32)) = some (nI (drf (K 130) b r)) := by
    by_cases c : drf (K 130) b r = 0
    · rw [if_pos c, if_pos rfl, c]; rfl
    · rw [if_neg c, if_neg (by decide)]
      cases r with
      | none => exact absurd rfl c
      | some j =>
        have hd8 : gD (K 130) j b ≤ 8 := by
          rcases Nat.lt_or_ge 8 (gD (K 130) j b) with h | h
          · exfalso; apply c; unfold drf; simp only; rw [if_neg (by omega)]
          · exact h
        rw [x8_isPartnerNext hw.fl hb hN hd8]
        simp only [Option.bind_some]
        unfold drf; simp only; rw [if_pos hd8]
        by_cases e : nI j = K 130 (16 * b + 10) - 1
        · rw [if_pos e, if_pos e]; rfl
        · rw [if_neg e, if_neg e]; rfl
  obtain ⟨I9, K13, r', f1, b1, b2, b3, b4, b5, b6, b7, b8, b9, b10, b11⟩ := fly_B (f0 := aF (K 130) b + drf (K 130) b r) hB hw5 hb hR5 hZ5 hN5 (by omega)
  obtain ⟨I12, I15, K17, w, f2, c1, c2, c3, c4, c5, c6, c7, c8, c9, c10, c11, c12⟩ := fly_C (d := drf (K 130) b r) hB b7 hb b5 b6 (by omega : f1 ≤ 100)
  generalize hK21 : gup K17 130 (16 * b + 4) (K17 130 (16 * b + 4) + w) = K21
  have row21 : K21 130 = wpd (K17 130) (16 * b + 4) (K17 130 (16 * b + 4) + w) := by rw [← hK21, wpd_gup]
  have far21 : ∀ i, i ≠ 16 * b + 4 → i ≠ 16 * b + 3 → i ≠ 16 * b + 5 → i ≠ 146 → i ≠ 145 → K21 130 i = K 130 i := by
    intro i i1 i2 i3 i4 i5
    rw [row21, wpd_ne i1, c9 i i2, b8 i i3 i4, far11 i i5]
  rw [← row21] at c6 c8
  have e6 : K21 130 (16 * b + 6) = 1 := by rw [far21 _ (by omega) (by omega) (by omega) (by omega) (by omega)]; exact h1
  have e134 : K21 130 134 = K 130 134 := far21 _ (by omega) (by omega) (by omega) (by omega) (by omega)
  have e133 : K21 130 133 = K 130 133 := far21 _ (by omega) (by omega) (by omega) (by omega) (by omega)
  have efl : fl (K21 130) b = fl (K 130) b := by unfold fl; rw [far21 _ (by omega) (by omega) (by omega) (by omega) (by omega)]
  have i6 : I15 β 6 = I β 6 := by rw [c12, b11 6 (by omega), hA4, gup_i (by omega)]
  obtain ⟨I', K', v, d1, d2, d3, d4, d5, d6, d7, d8, d9, d10, d11, d12, d13⟩ := fly_D (f2 := f2) hB c8 hb c6 c7 (by omega) (by rw [i6, h6, e134]) e6 (by rw [efl, e133]; exact hF)
  refine ⟨I', K', v, ?_, ?_, d3, d4, d5, d6, by rw [← e133]; exact d7, fun i hi => (d8 i hi).trans (far21 i (by omega) (by omega) (by omega) (by omega) (by omega)), d9.trans (far21 _ (by omega) (by omega) (by omega) (by omega) (by omega)), ?_, ?_, ?_, d13.trans i6⟩
  · unfold f_X3_fly
    rw [hr]; simp only [Option.bind_some]
    rw [hd]; simp only [Option.bind_some]
    refine (congrArg (fun z => Option.bind z _) hA1).trans ?_
    simp only [Option.bind_some]
    rw [eaF]; simp only [Option.bind_some]
    rw [pi_add]
    refine (congrArg (fun z => Option.bind z _) b1).trans ?_
    simp only [Option.bind_some]
    refine (congrArg (fun z => Option.bind z _) b2).trans ?_
    simp only [Option.bind_some]
    refine (congrArg (fun z => Option.bind z _) hA3).trans ?_
    simp only [Option.bind_some]
    rw [c1]; simp only [Option.bind_some]
    refine (congrArg (fun z => Option.bind z _) c2).trans ?_
    simp only [Option.bind_some]
    rw [d1]; rfl
  · have y3 : ((16 : Int32) * nI b + (3 : Int32)).toNatClampNeg = 16 * b + 3 := ix (g := 3) hb8 (by omega)
    simp only [y3, y4, y5, y7, z3, z4, z5, z7, hg_t] at b3 c3 c4 d2
    unfold f_X8_fly
    simp only [y3, y4, y5, y7, z3, z4, z5, z7, hg_t]
    rw [hg]; simp only [Option.bind_some]
    rw [hm]; simp only [Option.bind_some]
    rw [x8_allowed hw hb]; simp only [Option.bind_some]
    refine (congrArg (fun z => Option.bind z _) epn).trans ?_
    simp only [Option.bind_some]
    refine (congrArg (fun z => Option.bind z _) hA2).trans ?_
    simp only [Option.bind_some]
    rw [hlet_e, t145, hK11, pi_add, ← egx]
    refine (congrArg (fun z => Option.bind z _) b3).trans ?_
    simp only [Option.bind_some]
    refine (congrArg (fun z => Option.bind z _) (nd_e (d := drf (K 130) b r) (by omega : f1 ≤ 100))).trans ?_
    simp only [Option.bind_some]
    refine (congrArg (fun z => Option.bind z _) c3).trans ?_
    simp only [Option.bind_some]
    refine (congrArg (fun z => Option.bind z _) c4).trans ?_
    simp only [Option.bind_some]
    rw [hlet_e, hK21, hfl.1, ← efl]
    exact d2
  · rw [d10, cnt3_far (t := K21 130) (s := K 130) (fun c hc => by rw [far21 _ (by omega) (by omega) (by omega) (by omega) (by omega)])]
  · refine FK.tr ?_ d11
    rw [← hK21]
    refine FK.gup (FK.tr ?_ c10)
    refine FK.tr ?_ b9
    rw [← hK11]; exact FK.gup FK.rf
  · refine FI.tr ?_ (FI.tr (FI.tr b10 c11) d12)
    rw [hA4]; exact FI.gup (by omega) FI.rf
