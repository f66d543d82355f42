def WA (s : Nat → Int32) (n : Nat) : Prop := ∀ b, b < n → s (16 * b + 6) ≠ 3 → tn (s (16 * b + 7)) < 400 * tn (s 133)
theorem turn_both {I K : Nat → Nat → Int32} {β n b : Nat} {p4 : Int32} (hB : IsB β) (hw : WX (K 130) n) (hb : b < n) (hR : R I β (K 130) n) (hZ : RZ I β) (h6 : I β 6 = K 130 134 + 1) (hA : WA (K 130) n) :
    ∃ I' K' v, (hopt (some (cB β b)) (some I) fun n20 => hk n20 6 <| (f_X6_startsTurnFlying n20 I).bind fun (r22, I21) => if r22 = 0 then some I21 else (f_X3_fly β n20 I21).bind fun I24 => some I24) = some I' ∧
      (hlet (gup K 130 ((((16 : Int32) * (nI b)) + (8 : Int32)).toNatClampNeg) (0 : Int32)) fun I15 =>
      (f_X8_of (nI b) (6 : Int32) I15).bind fun r16 =>
      (show Option (Int32 × (Nat → Nat → Int32)) from
        if r16 = (2 : Int32) then
          hg (gin (((16 : Int32) * (nI b)) + (12 : Int32)) 151) <|
          hg (gin (((16 : Int32) * (nI b)) + (12 : Int32)) 151) <|
          hlet (gup I15 130 ((((16 : Int32) * (nI b)) + (12 : Int32)).toNatClampNeg) ((I15 130 ((((16 : Int32) * (nI b)) + (12 : Int32)).toNatClampNeg)) - (1 : Int32))) fun I31 =>
          (f_X8_of (nI b) (12 : Int32) I31).bind fun r32 =>
          (show Option (Int32) from
            if r32 = 0 then
              some (1 : Int32)
            else
              some (2 : Int32)).bind fun p34 =>
          hg (gin (((16 : Int32) * (nI b)) + (6 : Int32)) 151) <|
          hlet (gup I31 130 ((((16 : Int32) * (nI b)) + (6 : Int32)).toNatClampNeg) p34) fun I36 =>
          some (p4, I36)
        else
          (f_X8_flies (nI b) I15).bind fun r21 =>
          if r21 = 0 then
            some (p4, I15)
          else
            (f_X8_fly (nI b) I15).bind fun (r24, I23) =>
            (show Option (Int32) from
              if r24 = 0 then
                some (0 : Int32)
              else
                some (1 : Int32)).bind fun p26 =>
            some ((p4 + p26), I23))) = some (p4 + v, K') ∧
      (v = 0 ∨ v = 1) ∧ R I' β (K' 130) n ∧ RZ I' β ∧ WX (K' 130) n ∧ WA (K' 130) n ∧ I' β 6 = K' 130 134 + 1 ∧ K' 130 134 = K 130 134 ∧ K' 130 150 = K 130 150 ∧ cnt3 (K' 130) n = cnt3 (K 130) n + tn v ∧ FK K K' ∧ FI β I I' ∧ I' β 6 = I β 6 := by
  have hn := hw.1.2
  have hb8 : b < 8 := by omega
  have h135 := hw.a
  have ra := hR.2.2.1 b hb
  have y6 : ((16 : Int32) * nI b + (6 : Int32)).toNatClampNeg = 16 * b + 6 := ix (g := 6) hb8 (by omega)
  have y8 : ((16 : Int32) * nI b + (8 : Int32)).toNatClampNeg = 16 * b + 8 := ix (g := 8) hb8 (by omega)
  have y12 : ((16 : Int32) * nI b + (12 : Int32)).toNatClampNeg = 16 * b + 12 := ix (g := 12) hb8 (by omega)
  have z6 : gin ((16 : Int32) * nI b + (6 : Int32)) 151 = true := ixg (g := 6) hb8 (by omega)
  have z12 : gin ((16 : Int32) * nI b + (12 : Int32)) 151 = true := ixg (g := 12) hb8 (by omega)
  have o6 : ∀ X : Nat → Nat → Int32, f_X8_of (nI b) (6 : Int32) X = some (X 130 (16 * b + 6)) := fun X => x8_of (f := 6) hb8 (by omega)
  have o12 : ∀ X : Nat → Nat → Int32, f_X8_of (nI b) (12 : Int32) X = some (X 130 (16 * b + 12)) := fun X => x8_of (f := 12) hb8 (by omega)
  unfold f_X6_startsTurnFlying
  simp only [y6, y8, y12, z6, z12, hg_t, hlet_e, hopt_e2, hk_e (sk_b hB hb8), o6, o12, x8_flies hb8, Option.bind_some]
  generalize hI1 : gup I (cB β b) 5 0 = I1
  generalize hK1 : gup K 130 (16 * b + 8) 0 = K1
  have row1 : K1 130 = wpd (K 130) (16 * b + 8) 0 := by rw [← hK1, wpd_gup]
  have far1 : ∀ i, i ≠ 16 * b + 8 → K1 130 i = K 130 i := by intro i hi; rw [row1, wpd_ne hi]
  have hR1 : R I1 β (K1 130) n := by rw [row1, ← hI1]; exact R_bird hn h135.2 hb (by unfold bPair; omega) hR
  have hw1 : WX (K1 130) n := by rw [row1]; exact WX_bird hb (by unfold okv; right; right; right; right; right; right; right; right; left; rfl) hw
  have hZ1 : RZ I1 β := by rw [← hI1]; exact RZ_keep (Or.inl ⟨by omega, by omega⟩) hZ
  have hA1 : WA (K1 130) n := by
    intro c hc h
    rw [far1 _ (by omega)] at h ⊢; rw [far1 133 (by omega)]; exact hA c hc h
  have i16 : I1 β 6 = I β 6 := by rw [← hI1, gup_n (fun c => cB_ne c.symm)]
  have fi1 : FI β I I1 := by rw [← hI1]; exact FI.gup (by unfold cB; omega) FI.rf
  have fk1 : FK K K1 := by rw [← hK1]; exact FK.gup FK.rf
  have c1 : cnt3 (K1 130) n = cnt3 (K 130) n := cnt3_far (fun c hc => by rw [far1 _ (by omega)])
  have h9 : I1 (cB β b) 9 = K1 130 (16 * b + 6) := (hR1.2.2.1 b hb).2.2.2.2.2.2.2.2.1
  have h10 : I1 (cB β b) 10 = K1 130 (16 * b + 12) := (hR1.2.2.1 b hb).2.2.2.2.2.2.2.2.2.1
  rw [h9, h10]
  have g2 : gz (0 : Int32) = true := by decide
  have g3 : gz (1 : Int32) = true := by decide
  by_cases e2 : K1 130 (16 * b + 6) = 2
  · have hrest := ((hw1.2.1 b hb).2.2.2.2.2.2.2.2.2.2.1).e (by omega)
    have hr0 := (hw1.2.1 b hb).2.2.2.2.2.2.2.2.2.2.2 e2
    have hr1 : 1 ≤ tn (K1 130 (16 * b + 12)) := by
      rcases Nat.eq_zero_or_pos (tn (K1 130 (16 * b + 12))) with h | h
      · exfalso; apply hr0; rw [hrest.1, h]; rfl
      · exact h
    rw [e2, if_neg (show ¬ ((2 : Int32) = 1) by decide), if_pos rfl]
    simp only [Option.bind_some, eq_self, if_true]
    rw [gup_at, gup_at]
    have hsub : K1 130 (16 * b + 12) - (1 : Int32) = nI (tn (K1 130 (16 * b + 12)) - 1) := by
      exact (congrArg (fun z => z - (1 : Int32)) hrest.1).trans (pi_sub (b := 1) hr1)
    rw [hsub]
    generalize hρ : tn (K1 130 (16 * b + 12)) - 1 = ρ
    have hx : ∃ x : Int32, (if nI ρ ≤ 0 then some (1 : Int32) else some (2 : Int32)) = some x ∧ (if nI ρ = 0 then some (1 : Int32) else some (2 : Int32)) = some x ∧ ((ρ = 0 ∧ x = 1) ∨ (ρ ≠ 0 ∧ x = 2)) := by
      by_cases c : ρ = 0
      · subst c; exact ⟨1, if_pos (by decide), if_pos rfl, Or.inl ⟨rfl, rfl⟩⟩
      · refine ⟨2, if_neg ?_, if_neg ?_, Or.inr ⟨c, rfl⟩⟩
        · rw [show (0 : Int32) = nI 0 from rfl, pi_le (by omega) (by omega)]; omega
        · rw [show (0 : Int32) = nI 0 from rfl, pi_eq (by omega) (by omega)]; exact c
    obtain ⟨x, hx1, hx2, hx3⟩ := hx
    rw [hx1, hx2]
    simp only [Option.bind_some]
    rw [g2, hg_t]
    simp only [Option.bind_some, if_true]
    have row2 : gup (gup K1 130 (16 * b + 12) (nI ρ)) 130 (16 * b + 6) x 130 = wpd (wpd (K1 130) (16 * b + 12) (nI ρ)) (16 * b + 6) x := by rw [wpd_gup, wpd_gup]
    have hx4 : x ≠ 3 := by rcases hx3 with ⟨_, rfl⟩ | ⟨_, rfl⟩ <;> decide
    have far2 : ∀ i, i ≠ 16 * b + 12 → i ≠ 16 * b + 6 → wpd (wpd (K1 130) (16 * b + 12) (nI ρ)) (16 * b + 6) x i = K1 130 i := fun i i1 i2 => by rw [wpd_ne i2, wpd_ne i1]
    refine ⟨gup (gup I1 (cB β b) 10 (nI ρ)) (cB β b) 9 x, gup (gup K1 130 (16 * b + 12) (nI ρ)) 130 (16 * b + 6) x, 0, rfl, by rw [Int32.add_zero], Or.inl rfl, ?_, ?_, ?_, ?_, ?_, ?_, ?_, ?_, FK.gup (FK.gup fk1), FI.gup (by unfold cB; omega) (FI.gup (by unfold cB; omega) fi1), ?_⟩
    · rw [row2]
      exact R_bird hn (by rw [wpd_ne (by omega)]; exact hw1.a.2) hb (by unfold bPair; omega) (R_bird hn hw1.a.2 hb (by unfold bPair; omega) hR1)
    · exact RZ_keep (Or.inl ⟨by omega, by omega⟩) (RZ_keep (Or.inl ⟨by omega, by omega⟩) hZ1)
    · rw [row2]
      rcases hx3 with ⟨h0, rfl⟩ | ⟨h0, rfl⟩
      · rw [wpd_comm (show 16 * b + 12 ≠ 16 * b + 6 by omega)]
        refine WX_bird hb ?_ (WX_bird hb ?_ hw1)
        · unfold okv; right; right; right; right; right; right; right; right; right; right; right
          exact ⟨rfl, ⟨ρ, rfl, by omega, by omega⟩, fun z => by rw [wpd_at] at z; exact absurd z (by decide)⟩
        · unfold okv; right; right; right; right; right; right; left
          exact ⟨rfl, ⟨1, rfl, by omega, by omega⟩, by rw [e2]; decide, fun z => absurd z (by decide)⟩
      · have hne : nI ρ ≠ 0 := by rw [show (0 : Int32) = nI 0 from rfl]; intro e; rw [pi_eq (by omega) (by omega)] at e; exact h0 e
        refine WX_bird hb ?_ (WX_bird hb ?_ hw1)
        · unfold okv; right; right; right; right; right; right; left
          exact ⟨rfl, ⟨2, rfl, by omega, by omega⟩, by rw [wpd_ne (by omega), e2]; decide, fun _ => by rw [wpd_at]; exact hne⟩
        · unfold okv; right; right; right; right; right; right; right; right; right; right; right
          exact ⟨rfl, ⟨ρ, rfl, by omega, by omega⟩, fun _ => hne⟩
    · rw [row2]; intro c hc h
      rw [far2 (16 * c + 7) (by omega) (by omega), far2 133 (by omega) (by omega)]
      apply hA1 c hc
      by_cases ec : c = b
      · rw [ec, e2]; decide
      · rw [far2 _ (by omega) (by omega)] at h; exact h
    · rw [row2, far2 _ (by omega) (by omega), far1 _ (by omega), gup_n (fun c => cB_ne c.symm), gup_n (fun c => cB_ne c.symm), i16]; exact h6
    · rw [row2, far2 _ (by omega) (by omega), far1 _ (by omega)]
    · rw [row2, far2 _ (by omega) (by omega), far1 _ (by omega)]
    · rw [row2, ← c1, cnt3_far (t := wpd (wpd (K1 130) (16 * b + 12) (nI ρ)) (16 * b + 6) x) (s := K1 130)]
      · rfl
      · intro c hc
        by_cases ec : c = b
        · rw [ec, wpd_at, e2]; exact ⟨fun h => absurd h hx4, fun h => absurd h (by decide)⟩
        · rw [far2 _ (by omega) (by omega)]
    · rw [gup_n (fun c => cB_ne c.symm), gup_n (fun c => cB_ne c.symm), i16]
  · simp only [if_neg e2]
    by_cases e1 : K1 130 (16 * b + 6) = 1
    · simp only [if_pos e1, Option.bind_some]
      rw [g3, hg_t]
      simp only [Option.bind_some, show ¬ ((1 : Int32) = 0) by decide, if_false]
      obtain ⟨I', K', v, d1, d2, d3, d4, d5, d6, d7, d8, d9, d10, d11, d12, d13⟩ := fly_both hB hw1 hb hR1 hZ1 (by rw [i16, far1 134 (by omega)]; exact h6) e1 (hA1 b hb (by rw [e1]; decide))
      rw [d1, d2]
      simp only [Option.bind_some]
      have e134 : K' 130 134 = K 130 134 := (d8 134 (by omega)).trans (far1 _ (by omega))
      refine ⟨I', K', v, rfl, ?_, d3, d4, d5, d6, ?_, ?_, e134, d9.trans (far1 _ (by omega)), by rw [d10, c1], fk1.tr d11, fi1.tr d12, d13.trans i16⟩
      · rcases d3 with rfl | rfl
        · rw [if_pos rfl]; rfl
        · rw [if_neg (by decide)]; rfl
      · intro c hc h
        rw [d8 133 (by omega)]
        by_cases ec : c = b
        · rw [ec] at h ⊢; exact d7 h
        · rw [d8 _ (by omega)] at h ⊢; exact hA1 c hc h
      · rw [d13, i16, e134]; exact h6
    · simp only [if_neg e1, Option.bind_some]
      rw [g2, hg_t]
      simp only [Option.bind_some, if_true]
      exact ⟨I1, K1, 0, rfl, by rw [Int32.add_zero], Or.inl rfl, hR1, hZ1, hw1, hA1, by rw [i16, far1 134 (by omega)]; exact h6, far1 _ (by omega), far1 _ (by omega), by rw [c1]; rfl, fk1, fi1, i16⟩
