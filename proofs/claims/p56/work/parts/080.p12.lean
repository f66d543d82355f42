theorem gup_comm {α : Type} {f : Nat → Nat → α} {n k m j : Nat} {v w : α} (h : n ≠ m ∨ k ≠ j) : gup (gup f n k v) m j w = gup (gup f m j w) n k v := by
  funext a i
  unfold gup
  by_cases c1 : a = n ∧ i = k
  · by_cases c2 : a = m ∧ i = j
    · omega
    · rw [if_neg c2, if_pos c1, if_pos c1]
  · by_cases c2 : a = m ∧ i = j
    · rw [if_pos c2, if_neg c1, if_pos c2]
    · rw [if_neg c2, if_neg c1, if_neg c1, if_neg c2]
theorem gup_id {f : Nat → Nat → Int32} {n k : Nat} : gup f n k (f n k + 0) = f := by
  funext a i
  unfold gup; split
  · next h => rw [h.1, h.2, Int32.add_zero]
  · rfl
theorem wpd_comm {s : Nat → Int32} {k j : Nat} {v w : Int32} (h : k ≠ j) : wpd (wpd s k v) j w = wpd (wpd s j w) k v := by
  funext i
  unfold wpd
  by_cases c1 : i = k
  · rw [if_neg (by omega), if_pos c1, if_pos c1]
  · by_cases c2 : i = j
    · rw [if_pos c2, if_neg c1, if_pos c2]
    · rw [if_neg c2, if_neg c1, if_neg c1, if_neg c2]
theorem x3_noteArrival {I : Nat → Nat → Int32} {β n b : Nat} {s : Nat → Int32} (hB : IsB β) (hn : n ≤ 8) (hb : b < n) (hR : R I β s n) (hw : WX s n) (hZ : RZ I β) (h6 : I β 6 = s 134 + 1) (h1 : s (16 * b + 6) = 1) :
    ∃ I' pw, f_X3_noteArrival β (cB β b) I = some I' ∧
      (if s 135 = 0 then (if s (16 * b + 10) ≤ 0 then some (0 : Int32) else some (1 : Int32)) else some (0 : Int32)) = some pw ∧
      R I' β (wpd (wpd (wpd (wpd (wpd s (16 * b + 6) 3) (16 * b + 11) (s 134 + 1)) 149 (s 149 + pw)) (136 + cnt3 s n) (nI b)) 135 (nI (cnt3 s n + 1))) n ∧ RZ I' β ∧ FI β I I' ∧ I' β 6 = I β 6 := by
  obtain ⟨ha8, hwa, hx⟩ := WX_arrive hb (by rw [h1]; decide) hw
  have h135 := hw.a
  have hI7 : I β 7 = nI (cnt3 s n) := hR.1.2.2.2.1.trans h135.1
  have hp := ((hw.2.1 b hb).2.2.2.2.2.2.2.2.2.1).e (by omega)
  have h12 : I (cB β b) 12 = s (16 * b + 10) - 1 := (hR.2.2.1 b hb).2.2.2.2.2.2.2.2.2.2.2.1
  have h13 : I β 13 = s 149 := hR.1.2.2.2.2.2.2.2.2.2
  unfold f_X3_noteArrival
  simp only [hlet_e]
  have g1 : gup I (cB β b) 9 3 β = I β := gup_ne (fun c => cB_ne c.symm)
  have g2 : gup (gup I (cB β b) 9 3) (cB β b) 13 (I β 7) β = I β := (gup_ne (fun c => cB_ne c.symm)).trans g1
  rw [g1, g2]
  generalize hJ : gup (gup (gup I (cB β b) 9 3) (cB β b) 13 (I β 7)) (cB β b) 14 (I β 6) = J
  have j7 : J β = I β := by rw [← hJ]; exact (gup_ne (fun c => cB_ne c.symm)).trans g2
  have j12 : J (cB β b) 12 = s (16 * b + 10) - 1 := by rw [← hJ, gup_i (by omega), gup_i (by omega), gup_i (by omega)]; exact h12
  have hwins : ∃ pw, (if s 135 = 0 then (if s (16 * b + 10) ≤ 0 then some (0 : Int32) else some (1 : Int32)) else some (0 : Int32)) = some pw ∧ (if J β 7 = 0 then (if J (cB β b) 12 = (-1 : Int32) then some J else some (gup J β 13 (J β 13 + 1))) else some J) = some (gup J β 13 (J β 13 + pw)) := by
    rw [j7, hI7, h135.1, j12]
    by_cases c : nI (cnt3 s n) = 0
    · rw [if_pos c, if_pos c]
      by_cases d : tn (s (16 * b + 10)) = 0
      · refine ⟨0, if_pos ?_, ?_⟩
        · rw [hp.1, d]; decide
        · rw [if_pos (by rw [hp.1, d]; decide), ← j7, gup_id]
      · refine ⟨1, if_neg ?_, ?_⟩
        · rw [hp.1, show (0 : Int32) = nI 0 from rfl, pi_le (by omega) (by omega)]; omega
        · rw [if_neg]
          intro e
          have : s (16 * b + 10) = 0 := by
            have e2 : s (16 * b + 10) - 1 + 1 = -1 + 1 := by rw [e]
            rw [Int32.sub_add_cancel] at e2; rw [e2]; decide
          rw [this] at d; exact d (by decide)
    · rw [if_neg c, if_neg c]; exact ⟨0, rfl, by rw [← j7, gup_id]⟩
  obtain ⟨pw, hpw, hcl⟩ := hwins
  refine ⟨gup (gup J β 13 (J β 13 + pw)) β 7 (gup J β 13 (J β 13 + pw) β 7 + 1), pw, ?_, hpw, ?_, ?_, ?_, ?_⟩
  · refine (congrArg (fun z => Option.bind z _) hcl).trans ?_
    rfl
  · rw [gup_i (by omega), j7, hI7, h13, show nI (cnt3 s n) + (1 : Int32) = nI (cnt3 s n + 1) from pi_add _ 1, ← hJ, hI7]
    rw [gup_comm (f := gup I (cB β b) 9 3) (Or.inr (by omega)), gup_comm (f := gup (gup I (cB β b) 9 3) (cB β b) 14 (I β 6)) (Or.inl cB_ne), h6]
    have r1 : R (gup I (cB β b) 9 3) β (wpd s (16 * b + 6) 3) n := R_bird hn h135.2 hb (by unfold bPair; omega) hR
    have a1 : wpd s (16 * b + 6) 3 135 = s 135 := wpd_ne (by omega)
    have r2 : R (gup (gup I (cB β b) 9 3) (cB β b) 14 (s 134 + 1)) β (wpd (wpd s (16 * b + 6) 3) (16 * b + 11) (s 134 + 1)) n := R_bird hn (by rw [a1]; exact h135.2) hb (by unfold bPair; omega) r1
    have a2 : wpd (wpd s (16 * b + 6) 3) (16 * b + 11) (s 134 + 1) 135 = s 135 := (wpd_ne (by omega)).trans a1
    have r3 := R_glob (f := 13) (k := 149) (v := s 149 + pw) hn (by rw [a2]; exact h135.2) (by unfold gPair; omega) r2
    have a3 : wpd (wpd (wpd s (16 * b + 6) 3) (16 * b + 11) (s 134 + 1)) 149 (s 149 + pw) 135 = s 135 := (wpd_ne (by omega)).trans a2
    exact R_arrive hn hb ha8 (by rw [a3]; exact h135.1) (fun k hk => by rw [wpd_ne (by omega), wpd_ne (by omega), wpd_ne (by omega)]; exact hx k hk) r3
  · refine RZ_keep (Or.inr (fun b => fun c => cB_ne c.symm)) (RZ_keep (Or.inr (fun b => fun c => cB_ne c.symm)) ?_)
    rw [← hJ]
    exact RZ_keep (Or.inl ⟨by omega, by omega⟩) (RZ_keep (Or.inl ⟨by omega, by omega⟩) (RZ_keep (Or.inl ⟨by omega, by omega⟩) hZ))
  · refine FI.gup (by omega) (FI.gup (by omega) ?_)
    rw [← hJ]
    exact FI.gup (by unfold cB; omega) (FI.gup (by unfold cB; omega) (FI.gup (by unfold cB; omega) FI.rf))
  · rw [gup_i (by omega), gup_i (by omega), j7]
theorem x6_goToNest {I : Nat → Nat → Int32} {β n b : Nat} {s : Nat → Int32} (hn : n ≤ 8) (hb : b < n) (hR : R I β s n) (hw : WX s n) (hZ : RZ I β) (h1 : s (16 * b + 6) = 1) :
    ∃ I' v, f_X6_goToNest (cB β b) I = some I' ∧
      (if s (16 * b + 3) + (300 : Int32) ≤ (999 : Int32) then some (s (16 * b + 3) + (300 : Int32)) else some (999 : Int32)) = some v ∧
      R I' β (wpd (wpd (wpd (wpd (wpd s (16 * b + 6) 2) (16 * b + 12) 12) (16 * b + 9) 0) (16 * b + 4) 0) (16 * b + 3) v) n ∧ WX (wpd (wpd (wpd (wpd (wpd s (16 * b + 6) 2) (16 * b + 12) 12) (16 * b + 9) 0) (16 * b + 4) 0) (16 * b + 3) v) n ∧ RZ I' β ∧ FI β I I' ∧ I' β = I β := by
  have h135 := hw.a.2
  have hst := ((hw.2.1 b hb).2.2.2.1).e (by omega)
  have h6 : I (cB β b) 6 = s (16 * b + 3) := (hR.2.2.1 b hb).2.2.2.2.2.1
  unfold f_X6_goToNest
  simp only [hlet_e]
  generalize hJ : gup (gup (gup (gup I (cB β b) 9 2) (cB β b) 10 12) (cB β b) 11 0) (cB β b) 7 0 = J
  have j6 : J (cB β b) 6 = s (16 * b + 3) := by rw [← hJ, gup_i (by omega), gup_i (by omega), gup_i (by omega), gup_i (by omega)]; exact h6
  have hv : ∃ v, (if (999 : Int32) ≤ J (cB β b) 6 + 300 then some (gup J (cB β b) 6 999) else some (gup J (cB β b) 6 (J (cB β b) 6 + 300))) = some (gup J (cB β b) 6 v) ∧ (if s (16 * b + 3) + (300 : Int32) ≤ (999 : Int32) then some (s (16 * b + 3) + (300 : Int32)) else some (999 : Int32)) = some v ∧ Bd v 0 999 := by
    rw [j6, hst.1, show (300 : Int32) = nI 300 from rfl, show (999 : Int32) = nI 999 from rfl, pi_add]
    simp only [pi_le (show tn (s (16 * b + 3)) + 300 < 2147483648 by omega) (show 999 < 2147483648 by omega), pi_le (show 999 < 2147483648 by omega) (show tn (s (16 * b + 3)) + 300 < 2147483648 by omega)]
    by_cases c : 999 ≤ tn (s (16 * b + 3)) + 300
    · rw [if_pos c]
      refine ⟨nI 999, rfl, ?_, ⟨999, rfl, by omega, by omega⟩⟩
      by_cases d : tn (s (16 * b + 3)) + 300 ≤ 999
      · rw [if_pos d, show tn (s (16 * b + 3)) + 300 = 999 by omega]
      · rw [if_neg d]
    · rw [if_neg c, if_pos (by omega)]
      exact ⟨_, rfl, rfl, ⟨_, rfl, by omega, by omega⟩⟩
  obtain ⟨v, hv1, hv2, hv3⟩ := hv
  have e : ∀ (t : Nat → Int32) (i : Nat) (w : Int32), i < 128 → wpd t i w 135 = t 135 := fun t i w hi => wpd_ne (by omega)
  refine ⟨gup J (cB β b) 6 v, v, hv1, hv2, ?_, ?_, ?_, ?_, ?_⟩
  · rw [← hJ]
    have r1 : R (gup I (cB β b) 9 2) β (wpd s (16 * b + 6) 2) n := R_bird hn h135 hb (by unfold bPair; omega) hR
    have r2 := R_bird (f := 10) (g := 12) (v := 12) hn (by rw [e _ _ _ (by omega)]; exact h135) hb (by unfold bPair; omega) r1
    have r3 := R_bird (f := 11) (g := 9) (v := 0) hn (by rw [e _ _ _ (by omega), e _ _ _ (by omega)]; exact h135) hb (by unfold bPair; omega) r2
    have r4 := R_bird (f := 7) (g := 4) (v := 0) hn (by rw [e _ _ _ (by omega), e _ _ _ (by omega), e _ _ _ (by omega)]; exact h135) hb (by unfold bPair; omega) r3
    exact R_bird (f := 6) (g := 3) (v := v) hn (by rw [e _ _ _ (by omega), e _ _ _ (by omega), e _ _ _ (by omega), e _ _ _ (by omega)]; exact h135) hb (by unfold bPair; omega) r4
  · rw [wpd_comm (s := s) (show 16 * b + 6 ≠ 16 * b + 12 by omega)]
    have w1 : WX (wpd s (16 * b + 12) 12) n := WX_bird hb (by
      unfold okv; right; right; right; right; right; right; right; right; right; right; right
      exact ⟨rfl, ⟨12, rfl, by omega, by omega⟩, fun z => by rw [h1] at z; exact absurd z (by decide)⟩) hw
    have w2 : WX (wpd (wpd s (16 * b + 12) 12) (16 * b + 6) 2) n := WX_bird hb (by
      unfold okv; right; right; right; right; right; right; left
      exact ⟨rfl, ⟨2, rfl, by omega, by omega⟩, by rw [wpd_ne (by omega), h1]; decide, fun _ => by rw [wpd_at]; decide⟩) w1
    have w3 := WX_bird (g := 9) (v := 0) hb (by
      unfold okv; right; right; right; right; right; right; right; right; right; left
      exact ⟨rfl, ⟨0, rfl, by omega, by omega⟩⟩) w2
    have w4 := WX_bird (g := 4) (v := 0) hb (by
      unfold okv; right; right; right; right; left
      exact ⟨rfl, ⟨0, rfl, by omega, by omega⟩⟩) w3
    exact WX_bird (g := 3) (v := v) hb (by unfold okv; right; right; right; left; exact ⟨rfl, hv3⟩) w4
  · rw [← hJ]
    exact RZ_keep (Or.inl ⟨by omega, by omega⟩) (RZ_keep (Or.inl ⟨by omega, by omega⟩) (RZ_call (by decide) (RZ_keep (Or.inl ⟨by omega, by omega⟩) (RZ_keep (Or.inl ⟨by omega, by omega⟩) hZ))))
  · rw [← hJ]
    exact FI.gup (by unfold cB; omega) (FI.gup (by unfold cB; omega) (FI.gup (by unfold cB; omega) (FI.gup (by unfold cB; omega) (FI.gup (by unfold cB; omega) FI.rf))))
  · rw [← hJ]
    have z : ∀ (X : Nat → Nat → Int32) (k : Nat) (w : Int32), gup X (cB β b) k w β = X β := fun X k w => gup_ne (fun c => cB_ne c.symm)
    rw [z, z, z, z, z]
