theorem winner_both {I K : Nat → Nat → Int32} {O : Nat → Nat → Option Nat} {n : Nat} (hI : RR I 1 (K 130) n) (hZ : RZ I 13) :
    ∃ I' O' K', RZ I' 13 ∧ (∀ a, a < 13 ∨ 25 ≤ a → I' a = I a) ∧ FO 13 O O' ∧ (∀ a, 132 ≤ a → a ≠ 136 → K' a = K a) ∧ (∀ a, a < 129 → K' a = K a) ∧ (∀ f, f ≠ 15 → K' 129 f = K 129 f) ∧ (∀ k, k < 151 → K' 130 k = K 130 k) ∧
      ((f_X7_foretellWinner I O = some (-1, I', O') ∧ f_X8_first K = some (0, K')) ∨
       (∃ b, b < 8 ∧ f_X7_foretellWinner I O = some (nI b, I', O') ∧ f_X8_first K = some (nI (b + 1), K'))) := by
  have hw := hI.2.2.2.1
  have hc := cnt3_le (K 130) n
  have hn := hw.1.2
  have i7 : I 1 7 = nI (cnt3 (K 130) n) := hI.1.1.2.2.2.1.trans hw.a.1
  by_cases c0 : 0 < cnt3 (K 130) n
  · refine ⟨I, O, K, hZ, fun _ _ => rfl, fun _ _ => rfl, fun _ _ _ => rfl, fun _ _ => rfl, fun _ _ => rfl, fun _ _ => rfl, Or.inl ⟨?_, ?_⟩⟩
    · unfold f_X7_foretellWinner
      rw [i7, if_pos (by rw [show (0 : Int32) = nI 0 from rfl, pi_lt (by omega) (by omega)]; exact c0)]
    · unfold f_X8_first
      rw [t135, hw.a.1, if_pos (by rw [show (0 : Int32) = nI 0 from rfl, pi_lt (by omega) (by omega)]; exact c0)]
  · have d0 : ¬ ((0 : Int32) < nI (cnt3 (K 130) n)) := by rw [show (0 : Int32) = nI 0 from rfl, pi_lt (by omega) (by omega)]; exact c0
    obtain ⟨I', O', K', z, e1, e2, e3, e4, e5, e6, hcc⟩ := nextIn_both (O := O) hI hZ
    refine ⟨I', O', K', z, e1, e2, e3, e4, e5, e6, ?_⟩
    rcases hcc with ⟨w1, w2⟩ | ⟨t, B, t1, t2, w1, w2, w3, w4, w5⟩
    · refine Or.inl ⟨?_, ?_⟩
      · unfold f_X7_foretellWinner
        rw [i7, if_neg d0, w1]; rfl
      · unfold f_X8_first
        rw [t135, hw.a.1, if_neg d0, w2]; rfl
    · have c1 : ¬ (nI t = (-1 : Int32)) := by
        intro e
        have := congrArg Int32.toInt e
        rw [pi_int (by omega), show (-1 : Int32).toInt = -1 from rfl] at this; omega
      have c2 : ¬ (nI t = (0 : Int32)) := by rw [show (0 : Int32) = nI 0 from rfl, pi_eq (by omega) (by omega)]; omega
      rcases x3_arrivedAs (a := (0 : Int32)) isB13 w3.2.2.2.1 w3.1 w3.2.1 with ⟨k, b, hk, ek, hb, eb, ea⟩ | ⟨hno, _⟩
      · have hcB := cnt3_le B n
        have k0 : k = 0 := by
          rw [show (0 : Int32) = nI 0 from rfl, pi_eq (by omega) (by omega)] at ek; exact ek.symm
        subst k0
        refine Or.inr ⟨b, by omega, ?_, ?_⟩
        · unfold f_X7_foretellWinner
          rw [i7, if_neg d0, w1]
          simp only [Option.bind_some]
          rw [if_neg c1, ea]
          simp only [Option.bind_some, hopt_e2]
          rw [hk_e (sk_b isB13 (by omega)), (w3.2.1 b (by omega)).1]
        · unfold f_X8_first
          rw [t135, hw.a.1, if_neg d0, w2]
          simp only [Option.bind_some]
          rw [if_neg c2, w5, show B 136 = nI b from eb, show nI b + (1 : Int32) = nI (b + 1) from pi_add b 1]
      · exact absurd rfl (hno 0 (by omega))
theorem op_wouldWin : OPB f_W_wouldWin f_X8_wouldWin := by
  intro I O J K h
  have hh := h
  obtain ⟨n, p0, len, h1, hZZ, _⟩ := hh
  obtain ⟨I', O', K', z, e1, e2, e3, e4, e5, e6, hc⟩ := winner_both (O := O) h1 (hZZ 13 isB13)
  rcases hc with ⟨w1, w2⟩ | ⟨b, hb, w1, w2⟩
  · refine ⟨I', O', gup K' 129 8 1, inv_next h z e1 e2 e3 e5 e6, fun a ha => e1 a (by omega), fun a ha => (gup_ne (by omega)).trans (e4 a ha), Or.inr ⟨1, 0, by decide, ?_, ?_, gup_at⟩⟩
    · unfold f_W_wouldWin f_X7_wouldWin
      rw [w1]; rfl
    · unfold f_X8_wouldWin
      rw [w2]; rfl
  · have c1 : ¬ (nI b = (-1 : Int32)) := by
      intro e
      have := congrArg Int32.toInt e
      rw [pi_int (by omega), show (-1 : Int32).toInt = -1 from rfl] at this; omega
    have c2 : ¬ (nI (b + 1) = (0 : Int32)) := by rw [show (0 : Int32) = nI 0 from rfl, pi_eq (by omega) (by omega)]; omega
    refine ⟨I', O', gup K' 129 8 0, inv_next h z e1 e2 e3 e5 e6, fun a ha => e1 a (by omega), fun a ha => (gup_ne (by omega)).trans (e4 a ha), Or.inl ⟨nI b, ?_, ?_, gup_at⟩⟩
    · unfold f_W_wouldWin f_X7_wouldWin
      rw [w1]
      simp only [Option.bind_some]
      rw [if_neg c1]
      simp only [Option.bind_some, hsum, hlet_e]
      rw [t0']
    · unfold f_X8_wouldWin
      rw [w2]
      simp only [Option.bind_some, if_neg c2]
      rw [ref0]
      simp only [Option.bind_some, if_true]
      rw [show nI (b + 1) - (1 : Int32) = nI (b + 1 - 1) from pi_sub (b := 1) (by omega)]; rfl
section CS
variable {SL' : Nat} {sx : Nat → Int32} {p4 : Int32} {I : Nat → Nat → Int32} {O : Nat → Nat → Option Nat} {J : Nat → Nat → Int64}
end CS
