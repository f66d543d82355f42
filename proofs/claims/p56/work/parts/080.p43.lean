theorem inv_next {I K I' K' : Nat → Nat → Int32} {O O' : Nat → Nat → Option Nat} {c : Int32} (h : Inv2 I K O) (z : RZ I' 13) (e1 : ∀ a, a < 13 ∨ 25 ≤ a → I' a = I a) (e2 : FO 13 O O') (e3 : ∀ a, 132 ≤ a → a ≠ 136 → K' a = K a) (e5 : ∀ f, f ≠ 15 → K' 129 f = K 129 f) (e6 : ∀ k, k < 151 → K' 130 k = K 130 k) : Inv2 I' (gup K' 129 8 c) O' := by
  have hh := h
  obtain ⟨n, p, len, h1, _⟩ := hh
  have g : gup K' 129 8 c 130 = K' 130 := gup_ne (by omega)
  refine Inv2_now h (fun a q1 q2 => e1 a (by omega)) z (n := n) ?_ (fun a q1 q2 => (gup_ne (by omega)).trans (e3 a q1 q2)) ((gup_i (by omega)).trans (e5 3 (by omega))) ((gup_i (by omega)).trans (e5 7 (by omega))) (e2 26 (by omega))
  rw [g]
  exact RR_I (fun a q1 q2 => e1 a (by omega)) (RR_s (s := K 130) e6 h1)
theorem op_secondsToNext : OPB f_W_secondsToNext f_X8_secondsToNext := by
  intro I O J K h
  have hh := h
  obtain ⟨n, p0, len, h1, hZZ, _⟩ := hh
  obtain ⟨I', O', K', z, e1, e2, e3, e4, e5, e6, hc⟩ := nextIn_both (O := O) h1 (hZZ 13 isB13)
  rcases hc with ⟨w1, w2⟩ | ⟨t, B, t1, t2, w1, w2, w3, w4, w5⟩
  · refine ⟨I', O', gup K' 129 8 1, inv_next h z e1 e2 e3 e5 e6, fun a ha => e1 a (by omega), fun a ha => (gup_ne (by omega)).trans (e4 a ha), Or.inr ⟨1, 0, by decide, ?_, ?_, gup_at⟩⟩
    · unfold f_W_secondsToNext f_X7_secondsToNext
      rw [w1]; rfl
    · unfold f_X8_secondsToNext
      rw [w2]; rfl
  · have c1 : ¬ (nI t = (-1 : Int32)) := by
      intro e
      have := congrArg Int32.toInt e
      rw [pi_int (by omega), show (-1 : Int32).toInt = -1 from rfl] at this; omega
    have c2 : ¬ (nI t = (0 : Int32)) := by rw [show (0 : Int32) = nI 0 from rfl, pi_eq (by omega) (by omega)]; omega
    refine ⟨I', O', gup K' 129 8 0, inv_next h z e1 e2 e3 e5 e6, fun a ha => e1 a (by omega), fun a ha => (gup_ne (by omega)).trans (e4 a ha), Or.inl ⟨nI t, ?_, ?_, gup_at⟩⟩
    · unfold f_W_secondsToNext f_X7_secondsToNext
      rw [w1]
      simp only [Option.bind_some]
      rw [if_neg c1]
      simp only [Option.bind_some, hsum, hlet_e]
      rw [t0']
    · unfold f_X8_secondsToNext
      rw [w2]
      simp only [Option.bind_some, if_neg c2]
      rw [ref0]
      simp only [Option.bind_some, if_true]
section CS
variable {SL' : Nat} {sx : Nat → Int32} {p4 : Int32} {I : Nat → Nat → Int32} {O : Nat → Nat → Option Nat} {J : Nat → Nat → Int64}
end CS
