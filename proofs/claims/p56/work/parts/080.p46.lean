theorem best_both {I K : Nat → Nat → Int32} {O : Nat → Nat → Option Nat} {n b : Nat} (hI : RR I 1 (K 130) n) (hZ : RZ I 13) (hb : b < n) :
    ∃ I' O' K' w, f_X7_foretellBestPace (cB 1 b) I O = some (w, I', O') ∧ f_X8_best (nI b) K = some (w, K') ∧ (∀ a, a < 13 ∨ 25 ≤ a → I' a = I a) ∧ RZ I' 13 ∧ FO 13 O O' ∧ (∀ a, a ≠ 130 → a ≠ 131 → a ≠ 136 → K' a = K a) ∧ (∀ k, k < 151 → K' 130 k = K 130 k) := by
  obtain ⟨I1, O1, r, K1, f1, f2, f3, f4, f5, f6, f7, x, hx, rfl⟩ := flownAt_q (O := O) (m := 10) hI hZ hb (by omega) (by omega)
  have hI1 : RR I1 1 (K1 130) n := RR_I (fun a q1 q2 => f3 a (by omega)) (RR_s (s := K 130) f7 hI)
  obtain ⟨I', O', K', w, b1, b2, b3, b4, b5, b6, b7⟩ := best_loop hb 30 11 4095 FU I1 K1 O1 10 x (by omega) (by omega) (by omega) (by unfold FU; omega) hx hI1 f4
  have f1' : f_X7_foretell (cB 1 b) (10 : Int32) (50 : Int32) I O = some (nI x, I1, O1) := f1
  have f2' : f_X8_flownAt (nI b) (10 : Int32) K = some (nI x, K1) := f2
  have cl : f_X7_foretellBestPace (cB 1 b) I O = some (w, I', O') := by
    unfold f_X7_foretellBestPace
    have e : f_X7_foretellBestPace_L9 (cB 1 b) FU (10 : Int32) (-1 : Int32) (10 : Int32) I O = some (w, I', O') := by
      show f_X7_foretellBestPace_L9 (cB 1 b) (4095 + 1) (10 : Int32) (-1 : Int32) (10 : Int32) I O = _
      rw [f_X7_foretellBestPace_L9, if_neg (by decide), f1']
      simp only [Option.bind_some]
      have c0 : ¬ (nI x ≤ (-1 : Int32)) := by
        rw [Int32.le_iff_toInt_le, pi_int (by omega), show (-1 : Int32).toInt = -1 from rfl]; omega
      rw [if_neg c0]
      simp only [Option.bind_some, hlet_e]
      exact b1
    rw [e]; rfl
  refine ⟨I', O', K', w, cl, ?_, fun a ha => (b3 a ha).trans (f3 a ha), b4, fun a ha => (b5 a ha).trans (f5 a ha), fun a q1 q2 q3 => (b6 a q1 q2 q3).trans (f6 a q1 q2 q3), fun j hj => (b7 j hj).trans (f7 j hj)⟩
  unfold f_X8_best
  rw [f2']
  simp only [Option.bind_some]
  rw [show f_X8_best_L15 (nI b) FU (10 : Int32) (nI x) (11 : Int32) K1 = some (w, K') from b2]; rfl
theorem op_bestPace (a : Int32) : OPB (f_W_bestPace a) (f_X8_bestPace a) := by
  intro I O J K h
  have hh := h
  obtain ⟨n, p0, len, h1, hZZ, _⟩ := hh
  have hn := h1.2.2.2.1.1.2
  have hrc := bd1_c h1.2.2.2.1.2.2.2.2.1.2
  have h5 : I 1 5 = K 130 150 := h1.1.1.2.2.1
  rcases known_e (I := I) (K := K) (n := n) a (h1.1.1.1.trans h1.2.2.2.1.1.1) h1.2.2.2.1.1.1 hn with ⟨b, hb, rfl, e1, e2⟩ | ⟨e1, e2⟩
  · rcases hrc with hr | hr
    · refine op_no h (c := 2) (r := 0) (by decide) ?_ ?_
      · unfold f_W_bestPace f_X7_bestPace f_X7_checkRacing
        rw [e1]
        simp only [Option.bind_some, hsum]
        rw [h5, hr]; rfl
      · unfold f_X8_bestPace
        rw [e2, t150, hr]; rfl
    · have g130' : gup K 129 8 0 130 = K 130 := gup_ne (by omega)
      obtain ⟨I7, O8, K8, r, f1, f2, f3, f4, f5, f6, f7⟩ := best_both (K := gup K 129 8 0) (O := O) (by rw [g130']; exact h1) (hZZ 13 isB13) hb
      rw [g130'] at f7
      have hfin : Inv2 I7 K8 O8 := by
        have hR : RR I7 1 (K8 130) n := RR_I (fun a q1 q2 => f3 a (by omega)) (RR_s (s := K 130) f7 h1)
        exact Inv2_now h (fun a q1 q2 => f3 a (by omega)) f4 hR (fun a q1 q2 => by rw [f6 a (by omega) (by omega) q2]; exact gup_ne (by omega)) (by rw [f6 129 (by omega) (by omega) (by omega)]; exact gup_i (by omega)) (by rw [f6 129 (by omega) (by omega) (by omega)]; exact gup_i (by omega)) (f5 26 (by omega))
      refine ⟨I7, O8, K8, hfin, fun a ha => f3 a (by omega), fun a ha => by rw [f6 a (by omega) (by omega) (by omega)]; exact gup_ne (by omega), Or.inl ⟨r, ?_, ?_, by rw [f6 129 (by omega) (by omega) (by omega)]; exact gup_at⟩⟩
      · unfold f_W_bestPace f_X7_bestPace f_X7_checkRacing
        rw [e1]
        simp only [Option.bind_some, hsum]
        have c0 : ¬ (I 1 5 = 0) := by rw [h5, hr]; decide
        rw [if_neg c0]
        simp only [Option.bind_some]
        rw [hk_e (sk_b isB1 (by omega)), f1]
        simp only [Option.bind_some, hlet_e]
        rw [t0']
      · unfold f_X8_bestPace
        rw [e2, t150, hr]
        simp only [Option.bind_some, show ¬ ((1 : Int32) = 0) by decide, if_false, if_true, eq_self]
        rw [ref0]
        simp only [Option.bind_some, if_true]
        rw [f2]; rfl
  · refine op_no h (c := 1) (r := 0) (by decide) ?_ ?_
    · unfold f_W_bestPace f_X7_bestPace
      rw [e1]; rfl
    · unfold f_X8_bestPace
      rw [e2]; rfl
section CS
variable {SL' : Nat} {sx : Nat → Int32} {p4 : Int32} {I : Nat → Nat → Int32} {O : Nat → Nat → Option Nat} {J : Nat → Nat → Int64}
end CS
