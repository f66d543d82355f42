theorem flownAt_both {I K : Nat → Nat → Int32} {O : Nat → Nat → Option Nat} {n b m : Nat} (hI : RR I 1 (K 130) n) (hZ : RZ I 13) (hb : b < n) (h1 : 10 ≤ m) (h2 : m ≤ 40) :
    ∃ I7 O8 r K9, f_X7_foretell (cB 1 b) (nI m) (50 : Int32) I O = some (r, I7, O8) ∧ f_X8_flownAt (nI b) (nI m) K = some (r, K9) ∧ (∀ a, a < 13 ∨ 25 ≤ a → I7 a = I a) ∧ RZ I7 13 ∧ FO 13 O O8 ∧ (∀ a, a ≠ 130 → a ≠ 131 → a ≠ 136 → K9 a = K a) ∧ (∀ k, k < 151 → K9 130 k = K 130 k) := by
  have hn := hI.2.2.2.1.1.2
  obtain ⟨I7, O8, r, K8, f1, f2, f3, f4, f5, f6, f7⟩ := foretell_both (K := gup K 130 (16 * b + 0) (nI m)) (O := O) (pc := nI m) (m := 50) hI hZ hb ⟨m, rfl, h1, h2⟩ wpd_gup (by omega)
  refine ⟨I7, O8, r, gup K8 130 (16 * b) (K 130 (16 * b)), f1, ?_, f3, f4, f5, fun a q1 q2 q3 => by rw [gup_ne q1, f6 a q1 q2 q3, gup_ne q1], fun k hk => ?_⟩
  · unfold f_X8_flownAt
    rw [show f_X8_of (nI b) (0 : Int32) K = some (K 130 (16 * b + 0)) from x8_of (f := 0) (by omega) (by omega)]
    simp only [Option.bind_some]
    rw [show (16 : Int32) = nI 16 from rfl, pi_mul, pi_gin (by omega), decide_eq_true (by omega), hg_t, pi_tn (by omega), hlet_e]
    have f2' : f_X8_flownIn (nI b) (50 : Int32) (gup K 130 (16 * b) (nI m)) = some (r, K8) := f2
    rw [f2']
    simp only [Option.bind_some, hg_t, hlet_e]
    rfl
  · by_cases c : k = 16 * b
    · rw [c, gup_at]
    · rw [gup_i c, f7 k hk, gup_i (by omega)]
theorem op_flownWithPace (a l : Int32) : OPB (f_W_flownWithPace a l) (f_X8_flownWithPace a l) := by
  intro I O J K h
  have hh := h
  obtain ⟨n, p0, len, h1, hZZ, _⟩ := hh
  have hn := h1.2.2.2.1.1.2
  have hrc := bd1_c h1.2.2.2.1.2.2.2.2.1.2
  have h5 : I 1 5 = K 130 150 := h1.1.1.2.2.1
  rcases known_e (I := I) (K := K) (n := n) a (h1.1.1.1.trans h1.2.2.2.1.1.1) h1.2.2.2.1.1.1 hn with ⟨b, hb, rfl, e1, e2⟩ | ⟨e1, e2⟩
  · rcases isPace_e l with ⟨c1, m, m1, m2, rfl, c2⟩ | ⟨c1, c2⟩
    · rcases hrc with hr | hr
      · refine op_no h (c := 3) (r := 0) (by decide) ?_ ?_
        · unfold f_W_flownWithPace f_X7_flownWithPace f_X7_checkRacing f_X7_checkPace
          rw [e1]
          simp only [Option.bind_some, hsum]
          rw [c1, h5, hr]; rfl
        · unfold f_X8_flownWithPace
          rw [e2]
          simp only [Option.bind_some, show ¬ ((1 : Int32) = 0) by decide, if_false]
          rw [c2, t150, hr]; rfl
      · have g130' : gup K 129 8 0 130 = K 130 := gup_ne (by omega)
        obtain ⟨I7, O8, r, K8, f1, f2, f3, f4, f5, f6, f7⟩ := flownAt_both (K := gup K 129 8 0) (O := O) (m := m) (by rw [g130']; exact h1) (hZZ 13 isB13) hb m1 m2
        rw [g130'] at f7
        have hfin : Inv2 I7 K8 O8 := by
          have hR : RR I7 1 (K8 130) n := RR_I (fun a q1 q2 => f3 a (by omega)) (RR_s (s := K 130) f7 h1)
          exact Inv2_now h (fun a q1 q2 => f3 a (by omega)) f4 hR (fun a q1 q2 => by rw [f6 a (by omega) (by omega) q2]; exact gup_ne (by omega)) (by rw [f6 129 (by omega) (by omega) (by omega)]; exact gup_i (by omega)) (by rw [f6 129 (by omega) (by omega) (by omega)]; exact gup_i (by omega)) (f5 26 (by omega))
        refine ⟨I7, O8, K8, hfin, fun a ha => f3 a (by omega), fun a ha => by rw [f6 a (by omega) (by omega) (by omega)]; exact gup_ne (by omega), Or.inl ⟨r, ?_, ?_, by rw [f6 129 (by omega) (by omega) (by omega)]; exact gup_at⟩⟩
        · unfold f_W_flownWithPace f_X7_flownWithPace f_X7_checkRacing f_X7_checkPace
          rw [e1]
          simp only [Option.bind_some, hsum]
          rw [c1]
          simp only [Option.bind_some, show ¬ ((1 : Int32) = 0) by decide, if_false]
          have c0 : ¬ (I 1 5 = 0) := by rw [h5, hr]; decide
          rw [if_neg c0]
          simp only [Option.bind_some]
          rw [hk_e (sk_b isB1 (by omega)), f1]
          simp only [Option.bind_some, hlet_e]
          rw [t0']
        · unfold f_X8_flownWithPace
          rw [e2]
          simp only [Option.bind_some, show ¬ ((1 : Int32) = 0) by decide, if_false]
          rw [c2, t150, hr]
          simp only [Option.bind_some, show ¬ ((1 : Int32) = 0) by decide, if_false, if_true, eq_self]
          rw [ref0]
          simp only [Option.bind_some, if_true]
          rw [f2]; rfl
    · refine op_no h (c := 2) (r := 0) (by decide) ?_ ?_
      · unfold f_W_flownWithPace f_X7_flownWithPace f_X7_checkPace
        rw [e1]
        simp only [Option.bind_some, hsum]
        rw [c1]; rfl
      · unfold f_X8_flownWithPace
        rw [e2]
        simp only [Option.bind_some, show ¬ ((1 : Int32) = 0) by decide, if_false]
        rw [c2]; rfl
  · refine op_no h (c := 1) (r := 0) (by decide) ?_ ?_
    · unfold f_W_flownWithPace f_X7_flownWithPace
      rw [e1]; rfl
    · unfold f_X8_flownWithPace
      rw [e2]; rfl
section CS
variable {SL' : Nat} {sx : Nat → Int32} {p4 : Int32} {I : Nat → Nat → Int32} {O : Nat → Nat → Option Nat} {J : Nat → Nat → Int64}
end CS
