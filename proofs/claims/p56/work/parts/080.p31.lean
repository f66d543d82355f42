theorem RR_bird {I : Nat → Nat → Int32} {β n b f g : Nat} {s : Nat → Int32} {v : Int32} (hb : b < n) (hp : bPair f g) (hf : f ≠ 11) (hg : g ≠ 6 ∧ g ≠ 7) (hk : okv s b g v) (h : RR I β s n) : RR (gup I (cB β b) f v) β (wpd s (16 * b + g) v) n := by
  obtain ⟨hR, hZ, h6, hw, hr, hl⟩ := h
  have hn := hw.1.2
  have hg16 : g < 16 ∧ f ≠ 0 := by unfold bPair at hp; omega
  have hc : cnt3 (wpd s (16 * b + g) v) n = cnt3 s n := cnt3_far (fun c hc => by rw [wpd_ne (by omega)])
  refine ⟨R_bird hn hw.a.2 hb hp hR, RZ_keep (Or.inl ⟨hg16.2, hf⟩) hZ, by rw [gup_n (fun c => cB_ne c.symm), wpd_ne (by omega)]; exact h6, WX_bird hb hk hw, fun e c hc h3 => ?_, fun e => ?_⟩
  · rw [wpd_ne (by omega)] at e h3 ⊢
    rw [wpd_ne (show 133 ≠ 16 * b + g by omega)]; exact hr e c hc h3
  · rw [wpd_ne (by omega)] at e; rw [hc]; exact hl e
theorem ZZ13 {I K : Nat → Nat → Int32} {O : Nat → Nat → Option Nat} (h : Inv2 I K O) : RZ I 13 := by
  obtain ⟨_, _, _, _, hz, _⟩ := h; exact hz 13 (Or.inr (Or.inl rfl))
theorem isPace_e (a : Int32) : (f_X7_isPace a = some 1 ∧ ∃ m, 10 ≤ m ∧ m ≤ 40 ∧ a = nI m ∧ f_X8_in a (10 : Int32) (40 : Int32) = some 1) ∨ (f_X7_isPace a = some 0 ∧ f_X8_in a (10 : Int32) (40 : Int32) = some 0) := by
  have e : f_X7_isPace a = f_X8_in a (10 : Int32) (40 : Int32) := rfl
  rcases in_chk (a := a) (lo := 10) (hi := 40) (by omega) (by omega) with ⟨m, m1, m2, e0, e1, _⟩ | ⟨e1, _⟩
  · exact Or.inl ⟨e.trans e1, m, m1, m2, e0, e1⟩
  · exact Or.inr ⟨e.trans e1, e1⟩
theorem op_setPace (a p : Int32) : OPB (f_W_setPace a p) (f_X8_setPace a p) := by
  intro I O J K h
  have hh := h
  obtain ⟨n0, _, len, h1, _⟩ := hh
  have hn := h1.2.2.2.1.1.2
  rcases known_e (I := I) (K := K) (n := n0) a (h1.1.1.1.trans h1.2.2.2.1.1.1) h1.2.2.2.1.1.1 hn with ⟨b, hb, rfl, e1, e2⟩ | ⟨e1, e2⟩
  · rcases isPace_e p with ⟨c1, m, m1, m2, rfl, c2⟩ | ⟨c1, c2⟩
    · obtain ⟨n, I1, O1, K1, a1, a2, a3, a4, a5, a6, a7, a8, a9⟩ := sv_step h
      have hnn : n = n0 := by
        have e3 := a3.2.2.2.1.1.1
        rw [a6, h1.2.2.2.1.1.1, pi_eq (by omega) (by have := a3.2.2.2.1.1.2; omega)] at e3
        exact e3.symm
      subst hnn
      have hR2 : RR (gup I1 (cB 1 b) 1 (nI m)) 1 (gup K1 130 (16 * b + 0) (nI m) 130) n := by
        rw [wpd_gup]; exact RR_bird hb (by unfold bPair; omega) (by omega) (by omega) (by unfold okv; left; exact ⟨rfl, ⟨m, rfl, m1, m2⟩⟩) a3
      have z13 : RZ (gup I1 (cB 1 b) 1 (nI m)) 13 := RZ_I (fun a h1 h2 => gup_ne (by unfold cB; omega)) (ZZ13 a4)
      refine ⟨gup I1 (cB 1 b) 1 (nI m), O1, gup K1 130 (16 * b + 0) (nI m), Inv2_now a4 (fun a h1 h2 => gup_ne (by unfold cB; omega)) z13 hR2 (fun a h1 h2 => gup_ne (by omega)) (gup_n (by omega)) (gup_n (by omega)) rfl, fun a ha => (gup_ne (by unfold cB; omega)).trans (a8 a ha), fun a ha => (gup_ne (by omega)).trans (a9 a ha), Or.inl ⟨K1 130 (16 * b), ?_, ?_, by rw [gup_n (by omega)]; exact a5⟩⟩
      · unfold f_W_setPace f_X7_setPace f_X7_checkPace
        rw [e1]
        simp only [Option.bind_some, hsum]
        rw [c1]
        simp only [Option.bind_some, show ¬ ((1 : Int32) = 0) by decide, if_false]
        rw [a1]
        simp only [Option.bind_some, hlet_e]
        rw [hk_e (sk_b (Or.inl rfl) (by omega))]
        simp only [Option.bind_some]
        rw [t0', (a3.1.2.2.1 b hb).1]
      · unfold f_X8_setPace f_X8_setsPace
        rw [e2]
        simp only [Option.bind_some, show ¬ ((1 : Int32) = 0) by decide, if_false]
        rw [c2]
        simp only [Option.bind_some, show ¬ ((1 : Int32) = 0) by decide, if_false]
        rw [ref0]
        simp only [Option.bind_some, if_true]
        rw [a2]
        simp only [Option.bind_some]
        rw [show f_X8_of (nI b) (0 : Int32) K1 = some (K1 130 (16 * b + 0)) from x8_of (f := 0) (by omega) (by omega)]
        simp only [Option.bind_some]
        rw [show (16 : Int32) = nI 16 from rfl, pi_mul, pi_gin (by omega), decide_eq_true (by omega), hg_t, pi_tn (by omega)]; rfl
    · refine op_no h (c := 2) (r := 0) (by decide) ?_ ?_
      · unfold f_W_setPace f_X7_setPace f_X7_checkPace
        rw [e1]
        simp only [Option.bind_some, hsum]
        rw [c1]; rfl
      · unfold f_X8_setPace
        rw [e2]
        simp only [Option.bind_some, show ¬ ((1 : Int32) = 0) by decide, if_false]
        rw [c2]; rfl
  · refine op_no h (c := 1) (r := 0) (by decide) ?_ ?_
    · unfold f_W_setPace f_X7_setPace
      rw [e1]; rfl
    · unfold f_X8_setPace
      rw [e2]; rfl
section CS
variable {SL : Nat} {sx : Nat → Int32} {p4 : Int32} {I : Nat → Nat → Int32} {O : Nat → Nat → Option Nat} {J : Nat → Nat → Int64}
end CS
