theorem RR_lim {I : Nat → Nat → Int32} {β n k : Nat} {s : Nat → Int32} {v : Int32} (hk : k < 4) (hv : Bd v 8 40) (h : RR I β s n) : RR (gup I (β + 3) k v) β (wpd s (129 + k) v) n := by
  obtain ⟨⟨h1, h2, h3, h4⟩, hZ, h6, hw, hr, hl⟩ := h
  have hn := hw.1.2
  have ha := hw.a
  have e : ∀ i, i ≠ 129 + k → wpd s (129 + k) v i = s i := fun i hi => wpd_ne hi
  have hc : cnt3 (wpd s (129 + k) v) n = cnt3 s n := cnt3_far (fun c hc => by rw [e _ (by omega)])
  have eb : gup I (β + 3) k v β = I β := gup_ne (by omega)
  refine ⟨⟨?_, fun q hq => ?_, fun b hb => RB_cell (gup_ne cB_n3) (RB_far (by omega) (h3 b hb)), fun b q hb hq he => ?_⟩, RZ_keep (Or.inr (fun b => fun c => cB_n3 c.symm)) hZ, by rw [eb, e _ (by omega)]; exact h6, WX_cfg (Or.inr (Or.inr ⟨by omega, by omega, hv⟩)) hw, fun h c hc h3 => ?_, fun h => ?_⟩
  · rw [eb, e 128 (by omega), e 133 (by omega), e 150 (by omega), e 135 (by omega), e 144 (by omega), e 145 (by omega), e 146 (by omega), e 147 (by omega), e 148 (by omega), e 149 (by omega)]
    exact h1
  · by_cases c : q = k
    · rw [c, gup_at, wpd_at]
    · rw [gup_i c, e _ (by omega)]; exact h2 q hq
  · rw [e 135 (by omega)] at hq
    have := ha.2
    rw [e _ (by omega)] at he
    rw [gup_n cB_n3]; exact h4 b q hb hq he
  · rw [e _ (by omega)] at h h3 ⊢
    rw [e 133 (by omega)]; exact hr h c hc h3
  · rw [e _ (by omega)] at h; rw [hc]; exact hl h
theorem corner_e (a : Int32) : (∃ k, k < 4 ∧ a = nI k ∧ f_X7_checkCorner a = some (Sum.inr ()) ∧ f_X8_in a (0 : Int32) (3 : Int32) = some 1) ∨ (f_X7_checkCorner a = some (Sum.inl 0) ∧ f_X8_in a (0 : Int32) (3 : Int32) = some 0) := by
  rcases in_chk (a := a) (lo := 0) (hi := 3) (by omega) (by omega) with ⟨m, m1, m2, e0, e1, e2, e3⟩ | ⟨e1, e2⟩
  · refine Or.inl ⟨m, by omega, e0, ?_, e1⟩
    unfold f_X7_checkCorner
    have e2' : ¬ (a < 0) := e2
    rw [if_neg e2', if_pos]
    rw [e0, show (4 : Int32) = nI 4 from rfl, pi_lt (by omega) (by omega)]; omega
  · refine Or.inr ⟨?_, e1⟩
    unfold f_X7_checkCorner
    rcases e2 with e | ⟨e, e'⟩
    · exact if_pos e
    · have e2' : ¬ (a < 0) := e
      rw [if_neg e2', if_neg]
      intro c; apply e'
      rw [Int32.lt_iff_toInt_lt, show (4 : Int32).toInt = 4 from rfl] at c
      rw [Int32.le_iff_toInt_le, show (nI 3).toInt = 3 from rfl]; omega
theorem op_setLimit (a l : Int32) : OPB (f_W_setLimit a l) (f_X8_setLimit a l) := by
  intro I O J K h
  rcases corner_e a with ⟨k, hk, rfl, e1, e2⟩ | ⟨e1, e2⟩
  · rcases in_chk (a := l) (lo := 8) (hi := 40) (by omega) (by omega) with ⟨m, m1, m2, rfl, c1, c2, c3⟩ | ⟨c1, c2⟩
    · have c1' : f_X8_in (nI m) (8 : Int32) (40 : Int32) = some 1 := c1
      have c2' : ¬ (nI m < (8 : Int32)) := c2
      have c3' : nI m ≤ (40 : Int32) := c3
      obtain ⟨n, I1, O1, K1, a1, a2, a3, a4, a5, a6, a7, a8, a9⟩ := sv_step h
      have hR2 : RR (gup I1 (1 + 3) k (nI m)) 1 (gup K1 130 (129 + k) (nI m) 130) n := by
        rw [wpd_gup]; exact RR_lim hk ⟨m, rfl, m1, m2⟩ a3
      have z13 : RZ (gup I1 (1 + 3) k (nI m)) 13 := RZ_I (fun a h1 h2 => gup_ne (by omega)) (ZZ13 a4)
      refine ⟨gup I1 (1 + 3) k (nI m), O1, gup K1 130 (129 + k) (nI m), Inv2_now a4 (fun a h1 h2 => gup_ne (by omega)) z13 hR2 (fun a h1 h2 => gup_ne (by omega)) (gup_n (by omega)) (gup_n (by omega)) rfl, fun a ha => (gup_ne (by omega)).trans (a8 a ha), fun a ha => (gup_ne (by omega)).trans (a9 a ha), Or.inl ⟨K1 130 (129 + k), ?_, ?_, by rw [gup_n (by omega)]; exact a5⟩⟩
      · unfold f_W_setLimit f_X7_setLimit
        rw [e1]
        simp only [Option.bind_some, hsum]
        rw [if_neg c2', if_pos c3', a1]
        simp only [Option.bind_some]
        rw [x3_limitAt hk]
        simp only [Option.bind_some]
        unfold f_X3_changeLimit
        rw [if_neg (by rw [show (0 : Int32) = nI 0 from rfl, pi_lt (by omega) (by omega)]; omega), if_neg (by rw [show (4 : Int32) = nI 4 from rfl, pi_le (by omega) (by omega)]; omega), pi_gin (by omega), decide_eq_true hk, hg_t, pi_tn (by omega)]
        simp only [Option.bind_some, hlet_e]
        rw [t0', a3.1.2.1 k hk]
      · unfold f_X8_setLimit f_X8_sets
        rw [e2]
        simp only [Option.bind_some, show ¬ ((1 : Int32) = 0) by decide, if_false]
        rw [c1']
        simp only [Option.bind_some, show ¬ ((1 : Int32) = 0) by decide, if_false]
        rw [ref0]
        simp only [Option.bind_some, if_true]
        rw [a2]
        simp only [Option.bind_some]
        rw [show (129 : Int32) = nI 129 from rfl, pi_add, pi_gin (by omega), decide_eq_true (by omega), hg_t, hg_t, pi_tn (by omega)]; rfl
    · have c1' : f_X8_in l (8 : Int32) (40 : Int32) = some 0 := c1
      refine op_no h (c := 2) (r := 0) (by decide) ?_ ?_
      · unfold f_W_setLimit f_X7_setLimit
        rw [e1]
        simp only [Option.bind_some, hsum]
        rcases c2 with e | ⟨e, e'⟩
        · have e9 : l < (8 : Int32) := e
          rw [if_pos e9]; rfl
        · have e9 : ¬ (l < (8 : Int32)) := e
          have e8 : ¬ (l ≤ (40 : Int32)) := e'
          rw [if_neg e9, if_neg e8]; rfl
      · unfold f_X8_setLimit
        rw [e2]
        simp only [Option.bind_some, show ¬ ((1 : Int32) = 0) by decide, if_false]
        rw [c1']; rfl
  · refine op_no h (c := 1) (r := 0) (by decide) ?_ ?_
    · unfold f_W_setLimit f_X7_setLimit
      rw [e1]; rfl
    · unfold f_X8_setLimit
      rw [e2]; rfl
section CS
variable {SL : Nat} {sx : Nat → Int32} {p4 : Int32} {I : Nat → Nat → Int32} {O : Nat → Nat → Option Nat} {J : Nat → Nat → Int64}
end CS
