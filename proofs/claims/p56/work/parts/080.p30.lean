theorem RR_glob {I : Nat → Nat → Int32} {β n f k : Nat} {s : Nat → Int32} {v : Int32} (hp : gPair f k) (h : RR I β s n) (hw : WF (wpd s k v) n) : RR (gup I β f v) β (wpd s k v) n := by
  obtain ⟨hR, hZ, h6, hwf⟩ := h
  have hf : f ≠ 6 ∧ k ≠ 134 := by rcases hp with ⟨rfl, rfl⟩ | ⟨rfl, rfl⟩ | ⟨rfl, rfl⟩ | ⟨rfl, rfl⟩ | ⟨rfl, rfl⟩ | ⟨rfl, rfl⟩ | ⟨rfl, rfl⟩ | ⟨rfl, rfl⟩ <;> omega
  exact ⟨R_glob hwf.1.1.2 hwf.1.a.2 hp hR, RZ_keep (Or.inr (fun b => fun c => cB_ne c.symm)) hZ, by rw [gup_i (by omega), wpd_ne (by omega)]; exact h6, hw⟩
theorem op_setLaps (a : Int32) : OPB (f_W_setLaps a) (f_X8_setLaps a) := by
  intro I O J K h
  have hh := h
  obtain ⟨n0, p, len, h1, _⟩ := hh
  have hrc := bd1_c h1.2.2.2.1.2.2.2.2.1.2
  have h5 : I 1 5 = K 130 150 := h1.1.1.2.2.1
  rcases in_chk (a := a) (lo := 1) (hi := 9) (by omega) (by omega) with ⟨m, m1, m2, rfl, e1, e2, e3⟩ | ⟨e1, e2⟩
  · have e1' : f_X8_in (nI m) (1 : Int32) (9 : Int32) = some 1 := e1
    have e2' : ¬ (nI m < (1 : Int32)) := e2
    have e3' : nI m ≤ (9 : Int32) := e3
    rcases hrc with hr | hr
    · obtain ⟨n, I1, O1, K1, a1, a2, a3, a4, a5, a6, a7, a8, a9⟩ := sv_step h
      have hr1 : K1 130 150 = 0 := by rw [a6]; exact hr
      have hw : WF (wpd (K1 130) 133 (nI m)) n := by
        obtain ⟨w1, w2, w3⟩ := a3.2.2.2
        refine ⟨WX_cfg (Or.inl ⟨rfl, ⟨m, rfl, m1, m2⟩⟩) w1, fun e => ?_, fun e => ?_⟩
        · rw [wpd_ne (by omega), hr1] at e; exact absurd e (by decide)
        · rw [wpd_ne (by omega), hr1] at e; exact absurd e (by decide)
      have hR2 : RR (gup I1 1 4 (nI m)) 1 (gup K1 130 133 (nI m) 130) n := by
        rw [wpd_gup]; exact RR_glob (by unfold gPair; omega) a3 hw
      have z13 : RZ (gup I1 1 4 (nI m)) 13 := by
        have : ZZ I1 := by obtain ⟨_, _, _, _, hz, _⟩ := a4; exact hz
        exact RZ_I (fun a h1 h2 => gup_ne (by omega)) (this 13 (Or.inr (Or.inl rfl)))
      refine ⟨gup I1 1 4 (nI m), O1, gup K1 130 133 (nI m), Inv2_now a4 (fun a h1 h2 => gup_ne (by omega)) z13 hR2 (fun a h1 h2 => gup_ne (by omega)) (gup_n (by omega)) (gup_n (by omega)) rfl, fun a ha => (gup_ne (by omega)).trans (a8 a ha), fun a ha => (gup_ne (by omega)).trans (a9 a ha), Or.inl ⟨K1 130 133, ?_, ?_, by rw [gup_n (by omega)]; exact a5⟩⟩
      · unfold f_W_setLaps f_X7_setLaps
        rw [if_neg e2', if_pos e3', h5, hr, if_pos rfl, a1]
        simp only [Option.bind_some, hlet_e, hsum]
        rw [t0', a3.1.1.2.1]
      · unfold f_X8_setLaps
        rw [e1', t150, hr]
        simp only [Option.bind_some, show ¬ ((1 : Int32) = 0) by decide, show ¬ ((0 : Int32) = 1) by decide, if_false, if_true, eq_self]
        rw [ref0]
        simp only [Option.bind_some, if_true]
        rw [a2]
        simp only [Option.bind_some]
        unfold f_X8_sets
        rw [show gin (133 : Int32) 151 = true by decide, hg_t, hg_t, hlet_e, t133]; rfl
    · refine op_no h (c := 2) (r := 0) (by decide) ?_ ?_
      · unfold f_W_setLaps f_X7_setLaps
        rw [if_neg e2', if_pos e3', h5, hr]; rfl
      · unfold f_X8_setLaps
        rw [e1', t150, hr]; rfl
  · have e1' : f_X8_in a (1 : Int32) (9 : Int32) = some 0 := e1
    refine op_no h (c := 1) (r := 0) (by decide) ?_ ?_
    · unfold f_W_setLaps f_X7_setLaps
      rcases e2 with e | ⟨e, e'⟩
      · rw [show (if a < (1 : Int32) then some ((Sum.inl 1 : Sum Nat Int32), I, O) else if a ≤ (9 : Int32) then if I 1 5 = 0 then (f_X4_save 1 I O).bind fun (I1, O2) => hlet (gup I1 1 4 a) fun I4 => some (Sum.inr (I1 1 4), I4, O2) else some (Sum.inl 2, I, O) else some (Sum.inl 1, I, O)) = some (Sum.inl 1, I, O) from if_pos e]; rfl
      · rw [show (if a < (1 : Int32) then some ((Sum.inl 1 : Sum Nat Int32), I, O) else if a ≤ (9 : Int32) then if I 1 5 = 0 then (f_X4_save 1 I O).bind fun (I1, O2) => hlet (gup I1 1 4 a) fun I4 => some (Sum.inr (I1 1 4), I4, O2) else some (Sum.inl 2, I, O) else some (Sum.inl 1, I, O)) = some (Sum.inl 1, I, O) from (if_neg e).trans (if_neg e')]; rfl
    · unfold f_X8_setLaps
      rw [e1']; rfl
section CS
variable {SL : Nat} {sx : Nat → Int32} {p4 : Int32} {I : Nat → Nat → Int32} {O : Nat → Nat → Option Nat} {J : Nat → Nat → Int64}
end CS
