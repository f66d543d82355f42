section CS
variable {SL : Nat} {sx : Nat → Int32} {p4 : Int32} {I : Nat → Nat → Int32} {O : Nat → Nat → Option Nat} {J : Nat → Nat → Int64}
def CaseOk (r : Option ((Nat → Nat → Int32) × (Nat → Nat → Option Nat) × (Nat → Nat → Int64))) : Prop := ∃ I' O' J', r = some (I', O', J') ∧ Inv2 I' I' O'
theorem inv_O {O' : Nat → Nat → Option Nat} (e : O' 26 = O 26) (h : Inv2 I I O) : Inv2 I I O' := by
  obtain ⟨n, p, len, h1, h2, ⟨h3, h4, h5, σ, s1, s2, s3⟩, h6, h7⟩ := h
  exact ⟨n, p, len, h1, h2, ⟨h3, h4, h5, σ, fun i hi => by rw [e]; exact s1 i hi, s2, s3⟩, h6, h7⟩
theorem cs_17 (h : Inv2 I I O) (g1 : gin (p4 + (1 : Int32)) SL = true) : CaseOk (f_L_case17 SL sx p4 I O J) := by
  have hh := h
  obtain ⟨n, p, len, h1, _⟩ := hh
  obtain ⟨c, J', e⟩ := case_q (O := O) (q_flown (J := J) (n := n) h1 (sx (p4 + (1 : Int32)).toNatClampNeg))
  refine ⟨gup I 129 8 c, O, J', ?_, Inv2_th h⟩
  unfold f_L_case17
  simp only [g1, hg_t]
  exact e
theorem cs_18 (h : Inv2 I I O) (g1 : gin (p4 + (1 : Int32)) SL = true) : CaseOk (f_L_case18 SL sx p4 I O J) := by
  have hh := h
  obtain ⟨n, p, len, h1, _⟩ := hh
  obtain ⟨c, J', e⟩ := case_q (O := O) (q_lapsOf (J := J) (n := n) h1 (sx (p4 + (1 : Int32)).toNatClampNeg))
  refine ⟨gup I 129 8 c, O, J', ?_, Inv2_th h⟩
  unfold f_L_case18
  simp only [g1, hg_t]
  exact e
theorem cs_19 (h : Inv2 I I O) (g1 : gin (p4 + (1 : Int32)) SL = true) : CaseOk (f_L_case19 SL sx p4 I O J) := by
  have hh := h
  obtain ⟨n, p, len, h1, _⟩ := hh
  obtain ⟨c, J', e⟩ := case_q (O := O) (q_speedOf (J := J) (n := n) h1 (sx (p4 + (1 : Int32)).toNatClampNeg))
  refine ⟨gup I 129 8 c, O, J', ?_, Inv2_th h⟩
  unfold f_L_case19
  simp only [g1, hg_t]
  exact e
theorem cs_20 (h : Inv2 I I O) (g1 : gin (p4 + (1 : Int32)) SL = true) : CaseOk (f_L_case20 SL sx p4 I O J) := by
  have hh := h
  obtain ⟨n, p, len, h1, _⟩ := hh
  obtain ⟨c, J', e⟩ := case_q (O := O) (q_strengthOf (J := J) (n := n) h1 (sx (p4 + (1 : Int32)).toNatClampNeg))
  refine ⟨gup I 129 8 c, O, J', ?_, Inv2_th h⟩
  unfold f_L_case20
  simp only [g1, hg_t]
  exact e
theorem cs_21 (h : Inv2 I I O) (g1 : gin (p4 + (1 : Int32)) SL = true) : CaseOk (f_L_case21 SL sx p4 I O J) := by
  have hh := h
  obtain ⟨n, p, len, h1, _⟩ := hh
  obtain ⟨c, J', e⟩ := case_q (O := O) (q_wearOf (J := J) (n := n) h1 (sx (p4 + (1 : Int32)).toNatClampNeg))
  refine ⟨gup I 129 8 c, O, J', ?_, Inv2_th h⟩
  unfold f_L_case21
  simp only [g1, hg_t]
  exact e
theorem cs_22 (h : Inv2 I I O) (g1 : gin (p4 + (1 : Int32)) SL = true) : CaseOk (f_L_case22 SL sx p4 I O J) := by
  have hh := h
  obtain ⟨n, p, len, h1, _⟩ := hh
  obtain ⟨c, J', e⟩ := case_q (O := O) (q_laneOf (J := J) (n := n) h1 (sx (p4 + (1 : Int32)).toNatClampNeg))
  refine ⟨gup I 129 8 c, O, J', ?_, Inv2_th h⟩
  unfold f_L_case22
  simp only [g1, hg_t]
  exact e
theorem cs_23 (h : Inv2 I I O) (g1 : gin (p4 + (1 : Int32)) SL = true) : CaseOk (f_L_case23 SL sx p4 I O J) := by
  have hh := h
  obtain ⟨n, p, len, h1, _⟩ := hh
  obtain ⟨c, J', e⟩ := case_q (O := O) (q_stateOf (J := J) (n := n) h1 (sx (p4 + (1 : Int32)).toNatClampNeg))
  refine ⟨gup I 129 8 c, O, J', ?_, Inv2_th h⟩
  unfold f_L_case23
  simp only [g1, hg_t]
  exact e
theorem cs_24 (h : Inv2 I I O) (g1 : gin (p4 + (1 : Int32)) SL = true) : CaseOk (f_L_case24 SL sx p4 I O J) := by
  have hh := h
  obtain ⟨n, p, len, h1, _⟩ := hh
  obtain ⟨c, J', e⟩ := case_q (O := O) (q_paceOf (J := J) (n := n) h1 (sx (p4 + (1 : Int32)).toNatClampNeg))
  refine ⟨gup I 129 8 c, O, J', ?_, Inv2_th h⟩
  unfold f_L_case24
  simp only [g1, hg_t]
  exact e
theorem cs_25 (h : Inv2 I I O) (g1 : gin (p4 + (1 : Int32)) SL = true) : CaseOk (f_L_case25 SL sx p4 I O J) := by
  have hh := h
  obtain ⟨n, p, len, h1, _⟩ := hh
  obtain ⟨c, J', e⟩ := case_q (O := O) (q_partnerOf (J := J) (n := n) h1 (sx (p4 + (1 : Int32)).toNatClampNeg))
  refine ⟨gup I 129 8 c, O, J', ?_, Inv2_th h⟩
  unfold f_L_case25
  simp only [g1, hg_t]
  exact e
theorem cs_27 (h : Inv2 I I O) (g1 : gin (p4 + (1 : Int32)) SL = true) : CaseOk (f_L_case27 SL sx p4 I O J) := by
  have hh := h
  obtain ⟨n, p, len, h1, _⟩ := hh
  obtain ⟨c, J', e⟩ := case_q (O := O) (q_limitOf (J := J) (n := n) h1 (sx (p4 + (1 : Int32)).toNatClampNeg))
  refine ⟨gup I 129 8 c, O, J', ?_, Inv2_th h⟩
  unfold f_L_case27
  simp only [g1, hg_t]
  exact e
theorem cs_28 (h : Inv2 I I O) (g1 : gin (p4 + (1 : Int32)) SL = true) : CaseOk (f_L_case28 SL sx p4 I O J) := by
  have hh := h
  obtain ⟨n, p, len, h1, _⟩ := hh
  obtain ⟨c, J', e⟩ := case_q (O := O) (q_placeByCounting (J := J) (n := n) h1 (sx (p4 + (1 : Int32)).toNatClampNeg))
  refine ⟨gup I 129 8 c, O, J', ?_, Inv2_th h⟩
  unfold f_L_case28
  simp only [g1, hg_t]
  exact e
theorem cs_30 (h : Inv2 I I O) (g1 : gin (p4 + (1 : Int32)) SL = true) : CaseOk (f_L_case30 SL sx p4 I O J) := by
  have hh := h
  obtain ⟨n, p, len, h1, _⟩ := hh
  obtain ⟨c, J', e⟩ := case_q (O := O) (q_gapAhead (J := J) (n := n) h1 (sx (p4 + (1 : Int32)).toNatClampNeg))
  refine ⟨gup I 129 8 c, O, J', ?_, Inv2_th h⟩
  unfold f_L_case30
  simp only [g1, hg_t]
  exact e
theorem cs_32 (h : Inv2 I I O) (g1 : gin (p4 + (1 : Int32)) SL = true) : CaseOk (f_L_case32 SL sx p4 I O J) := by
  have hh := h
  obtain ⟨n, p, len, h1, _⟩ := hh
  obtain ⟨c, J', e⟩ := case_q (O := O) (q_whereIs (J := J) (n := n) h1 (sx (p4 + (1 : Int32)).toNatClampNeg))
  refine ⟨gup I 129 8 c, O, J', ?_, Inv2_th h⟩
  unfold f_L_case32
  simp only [g1, hg_t]
  exact e
theorem cs_33 (h : Inv2 I I O) (g1 : gin (p4 + (1 : Int32)) SL = true) : CaseOk (f_L_case33 SL sx p4 I O J) := by
  have hh := h
  obtain ⟨n, p, len, h1, _⟩ := hh
  obtain ⟨c, J', e⟩ := case_q (O := O) (q_allowance (J := J) (n := n) h1 (sx (p4 + (1 : Int32)).toNatClampNeg))
  refine ⟨gup I 129 8 c, O, J', ?_, Inv2_th h⟩
  unfold f_L_case33
  simp only [g1, hg_t]
  exact e
theorem cs_42 (h : Inv2 I I O) (g1 : gin (p4 + (1 : Int32)) SL = true) : CaseOk (f_L_case42 SL sx p4 I O J) := by
  have hh := h
  obtain ⟨n, p, len, h1, _⟩ := hh
  obtain ⟨c, J', e⟩ := case_q (O := O) (q_arrivedAt (J := J) (n := n) h1 (sx (p4 + (1 : Int32)).toNatClampNeg))
  refine ⟨gup I 129 8 c, O, J', ?_, Inv2_th h⟩
  unfold f_L_case42
  simp only [g1, hg_t]
  exact e
theorem cs_43 (h : Inv2 I I O) (g1 : gin (p4 + (1 : Int32)) SL = true) : CaseOk (f_L_case43 SL sx p4 I O J) := by
  have hh := h
  obtain ⟨n, p, len, h1, _⟩ := hh
  obtain ⟨c, J', e⟩ := case_q (O := O) (q_timeOf (J := J) (n := n) h1 (sx (p4 + (1 : Int32)).toNatClampNeg))
  refine ⟨gup I 129 8 c, O, J', ?_, Inv2_th h⟩
  unfold f_L_case43
  simp only [g1, hg_t]
  exact e
theorem cs_15 (h : Inv2 I I O) : CaseOk (f_L_case15 SL sx p4 I O J) := by
  have hh := h
  obtain ⟨n, p, len, h1, h2, hs, _⟩ := hh
  refine ⟨gup I 129 8 0, O, J, ?_, Inv2_th h⟩
  unfold f_L_case15 f_X7_savedStates f_X8_savedStates f_X8_told
  simp only [Option.bind_some, hlet_e]
  exact if_pos (hs.1.trans hs.2.1.symm)
theorem cs_16 (h : Inv2 I I O) : CaseOk (f_L_case16 SL sx p4 I O J) := by
  have hh := h
  obtain ⟨n, p, len, h1, h2, hs, _⟩ := hh
  refine ⟨gup I 129 8 0, O, J, ?_, Inv2_th h⟩
  unfold f_L_case16 f_X7_sparrows f_X8_sparrows f_X8_told
  simp only [Option.bind_some, hlet_e]
  exact if_pos (h1.1.1.1)
theorem cs_40 (h : Inv2 I I O) : CaseOk (f_L_case40 SL sx p4 I O J) := by
  have hh := h
  obtain ⟨n, p, len, h1, h2, hs, _⟩ := hh
  refine ⟨gup I 129 8 0, O, J, ?_, Inv2_th h⟩
  unfold f_L_case40 f_X7_seconds f_X8_seconds f_X8_told
  simp only [Option.bind_some, hlet_e]
  exact if_pos (h1.2.2.1)
theorem cs_41 (h : Inv2 I I O) : CaseOk (f_L_case41 SL sx p4 I O J) := by
  have hh := h
  obtain ⟨n, p, len, h1, h2, hs, _⟩ := hh
  refine ⟨gup I 129 8 0, O, J, ?_, Inv2_th h⟩
  unfold f_L_case41 f_X7_arrived f_X8_arrived f_X8_told
  simp only [Option.bind_some, hlet_e]
  exact if_pos (h1.1.1.2.2.2.1)
theorem cs_45 (h : Inv2 I I O) : CaseOk (f_L_case45 SL sx p4 I O J) := by
  have hh := h
  obtain ⟨n, p, len, h1, h2, hs, _⟩ := hh
  refine ⟨gup I 129 8 0, O, J, ?_, Inv2_th h⟩
  unfold f_L_case45 f_X7_flownByAccount f_X8_flownByAccount f_X8_told
  simp only [Option.bind_some, hlet_e]
  exact if_pos (h1.1.1.2.2.2.2.1)
theorem cs_46 (h : Inv2 I I O) : CaseOk (f_L_case46 SL sx p4 I O J) := by
  have hh := h
  obtain ⟨n, p, len, h1, h2, hs, _⟩ := hh
  refine ⟨gup I 129 8 0, O, J, ?_, Inv2_th h⟩
  unfold f_L_case46 f_X7_drafts f_X8_drafts f_X8_told
  simp only [Option.bind_some, hlet_e]
  exact if_pos (h1.1.1.2.2.2.2.2.1)
theorem cs_47 (h : Inv2 I I O) : CaseOk (f_L_case47 SL sx p4 I O J) := by
  have hh := h
  obtain ⟨n, p, len, h1, h2, hs, _⟩ := hh
  refine ⟨gup I 129 8 0, O, J, ?_, Inv2_th h⟩
  unfold f_L_case47 f_X7_changes f_X8_changes f_X8_told
  simp only [Option.bind_some, hlet_e]
  exact if_pos (h1.1.1.2.2.2.2.2.2.1)
theorem cs_48 (h : Inv2 I I O) : CaseOk (f_L_case48 SL sx p4 I O J) := by
  have hh := h
  obtain ⟨n, p, len, h1, h2, hs, _⟩ := hh
  refine ⟨gup I 129 8 0, O, J, ?_, Inv2_th h⟩
  unfold f_L_case48 f_X7_rests f_X8_rests f_X8_told
  simp only [Option.bind_some, hlet_e]
  exact if_pos (h1.1.1.2.2.2.2.2.2.2.1)
theorem cs_49 (h : Inv2 I I O) : CaseOk (f_L_case49 SL sx p4 I O J) := by
  have hh := h
  obtain ⟨n, p, len, h1, h2, hs, _⟩ := hh
  refine ⟨gup I 129 8 0, O, J, ?_, Inv2_th h⟩
  unfold f_L_case49 f_X7_races f_X8_races f_X8_told
  simp only [Option.bind_some, hlet_e]
  exact if_pos (h1.1.1.2.2.2.2.2.2.2.2.1)
theorem cs_50 (h : Inv2 I I O) : CaseOk (f_L_case50 SL sx p4 I O J) := by
  have hh := h
  obtain ⟨n, p, len, h1, h2, hs, _⟩ := hh
  refine ⟨gup I 129 8 0, O, J, ?_, Inv2_th h⟩
  unfold f_L_case50 f_X7_winsInPairs f_X8_winsInPairs f_X8_told
  simp only [Option.bind_some, hlet_e]
  exact if_pos (h1.1.1.2.2.2.2.2.2.2.2.2)
theorem cs_29 (h : Inv2 I I O) (g1 : gin (p4 + (1 : Int32)) SL = true) : CaseOk (f_L_case29 SL sx p4 I O J) := by
  have hh := h
  obtain ⟨n, p, len, h1, _⟩ := hh
  obtain ⟨O', o1, hq⟩ := q_birdByOrder (J := J) (O := O) (n := n) h1 (sx (p4 + (1 : Int32)).toNatClampNeg)
  have hO : Inv2 I I O' := inv_O (o1 26 (by omega)) h
  unfold f_L_case29
  simp only [g1, hg_t]
  rcases hq with ⟨v, e1, e2⟩ | ⟨c, r, hc, e1, e2⟩
  · refine ⟨gup I 129 8 0, O', gup J 137 0 v.toInt64, ?_, Inv2_th hO⟩
    rw [e1, e2]
    simp only [Option.bind_some, f_X8_thrown, gup_at, if_true]
    have e : lg_cmp (gup J 137 0 v.toInt64 137 (0 : Int32).toNatClampNeg) v.toInt64 = 0 := by
      rw [show (0 : Int32).toNatClampNeg = 0 by decide, gup_at, lg0]
    rw [if_pos e]; rfl
  · refine ⟨gup I 129 8 c, O', J, ?_, Inv2_th hO⟩
    rw [e1, e2]
    simp only [Option.bind_some, f_X8_thrown, gup_at, if_true, if_neg hc]
theorem cs_26 (h : Inv2 I I O) (g1 : gin (p4 + (1 : Int32)) SL = true) : CaseOk (f_L_case26 SL sx p4 I O J) := by
  have hh := h
  obtain ⟨n, p, len, h1, _⟩ := hh
  have hq := q_isCalledIn (J := J) (n := n) h1 (sx (p4 + (1 : Int32)).toNatClampNeg)
  unfold f_L_case26
  simp only [g1, hg_t]
  rcases hq with ⟨v, e1, r, e2, e3⟩ | ⟨c, r, hc, e1, e2⟩
  · refine ⟨gup I 129 8 0, O, gup J 137 0 v, ?_, Inv2_th h⟩
    rw [e1, e2]
    simp only [Option.bind_some, f_X8_thrown, gup_at, if_true]
    have e : lg_cmp (gup J 137 0 v 137 (0 : Int32).toNatClampNeg) v = 0 := by
      rw [show (0 : Int32).toNatClampNeg = 0 by decide, gup_at, lg0]
    have e4 : (if r = 0 then some (0 : Int64) else some (1 : Int64)) = some v := by rw [← e3]; split <;> rfl
    rw [e4]
    simp only [Option.bind_some]
    rw [if_pos e]; rfl
  · refine ⟨gup I 129 8 c, O, J, ?_, Inv2_th h⟩
    rw [e1, e2]
    simp only [Option.bind_some, f_X8_thrown, gup_at, if_true, if_neg hc]
theorem cs_31 (h : Inv2 I I O) (g1 : gin (p4 + (1 : Int32)) SL = true) : CaseOk (f_L_case31 SL sx p4 I O J) := by
  have hh := h
  obtain ⟨n, p, len, h1, _⟩ := hh
  have hq := q_isDrafting (J := J) (n := n) h1 (sx (p4 + (1 : Int32)).toNatClampNeg)
  unfold f_L_case31
  simp only [g1, hg_t]
  rcases hq with ⟨v, e1, r, e2, e3⟩ | ⟨c, r, hc, e1, e2⟩
  · refine ⟨gup I 129 8 0, O, gup J 137 0 v, ?_, Inv2_th h⟩
    rw [e1, e2]
    simp only [Option.bind_some, f_X8_thrown, gup_at, if_true]
    have e : lg_cmp (gup J 137 0 v 137 (0 : Int32).toNatClampNeg) v = 0 := by
      rw [show (0 : Int32).toNatClampNeg = 0 by decide, gup_at, lg0]
    have e4 : (if r = 0 then some (0 : Int64) else some (1 : Int64)) = some v := by rw [← e3]; split <;> rfl
    rw [e4]
    simp only [Option.bind_some]
    rw [if_pos e]; rfl
  · refine ⟨gup I 129 8 c, O, J, ?_, Inv2_th h⟩
    rw [e1, e2]
    simp only [Option.bind_some, f_X8_thrown, gup_at, if_true, if_neg hc]
theorem cs_44 (h : Inv2 I I O) : CaseOk (f_L_case44 SL sx p4 I O J) := by
  have hh := h
  obtain ⟨n, p, len, h1, h2, hs, _⟩ := hh
  have hw := h1.2.2.2.1
  refine ⟨gup I 129 8 0, O, J, ?_, Inv2_th h⟩
  unfold f_L_case44 f_X7_flownByBirds f_X8_flownByBirds f_X8_told
  rw [x3_sumFlown (Or.inl rfl) hw.1.2 (h1.1.1.1.trans hw.1.1) h1.1 h1.2.1, x8_all hw.1.1 hw.1.2]
  simp only [Option.bind_some, hlet_e, if_true]
theorem cs_39 (h : Inv2 I I O) : CaseOk (f_L_case39 SL sx p4 I O J) := by
  have hh := h
  obtain ⟨n, p, len, h1, h2, hs, _⟩ := hh
  have hc := bd1_c h1.2.2.2.1.2.2.2.2.1.2
  refine ⟨gup I 129 8 0, O, J, ?_, Inv2_th h⟩
  unfold f_L_case39 f_X7_isRacing f_X8_isRacing f_X8_told
  rw [h1.gz5, hg_t, h1.1.1.2.2.1, t150]
  simp only [Option.bind_some, hlet_e]
  rcases hc with hc | hc
  · rw [hc]; rfl
  · rw [hc]; rfl
end CS
