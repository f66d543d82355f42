/-! Seconds to the next, the winner, and all that hangs together. -/
theorem sec_v {I K : Nat → Nat → Int32} {O : Nat → Nat → Option Nat} {n : Nat} (h : RR I 1 (K 130) n) (hZ : RZ I 13) : ∃ r I' O' v K', f_L_secondsToNext I O = some (r, I', O') ∧ FQ I I' O O' ∧ f_X8_nextIn K = some (v, K') ∧ ((r = (-4 : Int32) ∧ v = 0) ∨ (I 1 5 ≠ 0 ∧ ∃ t : Nat, 1 ≤ t ∧ t ≤ 2000 ∧ r = nI t ∧ v = nI t)) := by
  obtain ⟨I', O', K', z, e1, e2, e3, e4, e5, e6, hcc⟩ := nextIn_both (O := O) h hZ
  rcases hcc with ⟨w1, w2⟩ | ⟨t, B, t1, t2, w1, w2, w3, w4, w5⟩
  · refine ⟨-4, I', O', 0, K', ?_, ⟨e1, z, e2 26 (by omega)⟩, w2, Or.inl ⟨rfl, rfl⟩⟩
    unfold f_L_secondsToNext f_X7_secondsToNext
    rw [w1]; rfl
  · refine ⟨nI t, I', O', nI t, K', ?_, ⟨e1, z, e2 26 (by omega)⟩, w2, Or.inr ⟨?_, t, t1, t2, rfl, rfl⟩⟩
    · unfold f_L_secondsToNext f_X7_secondsToNext
      rw [w1]
      simp only [Option.bind_some]
      rw [if_neg (m1_n (by omega))]; rfl
    · intro h5
      have hn := rr_n h
      obtain ⟨X, x1, x2, x3, x4, x5, x6⟩ := x3_take (I := I) isB13 isB1 (by omega) h.2.1 h.gz5
      unfold f_X7_foretellSeconds at w1
      rw [x1] at w1
      obtain ⟨f, hf⟩ : ∃ f, FU = f + 1 := ⟨4095, rfl⟩
      rw [hf] at w1
      simp only [Option.bind_some] at w1
      unfold f_X7_foretellSeconds_L13 at w1
      rw [if_neg (by decide), x6 5 (by omega) (by omega), if_pos h5] at w1
      exact m1_n (v := t) (by omega) (congrArg (fun z => z.1) (Option.some.inj w1)).symm
theorem win_v {I K : Nat → Nat → Int32} {O : Nat → Nat → Option Nat} {n : Nat} (h : RR I 1 (K 130) n) (hZ : RZ I 13) : ∃ r I' O', f_L_wouldWin I O = some (r, I', O') ∧ FQ I I' O O' ∧ (r = (-4 : Int32) ∨ (cnt3 (K 130) n = 0 ∧ (∃ b, b < n ∧ r = nI b) ∧ ∃ t K', f_X8_nextIn K = some (nI t, K') ∧ 1 ≤ t ∧ t ≤ 2000)) := by
  have hw := rr_w h
  have hn := rr_n h
  have hc := cnt3_le (K 130) n
  have i7 : I 1 7 = nI (cnt3 (K 130) n) := h.1.1.2.2.2.1.trans hw.a.1
  have no : ∀ {I' O'}, f_X7_foretellWinner I O = some (-1, I', O') → f_L_wouldWin I O = some (-4, I', O') := fun e => by
    unfold f_L_wouldWin f_X7_wouldWin
    rw [e]; rfl
  by_cases c0 : 0 < cnt3 (K 130) n
  · refine ⟨-4, I, O, no ?_, ⟨fun _ _ => rfl, hZ, rfl⟩, Or.inl rfl⟩
    unfold f_X7_foretellWinner
    rw [i7, if_pos (by rw [show (0 : Int32) = nI 0 from rfl, pi_lt (by omega) (by omega)]; exact c0)]
  · have d0 : ¬ ((0 : Int32) < nI (cnt3 (K 130) n)) := by rw [show (0 : Int32) = nI 0 from rfl, pi_lt (by omega) (by omega)]; exact c0
    obtain ⟨I', O', K', z, e1, e2, e3, e4, e5, e6, hcc⟩ := nextIn_both (O := O) h hZ
    rcases hcc with ⟨w1, w2⟩ | ⟨t, B, t1, t2, w1, w2, w3, w4, w5⟩
    · refine ⟨-4, I', O', no ?_, ⟨e1, z, e2 26 (by omega)⟩, Or.inl rfl⟩
      unfold f_X7_foretellWinner
      rw [i7, if_neg d0, w1]; rfl
    · rcases x3_arrivedAs (a := (0 : Int32)) isB13 w3.2.2.2.1 w3.1 w3.2.1 with ⟨k, b, hk, ek, hb, eb, ea⟩ | ⟨hno, _⟩
      · refine ⟨nI b, I', O', ?_, ⟨e1, z, e2 26 (by omega)⟩, Or.inr ⟨by omega, ⟨b, hb, rfl⟩, t, K', w2, t1, t2⟩⟩
        have ew : f_X7_foretellWinner I O = some (nI b, I', O') := by
          unfold f_X7_foretellWinner
          rw [i7, if_neg d0, w1]
          simp only [Option.bind_some]
          rw [if_neg (m1_n (by omega)), ea]
          simp only [Option.bind_some, hopt_e2]
          rw [hk_e (sk_b isB13 (by omega)), (w3.2.1 b (by omega)).1]
        unfold f_L_wouldWin f_X7_wouldWin
        rw [ew]
        simp only [Option.bind_some]
        rw [if_neg (m1_n (by omega))]; rfl
      · exact absurd rfl (hno 0 (by omega))
theorem half_0 {s : Nat → Int32} {n : Nat} (hw : WX s n) : nI (sm (pA (pP s)) n) - nI (sm (pA (pP s)) n) / (2 : Int32) * (2 : Int32) = 0 := by
  have hn := hw.1.2
  have hbd : ∀ b, b < n → s (16 * b + 10) = nI (pP s b) ∧ pP s b ≤ n := fun b hb => by
    have := ((hw.2.1 b hb).2.2.2.2.2.2.2.2.2.1).e (by omega)
    exact ⟨this.1, this.2.2⟩
  have h2 := pairs_half (P := pP s) (n := n) (fun b hb => (hbd b hb).2) (fun b hb q hq hqn => by
    have e := (hbd b hb).1
    rw [hq] at e
    obtain ⟨z1, z2⟩ := hw.2.2.1 b hb q e hqn
    have hv := (hbd q hqn).2
    rw [(hbd q hqn).1, pi_eq (by omega) (by omega)] at z2
    exact ⟨z1, z2⟩)
  have hle : sm (pA (pP s)) n ≤ n := sm_le (fun k hk => by unfold pA; split <;> omega)
  rw [show nI (sm (pA (pP s)) n) - nI (sm (pA (pP s)) n) / (2 : Int32) * (2 : Int32) = nI (sm (pA (pP s)) n % 2) from mod_e (m := 2) (by omega) (by omega), h2, Nat.mul_mod_right]; rfl
set_option maxHeartbeats 4000000 in
set_option maxRecDepth 20000 in
theorem hang_all {I K : Nat → Nat → Int32} {O : Nat → Nat → Option Nat} {B : Nat} (h : Inv2 I K O) (hc : zHA I B) (hB : B + 2000 < 1000000000) : ∃ I' O', f_L_hangs I O = some ((1 : Int32), I', O') ∧ Inv2 I' K O' ∧ zHA I' B := by
  have hh := h
  obtain ⟨n, p, len, hR, hZZ, ⟨h25, _, hp6, _⟩, _⟩ := hh
  have hZ := hZZ 13 isB13
  have hn := rr_n hR
  have hw := rr_w hR
  have h3 := cnt3_le (K 130) n
  have hc1 := hc 1 isB1 (by omega)
  obtain ⟨hG, hH⟩ := hc_n hR hc1
  obtain ⟨I1, O1, k1, f1⟩ := hang_loop hB n 0 16 I O (by omega) (by omega) hR hZ hc1
  have k1' : f_L_hangs_L141 (nI n) 16 (0 : Int32) (0 : Int32) (0 : Int32) 1 (0 : Int32) I O = some (smF (K 130) n, nI (cnt3 (K 130) n), nI (sm (pA (pP (K 130))) n), 1, I1, O1) := k1
  have hR1 := f1.rr hR
  have k2 : f_L_hangs_L695 I1 16 (0 : Int32) 1 (0 : Int32) = some (1 : Int32) := arr_hang hR1 (f1.hc hc1) hB (cnt3 (K 130) n) 0 16 0 (by omega) (by omega) (by omega) (fun _ _ _ _ => Nat.zero_le _)
  obtain ⟨r23, I2, O2, v, K2, k3, f2, k4, k5⟩ := sec_v (O := O1) hR1 f1.2.1
  have hR2 := f2.rr hR1
  obtain ⟨r27, I3, O3, k6, f3, k7⟩ := win_v (O := O2) hR2 f2.2.1
  have hR3 := f3.rr hR2
  have fA : FQ I I3 O O3 := (f1.tr f2).tr f3
  refine ⟨I3, O3, ?_, fA.inv h, fA.ha hc⟩
  have h5 := hG.1
  unfold f_L_hangs
  refine sq1 (e_sparrows hR) ?_
  refine sq1 (a := (1 : Int32)) ?_ ?_
  · obtain ⟨h50, ⟨u6, e6, _, l6⟩, _, ⟨u9, e9, _, l9⟩, ⟨u10, e10, _, l10⟩, ⟨u11, e11, _, l11⟩, ⟨u12, e12, _, l12⟩, ⟨u13, e13, _, l13⟩, w1, w2⟩ := hG
    rw [e12, e13, tn_nI (by omega), tn_nI (by omega)] at w1
    rw [e12, tn_nI (by omega)] at w2
    have lw : u13 ≤ u12 := by omega
    refine ifn (nlt0 (by omega)) (ifn (nltk (k := 8) (by omega) (by omega)) ?_)
    refine sq1 (a := nI u6) (by unfold f_X7_seconds; rw [e6]) (ifn (nlt0 (by omega)) ?_)
    refine sq1 (e_arrived hR) (ifn (nlt0 (by omega)) ?_)
    refine sq1 (e_arrived hR) (ifn (nltk h3 (by omega)) ?_)
    refine sq1 (a := nI u9) (by unfold f_X7_drafts; rw [e9]) (ifn (nlt0 (by omega)) ?_)
    refine sq1 (a := nI u10) (by unfold f_X7_changes; rw [e10]) (ifn (nlt0 (by omega)) ?_)
    refine sq1 (a := nI u11) (by unfold f_X7_rests; rw [e11]) (ifn (nlt0 (by omega)) ?_)
    refine sq1 (a := nI u12) (by unfold f_X7_races; rw [e12]) (ifn (nlt0 (by omega)) ?_)
    refine sq1 (a := nI u13) (by unfold f_X7_winsInPairs; rw [e13]) (ifn (nlt0 (by omega)) ?_)
    refine sq1 (a := nI u13) (by unfold f_X7_winsInPairs; rw [e13]) ?_
    refine sq1 (a := nI u12) (by unfold f_X7_races; rw [e12]) (ifn (nltk lw (by omega)) ?_)
    refine sq1 (a := nI p) (by unfold f_X7_savedStates; rw [h25]) (ifn (nlt0 (by omega)) ?_)
    refine sq1 (a := nI p) (by unfold f_X7_savedStates; rw [h25]) (ifn (nlek (k := 7) (by omega) (by omega)) ?_)
    refine sq1 (e_isRacing hR) ?_
    rcases h50 with z | z
    · exact ifp z rfl
    · refine ifn (by rw [z]; decide) ?_
      have hlt := hR.2.2.2.2.2 (hR.1.1.2.2.1.symm.trans z)
      refine sq1 (e_arrived hR) (ifn (by rw [pi_le (by omega) (by omega)]; omega) ?_)
      have := w2 z
      exact sq1 (a := nI u12) (by unfold f_X7_races; rw [e12]) (ifn (by rw [show (0 : Int32) = nI 0 from rfl, pi_le (by omega) (by omega)]; omega) rfl)
  refine sq1 k1' ?_
  refine sq1 k2 ?_
  refine sq1 k3 ?_
  refine sq1 k6 ?_
  refine ifn (by decide) ?_
  refine sq1 (e_arrived hR3) (ifp rfl ?_)
  refine ifp (half_0 hw) ?_
  have eB : f_X7_flownByBirds I3 = some (smF (K 130) n) := by
    unfold f_X7_flownByBirds
    rw [x3_sumFlown isB1 hn (rr_3 hR3) hR3.1 hR3.2.1]; rfl
  refine sq1 eB (ifp rfl ?_)
  have eA : f_X7_flownByAccount I3 = some (smF (K 130) n) := by
    unfold f_X7_flownByAccount
    rw [(hc_n hR3 (fA.hc hc1)).2.1, sC_smF (fun b hb => (rr_b hR3 hb).2.2.2.1) n (Nat.le_refl n)]
  refine sq1 eA (ifp rfl ?_)
  obtain ⟨m, mv, m1, _, _, _, m2⟩ := mean_both hR3
  refine sq1 m1 ?_
  refine sq1 (a := m) ?_ ?_
  · unfold f_X7_meanFlown at m1
    rw [rr_3 hR3] at m1
    rcases Nat.eq_zero_or_pos n with z | z
    · subst z
      rw [if_pos (by decide)] at m1
      exact ifp rfl m1
    · rw [if_neg (by rw [show (0 : Int32) = nI 0 from rfl, pi_le (by omega) (by omega)]; omega), x3_sumFlown isB1 hn (rr_3 hR3) hR3.1 hR3.2.1] at m1
      exact ifn (by rw [show (0 : Int32) = nI 0 from rfl, pi_eq (by omega) (by omega)]; omega) m1
  refine ifp m2 ?_
  have i5 : I3 1 5 = I1 1 5 := by rw [f3.1 1 (by omega), f2.1 1 (by omega)]
  have j44 : ((f_L_flown (nI n) I3).bind fun r45 => if r45 = (-2 : Int32) then (f_X7_arrived I3).bind fun r47 => (f_L_arrivedAt r47 I3).bind fun r49 => if r49 = (-2 : Int32) then some ((1 : Int32), I3, O3) else some ((0 : Int32), I3, O3) else some ((0 : Int32), I3, O3)) = some ((1 : Int32), I3, O3) := by
    refine sq1 (o_flown hR3 (Or.inr ((pi_le (by omega) (by omega)).mpr (Nat.le_refl _)))) (ifp rfl ?_)
    refine sq1 (e_arrived hR3) ?_
    exact sq1 (e_arrivedAt_o hR3 (Or.inr ((pi_le (by omega) (by omega)).mpr (Nat.le_refl _)))) (ifp rfl rfl)
  refine hlj ?_ ?_
  · refine hlj ?_ ?_
    · refine sq1 (e_isRacing hR3) ?_
      refine hl1 ?_
      by_cases z : I3 1 5 = 0
      · refine ifp z ?_
        have e4 : r23 = (-4 : Int32) := by
          rcases k5 with ⟨e, _⟩ | ⟨e, _⟩
          · exact e
          · exact absurd (i5.symm.trans z) e
        refine ifp e4 ?_
        refine sq1 (r_pass2 (m := 1) (by omega) (by omega) z) (ifp rfl ?_)
        exact j44
      · exact ifn z j44
    · intro y hy
      by_cases c : r27 = (-4 : Int32)
      · exact ifp c hy
      · refine ifn c ?_
        rcases k7 with e | ⟨c3, ⟨b, hb, eb⟩, t, K', w1, w2, w3⟩
        · exact absurd e c
        · rw [k4] at w1
          have ev : v = nI t := congrArg (fun z => z.1) (Option.some.inj w1)
          rcases k5 with ⟨_, e0⟩ | ⟨_, t', t1, t2, e23, _⟩
          · rw [e0] at ev
            rw [show (0 : Int32) = nI 0 from rfl, pi_eq (by omega) (by omega)] at ev; omega
          · rw [e23, eb]
            refine ifn (by rw [show (0 : Int32) = nI 0 from rfl, pi_le (by omega) (by omega)]; omega) (ifn (nlt0 (by omega)) (ifn (by rw [pi_le (by omega) (by omega)]; omega) ?_))
            exact sq1 (e_arrived hR3) (ifp (by rw [c3]; rfl) hy)
  · intro y hy
    by_cases c : r23 = (-4 : Int32)
    · exact ifp c hy
    · refine ifn c ?_
      rcases k5 with ⟨e, _⟩ | ⟨e5, t', t1, t2, e23, _⟩
      · exact absurd e c
      · refine sq1 (e_isRacing hR3) (ifn (by rw [i5]; exact e5) ?_)
        rw [e23]
        exact ifn (by rw [show (0 : Int32) = nI 0 from rfl, pi_le (by omega) (by omega)]; omega) (ifn (nltk (k := 2000) t2 (by omega)) hy)
