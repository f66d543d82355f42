/-! All that is refused leaves the class as it is: one step at a time. -/
section STP
variable {α β γ : Type} {R : Option γ}
theorem sq1 {f : Option α} {a : α} {g : α → Option γ} (h : f = some a) (hg : g a = R) : f.bind g = R := by rw [h]; exact hg
theorem ifp {c : Prop} [Decidable c] {x y : Option γ} (h : c) (hg : x = R) : (if c then x else y) = R := (if_pos h).trans hg
theorem ifn {c : Prop} [Decidable c] {x y : Option γ} (h : ¬ c) (hg : y = R) : (if c then x else y) = R := (if_neg h).trans hg
theorem hl1 {x : α} {k : α → Option γ} (hg : k x = R) : hlet x k = R := hg
theorem hl2 {x : α} {k : α → Option γ} (hg : k x = R) : hlet x k = R := hg
end STP
section RF2
variable {I : Nat → Nat → Int32} {O : Nat → Nat → Option Nat} {n m : Nat} {s : Nat → Int32} {a1 : Int32}
theorem ref_loop (h : RR I 1 s n) (hm : m < 1000000) (ha1 : a1 = nI m) : ∀ d b fuel, b + d = n → d < fuel → f_L_refuses_L576 a1 fuel (1 : Int32) (nI b) I O = some ((1 : Int32), I, O) := by
  have hn := rr_n h
  have g41 : (40 : Int32) < (41 : Int32) + a1 := by rw [ha1, show (41 : Int32) + nI m = nI (41 + m) from pi_add 41 m, show (40 : Int32) = nI 40 from rfl, pi_lt (by omega) (by omega)]; omega
  have g201 : (200 : Int32) < (201 : Int32) + a1 := by rw [ha1, show (201 : Int32) + nI m = nI (201 + m) from pi_add 201 m, show (200 : Int32) = nI 200 from rfl, pi_lt (by omega) (by omega)]; omega
  have l10 : (9 : Int32) - a1 < 10 := by rw [ha1, Int32.lt_iff_toInt_lt, show (9 : Int32) = nI 9 from rfl, sub_int (by omega) hm]; show (9 : Int) - m < 10; omega
  intro d
  induction d with
  | zero =>
    intro b fuel hb hf
    obtain ⟨f, rfl⟩ : ∃ f, fuel = f + 1 := ⟨fuel - 1, by omega⟩
    obtain rfl : b = n := by omega
    unfold f_L_refuses_L576
    refine sq1 (e_sparrows h) ?_
    exact ifp ((pi_le (by omega) (by omega)).mpr (Nat.le_refl _)) rfl
  | succ d ih =>
    intro b fuel hb hf
    obtain ⟨f, rfl⟩ : ∃ f, fuel = f + 1 := ⟨fuel - 1, by omega⟩
    have hbn : b < n := by omega
    unfold f_L_refuses_L576
    refine sq1 (e_sparrows h) ?_
    refine ifn (by rw [pi_le (by omega) (by omega)]; omega) ?_
    refine ifn (by decide) ?_
    refine sq1 (r_setPace2 h hbn (Or.inr g41)) ?_
    refine sq1 (a := ((1 : Int32), I, O)) ?_ ?_
    · refine ifp rfl ?_
      refine sq1 (r_setPace2 h hbn (Or.inl l10)) (ifp rfl ?_)
      refine sq1 (r_pair2 h hbn) (ifp rfl ?_)
      refine sq1 (r_wouldFly2 h hbn (Or.inr g201)) (ifp rfl ?_)
      refine sq1 (r_fwp2 h hbn (Or.inl l10)) (ifp rfl ?_)
      refine sq1 (e_stateOf h hbn) ?_
      by_cases c9 : I (cB 1 b) 9 = (3 : Int32)
      · refine ifp c9 ?_
        exact sq1 (r_callIn2 h hbn c9) (ifp rfl rfl)
      · exact ifn c9 rfl
    · refine hl1 ?_
      rw [show nI b + (1 : Int32) = nI (b + 1) from pi_add b 1]
      exact ih (b + 1) f (by omega) (by omega)
set_option maxHeartbeats 4000000 in
set_option maxRecDepth 20000 in
theorem ref_all (h : RR I 1 s n) (hm : m < 1000000) : ∃ O', FO 1 O O' ∧ f_L_refuses (nI m) I O = some ((1 : Int32), I, O') := by
  obtain ⟨a1, ha1⟩ : ∃ a1, a1 = nI m := ⟨_, rfl⟩
  have hn := rr_n h
  have l10 : (9 : Int32) - a1 < 10 := by rw [ha1, Int32.lt_iff_toInt_lt, show (9 : Int32) = nI 9 from rfl, sub_int (by omega) hm]; show (9 : Int) - m < 10; omega
  have l7 : (7 : Int32) - a1 < 8 := by rw [ha1, Int32.lt_iff_toInt_lt, show (7 : Int32) = nI 7 from rfl, sub_int (by omega) hm]; show (7 : Int) - m < 8; omega
  have l99 : (99 : Int32) - a1 < 100 := by rw [ha1, Int32.lt_iff_toInt_lt, show (99 : Int32) = nI 99 from rfl, sub_int (by omega) hm]; show (99 : Int) - m < 100; omega
  have l32 : (32 : Int32) - a1 < 33 := by rw [ha1, Int32.lt_iff_toInt_lt, show (32 : Int32) = nI 32 from rfl, sub_int (by omega) hm]; show (32 : Int) - m < 33; omega
  have lm1 : (-1 : Int32) - a1 < 0 := by rw [ha1, Int32.lt_iff_toInt_lt, m1_int hm]; show -1 - (m : Int) < 0; omega
  have ln : -a1 < (1 : Int32) := by rw [ha1, Int32.lt_iff_toInt_lt, neg_int hm]; show -(m : Int) < 1; omega
  have g1000 : (999 : Int32) < (1000 : Int32) + a1 := by rw [ha1, show (1000 : Int32) + nI m = nI (1000 + m) from pi_add 1000 m, show (999 : Int32) = nI 999 from rfl, pi_lt (by omega) (by omega)]; omega
  have g4 : (4 : Int32) ≤ (4 : Int32) + a1 := by rw [ha1, show (4 : Int32) + nI m = nI (4 + m) from pi_add 4 m, show (4 : Int32) = nI 4 from rfl, pi_le (by omega) (by omega)]; omega
  have g2 : (2 : Int32) ≤ (2 : Int32) + a1 := by rw [ha1, show (2 : Int32) + nI m = nI (2 + m) from pi_add 2 m, show (2 : Int32) = nI 2 from rfl, pi_le (by omega) (by omega)]; omega
  have g41 : (40 : Int32) < (41 : Int32) + a1 := by rw [ha1, show (41 : Int32) + nI m = nI (41 + m) from pi_add 41 m, show (40 : Int32) = nI 40 from rfl, pi_lt (by omega) (by omega)]; omega
  have g10 : (9 : Int32) < (10 : Int32) + a1 := by rw [ha1, show (10 : Int32) + nI m = nI (10 + m) from pi_add 10 m, show (9 : Int32) = nI 9 from rfl, pi_lt (by omega) (by omega)]; omega
  have g201 : (200 : Int32) < (201 : Int32) + a1 := by rw [ha1, show (201 : Int32) + nI m = nI (201 + m) from pi_add 201 m, show (200 : Int32) = nI 200 from rfl, pi_lt (by omega) (by omega)]; omega
  have g127 : (126 : Int32) < (127 : Int32) + a1 := by rw [ha1, show (127 : Int32) + nI m = nI (127 + m) from pi_add 127 m, show (126 : Int32) = nI 126 from rfl, pi_lt (by omega) (by omega)]; omega
  have gn : nI n ≤ nI n + a1 := by rw [ha1, pi_add, pi_le (by omega) (by omega)]; omega
  have gc : nI (cnt3 s n) ≤ nI (cnt3 s n) + a1 := by have := cnt3_le s n; rw [ha1, pi_add, pi_le (by omega) (by omega)]; omega
  rw [← ha1]
  obtain ⟨O', hFO, -, hbo⟩ := e_birdByOrder (O := O) h
  refine ⟨O', hFO, ?_⟩
  obtain ⟨p1, e1, hp1⟩ : ∃ p1, (if (a1 - a1 / (2 : Int32) * (2 : Int32)) = 0 then (f_X7_sparrows I).bind fun r284 => some (r284 + a1) else some ((-1 : Int32) - a1)) = some p1 ∧ (p1 < 0 ∨ nI n ≤ p1) := by
    by_cases c : (a1 - a1 / (2 : Int32) * (2 : Int32)) = 0
    · exact ⟨nI n + a1, ifp c (sq1 (e_sparrows h) rfl), Or.inr gn⟩
    · exact ⟨_, if_neg c, Or.inl lm1⟩
  obtain ⟨p2, e2, hp2⟩ : ∃ p2, (if (a1 - a1 / (2 : Int32) * (2 : Int32)) = 0 then some ((2 : Int32) + a1) else some ((-1 : Int32) - a1)) = some p2 ∧ (p2 < 0 ∨ (2 : Int32) ≤ p2) := by
    by_cases c : (a1 - a1 / (2 : Int32) * (2 : Int32)) = 0
    · exact ⟨_, if_pos c, Or.inr g2⟩
    · exact ⟨_, if_neg c, Or.inl lm1⟩
  unfold f_L_refuses
  refine sq1 e1 ?_
  refine sq1 e2 ?_
  refine sq1 (r_enter1 (Or.inr g41)) ?_
  refine sq1 (a := ((1 : Int32), I, O)) ?_ ?_
  · refine ifp rfl ?_
    refine sq1 (r_enter1 (Or.inl l10)) (ifp rfl ?_)
    refine sq1 (r_enter2 (Or.inr g1000)) (ifp rfl ?_)
    refine sq1 (r_enter2 (Or.inl l99)) (ifp rfl ?_)
    refine sq1 (r_enter3 hp2) (ifp rfl ?_)
    refine sq1 (r_setPace1 h hp1) (ifp rfl ?_)
    refine sq1 (r_callIn1 h hp1) (ifp rfl ?_)
    refine sq1 (r_pair1 h hp1) (ifp rfl ?_)
    refine sq1 (r_setLimit1 (Or.inr g4)) (ifp rfl ?_)
    refine sq1 (r_setLimit1 (Or.inl lm1)) (ifp rfl ?_)
    refine sq1 (r_setLimit2 rfl (Or.inr g41)) (ifp rfl ?_)
    refine sq1 (r_setLimit2 rfl (Or.inl l7)) (ifp rfl ?_)
    refine sq1 (r_setLaps1 (Or.inr g10)) (ifp rfl ?_)
    refine sq1 (r_setLaps1 (Or.inl ln)) (ifp rfl ?_)
    refine sq1 (r_pass1 (Or.inr g201)) (ifp rfl ?_)
    refine sq1 (r_pass1 (Or.inl ln)) (ifp rfl ?_)
    refine sq1 (r_append (Or.inl l32)) (ifp rfl ?_)
    refine sq1 (r_append (Or.inr g127)) (ifp rfl ?_)
    refine sq1 (r_keep hp2) (ifp rfl ?_)
    exact sq1 (r_goBack hp2) (ifp rfl rfl)
  refine sq1 (a := ((1 : Int32), I, O')) ?_ ?_
  · refine ifn (by decide) ?_
    refine sq1 (o_flown h hp1) (ifp rfl ?_)
    refine sq1 (o_lapsOf h hp1) (ifp rfl ?_)
    refine sq1 (o_speedOf h hp1) (ifp rfl ?_)
    refine sq1 (o_strengthOf h hp1) (ifp rfl ?_)
    refine sq1 (o_wearOf h hp1) (ifp rfl ?_)
    refine sq1 (o_laneOf h hp1) (ifp rfl ?_)
    refine sq1 (o_stateOf h hp1) (ifp rfl ?_)
    refine sq1 (o_paceOf h hp1) (ifp rfl ?_)
    refine sq1 (o_partnerOf h hp1) (ifp rfl ?_)
    refine sq1 (o_isCalledIn h hp1) (ifp rfl ?_)
    refine sq1 (e_limitOf_o (Or.inr g4)) (ifp rfl ?_)
    refine sq1 (e_limitOf_o (Or.inl lm1)) (ifp rfl ?_)
    refine sq1 (o_placeByCounting h hp1) (ifp rfl ?_)
    refine sq1 (hbo p1 hp1) (ifp rfl ?_)
    refine sq1 (o_gapAhead h hp1) (ifp rfl ?_)
    refine sq1 (o_isDrafting h hp1) (ifp rfl ?_)
    refine sq1 (o_whereIs h hp1) (ifp rfl ?_)
    refine sq1 (o_allowance h hp1) (ifp rfl ?_)
    refine sq1 (r_wouldFly1 h hp1) (ifp rfl ?_)
    refine sq1 (r_fwp1 h hp1) (ifp rfl ?_)
    refine sq1 (r_best1 h hp1) (ifp rfl ?_)
    refine sq1 (e_arrived h) ?_
    refine sq1 (e_arrivedAt_o h (Or.inr gc)) (ifp rfl ?_)
    refine sq1 (e_arrivedAt_o h (Or.inl lm1)) (ifp rfl ?_)
    exact sq1 (o_timeOf h hp1) (ifp rfl rfl)
  refine sq1 (ref_loop h hm ha1 n 0 16 (by omega) (by omega)) ?_
  refine ifn (by decide) ?_
  refine sq1 (e_isRacing h) ?_
  have j34 : ((f_X7_sparrows I).bind fun r35 => if r35 < (8 : Int32) then some ((1 : Int32), I, O') else (f_L_enter (20 : Int32) (500 : Int32) (0 : Int32) I O').bind fun (r39, I37, O38) => if r39 = (-4 : Int32) then some ((1 : Int32), I37, O38) else some ((0 : Int32), I37, O38)) = some ((1 : Int32), I, O') := by
    refine sq1 (e_sparrows h) ?_
    by_cases c : n < 8
    · exact ifp (by rw [show (8 : Int32) = nI 8 from rfl, pi_lt (by omega) (by omega)]; exact c) rfl
    · refine ifn (by rw [show (8 : Int32) = nI 8 from rfl, pi_lt (by omega) (by omega)]; omega) ?_
      exact sq1 (r_enter4 h (Or.inl (by omega))) (ifp rfl rfl)
  have h5 : I 1 5 = 0 ∨ I 1 5 = 1 := gz_of h.gz5
  have j29 : ((f_X7_sparrows I).bind fun r30 => hlet (fun (I32 : Nat → Nat → Int32) (O33 : Nat → Nat → Option Nat) => (f_X7_sparrows I32).bind fun r35 => if r35 < (8 : Int32) then some ((1 : Int32), I32, O33) else (f_L_enter (20 : Int32) (500 : Int32) (0 : Int32) I32 O33).bind fun (r39, I37, O38) => if r39 = (-4 : Int32) then some ((1 : Int32), I37, O38) else some ((0 : Int32), I37, O38)) fun j34 =>
      if 0 < r30 then j34 I O' else (f_L_begin I O').bind fun (r45, I43, O44) => if r45 = (-4 : Int32) then j34 I43 O44 else some ((0 : Int32), I43, O44)) = some ((1 : Int32), I, O') := by
    refine sq1 (e_sparrows h) ?_
    refine hl1 ?_
    by_cases c : 0 < n
    · exact ifp (by rw [show (0 : Int32) = nI 0 from rfl, pi_lt (by omega) (by omega)]; exact c) j34
    · refine ifn (by rw [show (0 : Int32) = nI 0 from rfl, pi_lt (by omega) (by omega)]; omega) ?_
      exact sq1 (r_begin h (by omega)) (ifp rfl j34)
  refine hl1 ?_
  rcases h5 with h5 | h5
  · refine ifp h5 ?_
    refine sq1 (e_isRacing h) ?_
    refine hl1 ?_
    refine ifp h5 ?_
    exact sq1 (r_pass2 (m := 5) (by omega) (by omega) h5) (ifp rfl j29)
  · have n5 : ¬ (I 1 5 = 0) := by rw [h5]; decide
    refine ifn n5 ?_
    refine sq1 (r_enter4 h (Or.inr h5)) (ifp rfl ?_)
    refine sq1 (r_setLaps2 h5) (ifp rfl ?_)
    refine sq1 (e_isRacing h) ?_
    refine hl1 ?_
    exact ifn n5 j29
end RF2
