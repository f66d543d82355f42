set_option maxRecDepth 20000 in
theorem ref_B1 {I : Nat → Nat → Int32} {O : Nat → Nat → Option Nat} {n m : Nat} {s : Nat → Int32} {p1 p2 a1 : Int32} (h : RR I 1 s n) (hm : m < 1000000) (ha1 : a1 = nI m) (hp1 : p1 < 0 ∨ nI n ≤ p1) (hp2 : p2 < 0 ∨ (2 : Int32) ≤ p2) :
  (
    if (-3 : Int32) = (-3 : Int32) then
      (f_L_enter ((9 : Int32) - a1) (500 : Int32) (0 : Int32) I O).bind fun (r192, I190, O191) =>
      if r192 = (-3 : Int32) then
        (f_L_enter (20 : Int32) ((1000 : Int32) + a1) (1 : Int32) I190 O191).bind fun (r196, I194, O195) =>
        if r196 = (-3 : Int32) then
          (f_L_enter (20 : Int32) ((99 : Int32) - a1) (1 : Int32) I194 O195).bind fun (r200, I198, O199) =>
          if r200 = (-3 : Int32) then
            (f_L_enter (20 : Int32) (500 : Int32) p2 I198 O199).bind fun (r204, I202, O203) =>
            if r204 = (-3 : Int32) then
              (f_L_setPace p1 (50 : Int32) I202 O203).bind fun (r208, I206, O207) =>
              if r208 = (-2 : Int32) then
                (f_L_callIn p1 I206 O207).bind fun (r212, I210, O211) =>
                if r212 = (-2 : Int32) then
                  (f_L_pair p1 p1 I210 O211).bind fun (r216, I214, O215) =>
                  if r216 = (-2 : Int32) then
                    (f_L_setLimit ((4 : Int32) + a1) (50 : Int32) I214 O215).bind fun (r220, I218, O219) =>
                    if r220 = (-2 : Int32) then
                      (f_L_setLimit ((-1 : Int32) - a1) (20 : Int32) I218 O219).bind fun (r224, I222, O223) =>
                      if r224 = (-2 : Int32) then
                        (f_L_setLimit (0 : Int32) ((41 : Int32) + a1) I222 O223).bind fun (r228, I226, O227) =>
                        if r228 = (-3 : Int32) then
                          (f_L_setLimit (3 : Int32) ((7 : Int32) - a1) I226 O227).bind fun (r232, I230, O231) =>
                          if r232 = (-3 : Int32) then
                            (f_L_setLaps ((10 : Int32) + a1) I230 O231).bind fun (r236, I234, O235) =>
                            if r236 = (-3 : Int32) then
                              (f_L_setLaps (-a1) I234 O235).bind fun (r240, I238, O239) =>
                              if r240 = (-3 : Int32) then
                                (f_L_pass ((201 : Int32) + a1) I238 O239).bind fun (r244, I242, O243) =>
                                if r244 = (-3 : Int32) then
                                  (f_L_pass (-a1) I242 O243).bind fun (r248, I246, O247) =>
                                  if r248 = (-3 : Int32) then
                                    (f_L_append ((32 : Int32) - a1) I246).bind fun (r251, I250) =>
                                    if r251 = (-3 : Int32) then
                                      (f_L_append ((127 : Int32) + a1) I250).bind fun (r254, I253) =>
                                      if r254 = (-3 : Int32) then
                                        (f_L_keep p2 I253).bind fun (r257, I256) =>
                                        if r257 = (-3 : Int32) then
                                          (f_L_goBack p2 I256 O247).bind fun (r261, I259, O260) =>
                                          if r261 = (-3 : Int32) then
                                            some ((1 : Int32), I259, O260)
                                          else
                                            some ((0 : Int32), I259, O260)
                                        else
                                          some ((0 : Int32), I256, O247)
                                      else
                                        some ((0 : Int32), I253, O247)
                                    else
                                      some ((0 : Int32), I250, O247)
                                  else
                                    some ((0 : Int32), I246, O247)
                                else
                                  some ((0 : Int32), I242, O243)
                              else
                                some ((0 : Int32), I238, O239)
                            else
                              some ((0 : Int32), I234, O235)
                          else
                            some ((0 : Int32), I230, O231)
                        else
                          some ((0 : Int32), I226, O227)
                      else
                        some ((0 : Int32), I222, O223)
                    else
                      some ((0 : Int32), I218, O219)
                  else
                    some ((0 : Int32), I214, O215)
                else
                  some ((0 : Int32), I210, O211)
              else
                some ((0 : Int32), I206, O207)
            else
              some ((0 : Int32), I202, O203)
          else
            some ((0 : Int32), I198, O199)
        else
          some ((0 : Int32), I194, O195)
      else
        some ((0 : Int32), I190, O191)
    else
      some ((0 : Int32), I, O)) = some ((1 : Int32), I, O) := by
  have l10 : (9 : Int32) - a1 < 10 := by rw [ha1, Int32.lt_iff_toInt_lt, show (9 : Int32) = nI 9 from rfl, sub_int (by omega) hm]; show (9 : Int) - m < 10; omega
  have l7 : (7 : Int32) - a1 < 8 := by rw [ha1, Int32.lt_iff_toInt_lt, show (7 : Int32) = nI 7 from rfl, sub_int (by omega) hm]; show (7 : Int) - m < 8; omega
  have l99 : (99 : Int32) - a1 < 100 := by rw [ha1, Int32.lt_iff_toInt_lt, show (99 : Int32) = nI 99 from rfl, sub_int (by omega) hm]; show (99 : Int) - m < 100; omega
  have l32 : (32 : Int32) - a1 < 33 := by rw [ha1, Int32.lt_iff_toInt_lt, show (32 : Int32) = nI 32 from rfl, sub_int (by omega) hm]; show (32 : Int) - m < 33; omega
  have lm1 : (-1 : Int32) - a1 < 0 := by rw [ha1, Int32.lt_iff_toInt_lt, m1_int hm]; show -1 - (m : Int) < 0; omega
  have ln : -a1 < (1 : Int32) := by rw [ha1, Int32.lt_iff_toInt_lt, neg_int hm]; show -(m : Int) < 1; omega
  have g1000 : (999 : Int32) < (1000 : Int32) + a1 := by rw [ha1, show (1000 : Int32) + nI m = nI (1000 + m) from pi_add 1000 m, show (999 : Int32) = nI 999 from rfl, pi_lt (by omega) (by omega)]; omega
  have g4 : (4 : Int32) ≤ (4 : Int32) + a1 := by rw [ha1, show (4 : Int32) + nI m = nI (4 + m) from pi_add 4 m, show (4 : Int32) = nI 4 from rfl, pi_le (by omega) (by omega)]; omega
  have g41 : (40 : Int32) < (41 : Int32) + a1 := by rw [ha1, show (41 : Int32) + nI m = nI (41 + m) from pi_add 41 m, show (40 : Int32) = nI 40 from rfl, pi_lt (by omega) (by omega)]; omega
  have g10 : (9 : Int32) < (10 : Int32) + a1 := by rw [ha1, show (10 : Int32) + nI m = nI (10 + m) from pi_add 10 m, show (9 : Int32) = nI 9 from rfl, pi_lt (by omega) (by omega)]; omega
  have g201 : (200 : Int32) < (201 : Int32) + a1 := by rw [ha1, show (201 : Int32) + nI m = nI (201 + m) from pi_add 201 m, show (200 : Int32) = nI 200 from rfl, pi_lt (by omega) (by omega)]; omega
  have g127 : (126 : Int32) < (127 : Int32) + a1 := by rw [ha1, show (127 : Int32) + nI m = nI (127 + m) from pi_add 127 m, show (126 : Int32) = nI 126 from rfl, pi_lt (by omega) (by omega)]; omega
  simp only [r_enter1 (I := I) (O := O) (Or.inl l10), r_enter2 (I := I) (O := O) (Or.inr g1000), r_enter2 (I := I) (O := O) (Or.inl l99), r_enter3 (I := I) (O := O) hp2, r_setPace1 (O := O) h hp1, r_callIn1 (O := O) h hp1, r_pair1 (O := O) h hp1, r_setLimit1 (I := I) (O := O) (Or.inr g4), r_setLimit1 (I := I) (O := O) (Or.inl lm1), r_setLimit2 (I := I) (O := O) (a := 0) rfl (Or.inr g41), r_setLimit2 (I := I) (O := O) (a := 3) rfl (Or.inl l7), r_setLaps1 (I := I) (O := O) (Or.inr g10), r_setLaps1 (I := I) (O := O) (Or.inl ln), r_pass1 (I := I) (O := O) (Or.inr g201), r_pass1 (I := I) (O := O) (Or.inl ln), r_append (I := I) (Or.inl l32), r_append (I := I) (Or.inr g127), r_keep (I := I) hp2, r_goBack (I := I) (O := O) hp2, Option.bind_some, eq_self, if_true]
set_option maxRecDepth 20000 in
theorem ref_B2 {I : Nat → Nat → Int32} {O : Nat → Nat → Option Nat} {n m : Nat} {s : Nat → Int32} {p1 a1 : Int32} (h : RR I 1 s n) (hm : m < 1000000) (ha1 : a1 = nI m) (hp1 : p1 < 0 ∨ nI n ≤ p1) :
∃ O', FO 1 O O' ∧
  (
    if (1 : Int32) = 0 then
      some ((0 : Int32), I, O)
    else
      (f_L_flown p1 I).bind fun r108 =>
      if r108 = (-2 : Int32) then
        (f_L_lapsOf p1 I).bind fun r110 =>
        if r110 = (-2 : Int32) then
          (f_L_speedOf p1 I).bind fun r112 =>
          if r112 = (-2 : Int32) then
            (f_L_strengthOf p1 I).bind fun r114 =>
            if r114 = (-2 : Int32) then
              (f_L_wearOf p1 I).bind fun r116 =>
              if r116 = (-2 : Int32) then
                (f_L_laneOf p1 I).bind fun r118 =>
                if r118 = (-2 : Int32) then
                  (f_L_stateOf p1 I).bind fun r120 =>
                  if r120 = (-2 : Int32) then
                    (f_L_paceOf p1 I).bind fun r122 =>
                    if r122 = (-2 : Int32) then
                      (f_L_partnerOf p1 I).bind fun r124 =>
                      if r124 = (-2 : Int32) then
                        (f_L_isCalledIn p1 I).bind fun r126 =>
                        if r126 = (-2 : Int32) then
                          (f_L_limitOf ((4 : Int32) + a1) I).bind fun r128 =>
                          if r128 = (-2 : Int32) then
                            (f_L_limitOf ((-1 : Int32) - a1) I).bind fun r130 =>
                            if r130 = (-2 : Int32) then
                              (f_L_placeByCounting p1 I).bind fun r132 =>
                              if r132 = (-2 : Int32) then
                                (f_L_birdByOrder p1 I O).bind fun (r135, O134) =>
                                if r135 = (-2 : Int32) then
                                  (f_L_gapAhead p1 I).bind fun r137 =>
                                  if r137 = (-2 : Int32) then
                                    (f_L_isDrafting p1 I).bind fun r139 =>
                                    if r139 = (-2 : Int32) then
                                      (f_L_whereIs p1 I).bind fun r141 =>
                                      if r141 = (-2 : Int32) then
                                        (f_L_allowance p1 I).bind fun r143 =>
                                        if r143 = (-2 : Int32) then
                                          (f_L_wouldFly p1 (0 : Int32) I O134).bind fun (r147, I145, O146) =>
                                          if r147 = (-2 : Int32) then
                                            (f_L_flownWithPace p1 (0 : Int32) I145 O146).bind fun (r151, I149, O150) =>
                                            if r151 = (-2 : Int32) then
                                              (f_L_bestPace p1 I149 O150).bind fun (r155, I153, O154) =>
                                              if r155 = (-2 : Int32) then
                                                (f_X7_arrived I153).bind fun r157 =>
                                                (f_L_arrivedAt (r157 + a1) I153).bind fun r159 =>
                                                if r159 = (-2 : Int32) then
                                                  (f_L_arrivedAt ((-1 : Int32) - a1) I153).bind fun r161 =>
                                                  if r161 = (-2 : Int32) then
                                                    (f_L_timeOf p1 I153).bind fun r163 =>
                                                    if r163 = (-2 : Int32) then
                                                      some ((1 : Int32), I153, O154)
                                                    else
                                                      some ((0 : Int32), I153, O154)
                                                  else
                                                    some ((0 : Int32), I153, O154)
                                                else
                                                  some ((0 : Int32), I153, O154)
                                              else
                                                some ((0 : Int32), I153, O154)
                                            else
                                              some ((0 : Int32), I149, O150)
                                          else
                                            some ((0 : Int32), I145, O146)
                                        else
                                          some ((0 : Int32), I, O134)
                                      else
                                        some ((0 : Int32), I, O134)
                                    else
                                      some ((0 : Int32), I, O134)
                                  else
                                    some ((0 : Int32), I, O134)
                                else
                                  some ((0 : Int32), I, O134)
                              else
                                some ((0 : Int32), I, O)
                            else
                              some ((0 : Int32), I, O)
                          else
                            some ((0 : Int32), I, O)
                        else
                          some ((0 : Int32), I, O)
                      else
                        some ((0 : Int32), I, O)
                    else
                      some ((0 : Int32), I, O)
                  else
                    some ((0 : Int32), I, O)
                else
                  some ((0 : Int32), I, O)
              else
                some ((0 : Int32), I, O)
            else
              some ((0 : Int32), I, O)
          else
            some ((0 : Int32), I, O)
        else
          some ((0 : Int32), I, O)
      else
        some ((0 : Int32), I, O)) = some ((1 : Int32), I, O') := by
  have hn := rr_n h
  have hc := cnt3_le s n
  have lm1 : (-1 : Int32) - a1 < 0 := by rw [ha1, Int32.lt_iff_toInt_lt, m1_int hm]; show -1 - (m : Int) < 0; omega
  have g4 : (4 : Int32) ≤ (4 : Int32) + a1 := by rw [ha1, show (4 : Int32) + nI m = nI (4 + m) from pi_add 4 m, show (4 : Int32) = nI 4 from rfl, pi_le (by omega) (by omega)]; omega
  have ga : nI (cnt3 s n) ≤ nI (cnt3 s n) + a1 := by rw [ha1, pi_add, pi_le (by omega) (by omega)]; omega
  obtain ⟨O', o1, o2, o3⟩ := e_birdByOrder (O := O) h
  refine ⟨O', o1, ?_⟩
  simp only [show ¬ ((1 : Int32) = 0) by decide, if_false, o_flown h hp1, o_lapsOf h hp1, o_speedOf h hp1, o_strengthOf h hp1, o_wearOf h hp1, o_laneOf h hp1, o_stateOf h hp1, o_paceOf h hp1, o_partnerOf h hp1, o_isCalledIn h hp1, e_limitOf_o (I := I) (Or.inr g4), e_limitOf_o (I := I) (Or.inl lm1), o_placeByCounting h hp1, o3 p1 hp1, o_gapAhead h hp1, o_isDrafting h hp1, o_whereIs h hp1, o_allowance h hp1, r_wouldFly1 (O := O') h hp1, r_fwp1 (O := O') h hp1, r_best1 (O := O') h hp1, e_arrived h, e_arrivedAt_o h (Or.inr ga), e_arrivedAt_o h (Or.inl lm1), o_timeOf h hp1, Option.bind_some, eq_self, if_true]
theorem ref_loop {I : Nat → Nat → Int32} {O : Nat → Nat → Option Nat} {n m : Nat} {s : Nat → Int32} {a1 : Int32} (h : RR I 1 s n) (hm : m < 1000000) (ha1 : a1 = nI m) : ∀ d b fuel, b + d = n → d < fuel → f_L_refuses_L576 a1 fuel (1 : Int32) (nI b) I O = some ((1 : Int32), I, O) := by
  have hn := rr_n h
  have l10 : (9 : Int32) - a1 < 10 := by rw [ha1, Int32.lt_iff_toInt_lt, show (9 : Int32) = nI 9 from rfl, sub_int (by omega) hm]; show (9 : Int) - m < 10; omega
  have g41 : (40 : Int32) < (41 : Int32) + a1 := by rw [ha1, show (41 : Int32) + nI m = nI (41 + m) from pi_add 41 m, show (40 : Int32) = nI 40 from rfl, pi_lt (by omega) (by omega)]; omega
  have g201 : (200 : Int32) < (201 : Int32) + a1 := by rw [ha1, show (201 : Int32) + nI m = nI (201 + m) from pi_add 201 m, show (200 : Int32) = nI 200 from rfl, pi_lt (by omega) (by omega)]; omega
  intro d
  induction d with
  | zero =>
    intro b fuel hb hf
    obtain ⟨f, rfl⟩ : ∃ f, fuel = f + 1 := ⟨fuel - 1, by omega⟩
    rw [f_L_refuses_L576, e_sparrows h]
    simp only [Option.bind_some]
    rw [if_pos (by rw [pi_le (by omega) (by omega)]; omega)]
  | succ d ih =>
    intro b fuel hb hf
    obtain ⟨f, rfl⟩ : ∃ f, fuel = f + 1 := ⟨fuel - 1, by omega⟩
    have hbn : b < n := by omega
    rw [f_L_refuses_L576, e_sparrows h]
    simp only [Option.bind_some]
    rw [if_neg (by rw [pi_le (by omega) (by omega)]; omega), if_neg (show ¬ ((1 : Int32) = 0) by decide)]
    have last : (f_L_stateOf (nI b) I).bind (fun r93 => if r93 = (3 : Int32) then (f_L_callIn (nI b) I O).bind fun (r97, I95, O96) => if r97 = (-4 : Int32) then some ((1 : Int32), I95, O96) else some ((0 : Int32), I95, O96) else some ((1 : Int32), I, O)) = some ((1 : Int32), I, O) := by
      rw [e_stateOf h hbn]
      simp only [Option.bind_some]
      by_cases c : I (cB 1 b) 9 = (3 : Int32)
      · rw [if_pos c, r_callIn2 h hbn c]; rfl
      · rw [if_neg c]
    simp only [r_setPace2 (O := O) h hbn (Or.inr g41), r_setPace2 (O := O) h hbn (Or.inl l10), r_pair2 (O := O) h hbn, r_wouldFly2 (O := O) h hbn (Or.inr g201), r_fwp2 (O := O) h hbn (Or.inl l10), Option.bind_some, eq_self, if_true, last, hlet_e]
    rw [show nI b + (1 : Int32) = nI (b + 1) from pi_add b 1]
    exact ih (b + 1) f (by omega) (by omega)
theorem ref_tail {I : Nat → Nat → Int32} {O : Nat → Nat → Option Nat} {n : Nat} {s : Nat → Int32} (h : RR I 1 s n) :
  if (1 : Int32) = 0 then
    some ((0 : Int32), I, O)
  else
    (f_X7_isRacing I).bind fun r20 =>
    hlet (fun (I22 : Nat → Nat → Int32) (O23 : Nat → Nat → Option Nat) =>
      (f_X7_isRacing I22).bind fun r25 =>
      hlet (fun (I27 : Nat → Nat → Int32) (O28 : Nat → Nat → Option Nat) =>
        (f_X7_sparrows I27).bind fun r30 =>
        hlet (fun (I32 : Nat → Nat → Int32) (O33 : Nat → Nat → Option Nat) =>
          (f_X7_sparrows I32).bind fun r35 =>
          if r35 < (8 : Int32) then
            some ((1 : Int32), I32, O33)
          else
            (f_L_enter (20 : Int32) (500 : Int32) (0 : Int32) I32 O33).bind fun (r39, I37, O38) =>
            if r39 = (-4 : Int32) then
              some ((1 : Int32), I37, O38)
            else
              some ((0 : Int32), I37, O38)) fun j34 =>
        if 0 < r30 then
          j34 I27 O28
        else
          (f_L_begin I27 O28).bind fun (r45, I43, O44) =>
          if r45 = (-4 : Int32) then
            j34 I43 O44
          else
            some ((0 : Int32), I43, O44)) fun j29 =>
      if r25 = 0 then
        (f_L_pass (5 : Int32) I22 O23).bind fun (r51, I49, O50) =>
        if r51 = (-4 : Int32) then
          j29 I49 O50
        else
          some ((0 : Int32), I49, O50)
      else
        j29 I22 O23) fun j24 =>
    if r20 = 0 then
      j24 I O
    else
      (f_L_enter (20 : Int32) (500 : Int32) (0 : Int32) I O).bind fun (r57, I55, O56) =>
      if r57 = (-4 : Int32) then
        (f_L_setLaps (3 : Int32) I55 O56).bind fun (r61, I59, O60) =>
        if r61 = (-4 : Int32) then
          j24 I59 O60
        else
          some ((0 : Int32), I59, O60)
      else
        some ((0 : Int32), I55, O56) = some ((1 : Int32), I, O) := by
  have hn := rr_n h
  rw [if_neg (show ¬ ((1 : Int32) = 0) by decide), e_isRacing h]
  simp only [Option.bind_some, hlet_e, e_isRacing h, e_sparrows h]
  have hrc : I 1 5 = 0 ∨ I 1 5 = 1 := gz_of h.gz5
  have c8 : (nI n < (8 : Int32)) ↔ n < 8 := by rw [show (8 : Int32) = nI 8 from rfl, pi_lt (by omega) (by omega)]
  have c0 : ((0 : Int32) < nI n) ↔ 0 < n := by rw [show (0 : Int32) = nI 0 from rfl, pi_lt (by omega) (by omega)]
  have j34 : (if nI n < (8 : Int32) then some ((1 : Int32), I, O) else (f_L_enter (20 : Int32) (500 : Int32) (0 : Int32) I O).bind fun (r39, I37, O38) => if r39 = (-4 : Int32) then some ((1 : Int32), I37, O38) else some ((0 : Int32), I37, O38)) = some ((1 : Int32), I, O) := by
    by_cases c : n < 8
    · rw [if_pos (c8.mpr c)]
    · rw [if_neg (fun z => c (c8.mp z)), r_enter4 h (Or.inl (by omega))]; rfl
  have j29 : (if (0 : Int32) < nI n then some ((1 : Int32), I, O) else (f_L_begin I O).bind fun (r45, I43, O44) => if r45 = (-4 : Int32) then (f_X7_sparrows I43).bind fun r35 => if r35 < (8 : Int32) then some ((1 : Int32), I43, O44) else (f_L_enter (20 : Int32) (500 : Int32) (0 : Int32) I43 O44).bind fun (r39, I37, O38) => if r39 = (-4 : Int32) then some ((1 : Int32), I37, O38) else some ((0 : Int32), I37, O38) else some ((0 : Int32), I43, O44)) = some ((1 : Int32), I, O) := by
    by_cases c : 0 < n
    · rw [if_pos (c0.mpr c)]
    · rw [if_neg (fun z => c (c0.mp z)), r_begin h (by omega)]
      simp only [Option.bind_some, if_true, e_sparrows h]
      exact j34
  rcases hrc with e | e
  · rw [e]
    simp only [if_true, show (5 : Int32) = nI 5 from rfl, r_pass2 (O := O) (m := 5) (by omega) (by omega) e, Option.bind_some, eq_self, e_isRacing h, e_sparrows h, j34]
    exact j29
  · rw [e]
    simp only [show ¬ ((1 : Int32) = 0) by decide, if_false, r_enter4 (O := O) h (Or.inr e), r_setLaps2 (O := O) e, Option.bind_some, eq_self, if_true, e_isRacing h, e_sparrows h, e, j34]
    exact j29
theorem ref_all {I : Nat → Nat → Int32} {O : Nat → Nat → Option Nat} {n m : Nat} {s : Nat → Int32} (h : RR I 1 s n) (hm : m < 1000000) : ∃ O', FO 1 O O' ∧ f_L_refuses (nI m) I O = some ((1 : Int32), I, O') := by
  obtain ⟨a1, ha1⟩ : ∃ a1, a1 = nI m := ⟨_, rfl⟩
  have hn := rr_n h
  have g41 : (40 : Int32) < (41 : Int32) + a1 := by rw [ha1, show (41 : Int32) + nI m = nI (41 + m) from pi_add 41 m, show (40 : Int32) = nI 40 from rfl, pi_lt (by omega) (by omega)]; omega
  have lm1 : (-1 : Int32) - a1 < 0 := by rw [ha1, Int32.lt_iff_toInt_lt, m1_int hm]; show -1 - (m : Int) < 0; omega
  rw [← ha1]
  have main : ∀ p1 p2 : Int32, (p1 < 0 ∨ nI n ≤ p1) → (p2 < 0 ∨ (2 : Int32) ≤ p2) → ∃ O', FO 1 O O' ∧ ((f_L_enter ((41 : Int32) + a1) (500 : Int32) (0 : Int32) I O).bind fun (r5, I3, O4) =>
  (
    if r5 = (-3 : Int32) then
      (f_L_enter ((9 : Int32) - a1) (500 : Int32) (0 : Int32) I3 O4).bind fun (r192, I190, O191) =>
      if r192 = (-3 : Int32) then
        (f_L_enter (20 : Int32) ((1000 : Int32) + a1) (1 : Int32) I190 O191).bind fun (r196, I194, O195) =>
        if r196 = (-3 : Int32) then
          (f_L_enter (20 : Int32) ((99 : Int32) - a1) (1 : Int32) I194 O195).bind fun (r200, I198, O199) =>
          if r200 = (-3 : Int32) then
            (f_L_enter (20 : Int32) (500 : Int32) p2 I198 O199).bind fun (r204, I202, O203) =>
            if r204 = (-3 : Int32) then
              (f_L_setPace p1 (50 : Int32) I202 O203).bind fun (r208, I206, O207) =>
              if r208 = (-2 : Int32) then
                (f_L_callIn p1 I206 O207).bind fun (r212, I210, O211) =>
                if r212 = (-2 : Int32) then
                  (f_L_pair p1 p1 I210 O211).bind fun (r216, I214, O215) =>
                  if r216 = (-2 : Int32) then
                    (f_L_setLimit ((4 : Int32) + a1) (50 : Int32) I214 O215).bind fun (r220, I218, O219) =>
                    if r220 = (-2 : Int32) then
                      (f_L_setLimit ((-1 : Int32) - a1) (20 : Int32) I218 O219).bind fun (r224, I222, O223) =>
                      if r224 = (-2 : Int32) then
                        (f_L_setLimit (0 : Int32) ((41 : Int32) + a1) I222 O223).bind fun (r228, I226, O227) =>
                        if r228 = (-3 : Int32) then
                          (f_L_setLimit (3 : Int32) ((7 : Int32) - a1) I226 O227).bind fun (r232, I230, O231) =>
                          if r232 = (-3 : Int32) then
                            (f_L_setLaps ((10 : Int32) + a1) I230 O231).bind fun (r236, I234, O235) =>
                            if r236 = (-3 : Int32) then
                              (f_L_setLaps (-a1) I234 O235).bind fun (r240, I238, O239) =>
                              if r240 = (-3 : Int32) then
                                (f_L_pass ((201 : Int32) + a1) I238 O239).bind fun (r244, I242, O243) =>
                                if r244 = (-3 : Int32) then
                                  (f_L_pass (-a1) I242 O243).bind fun (r248, I246, O247) =>
                                  if r248 = (-3 : Int32) then
                                    (f_L_append ((32 : Int32) - a1) I246).bind fun (r251, I250) =>
                                    if r251 = (-3 : Int32) then
                                      (f_L_append ((127 : Int32) + a1) I250).bind fun (r254, I253) =>
                                      if r254 = (-3 : Int32) then
                                        (f_L_keep p2 I253).bind fun (r257, I256) =>
                                        if r257 = (-3 : Int32) then
                                          (f_L_goBack p2 I256 O247).bind fun (r261, I259, O260) =>
                                          if r261 = (-3 : Int32) then
                                            some ((1 : Int32), I259, O260)
                                          else
                                            some ((0 : Int32), I259, O260)
                                        else
                                          some ((0 : Int32), I256, O247)
                                      else
                                        some ((0 : Int32), I253, O247)
                                    else
                                      some ((0 : Int32), I250, O247)
                                  else
                                    some ((0 : Int32), I246, O247)
                                else
                                  some ((0 : Int32), I242, O243)
                              else
                                some ((0 : Int32), I238, O239)
                            else
                              some ((0 : Int32), I234, O235)
                          else
                            some ((0 : Int32), I230, O231)
                        else
                          some ((0 : Int32), I226, O227)
                      else
                        some ((0 : Int32), I222, O223)
                    else
                      some ((0 : Int32), I218, O219)
                  else
                    some ((0 : Int32), I214, O215)
                else
                  some ((0 : Int32), I210, O211)
              else
                some ((0 : Int32), I206, O207)
            else
              some ((0 : Int32), I202, O203)
          else
            some ((0 : Int32), I198, O199)
        else
          some ((0 : Int32), I194, O195)
      else
        some ((0 : Int32), I190, O191)
    else
      some ((0 : Int32), I3, O4)).bind fun (p7, I8, O9) =>
  (
    if p7 = 0 then
      some ((0 : Int32), I8, O9)
    else
      (f_L_flown p1 I8).bind fun r108 =>
      if r108 = (-2 : Int32) then
        (f_L_lapsOf p1 I8).bind fun r110 =>
        if r110 = (-2 : Int32) then
          (f_L_speedOf p1 I8).bind fun r112 =>
          if r112 = (-2 : Int32) then
            (f_L_strengthOf p1 I8).bind fun r114 =>
            if r114 = (-2 : Int32) then
              (f_L_wearOf p1 I8).bind fun r116 =>
              if r116 = (-2 : Int32) then
                (f_L_laneOf p1 I8).bind fun r118 =>
                if r118 = (-2 : Int32) then
                  (f_L_stateOf p1 I8).bind fun r120 =>
                  if r120 = (-2 : Int32) then
                    (f_L_paceOf p1 I8).bind fun r122 =>
                    if r122 = (-2 : Int32) then
                      (f_L_partnerOf p1 I8).bind fun r124 =>
                      if r124 = (-2 : Int32) then
                        (f_L_isCalledIn p1 I8).bind fun r126 =>
                        if r126 = (-2 : Int32) then
                          (f_L_limitOf ((4 : Int32) + a1) I8).bind fun r128 =>
                          if r128 = (-2 : Int32) then
                            (f_L_limitOf ((-1 : Int32) - a1) I8).bind fun r130 =>
                            if r130 = (-2 : Int32) then
                              (f_L_placeByCounting p1 I8).bind fun r132 =>
                              if r132 = (-2 : Int32) then
                                (f_L_birdByOrder p1 I8 O9).bind fun (r135, O134) =>
                                if r135 = (-2 : Int32) then
                                  (f_L_gapAhead p1 I8).bind fun r137 =>
                                  if r137 = (-2 : Int32) then
                                    (f_L_isDrafting p1 I8).bind fun r139 =>
                                    if r139 = (-2 : Int32) then
                                      (f_L_whereIs p1 I8).bind fun r141 =>
                                      if r141 = (-2 : Int32) then
                                        (f_L_allowance p1 I8).bind fun r143 =>
                                        if r143 = (-2 : Int32) then
                                          (f_L_wouldFly p1 (0 : Int32) I8 O134).bind fun (r147, I145, O146) =>
                                          if r147 = (-2 : Int32) then
                                            (f_L_flownWithPace p1 (0 : Int32) I145 O146).bind fun (r151, I149, O150) =>
                                            if r151 = (-2 : Int32) then
                                              (f_L_bestPace p1 I149 O150).bind fun (r155, I153, O154) =>
                                              if r155 = (-2 : Int32) then
                                                (f_X7_arrived I153).bind fun r157 =>
                                                (f_L_arrivedAt (r157 + a1) I153).bind fun r159 =>
                                                if r159 = (-2 : Int32) then
                                                  (f_L_arrivedAt ((-1 : Int32) - a1) I153).bind fun r161 =>
                                                  if r161 = (-2 : Int32) then
                                                    (f_L_timeOf p1 I153).bind fun r163 =>
                                                    if r163 = (-2 : Int32) then
                                                      some ((1 : Int32), I153, O154)
                                                    else
                                                      some ((0 : Int32), I153, O154)
                                                  else
                                                    some ((0 : Int32), I153, O154)
                                                else
                                                  some ((0 : Int32), I153, O154)
                                              else
                                                some ((0 : Int32), I153, O154)
                                            else
                                              some ((0 : Int32), I149, O150)
                                          else
                                            some ((0 : Int32), I145, O146)
                                        else
                                          some ((0 : Int32), I8, O134)
                                      else
                                        some ((0 : Int32), I8, O134)
                                    else
                                      some ((0 : Int32), I8, O134)
                                  else
                                    some ((0 : Int32), I8, O134)
                                else
                                  some ((0 : Int32), I8, O134)
                              else
                                some ((0 : Int32), I8, O9)
                            else
                              some ((0 : Int32), I8, O9)
                          else
                            some ((0 : Int32), I8, O9)
                        else
                          some ((0 : Int32), I8, O9)
                      else
                        some ((0 : Int32), I8, O9)
                    else
                      some ((0 : Int32), I8, O9)
                  else
                    some ((0 : Int32), I8, O9)
                else
                  some ((0 : Int32), I8, O9)
              else
                some ((0 : Int32), I8, O9)
            else
              some ((0 : Int32), I8, O9)
          else
            some ((0 : Int32), I8, O9)
        else
          some ((0 : Int32), I8, O9)
      else
        some ((0 : Int32), I8, O9)).bind fun (p10, I11, O12) =>
  (f_L_refuses_L576 a1 16 p10 (0 : Int32) I11 O12).bind fun (p17, I18, O19) =>
  if p17 = 0 then
    some ((0 : Int32), I18, O19)
  else
    (f_X7_isRacing I18).bind fun r20 =>
    hlet (fun (I22 : Nat → Nat → Int32) (O23 : Nat → Nat → Option Nat) => show Option (Int32 × (Nat → Nat → Int32) × (Nat → Nat → Option Nat)) from
      (f_X7_isRacing I22).bind fun r25 =>
      hlet (fun (I27 : Nat → Nat → Int32) (O28 : Nat → Nat → Option Nat) => show Option (Int32 × (Nat → Nat → Int32) × (Nat → Nat → Option Nat)) from
        (f_X7_sparrows I27).bind fun r30 =>
        hlet (fun (I32 : Nat → Nat → Int32) (O33 : Nat → Nat → Option Nat) => show Option (Int32 × (Nat → Nat → Int32) × (Nat → Nat → Option Nat)) from
          (f_X7_sparrows I32).bind fun r35 =>
          if r35 < (8 : Int32) then
            some ((1 : Int32), I32, O33)
          else
            (f_L_enter (20 : Int32) (500 : Int32) (0 : Int32) I32 O33).bind fun (r39, I37, O38) =>
            if r39 = (-4 : Int32) then
              some ((1 : Int32), I37, O38)
            else
              some ((0 : Int32), I37, O38)) fun j34 =>
        if 0 < r30 then
          j34 I27 O28
        else
          (f_L_begin I27 O28).bind fun (r45, I43, O44) =>
          if r45 = (-4 : Int32) then
            j34 I43 O44
          else
            some ((0 : Int32), I43, O44)) fun j29 =>
      if r25 = 0 then
        (f_L_pass (5 : Int32) I22 O23).bind fun (r51, I49, O50) =>
        if r51 = (-4 : Int32) then
          j29 I49 O50
        else
          some ((0 : Int32), I49, O50)
      else
        j29 I22 O23) fun j24 =>
    if r20 = 0 then
      j24 I18 O19
    else
      (f_L_enter (20 : Int32) (500 : Int32) (0 : Int32) I18 O19).bind fun (r57, I55, O56) =>
      if r57 = (-4 : Int32) then
        (f_L_setLaps (3 : Int32) I55 O56).bind fun (r61, I59, O60) =>
        if r61 = (-4 : Int32) then
          j24 I59 O60
        else
          some ((0 : Int32), I59, O60)
      else
        some ((0 : Int32), I55, O56)) = some ((1 : Int32), I, O') := by
    intro p1 p2 hp1 hp2
    obtain ⟨O', o1, o2⟩ := ref_B2 (O := O) h hm ha1 hp1
    refine ⟨O', o1, ?_⟩
    rw [r_enter1 (I := I) (O := O) (Or.inr g41)]
    simp only [Option.bind_some]
    rw [ref_B1 (O := O) h hm ha1 hp1 hp2]
    simp only [Option.bind_some]
    rw [o2]
    simp only [Option.bind_some]
    rw [show f_L_refuses_L576 a1 16 (1 : Int32) (0 : Int32) I O' = some ((1 : Int32), I, O') from ref_loop h hm ha1 n 0 16 (by omega) (by omega)]
    simp only [Option.bind_some]
    exact ref_tail h
  by_cases c : (a1 - a1 / (2 : Int32) * (2 : Int32)) = 0
  · obtain ⟨O', o1, o2⟩ := main (nI n + a1) ((2 : Int32) + a1) (Or.inr (by rw [ha1, pi_add, pi_le (by omega) (by omega)]; omega)) (Or.inr (by rw [ha1, show (2 : Int32) + nI m = nI (2 + m) from pi_add 2 m, show (2 : Int32) = nI 2 from rfl, pi_le (by omega) (by omega)]; omega))
    refine ⟨O', o1, ?_⟩
    unfold f_L_refuses
    rw [if_pos c, if_pos c, e_sparrows h]
    exact o2
  · obtain ⟨O', o1, o2⟩ := main ((-1 : Int32) - a1) ((-1 : Int32) - a1) (Or.inl lm1) (Or.inl lm1)
    refine ⟨O', o1, ?_⟩
    unfold f_L_refuses
    rw [if_neg c, if_neg c]
    exact o2
