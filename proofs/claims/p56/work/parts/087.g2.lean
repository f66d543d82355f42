/-! One bird's turn in the loop of what hangs together. -/
def hB1 (p8 : Int32) (I9 : Nat → Nat → Int32) (r104 r106 r108 r117 : Int32) : Option Int32 :=
(
          if r117 = p8 then
            (f_L_lapsOf p8 I9).bind fun r161 =>
            (f_L_flown p8 I9).bind fun r163 =>
            if r161 = (r163 / (400 : Int32)) then
              (f_L_speedOf p8 I9).bind fun r165 =>
              if r165 < 0 then
                some (0 : Int32)
              else
                (f_L_speedOf p8 I9).bind fun r167 =>
                if (42 : Int32) < r167 then
                  some (0 : Int32)
                else
                  (f_L_strengthOf p8 I9).bind fun r169 =>
                  if r169 < 0 then
                    some (0 : Int32)
                  else
                    (f_L_strengthOf p8 I9).bind fun r171 =>
                    if (999 : Int32) < r171 then
                      some (0 : Int32)
                    else
                      (f_L_wearOf p8 I9).bind fun r173 =>
                      if r173 < 0 then
                        some (0 : Int32)
                      else
                        (f_L_wearOf p8 I9).bind fun r175 =>
                        if (100 : Int32) < r175 then
                          some (0 : Int32)
                        else
                          (f_L_laneOf p8 I9).bind fun r177 =>
                          if r177 < 0 then
                            some (0 : Int32)
                          else
                            (f_L_laneOf p8 I9).bind fun r179 =>
                            if (2 : Int32) ≤ r179 then
                              some (0 : Int32)
                            else
                              if r108 < 0 then
                                some (0 : Int32)
                              else
                                if (4 : Int32) ≤ r108 then
                                  some (0 : Int32)
                                else
                                  (f_L_paceOf p8 I9).bind fun r181 =>
                                  if r181 < (10 : Int32) then
                                    some (0 : Int32)
                                  else
                                    (f_L_paceOf p8 I9).bind fun r183 =>
                                    if (40 : Int32) < r183 then
                                      some (0 : Int32)
                                    else
                                      hlet (fun (_ : Unit) =>
                                        if r106 < 0 then
                                          some (0 : Int32)
                                        else
                                          if (400 : Int32) < r106 then
                                            some (0 : Int32)
                                          else
                                            (f_L_whereIs p8 I9).bind fun r186 =>
                                            (f_L_flown p8 I9).bind fun r188 =>
                                            (
                                              if (70 : Int32) ≤ (r188 - r188 / (100 : Int32) * (100 : Int32)) then
                                                (f_L_flown p8 I9).bind fun r224 =>
                                                some ((4 : Int32) + ((r224 - r224 / (400 : Int32) * (400 : Int32)) / (100 : Int32)))
                                              else
                                                (f_L_flown p8 I9).bind fun r226 =>
                                                some ((r226 - r226 / (400 : Int32) * (400 : Int32)) / (100 : Int32))).bind fun p190 =>
                                            if r186 = p190 then
                                              (
                                                if r108 = (3 : Int32) then
                                                  some (1 : Int32)
                                                else
                                                  some (0 : Int32)).bind fun p191 =>
                                              (f_L_timeOf p8 I9).bind fun r192 =>
                                              (
                                                if r192 ≤ 0 then
                                                  some (0 : Int32)
                                                else
                                                  some (1 : Int32)).bind fun p194 =>
                                              if p191 = p194 then
                                                (
                                                  if r108 = (1 : Int32) then
                                                    some (1 : Int32)
                                                  else
                                                    some (0 : Int32)).bind fun p195 =>
                                                (f_L_allowance p8 I9).bind fun r196 =>
                                                (
                                                  if r196 < (4 : Int32) then
                                                    some (0 : Int32)
                                                  else
                                                    some (1 : Int32)).bind fun p198 =>
                                                if p195 = p198 then
                                                  hlet (fun (_ : Unit) =>
                                                    if r108 = (3 : Int32) then
                                                      (f_L_isCalledIn p8 I9).bind fun r200 =>
                                                      if r200 = 0 then
                                                        some (1 : Int32)
                                                      else
                                                        (f_L_lapsOf p8 I9).bind fun r202 =>
                                                        if r202 ≤ 0 then
                                                          some (0 : Int32)
                                                        else
                                                          some (1 : Int32)
                                                    else
                                                      some (1 : Int32)) fun j199 =>
                                                  if r108 = (1 : Int32) then
                                                    (f_L_isDrafting p8 I9).bind fun r210 =>
                                                    (
                                                      if r106 ≤ 0 then
                                                        some (0 : Int32)
                                                      else
                                                        if (9 : Int32) ≤ r106 then
                                                          some (0 : Int32)
                                                        else
                                                          some (1 : Int32)).bind fun p212 =>
                                                    if r210 = p212 then
                                                      j199 ()
                                                    else
                                                      some (0 : Int32)
                                                  else
                                                    (f_L_isDrafting p8 I9).bind fun r207 =>
                                                    if r207 = (-4 : Int32) then
                                                      j199 ()
                                                    else
                                                      some (0 : Int32)
                                                else
                                                  some (0 : Int32)
                                              else
                                                some (0 : Int32)
                                            else
                                              some (0 : Int32)) fun j185 =>
                                      if r104 = (-4 : Int32) then
                                        j185 ()
                                      else
                                        if r104 = p8 then
                                          some (0 : Int32)
                                        else
                                          (f_L_partnerOf r104 I9).bind fun r231 =>
                                          if r231 = p8 then
                                            j185 ()
                                          else
                                            some (0 : Int32)
            else
              some (0 : Int32)
          else
            some (0 : Int32))
def hB2 (p8 : Int32) (I9 : Nat → Nat → Int32) (O116 : Nat → Nat → Option Nat) (p119 : Int32) : Option (Int32 × (Nat → Nat → Int32) × (Nat → Nat → Option Nat)) :=
(
          if p119 = 0 then
            some ((0 : Int32), I9, O116)
          else
            (f_X7_isRacing I9).bind fun r124 =>
            if r124 = 0 then
              (f_L_wouldFly p8 (7 : Int32) I9 O116).bind fun (r128, I126, O127) =>
              if r128 = (-4 : Int32) then
                (f_L_flownWithPace p8 (20 : Int32) I126 O127).bind fun (r132, I130, O131) =>
                if r132 = (-4 : Int32) then
                  (f_L_bestPace p8 I130 O131).bind fun (r136, I134, O135) =>
                  if r136 = (-4 : Int32) then
                    some ((1 : Int32), I134, O135)
                  else
                    some ((0 : Int32), I134, O135)
                else
                  some ((0 : Int32), I130, O131)
              else
                some ((0 : Int32), I126, O127)
            else
              (f_L_wouldFly p8 (7 : Int32) I9 O116).bind fun (r143, I141, O142) =>
              (f_L_flown p8 I141).bind fun r145 =>
              if r143 < r145 then
                some ((0 : Int32), I141, O142)
              else
                (f_L_paceOf p8 I141).bind fun r147 =>
                (f_L_flownWithPace p8 r147 I141 O142).bind fun (r151, I149, O150) =>
                (f_L_wouldFly p8 (50 : Int32) I149 O150).bind fun (r155, I153, O154) =>
                if r151 = r155 then
                  some ((1 : Int32), I153, O154)
                else
                  some ((0 : Int32), I153, O154))
theorem hang_e {r1 p4 p5 p6 p7 p8 : Int32} {I9 : Nat → Nat → Int32} {O10 : Nat → Nat → Option Nat} {fuel : Nat} : f_L_hangs_L141 r1 (fuel + 1) p4 p5 p6 p7 p8 I9 O10 =
  (
    if r1 ≤ p8 then
      some (p4, p5, p6, p7, I9, O10)
    else
      if p7 = 0 then
        some (p4, p5, p6, p7, I9, O10)
      else
        (f_L_partnerOf p8 I9).bind fun r104 =>
        (f_L_gapAhead p8 I9).bind fun r106 =>
        (f_L_stateOf p8 I9).bind fun r108 =>
        (f_L_flown p8 I9).bind fun r110 =>
        (
          if r108 = (3 : Int32) then
            some (1 : Int32)
          else
            some (0 : Int32)).bind fun p112 =>
        (
          if r104 < 0 then
            some (0 : Int32)
          else
            some (1 : Int32)).bind fun p113 =>
        (f_L_placeByCounting p8 I9).bind fun r114 =>
        (f_L_birdByOrder r114 I9 O10).bind fun (r117, O116) =>
        (hB1 p8 I9 r104 r106 r108 r117).bind fun p119 =>
        (hB2 p8 I9 O116 p119).bind fun (p120, I121, O122) =>
        hlet (p8 + 1) fun x123 =>
        f_L_hangs_L141 r1 fuel (p4 + r110) (p5 + p112) (p6 + p113) p120 x123 I121 O122) := by
  unfold hB1 hB2
  rw [f_L_hangs_L141]
theorem hlj {γ : Type} {R : Option γ} {x : Unit → Option γ} {k : (Unit → Option γ) → Option γ} (hx : x () = R) (hk : ∀ y : Unit → Option γ, y () = R → k y = R) : hlet x k = R := hk x hx
set_option maxHeartbeats 4000000 in
theorem hang_B1 {I : Nat → Nat → Int32} {n b B : Nat} {s : Nat → Int32} {r : Option Nat} {r104 : Int32} (h : RR I 1 s n) (hc : zHC I 1 B) (hB : B < 1000000000) (hb : b < n) (hN : NX s n b (s (16 * b + 5)) 8 r) (ed : f_L_isDrafting (nI b) I = some (if I (cB 1 b) 9 = (1 : Int32) then (if drf s b r = 0 then (0 : Int32) else 1) else (-4 : Int32)))
    (hp : r104 ≠ nI b) (hq : r104 = (-4 : Int32) ∨ f_L_partnerOf r104 I = some (nI b)) : hB1 (nI b) I r104 (nI (nxg s b r)) (I (cB 1 b) 9) (nI b) = some (1 : Int32) := by
  obtain ⟨x, v5, v6, v7, v8, st, pc, ⟨e4, l4⟩, ⟨e5, l5⟩, ⟨e6, l6⟩, ⟨e7, l7⟩, ⟨e8, l8⟩, ⟨e9, l9⟩, ⟨e1, p1, p2⟩, h3⟩ := bird_v h hc hB hb
  have hg := nxg_b hN
  have hw := rr_w h
  have hn := rr_n h
  have af := aF_b hw hb
  have n5a := nlt0 (v := v5) (by omega)
  have n5b : ¬ ((42 : Int32) < nI v5) := nltk (k := 42) l5 (by omega)
  have n6a := nlt0 (v := v6) (by omega)
  have n6b : ¬ ((999 : Int32) < nI v6) := nltk (k := 999) l6 (by omega)
  have n7a := nlt0 (v := v7) (by omega)
  have n7b : ¬ ((100 : Int32) < nI v7) := nltk (k := 100) l7 (by omega)
  have n8a := nlt0 (v := v8) (by omega)
  have n8b : ¬ ((2 : Int32) ≤ nI v8) := nlek (k := 2) (by omega) (by omega)
  have n9a := nlt0 (v := st) (by omega)
  have n9b : ¬ ((4 : Int32) ≤ nI st) := nlek (k := 4) (by omega) (by omega)
  have n1a : ¬ (nI pc < (10 : Int32)) := nltk (k := pc) (v := 10) (by omega) (by omega)
  have n1b : ¬ ((40 : Int32) < nI pc) := nltk (k := 40) p2 (by omega)
  have nga := nlt0 (v := nxg s b r) (by omega)
  have ngb : ¬ ((400 : Int32) < nI (nxg s b r)) := nltk (k := 400) hg (by omega)
  have na : ¬ (nI (aF s b) < (4 : Int32)) := nltk (k := aF s b) (v := 4) (by omega) (by omega)
  unfold hB1
  refine ifp rfl ?_
  refine sq1 (e_lapsOf h hb) ?_
  refine sq1 (e_flown h hb) (ifp rfl ?_)
  refine sq1 (e_speedOf h hb) (ifn (by rw [e5]; exact n5a) ?_)
  refine sq1 (e_speedOf h hb) (ifn (by rw [e5]; exact n5b) ?_)
  refine sq1 (e_strengthOf h hb) (ifn (by rw [e6]; exact n6a) ?_)
  refine sq1 (e_strengthOf h hb) (ifn (by rw [e6]; exact n6b) ?_)
  refine sq1 (e_wearOf h hb) (ifn (by rw [e7]; exact n7a) ?_)
  refine sq1 (e_wearOf h hb) (ifn (by rw [e7]; exact n7b) ?_)
  refine sq1 (e_laneOf h hb) (ifn (by rw [e8]; exact n8a) ?_)
  refine sq1 (e_laneOf h hb) (ifn (by rw [e8]; exact n8b) ?_)
  refine ifn (by rw [e9]; exact n9a) (ifn (by rw [e9]; exact n9b) ?_)
  refine sq1 (e_paceOf h hb) (ifn (by rw [e1]; exact n1a) ?_)
  refine sq1 (e_paceOf h hb) (ifn (by rw [e1]; exact n1b) ?_)
  refine hlj ?_ ?_
  rotate_left
  · intro y hy
    by_cases c1 : r104 = (-4 : Int32)
    · exact ifp c1 hy
    · exact ifn c1 (ifn hp (sq1 (hq.resolve_left c1) (ifp rfl hy)))
  refine ifn nga (ifn ngb ?_)
  refine sq1 (e_whereIs h hb l4 e4) ?_
  refine sq1 (e_flown h hb) ?_
  refine sq1 (a := nI (pN x)) ?_ (ifp rfl ?_)
  · rw [e_flown h hb, e4]; exact wp_v l4
  have hst : st = 3 ∨ st = 1 ∨ (st ≠ 3 ∧ st ≠ 1) := by omega
  rcases hst with rfl | rfl | ⟨t3, t1⟩
  · have E9 : I (cB 1 b) 9 = (3 : Int32) := e9
    have E1 : ¬ (I (cB 1 b) 9 = (1 : Int32)) := by rw [E9]; decide
    obtain ⟨x4, t, et, t1, t2⟩ := h3 rfl
    have nt : ¬ (nI t ≤ (0 : Int32)) := by rw [show (0 : Int32) = nI 0 from rfl, pi_le (by omega) (by omega)]; omega
    have nx : ¬ (nI x / (400 : Int32) ≤ (0 : Int32)) := by rw [show nI x / (400 : Int32) = nI (x / 400) from pi_div (b := 400) (by omega) (by omega), show (0 : Int32) = nI 0 from rfl, pi_le (by omega) (by omega)]; omega
    refine sq1 (a := (1 : Int32)) (ifp E9 rfl) ?_
    refine sq1 (e_timeOf h hb) ?_
    refine sq1 (a := (1 : Int32)) (ifn (by rw [if_pos E9, et]; exact nt) rfl) (ifp rfl ?_)
    refine sq1 (a := (0 : Int32)) (ifn E1 rfl) ?_
    refine sq1 (e_allowance h hb) ?_
    refine sq1 (a := (0 : Int32)) (ifp (by rw [if_neg E1]; decide) rfl) (ifp rfl ?_)
    refine hlj ?_ ?_
    · refine ifp E9 ?_
      refine sq1 (e_isCalledIn h hb) ?_
      by_cases z : I (cB 1 b) 11 = 0
      · exact ifp z rfl
      · exact ifn z (sq1 (e_lapsOf h hb) (ifn (by rw [e4]; exact nx) rfl))
    · intro y hy
      refine ifn E1 ?_
      exact sq1 (a := (-4 : Int32)) (by rw [ed, if_neg E1]) (ifp rfl hy)
  · have E9 : I (cB 1 b) 9 = (1 : Int32) := e9
    have E3 : ¬ (I (cB 1 b) 9 = (3 : Int32)) := by rw [E9]; decide
    refine sq1 (a := (0 : Int32)) (ifn E3 rfl) ?_
    refine sq1 (e_timeOf h hb) ?_
    refine sq1 (a := (0 : Int32)) (ifp (by rw [if_neg E3]; decide) rfl) (ifp rfl ?_)
    refine sq1 (a := (1 : Int32)) (ifp E9 rfl) ?_
    refine sq1 (e_allowance h hb) ?_
    refine sq1 (a := (1 : Int32)) (ifn (by rw [if_pos E9]; exact na) rfl) (ifp rfl ?_)
    refine hlj ?_ ?_
    · exact ifn E3 rfl
    · intro y hy
      refine ifp E9 ?_
      refine sq1 (a := (if drf s b r = 0 then (0 : Int32) else 1)) (by rw [ed, if_pos E9]) ?_
      exact sq1 drf_v (ifp rfl hy)
  · have E3 : ¬ (I (cB 1 b) 9 = (3 : Int32)) := by rw [e9]; exact neqn (k := 3) t3 (by omega) (by omega)
    have E1 : ¬ (I (cB 1 b) 9 = (1 : Int32)) := by rw [e9]; exact neqn (k := 1) t1 (by omega) (by omega)
    refine sq1 (a := (0 : Int32)) (ifn E3 rfl) ?_
    refine sq1 (e_timeOf h hb) ?_
    refine sq1 (a := (0 : Int32)) (ifp (by rw [if_neg E3]; decide) rfl) (ifp rfl ?_)
    refine sq1 (a := (0 : Int32)) (ifn E1 rfl) ?_
    refine sq1 (e_allowance h hb) ?_
    refine sq1 (a := (0 : Int32)) (ifp (by rw [if_neg E1]; decide) rfl) (ifp rfl ?_)
    refine hlj ?_ ?_
    · exact ifn E3 rfl
    · intro y hy
      refine ifn E1 ?_
      exact sq1 (a := (-4 : Int32)) (by rw [ed, if_neg E1]) (ifp rfl hy)
