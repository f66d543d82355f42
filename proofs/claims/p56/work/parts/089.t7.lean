/-! The law: two games, done the same to, tell the same. -/
def PI (K : Nat → Nat → Int32) (B : Nat) (I1 : Nat → Nat → Int32) (O1 : Nat → Nat → Option Nat) (I2 : Nat → Nat → Int32) (O2 : Nat → Nat → Option Nat) : Prop := Inv2 I1 K O1 ∧ Inv2 I2 K O2 ∧ zHA I1 B ∧ zHA I2 B
theorem PI.le {K I1 I2 : Nat → Nat → Int32} {O1 O2 : Nat → Nat → Option Nat} {B C : Nat} (h : PI K B I1 O1 I2 O2) (hb : B ≤ C) : PI K C I1 O1 I2 O2 := ⟨h.1, h.2.1, h.2.2.1.le hb, h.2.2.2.le hb⟩
theorem dig_tail {K I1 I2 : Nat → Nat → Int32} {O1 O2 : Nat → Nat → Option Nat} {J1 J2 : Nat → Nat → Int64} {B j : Nat} (hj : j < 100) (hB : B + 2000 < 1000000000) (h : PI K B I1 O1 I2 O2) :
  ∃ A1 P1 G1 A2 P2 G2 K', ((f_X7_digest 129 I1 O1 J1).bind fun (r212, I1_209, O1_210, J1_211) =>
    (f_X7_digest 129 I2 O2 J2).bind fun (r217, I2_214, O2_215, J2_216) =>
    if (lg_cmp r212 r217) = 0 then
      if 0 < (nI j - nI j / (4 : Int32) * (4 : Int32)) then
        some ((1 : Int32), I1_209, O1_210, J1_211, I2_214, O2_215, J2_216)
      else
        if (nI j - nI j / (8 : Int32) * (8 : Int32)) = 0 then
          (f_L_hangs I1_209 O1_210).bind fun (r226, I1_224, O1_225) =>
          if r226 = 0 then
            some ((0 : Int32), I1_224, O1_225, J1_211, I2_214, O2_215, J2_216)
          else
            some ((1 : Int32), I1_224, O1_225, J1_211, I2_214, O2_215, J2_216)
        else
          (f_L_hangs I2_214 O2_215).bind fun (r221, I2_219, O2_220) =>
          if r221 = 0 then
            some ((0 : Int32), I1_209, O1_210, J1_211, I2_219, O2_220, J2_216)
          else
            some ((1 : Int32), I1_209, O1_210, J1_211, I2_219, O2_220, J2_216)
    else
      some ((0 : Int32), I1_209, O1_210, J1_211, I2_214, O2_215, J2_216)) = some ((1 : Int32), A1, P1, G1, A2, P2, G2) ∧ PI K' B A1 P1 A2 P2 := by
  obtain ⟨h1, h2, c1, c2⟩ := h
  obtain ⟨y, K', hd⟩ := d_digest K
  obtain ⟨A1, P1, G1, a1, a2, a3⟩ := hd I1 O1 J1 B h1 c1
  obtain ⟨A2, P2, G2, b1, b2, b3⟩ := hd I2 O2 J2 B h2 c2
  have e4 : nI j - nI j / (4 : Int32) * (4 : Int32) = nI (j % 4) := mod_e (m := 4) (by omega) (by omega)
  by_cases c4 : 0 < j % 4
  · refine ⟨A1, P1, G1, A2, P2, G2, K', ?_, a2, b2, a3, b3⟩
    refine sq1 a1 ?_
    refine sq1 b1 ?_
    refine ifp (lg0 y) ?_
    exact ifp (by rw [e4, show (0 : Int32) = nI 0 from rfl, pi_lt (by omega) (by omega)]; exact c4) rfl
  · have n4 : ¬ ((0 : Int32) < nI j - nI j / (4 : Int32) * (4 : Int32)) := by rw [e4, show (0 : Int32) = nI 0 from rfl, pi_lt (by omega) (by omega)]; exact c4
    by_cases c8 : (nI j - nI j / (8 : Int32) * (8 : Int32)) = 0
    · obtain ⟨D, Q, d1, d2, d3⟩ := hang_all a2 a3 hB
      refine ⟨D, Q, G1, A2, P2, G2, K', ?_, d2, b2, d3, b3⟩
      refine sq1 a1 ?_
      refine sq1 b1 ?_
      refine ifp (lg0 y) (ifn n4 (ifp c8 ?_))
      exact sq1 d1 (ifn (by decide) rfl)
    · obtain ⟨D, Q, d1, d2, d3⟩ := hang_all b2 b3 hB
      refine ⟨A1, P1, G1, D, Q, G2, K', ?_, a2, d2, a3, d3⟩
      refine sq1 a1 ?_
      refine sq1 b1 ?_
      refine ifp (lg0 y) (ifn n4 (ifn c8 ?_))
      exact sq1 d1 (ifn (by decide) rfl)
set_option maxRecDepth 20000 in
theorem l102_go {SL : Nat} {sx : Nat → Int32} : ∀ d j fuel (K I1 I2 : Nat → Nat → Int32) (O1 O2 : Nat → Nat → Option Nat) (J1 J2 : Nat → Nat → Int64) (B : Nat), j + d = 56 → d < fuel → PI K B I1 O1 I2 O2 → B + d * 200000 + 10000 < 1000000000 →
    ∃ A1 P1 G1 A2 P2 G2 K', f_L_law_L102 SL sx fuel 1 (nI j) I1 O1 J1 I2 O2 J2 = some (1, A1, P1, G1, A2, P2, G2) ∧ PI K' (B + d * 200000) A1 P1 A2 P2 := by
  intro d
  induction d with
  | zero =>
    intro j fuel K I1 I2 O1 O2 J1 J2 B hj hf h hB
    obtain ⟨f, rfl⟩ : ∃ f, fuel = f + 1 := ⟨fuel - 1, by omega⟩
    obtain rfl : j = 56 := by omega
    refine ⟨I1, O1, J1, I2, O2, J2, K, ?_, h⟩
    rw [f_L_law_L102]
    exact ifp (by decide) rfl
  | succ d ih =>
    intro j fuel K I1 I2 O1 O2 J1 J2 B hj hf h hB
    obtain ⟨f, rfl⟩ : ∃ f, fuel = f + 1 := ⟨fuel - 1, by omega⟩
    obtain ⟨x, x1, x2⟩ := cell_v (SL := SL) (sx := sx) (j := j) (by omega)
    obtain ⟨h1, h2, c1, c2⟩ := h
    obtain ⟨r, K', hd⟩ := d_acts x1 K
    obtain ⟨A1, P1, a1, a2, a3⟩ := hd I1 O1 B h1 c1 (by omega)
    have e3 : nI j - nI j / (3 : Int32) * (3 : Int32) = nI (j % 3) := mod_e (m := 3) (by omega) (by omega)
    by_cases c3 : 0 < j % 3
    · obtain ⟨A2, P2, b1, b2, b3⟩ := hd I2 O2 B h2 c2 (by omega)
      obtain ⟨X1, Q1, G1, X2, Q2, G2, K2, t1, t2⟩ := dig_tail (J1 := J1) (J2 := J2) (j := j) (by omega) (by omega) (show PI K' (B + 200000) A1 P1 A2 P2 from ⟨a2, b2, a3, b3⟩)
      obtain ⟨Y1, R1, H1, Y2, R2, H2, K3, u1, u2⟩ := ih (j + 1) f K2 X1 X2 Q1 Q2 G1 G2 (B + 200000) (by omega) (by omega) t2 (by omega)
      refine ⟨Y1, R1, H1, Y2, R2, H2, K3, ?_, by rw [show B + (d + 1) * 200000 = B + 200000 + d * 200000 by omega]; exact u2⟩
      rw [f_L_law_L102]
      refine ifn (by rw [show (56 : Int32) = nI 56 from rfl, pi_le (by omega) (by omega)]; omega) (ifn (by decide) ?_)
      refine sq1 x2 ?_
      refine sq1 a1 ?_
      refine sq1 (a := ((1 : Int32), X1, Q1, G1, X2, Q2, G2)) (ifp (by rw [e3, show (0 : Int32) = nI 0 from rfl, pi_lt (by omega) (by omega)]; exact c3) ?_) ?_
      · refine sq1 b1 (ifp rfl ?_)
        exact t1
      · refine hl1 ?_
        rw [show nI j + (1 : Int32) = nI (j + 1) from pi_add j 1]
        exact u1
    · obtain ⟨nr, hnr⟩ := inv_n h2
      obtain ⟨Or, hO, er⟩ := ref_all (O := O2) hnr (show x % 100000 < 1000000 by have := Nat.mod_lt x (show 0 < 100000 by omega); omega)
      have fq : FQ I2 I2 O2 Or := ⟨fun _ _ => rfl, inv_zz h2 13 isB13, hO 26 (by omega)⟩
      obtain ⟨A2, P2, b1, b2, b3⟩ := hd I2 Or B (fq.inv h2) c2 (by omega)
      obtain ⟨X1, Q1, G1, X2, Q2, G2, K2, t1, t2⟩ := dig_tail (J1 := J1) (J2 := J2) (j := j) (by omega) (by omega) (show PI K' (B + 200000) A1 P1 A2 P2 from ⟨a2, b2, a3, b3⟩)
      obtain ⟨Y1, R1, H1, Y2, R2, H2, K3, u1, u2⟩ := ih (j + 1) f K2 X1 X2 Q1 Q2 G1 G2 (B + 200000) (by omega) (by omega) t2 (by omega)
      refine ⟨Y1, R1, H1, Y2, R2, H2, K3, ?_, by rw [show B + (d + 1) * 200000 = B + 200000 + d * 200000 by omega]; exact u2⟩
      rw [f_L_law_L102]
      refine ifn (by rw [show (56 : Int32) = nI 56 from rfl, pi_le (by omega) (by omega)]; omega) (ifn (by decide) ?_)
      refine sq1 x2 ?_
      refine sq1 a1 ?_
      refine sq1 (a := ((1 : Int32), X1, Q1, G1, X2, Q2, G2)) (ifn (by rw [e3, show (0 : Int32) = nI 0 from rfl, pi_lt (by omega) (by omega)]; exact c3) ?_) ?_
      · refine sq1 (a := ((1 : Int32), I2, Or)) (by rw [show nI x - nI x / (100000 : Int32) * (100000 : Int32) = nI (x % 100000) from mod_e (m := 100000) x1 (by omega)]; exact er) (ifn (by decide) ?_)
        refine sq1 b1 (ifp rfl ?_)
        exact t1
      · refine hl1 ?_
        rw [show nI j + (1 : Int32) = nI (j + 1) from pi_add j 1]
        exact u1
theorem l565_go {n : Nat} {I1 I2 : Nat → Nat → Int32} {s : Nat → Int32} (h1 : RR I1 1 s n) (h2 : RR I2 1 s n) : ∀ d b fuel, b + d = n → d < fuel → f_L_law_L565 (nI n) I1 I2 fuel 1 (nI b) = some (1 : Int32) := by
  have hn := rr_n h1
  intro d
  induction d with
  | zero =>
    intro b fuel hb hf
    obtain ⟨f, rfl⟩ : ∃ f, fuel = f + 1 := ⟨fuel - 1, by omega⟩
    rw [f_L_law_L565]
    exact ifp (by rw [pi_le (by omega) (by omega)]; omega) rfl
  | succ d ih =>
    intro b fuel hb hf
    obtain ⟨f, rfl⟩ : ∃ f, fuel = f + 1 := ⟨fuel - 1, by omega⟩
    have hbn : b < n := by omega
    have r1 := rr_b h1 hbn
    have r2 := rr_b h2 hbn
    rw [f_L_law_L565]
    refine ifn (by rw [pi_le (by omega) (by omega)]; omega) (ifn (by decide) ?_)
    refine sq1 (e_flown h1 hbn) (sq1 (e_flown h2 hbn) ?_)
    refine sq1 (a := (1 : Int32)) (ifp (r1.2.2.2.1.trans r2.2.2.2.1.symm) ?_) ?_
    · refine sq1 (e_strengthOf h1 hbn) (sq1 (e_strengthOf h2 hbn) (ifp (r1.2.2.2.2.2.1.trans r2.2.2.2.2.2.1.symm) ?_))
      refine sq1 (e_paceOf h1 hbn) (sq1 (e_paceOf h2 hbn) (ifp (r1.1.trans r2.1.symm) ?_))
      refine sq1 (e_laneOf h1 hbn) (sq1 (e_laneOf h2 hbn) (ifp (r1.2.2.2.2.2.2.2.1.trans r2.2.2.2.2.2.2.2.1.symm) ?_))
      exact sq1 (e_isCalledIn h1 hbn) (sq1 (e_isCalledIn h2 hbn) (ifp (r1.2.2.2.2.2.2.2.2.2.2.1.trans r2.2.2.2.2.2.2.2.2.2.2.1.symm) rfl))
    · refine hl1 ?_
      rw [show nI b + (1 : Int32) = nI (b + 1) from pi_add b 1]
      exact ih (b + 1) f (by omega) (by omega)
theorem j95_v {n : Nat} {I1 I2 : Nat → Nat → Int32} {O2 : Nat → Nat → Option Nat} {s : Nat → Int32} (h1 : RR I1 1 s n) (h2 : RR I2 1 s n) : ((f_X7_seconds I1).bind fun r96 => (f_X7_seconds I2).bind fun r98 => if r96 = r98 then (f_X7_flownByAccount I1).bind fun r100 => (f_X7_flownByAccount I2).bind fun r102 => if r100 = r102 then (f_X7_drafts I1).bind fun r104 => (f_X7_drafts I2).bind fun r106 => if r104 = r106 then some ((1 : Int32), I2, O2) else some ((0 : Int32), I2, O2) else some ((0 : Int32), I2, O2) else some ((0 : Int32), I2, O2)) = some ((1 : Int32), I2, O2) := by
  have q1 := h1.1.1
  have q2 := h2.1.1
  refine sq1 (a := I1 1 6) rfl (sq1 (a := I2 1 6) rfl (ifp (h1.2.2.1.trans h2.2.2.1.symm) ?_))
  refine sq1 (a := I1 1 8) rfl (sq1 (a := I2 1 8) rfl (ifp (q1.2.2.2.2.1.trans q2.2.2.2.2.1.symm) ?_))
  exact sq1 (a := I1 1 9) rfl (sq1 (a := I2 1 9) rfl (ifp (q1.2.2.2.2.2.1.trans q2.2.2.2.2.2.1.symm) rfl))
theorem w0_ha : zHA w0I 0 := by
  intro β hβ _
  have h3 := isB_sk3 hβ
  have e : ∀ f, f ≠ 4 → w0I β f = 0 := fun f hf => by
    unfold w0I
    rw [if_neg (by rw [h3]; decide), if_pos h3, if_neg hf]
  refine ⟨0, by omega, e 3 (by omega), ⟨Or.inl (e 5 (by omega)), ?_, ?_, ?_, ?_, ?_, ?_, ?_, ?_, ?_⟩, ?_, fun b hb => absurd hb (by omega), fun b c hb => absurd hb (by omega)⟩
  · exact ⟨0, e 6 (by omega), by omega, by omega⟩
  · exact ⟨0, e 7 (by omega), by omega, by omega⟩
  · exact ⟨0, e 9 (by omega), by omega, by omega⟩
  · exact ⟨0, e 10 (by omega), by omega, by omega⟩
  · exact ⟨0, e 11 (by omega), by omega, by omega⟩
  · exact ⟨0, e 12 (by omega), by omega, by omega⟩
  · exact ⟨0, e 13 (by omega), by omega, by omega⟩
  · rw [if_neg (fun z => absurd (z.1.symm.trans (e 5 (by omega))) (by decide)), e 13 (by omega), e 12 (by omega)]; decide
  · intro z; rw [e 5 (by omega)] at z; exact absurd z (by decide)
  · rw [e 8 (by omega)]; rfl
theorem read_0 {I : Nat → Nat → Int32} (h : I 126 1 = 0) : ∃ X, f_X7_readText I = some (0, X) ∧ (∀ q, q ≠ 128 → X q = I q) ∧ f_X1_isWhole X = some 0 := by
  obtain ⟨X, x1, x2⟩ := is_start (I0 := I) (I := I) (fun _ _ => rfl)
  refine ⟨X, ?_, x2.f, wh_012 x2 (Or.inl rfl)⟩
  unfold f_X7_readText
  refine sq1 x1 ?_
  show f_X7_readText_L9 (4095 + 1) 0 X = _
  rw [f_X7_readText_L9, x2.f 126 (by omega), h, if_pos (by decide)]
