/-! One order on the game itself; and begin on both. -/
def GQ (n t : Nat) (s : Nat → Int32) : Prop := s 150 = 1 ∧ ∀ b, b < n → tn (s (16 * b + 7)) ≤ 42 * t ∧ s (16 * b + 6) ≠ 3
def GOK (f : (Nat → Nat → Int32) → (Nat → Nat → Option Nat) → Option (Int32 × (Nat → Nat → Int32) × (Nat → Nat → Option Nat))) (o : Nat × Nat × Nat) (I : Nat → Nat → Int32) (O : Nat → Nat → Option Nat) (n t B : Nat) (s : Nat → Int32) : Prop :=
  ∃ r I' O' K' s', f I O = some (r, I', O') ∧ ¬ (r < 0) ∧ Inv2 I' K' O' ∧ zHA I' (B + 1800) ∧ RR I' 1 s' n ∧ OS n o s s' ∧ GQ n (t + 1) s'
section GG
variable {I K : Nat → Nat → Int32} {O : Nat → Nat → Option Nat} {n t B : Nat} {s : Nat → Int32}
theorem g_pass (h : Inv2 I K O) (hc : zHA I B) (hB : B + 4000 < 1000000000) (hR : RR I 1 s n) (hn0 : 0 < n) (hg : GQ n t s) (ht : t ≤ 8) : GOK (f_L_pass (1 : Int32)) (116, 0, 1) I O n t B s := by
  obtain ⟨r, K', hd⟩ := d_pass (1 : Int32) K
  obtain ⟨I', O', e, i1, c1⟩ := hd I O B h hc (by omega)
  have h5 : I 1 5 = 1 := hR.1.1.2.2.1.trans hg.1
  have hn := rr_n hR
  obtain ⟨n1, I3, O3, K3, s1, s2, s3, s4, s5, s6, s7, _⟩ := sv_step h
  obtain ⟨Ks, rfl⟩ : ∃ Ks : Nat → Nat → Int32, Ks 130 = s := ⟨fun _ => s, rfl⟩
  have hR3 : RR I3 1 (Ks 130) n := RR_I (fun a q1 q2 => s7 a (by omega)) hR
  obtain ⟨I6, O6, K6, v, a1, a2, a3, a4, a5, a6, a7⟩ := pass_both (O := O3) (m := 1) isB1 (by omega) hR3
  obtain ⟨u1, u2⟩ := one_fu isB1 hR3 hg.1 a1
  have e' : f_L_pass (1 : Int32) I O = some (I6 1 7 - I3 1 7, I6, O6) := by
    unfold f_L_pass f_X7_pass f_X7_checkSeconds f_X7_checkRacing
    refine sq1 (a := (Sum.inr (I6 1 7 - I3 1 7), I6, O6)) ?_ rfl
    refine sq1 (a := Sum.inr ()) (ifn (by decide) (ifp (by decide) rfl)) ?_
    refine sq1 (a := Sum.inr ()) (by rw [h5]; rfl) ?_
    refine sq1 s1 ?_
    exact sq1 a1 rfl
  rw [e'] at e
  have e := Option.some.inj e
  obtain rfl : I6 = I' := congrArg (fun z => z.2.1) e
  obtain rfl : O6 = O' := congrArg (fun z => z.2.2) e
  have z0 : cnt3 (Ks 130) n = 0 := cnt3_zero (fun b hb => (hg.2 b hb).2)
  have hH := (hc_n a3 (c1 1 isB1 (by omega))).2
  have fl6 : ∀ b, b < n → tn (K6 130 (16 * b + 7)) ≤ 42 * (t + 1) := fun b hb => by
    have q := u1 b hb
    rw [(rr_b a3 hb).2.2.2.1, (rr_b hR3 hb).2.2.2.1] at q
    have := (hg.2 b hb).1
    omega
  have st6 : ∀ b, b < n → K6 130 (16 * b + 6) ≠ 3 := fun b hb z => by
    have := ((hH.2.1 b hb).2 ((rr_b a3 hb).2.2.2.2.2.2.2.2.1.trans z)).2.1
    rw [(rr_b a3 hb).2.2.2.1] at this
    have := fl6 b hb
    omega
  have z6 : cnt3 (K6 130) n = 0 := cnt3_zero st6
  have i67 : I6 1 7 = 0 := by rw [a3.1.1.2.2.2.1, (rr_w a3).a.1, z6]; rfl
  have i37 : I3 1 7 = 0 := by rw [hR3.1.1.2.2.2.1, (rr_w hR3).a.1, z0]; rfl
  refine ⟨_, I6, O6, K', K6 130, e', by rw [i67, i37]; decide, i1, c1, a3, Or.inl ⟨rfl, rfl, hg.1, Ks, K6, nI v, rfl, a2, rfl⟩, ?_, fun b hb => ⟨fl6 b hb, st6 b hb⟩⟩
  rcases bd1_c (rr_w a3).2.2.2.2.1.2 with z | z
  · exfalso
    have := u2 (a3.1.1.2.2.1.trans z)
    rw [rr_3 a3, i67, show (0 : Int32) = nI 0 from rfl, pi_le (by omega) (by omega)] at this
    omega
  · exact z
theorem g_pace {d p : Nat} (h : Inv2 I K O) (hc : zHA I B) (hB : B + 4000 < 1000000000) (hR : RR I 1 s n) (hd : d < n) (hp1 : 10 ≤ p) (hp2 : p ≤ 40) (hg : GQ n t s) : GOK (f_L_setPace (nI d) (nI p)) (112, d, p) I O n t B s := by
  obtain ⟨r, K', hdd⟩ := d_setPace (nI d) (nI p) K
  obtain ⟨I', O', e, i1, c1⟩ := hdd I O B h hc (by omega)
  have hn := rr_n hR
  obtain ⟨n1, I3, O3, K3, s1, s2, s3, s4, s5, s6, s7, _⟩ := sv_step h
  have hR3 : RR I3 1 s n := RR_I (fun a q1 q2 => s7 a (by omega)) hR
  have hbp : Bd (nI p) 10 40 := ⟨p, rfl, hp1, hp2⟩
  have ec : f_X7_checkPace (nI p) = some (Sum.inr ()) := by
    unfold f_X7_checkPace f_X7_isPace
    rw [if_neg (by rw [show (10 : Int32) = nI 10 from rfl, pi_lt (by omega) (by omega)]; omega), if_neg (by rw [show (40 : Int32) = nI 40 from rfl, pi_lt (by omega) (by omega)]; omega)]; rfl
  have e' : f_L_setPace (nI d) (nI p) I O = some (I3 (cB 1 d) 1, gup I3 (cB 1 d) 1 (nI p), O3) := by
    unfold f_L_setPace f_X7_setPace
    refine sq1 (a := (Sum.inr (I3 (cB 1 d) 1), gup I3 (cB 1 d) 1 (nI p), O3)) ?_ rfl
    refine sq1 (kn_in hR hd) ?_
    refine sq1 ec ?_
    refine sq1 s1 ?_
    refine sq1 rfl ?_
    rw [hk_e (rr_s hR hd)]; rfl
  rw [e'] at e
  have e := Option.some.inj e
  obtain rfl : gup I3 (cB 1 d) 1 (nI p) = I' := congrArg (fun z => z.2.1) e
  obtain rfl : O3 = O' := congrArg (fun z => z.2.2) e
  obtain ⟨v, ev, v1, v2⟩ := ((rr_w hR).2.1 d hd).1
  refine ⟨_, _, O3, K', wpd s (16 * d + 0) (nI p), e', by rw [(rr_b hR3 hd).1, ev]; exact nlt0 (by omega), i1, c1.le (by omega), RR_bird hd (by unfold bPair; omega) (by omega) (by omega) (by unfold okv; left; exact ⟨rfl, hbp⟩) hR3, Or.inr (Or.inr ⟨rfl, hd, hbp, rfl⟩), ?_, fun b hb => ?_⟩
  · rw [wpd_ne (by omega)]; exact hg.1
  · rw [wpd_ne (by omega), wpd_ne (by omega)]
    have := hg.2 b hb
    exact ⟨by omega, this.2⟩
theorem g_call {d : Nat} (h : Inv2 I K O) (hc : zHA I B) (hB : B + 4000 < 1000000000) (hR : RR I 1 s n) (hd : d < n) (hg : GQ n t s) : GOK (f_L_callIn (nI d)) (110, d, 0) I O n t B s := by
  obtain ⟨r, K', hdd⟩ := d_callIn (nI d) K
  obtain ⟨I', O', e, i1, c1⟩ := hdd I O B h hc (by omega)
  have hn := rr_n hR
  obtain ⟨n1, I3, O3, K3, s1, s2, s3, s4, s5, s6, s7, _⟩ := sv_step h
  have hR3 : RR I3 1 s n := RR_I (fun a q1 q2 => s7 a (by omega)) hR
  have h9 : I (cB 1 d) 9 = s (16 * d + 6) := (rr_b hR hd).2.2.2.2.2.2.2.2.1
  have h11 : I3 (cB 1 d) 11 = s (16 * d + 9) := (rr_b hR3 hd).2.2.2.2.2.2.2.2.2.2.1
  have hv : ∃ v : Int32, v = (if s (16 * d + 9) = 0 then 1 else 0) ∧ (v = 0 ∨ v = 1) := by
    refine ⟨_, rfl, ?_⟩
    split
    · exact Or.inr rfl
    · exact Or.inl rfl
  obtain ⟨v, ev, hv⟩ := hv
  have gzv : gz v = true := by rcases hv with rfl | rfl <;> rfl
  have ep : (if (I3 (cB 1 d) 11) = 0 then some (1 : Int32) else some (0 : Int32)) = some v := by
    rw [h11, ev]
    by_cases c : s (16 * d + 9) = 0
    · rw [if_pos c, if_pos c]
    · rw [if_neg c, if_neg c]
  have e' : f_L_callIn (nI d) I O = some (if v = 0 then 0 else 1, gup I3 (cB 1 d) 11 v, O3) := by
    unfold f_L_callIn f_X7_callIn
    refine sq1 (a := (Sum.inr v, gup I3 (cB 1 d) 11 v, O3)) ?_ ?_
    · refine sq1 (kn_in hR hd) ?_
      refine sq1 rfl ?_
      rw [ob_e, hk_e (rr_s hR hd)]
      refine ifn (by rw [h9]; exact (hg.2 d hd).2) ?_
      refine sq1 s1 ?_
      refine sq1 ep ?_
      rw [gzv, hg_t, hlet_e, gup_at, gzv, hg_t]
    · by_cases c : v = 0
      · rw [if_pos c]; exact ifp c rfl
      · rw [if_neg c]; exact ifn c rfl
  rw [e'] at e
  have e := Option.some.inj e
  obtain rfl : gup I3 (cB 1 d) 11 v = I' := congrArg (fun z => z.2.1) e
  obtain rfl : O3 = O' := congrArg (fun z => z.2.2) e
  refine ⟨_, _, O3, K', wpd s (16 * d + 9) v, e', by split <;> decide, i1, c1.le (by omega), RR_call hd hv hR3, Or.inr (Or.inl ⟨rfl, hd, (hg.2 d hd).2, by rw [ev]⟩), ?_, fun b hb => ?_⟩
  · rw [wpd_ne (by omega)]; exact hg.1
  · rw [wpd_ne (by omega), wpd_ne (by omega)]
    have := hg.2 b hb
    exact ⟨by omega, this.2⟩
/-- begin, told by what it leaves -/
theorem beg_one (h : Inv2 I K O) (hR : RR I 1 s n) (h0 : 0 < n) : ∃ I' O', f_L_begin I O = some (nI n, I', O') ∧ (∀ b, b < n → I' (cB 1 b) = gs (I (cB 1 b)) 1) ∧ (I' 1 3 = I 1 3 ∧ I' 1 4 = I 1 4 ∧ I' 1 5 = 1 ∧ I' 1 6 = 0 ∧ I' 1 7 = 0 ∧ I' 1 8 = 0 ∧ I' 1 9 = 0 ∧ I' 1 10 = 0 ∧ I' 1 11 = 0 ∧ I' 1 12 = I 1 12 + 1 ∧ I' 1 13 = I 1 13) ∧ (∀ k, I' 4 k = I 4 k) ∧ ∀ a, 99 ≤ a → I' a = I a := by
  have hn := rr_n hR
  obtain ⟨n1, I3, O3, K3, s1, s2, s3, s4, s5, s6, s7, s8, _⟩ := sv_step h
  have sfar := (save_far h s1).1
  have hR3 : RR I3 1 s n := RR_I (fun a q1 q2 => s7 a (by omega)) hR
  obtain ⟨X, x1, x2, x3⟩ := x3_start_birds isB1 hn (rr_3 hR3) hR3.2.1
  have g : ∀ f, X 1 f = I 1 f := fun f => by rw [x2 1 (fun b _ => cB_ne.symm), s7 1 (by omega)]
  obtain ⟨Y, hY⟩ : ∃ Y, Y = gup (gup (gup (gup (gup (gup (gup (gup X 1 5 1) 1 6 0) 1 7 0) 1 8 0) 1 9 0) 1 10 0) 1 11 0) 1 12 ((gup (gup (gup (gup (gup (gup (gup X 1 5 1) 1 6 0) 1 7 0) 1 8 0) 1 9 0) 1 10 0) 1 11 0) 1 12 + 1) := ⟨_, rfl⟩
  have yo : ∀ a, a ≠ 1 → Y a = X a := fun a ha => by rw [hY]; funext i; simp [gup, ha]
  have y3 : Y 1 3 = I 1 3 := by rw [hY]; simp [gup, g]
  have eS : f_X3_startRace 1 I3 = some Y := by
    unfold f_X3_startRace
    rw [x1, hY]; rfl
  refine ⟨Y, O3, ?_, fun b hb => ?_, ?_, fun k => ?_, fun a ha => ?_⟩
  · unfold f_L_begin f_X7_begin
    refine sq1 (a := (Sum.inr (nI n), Y, O3)) ?_ rfl
    refine ifn (by rw [rr_3 hR, show (0 : Int32) = nI 0 from rfl, pi_eq (by omega) (by omega)]; omega) ?_
    refine sq1 s1 ?_
    refine sq1 eS ?_
    rw [y3, rr_3 hR]
  · rw [yo _ cB_ne, x3 b hb, s7 _ (by unfold cB; omega)]
  · rw [hY]; simp [gup, g]
  · rw [yo 4 (by omega), x2 4 (fun b _ => by unfold cB; omega), s7 4 (by omega)]
  · rw [yo a (by omega), x2 a (fun b hb => by unfold cB; omega), sfar a (by omega) (by omega)]
end GG
theorem RR_tr {I X : Nat → Nat → Int32} {n : Nat} {s : Nat → Int32} (h : RR I 1 s n) (hZ : RZ X 1) (e1 : ∀ f, 3 ≤ f → f ≤ 13 → X 1 f = I 1 f) (e2 : ∀ k, k < 4 → X 4 k = I 4 k) (e3 : ∀ b, b < n → ∀ f, 1 ≤ f → f ≤ 14 → X (cB 1 b) f = I (cB 1 b) f) : RR X 1 s n := by
  obtain ⟨⟨r1, r2, r3, r4⟩, z, r6, w⟩ := h
  refine ⟨⟨?_, fun k hk => (e2 k hk).trans (r2 k hk), fun b hb => ?_, fun b k hb hk e => (e3 b hb 13 (by omega) (by omega)).trans (r4 b k hb hk e)⟩, hZ, (e1 6 (by omega) (by omega)).trans r6, w⟩
  · rw [e1 3 (by omega) (by omega), e1 4 (by omega) (by omega), e1 5 (by omega) (by omega), e1 7 (by omega) (by omega), e1 8 (by omega) (by omega), e1 9 (by omega) (by omega), e1 10 (by omega) (by omega), e1 11 (by omega) (by omega), e1 12 (by omega) (by omega), e1 13 (by omega) (by omega)]
    exact r1
  · have z := e3 b hb
    have q := r3 b hb
    unfold RB at q ⊢
    rw [z 1 (by omega) (by omega), z 2 (by omega) (by omega), z 3 (by omega) (by omega), z 4 (by omega) (by omega), z 5 (by omega) (by omega), z 6 (by omega) (by omega), z 7 (by omega) (by omega), z 8 (by omega) (by omega), z 9 (by omega) (by omega), z 10 (by omega) (by omega), z 11 (by omega) (by omega), z 12 (by omega) (by omega), z 14 (by omega) (by omega)]
    exact q
theorem beg_two {I1 K1 I2 K2 : Nat → Nat → Int32} {O1 O2 : Nat → Nat → Option Nat} {n B : Nat} {s : Nat → Int32} (h1 : Inv2 I1 K1 O1) (h2 : Inv2 I2 K2 O2) (c1 : zHA I1 B) (c2 : zHA I2 B) (hB : B + 4000 < 1000000000) (hR1 : RR I1 1 s n) (hR2 : RR I2 1 s n) : ∃ r I1' O1' K1' I2' O2' K2' s', f_L_begin I1 O1 = some (r, I1', O1') ∧ f_L_begin I2 O2 = some (r, I2', O2') ∧ Inv2 I1' K1' O1' ∧ Inv2 I2' K2' O2' ∧ zHA I1' (B + 1) ∧ zHA I2' (B + 1) ∧ RR I1' 1 s' n ∧ RR I2' 1 s' n ∧ (0 < n → GQ n 0 s') ∧ ∀ a, 99 ≤ a → I2' a = I2 a := by
  have hn := rr_n hR1
  rcases Nat.eq_zero_or_pos n with z | h0
  · exact ⟨-4, I1, O1, K1, I2, O2, K2, s, r_begin hR1 z, r_begin hR2 z, h1, h2, c1.le (by omega), c2.le (by omega), hR1, hR2, fun h => absurd z (by omega), fun _ _ => rfl⟩
  · obtain ⟨A1, P1, a1, a2, a3, a4, a5⟩ := beg_one h1 hR1 h0
    obtain ⟨A2, P2, b1, b2, b3, b4, b5⟩ := beg_one h2 hR2 h0
    obtain ⟨q1, L1, hd1⟩ := d_begin K1
    obtain ⟨X1, Y1, e1, i1, g1⟩ := hd1 I1 O1 B h1 c1 (by omega)
    obtain ⟨q2, L2, hd2⟩ := d_begin K2
    obtain ⟨X2, Y2, e2, i2, g2⟩ := hd2 I2 O2 B h2 c2 (by omega)
    rw [a1] at e1
    rw [b1] at e2
    have e1 := Option.some.inj e1
    have e2 := Option.some.inj e2
    obtain rfl : A1 = X1 := congrArg (fun z => z.2.1) e1
    obtain rfl : P1 = Y1 := congrArg (fun z => z.2.2) e1
    obtain rfl : A2 = X2 := congrArg (fun z => z.2.1) e2
    obtain rfl : P2 = Y2 := congrArg (fun z => z.2.2) e2
    obtain ⟨m, hm⟩ := inv_n i1
    have hm8 := rr_n hm
    have : m = n := by
      have := rr_3 hm
      rw [a3.1, rr_3 hR1, pi_eq (by omega) (by omega)] at this; exact this.symm
    subst this
    have R1 := hR1.1.1
    have R2 := hR2.1.1
    refine ⟨nI m, A1, P1, L1, A2, P2, L2, L1 130, a1, b1, i1, i2, g1, g2, hm, RR_tr hm (inv_zz i2 1 isB1) (fun f f1 f2 => ?_) (fun k hk => by rw [b4, a4, hR2.1.2.1 k hk, hR1.1.2.1 k hk]) (fun b hb f f1 f2 => ?_), fun _ => ⟨?_, fun b hb => ⟨?_, ?_⟩⟩, b5⟩
    · have hf : f = 3 ∨ f = 4 ∨ f = 5 ∨ f = 6 ∨ f = 7 ∨ f = 8 ∨ f = 9 ∨ f = 10 ∨ f = 11 ∨ f = 12 ∨ f = 13 := by omega
      obtain ⟨y3, y4, y5, y6, y7, y8, y9, y10, y11, y12, y13⟩ := a3
      obtain ⟨x3, x4, x5, x6, x7, x8, x9, x10, x11, x12, x13⟩ := b3
      rcases hf with rfl | rfl | rfl | rfl | rfl | rfl | rfl | rfl | rfl | rfl | rfl
      · rw [x3, y3, R1.1, R2.1]
      · rw [x4, y4, R1.2.1, R2.2.1]
      · rw [x5, y5]
      · rw [x6, y6]
      · rw [x7, y7]
      · rw [x8, y8]
      · rw [x9, y9]
      · rw [x10, y10]
      · rw [x11, y11]
      · rw [x12, y12, R1.2.2.2.2.2.2.2.2.1, R2.2.2.2.2.2.2.2.2.1]
      · rw [x13, y13, R1.2.2.2.2.2.2.2.2.2, R2.2.2.2.2.2.2.2.2.2]
    · rw [a2 b hb, b2 b hb]
      have r1 := rr_b hR1 hb
      have r2 := rr_b hR2 hb
      have q1 : I2 (cB 1 b) 1 = I1 (cB 1 b) 1 := r2.1.trans r1.1.symm
      have q2 : I2 (cB 1 b) 2 = I1 (cB 1 b) 2 := r2.2.1.trans r1.2.1.symm
      have q3 : I2 (cB 1 b) 3 = I1 (cB 1 b) 3 := r2.2.2.1.trans r1.2.2.1.symm
      have q12 : I2 (cB 1 b) 12 = I1 (cB 1 b) 12 := r2.2.2.2.2.2.2.2.2.2.2.2.1.trans r1.2.2.2.2.2.2.2.2.2.2.2.1.symm
      have hf : f = 1 ∨ f = 2 ∨ f = 3 ∨ f = 4 ∨ f = 5 ∨ f = 6 ∨ f = 7 ∨ f = 8 ∨ f = 9 ∨ f = 10 ∨ f = 11 ∨ f = 12 ∨ f = 13 ∨ f = 14 := by omega
      rcases hf with rfl | rfl | rfl | rfl | rfl | rfl | rfl | rfl | rfl | rfl | rfl | rfl | rfl | rfl <;> simp [gs, q1, q2, q3, q12]
    · exact hm.1.1.2.2.1.symm.trans a3.2.2.1
    · rw [← (rr_b hm hb).2.2.2.1, a2 b hb]; simp [gs, tn]
    · rw [← (rr_b hm hb).2.2.2.2.2.2.2.2.1, a2 b hb]; simp [gs]
