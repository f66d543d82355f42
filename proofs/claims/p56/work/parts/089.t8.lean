/-! The law from its first call to its last. -/
theorem law_end {K1 K2 I1 I2 : Nat → Nat → Int32} {O1 O2 : Nat → Nat → Option Nat} {n B : Nat} {s : Nat → Int32} (h1 : Inv2 I1 K1 O1) (h2 : Inv2 I2 K2 O2) (c1 : zHA I1 B) (c2 : zHA I2 B) (hB : B + 2000 < 1000000000) (r1 : RR I1 1 s n) (r2 : RR I2 1 s n) : ((f_L_law_L565 (nI n) I1 I2 16 1 (0 : Int32)).bind fun p52 => if p52 = 0 then some (0 : Int32) else (f_L_hangs I1 O1).bind fun (r55, I1_53, O1_54) => if r55 = 0 then some (0 : Int32) else (f_L_hangs I2 O2).bind fun (r59, I2_57, O2_58) => if r59 = 0 then some (0 : Int32) else some (1 : Int32)) = some (1 : Int32) := by
  have hn := rr_n r1
  obtain ⟨A1, P1, a1, _⟩ := hang_all h1 c1 hB
  obtain ⟨A2, P2, a2, _⟩ := hang_all h2 c2 hB
  refine sq1 (l565_go r1 r2 n 0 16 (by omega) (by omega)) (ifn (by decide) ?_)
  refine sq1 a1 (ifn (by decide) ?_)
  exact sq1 a2 (ifn (by decide) rfl)
theorem ent_0 : ∃ Y Q, f_L_enter (22 : Int32) (700 : Int32) (0 : Int32) w0I w0O = some ((0 : Int32), Y, Q) := by
  obtain ⟨n, I3, O3, K3, s1, s2, s3, s4, s5, s6, s7, _⟩ := sv_step w0_inv
  have e3 : I3 1 3 = nI 0 := by rw [s7 1 (by omega)]; rfl
  have e0 : I3 (cB 1 0) 0 = nI 0 := by rw [s7 (cB 1 0) (by unfold cB; omega)]; rfl
  obtain ⟨X, x1, _⟩ := x3_addSparrow (a1 := 22) (a2 := 700) (a3 := 0) (by omega) e3 e0
  refine ⟨X, O3, ?_⟩
  unfold f_L_enter f_X7_enter
  refine sq1 (a := (Sum.inr (0 : Int32), X, O3)) ?_ rfl
  refine sq1 (a := (1 : Int32)) rfl ?_
  refine ifn (by decide) (ifn (by decide) (ifn (by decide) (ifn (by decide) (ifp (by decide) (ifn ?_ (ifp ?_ ?_))))))
  · rw [show w0I 1 3 = 0 from rfl]; decide
  · rfl
  · refine sq1 s1 ?_
    exact sq1 x1 rfl
set_option maxHeartbeats 4000000 in
set_option maxRecDepth 20000 in
theorem law_all {SL : Nat} {sx : Nat → Int32} {J1 J2 : Nat → Nat → Int64} : f_L_law SL sx w0I w0O J1 w0I w0O J2 = some (1 : Int32) := by
  have h0 := w0_inv
  obtain ⟨n0, hR0⟩ := inv_n h0
  have hn0 := rr_n hR0
  obtain rfl : n0 = 0 := by
    have := rr_3 hR0
    rw [show w0I 1 3 = nI 0 from rfl, pi_eq (by omega) (by omega)] at this; exact this.symm
  have e126 : w0I 126 1 = 0 := rfl
  have u1 : f_L_undo w0I w0O = some (-4, w0I) := by
    unfold f_L_undo f_X7_undo f_X4_dropLatest
    rw [show w0I 25 1 = 0 from rfl, if_pos (by decide)]; rfl
  have u2 : f_L_goBack (0 : Int32) w0I w0O = some (-4, w0I, w0O) := by
    unfold f_L_goBack f_X7_goBack
    rw [show f_X7_checkSlot (0 : Int32) = some (Sum.inr ()) from rfl]
    simp only [Option.bind_some, hsum]
    rw [show f_X5_kept (0 : Int32) w0I = some none from (kept_e (k := 0) (by omega)).trans (if_pos rfl)]; rfl
  obtain ⟨Xa, ra, fa, wa⟩ := read_0 e126
  have u3 : f_X7_firstError w0I = some (0, Xa) := by
    unfold f_X7_firstError
    exact sq1 ra rfl
  obtain ⟨Xb, rb, fb, wb⟩ := read_0 (I := Xa) (by rw [fa 126 (by omega)]; exact e126)
  have eb : Xb 126 1 = 0 := by rw [fb 126 (by omega), fa 126 (by omega)]; exact e126
  have u4 : f_L_follow Xa w0O = some (-3, Xb, w0O) := by
    unfold f_L_follow f_X7_follow
    refine sq1 (a := (Sum.inl 1, Xb, w0O)) ?_ rfl
    refine sq1 rb ?_
    refine ifn (by rw [eb]; decide) ?_
    exact sq1 wb (ifp rfl rfl)
  have fab : ∀ q, q ≠ 128 → Xb q = w0I q := fun q hq => (fb q hq).trans (fa q hq)
  have hb : Inv2 Xb w0I w0O := Inv2_J (fun a ha => fab a (by omega)) h0
  have cb : zHA Xb 0 := w0_ha.far (fun a ha => fab a (by unfold inR at ha; omega))
  have rb1 : RR Xb 1 (w0I 130) 0 := RR_I (fun a q1 q2 => fab a (by omega)) hR0
  have u5 := r_begin (O := w0O) rb1 rfl
  obtain ⟨Xc, Oc, u6, hc, cc⟩ := hang_all hb cb (by omega)
  obtain ⟨r, K0, hd⟩ := d_enter (22 : Int32) (700 : Int32) (0 : Int32) w0I
  obtain ⟨A1, P1, a1, a2, a3⟩ := hd Xc Oc 0 hc cc (by omega)
  obtain ⟨A2, P2, b1, b2, b3⟩ := hd w0I w0O 0 h0 w0_ha (by omega)
  obtain ⟨Y, Q, y1⟩ := ent_0
  rw [y1] at b1
  have b1 := Option.some.inj b1
  obtain rfl : 0 = r := congrArg (fun z => z.1) b1
  obtain rfl : Y = A2 := congrArg (fun z => z.2.1) b1
  obtain rfl : Q = P2 := congrArg (fun z => z.2.2) b1
  obtain ⟨X1, Q1, G1, X2, Q2, G2, K2, v1, p1, p2, p3, p4⟩ := l102_go (SL := SL) (sx := sx) 56 0 64 K0 A1 Y P1 Q J1 J2 0 (by omega) (by omega) ⟨a2, b2, a3, b3⟩ (by omega)
  obtain ⟨n, q1⟩ := inv_n p1
  obtain ⟨n2, q2⟩ := inv_n p2
  have l1 := rr_n q1
  have l2 := rr_n q2
  obtain rfl : n2 = n := by
    have e1 := (rr_w q1).1.1
    rw [(rr_w q2).1.1, pi_eq (by omega) (by omega)] at e1; exact e1
  have hC : Inv2 (gup X2 126 1 0) (gup K2 129 7 0) Q2 := Inv2_clear p2
  have cC : zHA (gup X2 126 1 0) (0 + 56 * 200000) := p4.far (fun a ha => gup_ne (by unfold inR at ha; omega))
  obtain ⟨rg, Y1, R1, L1, Y2, R2, L2, s', b1, b2, i1, i2, z1, z2, w1, w2, gq, fr⟩ := beg_two p1 hC p3 cC (by omega) q1 (RR_I (fun a h1 h2 => gup_ne (by omega)) q2)
  unfold f_L_law
  refine sq1 u1 ?_
  refine sq1 (a := ((1 : Int32), A1, P1, Y, Q)) ?_ ?_
  · refine ifp rfl ?_
    refine sq1 u2 (ifp rfl ?_)
    refine sq1 u3 (ifp rfl ?_)
    refine sq1 u4 (ifp rfl ?_)
    refine sq1 u5 (ifp rfl ?_)
    refine sq1 u6 (ifn (by decide) ?_)
    refine sq1 a1 (ifp rfl ?_)
    exact sq1 y1 (ifp rfl rfl)
  refine sq1 v1 ?_
  refine sq1 (a := (X2 126 1, gup X2 126 1 0)) rfl ?_
  refine sq1 (a := ((1 : Int32), Y1, R1, Y2, R2)) (ifn (by decide) (sq1 b1 (sq1 b2 (ifp rfl rfl)))) ?_
  refine sq1 (e_sparrows w1) ?_
  rcases Nat.eq_zero_or_pos n2 with zn | zn
  · subst zn
    refine sq1 (a := ((1 : Int32), X2 126 1, (0 : Int32), Y1, R1, Y2)) ?_ ?_
    · rw [f_L_law_L249]
      exact ifn (by decide) (ifn (by decide) (ifp (by decide) rfl))
    refine sq1 (a := ((1 : Int32), Y2, R2)) ?_ ?_
    · refine ifn (by decide) ?_
      refine hl1 ?_
      refine ifp rfl ?_
      exact j95_v w1 w2
    exact law_end i1 i2 z1 z2 (by omega) w1 w2
  · obtain ⟨len, Z1, S1, Z2, e1, K1', K2', c, os, s8, g1, g2, g3, g4, g5, g6, g7, g8, g9⟩ := l8_go (SL := SL) (sx := sx) (n := n2) (B0 := 0 + 56 * 200000 + 1) (s0 := s') (O2 := R2) (Ib := Y2) zn l1 (by omega) 8 0 16 (X2 126 1) 0 Y1 R1 Y2 (by omega) (by omega) (Or.inl rfl) ⟨L1, L2, fun _ => 0, [], s', i1, z1, w1, gq zn, i2, ⟨by rw [fr 126 (by omega), gup_at]; rfl, by omega, fun i hi => absurd hi (by omega)⟩, ⟨rfl, by omega, Or.inl ⟨rfl, rfl⟩⟩, rfl, fun _ _ => rfl⟩
    have hl : len ≤ 60 := g6.2.1
    have hch : ∀ k, k < len → 33 ≤ c k ∧ c k ≤ 126 := fun k hk => ⟨(g6.2.2 k hk).1, (g6.2.2 k hk).2.1⟩
    obtain ⟨t1, t2, t3⟩ := g7
    have hs : Segs c len os 0 := by
      rcases t3 with ⟨q, _⟩ | ⟨_, q⟩
      · omega
      · exact q
    obtain ⟨Za, ya, _, fya⟩ := fe_v hl hch g6 hs
    have f1 : f_X7_firstError Z2 = some (nI len, Za) := by
      unfold f_X7_firstError
      exact sq1 ya rfl
    have ia : Inv2 Za K2' R2 := Inv2_J (fun a ha => fya a (by omega)) g5
    have ra2 : RR Za 1 s' n2 := RR_I (fun a h1 h2 => (fya a (by omega)).trans (g9 a (by omega))) w2
    have ca : zHA Za (0 + 56 * 200000 + 1) := z2.far (fun a ha => (fya a (by unfold inR at ha; omega)).trans (g9 a (by unfold inR at ha; omega)))
    obtain ⟨Zb, S2, f2, rb2⟩ := foll_v ia ra2 hl hch (g6.k fya) hs g8 (by omega)
    obtain ⟨rf, Kf, hdf⟩ := d_follow K2'
    obtain ⟨Zb', S2', f3, ib, cb2⟩ := hdf Za R2 _ ia ca (by omega)
    rw [f2] at f3
    have f3 := Option.some.inj f3
    obtain rfl : Zb = Zb' := congrArg (fun z => z.2.1) f3
    obtain rfl : S2 = S2' := congrArg (fun z => z.2.2) f3
    refine sq1 e1 ?_
    refine sq1 (a := ((1 : Int32), Zb, S2)) ?_ ?_
    · refine ifn (by decide) ?_
      refine hl1 ?_
      refine ifn (by rw [show (0 : Int32) = nI 0 from rfl, pi_eq (by omega) (by omega)]; omega) ?_
      refine sq1 f1 (ifp rfl ?_)
      refine sq1 f2 (ifp (by rw [t1]) ?_)
      exact j95_v g3 rb2
    exact law_end g1 ib (g2.le (by omega)) cb2 (by omega) g3 rb2
