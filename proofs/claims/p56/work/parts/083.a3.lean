section AH3
variable {I I' K : Nat → Nat → Int32} {O O' : Nat → Nat → Option Nat} {B : Nat}
theorem a_begin {r : Sum Nat Int32} (h : Inv2 I K O) (hc : zHA I B) (hB2 : B + 2 < 1000000000) (e : f_X7_begin I O = some (r, I', O')) : zHA I' (B + 1) := by
  unfold f_X7_begin at e
  split at e
  · simp only [Option.some.injEq, Prod.mk.injEq] at e; rw [← e.2.1]; exact hc.le (by omega)
  · obtain ⟨⟨I4, O5⟩, h4, e⟩ := hb_some e
    obtain ⟨J, hJ, e⟩ := hb_some e
    simp only [Option.some.injEq, Prod.mk.injEq] at e
    rw [← e.2.1]
    have c4 := save_ha h h4 hc
    obtain ⟨n, I1, O1, K1, s1, s2, s3, s4, s5, s6, s7, s8, s9⟩ := sv_step h
    rw [h4] at s1
    simp only [Option.some.injEq, Prod.mk.injEq] at s1
    obtain ⟨rfl, rfl⟩ := s1
    have hn := s3.2.2.2.1.1.2
    have h3 : I4 1 3 = nI n := s3.1.1.1.trans s3.2.2.2.1.1.1
    obtain ⟨n', hn', h3', hg, hh⟩ := c4 1 isB1 (by omega)
    obtain rfl : n' = n := by rw [h3] at h3'; rw [pi_eq (by omega) (by omega)] at h3'; exact h3'.symm
    obtain ⟨X, x1, x2, x3⟩ := x3_start_birds isB1 hn h3 s3.2.1
    unfold f_X3_startRace at hJ
    rw [show f_X3_startRace_L10 1 FU (0 : Int32) I4 = some X from x1] at hJ
    simp only [Option.bind_some, hlet_e] at hJ
    obtain rfl := Option.some.inj hJ
    have eb : X 1 = I4 1 := x2 1 (fun b hb => fun e => cB_ne e.symm)
    obtain ⟨g5, g6, g7, g9, g10, g11, g12, g13, gw, gr⟩ := hg
    have k12 := g12.e (by omega)
    have v12 : ∀ Y : Nat → Nat → Int32, Y 1 12 = X 1 12 → gup Y 1 12 (Y 1 12 + 1) 1 12 = nI (tn (I4 1 12) + 1) := fun Y hY => by
      rw [gup_at, hY, eb]; exact (congrArg (fun z => z + (1 : Int32)) k12.1).trans (pi_add _ 1)
    generalize hY : gup (gup (gup (gup (gup (gup (gup X 1 5 1) 1 6 0) 1 7 0) 1 8 0) 1 9 0) 1 10 0) 1 11 0 = Y
    have far : ∀ a, a ≠ 1 → Y a = X a := fun a ha => by rw [← hY, gup_ne ha, gup_ne ha, gup_ne ha, gup_ne ha, gup_ne ha, gup_ne ha, gup_ne ha]
    have y12 : Y 1 12 = X 1 12 := by rw [← hY, gup_i (by omega), gup_i (by omega), gup_i (by omega), gup_i (by omega), gup_i (by omega), gup_i (by omega), gup_i (by omega)]
    have y13 : Y 1 13 = X 1 13 := by rw [← hY, gup_i (by omega), gup_i (by omega), gup_i (by omega), gup_i (by omega), gup_i (by omega), gup_i (by omega), gup_i (by omega)]
    have y3 : Y 1 3 = X 1 3 := by rw [← hY, gup_i (by omega), gup_i (by omega), gup_i (by omega), gup_i (by omega), gup_i (by omega), gup_i (by omega), gup_i (by omega)]
    have y5 : Y 1 5 = 1 := by rw [← hY, gup_i (by omega), gup_i (by omega), gup_i (by omega), gup_i (by omega), gup_i (by omega), gup_i (by omega), gup_at]
    have y6 : Y 1 6 = 0 := by rw [← hY, gup_i (by omega), gup_i (by omega), gup_i (by omega), gup_i (by omega), gup_i (by omega), gup_at]
    have y7 : Y 1 7 = 0 := by rw [← hY, gup_i (by omega), gup_i (by omega), gup_i (by omega), gup_i (by omega), gup_at]
    have y8 : Y 1 8 = 0 := by rw [← hY, gup_i (by omega), gup_i (by omega), gup_i (by omega), gup_at]
    have y9 : Y 1 9 = 0 := by rw [← hY, gup_i (by omega), gup_i (by omega), gup_at]
    have y10 : Y 1 10 = 0 := by rw [← hY, gup_i (by omega), gup_at]
    have y11 : Y 1 11 = 0 := by rw [← hY, gup_at]
    have hv := v12 Y y12
    have z : ∀ f, f ≠ 12 → gup Y 1 12 (Y 1 12 + 1) 1 f = Y 1 f := fun f hf => gup_i hf
    have zb : ∀ b, b < n' → gup Y 1 12 (Y 1 12 + 1) (cB 1 b) = gs (I4 (cB 1 b)) 1 := fun b hb => by rw [gup_ne cB_ne, far _ cB_ne]; exact x3 b hb
    have b0 : Bd (0 : Int32) 0 (B + 1) := ⟨0, rfl, by omega, by omega⟩
    refine zHA.upd isB1 (c4.le (by omega)) (fun a _ ha => ?_) ⟨n', hn, ?_, ?_, ?_, fun b hb => ?_, fun b c hb hc s1 => ?_⟩
    · rw [gup_ne (by omega), far a (by omega)]
      exact x2 a (fun b hb => by unfold cB; omega)
    · rw [z 3 (by omega), y3, eb]; exact h3
    · unfold zHG
      rw [z 5 (by omega), z 6 (by omega), z 7 (by omega), z 9 (by omega), z 10 (by omega), z 11 (by omega), z 13 (by omega), hv, y5, y6, y7, y9, y10, y11, y13, eb]
      refine ⟨Or.inr rfl, b0, ⟨0, rfl, by omega, by omega⟩, b0, b0, b0, ⟨_, rfl, by omega, by omega⟩, g13.le (Nat.le_refl _) (by omega), ?_, fun _ => ?_⟩
      · rw [if_pos ⟨rfl, rfl⟩, tn_nI (by omega)]
        have : tn (I4 1 13) ≤ tn (I4 1 12) := by
          have := gw
          split at this <;> omega
        omega
      · rw [tn_nI (by omega)]; omega
    · rw [z 8 (by omega), y8]
      have key : ∀ m, m ≤ n' → sC (gup Y 1 12 (Y 1 12 + 1)) 1 m = 0 := by
        intro m
        induction m with
        | zero => intro _; rfl
        | succ m ih =>
          intro hm
          unfold sC
          rw [ih (by omega), zb m (by omega)]; rfl
      exact (key n' (Nat.le_refl _)).symm
    · rw [zb b hb]
      exact ⟨⟨0, rfl, by omega, by omega⟩, fun z => absurd z (by show ¬ ((1 : Int32) = 3); decide)⟩
    · rw [zb b hb] at s1
      exact absurd s1 (by show ¬ ((1 : Int32) = 3); decide)
theorem a_enter {a1 a2 a3 : Int32} {r : Sum Nat Int32} (h : Inv2 I K O) (hc : zHA I B) (hB2 : B + 2 < 1000000000) (e : f_X7_enter a1 a2 a3 I O = some (r, I', O')) : zHA I' B := by
  have stay : ∀ {k : Nat}, some ((Sum.inl k : Sum Nat Int32), I, O) = some (r, I', O') → zHA I' B := fun e => by
    simp only [Option.some.injEq, Prod.mk.injEq] at e; rw [← e.2.1]; exact hc
  unfold f_X7_enter at e
  obtain ⟨r1, -, e⟩ := hb_some e
  split at e
  · exact stay e
  split at e
  · exact stay e
  split at e
  · exact stay e
  split at e
  · exact stay e
  (split at e)
  rotate_left
  · exact stay e
  split at e
  · exact stay e
  next h8 =>
  (split at e)
  rotate_left
  · exact stay e
  next h5 =>
  obtain ⟨⟨I4, O5⟩, h4, e⟩ := hb_some e
  obtain ⟨⟨r7, J⟩, hJ, e⟩ := hb_some e
  simp only [Option.some.injEq, Prod.mk.injEq] at e
  rw [← e.2.1]
  have c4 := save_ha h h4 hc
  obtain ⟨n, I1, O1, K1, s1, s2, s3, s4, s5, s6, s7, s8, s9⟩ := sv_step h
  rw [h4] at s1
  simp only [Option.some.injEq, Prod.mk.injEq] at s1
  obtain ⟨rfl, rfl⟩ := s1
  have hn := s3.2.2.2.1.1.2
  have h3 : I4 1 3 = nI n := s3.1.1.1.trans s3.2.2.2.1.1.1
  have hn8 : n < 8 := by
    have : I 1 3 = nI n := by rw [← s7 1 (by omega)]; exact h3
    rw [this, show (8 : Int32) = nI 8 from rfl, pi_le (by omega) (by omega)] at h8; omega
  have h50 : I4 1 5 = 0 := by rw [s7 1 (by omega)]; exact h5
  obtain ⟨n', hn', h3', hg, hh⟩ := c4 1 isB1 (by omega)
  obtain rfl : n' = n := by rw [h3] at h3'; rw [pi_eq (by omega) (by omega)] at h3'; exact h3'.symm
  obtain ⟨X, x1, x2, x3, x4, x5, x6⟩ := x3_addSparrow (a1 := a1) (a2 := a2) (a3 := a3) hn8 h3 (s3.2.1 n' hn8).1
  rw [hJ] at x1
  simp only [Option.some.injEq, Prod.mk.injEq] at x1
  obtain ⟨rfl, rfl⟩ := x1
  obtain ⟨-, -, -, w4, w5, -, -, -, w9, -⟩ := x6
  obtain ⟨b8, bb, bm⟩ := hh
  have o : ∀ b, b < n' → J (cB 1 b) = I4 (cB 1 b) := fun b hb => x2 _ cB_ne (cB_inj (by omega))
  have st : ¬ (J (cB 1 n') 9 = 3) := by rw [w9]; decide
  refine zHA.upd isB1 c4 (fun a _ ha => x2 a (by omega) (by unfold cB; omega)) ⟨n' + 1, by omega, x4, ?_, ?_, fun b hb => ?_, fun b c hb hc s1 s2 hlt => ?_⟩
  · unfold zHG at hg ⊢
    rw [x3 5 (by omega), x3 6 (by omega), x3 7 (by omega), x3 9 (by omega), x3 10 (by omega), x3 11 (by omega), x3 12 (by omega), x3 13 (by omega)]
    exact hg
  · rw [x3 8 (by omega), b8]
    show sC I4 1 n' = sC J 1 n' + J (cB 1 n') 4
    rw [w4, sC_cg (X := J) (I := I4) (γ := 1) (fun b hb => by rw [o b hb])]
    exact (Int32.add_zero _).symm
  · by_cases eb : b < n'
    · rw [o b eb, x3 6 (by omega), x3 7 (by omega)]; exact bb b eb
    · obtain rfl : b = n' := by omega
      exact ⟨by rw [w5]; exact ⟨0, rfl, by omega, by omega⟩, fun z => absurd z st⟩
  · by_cases eb : b < n'
    · by_cases ec : c < n'
      · rw [o b eb] at s1 hlt ⊢
        rw [o c ec] at s2 hlt ⊢
        exact bm b c eb ec s1 s2 hlt
      · obtain rfl : c = n' := by omega
        exact absurd s2 st
    · obtain rfl : b = n' := by omega
      exact absurd s1 st
theorem a_keep {a : Int32} {r : Sum Nat Unit} (h : Inv2 I K O) (hc : zHA I B) (e : f_X7_keep a I = some (r, I')) : zHA I' B := by
  obtain ⟨n, h1⟩ := inv_n h
  unfold f_X7_keep at e
  obtain ⟨q1, -, e⟩ := hb_some e
  cases q1 with
  | inl k => have e := hsum_l e; simp only [Option.some.injEq, Prod.mk.injEq] at e; rw [← e.2]; exact hc
  | inr r1 =>
    have e := hsum_r e
    obtain ⟨J, hJ, e⟩ := hb_some e
    simp only [Option.some.injEq, Prod.mk.injEq] at e
    rw [← e.2]
    unfold f_X5_put at hJ
    split at hJ
    · obtain rfl := Option.some.inj hJ; exact hc
    · split at hJ
      · obtain rfl := Option.some.inj hJ; exact hc
      · · obtain ⟨hg, hJ⟩ := hg_some hJ
          obtain ⟨J2, hJ2, hJ⟩ := hb_some hJ
          obtain ⟨-, hJ⟩ := hg_some hJ
          simp only [hlet_e] at hJ
          obtain rfl := Option.some.inj hJ
          obtain ⟨t1, -⟩ := take_ha (isB_k (gin_lt hg)) isB1 (by omega) h1 hJ2 hc (hc 1 isB1 (by omega))
          exact t1.set (fun z => absurd z (by decide)) (fun z => absurd z (by decide))
theorem a_undo {r : Sum Nat Unit} (h : Inv2 I K O) (hc : zHA I B) (e : f_X7_undo I O = some (r, I')) : zHA I' B := by
  obtain ⟨n, p, len, h1, hZ, ⟨h25, h3, hp6, σ, s1, s2, s3⟩, _⟩ := h
  unfold f_X7_undo at e
  obtain ⟨⟨r2, J⟩, hJ, e⟩ := hb_some e
  unfold f_X4_dropLatest at hJ
  rw [h25] at hJ
  by_cases c0 : p = 0
  · subst c0
    rw [if_pos (show nI 0 ≤ 0 by decide)] at hJ
    simp only [Option.some.injEq, Prod.mk.injEq] at hJ
    obtain ⟨rfl, rfl⟩ := hJ
    dsimp only at e
    rw [hopt_e1] at e
    simp only [Option.some.injEq, Prod.mk.injEq] at e
    rw [← e.2]; exact hc
  · rw [if_neg (by rw [show (0 : Int32) = nI 0 from rfl, pi_le (by omega) (by omega)]; omega), if_pos (by rw [show (6 : Int32) = nI 6 from rfl, pi_le (by omega) (by omega)]; omega), show nI p - (1 : Int32) = nI (p - 1) from pi_sub (b := 1) (by omega), hlet_e, gup_at, pi_gin (by omega), decide_eq_true (by omega), hg_t, pi_tn (by omega), (s1 (p - 1) (by omega)).2, ov_some (sk_3 (s1 (p - 1) (by omega)).1), hlet_e] at hJ
    simp only [Option.some.injEq, Prod.mk.injEq] at hJ
    obtain ⟨rfl, rfl⟩ := hJ
    dsimp only at e
    rw [hopt_e2] at e
    obtain ⟨-, e⟩ := hk_some e
    obtain ⟨J2, hJ2, e⟩ := hb_some e
    simp only [Option.some.injEq, Prod.mk.injEq] at e
    rw [← e.2]
    obtain ⟨m, hm⟩ := s3 (p - 1) (by omega)
    have hm' : RR (gup I 25 1 (nI (p - 1))) (27 + 12 * σ (p - 1)) (fun k => K 132 (151 * (p - 1) + k)) m := RR_I (fun a h1 h2 => gup_ne (by omega)) hm
    have hc' : zHA (gup I 25 1 (nI (p - 1))) B := hc.set (fun z => absurd z (by decide)) (fun z => absurd z (by decide))
    exact (take_ha isB1 (isB_s (s1 (p - 1) (by omega)).1) (by omega) hm' hJ2 hc' (hc' _ (isB_s (s1 (p - 1) (by omega)).1) (by omega))).1
theorem a_goBack {a : Int32} {r : Sum Nat Unit} (h : Inv2 I K O) (hc : zHA I B) (e : f_X7_goBack a I O = some (r, I', O')) : zHA I' B := by
  unfold f_X7_goBack at e
  rcases slot_e a with ⟨k, hk, rfl, e1, -⟩ | ⟨e1, -⟩
  · rw [e1] at e
    simp only [Option.bind_some, hsum] at e
    rw [kept_e hk] at e
    by_cases c0 : I 101 k = 0
    · rw [if_pos c0] at e
      simp only [Option.bind_some, hopt_e1, Option.some.injEq, Prod.mk.injEq] at e
      rw [← e.2.1]; exact hc
    · rw [if_neg c0] at e
      simp only [Option.bind_some, hopt_e2] at e
      obtain ⟨-, e⟩ := hk_some e
      obtain ⟨⟨I4, O5⟩, h4, e⟩ := hb_some e
      obtain ⟨J, hJ, e⟩ := hb_some e
      simp only [Option.some.injEq, Prod.mk.injEq] at e
      rw [← e.2.1]
      have c4 := save_ha h h4 hc
      obtain ⟨n, I1, O1, K1, s1, s2, s3, s4, s5, s6, s7, s8, s9⟩ := sv_step h
      rw [h4] at s1
      simp only [Option.some.injEq, Prod.mk.injEq] at s1
      obtain ⟨rfl, rfl⟩ := s1
      have h101 : I4 101 k = I 101 k := by rw [(save_far h h4).1 101 (by omega) (by omega)]
      obtain ⟨n3, p3, len3, -, -, -, hs3, -⟩ := s4
      obtain ⟨b1, b2, b3⟩ := hs3 k hk
      have h11 : I4 101 k = 1 := by
        rcases b1 with e | e
        · rw [h101] at e; exact absurd e c0
        · exact e
      obtain ⟨m, hm⟩ := b3 h11
      exact (take_ha isB1 (isB_k hk) (by omega) hm hJ c4 (c4 _ (isB_k hk) (by omega))).1
  · rw [e1] at e
    simp only [Option.bind_some, hsum, Option.some.injEq, Prod.mk.injEq] at e
    rw [← e.2.1]; exact hc
end AH3
