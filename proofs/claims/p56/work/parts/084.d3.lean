theorem sp_b {σ : Nat} (h : σ < 6) : 27 ≤ 27 + 12 * σ ∧ 27 + 12 * σ + 12 ≤ 99 := by omega
theorem d_keep (a : Int32) : DET (fun I O => (f_L_keep a I).bind fun y => some (y.1, y.2, O)) 0 := by
  intro K
  rcases slot_e a with ⟨k, hk, rfl, e1, -⟩ | ⟨e1, -⟩
  rotate_left
  · refine ⟨-3, K, fun I O B hI hc _ => ⟨I, O, ?_, hI, hc⟩⟩
    unfold f_L_keep f_X7_keep
    rw [e1]; rfl
  obtain ⟨K', hK'⟩ : ∃ K' : Nat → Nat → Int32, K' = fun b => if b = 133 then (fun j => if 151 * k ≤ j ∧ j < 151 * k + 151 then K 130 (j - 151 * k) else K 133 j) else if b = 134 then (fun j => if j = k then 1 else K 134 j) else K b := ⟨_, rfl⟩
  have kf : ∀ b, b ≠ 133 → b ≠ 134 → K' b = K b := fun b z1 z2 => by rw [hK']; simp only [if_neg z1, if_neg z2]
  have kin : ∀ q, q < 151 → K' 133 (151 * k + q) = K 130 q := fun q hq => by
    rw [hK']
    simp only [if_true]
    rw [if_pos (by omega), show 151 * k + q - 151 * k = q by omega]
  have kout : ∀ j, (j < 151 * k ∨ 151 * k + 151 ≤ j) → K' 133 j = K 133 j := fun j hj => by
    rw [hK']
    simp only [if_true]
    rw [if_neg (by omega)]
  have k34 : ∀ j, K' 134 j = if j = k then 1 else K 134 j := fun j => by rw [hK']; rfl
  refine ⟨1, K', fun I O B hI hc _ => ?_⟩
  have hh := hI
  obtain ⟨n, p, len, h1, h2, h3, h4, h5, h6, h7, h8⟩ := hh
  have hBk := isB_k hk
  obtain ⟨X, x1, x2, x3, x4, x5, x6⟩ := x3_take (β := 102 + 12 * k) (γ := 1) hBk isB1 (by omega) h1.2.1 h1.gz5
  have hRX : RR X (102 + 12 * k) (K 130) n := take_RR (h2 _ hBk) h1 x3 x4 x5 x6
  have cX : ∀ b, b ≠ 101 → b < 102 + 12 * k ∨ 102 + 12 * k + 12 ≤ b → gup X 101 k 1 b = I b := fun b hb hr => (gup_ne hb).trans (x2 b hr)
  refine ⟨gup X 101 k 1, O, ?_, ?_, ?_⟩
  · unfold f_L_keep f_X7_keep
    rw [e1]
    simp only [Option.bind_some, hsum]
    unfold f_X5_put
    have c0 : ¬ (nI k < 0) := by rw [show (0 : Int32) = nI 0 from rfl, pi_lt (by omega) (by omega)]; omega
    have c2 : ¬ ((2 : Int32) ≤ nI k) := by rw [show (2 : Int32) = nI 2 from rfl, pi_le (by omega) (by omega)]; omega
    rw [if_neg c0, if_neg c2, if_neg c2, pi_gin (by omega), decide_eq_true hk, hg_t, pi_tn (by omega), x1]
    simp only [Option.bind_some, hg_t, hlet_e]
  · obtain ⟨s1, s2, s3, σ, s4, s5, s6⟩ := h3
    refine ⟨n, p, len, ?_, fun β hβ => ?_, ⟨?_, ?_, s3, σ, s4, s5, fun i hi => ?_⟩, fun j hj => ?_, ?_, ?_, h7, fun i hi => ?_⟩
    · rw [kf 130 (by omega) (by omega)]
      exact RR_I (fun b q1 q2 => cX b (by omega) (by omega)) h1
    · by_cases eβ : β = 102 + 12 * k
      · rw [eβ]
        exact RZ_I (fun b q1 q2 => gup_ne (by omega)) hRX.2.1
      · have hd := base_disj hβ hBk eβ
        have hb : β + 12 ≤ 101 ∨ 102 ≤ β := by rcases hβ with rfl | rfl | ⟨k, hk, rfl⟩ | rfl | rfl <;> omega
        exact RZ_I (fun b q1 q2 => cX b (by omega) (by omega)) (h2 β hβ)
    · rw [cX 25 (by omega) (by omega)]; exact s1
    · rw [kf 129 (by omega) (by omega)]; exact s2
    · obtain ⟨m, hm⟩ := s6 i hi
      have := (s4 i (by omega)).1
      rw [kf 132 (by omega) (by omega)]
      exact ⟨m, RR_I (fun b q1 q2 => cX b (by omega) (by omega)) hm⟩
    · have z101 : ∀ q, gup X 101 k 1 101 q = if q = k then 1 else I 101 q := by
        intro q
        by_cases c : q = k
        · rw [if_pos c, c, gup_at]
        · rw [if_neg c, gup_i c, x2 101 (by omega)]
      rw [z101, k34]
      by_cases c : j = k
      · subst c
        rw [if_pos rfl, if_pos rfl]
        refine ⟨Or.inr rfl, rfl, fun _ => ⟨n, ?_⟩⟩
        exact RR_I (fun b q1 q2 => gup_ne (by omega)) (RR_s (s := K 130) (fun q hq => kin q hq) hRX)
      · rw [if_neg c, if_neg c]
        obtain ⟨a1, a2, a3⟩ := h4 j hj
        refine ⟨a1, a2, fun hq => ?_⟩
        obtain ⟨m, hm⟩ := a3 hq
        exact ⟨m, RR_I (fun b q1 q2 => cX b (by omega) (by omega)) (RR_s (s := fun q => K 133 (151 * j + q)) (fun q hq => kout _ (by omega)) hm)⟩
    · rw [cX 126 (by omega) (by omega)]; exact h5
    · rw [kf 129 (by omega) (by omega)]; exact h6
    · rw [cX 127 (by omega) (by omega), kf 135 (by omega) (by omega)]; exact h8 i hi
  · exact (hc.take hBk (hc 1 isB1 (by omega)) x2 x3 x6).set (fun z => absurd z (by decide)) (fun z => absurd z (by decide))
theorem d_goBack (a : Int32) : DET (f_L_goBack a) 0 := by
  intro K
  by_cases hne : ∃ I O, Inv2 I K O
  rotate_left
  · exact DAt.no hne 0
  obtain ⟨I0, O0, h0⟩ := hne
  rcases slot_e a with ⟨k, hk, rfl, e1, -⟩ | ⟨e1, -⟩
  rotate_left
  · refine ⟨-3, K, fun I O B hI hc _ => ⟨I, O, ?_, hI, hc⟩⟩
    unfold f_L_goBack f_X7_goBack
    rw [e1]; rfl
  have ck : ∀ I O, Inv2 I K O → f_X5_kept (nI k) I = if K 134 k = 0 then some none else some (some (102 + 12 * k)) := fun I O hI => by
    obtain ⟨n, p, len, h1, h2, h3, h4, _⟩ := hI
    rw [kept_e hk, (h4 k hk).2.1]
  by_cases c0 : K 134 k = 0
  · refine ⟨-4, K, fun I O B hI hc _ => ⟨I, O, ?_, hI, hc⟩⟩
    unfold f_L_goBack f_X7_goBack
    rw [e1]
    simp only [Option.bind_some, hsum]
    rw [ck I O hI, if_pos c0]; rfl
  obtain ⟨n0, I1', O1', K1, t1, t2, _⟩ := sv_step h0
  obtain ⟨K', hK'⟩ : ∃ K' : Nat → Nat → Int32, K' = fun b => if b = 130 then (fun j => K1 133 (151 * k + j)) else K1 b := ⟨_, rfl⟩
  have kf : ∀ b, b ≠ 130 → K' b = K1 b := fun b z => by rw [hK']; simp only [if_neg z]
  have k130 : K' 130 = fun j => K1 133 (151 * k + j) := by rw [hK']; rfl
  refine ⟨1, K', fun I O B hI hc _ => ?_⟩
  obtain ⟨n, I1, O1, K2, s1, s2, s3, s4, s5, s6, s7, s8, s9⟩ := sv_step hI
  rw [t2] at s2
  obtain rfl := Option.some.inj s2
  have hc1 := save_ha hI s1 hc
  have h11 : I1 101 k = 1 := by
    rw [(save_far hI s1).1 101 (by omega) (by omega)]
    obtain ⟨n, p, len, h1, h2, h3, h4, _⟩ := hI
    rcases (h4 k hk).1 with e | e
    · rw [← (h4 k hk).2.1] at e; exact absurd e c0
    · exact e
  have s4' := s4
  obtain ⟨n3, p3, len3, r3, z3, -, hs3, -⟩ := s4'
  obtain ⟨m, hm⟩ := (hs3 k hk).2.2 h11
  obtain ⟨X, x1, x2, x3, x4, x5, x6⟩ := x3_take (I := I1) isB1 (isB_k hk) (by omega) hm.2.1 hm.gz5
  have hRX := take_RR (z3 1 isB1) hm x3 x4 x5 x6
  refine ⟨X, O1, ?_, ?_, hc1.take isB1 (hc1 _ (isB_k hk) (by omega)) x2 x3 x6⟩
  · unfold f_L_goBack f_X7_goBack
    rw [e1]
    simp only [Option.bind_some, hsum]
    rw [ck I O hI, if_neg c0]
    simp only [Option.bind_some, hopt_e2]
    rw [hk_e (sk_k hk), s1]
    simp only [Option.bind_some]
    rw [x1]; rfl
  · exact Inv2_nowJ (n := m) s4 (fun q z1 z2 => x2 q (by omega)) (RZ_I (fun q z1 z2 => x2 q (by omega)) (z3 13 isB13)) (by rw [k130]; exact hRX) (fun q z1 z2 => kf q (by omega)) (by rw [kf 129 (by omega)]) (by rw [kf 129 (by omega)]) rfl
theorem d_undo : DET (fun I O => (f_L_undo I O).bind fun y => some (y.1, y.2, O)) 0 := by
  intro K
  by_cases hne : ∃ I O, Inv2 I K O
  rotate_left
  · exact DAt.no hne 0
  obtain ⟨I0, O0, h0⟩ := hne
  obtain ⟨n0, p, len0, _, _, ⟨_, k3, hp6, _⟩, _⟩ := h0
  by_cases c0 : p = 0
  · subst c0
    refine ⟨-4, K, fun I O B hI hc _ => ⟨I, O, ?_, hI, hc⟩⟩
    obtain ⟨n, p', len, h1, hZ, ⟨h25, h3, _⟩, _⟩ := hI
    obtain rfl : p' = 0 := by rw [k3, pi_eq (by omega) (by omega)] at h3; exact h3.symm
    unfold f_L_undo f_X7_undo f_X4_dropLatest
    dsimp only
    rw [h25, if_pos (show nI 0 ≤ 0 by decide)]; rfl
  obtain ⟨K', hK'⟩ : ∃ K' : Nat → Nat → Int32, K' = fun b => if b = 129 then (fun f => if f = 3 then nI (p - 1) else K 129 f) else if b = 130 then (fun j => K 132 (151 * (p - 1) + j)) else K b := ⟨_, rfl⟩
  have kf : ∀ b, b ≠ 129 → b ≠ 130 → K' b = K b := fun b z1 z2 => by rw [hK']; simp only [if_neg z1, if_neg z2]
  have k130 : K' 130 = fun j => K 132 (151 * (p - 1) + j) := by rw [hK']; rfl
  have k1293 : K' 129 3 = nI (p - 1) := by rw [hK']; rfl
  have k1297 : K' 129 7 = K 129 7 := by rw [hK']; rfl
  refine ⟨1, K', fun I O B hI hc _ => ?_⟩
  obtain ⟨n, p', len, h1, hZ, ⟨h25, h3, hp6', σ, s1, s2, s3⟩, h6, h5, h7, hl, h8⟩ := hI
  obtain rfl : p' = p := by rw [k3, pi_eq (by omega) (by omega)] at h3; exact h3.symm
  have hσ := (s1 (p' - 1) (by omega)).1
  obtain ⟨m, hm⟩ := s3 (p' - 1) (by omega)
  have hm' : RR (gup I 25 1 (nI (p' - 1))) (27 + 12 * σ (p' - 1)) (fun k => K 132 (151 * (p' - 1) + k)) m := RR_I (fun a h1 h2 => gup_ne (by omega)) hm
  obtain ⟨X, x1, x2, x3, x4, x5, x6⟩ := x3_take (I := gup I 25 1 (nI (p' - 1))) isB1 (isB_s hσ) (by omega) hm'.2.1 hm'.gz5
  have hZ1 : RZ (gup I 25 1 (nI (p' - 1))) 1 := RZ_I (fun a h1 h2 => gup_ne (by omega)) (hZ 1 isB1)
  have hRX := take_RR hZ1 hm' x3 x4 x5 x6
  have xf : ∀ a, 13 ≤ a → a ≠ 25 → X a = I a := fun a z1 z2 => (x2 a (by omega)).trans (gup_ne z2)
  refine ⟨X, O, ?_, ?_, ?_⟩
  · unfold f_L_undo f_X7_undo f_X4_dropLatest
    dsimp only
    rw [h25, if_neg (by rw [show (0 : Int32) = nI 0 from rfl, pi_le (by omega) (by omega)]; omega), if_pos (by rw [show (6 : Int32) = nI 6 from rfl, pi_le (by omega) (by omega)]; omega), show nI p' - (1 : Int32) = nI (p' - 1) from pi_sub (b := 1) (by omega), hlet_e, gup_at, pi_gin (by omega), decide_eq_true (by omega), hg_t, pi_tn (by omega), (s1 (p' - 1) (by omega)).2, ov_some (sk_3 hσ), hlet_e]
    simp only [Option.bind_some, hopt_e2]
    rw [hk_e (sk_3 hσ), x1]; rfl
  · refine ⟨m, p' - 1, len, by rw [k130]; exact hRX, fun β hβ => ?_, ⟨?_, k1293, by omega, σ, s1, s2, fun i hi => ?_⟩, fun j hj => ?_, ?_, by rw [k1297]; exact h7, hl, fun i hi => ?_⟩
    · by_cases eβ : β = 1
      · rw [eβ]; exact hRX.2.1
      · have hb : 13 ≤ β ∧ (β + 12 ≤ 25 ∨ 26 ≤ β) := by rcases hβ with rfl | rfl | ⟨k, hk, rfl⟩ | rfl | rfl <;> omega
        exact RZ_I (fun a z1 z2 => xf a (by omega) (by omega)) (hZ β hβ)
    · rw [x2 25 (by omega), gup_at]
    · obtain ⟨m2, hm2⟩ := s3 i (by omega)
      have := (s1 i (by omega)).1
      rw [kf 132 (by omega) (by omega)]
      exact ⟨m2, RR_I (fun a z1 z2 => xf a (by omega) (by omega)) hm2⟩
    · obtain ⟨a1, a2, a3⟩ := h6 j hj
      rw [xf 101 (by omega) (by omega), kf 134 (by omega) (by omega), kf 133 (by omega) (by omega)]
      refine ⟨a1, a2, fun hq => ?_⟩
      obtain ⟨m2, hm2⟩ := a3 hq
      exact ⟨m2, RR_I (fun a z1 z2 => xf a (by omega) (by omega)) hm2⟩
    · rw [xf 126 (by omega) (by omega)]; exact h5
    · rw [xf 127 (by omega) (by omega), kf 135 (by omega) (by omega)]; exact h8 i hi
  · have hc' : zHA (gup I 25 1 (nI (p' - 1))) B := hc.set (fun z => absurd z (by decide)) (fun z => absurd z (by decide))
    exact hc'.take isB1 (hc' _ (isB_s hσ) (by omega)) x2 x3 x6
