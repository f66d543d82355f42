def TP (s t : Nat → Int32) (b : Nat) : Prop := t (16 * b + 0) = s (16 * b + 0) ∧ t (16 * b + 1) = s (16 * b + 1) ∧ t (16 * b + 2) = s (16 * b + 2) ∧ t (16 * b + 3) = s (16 * b + 1) ∧ t (16 * b + 4) = 0 ∧ t (16 * b + 5) = s (16 * b + 2) ∧ t (16 * b + 6) = 1 ∧ t (16 * b + 7) = 0 ∧ t (16 * b + 8) = 0 ∧ t (16 * b + 9) = 0 ∧ t (16 * b + 10) = s (16 * b + 10) ∧ t (16 * b + 11) = 0 ∧ t (16 * b + 12) = 0
theorem x8_begin_birds {K : Nat → Nat → Int32} {n : Nat} (hn : n ≤ 8) (h : K 130 128 = nI n) : ∃ Y, f_X8_begin_L31 FU 0 K = some Y ∧ (∀ a, a ≠ 130 → Y a = K a) ∧ (∀ i, 16 * n ≤ i → Y 130 i = K 130 i) ∧ (∀ b, b < n → TP (K 130) (Y 130) b) := by
  have := loop_go (fun fuel k (st : Nat → Nat → Int32) => f_X8_begin_L31 fuel k st) n (fun k X => (∀ a, a ≠ 130 → X a = K a) ∧ (∀ i, 16 * k ≤ i → X 130 i = K 130 i) ∧ (∀ b, b < k → TP (K 130) (X 130) b)) (fun X => (∀ a, a ≠ 130 → X a = K a) ∧ (∀ i, 16 * n ≤ i → X 130 i = K 130 i) ∧ (∀ b, b < n → TP (K 130) (X 130) b)) ?_ FU 0 K (by omega) ⟨fun _ _ => rfl, fun _ _ => rfl, fun b hb => absurd hb (by omega)⟩ (by unfold FU; omega)
  · exact this
  · rintro k X hk ⟨e1, e2, e3⟩
    have x128 : X 130 128 = nI n := by rw [e2 128 (by omega)]; exact h
    rcases Nat.lt_or_ge k n with hlt | hge
    · right
      have g1 : gin ((16 : Int32) * nI k + (1 : Int32)) 151 = true := ixg (g := 1) (by omega) (by omega)
      have j1 : ((16 : Int32) * nI k + (1 : Int32)).toNatClampNeg = 16 * k + 1 := ix (g := 1) (by omega) (by omega)
      have g2 : gin ((16 : Int32) * nI k + (2 : Int32)) 151 = true := ixg (g := 2) (by omega) (by omega)
      have j2 : ((16 : Int32) * nI k + (2 : Int32)).toNatClampNeg = 16 * k + 2 := ix (g := 2) (by omega) (by omega)
      have g3 : gin ((16 : Int32) * nI k + (3 : Int32)) 151 = true := ixg (g := 3) (by omega) (by omega)
      have j3 : ((16 : Int32) * nI k + (3 : Int32)).toNatClampNeg = 16 * k + 3 := ix (g := 3) (by omega) (by omega)
      have g4 : gin ((16 : Int32) * nI k + (4 : Int32)) 151 = true := ixg (g := 4) (by omega) (by omega)
      have j4 : ((16 : Int32) * nI k + (4 : Int32)).toNatClampNeg = 16 * k + 4 := ix (g := 4) (by omega) (by omega)
      have g5 : gin ((16 : Int32) * nI k + (5 : Int32)) 151 = true := ixg (g := 5) (by omega) (by omega)
      have j5 : ((16 : Int32) * nI k + (5 : Int32)).toNatClampNeg = 16 * k + 5 := ix (g := 5) (by omega) (by omega)
      have g6 : gin ((16 : Int32) * nI k + (6 : Int32)) 151 = true := ixg (g := 6) (by omega) (by omega)
      have j6 : ((16 : Int32) * nI k + (6 : Int32)).toNatClampNeg = 16 * k + 6 := ix (g := 6) (by omega) (by omega)
      have g7 : gin ((16 : Int32) * nI k + (7 : Int32)) 151 = true := ixg (g := 7) (by omega) (by omega)
      have j7 : ((16 : Int32) * nI k + (7 : Int32)).toNatClampNeg = 16 * k + 7 := ix (g := 7) (by omega) (by omega)
      have g8 : gin ((16 : Int32) * nI k + (8 : Int32)) 151 = true := ixg (g := 8) (by omega) (by omega)
      have j8 : ((16 : Int32) * nI k + (8 : Int32)).toNatClampNeg = 16 * k + 8 := ix (g := 8) (by omega) (by omega)
      have g9 : gin ((16 : Int32) * nI k + (9 : Int32)) 151 = true := ixg (g := 9) (by omega) (by omega)
      have j9 : ((16 : Int32) * nI k + (9 : Int32)).toNatClampNeg = 16 * k + 9 := ix (g := 9) (by omega) (by omega)
      have g11 : gin ((16 : Int32) * nI k + (11 : Int32)) 151 = true := ixg (g := 11) (by omega) (by omega)
      have j11 : ((16 : Int32) * nI k + (11 : Int32)).toNatClampNeg = 16 * k + 11 := ix (g := 11) (by omega) (by omega)
      have g12 : gin ((16 : Int32) * nI k + (12 : Int32)) 151 = true := ixg (g := 12) (by omega) (by omega)
      have j12 : ((16 : Int32) * nI k + (12 : Int32)).toNatClampNeg = 16 * k + 12 := ix (g := 12) (by omega) (by omega)
      refine ⟨hlt, gup (gup (gup (gup (gup (gup (gup (gup (gup X 130 (16 * k + 3) (X 130 (16 * k + 1))) 130 (16 * k + 5) (X 130 (16 * k + 2))) 130 (16 * k + 4) 0) 130 (16 * k + 6) 1) 130 (16 * k + 7) 0) 130 (16 * k + 8) 0) 130 (16 * k + 9) 0) 130 (16 * k + 11) 0) 130 (16 * k + 12) 0, ⟨fun a ha => ?_, fun i hi => ?_, fun b hb => ?_⟩, fun fuel => ?_⟩
      · rw [gup_ne ha, gup_ne ha, gup_ne ha, gup_ne ha, gup_ne ha, gup_ne ha, gup_ne ha, gup_ne ha, gup_ne ha]; exact e1 a ha
      · rw [gup_i (by omega), gup_i (by omega), gup_i (by omega), gup_i (by omega), gup_i (by omega), gup_i (by omega), gup_i (by omega), gup_i (by omega), gup_i (by omega)]; exact e2 i (by omega)
      · by_cases c : b = k
        · rw [c]
          exact ⟨by rw [gup_i (by omega), gup_i (by omega), gup_i (by omega), gup_i (by omega), gup_i (by omega), gup_i (by omega), gup_i (by omega), gup_i (by omega), gup_i (by omega)]; exact e2 _ (by omega), by rw [gup_i (by omega), gup_i (by omega), gup_i (by omega), gup_i (by omega), gup_i (by omega), gup_i (by omega), gup_i (by omega), gup_i (by omega), gup_i (by omega)]; exact e2 _ (by omega), by rw [gup_i (by omega), gup_i (by omega), gup_i (by omega), gup_i (by omega), gup_i (by omega), gup_i (by omega), gup_i (by omega), gup_i (by omega), gup_i (by omega)]; exact e2 _ (by omega), by rw [gup_i (by omega), gup_i (by omega), gup_i (by omega), gup_i (by omega), gup_i (by omega), gup_i (by omega), gup_i (by omega), gup_i (by omega), gup_at]; exact e2 _ (by omega), by rw [gup_i (by omega), gup_i (by omega), gup_i (by omega), gup_i (by omega), gup_i (by omega), gup_i (by omega), gup_at], by rw [gup_i (by omega), gup_i (by omega), gup_i (by omega), gup_i (by omega), gup_i (by omega), gup_i (by omega), gup_i (by omega), gup_at]; exact e2 _ (by omega), by rw [gup_i (by omega), gup_i (by omega), gup_i (by omega), gup_i (by omega), gup_i (by omega), gup_at], by rw [gup_i (by omega), gup_i (by omega), gup_i (by omega), gup_i (by omega), gup_at], by rw [gup_i (by omega), gup_i (by omega), gup_i (by omega), gup_at], by rw [gup_i (by omega), gup_i (by omega), gup_at], by rw [gup_i (by omega), gup_i (by omega), gup_i (by omega), gup_i (by omega), gup_i (by omega), gup_i (by omega), gup_i (by omega), gup_i (by omega), gup_i (by omega)]; exact e2 _ (by omega), by rw [gup_i (by omega), gup_at], gup_at⟩
        · have ee : ∀ j, j < 16 → (gup (gup (gup (gup (gup (gup (gup (gup (gup X 130 (16 * k + 3) (X 130 (16 * k + 1))) 130 (16 * k + 5) (X 130 (16 * k + 2))) 130 (16 * k + 4) 0) 130 (16 * k + 6) 1) 130 (16 * k + 7) 0) 130 (16 * k + 8) 0) 130 (16 * k + 9) 0) 130 (16 * k + 11) 0) 130 (16 * k + 12) 0) 130 (16 * b + j) = X 130 (16 * b + j) := fun j hj => by
            rw [gup_i (by omega), gup_i (by omega), gup_i (by omega), gup_i (by omega), gup_i (by omega), gup_i (by omega), gup_i (by omega), gup_i (by omega), gup_i (by omega)]
          obtain ⟨p0, p1, p2, p3, p4, p5, p6, p7, p8, p9, p10, p11, p12⟩ := e3 b (by omega)
          exact ⟨by rw [ee 0 (by omega)]; exact p0, by rw [ee 1 (by omega)]; exact p1, by rw [ee 2 (by omega)]; exact p2, by rw [ee 3 (by omega)]; exact p3, by rw [ee 4 (by omega)]; exact p4, by rw [ee 5 (by omega)]; exact p5, by rw [ee 6 (by omega)]; exact p6, by rw [ee 7 (by omega)]; exact p7, by rw [ee 8 (by omega)]; exact p8, by rw [ee 9 (by omega)]; exact p9, by rw [ee 10 (by omega)]; exact p10, by rw [ee 11 (by omega)]; exact p11, by rw [ee 12 (by omega)]; exact p12⟩
      · show f_X8_begin_L31 (fuel+1) (nI k) X = _
        rw [f_X8_begin_L31, t128, x128, if_neg (by rw [pi_le (by omega) (by omega)]; omega)]
        simp only [g1, g2, g3, g4, g5, g6, g7, g8, g9, g11, g12, hg_t, hlet_e, j1, j2, j3, j4, j5, j6, j7, j8, j9, j11, j12]
        rw [show gup X 130 (16 * k + 3) (X 130 (16 * k + 1)) 130 (16 * k + 2) = X 130 (16 * k + 2) from gup_i (by omega), show nI k + (1 : Int32) = nI (k + 1) from pi_add k 1]
    · left
      have : k = n := by omega
      subst this
      refine ⟨X, fun fuel => ?_, e1, e2, e3⟩
      show f_X8_begin_L31 (fuel+1) (nI k) X = _
      rw [f_X8_begin_L31, t128, x128, if_pos (by rw [pi_le (by omega) (by omega)]; omega)]
theorem x8_begin_acc {K : Nat → Nat → Int32} : ∃ Y, f_X8_begin_L177 FU 144 K = some Y ∧ (∀ a, a ≠ 130 → Y a = K a) ∧ (∀ i, 144 ≤ i → i < 148 → Y 130 i = 0) ∧ (∀ i, i < 144 ∨ 148 ≤ i → Y 130 i = K 130 i) := by
  have := loop_go (fun fuel k (st : Nat → Nat → Int32) => f_X8_begin_L177 fuel k st) 148 (fun k X => 144 ≤ k ∧ (∀ a, a ≠ 130 → X a = K a) ∧ (∀ i, 144 ≤ i → i < k → X 130 i = 0) ∧ (∀ i, i < 144 ∨ 148 ≤ i → X 130 i = K 130 i)) (fun X => (∀ a, a ≠ 130 → X a = K a) ∧ (∀ i, 144 ≤ i → i < 148 → X 130 i = 0) ∧ (∀ i, i < 144 ∨ 148 ≤ i → X 130 i = K 130 i)) ?_ FU 144 K (by omega) ⟨by omega, fun _ _ => rfl, fun i h1 h2 => absurd h2 (by omega), fun _ _ => rfl⟩ (by unfold FU; omega)
  · exact this
  · rintro k X hk ⟨e0, e1, e2, e3⟩
    rcases Nat.lt_or_ge k 148 with hlt | hge
    · right
      refine ⟨hlt, gup X 130 k 0, ⟨by omega, fun a ha => (gup_ne ha).trans (e1 a ha), fun i h1 h2 => ?_, fun i hi => ?_⟩, fun fuel => ?_⟩
      · by_cases c : i = k
        · rw [c, gup_at]
        · rw [gup_i c]; exact e2 i h1 (by omega)
      · rw [gup_i (by omega)]; exact e3 i hi
      · show f_X8_begin_L177 (fuel+1) (nI k) X = _
        rw [f_X8_begin_L177, if_neg (by rw [show (147 : Int32) = nI 147 from rfl, pi_lt (by omega) (by omega)]; omega), pi_gin (by omega), decide_eq_true (by omega), hg_t, hlet_e, hlet_e, pi_tn (by omega), show nI k + (1 : Int32) = nI (k + 1) from pi_add k 1]
    · left
      have : k = 148 := by omega
      subst this
      refine ⟨X, fun fuel => ?_, e1, e2, e3⟩
      show f_X8_begin_L177 (fuel+1) (nI 148) X = _
      rw [f_X8_begin_L177, if_pos (by decide)]
theorem x3_start_birds {I : Nat → Nat → Int32} {β n : Nat} (hB : IsB β) (hn : n ≤ 8) (h3 : I β 3 = nI n) (hZ : RZ I β) : ∃ X, f_X3_startRace_L10 β FU 0 I = some X ∧ (∀ a, (∀ b, b < n → a ≠ cB β b) → X a = I a) ∧ (∀ b, b < n → X (cB β b) = gs (I (cB β b)) 1) := by
  have := loop_go (fun fuel k (st : Nat → Nat → Int32) => f_X3_startRace_L10 β fuel k st) 8 (fun k X => (∀ a, (∀ b, b < k → b < n → a ≠ cB β b) → X a = I a) ∧ (∀ b, b < k → b < n → X (cB β b) = gs (I (cB β b)) 1)) (fun X => (∀ a, (∀ b, b < n → a ≠ cB β b) → X a = I a) ∧ (∀ b, b < n → X (cB β b) = gs (I (cB β b)) 1)) ?_ FU 0 I (by omega) ⟨fun _ _ => rfl, fun b hb => absurd hb (by omega)⟩ (by unfold FU; omega)
  · exact this
  · rintro k X hk ⟨e1, e2⟩
    rcases Nat.lt_or_ge k 8 with hk8 | hk8
    · right
      have hnle : ¬ ((8 : Int32) ≤ nI k) := by rw [show (8 : Int32) = nI 8 from rfl, pi_le (by omega) (by omega)]; omega
      have hgin : gin (nI k) 8 = true := by rw [pi_gin (by omega)]; exact decide_eq_true hk8
      have htn : β + 1 + 3 + (nI k).toNatClampNeg = cB β k := by rw [pi_tn (by omega)]; rfl
      have xβ : X β = I β := e1 β (fun b _ _ => fun c => cB_ne c.symm)
      have xk : X (cB β k) = I (cB β k) := e1 _ (fun b hb _ => cB_inj (by omega))
      by_cases hkn : k < n
      · refine ⟨hk8, fun a i => if a = cB β k then gs (X (cB β k)) 1 i else X a i, ⟨fun a ha => ?_, fun b hb hbn => ?_⟩, fun fuel => ?_⟩
        · funext i
          show (if a = cB β k then _ else _) = _
          rw [if_neg (ha k (by omega) hkn), e1 a (fun b hb hbn => ha b (by omega) hbn)]
        · funext i
          show (if cB β b = cB β k then _ else _) = _
          by_cases c : b = k
          · rw [c, if_pos rfl, xk]
          · rw [if_neg (cB_inj c), e2 b (by omega) hbn]
        · show f_X3_startRace_L10 β (fuel+1) (nI k) X = _
          rw [f_X3_startRace_L10, if_neg hnle, hgin, hg_t, htn]
          unfold f_X3_isThere
          rw [hopt_e2, hk_e (sk_b hB hk8), xβ, h3, xk, (hZ k hk8).1, if_neg (by rw [pi_le (by omega) (by omega)]; omega)]
          simp only [Option.bind_some, hlet_e]
          rw [if_neg (show ¬ ((1 : Int32) = 0) by decide), x6_goToStart, xk, show nI k + (1 : Int32) = nI (k + 1) from pi_add k 1]
          rfl
      · refine ⟨hk8, X, ⟨fun a ha => e1 a (fun b hb hbn => ha b (by omega) hbn), fun b hb hbn => e2 b (by omega) hbn⟩, fun fuel => ?_⟩
        show f_X3_startRace_L10 β (fuel+1) (nI k) X = _
        rw [f_X3_startRace_L10, if_neg hnle, hgin, hg_t, htn]
        unfold f_X3_isThere
        rw [hopt_e2, hk_e (sk_b hB hk8), xβ, h3, xk, (hZ k hk8).1, if_pos (by rw [pi_le (by omega) (by omega)]; omega)]
        simp only [Option.bind_some, hlet_e, if_true]
        rw [show nI k + (1 : Int32) = nI (k + 1) from pi_add k 1]
    · left
      have : k = 8 := by omega
      subst this
      refine ⟨X, fun fuel => ?_, fun a ha => e1 a (fun b _ hbn => ha b hbn), fun b hbn => e2 b (by omega) hbn⟩
      show f_X3_startRace_L10 β (fuel+1) (nI 8) X = _
      rw [f_X3_startRace_L10, if_pos (by decide)]
theorem cnt3_zero {s : Nat → Int32} {m : Nat} (h : ∀ b, b < m → s (16 * b + 6) ≠ 3) : cnt3 s m = 0 := by
  induction m with
  | zero => rfl
  | succ m ih =>
    rw [show cnt3 s (m + 1) = cnt3 s m + (if s (16 * m + 6) = 3 then 1 else 0) from rfl, ih (fun b hb => h b (by omega)), if_neg (h m (by omega))]
theorem RR_begin {I X : Nat → Nat → Int32} {β n : Nat} {s t : Nat → Int32} (h0 : 0 < n) (h : RR I β s n)
    (x1 : ∀ a, a ≠ β → (∀ b, b < n → a ≠ cB β b) → X a = I a) (x2 : ∀ b, b < n → X (cB β b) = gs (I (cB β b)) 1)
    (xg : X β 3 = I β 3 ∧ X β 4 = I β 4 ∧ X β 5 = 1 ∧ X β 6 = 0 ∧ X β 7 = 0 ∧ X β 8 = 0 ∧ X β 9 = 0 ∧ X β 10 = 0 ∧ X β 11 = 0 ∧ X β 12 = I β 12 + 1 ∧ X β 13 = I β 13)
    (tb : ∀ b, b < n → TP s t b) (t1 : ∀ i, 128 ≤ i → i < 134 → t i = s i) (tg : t 134 = 0 ∧ t 135 = 0 ∧ t 144 = 0 ∧ t 145 = 0 ∧ t 146 = 0 ∧ t 147 = 0 ∧ t 148 = s 148 + 1 ∧ t 149 = s 149 ∧ t 150 = 1) : RR X β t n := by
  obtain ⟨⟨g, g2, g3, g4⟩, hZ, h6, ⟨⟨w1, w2, w3, w4, w5, w6, w7, w8, w9⟩, hr, hl⟩⟩ := h
  have hn := w1.2
  obtain ⟨x3, x4, x5, x6, x7, x8, x9, x10, x11, x12, x13⟩ := xg
  obtain ⟨t4, t5, t44, t45, t46, t47, t48, t49, t50⟩ := tg
  have hc : cnt3 t n = 0 := cnt3_zero (fun b hb => by
    obtain ⟨p0, p1, p2, p3, p4, p5, p6, _⟩ := tb b hb
    rw [p6]; decide)
  refine ⟨⟨?_, fun k hk => ?_, fun b hb => ?_, fun b k hb hk he => ?_⟩, fun b hb => ?_, ?_, ⟨⟨⟨?_, hn⟩, fun b hb => ?_, fun b hb q hq hqn => ?_, fun k hk => ?_, ⟨?_, ?_⟩, ?_, ?_, ?_, ?_⟩, fun he b hb h3 => ?_, fun he => ?_⟩⟩
  · obtain ⟨a1, a2, a3, a5, a6, a7, a8, a9, a10, a11⟩ := g
    rw [x3, x4, x5, x7, x8, x9, x10, x11, x12, x13, t1 128 (by omega) (by omega), t1 133 (by omega) (by omega), t50, t5, t44, t45, t46, t47, t48, t49]
    exact ⟨a1, a2, rfl, rfl, rfl, rfl, rfl, rfl, by rw [a10], a11⟩
  · rw [x1 (β + 3) (by omega) (fun b _ => fun c => cB_n3 c.symm), t1 _ (by omega) (by omega)]; exact g2 k hk
  · obtain ⟨a1, a2, a3, a4, a5, a6, a7, a8, a9, a10, a11, a12, a13⟩ := g3 b hb
    obtain ⟨p0, p1, p2, p3, p4, p5, p6, p7, p8, p9, p10, p11, p12⟩ := tb b hb
    have p0' : t (16 * b) = s (16 * b) := p0
    unfold RB
    rw [x2 b hb, p0', p1, p2, p3, p4, p5, p6, p7, p8, p9, p10, p11, p12]
    exact ⟨a1, a2, a3, rfl, rfl, a2, rfl, a3, rfl, rfl, rfl, a12, rfl⟩
  · rw [t5, show tn (0 : Int32) = 0 by decide] at hk; exact absurd hk (by omega)
  · by_cases hbn : b < n
    · rw [x2 b hbn]; exact ⟨(hZ b hb).1, by show gz (0 : Int32) = true; decide⟩
    · rw [x1 _ cB_ne (fun c hc => cB_inj (by omega))]; exact hZ b hb
  · rw [x6, t4]
  · rw [t1 _ (by omega) (by omega)]; exact w1.1
  · obtain ⟨a0, a1, a2, a3, a4, a5, a6, a7, a9, a10, a12, a13⟩ := w2 b hb
    obtain ⟨p0, p1, p2, p3, p4, p5, p6, p7, p8, p9, p10, p11, p12⟩ := tb b hb
    have p0' : t (16 * b) = s (16 * b) := p0
    rw [p0', p1, p2, p3, p4, p5, p6, p7, p9, p10, p12]
    exact ⟨a0, a1, a2, a1, ⟨0, rfl, by omega, by omega⟩, a2, ⟨1, rfl, by omega, by omega⟩, ⟨0, rfl, by omega, by omega⟩, ⟨0, rfl, by omega, by omega⟩, a10, ⟨0, rfl, by omega, by omega⟩, fun z => absurd z (by decide)⟩
  · obtain ⟨_, _, _, _, _, _, _, _, _, _, p10, _⟩ := tb b hb
    obtain ⟨_, _, _, _, _, _, _, _, _, _, q10, _⟩ := tb q hqn
    rw [p10] at hq
    rw [q10]; exact w3 b hb q hq hqn
  · rw [t1 _ (by omega) (by omega)]; exact w4 k hk
  · rw [t1 _ (by omega) (by omega)]; exact w5.1
  · rw [t50]; exact ⟨1, rfl, by omega, by omega⟩
  · rw [hc, t5]; rfl
  · rw [hc]; intro k hk; exact absurd hk (by omega)
  · rw [hc]; intro k j hk; exact absurd hk (by omega)
  · intro b hb h3
    obtain ⟨p0, p1, p2, p3, p4, p5, p6, _⟩ := tb b hb
    rw [p6] at h3; exact absurd h3 (by decide)
  · obtain ⟨p0, p1, p2, p3, p4, p5, p6, p7, _⟩ := tb b hb
    have := (w5.1.e (by omega)).2.1
    rw [p7, t1 133 (by omega) (by omega), show tn (0 : Int32) = 0 by decide]; omega
  · rw [hc]; exact h0
theorem t148 : (148 : Int32).toNatClampNeg = 148 := by decide
theorem op_begin : OPB f_W_begin f_X8_begin := by
  intro I O J K h
  have hh := h
  obtain ⟨n0, _, len, h1, _⟩ := hh
  have hn := h1.2.2.2.1.1.2
  have h128 : K 130 128 = nI n0 := h1.2.2.2.1.1.1
  have h3 : I 1 3 = nI n0 := h1.1.1.1.trans h128
  by_cases h0 : n0 = 0
  · subst h0
    refine op_no h (c := 1) (r := 0) (by decide) ?_ ?_
    · unfold f_W_begin f_X7_begin
      rw [h3]; rfl
    · unfold f_X8_begin
      rw [t128, h128]; rfl
  · have hz : ¬ (nI n0 = (0 : Int32)) := by rw [show (0 : Int32) = nI 0 from rfl, pi_eq (by omega) (by omega)]; exact h0
    obtain ⟨n, I1, O1, K1, s1, s2, s3, s4, s5, s6, s7, s8, s9⟩ := sv_step h
    have hnn : n = n0 := by
      have e3 := s3.2.2.2.1.1.1
      rw [s6, h128, pi_eq (by omega) (by have := s3.2.2.2.1.1.2; omega)] at e3
      exact e3.symm
    subst hnn
    have g3 : I1 1 3 = nI n := s3.1.1.1.trans s3.2.2.2.1.1.1
    have k128 : K1 130 128 = nI n := s3.2.2.2.1.1.1
    obtain ⟨X0, x1, x2, x3⟩ := x3_start_birds (β := 1) (Or.inl rfl) hn g3 s3.2.1
    obtain ⟨Y0, y1, y2, y3, y4⟩ := x8_begin_birds hn k128
    obtain ⟨Y1, z1, z2, z3, z4⟩ := x8_begin_acc (K := gup (gup Y0 130 134 0) 130 135 0)
    have x0β : X0 1 = I1 1 := x2 1 (fun b _ => fun c => cB_ne c.symm)
    have y148 : Y1 130 148 = K1 130 148 := by rw [z4 148 (by omega), gup_i (by omega), gup_i (by omega)]; exact y3 148 (by omega)
    generalize hX : gup (gup (gup (gup (gup (gup (gup (gup X0 1 5 1) 1 6 0) 1 7 0) 1 8 0) 1 9 0) 1 10 0) 1 11 0) 1 12 (I1 1 12 + 1) = X
    generalize hY : gup (gup Y1 130 148 (K1 130 148 + 1)) 130 150 1 = Y
    have xfar : ∀ a, a ≠ 1 → X a = X0 a := fun a ha => by rw [← hX, gup_ne ha, gup_ne ha, gup_ne ha, gup_ne ha, gup_ne ha, gup_ne ha, gup_ne ha, gup_ne ha]
    have yfar : ∀ a, a ≠ 130 → Y a = K1 a := fun a ha => by rw [← hY, gup_ne ha, gup_ne ha, z2 a ha, gup_ne ha, gup_ne ha, y2 a ha]
    have yrow : ∀ i, i ≠ 134 → i ≠ 135 → (i < 144 ∨ i = 149) → Y 130 i = Y0 130 i := fun i q1 q2 q3 => by rw [← hY, gup_i (by omega), gup_i (by omega), z4 i (by omega), gup_i q2, gup_i q1]
    have hR2 : RR X 1 (Y 130) n := by
      refine RR_begin (by omega) s3 (fun a q1 q2 => (xfar a q1).trans (x2 a q2)) (fun b hb => (xfar _ cB_ne).trans (x3 b hb)) ⟨?_, ?_, ?_, ?_, ?_, ?_, ?_, ?_, ?_, ?_, ?_⟩ (fun b hb => ?_) (fun i q1 q2 => (yrow i (by omega) (by omega) (by omega)).trans (y3 i (by omega))) ⟨?_, ?_, ?_, ?_, ?_, ?_, ?_, ?_, ?_⟩
      · rw [← hX]; simp [gup, x0β]
      · rw [← hX]; simp [gup, x0β]
      · rw [← hX]; simp [gup]
      · rw [← hX]; simp [gup]
      · rw [← hX]; simp [gup]
      · rw [← hX]; simp [gup]
      · rw [← hX]; simp [gup]
      · rw [← hX]; simp [gup]
      · rw [← hX]; simp [gup]
      · rw [← hX]; simp [gup]
      · rw [← hX]; simp [gup, x0β]
      · have e : ∀ j, j < 16 → Y 130 (16 * b + j) = Y0 130 (16 * b + j) := fun j hj => yrow _ (by omega) (by omega) (by omega)
        obtain ⟨p0, p1, p2, p3, p4, p5, p6, p7, p8, p9, p10, p11, p12⟩ := y4 b hb
        exact ⟨(e 0 (by omega)).trans p0, (e 1 (by omega)).trans p1, (e 2 (by omega)).trans p2, (e 3 (by omega)).trans p3, (e 4 (by omega)).trans p4, (e 5 (by omega)).trans p5, (e 6 (by omega)).trans p6, (e 7 (by omega)).trans p7, (e 8 (by omega)).trans p8, (e 9 (by omega)).trans p9, (e 10 (by omega)).trans p10, (e 11 (by omega)).trans p11, (e 12 (by omega)).trans p12⟩
      · rw [← hY, gup_i (by omega), gup_i (by omega), z4 134 (by omega), gup_i (by omega), gup_at]
      · rw [← hY, gup_i (by omega), gup_i (by omega), z4 135 (by omega), gup_at]
      · rw [← hY, gup_i (by omega), gup_i (by omega)]; exact z3 144 (by omega) (by omega)
      · rw [← hY, gup_i (by omega), gup_i (by omega)]; exact z3 145 (by omega) (by omega)
      · rw [← hY, gup_i (by omega), gup_i (by omega)]; exact z3 146 (by omega) (by omega)
      · rw [← hY, gup_i (by omega), gup_i (by omega)]; exact z3 147 (by omega) (by omega)
      · rw [← hY, gup_i (by omega), gup_at]
      · exact (yrow 149 (by omega) (by omega) (by omega)).trans (y3 149 (by omega))
      · rw [← hY, gup_at]
    have farX : ∀ a, 13 ≤ a → X a = I1 a := fun a ha => (xfar a (by omega)).trans (x2 a (fun b hb => by unfold cB; omega))
    have z13 : RZ X 13 := RZ_I (fun a q1 q2 => farX a (by omega)) (ZZ13 s4)
    refine ⟨X, O1, Y, Inv2_now s4 (fun a q1 q2 => farX a (by omega)) z13 hR2 (fun a q1 q2 => yfar a (by omega)) (by rw [yfar 129 (by omega)]) (by rw [yfar 129 (by omega)]) rfl, fun a ha => (farX a (by omega)).trans (s8 a ha), fun a ha => (yfar a (by omega)).trans (s9 a ha), Or.inl ⟨nI n, ?_, ?_, by rw [yfar 129 (by omega)]; exact s5⟩⟩
    · unfold f_W_begin f_X7_begin f_X3_startRace
      rw [h3, if_neg hz, s1]
      simp only [Option.bind_some]
      rw [x1]
      simp only [Option.bind_some, hlet_e]
      rw [show gup (gup (gup (gup (gup (gup (gup X0 1 5 1) 1 6 0) 1 7 0) 1 8 0) 1 9 0) 1 10 0) 1 11 0 1 12 = I1 1 12 by simp [gup, x0β], hX]
      simp only [hsum]
      rw [t0', hR2.1.1.1, hR2.2.2.2.1.1.1]
    · unfold f_X8_begin
      rw [t128, h128, if_neg hz]
      simp only [Option.bind_some]
      rw [ref0]
      simp only [Option.bind_some, if_true]
      rw [s2]
      simp only [Option.bind_some]
      rw [y1]
      simp only [Option.bind_some, hlet_e]
      rw [t134, t135, z1]
      simp only [Option.bind_some]
      rw [t148, t150, y148, hY, hR2.2.2.2.1.1.1]
section CS
variable {SL' : Nat} {sx : Nat → Int32} {p4 : Int32} {I : Nat → Nat → Int32} {O : Nat → Nat → Option Nat} {J : Nat → Nat → Int64}
end CS
