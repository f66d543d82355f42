def gs (r : Nat → Int32) (st : Int32) (i : Nat) : Int32 := if i = 14 then 0 else if i = 13 then 0 else if i = 11 then 0 else if i = 10 then 0 else if i = 9 then st else if i = 8 then r 3 else if i = 7 then 0 else if i = 6 then r 2 else if i = 5 then 0 else if i = 4 then 0 else r i
theorem x6_goToStart {c : Nat} {st : Int32} {I : Nat → Nat → Int32} : f_X6_goToStart c st I = some (fun a i => if a = c then gs (I c) st i else I a i) := by
  unfold f_X6_goToStart
  simp only [hlet_e]
  congr 1
  funext a i
  by_cases h : a = c
  · subst h; simp [gup, gs]
  · simp [gup, h]
theorem RB_row {I : Nat → Nat → Int32} {c b : Nat} {s t : Nat → Int32} (e0 : t (16 * b) = s (16 * b)) (e : ∀ k, k < 16 → t (16 * b + k) = s (16 * b + k)) (h : RB I c s b) : RB I c t b := by
  unfold RB at *
  rw [e0, e 1 (by omega), e 2 (by omega), e 3 (by omega), e 4 (by omega), e 5 (by omega), e 6 (by omega), e 7 (by omega), e 8 (by omega), e 9 (by omega), e 10 (by omega), e 11 (by omega), e 12 (by omega)]
  exact h
theorem RR_new {I X : Nat → Nat → Int32} {β n : Nat} {s t : Nat → Int32} {pa st la : Nat} (hn : n < 8) (hp : 10 ≤ pa ∧ pa ≤ 40) (hs : st ≤ 999) (hl : la ≤ 1) (h0 : s 150 = 0) (h : RR I β s n)
    (x1 : ∀ a, a ≠ β → a ≠ cB β n → X a = I a) (x2 : ∀ f, f ≠ 3 → X β f = I β f) (x3 : X β 3 = nI (n + 1)) (c0 : X (cB β n) 0 = nI n)
    (y : X (cB β n) 1 = nI pa ∧ X (cB β n) 2 = nI st ∧ X (cB β n) 3 = nI la ∧ X (cB β n) 4 = 0 ∧ X (cB β n) 5 = 0 ∧ X (cB β n) 6 = nI st ∧ X (cB β n) 7 = 0 ∧ X (cB β n) 8 = nI la ∧ X (cB β n) 9 = 0 ∧ X (cB β n) 10 = 0 ∧ X (cB β n) 11 = 0 ∧ X (cB β n) 12 = -1 ∧ X (cB β n) 14 = 0)
    (e : ∀ i, (i < 16 * n ∨ 16 * n + 16 ≤ i) → i ≠ 128 → t i = s i) (e128 : t 128 = nI (n + 1))
    (r : t (16 * n + 0) = nI pa ∧ t (16 * n + 1) = nI st ∧ t (16 * n + 2) = nI la ∧ t (16 * n + 3) = nI st ∧ t (16 * n + 4) = 0 ∧ t (16 * n + 5) = nI la ∧ t (16 * n + 6) = 0 ∧ t (16 * n + 7) = 0 ∧ t (16 * n + 8) = 0 ∧ t (16 * n + 9) = 0 ∧ t (16 * n + 10) = 0 ∧ t (16 * n + 11) = 0 ∧ t (16 * n + 12) = 0) : RR X β t (n + 1) := by
  obtain ⟨⟨g, g2, g3, g4⟩, hZ, h6, ⟨⟨w1, w2, w3, w4, w5, w6, w7, w8, w9⟩, hr, hl'⟩⟩ := h
  obtain ⟨r0, r1, r2, r3, r4, r5, r6, r7, r8, r9, r10, r11, r12⟩ := r
  obtain ⟨y1, y2, y3, y4, y5, y6, y7, y8, y9, y10, y11, y12, y14⟩ := y
  have r0' : t (16 * n) = nI pa := r0
  have hcle := cnt3_le s n
  have far : ∀ b, b < n → ∀ k, k < 16 → t (16 * b + k) = s (16 * b + k) := fun b hb k hk => e _ (by omega) (by omega)
  have far0 : ∀ b, b < n → t (16 * b) = s (16 * b) := fun b hb => e _ (by omega) (by omega)
  have g' : ∀ i, 129 ≤ i → t i = s i := fun i hi => e _ (by omega) (by omega)
  have hc : cnt3 t (n + 1) = cnt3 s n := by
    rw [show cnt3 t (n + 1) = cnt3 t n + (if t (16 * n + 6) = 3 then 1 else 0) from rfl, r6, if_neg (by decide), Nat.add_zero]
    exact cnt3_far (fun b hb => by rw [far b hb 6 (by omega)])
  have cell : ∀ b, b ≠ n → X (cB β b) = I (cB β b) := fun b hb => x1 _ cB_ne (cB_inj hb)
  have q135 : tn (s 135) = cnt3 s n := by rw [w6]; exact pi_tn (by omega)
  refine ⟨⟨?_, fun k hk => ?_, fun b hb => ?_, fun b k hb hk he => ?_⟩, fun b hb => ?_, ?_, ⟨⟨⟨e128, by omega⟩, fun b hb => ?_, fun b hb q hq hqn => ?_, fun k hk => ?_, ⟨?_, ?_⟩, ?_, ?_, ?_, ?_⟩, fun he => ?_, fun he => ?_⟩⟩
  · obtain ⟨a1, a2, a3, a5, a6, a7, a8, a9, a10, a11⟩ := g
    rw [x3, e128, x2 4 (by omega), x2 5 (by omega), x2 7 (by omega), x2 8 (by omega), x2 9 (by omega), x2 10 (by omega), x2 11 (by omega), x2 12 (by omega), x2 13 (by omega), g' 133 (by omega), g' 150 (by omega), g' 135 (by omega), g' 144 (by omega), g' 145 (by omega), g' 146 (by omega), g' 147 (by omega), g' 148 (by omega), g' 149 (by omega)]
    exact ⟨rfl, a2, a3, a5, a6, a7, a8, a9, a10, a11⟩
  · rw [x1 (β + 3) (by omega) (fun c => cB_n3 c.symm), g' _ (by omega)]; exact g2 k hk
  · by_cases hbn : b = n
    · rw [hbn]
      exact ⟨y1.trans r0'.symm, y2.trans r1.symm, y3.trans r2.symm, y4.trans r7.symm, y5.trans r8.symm, y6.trans r3.symm, y7.trans r4.symm, y8.trans r5.symm, y9.trans r6.symm, y10.trans r12.symm, y11.trans r9.symm, by rw [y12, r10]; decide, y14.trans r11.symm⟩
    · exact RB_row (far0 b (by omega)) (far b (by omega)) (RB_cell (cell b hbn) (g3 b (by omega)))
  · rw [g' 135 (by omega)] at hk
    rw [g' _ (by omega)] at he
    obtain ⟨c, hc1, e1, e2⟩ := w7 k (by omega)
    have e1' := e1
    rw [he, pi_eq (by omega) (by omega)] at e1'
    rw [cell b (by omega)]; exact g4 b k (by omega) hk he
  · by_cases hbn : b = n
    · rw [hbn]; exact ⟨c0, by rw [y11]; decide⟩
    · rw [cell b hbn]; exact hZ b hb
  · rw [x2 6 (by omega), g' 134 (by omega)]; exact h6
  · by_cases hbn : b = n
    · rw [hbn, r0', r1, r2, r3, r4, r5, r6, r7, r9, r10, r12]
      exact ⟨⟨pa, rfl, hp.1, hp.2⟩, ⟨st, rfl, by omega, hs⟩, ⟨la, rfl, by omega, hl⟩, ⟨st, rfl, by omega, hs⟩, ⟨0, rfl, by omega, by omega⟩, ⟨la, rfl, by omega, hl⟩, ⟨0, rfl, by omega, by omega⟩, ⟨0, rfl, by omega, by omega⟩, ⟨0, rfl, by omega, by omega⟩, ⟨0, rfl, by omega, by omega⟩, ⟨0, rfl, by omega, by omega⟩, fun z => absurd z (by decide)⟩
    · have hb' : b < n := by omega
      rw [far0 b hb', far b hb' 1 (by omega), far b hb' 2 (by omega), far b hb' 3 (by omega), far b hb' 4 (by omega), far b hb' 5 (by omega), far b hb' 6 (by omega), far b hb' 7 (by omega), far b hb' 9 (by omega), far b hb' 10 (by omega), far b hb' 12 (by omega)]
      obtain ⟨a0, a1, a2, a3, a4, a5, a6, a7, a9, ⟨v, ev, v1, v2⟩, a12, a13⟩ := w2 b hb'
      exact ⟨a0, a1, a2, a3, a4, a5, a6, a7, a9, ⟨v, ev, v1, by omega⟩, a12, a13⟩
  · by_cases hbn : b = n
    · rw [hbn, r10, pi_0, pi_eq (by omega) (by omega)] at hq; omega
    · have hb' : b < n := by omega
      rw [far b hb' 10 (by omega)] at hq
      obtain ⟨_, _, _, _, _, _, _, _, _, ⟨v, ev, v1, v2⟩, _⟩ := w2 b hb'
      have hv := hq
      rw [ev, pi_eq (by omega) (by omega)] at hv
      have := w3 b hb' q hq (by omega)
      rw [far q (by omega) 10 (by omega)]; exact this
  · rw [g' _ (by omega)]; exact w4 k hk
  · rw [g' 133 (by omega)]; exact w5.1
  · rw [g' 150 (by omega)]; exact w5.2
  · rw [hc, g' 135 (by omega)]; exact w6
  · rw [hc]; intro k hk
    obtain ⟨b, hb, e1, e2⟩ := w7 k hk
    exact ⟨b, by omega, by rw [g' _ (by omega)]; exact e1, by rw [far b hb 6 (by omega)]; exact e2⟩
  · rw [hc]; intro k j hk hj hh
    rw [g' (136 + k) (by omega), g' (136 + j) (by omega)] at hh
    exact w8 k j hk hj hh
  · rw [hc]; intro b hb h3
    by_cases hbn : b = n
    · rw [hbn, r6] at h3; exact absurd h3 (by decide)
    · rw [far b (by omega) 6 (by omega)] at h3
      obtain ⟨k, hk, e1⟩ := w9 b (by omega) h3
      exact ⟨k, hk, by rw [g' _ (by omega)]; exact e1⟩
  · rw [g' 150 (by omega), h0] at he; exact absurd he (by decide)
  · rw [g' 150 (by omega), h0] at he; exact absurd he (by decide)
theorem x8_clear {I7 K : Nat → Nat → Int32} {n : Nat} (hn : n < 8) (h : I7 130 128 = nI n) : ∃ Y, f_X8_enter_L95 I7 FU 0 K = some Y ∧ (∀ a, a ≠ 130 → Y a = K a) ∧ (∀ i, 16 * n ≤ i → i < 16 * n + 16 → Y 130 i = 0) ∧ (∀ i, (i < 16 * n ∨ 16 * n + 16 ≤ i) → Y 130 i = K 130 i) := by
  have := loop_go (fun fuel k (st : Nat → Nat → Int32) => f_X8_enter_L95 I7 fuel k st) 16 (fun k Y => (∀ a, a ≠ 130 → Y a = K a) ∧ (∀ i, 16 * n ≤ i → i < 16 * n + k → Y 130 i = 0) ∧ (∀ i, (i < 16 * n ∨ 16 * n + 16 ≤ i) → Y 130 i = K 130 i)) (fun Y => (∀ a, a ≠ 130 → Y a = K a) ∧ (∀ i, 16 * n ≤ i → i < 16 * n + 16 → Y 130 i = 0) ∧ (∀ i, (i < 16 * n ∨ 16 * n + 16 ≤ i) → Y 130 i = K 130 i)) ?_ FU 0 K (by omega) ⟨fun _ _ => rfl, fun i h1 h2 => absurd h2 (by omega), fun _ _ => rfl⟩ (by unfold FU; omega)
  · exact this
  · rintro k X hk ⟨e1, e2, e3⟩
    rcases Nat.lt_or_ge k 16 with hlt | hge
    · right
      refine ⟨hlt, gup X 130 (16 * n + k) 0, ⟨fun a ha => (gup_ne ha).trans (e1 a ha), fun i h1 h2 => ?_, fun i hi => ?_⟩, fun fuel => ?_⟩
      · by_cases c : i = 16 * n + k
        · rw [c, gup_at]
        · rw [gup_i c]; exact e2 i h1 (by omega)
      · rw [gup_i (by omega)]; exact e3 i hi
      · show f_X8_enter_L95 I7 (fuel+1) (nI k) X = _
        rw [f_X8_enter_L95, t128, h, if_neg (by rw [show (16 : Int32) = nI 16 from rfl, pi_le (by omega) (by omega)]; omega), ixg (by omega) (by omega), hg_t, ix (by omega) (by omega), hlet_e, hlet_e, show nI k + (1 : Int32) = nI (k + 1) from pi_add k 1]
    · left
      have : k = 16 := by omega
      subst this
      refine ⟨X, fun fuel => ?_, e1, e2, e3⟩
      show f_X8_enter_L95 I7 (fuel+1) (nI 16) X = _
      rw [f_X8_enter_L95, if_pos (by decide)]
theorem x3_addSparrow {I : Nat → Nat → Int32} {n : Nat} {a1 a2 a3 : Int32} (hn : n < 8) (h3 : I 1 3 = nI n) (h0 : I (cB 1 n) 0 = nI n) :
    ∃ X, f_X3_addSparrow 1 a1 a2 a3 I = some (nI n, X) ∧ (∀ a, a ≠ 1 → a ≠ cB 1 n → X a = I a) ∧ (∀ f, f ≠ 3 → X 1 f = I 1 f) ∧ X 1 3 = nI (n + 1) ∧ X (cB 1 n) 0 = nI n ∧
      (X (cB 1 n) 1 = a1 ∧ X (cB 1 n) 2 = a2 ∧ X (cB 1 n) 3 = a3 ∧ X (cB 1 n) 4 = 0 ∧ X (cB 1 n) 5 = 0 ∧ X (cB 1 n) 6 = a2 ∧ X (cB 1 n) 7 = 0 ∧ X (cB 1 n) 8 = a3 ∧ X (cB 1 n) 9 = 0 ∧ X (cB 1 n) 10 = 0 ∧ X (cB 1 n) 11 = 0 ∧ X (cB 1 n) 12 = -1 ∧ X (cB 1 n) 14 = 0) := by
  have hat : f_X3_at 1 (nI n) (gup I 1 3 (nI (n + 1))) = some (some (cB 1 n)) := by
    unfold f_X3_at
    rw [gup_at, if_neg (by rw [show (0 : Int32) = nI 0 from rfl, pi_lt (by omega) (by omega)]; omega), if_neg (by rw [pi_le (by omega) (by omega)]; omega), if_pos (by rw [show (8 : Int32) = nI 8 from rfl, pi_lt (by omega) (by omega)]; omega), pi_gin (by omega), decide_eq_true (by omega), hg_t, pi_tn (by omega)]; rfl
  have hsk := sk_b (β := 1) (b := n) (Or.inl rfl) (by omega)
  have hc : cB 1 n ≠ 1 := cB_ne
  have hc' : 1 ≠ cB 1 n := fun e => hc e.symm
  generalize cB 1 n = c at *
  obtain ⟨X, hX⟩ : ∃ X : Nat → Nat → Int32, X = fun a i => if a = c then gs (gup (gup (gup (gup (gup I 1 3 (nI (n + 1))) c 1 a1) c 2 a2) c 3 a3) c 12 (-1) c) 0 i else gup (gup (gup (gup (gup I 1 3 (nI (n + 1))) c 1 a1) c 2 a2) c 3 a3) c 12 (-1) a i := ⟨_, rfl⟩
  have hx13 : X 1 3 = nI (n + 1) := by
    rw [hX]
    show (if 1 = c then _ else _) = _
    rw [if_neg hc', gup_n hc', gup_n hc', gup_n hc', gup_n hc', gup_at]
  have em : nI (n + 1) - (1 : Int32) = nI n := pi_sub (b := 1) (by omega)
  refine ⟨X, ?_, fun a h1 h2 => ?_, fun f hf => ?_, hx13, ?_, ?_⟩
  · unfold f_X3_addSparrow
    simp only [hlet_e]
    rw [h3, show nI n + (1 : Int32) = nI (n + 1) from pi_add n 1, gup_at, em, hat]
    simp only [Option.bind_some, hopt_e2]
    rw [hk_e hsk, x6_goToStart]
    refine congrArg some (Prod.ext ?_ hX.symm)
    have e1 : X 1 3 - (1 : Int32) = nI n := by rw [hx13, em]
    rw [hX] at e1
    exact e1
  · rw [hX]; funext i
    show (if a = c then _ else _) = _
    rw [if_neg h2, gup_n h2, gup_n h2, gup_n h2, gup_n h2, gup_n h1]
  · rw [hX]
    show (if 1 = c then _ else _) = _
    rw [if_neg hc', gup_n hc', gup_n hc', gup_n hc', gup_n hc', gup_i hf]
  · simp [hX, gs, gup, hc, h0]
  · refine ⟨?_, ?_, ?_, ?_, ?_, ?_, ?_, ?_, ?_, ?_, ?_, ?_, ?_⟩ <;> simp [hX, gs, gup, hc]
theorem row_enter {Y : Nat → Nat → Int32} {n : Nat} {a1 a2 a3 : Int32} (hn : n < 8) (h0 : ∀ i, 16 * n ≤ i → i < 16 * n + 16 → Y 130 i = 0) (h128 : Y 130 128 = nI n) :
    ∃ W, gup (gup (gup (gup (gup Y 130 (16 * n) a1) 130 (16 * n + 1) a2) 130 (16 * n + 2) a3) 130 (16 * n + 3) a2) 130 (16 * n + 5) a3 = W ∧ W 130 128 = nI n ∧ (∀ a, a ≠ 130 → gup W 130 128 (nI (n + 1)) a = Y a) ∧
      (∀ i, (i < 16 * n ∨ 16 * n + 16 ≤ i) → i ≠ 128 → gup W 130 128 (nI (n + 1)) 130 i = Y 130 i) ∧ gup W 130 128 (nI (n + 1)) 130 128 = nI (n + 1) ∧
      (gup W 130 128 (nI (n + 1)) 130 (16 * n + 0) = a1 ∧ gup W 130 128 (nI (n + 1)) 130 (16 * n + 1) = a2 ∧ gup W 130 128 (nI (n + 1)) 130 (16 * n + 2) = a3 ∧ gup W 130 128 (nI (n + 1)) 130 (16 * n + 3) = a2 ∧ gup W 130 128 (nI (n + 1)) 130 (16 * n + 4) = 0 ∧ gup W 130 128 (nI (n + 1)) 130 (16 * n + 5) = a3 ∧ gup W 130 128 (nI (n + 1)) 130 (16 * n + 6) = 0 ∧ gup W 130 128 (nI (n + 1)) 130 (16 * n + 7) = 0 ∧ gup W 130 128 (nI (n + 1)) 130 (16 * n + 8) = 0 ∧ gup W 130 128 (nI (n + 1)) 130 (16 * n + 9) = 0 ∧ gup W 130 128 (nI (n + 1)) 130 (16 * n + 10) = 0 ∧ gup W 130 128 (nI (n + 1)) 130 (16 * n + 11) = 0 ∧ gup W 130 128 (nI (n + 1)) 130 (16 * n + 12) = 0) := by
  refine ⟨_, rfl, ?_, fun a ha => ?_, fun i hi hi2 => ?_, gup_at, ⟨(by rw [gup_i (by omega), gup_i (by omega), gup_i (by omega), gup_i (by omega), gup_i (by omega)]; exact gup_at), by rw [gup_i (by omega), gup_i (by omega), gup_i (by omega), gup_i (by omega), gup_at], by rw [gup_i (by omega), gup_i (by omega), gup_i (by omega), gup_at], by rw [gup_i (by omega), gup_i (by omega), gup_at], by rw [gup_i (by omega), gup_i (by omega), gup_i (by omega), gup_i (by omega), gup_i (by omega), gup_i (by omega)]; exact h0 _ (by omega) (by omega), by rw [gup_i (by omega), gup_at], by rw [gup_i (by omega), gup_i (by omega), gup_i (by omega), gup_i (by omega), gup_i (by omega), gup_i (by omega)]; exact h0 _ (by omega) (by omega), by rw [gup_i (by omega), gup_i (by omega), gup_i (by omega), gup_i (by omega), gup_i (by omega), gup_i (by omega)]; exact h0 _ (by omega) (by omega), by rw [gup_i (by omega), gup_i (by omega), gup_i (by omega), gup_i (by omega), gup_i (by omega), gup_i (by omega)]; exact h0 _ (by omega) (by omega), by rw [gup_i (by omega), gup_i (by omega), gup_i (by omega), gup_i (by omega), gup_i (by omega), gup_i (by omega)]; exact h0 _ (by omega) (by omega), by rw [gup_i (by omega), gup_i (by omega), gup_i (by omega), gup_i (by omega), gup_i (by omega), gup_i (by omega)]; exact h0 _ (by omega) (by omega), by rw [gup_i (by omega), gup_i (by omega), gup_i (by omega), gup_i (by omega), gup_i (by omega), gup_i (by omega)]; exact h0 _ (by omega) (by omega), by rw [gup_i (by omega), gup_i (by omega), gup_i (by omega), gup_i (by omega), gup_i (by omega), gup_i (by omega)]; exact h0 _ (by omega) (by omega)⟩⟩
  · rw [gup_i (by omega), gup_i (by omega), gup_i (by omega), gup_i (by omega), gup_i (by omega)]; exact h128
  · rw [gup_ne ha, gup_ne ha, gup_ne ha, gup_ne ha, gup_ne ha, gup_ne ha]
  · rw [gup_i (by omega), gup_i (by omega), gup_i (by omega), gup_i (by omega), gup_i (by omega), gup_i (by omega)]
theorem op_enter (p st la : Int32) : OPB (f_W_enter p st la) (f_X8_enter p st la) := by
  intro I O J K h
  have hh := h
  obtain ⟨n0, _, len, h1, _⟩ := hh
  have hn := h1.2.2.2.1.1.2
  have h3 : I 1 3 = nI n0 := h1.1.1.1.trans h1.2.2.2.1.1.1
  have h128 : K 130 128 = nI n0 := h1.2.2.2.1.1.1
  have h5 : I 1 5 = K 130 150 := h1.1.1.2.2.1
  have hrc := bd1_c h1.2.2.2.1.2.2.2.2.1.2
  rcases isPace_e p with ⟨c1, pa, m1, m2, rfl, c2⟩ | ⟨c1, c2⟩
  · rcases in_chk (a := st) (lo := 100) (hi := 999) (by omega) (by omega) with ⟨sv, s1, s2, rfl, d1, d2, d3⟩ | ⟨d1, d2⟩
    · rcases in_chk (a := la) (lo := 0) (hi := 1) (by omega) (by omega) with ⟨lv, l1, l2, rfl, f1, f2, f3⟩ | ⟨f1, f2⟩
      · have d1' : f_X8_in (nI sv) (100 : Int32) (999 : Int32) = some 1 := d1
        have f1' : f_X8_in (nI lv) (0 : Int32) (1 : Int32) = some 1 := f1
        have d2' : ¬ (nI sv < (100 : Int32)) := d2
        have d3' : ¬ ((999 : Int32) < nI sv) := by rw [show (999 : Int32) = nI 999 from rfl, pi_lt (by omega) (by omega)]; omega
        have f2' : ¬ (nI lv < 0) := f2
        have f3' : nI lv ≤ (1 : Int32) := f3
        by_cases hlt : n0 < 8
        · have n8 : ¬ ((8 : Int32) ≤ nI n0) := by rw [show (8 : Int32) = nI 8 from rfl, pi_le (by omega) (by omega)]; omega
          have n8' : ¬ (nI n0 = (8 : Int32)) := by rw [show (8 : Int32) = nI 8 from rfl, pi_eq (by omega) (by omega)]; omega
          rcases hrc with hr | hr
          · obtain ⟨n, I1, O1, K1, a1, a2, a3, a4, a5, a6, a7, a8, a9⟩ := sv_step h
            have hnn : n = n0 := by
              have e3 := a3.2.2.2.1.1.1
              rw [a6, h128, pi_eq (by omega) (by have := a3.2.2.2.1.1.2; omega)] at e3
              exact e3.symm
            subst hnn
            have g3 : I1 1 3 = nI n := a3.1.1.1.trans a3.2.2.2.1.1.1
            have k128 : K1 130 128 = nI n := a3.2.2.2.1.1.1
            obtain ⟨X, x1, x2, x3, x4, x5, x6⟩ := x3_addSparrow (a1 := nI pa) (a2 := nI sv) (a3 := nI lv) hlt g3 (a3.2.1 n hlt).1
            obtain ⟨Y, y1, y2, y3, y4⟩ := x8_clear (K := K1) hlt k128
            have y128 : Y 130 128 = nI n := by rw [y4 128 (by omega)]; exact k128
            obtain ⟨W, w0, w1, w2, w3, w4, w5⟩ := row_enter (a1 := nI pa) (a2 := nI sv) (a3 := nI lv) hlt y3 y128
            have hR2 : RR X 1 (gup W 130 128 (nI (n + 1)) 130) (n + 1) := RR_new hlt ⟨m1, m2⟩ s2 l2 (by rw [a6]; exact hr) a3 x2 x3 x4 x5 x6 (fun i hi hi2 => by rw [w3 i hi hi2]; exact y4 i hi) w4 w5
            have z13 : RZ X 13 := RZ_I (fun a q1 q2 => x2 a (by omega) (by unfold cB; omega)) (ZZ13 a4)
            have gz0 : ∀ a, a ≠ 130 → gup W 130 128 (nI (n + 1)) a = K1 a := fun a ha => (w2 a ha).trans (y2 a ha)
            refine ⟨X, O1, gup W 130 128 (nI (n + 1)), Inv2_now a4 (fun a q1 q2 => x2 a (by omega) (by unfold cB; omega)) z13 hR2 (fun a q1 q2 => gz0 a (by omega)) (by rw [gz0 129 (by omega)]) (by rw [gz0 129 (by omega)]) rfl, fun a ha => (x2 a (by omega) (by unfold cB; omega)).trans (a8 a ha), fun a ha => (gz0 a (by omega)).trans (a9 a ha), Or.inl ⟨nI n, ?_, ?_, by rw [gz0 129 (by omega)]; exact a5⟩⟩
            · unfold f_W_enter f_X7_enter
              rw [c1]
              simp only [Option.bind_some, show ¬ ((1 : Int32) = 0) by decide, if_false]
              rw [if_neg d2', if_neg d3', if_neg f2', if_pos f3', h3, if_neg n8, h5, hr, if_pos rfl, a1]
              simp only [Option.bind_some]
              rw [x1]
              simp only [Option.bind_some, hsum, hlet_e]
              rw [t0']
            · have i0 : (16 : Int32) * nI n = nI (16 * n) := pi_mul 16 n
              have i1 : nI (16 * n) + (1 : Int32) = nI (16 * n + 1) := pi_add _ 1
              have i2 : nI (16 * n) + (2 : Int32) = nI (16 * n + 2) := pi_add _ 2
              have i3 : nI (16 * n) + (3 : Int32) = nI (16 * n + 3) := pi_add _ 3
              have i5 : nI (16 * n) + (5 : Int32) = nI (16 * n + 5) := pi_add _ 5
              have gk : ∀ k, k < 16 → gin (nI (16 * n + k)) 151 = true := fun k hk => by rw [pi_gin (by omega)]; exact decide_eq_true (by omega)
              have tk : ∀ k, k < 16 → (nI (16 * n + k)).toNatClampNeg = 16 * n + k := fun k hk => pi_tn (by omega)
              unfold f_X8_enter
              rw [c2]
              simp only [Option.bind_some, show ¬ ((1 : Int32) = 0) by decide, if_false]
              rw [d1']
              simp only [Option.bind_some, show ¬ ((1 : Int32) = 0) by decide, if_false]
              rw [f1']
              simp only [Option.bind_some, show ¬ ((1 : Int32) = 0) by decide, if_false]
              rw [t128, h128, if_neg n8', t150, hr, if_neg (by decide)]
              simp only [Option.bind_some]
              rw [ref0]
              simp only [Option.bind_some, if_true]
              rw [a2]
              simp only [Option.bind_some]
              rw [y1]
              simp only [Option.bind_some]
              rw [k128, i0, i1, i2, i3, i5, gk 1 (by omega), gk 2 (by omega), gk 3 (by omega), gk 5 (by omega), show gin (nI (16 * n)) 151 = true from gk 0 (by omega)]
              simp only [hlet_e, hg_t]
              rw [tk 1 (by omega), tk 2 (by omega), tk 3 (by omega), tk 5 (by omega), show (nI (16 * n)).toNatClampNeg = 16 * n from tk 0 (by omega), w0, w1, show nI n + (1 : Int32) = nI (n + 1) from pi_add n 1, gup_at, show nI (n + 1) - (1 : Int32) = nI n from pi_sub (b := 1) (by omega)]
          · refine op_no h (c := 2) (r := 0) (by decide) ?_ ?_
            · unfold f_W_enter f_X7_enter
              rw [c1]
              simp only [Option.bind_some, show ¬ ((1 : Int32) = 0) by decide, if_false]
              rw [if_neg d2', if_neg d3', if_neg f2', if_pos f3', h3, if_neg n8, h5, hr]; rfl
            · unfold f_X8_enter
              rw [c2]
              simp only [Option.bind_some, show ¬ ((1 : Int32) = 0) by decide, if_false]
              rw [d1']
              simp only [Option.bind_some, show ¬ ((1 : Int32) = 0) by decide, if_false]
              rw [f1']
              simp only [Option.bind_some, show ¬ ((1 : Int32) = 0) by decide, if_false]
              rw [t128, h128, if_neg n8', t150, hr]; rfl
        · have n8 : n0 = 8 := by omega
          subst n8
          refine op_no h (c := 2) (r := 0) (by decide) ?_ ?_
          · unfold f_W_enter f_X7_enter
            rw [c1]
            simp only [Option.bind_some, show ¬ ((1 : Int32) = 0) by decide, if_false]
            rw [if_neg d2', if_neg d3', if_neg f2', if_pos f3', h3]; rfl
          · unfold f_X8_enter
            rw [c2]
            simp only [Option.bind_some, show ¬ ((1 : Int32) = 0) by decide, if_false]
            rw [d1']
            simp only [Option.bind_some, show ¬ ((1 : Int32) = 0) by decide, if_false]
            rw [f1']
            simp only [Option.bind_some, show ¬ ((1 : Int32) = 0) by decide, if_false]
            rw [t128, h128]; rfl
      · have d1' : f_X8_in (nI sv) (100 : Int32) (999 : Int32) = some 1 := d1
        have f1' : f_X8_in la (0 : Int32) (1 : Int32) = some 0 := f1
        have d2' : ¬ (nI sv < (100 : Int32)) := d2
        have d3' : ¬ ((999 : Int32) < nI sv) := by rw [show (999 : Int32) = nI 999 from rfl, pi_lt (by omega) (by omega)]; omega
        refine op_no h (c := 1) (r := 0) (by decide) ?_ ?_
        · unfold f_W_enter f_X7_enter
          rw [c1]
          simp only [Option.bind_some, show ¬ ((1 : Int32) = 0) by decide, if_false]
          rw [if_neg d2', if_neg d3']
          rcases f2 with e | ⟨e, e'⟩
          · have e9 : la < 0 := e
            rw [if_pos e9]; rfl
          · have e9 : ¬ (la < 0) := e
            have e8 : ¬ (la ≤ (1 : Int32)) := e'
            rw [if_neg e9, if_neg e8]; rfl
        · unfold f_X8_enter
          rw [c2]
          simp only [Option.bind_some, show ¬ ((1 : Int32) = 0) by decide, if_false]
          rw [d1']
          simp only [Option.bind_some, show ¬ ((1 : Int32) = 0) by decide, if_false]
          rw [f1']; rfl
    · have d1' : f_X8_in st (100 : Int32) (999 : Int32) = some 0 := d1
      refine op_no h (c := 1) (r := 0) (by decide) ?_ ?_
      · unfold f_W_enter f_X7_enter
        rw [c1]
        simp only [Option.bind_some, show ¬ ((1 : Int32) = 0) by decide, if_false]
        rcases d2 with e | ⟨e, e'⟩
        · have e9 : st < (100 : Int32) := e
          rw [if_pos e9]; rfl
        · have e9 : ¬ (st < (100 : Int32)) := e
          have e8 : (999 : Int32) < st := by
            have q : ¬ (st ≤ nI 999) := e'
            rw [Int32.le_iff_toInt_le, show (nI 999).toInt = 999 from rfl] at q
            rw [Int32.lt_iff_toInt_lt, show (999 : Int32).toInt = 999 from rfl]; omega
          rw [if_neg e9, if_pos e8]; rfl
      · unfold f_X8_enter
        rw [c2]
        simp only [Option.bind_some, show ¬ ((1 : Int32) = 0) by decide, if_false]
        rw [d1']; rfl
  · refine op_no h (c := 1) (r := 0) (by decide) ?_ ?_
    · unfold f_W_enter f_X7_enter
      rw [c1]; rfl
    · unfold f_X8_enter
      rw [c2]; rfl
section CS
variable {SL' : Nat} {sx : Nat → Int32} {p4 : Int32} {I : Nat → Nat → Int32} {O : Nat → Nat → Option Nat} {J : Nat → Nat → Int64}
end CS
