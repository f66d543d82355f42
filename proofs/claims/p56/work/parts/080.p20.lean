theorem base_disj {β γ : Nat} (h : IsB β) (h2 : IsB γ) (hne : β ≠ γ) : β + 12 ≤ γ ∨ γ + 12 ≤ β := by
  rcases h with rfl | rfl | ⟨k, hk, rfl⟩ | rfl | rfl <;> rcases h2 with rfl | rfl | ⟨j, hj, rfl⟩ | rfl | rfl <;> omega
theorem x6_take {I : Nat → Nat → Int32} {t a : Nat} (h : t ≠ a) (hz : gz (I a 11) = true) : ∃ X, f_X6_takeFrom t a I = some X ∧ (∀ c, c ≠ t → X c = I c) ∧ (∀ f, 1 ≤ f → f ≤ 14 → X t f = I a f) ∧ X t 0 = I t 0 := by
  have h' : a ≠ t := fun e => h e.symm
  have e : ∀ (X : Nat → Nat → Int32) (k f : Nat) (v : Int32), gup X t k v a f = X a f := fun X k f v => gup_n h'
  unfold f_X6_takeFrom
  simp only [hlet_e, e, hz, hg_t]
  refine ⟨_, rfl, fun c hc => ?_, fun f h1 h2 => ?_, ?_⟩
  · simp only [gup_ne hc]
  · have : f = 1 ∨ f = 2 ∨ f = 3 ∨ f = 4 ∨ f = 5 ∨ f = 6 ∨ f = 7 ∨ f = 8 ∨ f = 9 ∨ f = 10 ∨ f = 11 ∨ f = 12 ∨ f = 13 ∨ f = 14 := by omega
    rcases this with rfl | rfl | rfl | rfl | rfl | rfl | rfl | rfl | rfl | rfl | rfl | rfl | rfl | rfl <;> simp [gup]
  · simp [gup]
theorem x3_take {I : Nat → Nat → Int32} {β γ : Nat} (hB : IsB β) (hG : IsB γ) (hne : β ≠ γ) (hz : RZ I γ) (hz5 : gz (I γ 5) = true) :
    ∃ X, f_X3_takeFrom β γ I = some X ∧ FI β I X ∧ (∀ i, i < 8 → ∀ f, 1 ≤ f → f ≤ 14 → X (cB β i) f = I (cB γ i) f) ∧ (∀ i, i < 8 → X (cB β i) 0 = I (cB β i) 0) ∧ (∀ k, k < 4 → X (β + 3) k = I (γ + 3) k) ∧ (∀ f, 3 ≤ f → f ≤ 13 → X β f = I γ f) := by
  have hd := base_disj hB hG hne
  have hb := loop_go (fun fuel k (st : Nat → Nat → Int32) => f_X3_takeFrom_L2 β γ fuel k st) 8
    (fun k X => (∀ a, (∀ i, i < 8 → a ≠ cB β i) → X a = I a) ∧ (∀ i, i < k → ∀ f, 1 ≤ f → f ≤ 14 → X (cB β i) f = I (cB γ i) f) ∧ (∀ i, i < 8 → X (cB β i) 0 = I (cB β i) 0))
    (fun X => (∀ a, (∀ i, i < 8 → a ≠ cB β i) → X a = I a) ∧ (∀ i, i < 8 → ∀ f, 1 ≤ f → f ≤ 14 → X (cB β i) f = I (cB γ i) f) ∧ (∀ i, i < 8 → X (cB β i) 0 = I (cB β i) 0)) ?_ FU 0 I (by omega) ⟨fun _ _ => rfl, fun i hi => absurd hi (by omega), fun _ _ => rfl⟩ (by unfold FU; omega)
  · obtain ⟨X, x1, x2, x3, x4⟩ := hb
    have hl := loop_go (fun fuel k (st : Nat → Nat → Int32) => f_X3_takeFrom_L58 β γ fuel k st) 4
      (fun k Y => (∀ a, a ≠ β + 3 → Y a = X a) ∧ (∀ i, i < k → Y (β + 3) i = I (γ + 3) i))
      (fun Y => (∀ a, a ≠ β + 3 → Y a = X a) ∧ (∀ i, i < 4 → Y (β + 3) i = I (γ + 3) i)) ?_ FU 0 X (by omega) ⟨fun _ _ => rfl, fun i hi => absurd hi (by omega)⟩ (by unfold FU; omega)
    · obtain ⟨Y, y1, y2, y3⟩ := hl
      have yg : Y γ = I γ := by
        rw [y2 γ (by omega), x2 γ (fun i hi => by unfold cB; omega)]
      have h' : γ ≠ β := by omega
      have e : ∀ (X : Nat → Nat → Int32) (k f : Nat) (v : Int32), gup X β k v γ f = X γ f := fun X k f v => gup_n h'
      unfold f_X3_takeFrom
      rw [show f_X3_takeFrom_L2 β γ FU 0 I = some X from x1]
      simp only [Option.bind_some]
      rw [show f_X3_takeFrom_L58 β γ FU 0 X = some Y from y1]
      simp only [Option.bind_some, hlet_e, e, yg, hz5, hg_t]
      refine ⟨_, rfl, fun a ha => ?_, fun i hi f h1 h2 => ?_, fun i hi => ?_, fun k hk => ?_, fun f h1 h2 => ?_⟩
      · simp only [gup_ne (show a ≠ β by omega)]
        rw [y2 a (by omega), x2 a (fun i hi => by unfold cB; omega)]
      · simp only [gup_n cB_ne]
        rw [y2 _ cB_n3]; exact x3 i hi f h1 h2
      · simp only [gup_n cB_ne]
        rw [y2 _ cB_n3]; exact x4 i hi
      · simp only [gup_n (show β + 3 ≠ β by omega)]; exact y3 k hk
      · have : f = 3 ∨ f = 4 ∨ f = 5 ∨ f = 6 ∨ f = 7 ∨ f = 8 ∨ f = 9 ∨ f = 10 ∨ f = 11 ∨ f = 12 ∨ f = 13 := by omega
        rcases this with rfl | rfl | rfl | rfl | rfl | rfl | rfl | rfl | rfl | rfl | rfl <;> simp [gup]
    · rintro k Y hk ⟨e1, e2⟩
      rcases Nat.lt_or_ge k 4 with h | h
      · right
        have c : ¬ ((4 : Int32) ≤ nI k) := by rw [show (4 : Int32) = nI 4 from rfl, pi_le (by omega) (by omega)]; omega
        refine ⟨h, gup Y (β + 3) k (I (γ + 3) k), ⟨fun a ha => (gup_ne ha).trans (e1 a ha), fun i hi => ?_⟩, fun fuel => ?_⟩
        · by_cases e : i = k
          · rw [e, gup_at]
          · rw [gup_i e]; exact e2 i (by omega)
        · show f_X3_takeFrom_L58 β γ (fuel+1) (nI k) Y = _
          rw [f_X3_takeFrom_L58, if_neg c, if_neg c, pi_gin (by omega), decide_eq_true (by omega), hg_t, hg_t, hlet_e, hlet_e, pi_tn (by omega), show nI k + (1 : Int32) = nI (k + 1) from pi_add k 1]
          rw [show Y (γ + 3) k = I (γ + 3) k by rw [e1 _ (by omega), x2 _ (fun i hi => by unfold cB; omega)]]
      · left
        have : k = 4 := by omega
        subst this
        refine ⟨Y, fun fuel => ?_, e1, e2⟩
        show f_X3_takeFrom_L58 β γ (fuel+1) (nI 4) Y = _
        rw [f_X3_takeFrom_L58, if_pos (by decide)]
  · rintro k X hk ⟨e1, e2, e3⟩
    rcases Nat.lt_or_ge k 8 with h | h
    · right
      have c : ¬ ((8 : Int32) ≤ nI k) := by rw [show (8 : Int32) = nI 8 from rfl, pi_le (by omega) (by omega)]; omega
      have eg : X (cB γ k) = I (cB γ k) := e1 _ (fun i hi => by unfold cB; omega)
      obtain ⟨Y, t1, t2, t3, t4⟩ := x6_take (I := X) (t := cB β k) (a := cB γ k) (by unfold cB; omega) (by rw [eg]; exact (hz k h).2)
      refine ⟨h, Y, ⟨fun a ha => (t2 a (ha k h)).trans (e1 a ha), fun i hi f h1 h2 => ?_, fun i hi => ?_⟩, fun fuel => ?_⟩
      · by_cases e : i = k
        · rw [e, t3 f h1 h2, eg]
        · rw [t2 _ (cB_inj e)]; exact e2 i (by omega) f h1 h2
      · by_cases e : i = k
        · rw [e, t4]; exact e3 k h
        · rw [t2 _ (cB_inj e)]; exact e3 i hi
      · show f_X3_takeFrom_L2 β γ (fuel+1) (nI k) X = _
        rw [f_X3_takeFrom_L2, if_neg c, if_neg c, pi_gin (by omega), decide_eq_true (by omega), hg_t, hg_t, pi_tn (by omega)]
        rw [show f_X6_takeFrom (β + 1 + 3 + k) (γ + 1 + 3 + k) X = some Y from t1]
        simp only [Option.bind_some, hlet_e]
        rw [show nI k + (1 : Int32) = nI (k + 1) from pi_add k 1]
    · left
      have : k = 8 := by omega
      subst this
      refine ⟨X, fun fuel => ?_, e1, e2, e3⟩
      show f_X3_takeFrom_L2 β γ (fuel+1) (nI 8) X = _
      rw [f_X3_takeFrom_L2, if_pos (by decide)]
theorem take_RR {I X : Nat → Nat → Int32} {β γ n : Nat} {s : Nat → Int32} (hZb : RZ I β) (h : RR I γ s n)
    (a1 : ∀ i, i < 8 → ∀ f, 1 ≤ f → f ≤ 14 → X (cB β i) f = I (cB γ i) f) (a2 : ∀ i, i < 8 → X (cB β i) 0 = I (cB β i) 0) (a3 : ∀ k, k < 4 → X (β + 3) k = I (γ + 3) k) (a4 : ∀ f, 3 ≤ f → f ≤ 13 → X β f = I γ f) : RR X β s n := by
  obtain ⟨⟨h1, h2, h3, h4⟩, hZ, h6, hw⟩ := h
  have hn := hw.1.1.2
  refine ⟨⟨?_, fun k hk => (a3 k hk).trans (h2 k hk), fun b hb => ?_, fun b k hb hk e => ?_⟩, fun b hb => ⟨(a2 b hb).trans (hZb b hb).1, by rw [a1 b hb 11 (by omega) (by omega)]; exact (hZ b hb).2⟩, (a4 6 (by omega) (by omega)).trans h6, hw⟩
  · rw [a4 3 (by omega) (by omega), a4 4 (by omega) (by omega), a4 5 (by omega) (by omega), a4 7 (by omega) (by omega), a4 8 (by omega) (by omega), a4 9 (by omega) (by omega), a4 10 (by omega) (by omega), a4 11 (by omega) (by omega), a4 12 (by omega) (by omega), a4 13 (by omega) (by omega)]
    exact h1
  · have r := h3 b hb
    have e := a1 b (by omega)
    unfold RB at *
    rw [e 1 (by omega) (by omega), e 2 (by omega) (by omega), e 3 (by omega) (by omega), e 4 (by omega) (by omega), e 5 (by omega) (by omega), e 6 (by omega) (by omega), e 7 (by omega) (by omega), e 8 (by omega) (by omega), e 9 (by omega) (by omega), e 10 (by omega) (by omega), e 11 (by omega) (by omega), e 12 (by omega) (by omega), e 14 (by omega) (by omega)]
    exact r
  · rw [a1 b (by omega) 13 (by omega) (by omega)]; exact h4 b k hb hk e
theorem RR_I {I X : Nat → Nat → Int32} {β n : Nat} {s : Nat → Int32} (e : ∀ a, β ≤ a → a < β + 12 → X a = I a) (h : RR I β s n) : RR X β s n := by
  obtain ⟨⟨h1, h2, h3, h4⟩, hZ, h6, hw⟩ := h
  have hn := hw.1.1.2
  have e0 := e β (by omega) (by omega)
  have e3 := e (β + 3) (by omega) (by omega)
  have eb : ∀ b, b < 8 → X (cB β b) = I (cB β b) := fun b hb => e _ (by unfold cB; omega) (by unfold cB; omega)
  exact ⟨⟨by rw [e0]; exact h1, fun k hk => by rw [e3]; exact h2 k hk, fun b hb => RB_cell (eb b (by omega)) (h3 b hb), fun b k hb hk he => by rw [eb b (by omega)]; exact h4 b k hb hk he⟩, fun b hb => by rw [eb b hb]; exact hZ b hb, by rw [e0]; exact h6, hw⟩
theorem RZ_I {I X : Nat → Nat → Int32} {β : Nat} (e : ∀ a, β ≤ a → a < β + 12 → X a = I a) (h : RZ I β) : RZ X β := by
  intro b hb
  rw [e (cB β b) (by unfold cB; omega) (by unfold cB; omega)]; exact h b hb
