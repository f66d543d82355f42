/-! What one sparrow's flight does to the race's accounts (the class's cells alone). -/
theorem rem_b (x : Int32) : -400 < (x - x / (400 : Int32) * (400 : Int32)).toInt ∧ (x - x / (400 : Int32) * (400 : Int32)).toInt < 400 := by
  have h1 := x.toInt_lt
  have h2 := x.le_toInt
  have hd := td_e x.toInt
  have e2 : (x / (400 : Int32)).toInt = x.toInt.tdiv 400 := by
    rw [Int32.toInt_div, show (400 : Int32).toInt = 400 from rfl]
    apply Int.bmod_eq_of_le <;> omega
  have e3 : (x / (400 : Int32) * (400 : Int32)).toInt = x.toInt.tdiv 400 * 400 := by
    rw [Int32.toInt_mul, e2, show (400 : Int32).toInt = 400 from rfl]; apply Int.bmod_eq_of_le <;> omega
  have e4 : (x - x / (400 : Int32) * (400 : Int32)).toInt = x.toInt - x.toInt.tdiv 400 * 400 := by
    rw [Int32.toInt_sub, e3]; apply Int.bmod_eq_of_le <;> omega
  rw [e4]
  omega
theorem fb_b {I : Nat → Nat → Int32} {c d : Nat} {r : Int32} (h : f_X6_feetBehind c d I = some r) : ∃ g, 1 ≤ g ∧ g ≤ 400 ∧ r = nI g := by
  unfold f_X6_feetBehind at h
  have hb := rem_b (I d 4 - I c 4)
  generalize (I d 4 - I c 4) - (I d 4 - I c 4) / (400 : Int32) * (400 : Int32) = z at h hb
  by_cases c0 : z ≤ 0
  · rw [if_pos c0] at h
    obtain rfl := Option.some.inj h
    rw [Int32.le_iff_toInt_le, show (0 : Int32).toInt = 0 from rfl] at c0
    refine ⟨(z.toInt + 400).toNat, by omega, by omega, ?_⟩
    exact add_e (k := z.toInt) rfl (by omega) (by omega)
  · rw [if_neg c0] at h
    obtain rfl := Option.some.inj h
    rw [Int32.le_iff_toInt_le, show (0 : Int32).toInt = 0 from rfl] at c0
    refine ⟨z.toInt.toNat, by omega, by omega, ?_⟩
    exact toI_nI (by omega) (by omega)
/-- what a flight of the sparrow in the cell c does -/
def zFE (β c : Nat) (I I' : Nat → Nat → Int32) : Prop :=
  (∀ a, a ≠ β → a ≠ c → I' a = I a) ∧
  (∀ f, (f = 3 ∨ f = 4 ∨ f = 5 ∨ f = 6 ∨ f = 12) → I' β f = I β f) ∧
  (I' β 9 = I β 9 ∨ I' β 9 = I β 9 + 1) ∧ (I' β 10 = I β 10 ∨ I' β 10 = I β 10 + 1) ∧ (I' β 11 = I β 11 ∨ I' β 11 = I β 11 + 1) ∧
  ∃ x y : Nat, I c 4 = nI x ∧ I' c 4 = nI y ∧ x ≤ 3600 ∧ x ≤ y ∧ y ≤ x + 42 ∧ I' c 5 = nI (y - x) ∧ I' β 8 = I β 8 + nI (y - x) ∧
   ((I' c 9 = 3 ∧ I' c 13 = I β 7 ∧ I' c 14 = I β 6 ∧ I' β 7 = I β 7 + 1 ∧ 400 ≤ y ∧ (I' β 13 = I β 13 ∨ (I β 7 = 0 ∧ I' β 13 = I β 13 + 1))) ∨
    (I' β 7 = I β 7 ∧ I' β 13 = I β 13 ∧ (I' c 9 = I c 9 ∨ I' c 9 = 2)))
/-- before the last step of the flight -/
def zPE (β c : Nat) (I J : Nat → Nat → Int32) : Prop :=
  (∀ a, a ≠ β → a ≠ c → J a = I a) ∧ (∀ f, f ≠ 9 → f ≠ 10 → J β f = I β f) ∧
  (J β 9 = I β 9 ∨ J β 9 = I β 9 + 1) ∧ (J β 10 = I β 10 ∨ J β 10 = I β 10 + 1) ∧ ∀ f, f ≠ 6 → f ≠ 7 → f ≠ 8 → J c f = I c f
theorem goToNest_fe {c : Nat} {I I' : Nat → Nat → Int32} (h : f_X6_goToNest c I = some I') : (∀ a, a ≠ c → I' a = I a) ∧ I' c 4 = I c 4 ∧ I' c 5 = I c 5 ∧ I' c 9 = 2 := by
  unfold f_X6_goToNest at h
  simp only [hlet_e] at h
  split at h
  · obtain rfl := Option.some.inj h
    refine ⟨fun a ha => ?_, ?_, ?_, ?_⟩
    · funext i; simp [gup, ha]
    all_goals simp [gup]
  · obtain rfl := Option.some.inj h
    refine ⟨fun a ha => ?_, ?_, ?_, ?_⟩
    · funext i; simp [gup, ha]
    all_goals simp [gup]
theorem noteArrival_fe {β c : Nat} {I I' : Nat → Nat → Int32} (hne : c ≠ β) (h : f_X3_noteArrival β c I = some I') : (∀ a, a ≠ β → a ≠ c → I' a = I a) ∧ (∀ f, f ≠ 7 → f ≠ 13 → I' β f = I β f) ∧ I' c 4 = I c 4 ∧ I' c 5 = I c 5 ∧ I' c 9 = 3 ∧ I' c 13 = I β 7 ∧ I' c 14 = I β 6 ∧ I' β 7 = I β 7 + 1 ∧ (I' β 13 = I β 13 ∨ (I β 7 = 0 ∧ I' β 13 = I β 13 + 1)) := by
  unfold f_X3_noteArrival at h
  simp only [hlet_e] at h
  obtain ⟨I4, h4, h⟩ := hb_some h
  obtain rfl := Option.some.inj h
  have hne' : β ≠ c := fun e => hne e.symm
  split at h4
  · next c7 =>
    have c7' : I β 7 = 0 := by simpa [gup, hne'] using c7
    split at h4
    · obtain rfl := Option.some.inj h4
      refine ⟨fun a h1 h2 => by funext i; simp [gup, h1, h2], fun f h1 h2 => by simp [gup, h1, h2, hne, hne'], ?_, ?_, ?_, ?_, ?_, ?_, Or.inl ?_⟩ <;> simp [gup, hne, hne']
    · obtain rfl := Option.some.inj h4
      refine ⟨fun a h1 h2 => by funext i; simp [gup, h1, h2], fun f h1 h2 => by simp [gup, h1, h2, hne, hne'], ?_, ?_, ?_, ?_, ?_, ?_, Or.inr ⟨c7', ?_⟩⟩ <;> simp [gup, hne, hne']
  · obtain rfl := Option.some.inj h4
    refine ⟨fun a h1 h2 => by funext i; simp [gup, h1, h2], fun f h1 h2 => by simp [gup, h1, h2, hne, hne'], ?_, ?_, ?_, ?_, ?_, ?_, Or.inl ?_⟩ <;> simp [gup, hne, hne']
theorem flyOn_fe {β c F f L : Nat} {I I' : Nat → Nat → Int32} (hne : c ≠ β) (hF : I c 4 = nI F) (hF2 : F ≤ 3600) (hf : f ≤ 42) (hL : I β 4 = nI L) (hL2 : L ≤ 9) (h : f_X3_flyOn β c (nI f) I = some I') : zFE β c I I' ∧ I' β 9 = I β 9 ∧ I' β 10 = I β 10 := by
  have hne' : β ≠ c := fun e => hne e.symm
  unfold f_X3_flyOn f_X6_lapsOver at h
  simp only [Option.bind_some, hlet_e] at h
  obtain ⟨E, hE⟩ : ∃ E, E = (F / 400 + 1) * 400 := ⟨_, rfl⟩
  rw [hF, hL, show nI F / (400 : Int32) = nI (F / 400) from pi_div (b := 400) (by omega) (by omega), show nI (F / 400) + (1 : Int32) = nI (F / 400 + 1) from pi_add _ _, show nI (F / 400 + 1) * (400 : Int32) = nI E from by rw [hE]; exact pi_mul _ _, show nI L * (400 : Int32) = nI (L * 400) from pi_mul _ _, pi_add] at h
  have hE1 : F < E := by omega
  have hE2 : E ≤ F + 400 := by omega
  have hE3 : 400 ≤ E := by omega
  clear hE
  have fin : ∀ to : Nat, F ≤ to → to ≤ F + f → ∃ X, X = gup (gup (gup I c 5 (nI to - nI F)) c 4 (nI to)) β 8 (gup (gup I c 5 (nI to - nI F)) c 4 (nI to) β 8 + gup (gup I c 5 (nI to - nI F)) c 4 (nI to) c 5) ∧ (∀ a, a ≠ β → a ≠ c → X a = I a) ∧ (∀ f, f ≠ 8 → X β f = I β f) ∧ (∀ f, f ≠ 4 → f ≠ 5 → X c f = I c f) ∧ X c 4 = nI to ∧ X c 5 = nI (to - F) ∧ X β 8 = I β 8 + nI (to - F) := by
    intro to t1 t2
    have es : nI to - nI F = nI (to - F) := pi_sub t1
    refine ⟨_, rfl, fun a h1 h2 => by funext i; simp [gup, h1, h2], fun f h1 => by simp [gup, h1, hne, hne'], fun f h1 h2 => by simp [gup, h1, h2, hne, hne'], ?_, ?_, ?_⟩ <;> simp [gup, es, hne, hne']
  by_cases c1 : F + f < E
  · rw [if_pos ((pi_lt (by omega) (by omega)).mpr c1)] at h
    simp only [Option.bind_some, eq_self, if_true] at h
    obtain ⟨X, x0, x1, x2, x3, x4, x5, x6⟩ := fin (F + f) (by omega) (by omega)
    rw [← x0] at h
    obtain rfl := Option.some.inj h
    exact ⟨⟨x1, fun f hf => x2 f (by omega), Or.inl (x2 9 (by omega)), Or.inl (x2 10 (by omega)), Or.inl (x2 11 (by omega)), F, F + f, hF, x4, by omega, by omega, by omega, x5, x6, Or.inr ⟨x2 7 (by omega), x2 13 (by omega), Or.inl (x3 9 (by omega) (by omega))⟩⟩, x2 9 (by omega), x2 10 (by omega)⟩
  · rw [if_neg (fun e => c1 ((pi_lt (by omega) (by omega)).mp e))] at h
    simp only [Option.bind_some, show ¬ ((1 : Int32) = 0) by decide, if_false] at h
    by_cases c2 : E < L * 400
    · rw [if_pos ((pi_lt (by omega) (by omega)).mpr c2)] at h
      simp only [Option.bind_some, eq_self, if_true] at h
      by_cases c3 : I c 11 = 0
      · rw [if_pos c3] at h
        simp only [Option.bind_some, eq_self, if_true] at h
        obtain ⟨X, x0, x1, x2, x3, x4, x5, x6⟩ := fin (F + f) (by omega) (by omega)
        rw [← x0] at h
        obtain rfl := Option.some.inj h
        exact ⟨⟨x1, fun f hf => x2 f (by omega), Or.inl (x2 9 (by omega)), Or.inl (x2 10 (by omega)), Or.inl (x2 11 (by omega)), F, F + f, hF, x4, by omega, by omega, by omega, x5, x6, Or.inr ⟨x2 7 (by omega), x2 13 (by omega), Or.inl (x3 9 (by omega) (by omega))⟩⟩, x2 9 (by omega), x2 10 (by omega)⟩
      · rw [if_neg c3] at h
        simp only [Option.bind_some, eq_self, if_true, show ¬ ((1 : Int32) = 0) by decide, if_false] at h
        obtain ⟨X, x0, x1, x2, x3, x4, x5, x6⟩ := fin E (by omega) (by omega)
        rw [← x0] at h
        obtain ⟨Y, hY, h⟩ := hb_some h
        obtain rfl := Option.some.inj h
        obtain ⟨y1, y2, y3, y4⟩ := goToNest_fe hY
        have yb : Y β = X β := y1 β hne'
        have q9 : gup Y β 11 (Y β 11 + 1) β 9 = I β 9 := by rw [gup_i (by omega), yb, x2 9 (by omega)]
        have q10 : gup Y β 11 (Y β 11 + 1) β 10 = I β 10 := by rw [gup_i (by omega), yb, x2 10 (by omega)]
        refine ⟨⟨fun a h1 h2 => ?_, fun f hf => ?_, Or.inl q9, Or.inl q10, Or.inr ?_, F, E, hF, ?_, by omega, by omega, by omega, ?_, ?_, Or.inr ⟨?_, ?_, Or.inr ?_⟩⟩, q9, q10⟩
        · rw [gup_ne h1, y1 a h2, x1 a h1 h2]
        · rw [gup_i (by omega), yb, x2 f (by omega)]
        · rw [gup_at, yb, x2 11 (by omega)]
        · rw [gup_n hne, y2, x4]
        · rw [gup_n hne, y3, x5]
        · rw [gup_i (by omega), yb, x6]
        · rw [gup_i (by omega), yb, x2 7 (by omega)]
        · rw [gup_i (by omega), yb, x2 13 (by omega)]
        · rw [gup_n hne, y4]
    · rw [if_neg (fun e => c2 ((pi_lt (by omega) (by omega)).mp e))] at h
      simp only [Option.bind_some, show ¬ ((1 : Int32) = 0) by decide, if_false] at h
      obtain ⟨X, x0, x1, x2, x3, x4, x5, x6⟩ := fin E (by omega) (by omega)
      rw [← x0] at h
      obtain ⟨Y, hY, h⟩ := hb_some h
      obtain rfl := Option.some.inj h
      obtain ⟨y1, y2, y3, y4, y5, y6, y7, y8, y9⟩ := noteArrival_fe hne hY
      have e7 : X β 7 = I β 7 := x2 7 (by omega)
      have e13 : X β 13 = I β 13 := x2 13 (by omega)
      rw [e7] at y6 y8 y9
      rw [e13] at y9
      refine ⟨⟨fun a h1 h2 => (y1 a h1 h2).trans (x1 a h1 h2), fun f hf => (y2 f (by omega) (by omega)).trans (x2 f (by omega)), Or.inl ((y2 9 (by omega) (by omega)).trans (x2 9 (by omega))), Or.inl ((y2 10 (by omega) (by omega)).trans (x2 10 (by omega))), Or.inl ((y2 11 (by omega) (by omega)).trans (x2 11 (by omega))), F, E, hF, y3.trans x4, by omega, by omega, by omega, y4.trans x5, (y2 8 (by omega) (by omega)).trans x6, Or.inl ⟨y5, y6, y7.trans (x2 6 (by omega)), y8, hE3, y9⟩⟩, (y2 9 (by omega) (by omega)).trans (x2 9 (by omega)), (y2 10 (by omega) (by omega)).trans (x2 10 (by omega))⟩
theorem strength_fe {c p : Nat} {q r : Int32} {I I' : Nat → Nat → Int32} (hp : p ≤ 42) (h : f_X6_flyWithStrength c (nI p) q I = some (r, I')) : (∃ f, f ≤ 42 ∧ r = nI f) ∧ (∀ a, a ≠ c → I' a = I a) ∧ ∀ f, f ≠ 6 → I' c f = I c f := by
  unfold f_X6_flyWithStrength at h
  obtain ⟨p1, -, h⟩ := hb_some h
  split at h
  · simp only [hlet_e, Option.some.injEq, Prod.mk.injEq] at h
    obtain ⟨rfl, rfl⟩ := h
    exact ⟨⟨p, hp, rfl⟩, fun a ha => gup_ne ha, fun f hf => gup_i hf⟩
  · split at h
    · simp only [Option.some.injEq, Prod.mk.injEq] at h
      obtain ⟨rfl, rfl⟩ := h
      exact ⟨⟨4, by omega, rfl⟩, fun _ _ => rfl, fun _ _ => rfl⟩
    · simp only [Option.some.injEq, Prod.mk.injEq] at h
      obtain ⟨rfl, rfl⟩ := h
      exact ⟨⟨p, hp, rfl⟩, fun _ _ => rfl, fun _ _ => rfl⟩
theorem zFE.of_pre {β c : Nat} {I J I' : Nat → Nat → Int32} (h : zPE β c I J) (g : zFE β c J I') (g9 : I' β 9 = J β 9) (g10 : I' β 10 = J β 10) : zFE β c I I' := by
  obtain ⟨a1, a2, a3, a4, a5⟩ := h
  obtain ⟨b1, b2, -, -, b5, x, y, b6, b7, b0, b8, b9, b10, b11, b12⟩ := g
  have e7 : J β 7 = I β 7 := a2 7 (by omega) (by omega)
  have e13 : J β 13 = I β 13 := a2 13 (by omega) (by omega)
  have e6 : J β 6 = I β 6 := a2 6 (by omega) (by omega)
  have e8 : J β 8 = I β 8 := a2 8 (by omega) (by omega)
  have e11 : J β 11 = I β 11 := a2 11 (by omega) (by omega)
  have c9 : J c 9 = I c 9 := a5 9 (by omega) (by omega) (by omega)
  have c4 : J c 4 = I c 4 := a5 4 (by omega) (by omega) (by omega)
  rw [e11] at b5
  rw [c4] at b6
  rw [e8] at b11
  rw [e7, e13, e6, c9] at b12
  refine ⟨fun a h1 h2 => (b1 a h1 h2).trans (a1 a h1 h2), fun f hf => (b2 f hf).trans (a2 f (by omega) (by omega)), ?_, ?_, b5, x, y, b6, b7, b0, b8, b9, b10, b11, b12⟩
  · rw [g9]; exact a3
  · rw [g10]; exact a4
theorem fly_fe {I I' : Nat → Nat → Int32} {β n b : Nat} {s : Nat → Int32} (hB : IsB β) (hw : WX s n) (hb : b < n) (hR : R I β s n) (hZ : RZ I β) (h : f_X3_fly β (cB β b) I = some I') : zFE β (cB β b) I I' := by
  have hn := hw.1.2
  have hq := hR.q hB hZ hw
  have hfl := hw.fl.2.2 b hb
  have hne : cB β b ≠ β := cB_ne
  obtain ⟨r, hr, hN⟩ := x3_nextAhead hq hb
  have hd := x3_draftFeet hq hb hN
  have hdb := drf_b (s := s) (b := b) (r := r)
  have haF := aF_b hw hb
  have hlp := hw.2.2.2.2.1.1.e (by omega)
  unfold f_X3_fly at h
  obtain ⟨r1, hr1, h⟩ := hb_some h
  rw [hr] at hr1
  obtain rfl := Option.some.inj hr1
  obtain ⟨r3, hr3, h⟩ := hb_some h
  rw [hd] at hr3
  obtain rfl := Option.some.inj hr3
  obtain ⟨I5, h5, h⟩ := hb_some h
  have p5 : (∀ a, a ≠ β → I5 a = I a) ∧ (∀ f, f ≠ 9 → I5 β f = I β f) ∧ (I5 β 9 = I β 9 ∨ I5 β 9 = I β 9 + 1) := by
    split at h5
    · obtain rfl := Option.some.inj h5
      exact ⟨fun _ _ => rfl, fun _ _ => rfl, Or.inl rfl⟩
    · simp only [hlet_e] at h5
      obtain rfl := Option.some.inj h5
      exact ⟨fun a ha => gup_ne ha, fun f hf => gup_i hf, Or.inr gup_at⟩
  obtain ⟨q1, q2, q3⟩ := p5
  obtain ⟨r6, hr6, h⟩ := hb_some h
  rw [x3_allowedFeet hw hb (RB_cell (q1 _ hne) (hR.2.2.1 b hb)) (fun k hk => by rw [q1 _ (by omega)]; exact hR.2.1 k hk)] at hr6
  obtain rfl := Option.some.inj hr6
  rw [pi_add] at h
  have hp42 : aF s b + drf s b r ≤ 42 := by omega
  generalize aF s b + drf s b r = p0 at h hp42
  obtain ⟨⟨p8, I9⟩, h9, h⟩ := hb_some h
  have p9 : zPE β (cB β b) I I9 := by
    have base : zPE β (cB β b) I I5 := ⟨fun a h1 _ => q1 a h1, fun f h1 _ => q2 f h1, q3, Or.inl (q2 10 (by omega)), fun f _ _ _ => by rw [q1 _ hne]⟩
    cases r with
    | none =>
      rw [Option.map_none, hopt_e1] at h9
      simp only [Option.some.injEq, Prod.mk.injEq] at h9
      rw [← h9.2]; exact base
    | some j =>
      rw [Option.map_some, hopt_e2] at h9
      obtain ⟨-, h9⟩ := hk_some h9
      obtain ⟨r28, -, h9⟩ := hb_some h9
      split at h9
      · simp only [Option.some.injEq, Prod.mk.injEq] at h9
        rw [← h9.2]; exact base
      · obtain ⟨r30, -, h9⟩ := hb_some h9
        split at h9
        · simp only [Option.some.injEq, Prod.mk.injEq] at h9
          rw [← h9.2]; exact base
        · simp only [hlet_e] at h9
          obtain ⟨r34, -, h9⟩ := hb_some h9
          simp only [Option.some.injEq, Prod.mk.injEq] at h9
          rw [← h9.2]
          refine ⟨fun a h1 h2 => ?_, fun f h1 h2 => ?_, ?_, ?_, fun f h1 h2 h3 => ?_⟩
          · rw [gup_ne h1, gup_ne h2, q1 a h1]
          · rw [gup_i h2, gup_n (fun e => hne e.symm), q2 f h1]
          · rw [gup_i (by omega), gup_n (fun e => hne e.symm)]; exact q3
          · rw [gup_at, gup_n (fun e => hne e.symm), q2 10 (by omega)]; exact Or.inr rfl
          · rw [gup_n hne, gup_i h3, q1 _ hne]
  obtain ⟨p10, h10, h⟩ := hb_some h
  have e10 : ∃ f, f ≤ 42 ∧ p10 = nI f := by
    cases p8 with
    | none =>
      rw [hopt_e1] at h10
      obtain rfl := Option.some.inj h10
      exact ⟨p0, hp42, rfl⟩
    | some j =>
      rw [hopt_e2] at h10
      obtain ⟨-, h10⟩ := hk_some h10
      obtain ⟨r23, h23, h10⟩ := hb_some h10
      obtain ⟨g, g1, g2, rfl⟩ := fb_b h23
      rw [room_e (by omega) g1 (by omega)] at h10
      simp only [Option.bind_some] at h10
      obtain rfl := Option.some.inj h10
      exact ⟨_, by omega, rfl⟩
  obtain ⟨f, hf, rfl⟩ := e10
  obtain ⟨p11, -, h⟩ := hb_some h
  obtain ⟨⟨r13, I12⟩, h12, h⟩ := hb_some h
  obtain ⟨⟨f2, hf2, rfl⟩, s1, s2⟩ := strength_fe hf h12
  obtain ⟨I15, h15, h⟩ := hb_some h
  obtain ⟨I16, h16, h⟩ := hb_some h
  obtain rfl := Option.some.inj h
  have e15 : (∀ a, a ≠ cB β b → I15 a = I12 a) ∧ ∀ f, f ≠ 7 → I15 (cB β b) f = I12 (cB β b) f := by
    split at h15
    · obtain rfl := Option.some.inj h15; exact ⟨fun _ _ => rfl, fun _ _ => rfl⟩
    · split at h15
      · obtain rfl := Option.some.inj h15; exact ⟨fun _ _ => rfl, fun _ _ => rfl⟩
      · simp only [hlet_e] at h15
        obtain rfl := Option.some.inj h15
        exact ⟨fun a ha => gup_ne ha, fun f hf => gup_i hf⟩
  obtain ⟨t1, t2⟩ := e15
  have p15 : zPE β (cB β b) I I15 := by
    obtain ⟨a1, a2, a3, a4, a5⟩ := p9
    have eb : I15 β = I9 β := (t1 β (fun e => hne e.symm)).trans (s1 β (fun e => hne e.symm))
    refine ⟨fun a h1 h2 => ((t1 a h2).trans (s1 a h2)).trans (a1 a h1 h2), fun f h1 h2 => by rw [eb]; exact a2 f h1 h2, by rw [eb]; exact a3, by rw [eb]; exact a4, fun f h1 h2 h3 => ((t2 f h2).trans (s2 f h1)).trans (a5 f h1 h2 h3)⟩
  have hF : I15 (cB β b) 4 = nI (fl s b) := (p15.2.2.2.2 4 (by omega) (by omega) (by omega)).trans ((hR.2.2.1 b hb).2.2.2.1.trans hfl.1)
  have hL : I15 β 4 = nI (tn (s 133)) := (p15.2.1 4 (by omega) (by omega)).trans (hR.1.2.1.trans hlp.1)
  obtain ⟨g, g9, g10⟩ := flyOn_fe hne hF hfl.2 hf2 hL hlp.2.2 h16
  exact g.of_pre p15 g9 g10
