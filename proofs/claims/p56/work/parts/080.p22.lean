def ZZ (I : Nat → Nat → Int32) : Prop := ∀ β, IsB β → RZ I β
def SV (I K : Nat → Nat → Int32) (O : Nat → Nat → Option Nat) (p : Nat) : Prop :=
  I 25 1 = nI p ∧ K 129 3 = nI p ∧ p ≤ 6 ∧ ∃ σ : Nat → Nat, (∀ i, i < 6 → σ i < 6 ∧ O 26 i = some (27 + 12 * σ i)) ∧ (∀ i j, i < 6 → j < 6 → σ i = σ j → i = j) ∧ ∀ i, i < p → ∃ m, RR I (27 + 12 * σ i) (fun k => K 132 (151 * i + k)) m
theorem RR.gz5 {I : Nat → Nat → Int32} {β n : Nat} {s : Nat → Int32} (h : RR I β s n) : gz (I β 5) = true := by
  have h5 : I β 5 = s 150 := h.1.1.2.2.1
  have hb := h.2.2.2.1.2.2.2.2.1.2.e (by omega)
  rw [h5, hb.1]
  rcases Nat.eq_zero_or_pos (tn (s 150)) with e | e
  · rw [e]; decide
  · rw [show tn (s 150) = 1 by omega]; decide
theorem sk_3 {k : Nat} (hk : k < 6) : SHK (27 + 12 * k) = 3 := (by decide : ∀ k, k < 6 → SHK (27 + 12 * k) = 3) k hk
theorem isB_s {k : Nat} (hk : k < 6) : IsB (27 + 12 * k) := Or.inr (Or.inr (Or.inl ⟨k, hk, rfl⟩))
theorem x4_drop {I : Nat → Nat → Int32} {O : Nat → Nat → Option Nat} {σ : Nat → Nat} (h : ∀ i, i < 6 → σ i < 6 ∧ O 26 i = some (27 + 12 * σ i)) :
    ∃ O', f_X4_dropOldest I O = some (gup I 25 1 (I 25 1 - 1), O') ∧ (∀ a, a ≠ 26 → O' a = O a) ∧ (∀ i, i < 5 → O' 26 i = O 26 (i + 1)) ∧ O' 26 5 = O 26 0 := by
  have := loop_go (fun fuel k (st : Nat → Nat → Option Nat) => f_X4_dropOldest_L2 fuel k st) 6
    (fun k X => 1 ≤ k ∧ (∀ a, a ≠ 26 → X a = O a) ∧ (∀ i, i + 1 < k → X 26 i = O 26 (i + 1)) ∧ X 26 (k - 1) = O 26 0 ∧ (∀ i, k ≤ i → X 26 i = O 26 i))
    (fun X => (∀ a, a ≠ 26 → X a = O a) ∧ (∀ i, i < 5 → X 26 i = O 26 (i + 1)) ∧ X 26 5 = O 26 0) ?_ FU 1 O (by omega) ⟨by omega, fun _ _ => rfl, fun i hi => absurd hi (by omega), rfl, fun _ _ => rfl⟩ (by unfold FU; omega)
  · obtain ⟨O', x1, x2⟩ := this
    refine ⟨O', ?_, x2⟩
    unfold f_X4_dropOldest
    rw [show f_X4_dropOldest_L2 FU 1 O = some O' from x1]; rfl
  · rintro k X hk ⟨e0, e1, e2, e3, e4⟩
    rcases Nat.lt_or_ge k 6 with hk6 | hk6
    · right
      have c : ¬ ((6 : Int32) ≤ nI k) := by rw [show (6 : Int32) = nI 6 from rfl, pi_le (by omega) (by omega)]; omega
      have cm : nI k - (1 : Int32) = nI (k - 1) := pi_sub (b := 1) e0
      obtain ⟨s0, q0⟩ := h 0 (by omega)
      obtain ⟨sk, qk⟩ := h k hk6
      refine ⟨hk6, gup (gup X 26 (k - 1) (some (27 + 12 * σ k))) 26 k (some (27 + 12 * σ 0)), ⟨by omega, fun a ha => (gup_ne ha).trans ((gup_ne ha).trans (e1 a ha)), fun i hi => ?_, ?_, fun i hi => ?_⟩, fun fuel => ?_⟩
      · rw [gup_i (by omega)]
        by_cases e : i = k - 1
        · rw [e, gup_at, show k - 1 + 1 = k by omega, qk]
        · rw [gup_i e]; exact e2 i (by omega)
      · rw [show k + 1 - 1 = k by omega, gup_at, q0]
      · rw [gup_i (by omega), gup_i (by omega)]; exact e4 i (by omega)
      · show f_X4_dropOldest_L2 (fuel+1) (nI k) X = _
        rw [f_X4_dropOldest_L2, if_neg c, cm, pi_gin (by omega), decide_eq_true (show k - 1 < 6 by omega), hg_t, hlet_e, pi_gin (by omega), decide_eq_true (show k < 6 by omega), hg_t, hlet_e, pi_tn (by omega), pi_tn (by omega), e3, e4 k (Nat.le_refl _), q0, qk, ov_some (sk_3 sk), ov_some (sk_3 s0)]
        simp only [Option.bind_some]
        rw [hk_e (sk_3 sk), hg_t, hlet_e]
        rw [hk_e (sk_3 s0), hg_t, hlet_e, hlet_e, show nI k + (1 : Int32) = nI (k + 1) from pi_add k 1]
    · left
      have : k = 6 := by omega
      subst this
      refine ⟨X, fun fuel => ?_, e1, fun i hi => e2 i (by omega), e3⟩
      show f_X4_dropOldest_L2 (fuel+1) (nI 6) X = _
      rw [f_X4_dropOldest_L2, if_pos (by decide)]
theorem x4_put {I K : Nat → Nat → Int32} {O : Nat → Nat → Option Nat} {p n : Nat} {σ : Nat → Nat} (hp : p < 6) (h25 : I 25 1 = nI p) (h : ∀ i, i < 6 → σ i < 6 ∧ O 26 i = some (27 + 12 * σ i)) (hi : ∀ i j, i < 6 → j < 6 → σ i = σ j → i = j)
    (hZ : ZZ I) (hR : RR I 1 (K 130) n) (K' : Nat → Nat → Int32) (hK1 : ∀ k, k < 151 → K' 132 (151 * p + k) = K 130 k) (hK3 : K' 129 3 = nI (p + 1)) (hold : ∀ i, i < p → ∃ m, RR I (27 + 12 * σ i) (fun k => K' 132 (151 * i + k)) m) :
    ∃ I', (if (I 25 1) < 0 then some (I, O) else if (6 : Int32) ≤ (I 25 1) then some (I, O) else hg (gin (I 25 1) 6) <| hlet (ov 3 (O 26 ((I 25 1).toNatClampNeg))) fun r4 => hopt r4 (some (I, O)) fun n5 => hk n5 3 <| (f_X3_takeFrom n5 1 I).bind fun I6 => hlet (gup I6 25 1 ((I6 25 1) + (1 : Int32))) fun I8 => some (I8, O)) = some (I', O) ∧
      SV I' K' O (p + 1) ∧ ZZ I' ∧ (∀ a, a ≠ 25 → (a < 27 ∨ 99 ≤ a) → I' a = I a) := by
  obtain ⟨sp, qp⟩ := h p hp
  have hBp := isB_s sp
  obtain ⟨X, x1, x2, x3, x4, x5, x6⟩ := x3_take (β := 27 + 12 * σ p) (γ := 1) hBp (Or.inl rfl) (by omega) hR.2.1 hR.gz5
  have x25 : X 25 = I 25 := x2 25 (by omega)
  have hRp : RR X (27 + 12 * σ p) (K 130) n := take_RR (hZ _ hBp) hR x3 x4 x5 x6
  refine ⟨gup X 25 1 (nI (p + 1)), ?_, ⟨gup_at, hK3, by omega, σ, h, hi, fun i hip => ?_⟩, fun β hβ => ?_, fun a ha hr => ?_⟩
  · rw [h25, if_neg (by rw [show (0 : Int32) = nI 0 from rfl, pi_lt (by omega) (by omega)]; omega), if_neg (by rw [show (6 : Int32) = nI 6 from rfl, pi_le (by omega) (by omega)]; omega), pi_gin (by omega), decide_eq_true hp, hg_t, hlet_e, pi_tn (by omega), qp, ov_some (sk_3 sp), hopt_e2, hk_e (sk_3 sp), x1]
    simp only [Option.bind_some]
    rw [hlet_e, x25, h25, show nI p + (1 : Int32) = nI (p + 1) from pi_add p 1]
  · by_cases e : i = p
    · subst e
      exact ⟨n, RR_I (fun a h1 h2 => gup_ne (by omega)) (RR_s (s := K 130) (fun k hk => hK1 k hk) hRp)⟩
    · obtain ⟨m, hm⟩ := hold i (by omega)
      obtain ⟨si, qi⟩ := h i (by omega)
      refine ⟨m, RR_I (fun a h1 h2 => (gup_ne (by omega)).trans (x2 a ?_)) hm⟩
      have : σ i ≠ σ p := fun e2 => e (hi i p (by omega) hp e2)
      omega
  · by_cases e : β = 27 + 12 * σ p
    · rw [e]; exact RZ_I (fun a h1 h2 => gup_ne (by omega)) hRp.2.1
    · have hd := base_disj hβ hBp e
      refine RZ_I (fun a h1 h2 => (gup_ne ?_).trans (x2 a (by omega))) (hZ β hβ)
      rcases hβ with rfl | rfl | ⟨k, hk, rfl⟩ | rfl | rfl <;> omega
  · rw [gup_ne ha]; exact x2 a (by omega)
theorem save_both {I K : Nat → Nat → Int32} {O : Nat → Nat → Option Nat} {p n : Nat} (hZ : ZZ I) (hR : RR I 1 (K 130) n) (hS : SV I K O p) :
    ∃ I' O' K' p', f_X4_save 1 I O = some (I', O') ∧ f_X8_records K = some K' ∧ SV I' K' O' p' ∧ ZZ I' ∧ (∀ a, a ≠ 25 → (a < 27 ∨ 99 ≤ a) → I' a = I a) ∧ (∀ a, a ≠ 26 → O' a = O a) ∧ (∀ a, a ≠ 132 → a ≠ 129 → K' a = K a) ∧ (∀ f, f ≠ 3 → K' 129 f = K 129 f) := by
  obtain ⟨h25, h3, hp6, σ, s1, s2, s3⟩ := hS
  unfold f_X4_save f_X8_records
  by_cases hp : p < 6
  · obtain ⟨X, x1, x2, x3, x4⟩ := x8_copyPast hp h3
    have e3 : ¬ (K 129 3 = (6 : Int32)) := by rw [h3, show (6 : Int32) = nI 6 from rfl, pi_eq (by omega) (by omega)]; omega
    obtain ⟨I', i1, i2, i3, i4⟩ := x4_put hp h25 s1 s2 hZ hR (gup X 129 3 (X 129 3 + 1)) (fun k hk => by rw [gup_n (by omega)]; exact x3 k hk) (by rw [gup_at, x2 129 (by omega), h3]; exact pi_add p 1) (fun i hi => by
      obtain ⟨m, hm⟩ := s3 i hi
      exact ⟨m, RR_s (fun k hk => by show gup X 129 3 (X 129 3 + 1) 132 (151 * i + k) = _; rw [gup_n (by omega)]; exact x4 _ (by omega)) hm⟩)
    refine ⟨I', O, gup X 129 3 (X 129 3 + 1), p + 1, ?_, ?_, i2, i3, i4, fun _ _ => rfl, fun a h1 h2 => (gup_ne h2).trans (x2 a h1), fun f hf => by rw [gup_i hf, x2 129 (by omega)]⟩
    · rw [if_pos (by rw [h25, show (6 : Int32) = nI 6 from rfl, pi_lt (by omega) (by omega)]; exact hp)]
      simp only [Option.bind_some]
      exact i1
    · rw [if_neg e3]
      simp only [Option.bind_some]
      rw [x1]; rfl
  · have hp6' : p = 6 := by omega
    subst hp6'
    obtain ⟨O', o1, o2, o3, o4⟩ := x4_drop (I := I) s1
    obtain ⟨Y, y1, y2, y3⟩ := x8_shiftPast (K := K)
    have y129 : Y 129 3 = nI 6 := by rw [y2 129 (by omega), h3]
    have e5 : nI 6 - (1 : Int32) = nI 5 := by decide
    obtain ⟨X, x1, x2, x3, x4⟩ := x8_copyPast (K := gup Y 129 3 (nI 5)) (p := 5) (by omega) gup_at
    have hZ5 : ZZ (gup I 25 1 (nI 5)) := fun β hβ => RZ_I (fun a h1 h2 => gup_ne (by rcases hβ with rfl | rfl | ⟨k, hk, rfl⟩ | rfl | rfl <;> omega)) (hZ β hβ)
    have hR5 : RR (gup I 25 1 (nI 5)) 1 (K 130) n := RR_I (fun a h1 h2 => gup_ne (by omega)) hR
    obtain ⟨I', i1, i2, i3, i4⟩ := x4_put (I := gup I 25 1 (nI 5)) (K := K) (O := O') (p := 5) (σ := fun i => if i = 5 then σ 0 else σ (i + 1)) (by omega) gup_at (fun i hi => by
        by_cases e : i = 5
        · subst e; rw [if_pos rfl]; exact ⟨(s1 0 (by omega)).1, by rw [o4]; exact (s1 0 (by omega)).2⟩
        · rw [if_neg e]; exact ⟨(s1 (i + 1) (by omega)).1, by rw [o3 i (by omega)]; exact (s1 (i + 1) (by omega)).2⟩)
      (fun i j hi hj e => by
        by_cases e1 : i = 5
        · by_cases e2 : j = 5
          · omega
          · rw [if_pos e1, if_neg e2] at e; have := s2 0 (j + 1) (by omega) (by omega) e; omega
        · by_cases e2 : j = 5
          · rw [if_neg e1, if_pos e2] at e; have := s2 (i + 1) 0 (by omega) (by omega) e; omega
          · rw [if_neg e1, if_neg e2] at e; have := s2 (i + 1) (j + 1) (by omega) (by omega) e; omega)
      hZ5 hR5 (gup X 129 3 (X 129 3 + 1)) (fun k hk => by
        rw [gup_n (by omega), x3 k hk, gup_n (by omega), y2 130 (by omega)])
      (by rw [gup_at, x2 129 (by omega), gup_at]; decide)
      (fun i hi => by
        obtain ⟨m, hm⟩ := s3 (i + 1) (by omega)
        refine ⟨m, RR_I (fun a h1 h2 => gup_ne (by omega)) (RR_s (s := fun k => K 132 (151 * (i + 1) + k)) (fun k hk => ?_) ?_)⟩
        · show gup X 129 3 (X 129 3 + 1) 132 (151 * i + k) = K 132 (151 * (i + 1) + k)
          have e1 : 151 + (151 * i + k) = 151 * (i + 1) + k := by omega
          rw [gup_n (by omega), x4 _ (by omega), gup_n (by omega), y3 _ (by omega), e1]
        · rw [if_neg (by omega)]; exact hm)
    refine ⟨I', O', gup X 129 3 (X 129 3 + 1), 6, ?_, ?_, i2, i3, fun a h1 h2 => (i4 a h1 h2).trans (gup_ne h1), o2, fun a h1 h2 => ?_, fun f hf => ?_⟩
    · rw [if_neg (by rw [h25]; decide), o1, h25, e5]
      simp only [Option.bind_some]
      exact i1
    · rw [if_pos (by rw [h3]; decide), y1]
      simp only [Option.bind_some, hlet_e]
      rw [y129, e5, x1]; rfl
    · rw [gup_ne h2, x2 a h1, gup_ne h2, y2 a h1]
    · rw [gup_i hf, x2 129 (by omega), gup_i hf, y2 129 (by omega)]
