def FO (β : Nat) (O O' : Nat → Nat → Option Nat) : Prop := ∀ a, a ≠ β + 2 → O' a = O a
def Ord (κ : Nat → Nat) (β m : Nat) (O : Nat → Nat → Option Nat) : Prop := ∀ q, q < m → ∃ b, b < m ∧ O (β + 2) q = some (cB β b) ∧ rk κ b m = q
theorem x3_insert {I : Nat → Nat → Int32} {β n m : Nat} {s : Nat → Int32} (hB : IsB β) (hw : WX s n) (hR : R I β s n) (hZ : RZ I β) (hm : m < n) :
    ∀ p fuel O, p ≤ m → p < fuel → (∀ q, q < p → ∃ b, b < m ∧ O (β + 2) q = some (cB β b) ∧ rk (ky s n) b m = q) →
    (∀ q, p < q → q ≤ m → ∃ b, b < m ∧ O (β + 2) q = some (cB β b) ∧ rk (ky s n) b m + 1 = q ∧ ky s n m < ky s n b) →
    ∃ O', f_X3_insertInOrder_L2 β (cB β m) I fuel (nI p) O = some O' ∧ Ord (ky s n) β (m + 1) O' ∧ FO β O O' := by
  have hn := hw.1.2
  intro p
  have fin : ∀ p O, p ≤ m → (∀ q, q < p → ∃ b, b < m ∧ O (β + 2) q = some (cB β b) ∧ rk (ky s n) b m = q) →
    (∀ q, p < q → q ≤ m → ∃ b, b < m ∧ O (β + 2) q = some (cB β b) ∧ rk (ky s n) b m + 1 = q ∧ ky s n m < ky s n b) →
    (p = 0 ∨ ∃ b, b < m ∧ rk (ky s n) b m + 1 = p ∧ ky s n b < ky s n m) → Ord (ky s n) β (m + 1) (gup O (β + 2) p (some (cB β m))) := by
    intro p O hp hlo hhi hex q hq
    have hrm : rk (ky s n) m (m + 1) = rk (ky s n) m m := by show rk _ m m + _ = _; rw [if_neg (Nat.lt_irrefl _)]; rfl
    have hpc : rk (ky s n) m m = p := by
      have hle := rk_le (ky s n) m m
      rw [if_neg (Nat.lt_irrefl m)] at hle
      have h1 : p ≤ rk (ky s n) m m := by
        rcases hex with h | ⟨b, hb, e1, e2⟩
        · omega
        · have := rk_mono e2 m; rw [if_pos hb] at this; omega
      have h2 : rk (ky s n) m m ≤ p := by
        by_cases e : p = m
        · omega
        · obtain ⟨b, hb, _, e1, e2⟩ := hhi (p + 1) (by omega) (by omega)
          have := rk_mono e2 m; rw [if_neg (Nat.lt_irrefl _)] at this; omega
      omega
    by_cases e : q = p
    · subst e
      exact ⟨m, by omega, gup_at, by rw [hrm, hpc]⟩
    · rw [gup_i e]
      rcases Nat.lt_or_ge q p with h | h
      · obtain ⟨b, hb, e1, e2⟩ := hlo q h
        refine ⟨b, by omega, e1, ?_⟩
        show rk _ b m + _ = q
        rcases hex with h0 | ⟨c, hc, e3, e4⟩
        · omega
        · have : ky s n b ≤ ky s n c := by
            rcases Nat.lt_or_ge (ky s n c) (ky s n b) with h5 | h5
            · have := rk_mono h5 m; rw [if_pos hc] at this; omega
            · exact h5
          rw [if_neg (by omega)]; omega
      · obtain ⟨b, hb, e1, e2, e3⟩ := hhi q (by omega) (by omega)
        refine ⟨b, by omega, e1, ?_⟩
        show rk _ b m + _ = q
        rw [if_pos e3]; exact e2
  induction p with
  | zero =>
    intro fuel O hp hf hlo hhi
    obtain ⟨f, rfl⟩ : ∃ f, fuel = f + 1 := ⟨fuel - 1, by omega⟩
    refine ⟨gup O (β + 2) 0 (some (cB β m)), ?_, fin 0 O hp hlo hhi (Or.inl rfl), fun a ha => gup_ne ha⟩
    rw [f_X3_insertInOrder_L2]
    simp only [hlet_e]
    rw [if_pos (show nI 0 ≤ 0 by decide), if_neg (show ¬ nI 0 < 0 by decide), if_neg (show ¬ ((8 : Int32) ≤ nI 0) by decide), pi_gin (by omega), pi_tn (by omega)]; rfl
  | succ p ih =>
    intro fuel O hp hf hlo hhi
    obtain ⟨f, rfl⟩ : ∃ f, fuel = f + 1 := ⟨fuel - 1, by omega⟩
    obtain ⟨b, hb, e1, e2⟩ := hlo p (by omega)
    have hsk : SHK (cB β b) = 6 := sk_b hB (by omega)
    have c1 : ¬ (nI (p + 1) ≤ 0) := by rw [show (0 : Int32) = nI 0 from rfl, pi_le (by omega) (by omega)]; omega
    have c2 : ¬ ((8 : Int32) ≤ nI (p + 1)) := by rw [show (8 : Int32) = nI 8 from rfl, pi_le (by omega) (by omega)]; omega
    have c3 : nI (p + 1) - (1 : Int32) = nI p := pi_sub (show 1 ≤ p + 1 by omega)
    have c4 : ¬ (nI (p + 1) < 0) := by rw [show (0 : Int32) = nI 0 from rfl, pi_lt (by omega) (by omega)]; omega
    have c5 : nI (p + 1) + (-1) = nI p := by
      rw [← pi_add, show nI 1 = (1 : Int32) from rfl, Int32.add_assoc, show (1 : Int32) + (-1) = 0 by decide, Int32.add_zero]
    by_cases ha : ky s n b < ky s n m
    · refine ⟨gup O (β + 2) (p + 1) (some (cB β m)), ?_, fin (p + 1) O hp hlo hhi (Or.inr ⟨b, hb, by omega, ha⟩), fun a ha => gup_ne ha⟩
      rw [f_X3_insertInOrder_L2]
      simp only [hlet_e]
      rw [if_neg c1, if_neg c2, c3, pi_gin (by omega), pi_tn (by omega), e1, ov_some hsk, hopt_e2, hk_e hsk, x6_isAheadOf hw (by omega) hm hR hZ, if_pos ha, decide_eq_true (show p < 8 by omega), hg_t]
      simp only [Option.bind_some]
      rw [if_neg (show ¬ ((1 : Int32) = 0) by decide), if_neg c4, if_neg c2, pi_gin (by omega), pi_tn (by omega), decide_eq_true (show p + 1 < 8 by omega), hg_t]
    · have hne : b ≠ m := by omega
      have hk : ky s n m < ky s n b := by
        have := ky_inj hw (show b < n by omega) hm hne; omega
      obtain ⟨O', h1, h2, h3⟩ := ih f (gup O (β + 2) (p + 1) (some (cB β b))) (by omega) (by omega)
        (fun q hq => by obtain ⟨c, hc, e3, e4⟩ := hlo q (by omega); exact ⟨c, hc, by rw [gup_i (by omega)]; exact e3, e4⟩)
        (fun q hq1 hq2 => by
          by_cases e : q = p + 1
          · subst e; exact ⟨b, hb, gup_at, by omega, hk⟩
          · obtain ⟨c, hc, e3, e4, e5⟩ := hhi q (by omega) hq2
            exact ⟨c, hc, by rw [gup_i e]; exact e3, e4, e5⟩)
      refine ⟨O', ?_, h2, fun a ha => (h3 a ha).trans (gup_ne ha)⟩
      rw [f_X3_insertInOrder_L2]
      simp only [hlet_e]
      rw [if_neg c1, if_neg c2, c3, pi_gin (by omega), pi_tn (by omega), e1, ov_some hsk, hopt_e2, hk_e hsk, x6_isAheadOf hw (by omega) hm hR hZ, if_neg ha, decide_eq_true (show p < 8 by omega), hg_t]
      simp only [Option.bind_some, if_true]
      rw [pi_gin (by omega), pi_tn (by omega), decide_eq_true (show p + 1 < 8 by omega), hg_t, c5]
      exact h1
theorem x3_putInOrder {I : Nat → Nat → Int32} {O : Nat → Nat → Option Nat} {β n : Nat} {s : Nat → Int32} (hB : IsB β) (hw : WX s n) (hR : R I β s n) (hZ : RZ I β) :
    ∃ O', f_X3_putInOrder β I O = some O' ∧ Ord (ky s n) β n O' ∧ FO β O O' := by
  have hn := hw.1.2
  have h3 : I β 3 = nI n := hR.1.1.trans hw.1.1
  have := loop_go (fun fuel k (st : Int32 × (Nat → Nat → Option Nat)) => f_X3_putInOrder_L13 β I fuel st.1 k st.2) 8 (fun k st => st.1 = nI (min k n) ∧ Ord (ky s n) β (min k n) st.2 ∧ FO β O st.2) (fun O' => Ord (ky s n) β n O' ∧ FO β O O') ?_ FU 0 (nI 0, O) (by omega) ⟨by simp, fun q hq => absurd hq (by omega), fun _ _ => rfl⟩ (by unfold FU; omega)
  · obtain ⟨O', h1, h2⟩ := this
    refine ⟨O', ?_, h2⟩
    unfold f_X3_putInOrder
    rw [show (0 : Int32) = nI 0 from rfl, h1]; rfl
  · rintro k ⟨p1, O3⟩ hk ⟨e1, e2, e3⟩
    simp only at e1 e2 e3
    subst e1
    rcases Nat.lt_or_ge k 8 with hk8 | hk8
    · right
      have hnle : ¬ ((8 : Int32) ≤ nI k) := by rw [show (8 : Int32) = nI 8 from rfl, pi_le (by omega) (by omega)]; omega
      have hgin : gin (nI k) 8 = true := by rw [pi_gin (by omega)]; exact decide_eq_true hk8
      have htn : β + 1 + 3 + (nI k).toNatClampNeg = cB β k := by rw [pi_tn (by omega)]; rfl
      by_cases hkn : k < n
      · obtain ⟨O', h1, h2, h4⟩ := x3_insert hB hw hR hZ hkn k FU O3 (Nat.le_refl _) (by unfold FU; omega) (by rw [Nat.min_eq_left (by omega)] at e2; exact e2) (fun q h1 h2 => absurd h1 (by omega))
        refine ⟨hk8, (nI (k + 1), O'), ⟨by rw [Nat.min_eq_left (by omega)], by rw [Nat.min_eq_left (by omega)]; exact h2, fun a ha => (h4 a ha).trans (e3 a ha)⟩, fun fuel => ?_⟩
        show f_X3_putInOrder_L13 β I (fuel+1) (nI (min k n)) (nI k) O3 = _
        rw [f_X3_putInOrder_L13, if_neg hnle, hgin, hg_t, htn]
        unfold f_X3_isThere
        rw [hopt_e2, hk_e (sk_b hB hk8), h3, (hZ k hk8).1, if_neg (by rw [pi_le (by omega) (by omega)]; omega), Nat.min_eq_left (by omega)]
        simp only [Option.bind_some]
        rw [if_neg (show ¬ ((1 : Int32) = 0) by decide)]
        unfold f_X3_insertInOrder
        rw [h1, show nI k + (1 : Int32) = nI (k + 1) from pi_add k 1]; rfl
      · refine ⟨hk8, (nI (min (k + 1) n), O3), ⟨rfl, by rw [Nat.min_eq_right (by omega)] at e2 ⊢; exact e2, e3⟩, fun fuel => ?_⟩
        show f_X3_putInOrder_L13 β I (fuel+1) (nI (min k n)) (nI k) O3 = _
        rw [f_X3_putInOrder_L13, if_neg hnle, hgin, hg_t, htn]
        unfold f_X3_isThere
        rw [hopt_e2, hk_e (sk_b hB hk8), h3, (hZ k hk8).1, if_pos (by rw [pi_le (by omega) (by omega)]; omega), Nat.min_eq_right (by omega), Nat.min_eq_right (by omega)]
        simp only [Option.bind_some, if_true]
        rw [show nI k + (1 : Int32) = nI (k + 1) from pi_add k 1]; rfl
    · left
      have : k = 8 := by omega
      subst this
      refine ⟨O3, fun fuel => ?_, by rw [Nat.min_eq_right (by omega)] at e2; exact e2, e3⟩
      show f_X3_putInOrder_L13 β I (fuel+1) _ (nI 8) O3 = _
      rw [f_X3_putInOrder_L13, if_pos (by decide)]
theorem x3_inOrder {I : Nat → Nat → Int32} {O : Nat → Nat → Option Nat} {β n q b : Nat} (hB : IsB β) (h3 : I β 3 = nI n) (hn : n ≤ 8) (hq : q < n) (hb : b < n) (e : O (β + 2) q = some (cB β b)) : f_X3_inOrder β (nI q) I O = some (some (cB β b)) := by
  unfold f_X3_inOrder
  rw [if_neg (by rw [show (0 : Int32) = nI 0 from rfl, pi_lt (by omega) (by omega)]; omega), h3, if_neg (by rw [pi_le (by omega) (by omega)]; omega), if_pos (by rw [show (8 : Int32) = nI 8 from rfl, pi_lt (by omega) (by omega)]; omega), pi_gin (by omega), decide_eq_true (by omega), hg_t, hlet_e, pi_tn (by omega), e, ov_some (sk_b hB (by omega))]
theorem x8_turns {K : Nat → Nat → Int32} {n : Nat} (hw : WX (K 130) n) : ∃ K', f_X8_second_L13 K FU (nI 0) K = some K' ∧ (∀ a, a ≠ 136 → K' a = K a) ∧ ∀ b, b < n → K' 136 (rk (ky (K 130) n) b n) = nI b := by
  have hn := hw.1.2
  have := loop_go (fun fuel k (st : Nat → Nat → Int32) => f_X8_second_L13 K fuel k st) n (fun k st => (∀ a, a ≠ 136 → st a = K a) ∧ ∀ b, b < k → st 136 (rk (ky (K 130) n) b n) = nI b) (fun st => (∀ a, a ≠ 136 → st a = K a) ∧ ∀ b, b < n → st 136 (rk (ky (K 130) n) b n) = nI b) ?_ FU 0 K (by omega) ⟨fun _ _ => rfl, fun b hb => absurd hb (by omega)⟩ (by unfold FU; omega)
  · exact this
  · rintro k st hk ⟨e1, e2⟩
    rcases Nat.lt_or_ge k n with h | h
    · right
      have e130 : st 130 = K 130 := e1 130 (by omega)
      have hw2 : WX (st 130) n := by rw [e130]; exact hw
      have hr := rk_le (ky (K 130) n) k n
      rw [if_pos h] at hr
      refine ⟨h, gup st 136 (rk (ky (K 130) n) k n) (nI k), ⟨fun a ha => (gup_ne ha).trans (e1 a ha), fun b hb => ?_⟩, fun fuel => ?_⟩
      · by_cases e : b = k
        · rw [e, gup_at]
        · rw [gup_i]
          · exact e2 b (by omega)
          · intro e3; exact e (rk_inj (show b < n by omega) h (fun c => ky_inj hw (by omega) h c) e3)
      · show f_X8_second_L13 K (fuel+1) (nI k) st = _
        rw [f_X8_second_L13, t128, hw.1.1, if_neg (by rw [pi_le (by omega) (by omega)]; omega), x8_place hw2 h, e130]
        simp only [Option.bind_some]
        rw [pi_gin (by omega), decide_eq_true (by omega), hg_t, hlet_e, hlet_e, pi_tn (by omega), show nI k + (1 : Int32) = nI (k + 1) from pi_add k 1]
    · left
      have : k = n := by omega
      subst this
      refine ⟨st, fun fuel => ?_, e1, e2⟩
      show f_X8_second_L13 K (fuel+1) (nI k) st = _
      rw [f_X8_second_L13, t128, hw.1.1, if_pos (Int32.le_refl _)]
