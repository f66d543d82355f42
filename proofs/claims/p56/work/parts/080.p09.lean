theorem cnt3_far {s t : Nat → Int32} {m : Nat} (h : ∀ b, b < m → (t (16 * b + 6) = 3 ↔ s (16 * b + 6) = 3)) : cnt3 t m = cnt3 s m := by
  induction m with
  | zero => rfl
  | succ m ih =>
    unfold cnt3
    rw [ih (fun b hb => h b (by omega))]
    have := h m (by omega)
    by_cases c : s (16 * m + 6) = 3
    · rw [if_pos c, if_pos (this.mpr c)]
    · rw [if_neg c, if_neg (fun d => c (this.mp d))]
theorem cnt3_lt {s : Nat → Int32} {m b : Nat} (hb : b < m) (h : s (16 * b + 6) ≠ 3) : cnt3 s m < m := by
  induction m with
  | zero => omega
  | succ m ih =>
    unfold cnt3
    by_cases e : b = m
    · have := cnt3_le s m
      rw [if_neg (e ▸ h)]; omega
    · have := ih (by omega)
      split <;> omega
theorem cnt3_new {s : Nat → Int32} {m b : Nat} (hb : b < m) (h : s (16 * b + 6) ≠ 3) : cnt3 (wpd s (16 * b + 6) 3) m = cnt3 s m + 1 := by
  induction m with
  | zero => omega
  | succ m ih =>
    unfold cnt3
    by_cases e : b = m
    · subst e
      rw [wpd_at, if_pos rfl, if_neg h, cnt3_far (t := wpd s (16 * b + 6) 3) (s := s) (fun c hc => by rw [wpd_ne (by omega)])]
    · rw [ih (by omega), wpd_ne (by omega)]; omega
theorem WX_glob {s : Nat → Int32} {n k : Nat} {v : Int32} (hk : k = 134 ∨ (144 ≤ k ∧ k ≠ 150)) (h : WX s n) : WX (wpd s k v) n := by
  obtain ⟨h1, h2, h3, h4, h5, h6, h7, h8, h9⟩ := h
  have hn := h1.2
  have hc : cnt3 (wpd s k v) n = cnt3 s n := cnt3_far (fun b hb => by rw [wpd_ne (by omega)])
  have hcn := cnt3_le s n
  have e : ∀ i, i ≠ k → wpd s k v i = s i := fun i hi => wpd_ne hi
  refine ⟨⟨by rw [e _ (by omega)]; exact h1.1, hn⟩, fun b hb => ?_, fun b hb q hq hqn => ?_, fun c hc => by rw [e _ (by omega)]; exact h4 c hc, ⟨by rw [e _ (by omega)]; exact h5.1, by rw [e _ (by omega)]; exact h5.2⟩, ?_, ?_, ?_, ?_⟩
  · simp only [e (16 * b) (by omega), e (16 * b + 1) (by omega), e (16 * b + 2) (by omega), e (16 * b + 3) (by omega), e (16 * b + 4) (by omega), e (16 * b + 5) (by omega), e (16 * b + 6) (by omega), e (16 * b + 7) (by omega), e (16 * b + 9) (by omega), e (16 * b + 10) (by omega), e (16 * b + 12) (by omega)]
    exact h2 b hb
  · rw [e _ (by omega)] at hq ⊢; exact h3 b hb q hq hqn
  · rw [hc, e _ (by omega)]; exact h6
  · rw [hc]; intro q hq
    obtain ⟨b, hb, e1, e2⟩ := h7 q hq
    exact ⟨b, hb, by rw [e _ (by omega)]; exact e1, by rw [e _ (by omega)]; exact e2⟩
  · rw [hc]; intro q j hq hj; rw [e _ (by omega), e _ (by omega)]; exact h8 q j hq hj
  · rw [hc]; intro b hb hq; rw [e _ (by omega)] at hq
    obtain ⟨q, hq1, hq2⟩ := h9 b hb hq
    exact ⟨q, hq1, by rw [e _ (by omega)]; exact hq2⟩
def okv (s : Nat → Int32) (b g : Nat) (v : Int32) : Prop :=
  (g = 0 ∧ Bd v 10 40) ∨ (g = 1 ∧ Bd v 0 999) ∨ (g = 2 ∧ Bd v 0 1) ∨ (g = 3 ∧ Bd v 0 999) ∨ (g = 4 ∧ Bd v 0 100) ∨ (g = 5 ∧ Bd v 0 1) ∨ (g = 6 ∧ Bd v 0 2 ∧ s (16 * b + 6) ≠ 3 ∧ (v = 2 → s (16 * b + 12) ≠ 0)) ∨ (g = 7 ∧ Bd v 0 3600) ∨ (g = 8) ∨ (g = 9 ∧ Bd v 0 1) ∨ (g = 11) ∨ (g = 12 ∧ Bd v 0 12 ∧ (s (16 * b + 6) = 2 → v ≠ 0))
theorem WX_bird {s : Nat → Int32} {n b g : Nat} {v : Int32} (hb : b < n) (hk : okv s b g v) (h : WX s n) : WX (wpd s (16 * b + g) v) n := by
  obtain ⟨h1, h2, h3, h4, h5, h6, h7, h8, h9⟩ := h
  have hn := h1.2
  have hg : g < 16 ∧ g ≠ 10 := by unfold okv at hk; omega
  have h63 : ∀ c, c < n → (wpd s (16 * b + g) v (16 * c + 6) = 3 ↔ s (16 * c + 6) = 3) := by
    intro c hc
    by_cases e : 16 * c + 6 = 16 * b + g
    · have hcb : c = b := by omega
      have g6 : g = 6 := by omega
      subst hcb; subst g6
      rw [wpd_at]
      have : Bd v 0 2 ∧ s (16 * c + 6) ≠ 3 := by
        rcases hk with ⟨hh, _⟩ | ⟨hh, _⟩ | ⟨hh, _⟩ | ⟨hh, _⟩ | ⟨hh, _⟩ | ⟨hh, _⟩ | ⟨_, hv, hx, _⟩ | ⟨hh, _⟩ | hh | ⟨hh, _⟩ | hh | ⟨hh, _⟩ <;> first | exact ⟨hv, hx⟩ | omega
      obtain ⟨⟨w, rfl, _, hw⟩, h3⟩ := this
      refine ⟨fun e => ?_, fun e => absurd e h3⟩
      rw [show (3 : Int32) = nI 3 from rfl, pi_eq (by omega) (by omega)] at e; omega
    · rw [wpd_ne e]
  have hc : cnt3 (wpd s (16 * b + g) v) n = cnt3 s n := cnt3_far h63
  have hcn := cnt3_le s n
  have e : ∀ i, i ≠ 16 * b + g → wpd s (16 * b + g) v i = s i := fun i hi => wpd_ne hi
  refine ⟨⟨by rw [e _ (by omega)]; exact h1.1, hn⟩, fun c hc => ?_, fun c hc q hq hqn => ?_, fun c hc => by rw [e _ (by omega)]; exact h4 c hc, ⟨by rw [e _ (by omega)]; exact h5.1, by rw [e _ (by omega)]; exact h5.2⟩, ?_, ?_, ?_, ?_⟩
  · have := h2 c hc
    by_cases ec : c = b
    · subst ec
      obtain ⟨a0, a1, a2, a3, a4, a5, a6, a7, a9, a10, a12, a13⟩ := this
      have u : ∀ x y, wpd s (16 * c + x) v (16 * c + y) = if y = x then v else s (16 * c + y) := by
        intro x y; unfold wpd
        by_cases c1 : y = x
        · rw [if_pos c1, if_pos (by omega)]
        · rw [if_neg c1, if_neg (by omega)]
      have u0 : ∀ x, wpd s (16 * c + x) v (16 * c) = if 0 = x then v else s (16 * c) := fun x => u x 0
      simp only [u, u0]
      rcases hk with ⟨rfl, hv⟩ | ⟨rfl, hv⟩ | ⟨rfl, hv⟩ | ⟨rfl, hv⟩ | ⟨rfl, hv⟩ | ⟨rfl, hv⟩ | ⟨rfl, hv, hx, hy⟩ | ⟨rfl, hv⟩ | rfl | ⟨rfl, hv⟩ | rfl | ⟨rfl, hv, hx⟩
      all_goals simp (config := {decide := true}) only [if_true, if_false]
      · exact ⟨hv, a1, a2, a3, a4, a5, a6, a7, a9, a10, a12, a13⟩
      · exact ⟨a0, hv, a2, a3, a4, a5, a6, a7, a9, a10, a12, a13⟩
      · exact ⟨a0, a1, hv, a3, a4, a5, a6, a7, a9, a10, a12, a13⟩
      · exact ⟨a0, a1, a2, hv, a4, a5, a6, a7, a9, a10, a12, a13⟩
      · exact ⟨a0, a1, a2, a3, hv, a5, a6, a7, a9, a10, a12, a13⟩
      · exact ⟨a0, a1, a2, a3, a4, hv, a6, a7, a9, a10, a12, a13⟩
      · exact ⟨a0, a1, a2, a3, a4, a5, by obtain ⟨w, e1, e2, e3⟩ := hv; exact ⟨w, e1, e2, by omega⟩, a7, a9, a10, a12, hy⟩
      · exact ⟨a0, a1, a2, a3, a4, a5, a6, hv, a9, a10, a12, a13⟩
      · exact ⟨a0, a1, a2, a3, a4, a5, a6, a7, a9, a10, a12, a13⟩
      · exact ⟨a0, a1, a2, a3, a4, a5, a6, a7, hv, a10, a12, a13⟩
      · exact ⟨a0, a1, a2, a3, a4, a5, a6, a7, a9, a10, a12, a13⟩
      · exact ⟨a0, a1, a2, a3, a4, a5, a6, a7, a9, a10, hv, hx⟩
    · simp only [e (16 * c) (by omega), e (16 * c + 1) (by omega), e (16 * c + 2) (by omega), e (16 * c + 3) (by omega), e (16 * c + 4) (by omega), e (16 * c + 5) (by omega), e (16 * c + 6) (by omega), e (16 * c + 7) (by omega), e (16 * c + 9) (by omega), e (16 * c + 10) (by omega), e (16 * c + 12) (by omega)]
      exact this
  · rw [e _ (by omega)] at hq ⊢; exact h3 c hc q hq hqn
  · rw [hc, e _ (by omega)]; exact h6
  · rw [hc]; intro q hq
    obtain ⟨c, hc1, e1, e2⟩ := h7 q hq
    exact ⟨c, hc1, by rw [e _ (by omega)]; exact e1, (h63 c hc1).mpr e2⟩
  · rw [hc]; intro q j hq hj; rw [e _ (by omega), e _ (by omega)]; exact h8 q j hq hj
  · rw [hc]; intro c hc1 hq
    obtain ⟨q, hq1, hq2⟩ := h9 c hc1 ((h63 c hc1).mp hq)
    exact ⟨q, hq1, by rw [e _ (by omega)]; exact hq2⟩
theorem WX_arrive {s : Nat → Int32} {n b : Nat} (hb : b < n) (h3' : s (16 * b + 6) ≠ 3) (h : WX s n) : cnt3 s n < 8 ∧ WX (wpd (wpd (wpd s (16 * b + 6) 3) (136 + cnt3 s n) (nI b)) 135 (nI (cnt3 s n + 1))) n ∧ ∀ k, k < cnt3 s n → s (136 + k) ≠ nI b := by
  obtain ⟨h1, h2, h3, h4, h5, h6, h7, h8, h9⟩ := h
  have hn := h1.2
  have hlt := cnt3_lt hb h3'
  have hx : ∀ k, k < cnt3 s n → s (136 + k) ≠ nI b := by
    intro k hk e
    obtain ⟨c, hc, e1, e2⟩ := h7 k hk
    rw [e, pi_eq (by omega) (by omega)] at e1
    exact h3' (e1 ▸ e2)
  refine ⟨by omega, ?_, hx⟩
  generalize ha : cnt3 s n = a at *
  have e : ∀ i, i ≠ 16 * b + 6 → i ≠ 136 + a → i ≠ 135 → wpd (wpd (wpd s (16 * b + 6) 3) (136 + a) (nI b)) 135 (nI (a + 1)) i = s i := fun i x y z => by rw [wpd_ne z, wpd_ne y, wpd_ne x]
  have eb : wpd (wpd (wpd s (16 * b + 6) 3) (136 + a) (nI b)) 135 (nI (a + 1)) (16 * b + 6) = 3 := by rw [wpd_ne (by omega), wpd_ne (by omega), wpd_at]
  have ea : wpd (wpd (wpd s (16 * b + 6) 3) (136 + a) (nI b)) 135 (nI (a + 1)) (136 + a) = nI b := by rw [wpd_ne (by omega), wpd_at]
  have hc : cnt3 (wpd (wpd (wpd s (16 * b + 6) 3) (136 + a) (nI b)) 135 (nI (a + 1))) n = a + 1 := by
    rw [← ha, ← cnt3_new hb h3']
    exact cnt3_far (fun c hc => by rw [wpd_ne (by omega), wpd_ne (by omega)])
  refine ⟨⟨by rw [e _ (by omega) (by omega) (by omega)]; exact h1.1, hn⟩, fun c hc => ?_, fun c hc q hq hqn => ?_, fun c hc => by rw [e _ (by omega) (by omega) (by omega)]; exact h4 c hc, ⟨by rw [e _ (by omega) (by omega) (by omega)]; exact h5.1, by rw [e _ (by omega) (by omega) (by omega)]; exact h5.2⟩, ?_, ?_, ?_, ?_⟩
  · have := h2 c hc
    simp only [e (16 * c) (by omega) (by omega) (by omega), e (16 * c + 1) (by omega) (by omega) (by omega), e (16 * c + 2) (by omega) (by omega) (by omega), e (16 * c + 3) (by omega) (by omega) (by omega), e (16 * c + 4) (by omega) (by omega) (by omega), e (16 * c + 5) (by omega) (by omega) (by omega), e (16 * c + 7) (by omega) (by omega) (by omega), e (16 * c + 9) (by omega) (by omega) (by omega), e (16 * c + 10) (by omega) (by omega) (by omega), e (16 * c + 12) (by omega) (by omega) (by omega)]
    by_cases ec : c = b
    · rw [ec, eb]; rw [ec] at this
      obtain ⟨a0, a1, a2, a3, a4, a5, a6, a7, a9, a10, a12, a13⟩ := this
      exact ⟨a0, a1, a2, a3, a4, a5, ⟨3, rfl, by omega, by omega⟩, a7, a9, a10, a12, fun z => absurd z (by decide)⟩
    · rw [e (16 * c + 6) (by omega) (by omega) (by omega)]; exact this
  · rw [e _ (by omega) (by omega) (by omega)] at hq ⊢; exact h3 c hc q hq hqn
  · rw [hc, wpd_at]
  · rw [hc]; intro q hq
    by_cases eq : q = a
    · rw [eq, ea]; exact ⟨b, hb, rfl, eb⟩
    · obtain ⟨c, hc1, e1, e2⟩ := h7 q (by omega)
      refine ⟨c, hc1, by rw [e _ (by omega) (by omega) (by omega)]; exact e1, ?_⟩
      by_cases ec : c = b
      · rw [ec]; exact eb
      · rw [e _ (by omega) (by omega) (by omega)]; exact e2
  · rw [hc]; intro q j hq hj he
    by_cases eq : q = a
    · by_cases ej : j = a
      · omega
      · rw [eq, ea, e _ (by omega) (by omega) (by omega)] at he
        exact absurd he.symm (hx j (by omega))
    · by_cases ej : j = a
      · rw [ej, ea, e _ (by omega) (by omega) (by omega)] at he
        exact absurd he (hx q (by omega))
      · rw [e _ (by omega) (by omega) (by omega), e _ (by omega) (by omega) (by omega)] at he
        exact h8 q j (by omega) (by omega) he
  · rw [hc]; intro c hc1 hq
    by_cases ec : c = b
    · exact ⟨a, by omega, by rw [ec]; exact ea⟩
    · rw [e _ (by omega) (by omega) (by omega)] at hq
      obtain ⟨q, hq1, hq2⟩ := h9 c hc1 hq
      exact ⟨q, by omega, by rw [e _ (by omega) (by omega) (by omega)]; exact hq2⟩
