def wpd (s : Nat → Int32) (k : Nat) (v : Int32) : Nat → Int32 := fun i => if i = k then v else s i
theorem wpd_gup {K : Nat → Nat → Int32} {k : Nat} {v : Int32} : gup K 130 k v 130 = wpd (K 130) k v := gup_self
theorem wpd_at {s : Nat → Int32} {k : Nat} {v : Int32} : wpd s k v k = v := if_pos rfl
theorem wpd_ne {s : Nat → Int32} {k i : Nat} {v : Int32} (h : i ≠ k) : wpd s k v i = s i := if_neg h
theorem gup_n {α : Type} {f : Nat → Nat → α} {n k a i : Nat} {v : α} (h : a ≠ n) : gup f n k v a i = f a i := by simp [gup, h]
theorem gup_i {α : Type} {f : Nat → Nat → α} {n k a i : Nat} {v : α} (h : i ≠ k) : gup f n k v a i = f a i := by simp [gup, h]
theorem cB_ne {β b : Nat} : cB β b ≠ β := by unfold cB; omega
theorem cB_n3 {β b : Nat} : cB β b ≠ β + 3 := by unfold cB; omega
theorem cB_inj {β b c : Nat} (h : b ≠ c) : cB β b ≠ cB β c := by unfold cB; omega
def gPair (f k : Nat) : Prop := (f = 4 ∧ k = 133) ∨ (f = 5 ∧ k = 150) ∨ (f = 8 ∧ k = 144) ∨ (f = 9 ∧ k = 145) ∨ (f = 10 ∧ k = 146) ∨ (f = 11 ∧ k = 147) ∨ (f = 12 ∧ k = 148) ∨ (f = 13 ∧ k = 149)
theorem RB_far {I : Nat → Nat → Int32} {c b k : Nat} {s : Nat → Int32} {v : Int32} (hk : k < 16 * b ∨ 16 * b + 16 ≤ k) (h : RB I c s b) : RB I c (wpd s k v) b := by
  unfold RB at *
  simp only [wpd_ne (show 16 * b ≠ k by omega), wpd_ne (show 16 * b + 1 ≠ k by omega), wpd_ne (show 16 * b + 2 ≠ k by omega), wpd_ne (show 16 * b + 3 ≠ k by omega), wpd_ne (show 16 * b + 4 ≠ k by omega), wpd_ne (show 16 * b + 5 ≠ k by omega), wpd_ne (show 16 * b + 6 ≠ k by omega), wpd_ne (show 16 * b + 7 ≠ k by omega), wpd_ne (show 16 * b + 8 ≠ k by omega), wpd_ne (show 16 * b + 9 ≠ k by omega), wpd_ne (show 16 * b + 10 ≠ k by omega), wpd_ne (show 16 * b + 11 ≠ k by omega), wpd_ne (show 16 * b + 12 ≠ k by omega)]
  exact h
theorem RB_cell {I J : Nat → Nat → Int32} {c b : Nat} {s : Nat → Int32} (e : J c = I c) (h : RB I c s b) : RB J c s b := by
  unfold RB at *; rw [e]; exact h
theorem R_glob {I : Nat → Nat → Int32} {β n f k : Nat} {s : Nat → Int32} {v : Int32} (hn : n ≤ 8) (ha : tn (s 135) ≤ 8) (hp : gPair f k) (h : R I β s n) : R (gup I β f v) β (wpd s k v) n := by
  obtain ⟨h1, h2, h3, h4⟩ := h
  have hk : 133 ≤ k ∧ k ≠ 135 ∧ (k < 136 ∨ 144 ≤ k) := by rcases hp with ⟨_, rfl⟩ | ⟨_, rfl⟩ | ⟨_, rfl⟩ | ⟨_, rfl⟩ | ⟨_, rfl⟩ | ⟨_, rfl⟩ | ⟨_, rfl⟩ | ⟨_, rfl⟩ <;> omega
  refine ⟨?_, fun q hq => ?_, fun b hb => ?_, fun b q hb hq he => ?_⟩
  · obtain ⟨a1, a2, a3, a5, a6, a7, a8, a9, a10, a11⟩ := h1
    rcases hp with ⟨rfl, rfl⟩ | ⟨rfl, rfl⟩ | ⟨rfl, rfl⟩ | ⟨rfl, rfl⟩ | ⟨rfl, rfl⟩ | ⟨rfl, rfl⟩ | ⟨rfl, rfl⟩ | ⟨rfl, rfl⟩ <;> simp [gup, wpd, *]
  · rw [gup_n (by omega), wpd_ne (by omega)]; exact h2 q hq
  · exact RB_cell (gup_ne cB_ne) (RB_far (by omega) (h3 b hb))
  · rw [gup_n cB_ne]
    rw [wpd_ne (by omega)] at hq
    rw [wpd_ne (by omega)] at he; exact h4 b q hb hq he
def bPair (f g : Nat) : Prop := (f = 1 ∧ g = 0) ∨ (f = 2 ∧ g = 1) ∨ (f = 3 ∧ g = 2) ∨ (f = 4 ∧ g = 7) ∨ (f = 5 ∧ g = 8) ∨ (f = 6 ∧ g = 3) ∨ (f = 7 ∧ g = 4) ∨ (f = 8 ∧ g = 5) ∨ (f = 9 ∧ g = 6) ∨ (f = 10 ∧ g = 12) ∨ (f = 11 ∧ g = 9) ∨ (f = 14 ∧ g = 11)
theorem RB_here {I : Nat → Nat → Int32} {c b f g : Nat} {s : Nat → Int32} {v : Int32} (hp : bPair f g) (h : RB I c s b) : RB (gup I c f v) c (wpd s (16 * b + g) v) b := by
  obtain ⟨a1, a2, a3, a4, a5, a6, a7, a8, a9, a10, a11, a12, a13⟩ := h
  rcases hp with ⟨rfl, rfl⟩ | ⟨rfl, rfl⟩ | ⟨rfl, rfl⟩ | ⟨rfl, rfl⟩ | ⟨rfl, rfl⟩ | ⟨rfl, rfl⟩ | ⟨rfl, rfl⟩ | ⟨rfl, rfl⟩ | ⟨rfl, rfl⟩ | ⟨rfl, rfl⟩ | ⟨rfl, rfl⟩ | ⟨rfl, rfl⟩ <;> simp [RB, gup, wpd, *]
theorem RB_part {I : Nat → Nat → Int32} {c b : Nat} {s : Nat → Int32} {v w : Int32} (hv : w = v - 1) (h : RB I c s b) : RB (gup I c 12 w) c (wpd s (16 * b + 10) v) b := by
  obtain ⟨a1, a2, a3, a4, a5, a6, a7, a8, a9, a10, a11, a12, a13⟩ := h
  simp [RB, gup, wpd, *]
theorem R_row {I : Nat → Nat → Int32} {β n b g f : Nat} {s : Nat → Int32} {v w : Int32} (hn : n ≤ 8) (ha : tn (s 135) ≤ 8) (hb : b < n) (hg : g < 16) (hf : f ≠ 13) (hr : RB (gup I (cB β b) f w) (cB β b) (wpd s (16 * b + g) v) b) (h : R I β s n) : R (gup I (cB β b) f w) β (wpd s (16 * b + g) v) n := by
  obtain ⟨h1, h2, h3, h4⟩ := h
  refine ⟨?_, fun q hq => ?_, fun c hc => ?_, fun c q hc hq he => ?_⟩
  · have e : gup I (cB β b) f w β = I β := gup_ne (fun c => cB_ne c.symm)
    rw [e]
    simp only [wpd_ne (show 128 ≠ 16 * b + g by omega), wpd_ne (show 133 ≠ 16 * b + g by omega), wpd_ne (show 150 ≠ 16 * b + g by omega), wpd_ne (show 134 ≠ 16 * b + g by omega), wpd_ne (show 135 ≠ 16 * b + g by omega), wpd_ne (show 144 ≠ 16 * b + g by omega), wpd_ne (show 145 ≠ 16 * b + g by omega), wpd_ne (show 146 ≠ 16 * b + g by omega), wpd_ne (show 147 ≠ 16 * b + g by omega), wpd_ne (show 148 ≠ 16 * b + g by omega), wpd_ne (show 149 ≠ 16 * b + g by omega)]
    exact h1
  · rw [gup_n (fun c => cB_n3 c.symm), wpd_ne (by omega)]; exact h2 q hq
  · by_cases e : c = b
    · rw [e]; exact hr
    · exact RB_cell (gup_ne (cB_inj e)) (RB_far (by omega) (h3 c hc))
  · rw [wpd_ne (by omega)] at hq
    rw [wpd_ne (by omega)] at he
    rw [gup_i (by omega)]; exact h4 c q hc hq he
theorem R_bird {I : Nat → Nat → Int32} {β n b f g : Nat} {s : Nat → Int32} {v : Int32} (hn : n ≤ 8) (ha : tn (s 135) ≤ 8) (hb : b < n) (hp : bPair f g) (h : R I β s n) : R (gup I (cB β b) f v) β (wpd s (16 * b + g) v) n :=
  R_row hn ha hb (by unfold bPair at hp; omega) (by unfold bPair at hp; omega) (RB_here hp (h.2.2.1 b hb)) h
theorem R_part {I : Nat → Nat → Int32} {β n b : Nat} {s : Nat → Int32} {v w : Int32} (hn : n ≤ 8) (ha : tn (s 135) ≤ 8) (hb : b < n) (hv : w = v - 1) (h : R I β s n) : R (gup I (cB β b) 12 w) β (wpd s (16 * b + 10) v) n :=
  R_row hn ha hb (by omega) (by omega) (RB_part hv (h.2.2.1 b hb)) h
theorem R_arrive {I : Nat → Nat → Int32} {β n b a : Nat} {s : Nat → Int32} (hn : n ≤ 8) (hb : b < n) (ha : a < 8) (e : s 135 = nI a) (hx : ∀ k, k < a → s (136 + k) ≠ nI b) (h : R I β s n) : R (gup (gup I (cB β b) 13 (nI a)) β 7 (nI (a + 1))) β (wpd (wpd s (136 + a) (nI b)) 135 (nI (a + 1))) n := by
  obtain ⟨h1, h2, h3, h4⟩ := h
  refine ⟨?_, fun q hq => ?_, fun c hc => ?_, fun c q hc hq he => ?_⟩
  · obtain ⟨a1, a2, a3, a5, a6, a7, a8, a9, a10, a11⟩ := h1
    have z : ∀ f, f ≠ 7 → gup (gup I (cB β b) 13 (nI a)) β 7 (nI (a + 1)) β f = I β f := fun f hf => by rw [gup_i hf, gup_n (fun c => cB_ne c.symm)]
    have y : ∀ k, k ≠ 135 → (k < 136 ∨ 144 ≤ k) → wpd (wpd s (136 + a) (nI b)) 135 (nI (a + 1)) k = s k := fun k h1 h2 => by rw [wpd_ne h1, wpd_ne (by omega)]
    rw [z 3 (by omega), z 4 (by omega), z 5 (by omega), z 8 (by omega), z 9 (by omega), z 10 (by omega), z 11 (by omega), z 12 (by omega), z 13 (by omega), gup_at, wpd_at]
    rw [y 128 (by omega) (by omega), y 133 (by omega) (by omega), y 150 (by omega) (by omega), y 144 (by omega) (by omega), y 145 (by omega) (by omega), y 146 (by omega) (by omega), y 147 (by omega) (by omega), y 148 (by omega) (by omega), y 149 (by omega) (by omega)]
    exact ⟨a1, a2, a3, rfl, a6, a7, a8, a9, a10, a11⟩
  · rw [gup_n (by omega), gup_n (fun c => cB_n3 c.symm), wpd_ne (by omega), wpd_ne (by omega)]; exact h2 q hq
  · refine RB_far (by omega) (RB_far (by omega) ?_)
    have := h3 c hc
    have z : ∀ f, f ≠ 13 → gup (gup I (cB β b) 13 (nI a)) β 7 (nI (a + 1)) (cB β c) f = I (cB β c) f := fun f hf => by rw [gup_n cB_ne, gup_i hf]
    unfold RB at *
    simp only [z 1 (by omega), z 2 (by omega), z 3 (by omega), z 4 (by omega), z 5 (by omega), z 6 (by omega), z 7 (by omega), z 8 (by omega), z 9 (by omega), z 10 (by omega), z 11 (by omega), z 12 (by omega), z 14 (by omega)]
    exact this
  · rw [wpd_at, show tn (nI (a + 1)) = a + 1 from pi_tn (by omega)] at hq
    rw [wpd_ne (by omega)] at he
    rw [gup_n cB_ne]
    by_cases eq : q = a
    · rw [eq, wpd_at, pi_eq (by omega) (by omega)] at he
      rw [← he, gup_at, eq]
    · rw [wpd_ne (by omega)] at he
      have hqa : q < tn (s 135) := by rw [e, show tn (nI a) = a from pi_tn (by omega)]; omega
      have hcb : c ≠ b := fun ec => hx q (by omega) (ec ▸ he)
      rw [gup_n (cB_inj hcb)]; exact h4 c q hc hqa he
theorem RZ_keep {I : Nat → Nat → Int32} {β c f : Nat} {v : Int32} (hc : (f ≠ 0 ∧ f ≠ 11) ∨ (∀ b, c ≠ cB β b)) (h : RZ I β) : RZ (gup I c f v) β := by
  intro b hb
  rcases hc with ⟨h0, h1⟩ | hc
  · rw [gup_i (by omega), gup_i (by omega)]; exact h b hb
  · rw [gup_n (fun e => hc b e.symm), gup_n (fun e => hc b e.symm)]; exact h b hb
theorem RZ_call {I : Nat → Nat → Int32} {β c : Nat} {v : Int32} (hv : gz v = true) (h : RZ I β) : RZ (gup I c 11 v) β := by
  intro b hb
  rw [gup_i (by omega)]
  refine ⟨(h b hb).1, ?_⟩
  by_cases e : cB β b = c
  · rw [e, gup_at]; exact hv
  · rw [gup_n e]; exact (h b hb).2
