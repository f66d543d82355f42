theorem loop_dn {σ α : Type} (F : Nat → Int32 → σ → Option α) (P : Nat → σ → Prop) (Q : α → Prop)
    (h0 : ∀ st, P 0 st → ∃ x, (∀ fuel, F (fuel+1) (-1) st = some x) ∧ Q x)
    (hs : ∀ k st, P (k+1) st → ∃ st', P k st' ∧ ∀ fuel, F (fuel+1) (nI k) st = F fuel (nI k + (-1)) st') :
    ∀ k fuel st, P k st → k < fuel → ∃ x, F fuel (nI k + (-1)) st = some x ∧ Q x := by
  intro k
  induction k with
  | zero =>
    intro fuel st hP hf
    obtain ⟨f, rfl⟩ : ∃ f, fuel = f + 1 := ⟨fuel - 1, by omega⟩
    obtain ⟨x, hx, hq⟩ := h0 st hP
    exact ⟨x, hx f, hq⟩
  | succ k ih =>
    intro fuel st hP hf
    obtain ⟨f, rfl⟩ : ∃ f, fuel = f + 1 := ⟨fuel - 1, by omega⟩
    obtain ⟨st', hP', he⟩ := hs k st hP
    have e : nI (k + 1) + (-1) = nI k := by
      rw [← pi_add, show nI 1 = (1 : Int32) from rfl, Int32.add_assoc, show (1 : Int32) + (-1) = 0 by decide, Int32.add_zero]
    rw [e, he f]
    exact ih f st' hP' (by omega)
theorem x8_in {v lo hi : Nat} (hv : v < 2147483648) (hl : lo < 2147483648) (hh : hi < 2147483648) : f_X8_in (nI v) (nI lo) (nI hi) = some (if lo ≤ v ∧ v ≤ hi then 1 else 0) := by
  unfold f_X8_in
  simp only [pi_lt hv hl, pi_lt hh hv]
  by_cases c1 : v < lo
  · rw [if_pos c1, if_neg (by omega)]
  · rw [if_neg c1]
    by_cases c2 : hi < v
    · rw [if_pos c2, if_neg (by omega)]
    · rw [if_neg c2, if_pos (by omega)]
theorem gz_if {c : Prop} [Decidable c] : gz (if c then (1 : Int32) else 0) = true := by split <;> decide
def drf (s : Nat → Int32) (b : Nat) (r : Option Nat) : Nat := match r with
  | none => 0
  | some j => if gD s j b ≤ 8 then (if nI j = s (16 * b + 10) - 1 then 2 else 1) else 0
theorem x8_isDrafted {I : Nat → Nat → Int32} {n b : Nat} {r : Option Nat} (h : FL (I 130) n) (hb : b < n) (hN : NX (I 130) n b (I 130 (16 * b + 5)) 8 r) : f_X8_isDrafted (nI b) I = some (if drf (I 130) b r = 0 then 0 else 1) := by
  have hb8 : b < 8 := by have := h.2.1; omega
  obtain ⟨g, hg, hg4, hG⟩ := x8_gap (lane := I 130 (16 * b + 5)) h hb
  have e := GP_NX h.2.1 hG hN
  unfold f_X8_isDrafted
  rw [show (5 : Int32) = nI 5 from rfl, x8_of hb8 (by omega)]
  simp only [Option.bind_some, hg]
  rw [show (1 : Int32) = nI 1 from rfl, show (8 : Int32) = nI 8 from rfl, x8_in (by omega) (by omega) (by omega)]
  simp only [Option.bind_some]
  rw [gz_if, hg_t]
  cases r with
  | none => subst e; rfl
  | some j =>
    simp only at e
    have := dN_b (fl (I 130) j) (fl (I 130) b)
    subst e
    have hd : gD (I 130) j b = dN (fl (I 130) j) (fl (I 130) b) := rfl
    congr 1
    unfold drf
    by_cases c : gD (I 130) j b ≤ 8
    · rw [if_pos ⟨by omega, c⟩]; simp only [if_pos c]; split <;> rfl
    · rw [if_neg (fun d => c d.2)]; simp only [if_neg c]; rfl
theorem x8_isPartnerNext {I : Nat → Nat → Int32} {n b j : Nat} (h : FL (I 130) n) (hb : b < n) (hN : NX (I 130) n b (I 130 (16 * b + 5)) 8 (some j)) (hd : gD (I 130) j b ≤ 8) : f_X8_isPartnerNext (nI b) I = some (if nI j = I 130 (16 * b + 10) - 1 then 1 else 0) := by
  have hb8 : b < 8 := by have := h.2.1; omega
  obtain ⟨g, hg, hg4, hG⟩ := x8_gap (lane := I 130 (16 * b + 5)) h hb
  have e := GP_NX h.2.1 hG hN
  simp only at e
  obtain ⟨h1, h2, h3⟩ := h
  unfold f_X8_isPartnerNext
  rw [show (5 : Int32) = nI 5 from rfl, x8_of hb8 (by omega)]
  simp only [Option.bind_some, hg]
  have hj := hN.2.1.1
  have hT : ∀ k, k < n → wy (I 130) n b (I 130 (16 * b + 5)) k → gD (I 130) k b = g → j ≤ k := by
    intro k hk hw he
    rcases Nat.lt_or_ge k j with c | c
    · have := hN.2.2.2 k c hw; omega
    · exact c
  have := loop_dn (fun fuel k (st : Int32) => f_X8_isPartnerNext_L26 (nI b) I (nI g) fuel st k)
    (fun k st => k ≤ n ∧ ((j < k ∧ True) ∨ (k ≤ j ∧ st = nI j))) (fun x => x = nI j)
    (fun st hP => ⟨nI j, fun fuel => by
      show f_X8_isPartnerNext_L26 (nI b) I (nI g) (fuel+1) st (-1) = _
      rw [f_X8_isPartnerNext_L26, if_pos (by decide)]
      rcases hP.2 with ⟨c, _⟩ | ⟨_, c⟩
      · omega
      · rw [c], rfl⟩) ?_ n FU (-1) ⟨Nat.le_refl _, Or.inl ⟨hj, trivial⟩⟩ (by unfold FU; omega)
  · obtain ⟨x, hx, rfl⟩ := this
    rw [t128, h1, show nI n - (1 : Int32) = nI n + (-1) from Int32.sub_eq_add_neg _ _, hx]
    simp only [Option.bind_some]
    rw [if_neg (by rw [show (0 : Int32) = nI 0 from rfl, pi_lt (by omega) (by omega)]; omega), show (10 : Int32) = nI 10 from rfl, x8_of hb8 (by omega)]
    simp only [Option.bind_some]
    split <;> rfl
  · rintro k st ⟨hk, hP⟩
    have hk8 : k < 8 := by omega
    have ek := h3 k (by omega)
    have eb := h3 b hb
    have ea := x8_ahead hk8 hb8 ek.2 eb.2 ek.1 eb.1
    have hdb := dN_b (fl (I 130) k) (fl (I 130) b)
    have ha4 : aN (fl (I 130) k) (fl (I 130) b) < 400 := by unfold aN; split <;> omega
    have unf : ∀ fuel, f_X8_isPartnerNext_L26 (nI b) I (nI g) (fuel+1) st (nI k) = f_X8_isPartnerNext_L26 (nI b) I (nI g) fuel (if k = b then st else if ¬ I 130 (16 * k + 6) = 1 then st else if I 130 (16 * k + 5) = I 130 (16 * b + 5) then if aN (fl (I 130) k) (fl (I 130) b) = g then nI k else st else st) (nI k + (-1)) := by
      intro fuel
      rw [f_X8_isPartnerNext_L26, if_neg (by rw [show (0 : Int32) = nI 0 from rfl, pi_lt (by omega) (by omega)]; omega), ea]
      simp only [Option.bind_some, hlet_e]
      rw [show (5 : Int32) = nI 5 from rfl]
      simp only [x8_flies hk8, x8_of hk8 (show 5 < 16 by omega), x8_of hb8 (show 5 < 16 by omega), Option.bind_some, i32_ne, pi_eq (show k < 2147483648 by omega) (show b < 2147483648 by omega), pi_eq (show aN (fl (I 130) k) (fl (I 130) b) < 2147483648 by omega) (show g < 2147483648 by omega)]
      by_cases c1 : k = b
      · rw [if_pos c1, if_pos c1]; rfl
      · rw [if_neg c1, if_neg c1]
        by_cases c2 : ¬ I 130 (16 * k + 6) = 1
        · rw [if_pos c2, if_pos c2]; rfl
        · rw [if_neg c2, if_neg c2]
          by_cases c3 : I 130 (16 * k + 5) = I 130 (16 * b + 5)
          · rw [if_pos c3, if_pos c3]
            by_cases c4 : aN (fl (I 130) k) (fl (I 130) b) = g
            · rw [if_pos c4, if_pos c4]; rfl
            · rw [if_neg c4, if_neg c4]; rfl
          · rw [if_neg c3, if_neg c3]; rfl
    refine ⟨_, ?_, unf⟩
    have hgd : gD (I 130) k b = dN (fl (I 130) k) (fl (I 130) b) := rfl
    have haD : aN (fl (I 130) k) (fl (I 130) b) = g → gD (I 130) k b = g := by
      have := dN_b (fl (I 130) j) (fl (I 130) b)
      unfold gD at e hd ⊢; unfold aN; split <;> omega
    refine ⟨by omega, ?_⟩
    rcases Nat.lt_or_ge j k with c | c
    · exact Or.inl ⟨c, trivial⟩
    · right
      refine ⟨c, ?_⟩
      rcases Nat.eq_or_lt_of_le c with c | c
      · subst c
        obtain ⟨_, w2, w3, w4⟩ := hN.2.1
        have : aN (fl (I 130) k) (fl (I 130) b) = g := by
          rw [e]; unfold gD at hd ⊢; unfold aN; rw [if_neg (by omega)]
        rw [if_neg w2, if_neg (fun c => c w3), if_pos w4, if_pos this]
      · have hst : st = nI j := by
          rcases hP with ⟨d, _⟩ | ⟨_, d⟩
          · omega
          · exact d
        rw [hst]
        by_cases c1 : k = b
        · rw [if_pos c1]
        · rw [if_neg c1]
          by_cases c2 : I 130 (16 * k + 6) = 1
          · rw [if_neg (fun c => c c2)]
            by_cases c3 : I 130 (16 * k + 5) = I 130 (16 * b + 5)
            · rw [if_pos c3, if_neg (fun c4 => by have := hT k (by omega) ⟨by omega, c1, c2, c3⟩ (haD c4); omega)]
            · rw [if_neg c3]
          · rw [if_pos c2]
theorem x3_draftFeet {I : Nat → Nat → Int32} {β n b : Nat} {s : Nat → Int32} {r : Option Nat} (h : QR I β s n) (hb : b < n) (hN : NX s n b (s (16 * b + 5)) 8 r) : f_X3_draftFeet β (cB β b) (Option.map (cB β) r) I = some (nI (drf s b r)) := by
  have hn := h.2.2.2.2.2.1
  unfold f_X3_draftFeet drf
  cases r with
  | none => rfl
  | some j =>
    have hj := hN.2.1.1
    have := dN_b (fl s j) (fl s b)
    have hg : gD s j b ≤ 400 := this.2
    rw [Option.map_some, hopt_e2, hk_e (sk_b h.1 (by omega)), h.fb hb hj, h.2.2.1 j (by omega), (h.2.2.2.1 b hb).2.2.2.2.2.2.2.2.2.2.2.1]
    simp only [Option.bind_some, show (8 : Int32) = nI 8 from rfl, pi_le (show gD s j b < 2147483648 by omega) (show 8 < 2147483648 by omega)]
    by_cases c : gD s j b ≤ 8
    · rw [if_pos c, if_pos c]; split <;> rfl
    · rw [if_neg c, if_neg c]; rfl
