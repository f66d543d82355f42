def fl (s : Nat → Int32) (b : Nat) : Nat := tn (s (16 * b + 7))
def wy (s : Nat → Int32) (n b : Nat) (lane : Int32) (k : Nat) : Prop := k < n ∧ k ≠ b ∧ s (16 * k + 6) = 1 ∧ s (16 * k + 5) = lane
def FL (s : Nat → Int32) (n : Nat) : Prop := s 128 = nI n ∧ n ≤ 8 ∧ ∀ b, b < n → s (16 * b + 7) = nI (fl s b) ∧ fl s b ≤ 3600
theorem WX.fl {s : Nat → Int32} {n : Nat} (h : WX s n) : FL s n := by
  refine ⟨h.1.1, h.1.2, fun b hb => ?_⟩
  have h7 := (h.2.1 b hb).2.2.2.2.2.2.2.1
  have := h7.e (by omega)
  exact ⟨this.1, this.2.2⟩
def gD (s : Nat → Int32) (k b : Nat) : Nat := dN (fl s k) (fl s b)
def NX (s : Nat → Int32) (n b : Nat) (lane : Int32) (m : Nat) (r : Option Nat) : Prop := match r with
  | none => ∀ k, k < m → ¬ wy s n b lane k
  | some j => j < m ∧ wy s n b lane j ∧ (∀ k, k < m → wy s n b lane k → gD s j b ≤ gD s k b) ∧ (∀ k, k < j → wy s n b lane k → gD s j b < gD s k b)
def GP (s : Nat → Int32) (n b : Nat) (lane : Int32) (m g : Nat) : Prop :=
  (g = 0 ∧ ∀ k, k < m → ¬ wy s n b lane k) ∨ (∃ j, j < m ∧ wy s n b lane j ∧ g = gD s j b ∧ ∀ k, k < m → wy s n b lane k → g ≤ gD s k b)
theorem lt_succ' {k m : Nat} : k < m + 1 ↔ k < m ∨ k = m := by omega
theorem GP_skip {s : Nat → Int32} {n b : Nat} {lane : Int32} {k g : Nat} (h : GP s n b lane k g) (hw : ¬ wy s n b lane k) : GP s n b lane (k + 1) g := by
  rcases h with ⟨h0, h⟩ | ⟨j, h1, h2, h3, h4⟩
  · exact Or.inl ⟨h0, fun q hq => (lt_succ'.mp hq).elim (fun hq => h q hq) (fun e => e ▸ hw)⟩
  · exact Or.inr ⟨j, by omega, h2, h3, fun q hq hy => (lt_succ'.mp hq).elim (fun hq => h4 q hq hy) (fun e => absurd (e ▸ hy) hw)⟩
theorem GP_new {s : Nat → Int32} {n b : Nat} {lane : Int32} {k g : Nat} (h : GP s n b lane k g) (hw : wy s n b lane k) (hl : g = 0 ∨ gD s k b < g) : GP s n b lane (k + 1) (gD s k b) := by
  refine Or.inr ⟨k, by omega, hw, rfl, fun q hq hy => ?_⟩
  rcases lt_succ'.mp hq with hq | rfl
  · rcases h with ⟨h0, h⟩ | ⟨j, h1, h2, h3, h4⟩
    · exact absurd hy (h q hq)
    · have := h4 q hq hy
      have := dN_b (fl s j) (fl s b)
      unfold gD at *; omega
  · exact Nat.le_refl _
theorem GP_keep {s : Nat → Int32} {n b : Nat} {lane : Int32} {k g : Nat} (h : GP s n b lane k g) (hw : wy s n b lane k) (hl : g ≠ 0) (hl2 : g ≤ gD s k b) : GP s n b lane (k + 1) g := by
  rcases h with ⟨h0, h⟩ | ⟨j, h1, h2, h3, h4⟩
  · exact absurd h0 hl
  · exact Or.inr ⟨j, by omega, h2, h3, fun q hq hy => (lt_succ'.mp hq).elim (fun hq => h4 q hq hy) (fun e => e ▸ hl2)⟩
theorem t128 : (128 : Int32).toNatClampNeg = 128 := by decide
theorem i32_ne {c : Prop} [Decidable c] : (if c then (1 : Int32) else 0) = 0 ↔ ¬ c := by split <;> simp_all
theorem x8_gap {I : Nat → Nat → Int32} {n b : Nat} {lane : Int32} (h : FL (I 130) n) (hb : b < n) : ∃ g, f_X8_gap (nI b) lane I = some (nI g) ∧ g ≤ 400 ∧ GP (I 130) n b lane n g := by
  obtain ⟨h1, h2, h3⟩ := h
  have := loop_go (fun fuel k st => f_X8_gap_L5 (nI b) lane I fuel st k) n (fun k st => ∃ g, st = nI g ∧ g ≤ 400 ∧ GP (I 130) n b lane k g) (fun x => ∃ g, x = nI g ∧ g ≤ 400 ∧ GP (I 130) n b lane n g) ?_ FU 0 (nI 0) (by omega) ⟨0, rfl, by omega, Or.inl ⟨rfl, fun k hk => absurd hk (by omega)⟩⟩ (by unfold FU; omega)
  · obtain ⟨x, hx, g, rfl, h4, h5⟩ := this
    refine ⟨g, ?_, h4, h5⟩
    unfold f_X8_gap
    rw [show (0 : Int32) = nI 0 from rfl, hx]; rfl
  · rintro k st hk ⟨g, rfl, hg, hG⟩
    rcases Nat.lt_or_ge k n with hkn | hkn
    · right
      refine ⟨hkn, ?_⟩
      have hk8 : k < 8 := by omega
      have hb8 : b < 8 := by omega
      have ek := h3 k hkn
      have eb := h3 b hb
      have ea := x8_ahead hk8 hb8 ek.2 eb.2 ek.1 eb.1
      have hnle : ¬ (nI n ≤ nI k) := by rw [pi_le (by omega) (by omega)]; omega
      have hdb := dN_b (fl (I 130) k) (fl (I 130) b)
      by_cases hw : wy (I 130) n b lane k
      · have hw2 := hw
        obtain ⟨_, w2, w3, w4⟩ := hw2
        have e400 : (if nI (aN (fl (I 130) k) (fl (I 130) b)) = 0 then some (400 : Int32) else some (nI (aN (fl (I 130) k) (fl (I 130) b)))) = some (nI (gD (I 130) k b)) := by
          have : aN (fl (I 130) k) (fl (I 130) b) < 400 := by unfold aN; split <;> omega
          rw [show (0 : Int32) = nI 0 from rfl]
          split
          · next he =>
            rw [pi_eq (by omega) (by omega)] at he
            unfold aN at he; unfold gD
            split at he
            · next he2 => rw [he2]; rfl
            · omega
          · next he =>
            rw [pi_eq (by omega) (by omega)] at he
            unfold aN at he ⊢; unfold gD
            split at he
            · omega
            · next he2 => rw [if_neg he2]
        have key : ∀ fuel, f_X8_gap_L5 (nI b) lane I (fuel+1) (nI g) (nI k) = f_X8_gap_L5 (nI b) lane I fuel (if g = 0 then nI (gD (I 130) k b) else if g ≤ gD (I 130) k b then nI g else nI (gD (I 130) k b)) (nI (k+1)) := by
          intro fuel
          rw [f_X8_gap_L5]
          rw [t128, h1, if_neg hnle, if_neg (by rw [pi_eq (by omega) (by omega)]; omega), x8_flies hk8, w3]
          simp only [Option.bind_some, hlet_e, ea]
          rw [show (5 : Int32) = nI 5 from rfl, x8_of hk8 (by omega), w4]
          simp only [Option.bind_some, if_true, show ¬ ((1 : Int32) = 0) by decide, if_false, e400]
          rw [show (0 : Int32) = nI 0 from rfl, show (1 : Int32) = nI 1 from rfl, pi_add]
          by_cases g0 : g = 0
          · subst g0; simp only [if_true, Option.bind_some]
          · rw [if_neg (by rw [pi_eq (by omega) (by omega)]; exact g0), if_neg g0]
            by_cases g1 : g ≤ gD (I 130) k b
            · rw [if_pos (by rw [pi_le (by omega) (by unfold gD; omega)]; exact g1), if_pos g1]; rfl
            · rw [if_neg (by rw [pi_le (by omega) (by unfold gD; omega)]; exact g1), if_neg g1]; rfl
        refine ⟨_, ?_, key⟩
        by_cases g0 : g = 0
        · rw [if_pos g0]; exact ⟨_, rfl, hdb.2, GP_new hG hw (Or.inl g0)⟩
        · rw [if_neg g0]
          by_cases g1 : g ≤ gD (I 130) k b
          · rw [if_pos g1]; exact ⟨_, rfl, hg, GP_keep hG hw g0 g1⟩
          · rw [if_neg g1]; exact ⟨_, rfl, hdb.2, GP_new hG hw (Or.inr (by omega))⟩
      · refine ⟨nI g, ⟨g, rfl, hg, GP_skip hG hw⟩, fun fuel => ?_⟩
        show f_X8_gap_L5 (nI b) lane I (fuel+1) (nI g) (nI k) = _
        rw [f_X8_gap_L5]
        rw [t128, h1, if_neg hnle]
        rw [show (5 : Int32) = nI 5 from rfl]
        simp only [x8_flies hk8, x8_of hk8 (show 5 < 16 by omega), Option.bind_some, i32_ne, pi_eq (show k < 2147483648 by omega) (show b < 2147483648 by omega)]
        rw [show nI k + 1 = nI (k + 1) from pi_add k 1]
        by_cases c1 : k = b
        · simp [c1, hlet_e]
        · by_cases c2 : I 130 (16 * k + 6) = 1
          · have c3 : ¬ I 130 (16 * k + 5) = lane := fun c3 => hw ⟨hkn, c1, c2, c3⟩
            simp [c1, c2, c3, hlet_e]
          · simp [c1, c2, hlet_e]
    · left
      have : k = n := by omega
      subst this
      refine ⟨nI g, fun fuel => ?_, g, rfl, hg, hG⟩
      show f_X8_gap_L5 (nI b) lane I (fuel+1) (nI g) (nI k) = _
      rw [f_X8_gap_L5, t128, h1, if_pos (by rw [pi_le (by omega) (by omega)]; omega)]
