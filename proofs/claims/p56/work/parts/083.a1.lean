/-! The accounts of all races (now, trial, saved, kept) through each kind of call. -/
def zHA (I : Nat → Nat → Int32) (B : Nat) : Prop := ∀ β, IsB β → β ≠ 13 → zHC I β B
theorem zHA.le {I : Nat → Nat → Int32} {B B' : Nat} (h : zHA I B) (hb : B ≤ B') : zHA I B' := fun β hβ h3 => (h β hβ h3).le hb
/-- cells of races -/
def inR (a : Nat) : Prop := (1 ≤ a ∧ a < 25) ∨ (27 ≤ a ∧ a < 99) ∨ (102 ≤ a ∧ a < 126)
theorem inR_b {β a : Nat} (h : IsB β) (h1 : β ≤ a) (h2 : a < β + 12) : inR a := by
  unfold inR
  rcases h with rfl | rfl | ⟨k, hk, rfl⟩ | rfl | rfl <;> omega
theorem zHA.far {I X : Nat → Nat → Int32} {B : Nat} (h : zHA I B) (e : ∀ a, inR a → X a = I a) : zHA X B := fun β hβ h3 => (h β hβ h3).same (fun a h1 h2 => e a (inR_b hβ h1 h2))
theorem zHA.upd {I X : Nat → Nat → Int32} {β B : Nat} (hB : IsB β) (h : zHA I B) (e : ∀ a, inR a → (a < β ∨ β + 12 ≤ a) → X a = I a) (hc : zHC X β B) : zHA X B := fun γ hγ g3 => by
  by_cases c : γ = β
  · subst c; exact hc
  · have hd := base_disj hγ hB c
    exact (h γ hγ g3).same (fun a h1 h2 => e a (inR_b hγ h1 h2) (by omega))
theorem sk3_IsB : ∀ a, SHK a = 3 → IsB a := by
  intro a h
  have hl : a < 129 := sk_lt (by rw [h]; decide)
  have key : ∀ a, a < 129 → SHK a = 3 → (a = 1 ∨ a = 13 ∨ (a = 27 ∨ a = 39 ∨ a = 51 ∨ a = 63 ∨ a = 75 ∨ a = 87) ∨ a = 102 ∨ a = 114) := by decide +kernel
  rcases key a hl h with e | e | e | e | e
  · exact Or.inl e
  · exact Or.inr (Or.inl e)
  · refine Or.inr (Or.inr (Or.inl ?_))
    rcases e with e | e | e | e | e | e
    · exact ⟨0, by omega, by omega⟩
    · exact ⟨1, by omega, by omega⟩
    · exact ⟨2, by omega, by omega⟩
    · exact ⟨3, by omega, by omega⟩
    · exact ⟨4, by omega, by omega⟩
    · exact ⟨5, by omega, by omega⟩
  · exact Or.inr (Or.inr (Or.inr (Or.inl e)))
  · exact Or.inr (Or.inr (Or.inr (Or.inr e)))
theorem isB_sk3 {β : Nat} (h : IsB β) : SHK β = 3 := by
  rcases h with rfl | rfl | ⟨k, hk, rfl⟩ | rfl | rfl
  · decide
  · decide
  · exact sk_3 hk
  · decide
  · decide
/-- a place that the accounts don't look at -/
theorem zHA.set {I : Nat → Nat → Int32} {B c k : Nat} {v : Int32} (h : zHA I B) (h3 : SHK c = 3 → k = 4) (h6 : SHK c = 6 → k ≠ 4 ∧ k ≠ 5 ∧ k ≠ 9 ∧ k ≠ 13 ∧ k ≠ 14) : zHA (gup I c k v) B := fun β hβ z3 => (h β hβ z3).cg (fun f hf => by
    by_cases e : β = c
    · have := h3 (by rw [← e]; exact isB_sk3 hβ)
      subst e
      exact gup_i (by omega)
    · exact gup_n e) (fun b hb f hf => by
    by_cases e : cB β b = c
    · have := h6 (by rw [← e]; exact sk_b hβ hb)
      rw [e]
      exact gup_i (by omega)
    · exact gup_n e)
theorem zHA.take {I X : Nat → Nat → Int32} {β γ B : Nat} (hB : IsB β) (h : zHA I B) (hG : zHC I γ B) (x2 : FI β I X) (x3 : ∀ i, i < 8 → ∀ f, 1 ≤ f → f ≤ 14 → X (cB β i) f = I (cB γ i) f) (x6 : ∀ f, 3 ≤ f → f ≤ 13 → X β f = I γ f) : zHA X B :=
  h.upd hB (fun a _ ha => x2 a ha) (hG.cg (fun f hf => x6 f (by omega) (by omega)) (fun b hb f hf => x3 b hb f (by omega) (by omega)))
/-- takeFrom, told backwards -/
theorem take_ha {I X : Nat → Nat → Int32} {β γ n B : Nat} {s : Nat → Int32} (hB : IsB β) (hG : IsB γ) (hne : β ≠ γ) (hr : RR I γ s n) (hX : f_X3_takeFrom β γ I = some X) (h : zHA I B) (hcG : zHC I γ B) : zHA X B ∧ FI β I X := by
  obtain ⟨Y, y1, y2, y3, y4, y5, y6⟩ := x3_take hB hG hne hr.2.1 hr.gz5
  rw [hX] at y1
  obtain rfl := Option.some.inj y1
  exact ⟨h.take hB hcG y2 y3 y6, y2⟩
theorem save_ha {I I1 K : Nat → Nat → Int32} {O O1 : Nat → Nat → Option Nat} {B : Nat} (h : Inv2 I K O) (hs : f_X4_save 1 I O = some (I1, O1)) (hc : zHA I B) : zHA I1 B := by
  obtain ⟨n, p, len, h1, hZ, ⟨h25, h3, hp6, σ, s1, s2, s3⟩, _⟩ := h
  unfold f_X4_save at hs
  obtain ⟨⟨I2, O2⟩, h2, hs⟩ := hb_some hs
  have e2 : (∀ a, a ≠ 25 → I2 a = I a) ∧ ∀ i, i < 6 → ∃ k, k < 6 ∧ O2 26 i = some (27 + 12 * k) := by
    split at h2
    · simp only [Option.some.injEq, Prod.mk.injEq] at h2
      obtain ⟨rfl, rfl⟩ := h2
      exact ⟨fun _ _ => rfl, fun i hi => ⟨σ i, (s1 i hi).1, (s1 i hi).2⟩⟩
    · obtain ⟨O', d1, d2, d3, d4⟩ := x4_drop (I := I) s1
      rw [d1] at h2
      simp only [Option.bind_some, Option.some.injEq, Prod.mk.injEq] at h2
      obtain ⟨rfl, rfl⟩ := h2
      refine ⟨fun a ha => gup_ne ha, fun i hi => ?_⟩
      by_cases c : i < 5
      · rw [d3 i c]; exact ⟨σ (i + 1), (s1 _ (by omega)).1, (s1 _ (by omega)).2⟩
      · rw [show i = 5 by omega, d4]; exact ⟨σ 0, (s1 _ (by omega)).1, (s1 _ (by omega)).2⟩
  obtain ⟨e2, o2⟩ := e2
  have hc2 : zHA I2 B := hc.far (fun a ha => e2 a (by unfold inR at ha; omega))
  have hr2 : RR I2 1 (K 130) n := RR_I (fun a _ _ => e2 a (by omega)) h1
  dsimp only at hs
  split at hs
  · simp only [Option.some.injEq, Prod.mk.injEq] at hs
    rw [← hs.1]; exact hc2
  · split at hs
    · simp only [Option.some.injEq, Prod.mk.injEq] at hs
      rw [← hs.1]; exact hc2
    · obtain ⟨hg, hs⟩ := hg_some hs
      rw [hlet_e] at hs
      obtain ⟨k, hk, ek⟩ := o2 _ (gin_lt hg)
      rw [ek, ov_some (sk_3 hk), hopt_e2] at hs
      obtain ⟨-, hs⟩ := hk_some hs
      obtain ⟨I6, h6, hs⟩ := hb_some hs
      simp only [hlet_e, Option.some.injEq, Prod.mk.injEq] at hs
      rw [← hs.1]
      obtain ⟨t1, -⟩ := take_ha (isB_s hk) isB1 (by omega) hr2 h6 hc2 (hc2 1 isB1 (by omega))
      exact t1.set (fun e => absurd e (by decide)) (fun e => absurd e (by decide))
theorem save_far {I I1 K : Nat → Nat → Int32} {O O1 : Nat → Nat → Option Nat} (h : Inv2 I K O) (hs : f_X4_save 1 I O = some (I1, O1)) : (∀ a, a ≠ 25 → (a < 27 ∨ 99 ≤ a) → I1 a = I a) ∧ (∀ a, a ≠ 26 → O1 a = O a) := by
  obtain ⟨n, p, len, h1, hZ, hS, _⟩ := h
  obtain ⟨I', O', K', p', a1, a2, a3, a4, a5, a6, _⟩ := save_both hZ h1 hS
  rw [hs] at a1
  simp only [Option.some.injEq, Prod.mk.injEq] at a1
  obtain ⟨rfl, rfl⟩ := a1
  exact ⟨a5, a6⟩
