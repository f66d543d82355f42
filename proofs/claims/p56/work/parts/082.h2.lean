/-! The race's accounts: what holds of them at any time; B bounds the counters. -/
def sC (I : Nat → Nat → Int32) (β : Nat) : Nat → Int32
  | 0 => 0
  | m + 1 => sC I β m + I (cB β m) 4
theorem sC_cg {I X : Nat → Nat → Int32} {β γ : Nat} {m : Nat} (h : ∀ b, b < m → X (cB β b) 4 = I (cB γ b) 4) : sC X β m = sC I γ m := by
  induction m with
  | zero => rfl
  | succ m ih => unfold sC; rw [ih (fun b hb => h b (by omega)), h m (by omega)]
theorem sC_up {I X : Nat → Nat → Int32} {β b : Nat} {d : Int32} {m : Nat} (hb : b < m) (h : ∀ k, k < m → k ≠ b → X (cB β k) 4 = I (cB β k) 4) (e : X (cB β b) 4 = I (cB β b) 4 + d) : sC X β m = sC I β m + d := by
  induction m with
  | zero => omega
  | succ m ih =>
    unfold sC
    by_cases c : b = m
    · subst c
      rw [sC_cg (X := X) (I := I) (γ := β) (fun k hk => h k (by omega) (by omega)), e, Int32.add_assoc]
    · rw [ih (by omega) (fun k hk => h k (by omega)), h m (by omega) (by omega), Int32.add_assoc, Int32.add_comm d, ← Int32.add_assoc]
def zHB (I : Nat → Nat → Int32) (β n : Nat) : Prop :=
  I β 8 = sC I β n ∧
  (∀ b, b < n → Bd (I (cB β b) 5) 0 42 ∧ (I (cB β b) 9 = 3 → Bd (I (cB β b) 14) 1 (tn (I β 6)) ∧ Bd (I (cB β b) 4) 400 3600 ∧ ∃ k, k < tn (I β 7) ∧ I (cB β b) 13 = nI k)) ∧
  (∀ b c, b < n → c < n → I (cB β b) 9 = 3 → I (cB β c) 9 = 3 → tn (I (cB β b) 13) < tn (I (cB β c) 13) → tn (I (cB β b) 14) ≤ tn (I (cB β c) 14))
def zHG (I : Nat → Nat → Int32) (β B : Nat) : Prop :=
  (I β 5 = 0 ∨ I β 5 = 1) ∧ Bd (I β 6) 0 B ∧ Bd (I β 7) 0 8 ∧ Bd (I β 9) 0 B ∧ Bd (I β 10) 0 B ∧ Bd (I β 11) 0 B ∧ Bd (I β 12) 0 B ∧ Bd (I β 13) 0 B ∧
  tn (I β 13) + (if I β 5 = 1 ∧ I β 7 = 0 then 1 else 0) ≤ tn (I β 12) ∧ (I β 5 = 1 → 1 ≤ tn (I β 12))
def zHC (I : Nat → Nat → Int32) (β B : Nat) : Prop := ∃ n, n ≤ 8 ∧ I β 3 = nI n ∧ zHG I β B ∧ zHB I β n
theorem zHG.le {I : Nat → Nat → Int32} {β B B' : Nat} (h : zHG I β B) (hb : B ≤ B') : zHG I β B' := by
  obtain ⟨a1, a2, a3, a4, a5, a6, a7, a8, a9⟩ := h
  exact ⟨a1, a2.le (Nat.le_refl _) hb, a3, a4.le (Nat.le_refl _) hb, a5.le (Nat.le_refl _) hb, a6.le (Nat.le_refl _) hb, a7.le (Nat.le_refl _) hb, a8.le (Nat.le_refl _) hb, a9⟩
theorem zHC.le {I : Nat → Nat → Int32} {β B B' : Nat} (h : zHC I β B) (hb : B ≤ B') : zHC I β B' := by
  obtain ⟨n, h1, h2, h3, h4⟩ := h
  exact ⟨n, h1, h2, h3.le hb, h4⟩
theorem zHC.cg {I X : Nat → Nat → Int32} {β γ B : Nat} (h : zHC I γ B) (e : ∀ f, (f = 3 ∨ 5 ≤ f ∧ f ≤ 13) → X β f = I γ f) (e2 : ∀ b, b < 8 → ∀ f, (f = 4 ∨ f = 5 ∨ f = 9 ∨ f = 13 ∨ f = 14) → X (cB β b) f = I (cB γ b) f) : zHC X β B := by
  obtain ⟨n, h1, h2, h3, h4, h5, h6⟩ := h
  refine ⟨n, h1, (e 3 (by omega)).trans h2, ?_, ?_, fun b hb => ?_, fun b c hb hc => ?_⟩
  · unfold zHG at h3 ⊢
    rw [e 5 (by omega), e 6 (by omega), e 7 (by omega), e 9 (by omega), e 10 (by omega), e 11 (by omega), e 12 (by omega), e 13 (by omega)]
    exact h3
  · rw [e 8 (by omega), h4]
    exact (sC_cg (fun b hb => e2 b (by omega) 4 (by omega))).symm
  · rw [e2 b (by omega) 5 (by omega), e2 b (by omega) 9 (by omega), e2 b (by omega) 14 (by omega), e2 b (by omega) 4 (by omega), e2 b (by omega) 13 (by omega), e 6 (by omega), e 7 (by omega)]
    exact h5 b hb
  · rw [e2 b (by omega) 9 (by omega), e2 b (by omega) 14 (by omega), e2 b (by omega) 13 (by omega), e2 c (by omega) 9 (by omega), e2 c (by omega) 14 (by omega), e2 c (by omega) 13 (by omega)]
    exact h6 b c hb hc
theorem zHC.same {I X : Nat → Nat → Int32} {β B : Nat} (h : zHC I β B) (e : ∀ a, β ≤ a → a < β + 12 → X a = I a) : zHC X β B :=
  h.cg (fun f _ => by rw [e β (by omega) (by omega)]) (fun b hb f _ => by rw [e (cB β b) (by unfold cB; omega) (by unfold cB; omega)])
theorem Bd.up {x y : Int32} {B : Nat} (h : Bd x 0 B) (e : y = x ∨ y = x + 1) : Bd y 0 (B + 1) := by
  obtain ⟨v, rfl, h1, h2⟩ := h
  rcases e with rfl | rfl
  · exact ⟨v, rfl, by omega, by omega⟩
  · exact ⟨v + 1, pi_add v 1, by omega, by omega⟩
theorem tn_nI {v : Nat} (h : v < 2147483648) : tn (nI v) = v := pi_tn h
/-- one flight -/
theorem zFE.hc {I I' : Nat → Nat → Int32} {β n b B : Nat} {s' : Nat → Int32} (hn : n ≤ 8) (hb : b < n) (h : zFE β (cB β b) I I') (hB2 : B < 1000000000) (h3 : I β 3 = nI n) (h5 : I β 5 = 1) (ht : 1 ≤ tn (I β 6)) (h1 : I (cB β b) 9 = 1) (hg : zHG I β B) (hh : zHB I β n) (hR' : R I' β s' n) (hw' : WX s' n) : zHG I' β (B + 1) ∧ zHB I' β n := by
  obtain ⟨f1, f2, f9, f10, f11, x, y, f4, f4', fxy, fy, f5, f8, fc⟩ := h
  obtain ⟨g5, g6, g7, g9, g10, g11, g12, g13, gw, gr⟩ := hg
  obtain ⟨b8, bb, bm⟩ := hh
  have hne : cB β b ≠ β := cB_ne
  have e5 := f2 5 (by omega)
  have e6 := f2 6 (by omega)
  have e12 := f2 12 (by omega)
  have o : ∀ c, c < n → c ≠ b → I' (cB β c) = I (cB β c) := fun c hc hcb => f1 _ cB_ne (cB_inj hcb)
  have k7 := g7.e (by omega)
  have k6 := g6.e (by omega)
  have k13 := g13.e (by omega)
  have k12 := g12.e (by omega)
  have hc8 := cnt3_le s' n
  have k7' : I' β 7 = nI (cnt3 s' n) := hR'.1.2.2.2.1.trans hw'.a.1
  have hsum : I' β 8 = sC I' β n := by
    rw [f8, b8]
    refine (sC_up hb (fun k hk hkb => by rw [o k hk hkb]) ?_).symm
    rw [f4', f4, pi_add]; congr 1; omega
  have hfl := (hR'.2.2.1 b hb).2.2.2.1.trans (hw'.fl.2.2 b hb).1
  have hy : y ≤ 3600 ∨ ¬ y ≤ 3600 := Classical.em _
  have hfl2 := (hw'.fl.2.2 b hb).2
  rcases fc with ⟨c9, c13, c14, c7, cy, c13'⟩ | ⟨c7, c13', c9⟩
  · have hw7 : tn (I' β 7) = tn (I β 7) + 1 := by
      have : I' β 7 = nI (tn (I β 7) + 1) := by rw [c7]; exact (congrArg (fun z => z + (1 : Int32)) k7.1).trans (pi_add _ 1)
      rw [this, tn_nI (by omega)]
    have hy36 : Bd (I' (cB β b) 4) 400 3600 := by
      have e1 : tn (I' (cB β b) 4) = y := by rw [f4', tn_nI]; have := (bd_x : ∀ {x : Nat}, x ≤ 3600 → True) (x := 0) (by omega); omega
      sorry
    sorry
  · sorry
