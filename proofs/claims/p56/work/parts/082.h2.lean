/-! The race's accounts: what holds of them at any time; B bounds the counters. -/
def sC (I : Nat → Nat → Int32) (β : Nat) : Nat → Int32
  | 0 => 0
  | m + 1 => sC I β m + I (cB β m) 4
theorem sC_cg {I X : Nat → Nat → Int32} {β γ : Nat} {m : Nat} (h : ∀ b, b < m → X (cB β b) 4 = I (cB γ b) 4) : sC X β m = sC I γ m := by
  induction m with
  | zero => rfl
  | succ m ih => unfold sC; rw [ih (fun b hb => h b (by omega)), h m (by omega)]
theorem sC_up {I X : Nat → Nat → Int32} {β b : Nat} {d : Int32} {m : Nat} (hb : b < m) (h : ∀ k, k < m → k ≠ b → X (cB β k) 4 = I (cB β k) 4) (e : X (cB β b) 4 = I (cB β b) 4 + d) : sC X β m = sC I β m + d := by
  induction m with
  | zero => omega
  | succ m ih =>
    unfold sC
    by_cases c : b = m
    · subst c
      rw [sC_cg (X := X) (I := I) (γ := β) (fun k hk => h k (by omega) (by omega)), e, Int32.add_assoc]
    · rw [ih (by omega) (fun k hk => h k (by omega)), h m (by omega) (by omega), Int32.add_assoc, Int32.add_comm d, ← Int32.add_assoc]
def zHB (I : Nat → Nat → Int32) (β n : Nat) : Prop :=
  I β 8 = sC I β n ∧
  (∀ b, b < n → Bd (I (cB β b) 5) 0 42 ∧ (I (cB β b) 9 = 3 → Bd (I (cB β b) 14) 1 (tn (I β 6)) ∧ 400 ≤ tn (I (cB β b) 4) ∧ ∃ k, k < tn (I β 7) ∧ I (cB β b) 13 = nI k)) ∧
  (∀ b c, b < n → c < n → I (cB β b) 9 = 3 → I (cB β c) 9 = 3 → tn (I (cB β b) 13) < tn (I (cB β c) 13) → tn (I (cB β b) 14) ≤ tn (I (cB β c) 14))
def zHG (I : Nat → Nat → Int32) (β B : Nat) : Prop :=
  (I β 5 = 0 ∨ I β 5 = 1) ∧ Bd (I β 6) 0 B ∧ Bd (I β 7) 0 8 ∧ Bd (I β 9) 0 B ∧ Bd (I β 10) 0 B ∧ Bd (I β 11) 0 B ∧ Bd (I β 12) 0 B ∧ Bd (I β 13) 0 B ∧
  tn (I β 13) + (if I β 5 = 1 ∧ I β 7 = 0 then 1 else 0) ≤ tn (I β 12) ∧ (I β 5 = 1 → 1 ≤ tn (I β 12))
def zHC (I : Nat → Nat → Int32) (β B : Nat) : Prop := ∃ n, n ≤ 8 ∧ I β 3 = nI n ∧ zHG I β B ∧ zHB I β n
theorem zHG.le {I : Nat → Nat → Int32} {β B B' : Nat} (h : zHG I β B) (hb : B ≤ B') : zHG I β B' := by
  obtain ⟨a1, a2, a3, a4, a5, a6, a7, a8, a9⟩ := h
  exact ⟨a1, a2.le (Nat.le_refl _) hb, a3, a4.le (Nat.le_refl _) hb, a5.le (Nat.le_refl _) hb, a6.le (Nat.le_refl _) hb, a7.le (Nat.le_refl _) hb, a8.le (Nat.le_refl _) hb, a9⟩
theorem zHC.le {I : Nat → Nat → Int32} {β B B' : Nat} (h : zHC I β B) (hb : B ≤ B') : zHC I β B' := by
  obtain ⟨n, h1, h2, h3, h4⟩ := h
  exact ⟨n, h1, h2, h3.le hb, h4⟩
theorem zHC.cg {I X : Nat → Nat → Int32} {β γ B : Nat} (h : zHC I γ B) (e : ∀ f, (f = 3 ∨ 5 ≤ f ∧ f ≤ 13) → X β f = I γ f) (e2 : ∀ b, b < 8 → ∀ f, (f = 4 ∨ f = 5 ∨ f = 9 ∨ f = 13 ∨ f = 14) → X (cB β b) f = I (cB γ b) f) : zHC X β B := by
  obtain ⟨n, h1, h2, h3, h4, h5, h6⟩ := h
  refine ⟨n, h1, (e 3 (by omega)).trans h2, ?_, ?_, fun b hb => ?_, fun b c hb hc => ?_⟩
  · unfold zHG at h3 ⊢
    rw [e 5 (by omega), e 6 (by omega), e 7 (by omega), e 9 (by omega), e 10 (by omega), e 11 (by omega), e 12 (by omega), e 13 (by omega)]
    exact h3
  · rw [e 8 (by omega), h4]
    exact (sC_cg (fun b hb => e2 b (by omega) 4 (by omega))).symm
  · rw [e2 b (by omega) 5 (by omega), e2 b (by omega) 9 (by omega), e2 b (by omega) 14 (by omega), e2 b (by omega) 4 (by omega), e2 b (by omega) 13 (by omega), e 6 (by omega), e 7 (by omega)]
    exact h5 b hb
  · rw [e2 b (by omega) 9 (by omega), e2 b (by omega) 14 (by omega), e2 b (by omega) 13 (by omega), e2 c (by omega) 9 (by omega), e2 c (by omega) 14 (by omega), e2 c (by omega) 13 (by omega)]
    exact h6 b c hb hc
theorem zHC.same {I X : Nat → Nat → Int32} {β B : Nat} (h : zHC I β B) (e : ∀ a, β ≤ a → a < β + 12 → X a = I a) : zHC X β B :=
  h.cg (fun f _ => by rw [e β (by omega) (by omega)]) (fun b hb f _ => by rw [e (cB β b) (by unfold cB; omega) (by unfold cB; omega)])
theorem Bd.up {x y : Int32} {B : Nat} (h : Bd x 0 B) (e : y = x ∨ y = x + 1) : Bd y 0 (B + 1) := by
  obtain ⟨v, rfl, h1, h2⟩ := h
  rcases e with rfl | rfl
  · exact ⟨v, rfl, by omega, by omega⟩
  · exact ⟨v + 1, pi_add v 1, by omega, by omega⟩
theorem tn_nI {v : Nat} (h : v < 2147483648) : tn (nI v) = v := pi_tn h
/-- one flight -/
theorem zFE.hc {I I' : Nat → Nat → Int32} {β n b B : Nat} {s' : Nat → Int32} (hn : n ≤ 8) (hb : b < n) (h : zFE β (cB β b) I I') (hB2 : B < 1000000000) (h5 : I β 5 = 1) (ht : 1 ≤ tn (I β 6)) (h1 : I (cB β b) 9 = 1) (hg : zHG I β B) (hh : zHB I β n) (hR' : R I' β s' n) (hw' : WX s' n) : zHG I' β (B + 1) ∧ zHB I' β n := by
  obtain ⟨f1, f2, f9, f10, f11, x, y, f4, f4', fx, fxy, fy, f5, f8, fc⟩ := h
  obtain ⟨g5, g6, g7, g9, g10, g11, g12, g13, gw, gr⟩ := hg
  obtain ⟨b8, bb, bm⟩ := hh
  have hne : cB β b ≠ β := cB_ne
  have e5 := f2 5 (by omega)
  have e6 := f2 6 (by omega)
  have e12 := f2 12 (by omega)
  have o : ∀ c, c < n → c ≠ b → I' (cB β c) = I (cB β c) := fun c hc hcb => f1 _ cB_ne (cB_inj hcb)
  have k7 := g7.e (by omega)
  have k6 := g6.e (by omega)
  have k13 := g13.e (by omega)
  have hc8 := cnt3_le s' n
  have k7' : I' β 7 = nI (cnt3 s' n) := hR'.1.2.2.2.1.trans hw'.a.1
  have hsum : I' β 8 = sC I' β n := by
    rw [f8, b8]
    refine (sC_up hb (fun k hk hkb => by rw [o k hk hkb]) ?_).symm
    rw [f4', f4, pi_add]; congr 1; omega
  have hsp : Bd (I' (cB β b) 5) 0 42 := ⟨y - x, f5, by omega, by omega⟩
  rcases fc with ⟨c9, c13, c14, c7, cy, c13'⟩ | ⟨c7, c13', c9⟩
  · have hw7 : tn (I' β 7) = tn (I β 7) + 1 := by
      have : I' β 7 = nI (tn (I β 7) + 1) := by rw [c7]; exact (congrArg (fun z => z + (1 : Int32)) k7.1).trans (pi_add _ 1)
      rw [this, tn_nI (by omega)]
    have h70 : ¬ (I' β 5 = 1 ∧ I' β 7 = 0) := fun e => by
      have := congrArg tn e.2
      rw [hw7, show tn (0 : Int32) = 0 from rfl] at this; omega
    refine ⟨⟨Or.inr (e5.trans h5), by rw [e6]; exact g6.le (Nat.le_refl _) (by omega), ⟨_, k7', by omega, by omega⟩, g9.up f9, g10.up f10, g11.up f11, by rw [e12]; exact g12.le (Nat.le_refl _) (by omega), g13.up (c13'.imp id (fun z => z.2)), ?_, fun _ => by rw [e12]; exact gr h5⟩, hsum, fun c hc => ?_, fun c d hc hd s1 s2 hlt => ?_⟩
    · rw [if_neg h70, e12]
      rcases c13' with e | ⟨e7, e⟩
      · rw [e]; omega
      · rw [if_pos ⟨h5, e7⟩] at gw
        have : I' β 13 = nI (tn (I β 13) + 1) := by rw [e]; exact (congrArg (fun z => z + (1 : Int32)) k13.1).trans (pi_add _ 1)
        rw [this, tn_nI (by omega)]; omega
    · by_cases ec : c = b
      · subst ec
        refine ⟨hsp, fun _ => ⟨?_, ?_, tn (I β 7), by omega, c13.trans k7.1⟩⟩
        · rw [c14, e6]; exact ⟨tn (I β 6), k6.1, ht, Nat.le_refl _⟩
        · rw [f4', tn_nI (by omega)]; exact cy
      · rw [o c hc ec, e6]
        obtain ⟨p1, p2⟩ := bb c hc
        refine ⟨p1, fun z => ?_⟩
        obtain ⟨q1, q2, k, q3, q4⟩ := p2 z
        exact ⟨q1, q2, k, by omega, q4⟩
    · by_cases ec : c = b
      · by_cases ed : d = b
        · subst ec; subst ed; omega
        · subst ec
          rw [o d hd ed] at s2 hlt ⊢
          obtain ⟨-, p2⟩ := bb d hd
          obtain ⟨-, -, k, q3, q4⟩ := p2 s2
          rw [c13, q4, tn_nI (by omega)] at hlt
          omega
      · by_cases ed : d = b
        · subst ed
          rw [o c hc ec] at s1 hlt ⊢
          obtain ⟨-, p2⟩ := bb c hc
          obtain ⟨q1, -⟩ := p2 s1
          rw [c14]
          exact (q1.e (by omega)).2.2
        · rw [o c hc ec, o d hd ed] at *
          exact bm c d hc hd s1 s2 hlt
  · have hst : ¬ (I' (cB β b) 9 = 3) := by
      rcases c9 with e | e
      · rw [e, h1]; decide
      · rw [e]; decide
    refine ⟨⟨Or.inr (e5.trans h5), by rw [e6]; exact g6.le (Nat.le_refl _) (by omega), by rw [c7]; exact g7, g9.up f9, g10.up f10, g11.up f11, by rw [e12]; exact g12.le (Nat.le_refl _) (by omega), by rw [c13']; exact g13.le (Nat.le_refl _) (by omega), by rw [c13', e5, c7, e12]; exact gw, fun _ => by rw [e12]; exact gr h5⟩, hsum, fun c hc => ?_, fun c d hc hd s1 s2 hlt => ?_⟩
    · by_cases ec : c = b
      · subst ec
        exact ⟨hsp, fun z => absurd z hst⟩
      · rw [o c hc ec, e6, c7]
        exact bb c hc
    · by_cases ec : c = b
      · subst ec; exact absurd s1 hst
      · by_cases ed : d = b
        · subst ed; exact absurd s2 hst
        · rw [o c hc ec] at s1 hlt ⊢
          rw [o d hd ed] at s2 hlt ⊢
          exact bm c d hc hd s1 s2 hlt
/-- how far all have flown only grows -/
def zFM (β n : Nat) (I I' : Nat → Nat → Int32) : Prop := ∀ b, b < n → tn (I (cB β b) 4) ≤ tn (I' (cB β b) 4)
theorem zFM.tr {β n : Nat} {I I' I2 : Nat → Nat → Int32} (h : zFM β n I I') (g : zFM β n I' I2) : zFM β n I I2 := fun b hb => Nat.le_trans (h b hb) (g b hb)
theorem zFE.fm {I I' : Nat → Nat → Int32} {β n b : Nat} (h : zFE β (cB β b) I I') : zFM β n I I' := by
  obtain ⟨f1, f2, f9, f10, f11, x, y, f4, f4', fx, fxy, fy, _⟩ := h
  intro c hc
  by_cases e : c = b
  · subst e; rw [f4, f4', tn_nI (by omega), tn_nI (by omega)]; exact fxy
  · rw [f1 _ cB_ne (cB_inj e)]; exact Nat.le_refl _
/-- a change of one sparrow's cell that tells nothing of its way -/
theorem zHB.small {I X : Nat → Nat → Int32} {β n b : Nat} (hb : b < n) (h : zHB I β n) (h1 : ∀ a, a ≠ cB β b → X a = I a) (h2 : ∀ f, (f = 4 ∨ f = 13 ∨ f = 14) → X (cB β b) f = I (cB β b) f) (h3 : Bd (X (cB β b) 5) 0 42) (h4 : X (cB β b) 9 = 3 → I (cB β b) 9 = 3) : zHB X β n := by
  obtain ⟨b8, bb, bm⟩ := h
  have e : X β = I β := h1 β (fun e => cB_ne e.symm)
  have o : ∀ c, c ≠ b → X (cB β c) = I (cB β c) := fun c hc => h1 _ (cB_inj hc)
  have st : ∀ c, X (cB β c) 9 = 3 → I (cB β c) 9 = 3 := fun c z => by
    by_cases ec : c = b
    · subst ec; exact h4 z
    · rw [o c ec] at z; exact z
  have f : ∀ c f, (f = 4 ∨ f = 13 ∨ f = 14) → X (cB β c) f = I (cB β c) f := fun c f hf => by
    by_cases ec : c = b
    · subst ec; exact h2 f hf
    · rw [o c ec]
  refine ⟨?_, fun c hc => ?_, fun c d hc hd s1 s2 hlt => ?_⟩
  · rw [e, b8]; exact (sC_cg (fun k hk => f k 4 (by omega))).symm
  · rw [e, f c 14 (by omega), f c 4 (by omega), f c 13 (by omega)]
    refine ⟨?_, fun z => (bb c hc).2 (st c z)⟩
    by_cases ec : c = b
    · subst ec; exact h3
    · rw [o c ec]; exact (bb c hc).1
  · rw [f c 13 (by omega), f d 13 (by omega)] at hlt
    rw [f c 14 (by omega), f d 14 (by omega)]
    exact bm c d hc hd (st c s1) (st d s2) hlt
theorem zHG.cg {I X : Nat → Nat → Int32} {β B : Nat} (e : X β = I β) (h : zHG I β B) : zHG X β B := by
  unfold zHG; rw [e]; exact h
/-- one sparrow's turn -/
theorem turn_hc {I I' : Nat → Nat → Int32} {β n b B : Nat} {s s' : Nat → Int32} (hB : IsB β) (hw : WX s n) (hb : b < n) (hR : R I β s n) (hZ : RZ I β) (h : (hopt (some (cB β b)) (some I) fun n20 => hk n20 6 <| (f_X6_startsTurnFlying n20 I).bind fun (r22, I21) => if r22 = 0 then some I21 else (f_X3_fly β n20 I21).bind fun I24 => some I24) = some I') (hB2 : B < 1000000000) (h5 : I β 5 = 1) (ht : 1 ≤ tn (I β 6)) (hg : zHG I β B) (hh : zHB I β n) (hR' : R I' β s' n) (hw' : WX s' n) : zHG I' β (B + 1) ∧ zHB I' β n ∧ zFM β n I I' ∧ I' β 5 = 1 := by
  have hn := hw.1.2
  have hne : cB β b ≠ β := cB_ne
  rw [hopt_e2] at h
  obtain ⟨-, h⟩ := hk_some h
  obtain ⟨⟨r22, I21⟩, hs, h⟩ := hb_some h
  unfold f_X6_startsTurnFlying at hs
  simp only [hlet_e] at hs
  have c0 : gup I (cB β b) 5 0 (cB β b) 9 = I (cB β b) 9 := gup_i (by omega)
  rw [c0] at hs
  have small : ∀ X : Nat → Nat → Int32, (∀ a, a ≠ cB β b → X a = I a) → (∀ f, (f = 4 ∨ f = 13 ∨ f = 14) → X (cB β b) f = I (cB β b) f) → X (cB β b) 5 = 0 → (X (cB β b) 9 = 3 → I (cB β b) 9 = 3) → zHG X β (B + 1) ∧ zHB X β n ∧ zFM β n I X ∧ X β 5 = 1 := by
    intro X x1 x2 x3 x4
    have e : X β = I β := x1 β (fun e => cB_ne e.symm)
    refine ⟨zHG.cg e (hg.le (by omega)), hh.small hb x1 x2 (by rw [x3]; exact ⟨0, rfl, by omega, by omega⟩) x4, fun c hc => ?_, by rw [e]; exact h5⟩
    by_cases ec : c = b
    · subst ec; rw [x2 4 (by omega)]; exact Nat.le_refl _
    · rw [x1 _ (cB_inj ec)]; exact Nat.le_refl _
  by_cases e1 : I (cB β b) 9 = 1
  · rw [if_pos e1] at hs
    simp only [Option.bind_some] at hs
    rw [if_neg (show ¬ (I (cB β b) 9 = 2) by rw [e1]; decide)] at hs
    simp only [show gz (1 : Int32) = true by decide, hg_t, Option.some.injEq, Prod.mk.injEq] at hs
    obtain ⟨rfl, rfl⟩ := hs
    simp only [show ¬ ((1 : Int32) = 0) by decide, if_false] at h
    obtain ⟨I24, hf, h⟩ := hb_some h
    obtain rfl := Option.some.inj h
    have hR1 : R (gup I (cB β b) 5 0) β (wpd s (16 * b + 8) 0) n := R_bird hn hw.a.2 hb (by unfold bPair; omega) hR
    have hw1 : WX (wpd s (16 * b + 8) 0) n := WX_bird hb (by unfold okv; right; right; right; right; right; right; right; right; left; rfl) hw
    have hZ1 : RZ (gup I (cB β b) 5 0) β := RZ_keep (Or.inl ⟨by omega, by omega⟩) hZ
    have hfe := fly_fe hB hw1 hb hR1 hZ1 hf
    have eb : gup I (cB β b) 5 0 β = I β := gup_ne (fun e => hne e.symm)
    have hh1 : zHB (gup I (cB β b) 5 0) β n := hh.small hb (fun a ha => gup_ne ha) (fun f hf => gup_i (by omega)) (by rw [gup_at]; exact ⟨0, rfl, by omega, by omega⟩) (fun z => by rw [c0] at z; exact z)
    obtain ⟨q1, q2⟩ := hfe.hc hn hb hB2 (by rw [eb]; exact h5) (by rw [eb]; exact ht) (by rw [c0]; exact e1) (zHG.cg eb hg) hh1 hR' hw'
    refine ⟨q1, q2, fun c hc => ?_, ?_⟩
    · have := hfe.fm (n := n) c hc
      have e5 : gup I (cB β b) 5 0 (cB β c) 4 = I (cB β c) 4 := by
        by_cases ec : c = b
        · subst ec; exact gup_i (by omega)
        · rw [gup_ne (cB_inj ec)]
      rw [e5] at this
      exact this
    · rw [hfe.2.1 5 (by omega), eb]; exact h5
  · rw [if_neg e1] at hs
    simp only [Option.bind_some] at hs
    by_cases e2 : I (cB β b) 9 = 2
    · rw [if_pos e2] at hs
      obtain ⟨p4, h4, hs⟩ := hb_some hs
      simp only [show gz (0 : Int32) = true by decide, hg_t, Option.some.injEq, Prod.mk.injEq] at hs
      obtain ⟨rfl, rfl⟩ := hs
      simp only [eq_self, if_true] at h
      obtain rfl := Option.some.inj h
      have hp : p4 ≠ 3 := by
        split at h4 <;> (obtain rfl := Option.some.inj h4; decide)
      refine small _ (fun a ha => by rw [gup_ne ha, gup_ne ha, gup_ne ha]) (fun f hf => by rw [gup_i (by omega), gup_i (by omega), gup_i (by omega)]) (by rw [gup_i (by omega), gup_i (by omega), gup_at]) (fun z => by rw [gup_at] at z; exact absurd z hp)
    · rw [if_neg e2] at hs
      simp only [show gz (0 : Int32) = true by decide, hg_t, Option.some.injEq, Prod.mk.injEq] at hs
      obtain ⟨rfl, rfl⟩ := hs
      simp only [eq_self, if_true] at h
      obtain rfl := Option.some.inj h
      exact small _ (fun a ha => gup_ne ha) (fun f hf => gup_i (by omega)) gup_at (fun z => by rw [c0] at z; exact z)
