def bv (v : Int32) : Int64 := if v = 0 then 0 else 1
def OPBb (Lf : (Nat → Nat → Int32) → (Nat → Nat → Option Nat) → (Nat → Nat → Int64) → Option (Int32 × (Nat → Nat → Int32) × (Nat → Nat → Option Nat) × (Nat → Nat → Int64))) (Mf : (Nat → Nat → Int32) → Option (Int32 × (Nat → Nat → Int32))) : Prop :=
  ∀ I O J K, Inv2 I K O → ∃ I' O' K', Inv2 I' K' O' ∧ (∀ a, 129 ≤ a → I' a = I a) ∧ (∀ a, a < 129 → K' a = K a) ∧
    ((∃ v : Int32, Lf I O J = some (0, I', O', gup J 137 0 (bv v)) ∧ Mf K = some (v, K') ∧ K' 129 8 = 0) ∨
     (∃ c r : Int32, c ≠ 0 ∧ Lf I O J = some (c, I', O', J) ∧ Mf K = some (r, K') ∧ K' 129 8 = c))
theorem op_nob {Lf : (Nat → Nat → Int32) → (Nat → Nat → Option Nat) → (Nat → Nat → Int64) → Option (Int32 × (Nat → Nat → Int32) × (Nat → Nat → Option Nat) × (Nat → Nat → Int64))} {Mf : (Nat → Nat → Int32) → Option (Int32 × (Nat → Nat → Int32))} {I K : Nat → Nat → Int32} {O : Nat → Nat → Option Nat} {J : Nat → Nat → Int64} (h : Inv2 I K O) {c r : Int32} (hc : c ≠ 0) (h1 : Lf I O J = some (c, I, O, J)) (h2 : Mf K = some (r, gup K 129 8 c)) :
    ∃ I' O' K', Inv2 I' K' O' ∧ (∀ a, 129 ≤ a → I' a = I a) ∧ (∀ a, a < 129 → K' a = K a) ∧
    ((∃ v : Int32, Lf I O J = some (0, I', O', gup J 137 0 (bv v)) ∧ Mf K = some (v, K') ∧ K' 129 8 = 0) ∨
     (∃ c r : Int32, c ≠ 0 ∧ Lf I O J = some (c, I', O', J) ∧ Mf K = some (r, K') ∧ K' 129 8 = c)) :=
  ⟨I, O, gup K 129 8 c, Inv2_K (K := K) (fun a ha => gup_ne (by omega)) (gup_i (by omega)) (gup_i (by omega)) h, fun _ _ => rfl, fun a ha => gup_ne (by omega), Or.inr ⟨c, r, hc, h1, h2, gup_at⟩⟩
theorem RR_call {I : Nat → Nat → Int32} {β n b : Nat} {s : Nat → Int32} {v : Int32} (hb : b < n) (hv : v = 0 ∨ v = 1) (h : RR I β s n) : RR (gup I (cB β b) 11 v) β (wpd s (16 * b + 9) v) n := by
  obtain ⟨hR, hZ, h6, hw, hr, hl⟩ := h
  have hn := hw.1.2
  have hc : cnt3 (wpd s (16 * b + 9) v) n = cnt3 s n := cnt3_far (fun c hc => by rw [wpd_ne (by omega)])
  have hbd : Bd v 0 1 := by
    rcases hv with rfl | rfl
    · exact ⟨0, rfl, by omega, by omega⟩
    · exact ⟨1, rfl, by omega, by omega⟩
  refine ⟨R_bird hn hw.a.2 hb (by unfold bPair; omega) hR, RZ_call (by rcases hv with rfl | rfl <;> decide) hZ, by rw [gup_n (fun c => cB_ne c.symm), wpd_ne (by omega)]; exact h6, WX_bird hb (by unfold okv; right; right; right; right; right; right; right; right; right; left; exact ⟨rfl, hbd⟩) hw, fun e c hc h3 => ?_, fun e => ?_⟩
  · rw [wpd_ne (by omega)] at e h3 ⊢
    rw [wpd_ne (show 133 ≠ 16 * b + 9 by omega)]; exact hr e c hc h3
  · rw [wpd_ne (by omega)] at e; rw [hc]; exact hl e
theorem op_callIn (a : Int32) : OPBb (f_W_callIn a) (f_X8_callIn a) := by
  intro I O J K h
  have hh := h
  obtain ⟨n0, _, len, h1, _⟩ := hh
  have hn := h1.2.2.2.1.1.2
  rcases known_e (I := I) (K := K) (n := n0) a (h1.1.1.1.trans h1.2.2.2.1.1.1) h1.2.2.2.1.1.1 hn with ⟨b, hb, rfl, e1, e2⟩ | ⟨e1, e2⟩
  · have h9 : I (cB 1 b) 9 = K 130 (16 * b + 6) := (h1.1.2.2.1 b hb).2.2.2.2.2.2.2.2.1
    have hs := sk_b (β := 1) (b := b) (Or.inl rfl) (by omega)
    by_cases c3 : K 130 (16 * b + 6) = 3
    · refine op_nob h (c := 2) (r := 0) (by decide) ?_ ?_
      · unfold f_W_callIn f_X7_callIn
        rw [e1]
        simp only [Option.bind_some, hsum]
        rw [hk_e hs, if_pos (by rw [h9]; exact c3)]; rfl
      · unfold f_X8_callIn
        rw [e2]
        simp only [Option.bind_some, show ¬ ((1 : Int32) = 0) by decide, if_false]
        rw [x8_isOver (by omega), if_pos c3]; rfl
    · obtain ⟨n, I1, O1, K1, a1, a2, a3, a4, a5, a6, a7, a8, a9⟩ := sv_step h
      have hnn : n = n0 := by
        have e3 := a3.2.2.2.1.1.1
        rw [a6, h1.2.2.2.1.1.1, pi_eq (by omega) (by have := a3.2.2.2.1.1.2; omega)] at e3
        exact e3.symm
      subst hnn
      have hcd := bd1_c ((a3.2.2.2.1.2.1 b hb).2.2.2.2.2.2.2.2.1)
      have h11 : I1 (cB 1 b) 11 = K1 130 (16 * b + 9) := (a3.1.2.2.1 b hb).2.2.2.2.2.2.2.2.2.2.1
      have hx : ∃ x : Int32, (x = 0 ∨ x = 1) ∧ (if I1 (cB 1 b) 11 = 0 then some (1 : Int32) else some (0 : Int32)) = some x ∧ (1 : Int32) - K1 130 (16 * b + 9) = x := by
        rw [h11]
        rcases hcd with hc | hc
        · rw [hc]; exact ⟨1, Or.inr rfl, if_pos rfl, by decide⟩
        · rw [hc]; exact ⟨0, Or.inl rfl, if_neg (by decide), by decide⟩
      obtain ⟨x, hx1, hx2, hx3⟩ := hx
      have hgz : gz x = true := by rcases hx1 with rfl | rfl <;> decide
      have hR2 : RR (gup I1 (cB 1 b) 11 x) 1 (gup K1 130 (16 * b + 9) x 130) n := by rw [wpd_gup]; exact RR_call hb hx1 a3
      have z13 : RZ (gup I1 (cB 1 b) 11 x) 13 := RZ_I (fun a h1 h2 => gup_ne (by unfold cB; omega)) (ZZ13 a4)
      refine ⟨gup I1 (cB 1 b) 11 x, O1, gup K1 130 (16 * b + 9) x, Inv2_now a4 (fun a h1 h2 => gup_ne (by unfold cB; omega)) z13 hR2 (fun a h1 h2 => gup_ne (by omega)) (gup_n (by omega)) (gup_n (by omega)) rfl, fun a ha => (gup_ne (by unfold cB; omega)).trans (a8 a ha), fun a ha => (gup_ne (by omega)).trans (a9 a ha), Or.inl ⟨x, ?_, ?_, by rw [gup_n (by omega)]; exact a5⟩⟩
      · unfold f_W_callIn f_X7_callIn
        rw [e1]
        simp only [Option.bind_some, hsum]
        rw [hk_e hs, if_neg (by rw [h9]; exact c3), a1]
        simp only [Option.bind_some]
        rw [hx2]
        simp only [Option.bind_some]
        rw [hgz, hg_t, hlet_e, gup_at, hgz, hg_t]
        simp only [Option.bind_some]
        have e9 : (if x = 0 then some (0 : Int64) else some (1 : Int64)) = some (bv x) := by unfold bv; split <;> rfl
        rw [e9]
        simp only [Option.bind_some, hlet_e]
        rw [t0']
      · unfold f_X8_callIn f_X8_calls
        rw [e2]
        simp only [Option.bind_some, show ¬ ((1 : Int32) = 0) by decide, if_false]
        rw [x8_isOver (by omega), if_neg c3]
        simp only [Option.bind_some, if_true]
        rw [ref0]
        simp only [Option.bind_some, if_true]
        rw [a2]
        simp only [Option.bind_some]
        have o9 : ∀ X : Nat → Nat → Int32, f_X8_of (nI b) (9 : Int32) X = some (X 130 (16 * b + 9)) := fun X => x8_of (f := 9) (by omega) (by omega)
        rw [o9]
        simp only [Option.bind_some]
        rw [show gin ((16 : Int32) * nI b + (9 : Int32)) 151 = true from ixg (g := 9) (by omega) (by omega), hg_t, show ((16 : Int32) * nI b + (9 : Int32)).toNatClampNeg = 16 * b + 9 from ix (g := 9) (by omega) (by omega), hlet_e, hx3, o9, gup_at]
        simp only [Option.bind_some]
        rcases hx1 with rfl | rfl
        · rw [if_neg (by decide)]
        · rw [if_pos rfl]
  · refine op_nob h (c := 1) (r := 0) (by decide) ?_ ?_
    · unfold f_W_callIn f_X7_callIn
      rw [e1]; rfl
    · unfold f_X8_callIn
      rw [e2]; rfl
section CS
variable {SL' : Nat} {sx : Nat → Int32} {p4 : Int32} {I : Nat → Nat → Int32} {O : Nat → Nat → Option Nat} {J : Nat → Nat → Int64}
end CS
