def free (s : Nat → Int32) (n b : Nat) (lane : Int32) (m : Nat) : Prop := ∀ k, k < m → wy s n b lane k → 3 < gD s k b ∧ gD s k b < 397
theorem x8_isFree {I : Nat → Nat → Int32} {n b : Nat} {lane : Int32} (h : FL (I 130) n) (hb : b < n) : ∃ v, f_X8_isFree (nI b) lane I = some v ∧ ((v = 1 ∧ free (I 130) n b lane n) ∨ (v = 0 ∧ ¬ free (I 130) n b lane n)) := by
  obtain ⟨h1, h2, h3⟩ := h
  have := loop_go (fun fuel k (st : Unit) => f_X8_isFree_L2 (nI b) lane I fuel k) n (fun k st => free (I 130) n b lane k) (fun v => (v = 1 ∧ free (I 130) n b lane n) ∨ (v = 0 ∧ ¬ free (I 130) n b lane n)) ?_ FU 0 () (by omega) (fun k hk => absurd hk (by omega)) (by unfold FU; omega)
  · exact this
  · rintro k st hk hP
    rcases Nat.lt_or_ge k n with hkn | hkn
    · have hk8 : k < 8 := by omega
      have hb8 : b < 8 := by omega
      have ek := h3 k hkn
      have eb := h3 b hb
      have ea := x8_ahead hk8 hb8 ek.2 eb.2 ek.1 eb.1
      have hnle : ¬ (nI n ≤ nI k) := by rw [pi_le (by omega) (by omega)]; omega
      have hdb := dN_b (fl (I 130) k) (fl (I 130) b)
      have ha4 : aN (fl (I 130) k) (fl (I 130) b) < 400 := by unfold aN; split <;> omega
      have unf : ∀ fuel, f_X8_isFree_L2 (nI b) lane I (fuel+1) (nI k) = (if k = b then f_X8_isFree_L2 (nI b) lane I fuel (nI (k+1)) else if ¬ I 130 (16 * k + 6) = 1 then f_X8_isFree_L2 (nI b) lane I fuel (nI (k+1)) else if I 130 (16 * k + 5) = lane then if aN (fl (I 130) k) (fl (I 130) b) ≤ 3 then some 0 else if aN (fl (I 130) k) (fl (I 130) b) < 397 then f_X8_isFree_L2 (nI b) lane I fuel (nI (k+1)) else some 0 else f_X8_isFree_L2 (nI b) lane I fuel (nI (k+1))) := by
        intro fuel
        rw [f_X8_isFree_L2, t128, h1, if_neg hnle, ea]
        simp only [Option.bind_some, hlet_e]
        rw [show nI k + 1 = nI (k + 1) from pi_add k 1, show (3 : Int32) = nI 3 from rfl, show (397 : Int32) = nI 397 from rfl, show (5 : Int32) = nI 5 from rfl]
        simp only [x8_flies hk8, x8_of hk8 (show 5 < 16 by omega), Option.bind_some, i32_ne, pi_eq (show k < 2147483648 by omega) (show b < 2147483648 by omega), pi_le (show aN (fl (I 130) k) (fl (I 130) b) < 2147483648 by omega) (show 3 < 2147483648 by omega), pi_lt (show aN (fl (I 130) k) (fl (I 130) b) < 2147483648 by omega) (show 397 < 2147483648 by omega)]
      by_cases hw : wy (I 130) n b lane k
      · obtain ⟨_, w2, w3, w4⟩ := id hw
        by_cases hd : 3 < gD (I 130) k b ∧ gD (I 130) k b < 397
        · right
          refine ⟨hkn, (), fun q hq hy => (lt_succ'.mp hq).elim (fun hq => hP q hq hy) (fun e => e ▸ hd), fun fuel => ?_⟩
          show f_X8_isFree_L2 (nI b) lane I (fuel+1) (nI k) = _
          have e : aN (fl (I 130) k) (fl (I 130) b) = gD (I 130) k b := by
            unfold aN; rw [if_neg (by unfold gD at hd; omega)]; rfl
          rw [unf, if_neg w2, if_neg (fun c => c w3), if_pos w4, e, if_neg (by omega), if_pos hd.2]
        · left
          refine ⟨0, fun fuel => ?_, Or.inr ⟨rfl, fun hf => hd (hf k hkn hw)⟩⟩
          show f_X8_isFree_L2 (nI b) lane I (fuel+1) (nI k) = _
          rw [unf, if_neg w2, if_neg (fun c => c w3), if_pos w4]
          unfold gD at hd
          unfold aN
          by_cases c : dN (fl (I 130) k) (fl (I 130) b) = 400
          · rw [if_pos c]; rfl
          · rw [if_neg c]
            by_cases c2 : dN (fl (I 130) k) (fl (I 130) b) ≤ 3
            · rw [if_pos c2]
            · rw [if_neg c2, if_neg (by omega)]
      · right
        refine ⟨hkn, (), fun q hq hy => (lt_succ'.mp hq).elim (fun hq => hP q hq hy) (fun e => absurd (e ▸ hy) hw), fun fuel => ?_⟩
        show f_X8_isFree_L2 (nI b) lane I (fuel+1) (nI k) = _
        rw [unf]
        by_cases c1 : k = b
        · rw [if_pos c1]
        · rw [if_neg c1]
          by_cases c2 : I 130 (16 * k + 6) = 1
          · rw [if_neg (fun c => c c2), if_neg (fun c3 => hw ⟨hkn, c1, c2, c3⟩)]
          · rw [if_pos c2]
    · left
      have : k = n := by omega
      subst this
      refine ⟨1, fun fuel => ?_, Or.inl ⟨rfl, hP⟩⟩
      show f_X8_isFree_L2 (nI b) lane I (fuel+1) (nI k) = _
      rw [f_X8_isFree_L2, t128, h1, if_pos (by rw [pi_le (by omega) (by omega)]; omega)]
theorem x3_mayChangeLane {I : Nat → Nat → Int32} {β n b : Nat} {s : Nat → Int32} (h : QR I β s n) (hb : b < n) : ∃ v, f_X3_mayChangeLane β (cB β b) I = some v ∧ ((v = 1 ∧ pN (fl s b) < 4 ∧ free s n b (1 - s (16 * b + 5)) n) ∨ (v = 0 ∧ ¬ (pN (fl s b) < 4 ∧ free s n b (1 - s (16 * b + 5)) n))) := by
  have hh := h
  obtain ⟨h1, h2, h3, h4, h5, h6, h7⟩ := hh
  have hl := (h4 b hb).2.2.2.2.2.2.2.1
  have hpb := pN_b (fl s b)
  unfold f_X3_mayChangeLane
  rw [x6_partOfCourse (h7 b hb).2 ((h4 b hb).2.2.2.1.trans (h7 b hb).1)]
  simp only [Option.bind_some]
  by_cases c4 : pN (fl s b) < 4
  · rw [if_pos (by rw [show (4 : Int32) = nI 4 from rfl, pi_lt (by omega) (by omega)]; exact c4)]
    have := loop_go (fun fuel k (st : Unit) => f_X3_mayChangeLane_L21 β (cB β b) I fuel k) 8 (fun k st => free s n b (1 - s (16 * b + 5)) k) (fun v => (v = 1 ∧ pN (fl s b) < 4 ∧ free s n b (1 - s (16 * b + 5)) n) ∨ (v = 0 ∧ ¬ (pN (fl s b) < 4 ∧ free s n b (1 - s (16 * b + 5)) n))) ?_ FU 0 () (by omega) (fun k hk => absurd hk (by omega)) (by unfold FU; omega)
    · exact this
    · rintro k st hk hP
      rcases Nat.lt_or_ge k 8 with hk8 | hk8
      · have hnle : ¬ ((8 : Int32) ≤ nI k) := by rw [show (8 : Int32) = nI 8 from rfl, pi_le (by omega) (by omega)]; omega
        have hgin : gin (nI k) 8 = true := by rw [pi_gin (by omega)]; exact decide_eq_true hk8
        have htn : β + 1 + 3 + (nI k).toNatClampNeg = cB β k := by rw [pi_tn (by omega)]; rfl
        by_cases hw : wy s n b (1 - s (16 * b + 5)) k
        · have hdk := dN_b (fl s k) (fl s b)
          have hdk2 : gD s k b ≤ 400 := hdk.2
          have unf : ∀ fuel, f_X3_mayChangeLane_L21 β (cB β b) I (fuel+1) (nI k) = if gD s k b ≤ 3 then some 0 else if gD s k b < 397 then f_X3_mayChangeLane_L21 β (cB β b) I fuel (nI (k+1)) else some 0 := by
            intro fuel
            rw [f_X3_mayChangeLane_L21, if_neg hnle, hgin, hg_t, htn, hl, x3_way h hb hk8 hw]
            simp only [Option.bind_some, hlet_e, show ¬ ((1 : Int32) = 0) by decide, if_false, h.fb hb hw.1]
            rw [show nI k + 1 = nI (k + 1) from pi_add k 1, show (3 : Int32) = nI 3 from rfl, show (397 : Int32) = nI 397 from rfl]
            simp only [pi_le (show gD s k b < 2147483648 by omega) (show 3 < 2147483648 by omega), pi_lt (show gD s k b < 2147483648 by omega) (show 397 < 2147483648 by omega)]
          by_cases hd : 3 < gD s k b ∧ gD s k b < 397
          · right
            refine ⟨hk8, (), fun q hq hy => (lt_succ'.mp hq).elim (fun hq => hP q hq hy) (fun e => e ▸ hd), fun fuel => ?_⟩
            show f_X3_mayChangeLane_L21 β (cB β b) I (fuel+1) (nI k) = _
            rw [unf, if_neg (by omega), if_pos hd.2]
          · left
            refine ⟨0, fun fuel => ?_, Or.inr ⟨rfl, fun hf => hd (hf.2 k hw.1 hw)⟩⟩
            show f_X3_mayChangeLane_L21 β (cB β b) I (fuel+1) (nI k) = _
            rw [unf]
            by_cases c2 : gD s k b ≤ 3
            · rw [if_pos c2]
            · rw [if_neg c2, if_neg (by omega)]
        · right
          refine ⟨hk8, (), fun q hq hy => (lt_succ'.mp hq).elim (fun hq => hP q hq hy) (fun e => absurd (e ▸ hy) hw), fun fuel => ?_⟩
          show f_X3_mayChangeLane_L21 β (cB β b) I (fuel+1) (nI k) = _
          rw [f_X3_mayChangeLane_L21, if_neg hnle, hgin, hg_t, htn, hl, x3_nway h hb hk8 hw]
          simp only [Option.bind_some, hlet_e, if_true]
          rw [show nI k + 1 = nI (k + 1) from pi_add k 1]
      · left
        have : k = 8 := by omega
        subst this
        refine ⟨1, fun fuel => ?_, Or.inl ⟨rfl, c4, fun q hq hy => hP q (by omega) hy⟩⟩
        show f_X3_mayChangeLane_L21 β (cB β b) I (fuel+1) (nI 8) = _
        rw [f_X3_mayChangeLane_L21, if_pos (by rw [show (8 : Int32) = nI 8 from rfl, pi_le (by omega) (by omega)]; omega)]
  · rw [if_neg (by rw [show (4 : Int32) = nI 4 from rfl, pi_lt (by omega) (by omega)]; exact c4)]
    exact ⟨0, rfl, Or.inr ⟨rfl, fun c => c4 c.1⟩⟩
theorem GP_NX {s : Nat → Int32} {n b g : Nat} {lane : Int32} {r : Option Nat} (hn : n ≤ 8) (hG : GP s n b lane n g) (hN : NX s n b lane 8 r) : g = match r with | none => 0 | some j => gD s j b := by
  cases r with
  | none =>
    rcases hG with ⟨h, _⟩ | ⟨j, h1, h2, _⟩
    · exact h
    · exact absurd h2 (hN j (by omega))
  | some j =>
    rcases hG with ⟨_, h⟩ | ⟨i, h1, h2, h3, h4⟩
    · exact absurd hN.2.1 (h j hN.2.1.1)
    · have a := h4 j hN.2.1.1 hN.2.1
      have c := hN.2.2.1 i (by omega) h2
      show g = gD s j b
      omega
