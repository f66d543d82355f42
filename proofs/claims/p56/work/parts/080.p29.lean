def OPB (Lf : (Nat → Nat → Int32) → (Nat → Nat → Option Nat) → (Nat → Nat → Int64) → Option (Int32 × (Nat → Nat → Int32) × (Nat → Nat → Option Nat) × (Nat → Nat → Int64))) (Mf : (Nat → Nat → Int32) → Option (Int32 × (Nat → Nat → Int32))) : Prop :=
  ∀ I O J K, Inv2 I K O → ∃ I' O' K', Inv2 I' K' O' ∧ (∀ a, 129 ≤ a → I' a = I a) ∧ (∀ a, a < 129 → K' a = K a) ∧
    ((∃ v : Int32, Lf I O J = some (0, I', O', gup J 137 0 v.toInt64) ∧ Mf K = some (v, K') ∧ K' 129 8 = 0) ∨
     (∃ c r : Int32, c ≠ 0 ∧ Lf I O J = some (c, I', O', J) ∧ Mf K = some (r, K') ∧ K' 129 8 = c))
theorem op_no {Lf : (Nat → Nat → Int32) → (Nat → Nat → Option Nat) → (Nat → Nat → Int64) → Option (Int32 × (Nat → Nat → Int32) × (Nat → Nat → Option Nat) × (Nat → Nat → Int64))} {Mf : (Nat → Nat → Int32) → Option (Int32 × (Nat → Nat → Int32))} {I K : Nat → Nat → Int32} {O : Nat → Nat → Option Nat} {J : Nat → Nat → Int64} (h : Inv2 I K O) {c r : Int32} (hc : c ≠ 0) (h1 : Lf I O J = some (c, I, O, J)) (h2 : Mf K = some (r, gup K 129 8 c)) :
    ∃ I' O' K', Inv2 I' K' O' ∧ (∀ a, 129 ≤ a → I' a = I a) ∧ (∀ a, a < 129 → K' a = K a) ∧
    ((∃ v : Int32, Lf I O J = some (0, I', O', gup J 137 0 v.toInt64) ∧ Mf K = some (v, K') ∧ K' 129 8 = 0) ∨
     (∃ c r : Int32, c ≠ 0 ∧ Lf I O J = some (c, I', O', J) ∧ Mf K = some (r, K') ∧ K' 129 8 = c)) :=
  ⟨I, O, gup K 129 8 c, Inv2_K (K := K) (fun a ha => gup_ne (by omega)) (gup_i (by omega)) (gup_i (by omega)) h, fun _ _ => rfl, fun a ha => gup_ne (by omega), Or.inr ⟨c, r, hc, h1, h2, gup_at⟩⟩
theorem sv_step {I K : Nat → Nat → Int32} {O : Nat → Nat → Option Nat} (h : Inv2 I K O) :
    ∃ n I1 O1 K1, f_X4_save 1 I O = some (I1, O1) ∧ f_X8_records (gup K 129 8 0) = some K1 ∧ RR I1 1 (K1 130) n ∧ Inv2 I1 K1 O1 ∧ K1 129 8 = 0 ∧ K1 130 = K 130 ∧ (∀ a, a < 25 → I1 a = I a) ∧ (∀ a, 129 ≤ a → I1 a = I a) ∧ (∀ a, a < 129 → K1 a = K a) := by
  obtain ⟨n, p, len, h1, h2, h3, h4, h5, h6, h7, h8⟩ := h
  have e : ∀ a, 130 ≤ a → gup K 129 8 0 a = K a := fun a ha => gup_ne (by omega)
  obtain ⟨s1, s2, s3, σ, s4, s5, s6⟩ := h3
  obtain ⟨I', O', K', p', a1, a2, a3, a4, a5, a6, a7, a8⟩ := save_both (K := gup K 129 8 0) h2 (by rw [e 130 (by omega)]; exact h1) ⟨s1, by rw [gup_i (by omega)]; exact s2, s3, σ, s4, s5, fun i hi => by rw [e 132 (by omega)]; exact s6 i hi⟩
  have k130 : K' 130 = K 130 := (a7 130 (by omega) (by omega)).trans (e 130 (by omega))
  have hR : RR I' 1 (K' 130) n := by rw [k130]; exact RR_I (fun a h1 h2 => a5 a (by omega) (by omega)) h1
  refine ⟨n, I', O', K', a1, a2, hR, ⟨n, p', len, hR, a4, a3, fun j hj => ?_, ?_, ?_, h7, fun i hi => ?_⟩, ?_, k130, fun a ha => a5 a (by omega) (by omega), fun a ha => a5 a (by omega) (by omega), fun a ha => (a7 a (by omega) (by omega)).trans (gup_ne (by omega))⟩
  · obtain ⟨b1, b2, b3⟩ := h4 j hj
    rw [a5 101 (by omega) (by omega), a7 134 (by omega) (by omega), e 134 (by omega), a7 133 (by omega) (by omega), e 133 (by omega)]
    refine ⟨b1, b2, fun h => ?_⟩
    obtain ⟨m, hm⟩ := b3 h
    exact ⟨m, RR_I (fun a h1 h2 => a5 a (by omega) (by omega)) hm⟩
  · rw [a5 126 (by omega) (by omega)]; exact h5
  · rw [a8 7 (by omega), gup_i (by omega)]; exact h6
  · rw [a5 127 (by omega) (by omega), a7 135 (by omega) (by omega), e 135 (by omega)]; exact h8 i hi
  · rw [a8 8 (by omega), gup_at]
theorem Inv2_now {I K X Y : Nat → Nat → Int32} {O O' : Nat → Nat → Option Nat} {n : Nat} (h : Inv2 I K O) (eI : ∀ a, 25 ≤ a → a < 129 → X a = I a) (eZ : RZ X 13) (hR : RR X 1 (Y 130) n) (eK : ∀ a, 132 ≤ a → a ≠ 136 → Y a = K a) (e3 : Y 129 3 = K 129 3) (e7 : Y 129 7 = K 129 7) (eO : O' 26 = O 26) : Inv2 X Y O' := by
  obtain ⟨m, p, len, h1, h2, ⟨h3, h4, h5, σ, s1, s2, s3⟩, h6, h7, h8, h9, h10⟩ := h
  refine ⟨n, p, len, hR, fun β hβ => ?_, ⟨by rw [eI 25 (by omega) (by omega)]; exact h3, e3.trans h4, h5, σ, fun i hi => by rw [eO]; exact s1 i hi, s2, fun i hi => ?_⟩, fun j hj => ?_, by rw [eI 126 (by omega) (by omega)]; exact h7, e7.trans h8, h9, fun i hi => by rw [eI 127 (by omega) (by omega), eK 135 (by omega) (by omega)]; exact h10 i hi⟩
  · have hz := h2 β hβ
    rcases hβ with rfl | rfl | ⟨k, hk, rfl⟩ | rfl | rfl
    · exact hR.2.1
    · exact eZ
    · exact RZ_I (fun a h1 h2 => eI a (by omega) (by omega)) hz
    · exact RZ_I (fun a h1 h2 => eI a (by omega) (by omega)) hz
    · exact RZ_I (fun a h1 h2 => eI a (by omega) (by omega)) hz
  · obtain ⟨m', hm⟩ := s3 i hi
    have := (s1 i (by omega)).1
    rw [eK 132 (by omega) (by omega)]
    exact ⟨m', RR_I (fun a h1 h2 => eI a (by omega) (by omega)) hm⟩
  · obtain ⟨a1, a2, a3⟩ := h6 j hj
    rw [eI 101 (by omega) (by omega), eK 134 (by omega) (by omega), eK 133 (by omega) (by omega)]
    refine ⟨a1, a2, fun h => ?_⟩
    obtain ⟨m', hm⟩ := a3 h
    exact ⟨m', RR_I (fun a h1 h2 => eI a (by omega) (by omega)) hm⟩
theorem in_chk {a : Int32} {lo hi : Nat} (hl : lo < 2147483648) (hh : hi < 2147483648) : (∃ m, lo ≤ m ∧ m ≤ hi ∧ a = nI m ∧ f_X8_in a (nI lo) (nI hi) = some 1 ∧ ¬ (a < nI lo) ∧ a ≤ nI hi) ∨ (f_X8_in a (nI lo) (nI hi) = some 0 ∧ (a < nI lo ∨ (¬ (a < nI lo) ∧ ¬ (a ≤ nI hi)))) := by
  unfold f_X8_in
  by_cases c : a < nI lo
  · right; rw [if_pos c]; exact ⟨rfl, Or.inl c⟩
  · rw [if_neg c]
    have c' : (lo : Int) ≤ a.toInt := by rw [Int32.lt_iff_toInt_lt, pi_int hl] at c; omega
    obtain ⟨m, hm, rfl⟩ := pi_of (x := a) (by omega)
    rw [pi_int hm] at c'
    by_cases d : m ≤ hi
    · left
      refine ⟨m, by omega, d, rfl, ?_, c, by rw [pi_le hm hh]; exact d⟩
      rw [if_neg (by rw [pi_lt hh hm]; omega)]
    · right
      rw [if_pos (by rw [pi_lt hh hm]; omega)]
      exact ⟨rfl, Or.inr ⟨c, by rw [pi_le hm hh]; exact d⟩⟩
theorem op_pass (a : Int32) : OPB (f_W_pass a) (f_X8_pass a) := by
  intro I O J K h
  have hh := h
  obtain ⟨n0, p, len, h1, _⟩ := hh
  have hrc := bd1_c h1.2.2.2.1.2.2.2.2.1.2
  have h5 : I 1 5 = K 130 150 := h1.1.1.2.2.1
  rcases in_chk (a := a) (lo := 1) (hi := 200) (by omega) (by omega) with ⟨m, m1, m2, rfl, e1, e2, e3⟩ | ⟨e1, e2⟩
  · have e1' : f_X8_in (nI m) (1 : Int32) (200 : Int32) = some 1 := e1
    have ck : f_X7_checkSeconds (nI m) = some (Sum.inr ()) := by
      unfold f_X7_checkSeconds
      exact (if_neg e2).trans (if_pos e3)
    rcases hrc with hr | hr
    · refine op_no h (c := 2) (r := 0) (by decide) ?_ ?_
      · unfold f_W_pass f_X7_pass f_X7_checkRacing
        rw [ck, h5, hr]; rfl
      · unfold f_X8_pass
        rw [e1', t150, hr]; rfl
    · obtain ⟨n, I1, O1, K1, a1, a2, a3, a4, a5, a6, a7, a8, a9⟩ := sv_step h
      obtain ⟨I2, O2, K2, v, b1, b2, b3, b4, b5, b6, b7⟩ := pass_both (O := O1) (m := m) (Or.inl rfl) (by omega) a3
      have c1 := cnt3_le (K1 130) n
      have c2 := cnt3_le (K2 130) n
      have c3 := a3.2.2.2.1.1.2
      have r1 : I1 1 7 = nI (cnt3 (K1 130) n) := a3.1.1.2.2.2.1.trans a3.2.2.2.1.a.1
      have r2 : I2 1 7 = nI (cnt3 (K2 130) n) := b3.1.1.2.2.2.1.trans b3.2.2.2.1.a.1
      have z13 : RZ I2 13 := by
        have : ZZ I1 := by obtain ⟨_, _, _, _, hz, _⟩ := a4; exact hz
        exact RZ_I (fun a h1 h2 => b6 a (by omega)) (this 13 (Or.inr (Or.inl rfl)))
      refine ⟨I2, O2, K2, Inv2_now a4 (fun a h1 h2 => b6 a (by omega)) z13 b3 (fun a h1 h2 => b5 a (by omega) h2) (by rw [b5 129 (by omega) (by omega)]) (by rw [b5 129 (by omega) (by omega)]) (b7 26 (by omega)), fun a ha => (b6 a (by omega)).trans (a8 a ha), fun a ha => (b5 a (by omega) (by omega)).trans (a9 a ha), Or.inl ⟨nI v, ?_, ?_, by rw [b5 129 (by omega) (by omega)]; exact a5⟩⟩
      · unfold f_W_pass f_X7_pass f_X7_checkRacing
        rw [ck, h5, hr]
        simp only [Option.bind_some, hsum]
        rw [if_neg (by decide)]
        simp only [Option.bind_some]
        rw [a1]
        simp only [Option.bind_some]
        rw [b1]
        simp only [Option.bind_some, hlet_e]
        rw [t0', r1, r2, b4, pi_sub (by omega), show cnt3 (K1 130) n + v - cnt3 (K1 130) n = v by omega]
      · unfold f_X8_pass
        rw [e1', t150, hr]
        simp only [Option.bind_some, show ¬ ((1 : Int32) = 0) by decide, if_false, if_true, eq_self]
        rw [ref0]
        simp only [Option.bind_some, if_true]
        rw [a2]
        simp only [Option.bind_some]
        rw [b2]; rfl
  · have e1' : f_X8_in a (1 : Int32) (200 : Int32) = some 0 := e1
    have ck : f_X7_checkSeconds a = some (Sum.inl 1) := by
      unfold f_X7_checkSeconds
      rcases e2 with e | ⟨e, e'⟩
      · exact if_pos e
      · exact (if_neg e).trans (if_neg e')
    refine op_no h (c := 1) (r := 0) (by decide) ?_ ?_
    · unfold f_W_pass f_X7_pass
      rw [ck]; rfl
    · unfold f_X8_pass
      rw [e1']; rfl
