/-! The calls on the text and on kept states, told by the ghost. -/
theorem Inv2_text {I X K Y : Nat → Nat → Int32} {O : Nat → Nat → Option Nat} {len : Nat} (h : Inv2 I K O) (eI : ∀ a, a < 126 → X a = I a) (eK : ∀ a, a ≠ 129 → a ≠ 135 → Y a = K a) (e3 : Y 129 3 = K 129 3) (hT : TX X Y len) : Inv2 X Y O := by
  obtain ⟨n, p, len0, h1, h2, ⟨h3, h4, h5, σ, s1, s2, s3⟩, h6, _⟩ := h
  refine ⟨n, p, len, ?_, fun β hβ => RZ_I (fun a z1 z2 => eI a ?_) (h2 β hβ), ⟨by rw [eI 25 (by omega)]; exact h3, by rw [e3]; exact h4, h5, σ, s1, s2, fun i hi => ?_⟩, fun j hj => ?_, hT⟩
  · rw [eK 130 (by omega) (by omega)]; exact RR_I (fun a z1 z2 => eI a (by omega)) h1
  · rcases hβ with rfl | rfl | ⟨k, hk, rfl⟩ | rfl | rfl <;> omega
  · obtain ⟨m, hm⟩ := s3 i hi
    have := (s1 i (by omega)).1
    rw [eK 132 (by omega) (by omega)]
    exact ⟨m, RR_I (fun a _ h => eI a (by omega)) hm⟩
  · obtain ⟨a1, a2, a3⟩ := h6 j hj
    rw [eI 101 (by omega), eK 134 (by omega) (by omega), eK 133 (by omega) (by omega)]
    refine ⟨a1, a2, fun h => ?_⟩
    obtain ⟨m, hm⟩ := a3 h
    exact ⟨m, RR_I (fun a _ h => eI a (by omega)) hm⟩
/-- the text's calls: only the text changes -/
def DEI {α : Type} (f : (Nat → Nat → Int32) → Option (α × (Nat → Nat → Int32))) : Prop :=
  ∀ K, ∃ r K', ∀ I O, Inv2 I K O → ∃ I', f I = some (r, I') ∧ Inv2 I' K' O ∧ ∀ a, a < 126 → I' a = I a
theorem DEI.bind {α β : Type} {f : (Nat → Nat → Int32) → Option (α × (Nat → Nat → Int32))} {h : α → (Nat → Nat → Int32) → Option (β × (Nat → Nat → Int32))} (hf : DEI f) (hg : ∀ a, DEI (h a)) : DEI (fun I => (f I).bind fun y => h y.1 y.2) := by
  intro K
  obtain ⟨r, K1, hf⟩ := hf K
  obtain ⟨r2, K2, hg⟩ := hg r K1
  refine ⟨r2, K2, fun I O hI => ?_⟩
  obtain ⟨I1, a1, a2, a3⟩ := hf I O hI
  obtain ⟨I2, b1, b2, b3⟩ := hg I1 O a2
  exact ⟨I2, by dsimp only; rw [a1]; exact b1, b2, fun a ha => (b3 a ha).trans (a3 a ha)⟩
theorem DEI.pure {α : Type} (a : α) : DEI (fun I => some (a, I)) := fun K => ⟨a, K, fun I O hI => ⟨I, rfl, hI, fun _ _ => rfl⟩⟩
theorem DEI.cong {α : Type} {f g : (Nat → Nat → Int32) → Option (α × (Nat → Nat → Int32))} (h : DEI g) (e : ∀ I, f I = g I) : DEI f := by
  rw [show f = g from funext e]; exact h
theorem DEI.det {α : Type} {f : (Nat → Nat → Int32) → Option (α × (Nat → Nat → Int32))} (h : DEI f) : DET (fun I O => (f I).bind fun y => some (y.1, y.2, O)) 0 := by
  intro K
  obtain ⟨r, K', h⟩ := h K
  refine ⟨r, K', fun I O B hI hc _ => ?_⟩
  obtain ⟨I', a1, a2, a3⟩ := h I O hI
  exact ⟨I', O, by dsimp only; rw [a1]; rfl, a2, hc.far (fun a ha => a3 a (by unfold inR at ha; omega))⟩
theorem i_append (a : Int32) : DEI (f_L_append a) := by
  intro K
  by_cases hne : ∃ I O, Inv2 I K O
  rotate_left
  · exact ⟨0, K, fun I O hI => absurd ⟨I, O, hI⟩ hne⟩
  obtain ⟨I0, O0, h0⟩ := hne
  obtain ⟨n0, p0, len, _, _, _, _, _, k7, kl, _⟩ := h0
  have t33 : (33 : Int32) = nI 33 := rfl
  have t126 : (126 : Int32) = nI 126 := rfl
  have bad : (a < (33 : Int32) ∨ (¬ (a < (33 : Int32)) ∧ ¬ (a ≤ (126 : Int32)))) → ∀ I O, Inv2 I K O → ∃ I', f_L_append a I = some ((-3 : Int32), I') ∧ Inv2 I' K O ∧ ∀ b, b < 126 → I' b = I b := by
    intro hb I O hI
    refine ⟨I, ?_, hI, fun _ _ => rfl⟩
    unfold f_L_append f_X7_append
    rcases hb with c | ⟨c1, c2⟩
    · rw [if_pos c]; rfl
    · rw [if_neg c1, if_neg c2]; rfl
  rcases in_chk (a := a) (lo := 33) (hi := 126) (by omega) (by omega) with ⟨m, m1, m2, rfl, _, c2, c3⟩ | ⟨_, hb⟩
  · have c2' : ¬ (nI m < (33 : Int32)) := c2
    have c3' : nI m ≤ (126 : Int32) := c3
    obtain ⟨e1, e2⟩ := ch_e m (by omega)
    by_cases hl : len < 60
    · refine ⟨nI (len + 1), gup (gup K 135 len (nI m)) 129 7 (nI (len + 1)), fun I O hI => ?_⟩
      have hI' := hI
      obtain ⟨n, p, len', _, _, _, _, h5, h6, h7, h8⟩ := hI'
      obtain rfl : len' = len := by rw [k7, pi_eq (by omega) (by omega)] at h6; exact h6.symm
      have f1 : nI len' < (60 : Int32) := by rw [show (60 : Int32) = nI 60 from rfl, pi_lt (by omega) (by omega)]; exact hl
      have f2 : ¬ (nI len' < 0) := by rw [show (0 : Int32) = nI 0 from rfl, pi_lt (by omega) (by omega)]; omega
      have f3 : ¬ ((60 : Int32) ≤ nI len') := by rw [show (60 : Int32) = nI 60 from rfl, pi_le (by omega) (by omega)]; omega
      have f5 : gin (nI len') 60 = true := by rw [pi_gin (by omega)]; exact decide_eq_true hl
      have f6 : (nI len').toNatClampNeg = len' := pi_tn (by omega)
      have f7 : nI len' + (1 : Int32) = nI (len' + 1) := pi_add len' 1
      have i126 : gup I 127 len' (nI m) 126 1 = nI len' := by rw [gup_ne (by omega)]; exact h5
      refine ⟨gup (gup I 127 len' (nI m)) 126 1 (nI (len' + 1)), ?_, ?_, fun b hb => by rw [gup_ne (by omega), gup_ne (by omega)]⟩
      · unfold f_L_append f_X7_append f_X2_isFull f_X2_add
        rw [if_neg c2', if_pos c3', h5, if_pos f1]
        simp only [Option.bind_some, if_true]
        rw [e1, if_neg f2, if_neg f3, f5, e2, hg_t, hg_t, f6]
        simp only [hlet_e]
        rw [i126, f7]
        simp only [Option.bind_some]
        rw [gup_at]; rfl
      · refine Inv2_text (len := len' + 1) hI (fun b hb => by rw [gup_ne (by omega), gup_ne (by omega)]) (fun b z1 z2 => by rw [gup_ne z1, gup_ne z2]) (by rw [gup_i (by omega), gup_ne (by omega)]) ⟨gup_at, gup_at, by omega, fun i hi => ?_⟩
        rw [gup_ne (show (127 : Nat) ≠ 126 by omega), gup_ne (show (135 : Nat) ≠ 129 by omega)]
        by_cases c : i = len'
        · subst c; exact ⟨m, m1, m2, gup_at, gup_at⟩
        · obtain ⟨q, q1, q2, q3, q4⟩ := h8 i (by omega)
          exact ⟨q, q1, q2, by rw [gup_i c]; exact q3, by rw [gup_i c]; exact q4⟩
    · refine ⟨-4, K, fun I O hI => ?_⟩
      have hI' := hI
      obtain ⟨n, p, len', _, _, _, _, h5, h6, h7, h8⟩ := hI'
      obtain rfl : len' = len := by rw [k7, pi_eq (by omega) (by omega)] at h6; exact h6.symm
      have f1 : ¬ (nI len' < (60 : Int32)) := by rw [show (60 : Int32) = nI 60 from rfl, pi_lt (by omega) (by omega)]; exact hl
      refine ⟨I, ?_, hI, fun _ _ => rfl⟩
      unfold f_L_append f_X7_append f_X2_isFull
      rw [if_neg c2', if_pos c3', h5, if_neg f1]; rfl
  · exact ⟨-3, K, bad hb⟩
theorem i_clear : DEI f_X7_clearBuffer := by
  intro K
  refine ⟨K 129 7, gup K 129 7 0, fun I O hI => ?_⟩
  have hI' := hI
  obtain ⟨n, p, len, _, _, _, _, h5, h6, h7, h8⟩ := hI'
  exact ⟨gup I 126 1 0, by unfold f_X7_clearBuffer; rw [hlet_e, h5, h6], Inv2_clear hI, fun b hb => gup_ne (by omega)⟩
theorem i_first : DEI f_X7_firstError := by
  intro K
  by_cases hne : ∃ I O, Inv2 I K O
  rotate_left
  · exact ⟨0, K, fun I O hI => absurd ⟨I, O, hI⟩ hne⟩
  obtain ⟨I0, O0, h0⟩ := hne
  obtain ⟨n0, p0, len, _, _, _, _, hx0⟩ := h0
  obtain ⟨hT0, ht0⟩ := tx_c hx0
  obtain ⟨K0, I1, j, r1, r2, r3, w, r4, r5⟩ := read_both ht0 hT0
  have ej : K0 129 10 = nI j := by
    rcases r5 with ⟨_, rfl, _, ⟨L, a, b, u3⟩, _⟩ | ⟨_, ⟨L, a, b, u1⟩, _⟩
    · exact u3.2.2.1
    · exact u1.2.2.1
  refine ⟨K0 129 10, K, fun I O hI => ?_⟩
  have hI' := hI
  obtain ⟨n, p, len', _, _, _, _, hx⟩ := hI'
  obtain ⟨hT, ht⟩ := tx_c hx
  obtain ⟨K2, I2, j2, s1, s2, s3, w2, s4, s5⟩ := read_both ht hT
  rw [r4] at s4
  simp only [Option.some.injEq, Prod.mk.injEq] at s4
  obtain ⟨rfl, rfl⟩ := s4
  have ej2 : K0 129 10 = nI j2 := by
    rcases s5 with ⟨_, rfl, _, ⟨L, a, b, u3⟩, _⟩ | ⟨_, ⟨L, a, b, u1⟩, _⟩
    · exact u3.2.2.1
    · exact u1.2.2.1
  refine ⟨I2, ?_, Inv2_J (fun a ha => s3 a (by omega)) hI, fun a ha => s3 a (by omega)⟩
  unfold f_X7_firstError
  rw [s1, ej2]; rfl
