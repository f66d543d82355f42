theorem isB1 : IsB 1 := Or.inl rfl
theorem isB13 : IsB 13 := Or.inr (Or.inl rfl)
theorem foretell_both {I K : Nat → Nat → Int32} {O : Nat → Nat → Option Nat} {s : Nat → Int32} {n b m : Nat} {pc : Int32} (hI : RR I 1 s n) (hZ : RZ I 13) (hb : b < n) (hp : Bd pc 10 40) (hK : K 130 = wpd s (16 * b + 0) pc) (hm : m < 4000) :
    ∃ I7 O8 r K8, f_X7_foretell (cB 1 b) pc (nI m) I O = some (r, I7, O8) ∧ f_X8_flownIn (nI b) (nI m) K = some (r, K8) ∧ (∀ a, a < 13 ∨ 25 ≤ a → I7 a = I a) ∧ RZ I7 13 ∧ FO 13 O O8 ∧ (∀ a, a ≠ 130 → a ≠ 131 → a ≠ 136 → K8 a = K a) ∧ (∀ k, k < 151 → K8 130 k = K 130 k) := by
  have hn := hI.2.2.2.1.1.2
  obtain ⟨X, x1, x2, x3, x4, x5, x6⟩ := x3_take (I := I) isB13 isB1 (by omega) hI.2.1 hI.gz5
  have hRX := take_RR hZ hI x3 x4 x5 x6
  obtain ⟨A, p1, p2, p3⟩ := x8_putAside (K := K)
  have hRp : RR (gup X (cB 13 b) 1 pc) 13 (A 130) n := by
    rw [p2 130 (by omega), hK]
    exact RR_bird hb (by unfold bPair; omega) (by omega) (by omega) (by unfold okv; left; exact ⟨rfl, hp⟩) hRX
  obtain ⟨I7, O8, B, v, q1, q2, q3, q4, q5, q6, q7⟩ := pass_both (O := O) (m := m) isB13 hm hRp
  obtain ⟨C, r1, r2, r3⟩ := x8_putBack (K := B)
  have x0 : X (cB 1 b) 0 = nI b := by rw [x2 _ (by unfold cB; omega)]; exact (hI.2.1 b (by omega)).1
  have xn : X 13 3 = nI n := hRX.1.1.1.trans hRX.2.2.2.1.1.1
  refine ⟨I7, O8, B 130 (16 * b + 7), C, ?_, ?_, fun a ha => ?_, q3.2.1, q7, fun a h1 h2 h3 => ?_, fun k hk => ?_⟩
  · unfold f_X7_foretell
    rw [x1]
    simp only [Option.bind_some]
    unfold f_X3_at
    rw [x0, xn, if_neg (by rw [show (0 : Int32) = nI 0 from rfl, pi_lt (by omega) (by omega)]; omega), if_neg (by rw [pi_le (by omega) (by omega)]; omega), if_pos (by rw [show (8 : Int32) = nI 8 from rfl, pi_lt (by omega) (by omega)]; omega), pi_gin (by omega), decide_eq_true (by omega), hg_t, pi_tn (by omega)]
    simp only [Option.bind_some, hopt_e2]
    show hk (cB 13 b) 6 (hlet (gup X (cB 13 b) 1 pc) fun I6 => (f_X3_letGoBy 13 (nI m) I6 O).bind fun x => some (x.1 (cB 13 b) 4, x.1, x.2)) = _
    rw [hk_e (sk_b isB13 (by omega)), hlet_e, q1]
    simp only [Option.bind_some]
    rw [(q3.1.2.2.1 b hb).2.2.2.1]
  · unfold f_X8_flownIn
    rw [p1]
    simp only [Option.bind_some]
    rw [q2]
    simp only [Option.bind_some]
    rw [show f_X8_of (nI b) (7 : Int32) B = some (B 130 (16 * b + 7)) from x8_of (f := 7) (by omega) (by omega)]
    simp only [Option.bind_some]
    rw [r1]; rfl
  · rw [q6 a (by omega), gup_ne (by unfold cB; omega), x2 a (by omega)]
  · rw [r2 a h1, q5 a h1 h3, p2 a h2]
  · rw [r3 k hk, q5 131 (by omega) (by omega)]; exact p3 k hk
