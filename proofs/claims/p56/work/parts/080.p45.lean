theorem foretell_q {I K : Nat → Nat → Int32} {O : Nat → Nat → Option Nat} {s : Nat → Int32} {n b m : Nat} {pc : Int32} (hI : RR I 1 s n) (hZ : RZ I 13) (hb : b < n) (hp : Bd pc 10 40) (hK : K 130 = wpd s (16 * b + 0) pc) (hm : m < 4000) :
    ∃ I7 O8 r K8, f_X7_foretell (cB 1 b) pc (nI m) I O = some (r, I7, O8) ∧ f_X8_flownIn (nI b) (nI m) K = some (r, K8) ∧ (∀ a, a < 13 ∨ 25 ≤ a → I7 a = I a) ∧ RZ I7 13 ∧ FO 13 O O8 ∧ (∀ a, a ≠ 130 → a ≠ 131 → a ≠ 136 → K8 a = K a) ∧ (∀ k, k < 151 → K8 130 k = K 130 k) ∧ ∃ q, q ≤ 3600 ∧ r = nI q := by
  have hn := hI.2.2.2.1.1.2
  obtain ⟨X, x1, x2, x3, x4, x5, x6⟩ := x3_take (I := I) isB13 isB1 (by omega) hI.2.1 hI.gz5
  have hRX := take_RR hZ hI x3 x4 x5 x6
  obtain ⟨A, p1, p2, p3⟩ := x8_putAside (K := K)
  have hRp : RR (gup X (cB 13 b) 1 pc) 13 (A 130) n := by
    rw [p2 130 (by omega), hK]
    exact RR_bird hb (by unfold bPair; omega) (by omega) (by omega) (by unfold okv; left; exact ⟨rfl, hp⟩) hRX
  obtain ⟨I7, O8, B, v, q1, q2, q3, q4, q5, q6, q7⟩ := pass_both (O := O) (m := m) isB13 hm hRp
  obtain ⟨C, r1, r2, r3⟩ := x8_putBack (K := B)
  have x0 : X (cB 1 b) 0 = nI b := by rw [x2 _ (by unfold cB; omega)]; exact (hI.2.1 b (by omega)).1
  have xn : X 13 3 = nI n := hRX.1.1.1.trans hRX.2.2.2.1.1.1
  refine ⟨I7, O8, B 130 (16 * b + 7), C, ?_, ?_, fun a ha => ?_, q3.2.1, q7, fun a h1 h2 h3 => ?_, fun k hk => ?_, ⟨fl (B 130) b, (q3.2.2.2.1.fl.2.2 b hb).2, (q3.2.2.2.1.fl.2.2 b hb).1⟩⟩
  · unfold f_X7_foretell
    rw [x1]
    simp only [Option.bind_some]
    unfold f_X3_at
    rw [x0, xn, if_neg (by rw [show (0 : Int32) = nI 0 from rfl, pi_lt (by omega) (by omega)]; omega), if_neg (by rw [pi_le (by omega) (by omega)]; omega), if_pos (by rw [show (8 : Int32) = nI 8 from rfl, pi_lt (by omega) (by omega)]; omega), pi_gin (by omega), decide_eq_true (by omega), hg_t, pi_tn (by omega)]
    simp only [Option.bind_some, hopt_e2]
    show hk (cB 13 b) 6 (hlet (gup X (cB 13 b) 1 pc) fun I6 => (f_X3_letGoBy 13 (nI m) I6 O).bind fun x => some (x.1 (cB 13 b) 4, x.1, x.2)) = _
    rw [hk_e (sk_b isB13 (by omega)), hlet_e, q1]
    simp only [Option.bind_some]
    rw [(q3.1.2.2.1 b hb).2.2.2.1]
  · unfold f_X8_flownIn
    rw [p1]
    simp only [Option.bind_some]
    rw [q2]
    simp only [Option.bind_some]
    rw [show f_X8_of (nI b) (7 : Int32) B = some (B 130 (16 * b + 7)) from x8_of (f := 7) (by omega) (by omega)]
    simp only [Option.bind_some]
    rw [r1]; rfl
  · rw [q6 a (by omega), gup_ne (by unfold cB; omega), x2 a (by omega)]
  · rw [r2 a h1, q5 a h1 h3, p2 a h2]
  · rw [r3 k hk, q5 131 (by omega) (by omega)]; exact p3 k hk
theorem flownAt_q {I K : Nat → Nat → Int32} {O : Nat → Nat → Option Nat} {n b m : Nat} (hI : RR I 1 (K 130) n) (hZ : RZ I 13) (hb : b < n) (h1 : 10 ≤ m) (h2 : m ≤ 40) :
    ∃ I7 O8 r K9, f_X7_foretell (cB 1 b) (nI m) (50 : Int32) I O = some (r, I7, O8) ∧ f_X8_flownAt (nI b) (nI m) K = some (r, K9) ∧ (∀ a, a < 13 ∨ 25 ≤ a → I7 a = I a) ∧ RZ I7 13 ∧ FO 13 O O8 ∧ (∀ a, a ≠ 130 → a ≠ 131 → a ≠ 136 → K9 a = K a) ∧ (∀ k, k < 151 → K9 130 k = K 130 k) ∧ ∃ q, q ≤ 3600 ∧ r = nI q := by
  have hn := hI.2.2.2.1.1.2
  obtain ⟨I7, O8, r, K8, f1, f2, f3, f4, f5, f6, f7, f8⟩ := foretell_q (K := gup K 130 (16 * b + 0) (nI m)) (O := O) (pc := nI m) (m := 50) hI hZ hb ⟨m, rfl, h1, h2⟩ wpd_gup (by omega)
  refine ⟨I7, O8, r, gup K8 130 (16 * b) (K 130 (16 * b)), f1, ?_, f3, f4, f5, fun a q1 q2 q3 => by rw [gup_ne q1, f6 a q1 q2 q3, gup_ne q1], fun k hk => ?_, f8⟩
  · unfold f_X8_flownAt
    rw [show f_X8_of (nI b) (0 : Int32) K = some (K 130 (16 * b + 0)) from x8_of (f := 0) (by omega) (by omega)]
    simp only [Option.bind_some]
    rw [show (16 : Int32) = nI 16 from rfl, pi_mul, pi_gin (by omega), decide_eq_true (by omega), hg_t, pi_tn (by omega), hlet_e]
    have f2' : f_X8_flownIn (nI b) (50 : Int32) (gup K 130 (16 * b) (nI m)) = some (r, K8) := f2
    rw [f2']
    simp only [Option.bind_some, hg_t, hlet_e]
    rfl
  · by_cases c : k = 16 * b
    · rw [c, gup_at]
    · rw [gup_i c, f7 k hk, gup_i (by omega)]
theorem best_loop {n b : Nat} (hb : b < n) :
    ∀ d k fa fb (I K : Nat → Nat → Int32) (O : Nat → Nat → Option Nat) (p q : Nat), k + d = 41 → 11 ≤ k → d < fa → d < fb → q ≤ 3600 → RR I 1 (K 130) n → RZ I 13 →
    ∃ I' O' K' w, f_X7_foretellBestPace_L9 (cB 1 b) fa (nI p) (nI q) (nI k) I O = some (w, I', O') ∧ f_X8_best_L15 (nI b) fb (nI p) (nI q) (nI k) K = some (w, K') ∧ (∀ a, a < 13 ∨ 25 ≤ a → I' a = I a) ∧ RZ I' 13 ∧ FO 13 O O' ∧ (∀ a, a ≠ 130 → a ≠ 131 → a ≠ 136 → K' a = K a) ∧ (∀ k, k < 151 → K' 130 k = K 130 k) := by
  intro d
  induction d with
  | zero =>
    intro k fa fb I K O p q hk h11 hf hg hq hI hZ
    obtain ⟨f, rfl⟩ : ∃ f, fa = f + 1 := ⟨fa - 1, by omega⟩
    obtain ⟨g, rfl⟩ : ∃ g, fb = g + 1 := ⟨fb - 1, by omega⟩
    have c : (40 : Int32) < nI k := by rw [show (40 : Int32) = nI 40 from rfl, pi_lt (by omega) (by omega)]; omega
    refine ⟨I, O, K, nI p, ?_, ?_, fun _ _ => rfl, hZ, fun _ _ => rfl, fun _ _ _ _ => rfl, fun _ _ => rfl⟩
    · rw [f_X7_foretellBestPace_L9, if_pos c]
    · rw [f_X8_best_L15, if_pos c]
  | succ d ih =>
    intro k fa fb I K O p q hk h11 hf hg hq hI hZ
    obtain ⟨f, rfl⟩ : ∃ f, fa = f + 1 := ⟨fa - 1, by omega⟩
    obtain ⟨g, rfl⟩ : ∃ g, fb = g + 1 := ⟨fb - 1, by omega⟩
    have c : ¬ ((40 : Int32) < nI k) := by rw [show (40 : Int32) = nI 40 from rfl, pi_lt (by omega) (by omega)]; omega
    obtain ⟨I1, O1, r, K1, f1, f2, f3, f4, f5, f6, f7, x, hx, rfl⟩ := flownAt_q (O := O) (m := k) hI hZ hb (by omega) (by omega)
    have hI1 : RR I1 1 (K1 130) n := RR_I (fun a q1 q2 => f3 a (by omega)) (RR_s (s := K 130) f7 hI)
    have sA : f_X7_foretellBestPace_L9 (cB 1 b) (f + 1) (nI p) (nI q) (nI k) I O = f_X7_foretellBestPace_L9 (cB 1 b) f (nI (if x ≤ q then p else k)) (nI (if x ≤ q then q else x)) (nI (k + 1)) I1 O1 := by
      rw [f_X7_foretellBestPace_L9, if_neg c, f1]
      simp only [Option.bind_some, pi_le (show x < 2147483648 by omega) (show q < 2147483648 by omega)]
      rw [show nI k + (1 : Int32) = nI (k + 1) from pi_add k 1]
      by_cases e : x ≤ q
      · rw [if_pos e, if_pos e, if_pos e]; rfl
      · rw [if_neg e, if_neg e, if_neg e]; rfl
    have sB : f_X8_best_L15 (nI b) (g + 1) (nI p) (nI q) (nI k) K = f_X8_best_L15 (nI b) g (nI (if x ≤ q then p else k)) (nI (if x ≤ q then q else x)) (nI (k + 1)) K1 := by
      rw [f_X8_best_L15, if_neg c, f2]
      simp only [Option.bind_some, pi_le (show x < 2147483648 by omega) (show q < 2147483648 by omega)]
      rw [show nI k + (1 : Int32) = nI (k + 1) from pi_add k 1]
      by_cases e : x ≤ q
      · simp only [if_pos e]; rfl
      · simp only [if_neg e]; rfl
    obtain ⟨I', O', K', w, b1, b2, b3, b4, b5, b6, b7⟩ := ih (k + 1) f g I1 K1 O1 (if x ≤ q then p else k) (if x ≤ q then q else x) (by omega) (by omega) (by omega) (by omega) (by split <;> omega) hI1 f4
    refine ⟨I', O', K', w, by rw [sA]; exact b1, by rw [sB]; exact b2, fun a ha => (b3 a ha).trans (f3 a ha), b4, fun a ha => (b5 a ha).trans (f5 a ha), fun a q1 q2 q3 => (b6 a q1 q2 q3).trans (f6 a q1 q2 q3), fun j hj => (b7 j hj).trans (f7 j hj)⟩
