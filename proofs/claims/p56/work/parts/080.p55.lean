theorem l22_run {c : Nat → Nat} {len : Nat} : ∀ n i fuel (p5 : Int32) (I I' : Nat → Nat → Int32) (O : Nat → Nat → Option Nat), TI I c len → Run c n i I I' → i + n ≤ len → f_X7_followOnTrial_L22 (fuel + n) p5 (nI i) I O = f_X7_followOnTrial_L22 fuel p5 (nI (i + n)) I' O := by
  intro n
  induction n with
  | zero => intro i fuel p5 I I' O _ h _; rw [show I = I' from h]; rfl
  | succ n ih =>
    intro i fuel p5 I I' O hT h hi
    obtain ⟨a1, J, a2, a3, a4⟩ := h
    have hl := hT.2.1
    have h126 := (hT.2.2 i (by omega)).2.1
    rw [show fuel + (n + 1) = (fuel + n) + 1 by omega, f_X7_followOnTrial_L22, hT.1, if_neg (by rw [pi_le (by omega) (by omega)]; omega), x2_at hT (by omega)]
    simp only [Option.bind_some, hlet_e]
    rw [if_neg (show ¬ (nI (c i) = (59 : Int32)) from fun z => a1 ((pi_eq (b := 59) (by omega) (by omega)).mp z)), a2]
    simp only [Option.bind_some]
    rw [show nI i + (1 : Int32) = nI (i + 1) from pi_add i 1, ih (i + 1) fuel p5 J I' O (hT.k a3) a4 (by omega), show i + 1 + n = i + (n + 1) by omega]
def did (I7 : Nat → Nat → Int32) : Option (Int32 × (Nat → Nat → Int32)) :=
  if (I7 129 12) = (112 : Int32) then
    (f_X8_setsPace (I7 129 13) (I7 129 14) I7).bind fun (r25, I24) => some (r25, I24)
  else
    if (I7 129 12) = (110 : Int32) then
      (f_X8_calls (I7 129 13) I7).bind fun (r21, I20) => some (r21, I20)
    else
      if (I7 129 12) = (99 : Int32) then
        (f_X8_sets ((129 : Int32) + (I7 129 13)) (I7 129 14) I7).bind fun (r17, I16) => some (r17, I16)
      else
        (f_X8_passes (I7 129 14) I7).bind fun (r14, I13) => some (r14, I13)
theorem x8_isBird_w {K : Nat → Nat → Int32} {n w : Nat} (h128 : K 130 128 = nI n) (hn : n ≤ 8) (hw : w < 100) : f_X8_isBird (nI w) K = some (if w < n then 1 else 0) := by
  unfold f_X8_isBird f_X8_in
  rw [t128, h128, if_neg (by rw [show (0 : Int32) = nI 0 from rfl, pi_lt (by omega) (by omega)]; omega)]
  by_cases c : w < n
  · rw [if_pos c, show nI n - (1 : Int32) = nI (n - 1) from pi_sub (b := 1) (by omega), if_neg (by rw [pi_lt (by omega) (by omega)]; omega)]; rfl
  · rw [if_neg c, if_pos]
    · rfl
    · rw [Int32.lt_iff_toInt_lt, pi_int (by omega)]
      have : (nI n - (1 : Int32)).toInt = (n : Int) - 1 := by
        rw [Int32.toInt_sub, pi_int (by omega), show (1 : Int32).toInt = 1 from rfl]; apply Int.bmod_eq_of_le <;> omega
      omega
theorem x3_at_no {I : Nat → Nat → Int32} {β n w : Nat} (h3 : I β 3 = nI n) (hn : n ≤ 8) (hw : w < 100) (hwn : ¬ w < n) : f_X3_at β (nI w) I = some none := by
  unfold f_X3_at
  rw [h3, if_neg (by rw [show (0 : Int32) = nI 0 from rfl, pi_lt (by omega) (by omega)]; omega), if_pos (by rw [pi_le (by omega) (by omega)]; omega)]
theorem x3_at_some {I : Nat → Nat → Int32} {β : Nat} (a : Int32) : ∃ r, f_X3_at β a I = some r := by
  unfold f_X3_at
  by_cases c0 : a < 0
  · rw [if_pos c0]; exact ⟨_, rfl⟩
  · rw [if_neg c0]
    by_cases c1 : I β 3 ≤ a
    · rw [if_pos c1]; exact ⟨_, rfl⟩
    · rw [if_neg c1]
      by_cases c2 : a < (8 : Int32)
      · rw [if_pos c2]
        obtain ⟨b, hb, rfl⟩ := pi_of (x := a) (by rw [Int32.lt_iff_toInt_lt, show (0 : Int32).toInt = 0 from rfl] at c0; omega)
        rw [show (8 : Int32) = nI 8 from rfl, pi_lt (by omega) (by omega)] at c2
        rw [pi_gin hb, decide_eq_true c2, hg_t]; exact ⟨_, rfl⟩
      · rw [if_neg c2]; exact ⟨_, rfl⟩
theorem order_both {I K : Nat → Nat → Int32} {O : Nat → Nat → Option Nat} {n k w v : Nat} (h : RR I 13 (K 130) n) (hp : PR I K k w v) :
    ∃ r I1 O1, f_X7_followOneOnTrial I O = some (r, I1, O1) ∧ f_X8_can K = some r ∧ (r = 0 ∨ (r = 1 ∧ ∃ y K1, did K = some (y, K1) ∧ RR I1 13 (K1 130) n ∧ (∀ a, a ≠ 130 → a ≠ 136 → K1 a = K a))) ∧ (∀ a, a < 13 ∨ 25 ≤ a → I1 a = I a) ∧ RZ I1 13 ∧ FO 13 O O1 := by
  have hn := h.2.2.2.1.1.2
  have h128 : K 130 128 = nI n := h.2.2.2.1.1.1
  have h3 : I 13 3 = nI n := h.1.1.1.trans h128
  have h5 : I 13 5 = K 130 150 := h.1.1.2.2.1
  have hrc := bd1_c h.2.2.2.1.2.2.2.2.1.2
  have hfo : FO 13 O O := fun _ _ => rfl
  have hii : ∀ a, a < 13 ∨ 25 ≤ a → I a = I a := fun _ _ => rfl
  obtain ⟨p1, p2, p3⟩ := hp
  have d : ∀ a b : Nat, a < 127 → b < 127 → a ≠ b → ¬ (nI a = nI b) := fun a b ha hb hab z => hab ((pi_eq (by omega) (by omega)).mp z)
  unfold f_X7_followOneOnTrial f_X8_can did
  rw [p1, p2]
  rcases p3 with ⟨rfl, q1, q2, q3, q4⟩ | ⟨rfl, q0, q1, q2, q3, q4, q5, q6⟩ | ⟨rfl, q0, q3, q4⟩ | ⟨rfl, q0, q1, q2, q3, q4, q5, q6⟩
  · -- seconds
    obtain ⟨r0, e0⟩ := x3_at_some (I := I) (β := 13) (I 128 2)
    rw [e0]
    simp only [Option.bind_some]
    rw [if_neg (show ¬ (nI 116 = (99 : Int32)) by decide), if_neg (show ¬ (nI 116 = (110 : Int32)) by decide), if_neg (show ¬ (nI 116 = (112 : Int32)) by decide), h5]
    rw [if_neg (show ¬ (nI 116 = (99 : Int32)) by decide), if_pos (show nI 116 = (116 : Int32) from rfl), t150]
    rw [if_neg (show ¬ (nI 116 = (112 : Int32)) by decide), if_neg (show ¬ (nI 116 = (110 : Int32)) by decide), if_neg (show ¬ (nI 116 = (99 : Int32)) by decide)]
    rcases hrc with hr | hr
    · refine ⟨0, I, O, by rw [hr, if_pos rfl], by rw [hr]; rfl, Or.inl rfl, hii, h.2.1, hfo⟩
    · obtain ⟨I', O', K', u, a1, a2, a3, a4, a5, a6, a7⟩ := pass_both (O := O) (m := v) isB13 (by omega) h
      refine ⟨1, I', O', ?_, by rw [hr]; rfl, Or.inr ⟨rfl, nI u, K', ?_, a3, fun a z1 z2 => a5 a z1 z2⟩, fun a ha => a6 a (by omega), a3.2.1, a7⟩
      · rw [hr, if_neg (by decide), q4, a1]; rfl
      · rw [q3, a2]; rfl
  · -- a pace
    rw [q4, q3]
    by_cases c : w < n
    · rw [x3_atb h3 hn c]
      simp only [Option.bind_some]
      rw [if_neg (show ¬ (nI 112 = (99 : Int32)) by decide), if_neg (show ¬ (nI 112 = (110 : Int32)) by decide), if_pos (show nI 112 = (112 : Int32) from rfl), hopt_e2, hk_e (sk_b isB13 (by omega)), hlet_e]
      rw [if_neg (show ¬ (nI 112 = (99 : Int32)) by decide), if_neg (show ¬ (nI 112 = (116 : Int32)) by decide), x8_isBird_w h128 hn (by omega), if_pos c]
      simp only [Option.bind_some]
      rw [if_neg (show ¬ ((1 : Int32) = 0) by decide), if_pos (show nI 112 = (112 : Int32) from rfl), if_pos (show nI 112 = (112 : Int32) from rfl), q5, q6]
      have hR2 : RR (gup I (cB 13 w) 1 (nI v)) 13 (gup K 130 (16 * w + 0) (nI v) 130) n := by
        rw [wpd_gup]; exact RR_bird c (by unfold bPair; omega) (by omega) (by omega) (by unfold okv; left; exact ⟨rfl, ⟨v, rfl, q1, q2⟩⟩) h
      refine ⟨1, gup I (cB 13 w) 1 (nI v), O, rfl, rfl, Or.inr ⟨rfl, K 130 (16 * w), gup K 130 (16 * w + 0) (nI v), ?_, hR2, fun a z1 z2 => gup_ne z1⟩, fun a ha => gup_ne (by unfold cB; omega), hR2.2.1, hfo⟩
      unfold f_X8_setsPace
      rw [show f_X8_of (nI w) (0 : Int32) K = some (K 130 (16 * w + 0)) from x8_of (f := 0) (by omega) (by omega)]
      simp only [Option.bind_some]
      rw [show (16 : Int32) = nI 16 from rfl, pi_mul, pi_gin (by omega), decide_eq_true (by omega), hg_t, pi_tn (by omega)]; rfl
    · rw [x3_at_no h3 hn (by omega) c]
      simp only [Option.bind_some]
      rw [if_neg (show ¬ (nI 112 = (99 : Int32)) by decide), if_neg (show ¬ (nI 112 = (110 : Int32)) by decide), if_pos (show nI 112 = (112 : Int32) from rfl), hopt_e1]
      rw [if_neg (show ¬ (nI 112 = (99 : Int32)) by decide), if_neg (show ¬ (nI 112 = (116 : Int32)) by decide), x8_isBird_w h128 hn (by omega), if_neg c]
      exact ⟨0, I, O, rfl, rfl, Or.inl rfl, hii, h.2.1, hfo⟩
  · -- a call
    rw [q4, q3]
    by_cases c : w < n
    · have h9 : I (cB 13 w) 9 = K 130 (16 * w + 6) := (h.1.2.2.1 w c).2.2.2.2.2.2.2.2.1
      have h11 : I (cB 13 w) 11 = K 130 (16 * w + 9) := (h.1.2.2.1 w c).2.2.2.2.2.2.2.2.2.2.1
      have hcd := bd1_c ((h.2.2.2.1.2.1 w c).2.2.2.2.2.2.2.2.1)
      rw [x3_atb h3 hn c]
      simp only [Option.bind_some]
      rw [if_neg (show ¬ (nI 110 = (99 : Int32)) by decide), if_pos (show nI 110 = (110 : Int32) from rfl), hopt_e2, hk_e (sk_b isB13 (by omega)), h9, h11]
      rw [if_neg (show ¬ (nI 110 = (99 : Int32)) by decide), if_neg (show ¬ (nI 110 = (116 : Int32)) by decide), x8_isBird_w h128 hn (by omega), if_pos c]
      simp only [Option.bind_some]
      rw [if_neg (show ¬ ((1 : Int32) = 0) by decide), if_neg (show ¬ (nI 110 = (112 : Int32)) by decide), x8_isOver (by omega)]
      by_cases c3 : K 130 (16 * w + 6) = 3
      · rw [if_pos c3, if_pos c3]
        exact ⟨0, I, O, rfl, rfl, Or.inl rfl, hii, h.2.1, hfo⟩
      · rw [if_neg c3, if_neg c3]
        simp only [Option.bind_some, if_true]
        have hx : ∃ x : Int32, (x = 0 ∨ x = 1) ∧ (if K 130 (16 * w + 9) = 0 then hlet (gup I (cB 13 w) 11 (1 : Int32)) fun I8 => some ((1 : Int32), I8, O) else hlet (gup I (cB 13 w) 11 (0 : Int32)) fun I7 => some ((1 : Int32), I7, O)) = some (1, gup I (cB 13 w) 11 x, O) ∧ (1 : Int32) - K 130 (16 * w + 9) = x := by
          rcases hcd with hc | hc
          · rw [hc]; exact ⟨1, Or.inr rfl, if_pos rfl, by decide⟩
          · rw [hc]; exact ⟨0, Or.inl rfl, if_neg (by decide), by decide⟩
        obtain ⟨x, hx1, hx2, hx3⟩ := hx
        have hR2 : RR (gup I (cB 13 w) 11 x) 13 (gup K 130 (16 * w + 9) x 130) n := by rw [wpd_gup]; exact RR_call c hx1 h
        refine ⟨1, gup I (cB 13 w) 11 x, O, hx2, rfl, Or.inr ⟨rfl, x, gup K 130 (16 * w + 9) x, ?_, hR2, fun a z1 z2 => gup_ne z1⟩, fun a ha => gup_ne (by unfold cB; omega), hR2.2.1, hfo⟩
        rw [if_neg (show ¬ (nI 110 = (112 : Int32)) by decide), if_pos (show nI 110 = (110 : Int32) from rfl)]
        unfold f_X8_calls
        have o9 : ∀ X : Nat → Nat → Int32, f_X8_of (nI w) (9 : Int32) X = some (X 130 (16 * w + 9)) := fun X => x8_of (f := 9) (by omega) (by omega)
        rw [o9]
        simp only [Option.bind_some]
        rw [show gin ((16 : Int32) * nI w + (9 : Int32)) 151 = true from ixg (g := 9) (by omega) (by omega), hg_t, show ((16 : Int32) * nI w + (9 : Int32)).toNatClampNeg = 16 * w + 9 from ix (g := 9) (by omega) (by omega), hlet_e, hx3, o9, gup_at]
        rfl
    · rw [x3_at_no h3 hn (by omega) c]
      simp only [Option.bind_some]
      rw [if_neg (show ¬ (nI 110 = (99 : Int32)) by decide), if_pos (show nI 110 = (110 : Int32) from rfl), hopt_e1]
      rw [if_neg (show ¬ (nI 110 = (99 : Int32)) by decide), if_neg (show ¬ (nI 110 = (116 : Int32)) by decide), x8_isBird_w h128 hn (by omega), if_neg c]
      exact ⟨0, I, O, rfl, rfl, Or.inl rfl, hii, h.2.1, hfo⟩
  · -- a limit
    obtain ⟨r0, e0⟩ := x3_at_some (I := I) (β := 13) (I 128 2)
    rw [e0]
    simp only [Option.bind_some]
    rw [if_pos (show nI 99 = (99 : Int32) from rfl), if_pos (show nI 99 = (99 : Int32) from rfl), if_neg (show ¬ (nI 99 = (112 : Int32)) by decide), if_neg (show ¬ (nI 99 = (110 : Int32)) by decide), if_pos (show nI 99 = (99 : Int32) from rfl), q3, q4, q5, q6]
    have hR2 : RR (gup I (13 + 3) w (nI v)) 13 (gup K 130 (129 + w) (nI v) 130) n := by
      rw [wpd_gup]; exact RR_lim q0 ⟨v, rfl, q1, q2⟩ h
    refine ⟨1, gup I (13 + 3) w (nI v), O, ?_, rfl, Or.inr ⟨rfl, K 130 (129 + w), gup K 130 (129 + w) (nI v), ?_, hR2, fun a z1 z2 => gup_ne z1⟩, fun a ha => gup_ne (by omega), hR2.2.1, hfo⟩
    · unfold f_X3_changeLimit
      rw [if_neg (by rw [show (0 : Int32) = nI 0 from rfl, pi_lt (by omega) (by omega)]; omega), if_neg (by rw [show (4 : Int32) = nI 4 from rfl, pi_le (by omega) (by omega)]; omega), pi_gin (by omega), decide_eq_true q0, hg_t, pi_tn (by omega)]
      rfl
    · unfold f_X8_sets
      rw [show (129 : Int32) = nI 129 from rfl, pi_add, pi_gin (by omega), decide_eq_true (by omega), hg_t, hg_t, pi_tn (by omega)]
      rfl
theorem wh_c {I X : Nat → Nat → Int32} (h : X 128 = I 128) : f_X1_isWhole X = f_X1_isWhole I := by
  unfold f_X1_isWhole f_X1_least f_X1_most
  rw [h]
theorem follow_loop {c : Nat → Nat} {len n : Nat} : ∀ f i cnt fc fr (I K : Nat → Nat → Int32) (O : Nat → Nat → Option Nat) (k t : Int32), okT c len f i → i ≤ len → TK K c len → TI I c len → K 129 10 = nI i → K 129 11 = 0 → IS I I 0 k t 0 → RR I 13 (K 130) n → len - i < fc → len - i < fr → cnt ≤ i →
    ∃ r I' O' K', f_X7_followOnTrial_L22 fc (nI cnt) (nI i) I O = some (r, I', O') ∧ f_X8_followsAll_L12 fr (nI cnt) K = some (r, K') ∧ (r = -1 ∨ (∃ m, m ≤ 100 ∧ r = nI m ∧ RR I' 13 (K' 130) n)) ∧ RZ I' 13 ∧ (∀ a, a < 13 ∨ (25 ≤ a ∧ a ≠ 128) → I' a = I a) ∧ (∀ a, a ≠ 129 → a ≠ 130 → a ≠ 136 → K' a = K a) ∧ (∀ q, q < 10 ∨ 14 < q → K' 129 q = K 129 q) ∧ FO 13 O O' := by
  intro f
  induction f with
  | zero => intro i cnt fc fr I K O k t h; exact absurd h id
  | succ f ih =>
    intro i cnt fc fr I K O k t hok hil ht hT h10 h11 hI hR hfc hfr hcnt
    obtain ⟨j0, k0, w0, v0, e0, hnext⟩ := hok
    have hl := ht.2.1
    have hK : KS K K i 0 (K 129 12) (K 129 13) (K 129 14) := ⟨fun _ _ => rfl, fun _ _ => rfl, h10, h11, rfl, rfl, rfl⟩
    obtain ⟨K1, p1, I1, j, j1, j2, j3, j4⟩ := part_both ht hil hK hI
    rcases j4 with ⟨q1, _⟩ | ⟨k1, w1, v1, q1, ⟨L1, a1, b1, q2⟩, q3, q4, q5, q6⟩
    · rw [e0] at q1; cases q1
    · rw [e0] at q1
      simp only [Option.some.injEq, Prod.mk.injEq] at q1
      obtain ⟨rfl, rfl, rfl, rfl⟩ := q1
      have hilt : i < len := by omega
      have hfr1 := j3.fr
      have hT1 : TI I1 c len := hT.k hfr1
      generalize hK7 : gup K1 129 10 (nI (j0 + 1)) = K7
      have k7f : ∀ a, a ≠ 129 → K7 a = K a := fun a ha => by rw [← hK7, gup_ne ha]; exact q2.1 a ha
      have k7q : ∀ q, q < 10 ∨ 14 < q → K7 129 q = K 129 q := fun q hq => by rw [← hK7, gup_i (by omega)]; exact q2.2.1 q hq
      have k710 : K7 129 10 = nI (j0 + 1) := by rw [← hK7, gup_at]
      have k711 : K7 129 11 = 0 := by rw [← hK7, gup_i (by omega)]; exact q2.2.2.2.1
      have hp7 : PR I1 K7 k0 w0 v0 := by
        unfold PR at *
        rw [← hK7, gup_i (by omega), gup_i (by omega), gup_i (by omega)]; exact q5
      have hR7 : RR I1 13 (K7 130) n := by
        rw [k7f 130 (by omega)]; exact RR_I (fun a _ h => hfr1 a (by omega)) hR
      obtain ⟨r, I2, O2, o1, o2, o3, o4, o5, o6⟩ := order_both (O := O) hR7 hp7
      obtain ⟨g, rfl⟩ : ∃ g, fc = g + 1 + (j0 - i) := ⟨fc - 1 - (j0 - i), by omega⟩
      obtain ⟨g2, rfl⟩ : ∃ g2, fr = g2 + 1 := ⟨fr - 1, by omega⟩
      have hcl : f_X7_followOnTrial_L22 (g + 1 + (j0 - i)) (nI cnt) (nI i) I O = f_X7_followOnTrial_L22 (g + 1) (nI cnt) (nI j0) I1 O := by
        rw [l22_run (c := c) (len := len) (j0 - i) i (g + 1) (nI cnt) I I1 O hT j3 (by omega), show i + (j0 - i) = j0 by omega]
      have hIfar : ∀ a, a < 13 ∨ (25 ≤ a ∧ a ≠ 128) → I2 a = I a := fun a ha => (o4 a (by omega)).trans (hfr1 a (by omega))
      have href : f_X8_followsAll_L12 (g2 + 1) (nI cnt) K = (if r = 0 then some ((-1 : Int32), K7) else (did K7).bind fun y => f_X8_followsAll_L12 g2 (nI (cnt + 1)) y.2) := by
        rw [f_X8_followsAll_L12, h10, ht.1, if_neg (by rw [pi_le (by omega) (by omega)]; omega), p1]
        simp only [Option.bind_some, hlet_e]
        rw [q2.2.2.1, show nI j0 + (1 : Int32) = nI (j0 + 1) from pi_add j0 1, hK7, o2]
        simp only [Option.bind_some]
        rw [show nI cnt + (1 : Int32) = nI (cnt + 1) from pi_add cnt 1]
        rfl
      rw [hcl, href]
      rcases o3 with o3 | ⟨o3, y, K8, u1, u2, u3⟩
      · -- one that can't be
        rw [if_pos o3]
        refine ⟨-1, I2, O2, K7, ?_, rfl, Or.inl rfl, o5, hIfar, fun a z1 z2 z3 => k7f a z1, k7q, o6⟩
        rw [f_X7_followOnTrial_L22, hT1.1]
        rcases hnext with hj | ⟨hj, h59, _⟩
        · rw [if_pos (by rw [pi_le (by omega) (by omega)]; omega), o1]
          simp only [Option.bind_some]
          rw [if_pos o3]
        · rw [if_neg (by rw [pi_le (by omega) (by omega)]; omega), x2_at hT1 hj]
          simp only [Option.bind_some, hlet_e]
          rw [h59, if_pos (show nI 59 = (59 : Int32) from rfl), o1]
          simp only [Option.bind_some]
          rw [if_pos o3]
      · have hr0 : ¬ (r = 0) := by rw [o3]; decide
        rw [if_neg hr0, u1]
        simp only [Option.bind_some]
        have k8f : ∀ a, a ≠ 129 → a ≠ 130 → a ≠ 136 → K8 a = K a := fun a z1 z2 z3 => (u3 a z2 z3).trans (k7f a z1)
        have k8q : ∀ q, K8 129 q = K7 129 q := fun q => by rw [u3 129 (by omega) (by omega)]
        rcases hnext with hj | ⟨hj, h59, hok2⟩
        · subst hj
          refine ⟨nI (cnt + 1), I2, O2, K8, ?_, ?_, Or.inr ⟨cnt + 1, by omega, rfl, u2⟩, o5, hIfar, k8f, fun q hq => (k8q q).trans (k7q q hq), o6⟩
          · rw [f_X7_followOnTrial_L22, hT1.1, if_pos (by rw [pi_le (by omega) (by omega)]; omega), o1]
            simp only [Option.bind_some]
            rw [if_neg hr0, show nI cnt + (1 : Int32) = nI (cnt + 1) from pi_add cnt 1]
          · obtain ⟨g3, rfl⟩ : ∃ g3, g2 = g3 + 1 := ⟨g2 - 1, by omega⟩
            rw [f_X8_followsAll_L12, k8q 7, k8q 10, k710, k7q 7 (by omega), ht.1, if_pos (by rw [pi_le (by omega) (by omega)]; omega)]
        · skip
          have hw2 : f_X1_isWhole I2 = some 1 := by rw [wh_c (o4 128 (by omega))]; exact q4
          obtain ⟨X, x1, x2⟩ := is_start (I0 := I2) (I := I2) (fun _ _ => rfl)
          have hRX : RR X 13 (K8 130) n := RR_I (fun a _ h => x2.1 a (by omega)) u2
          have hTX : TI X c len := ⟨by rw [x2.1 126 (by omega), o4 126 (by omega)]; exact hT1.1, hl, fun q hq => by rw [x2.1 127 (by omega), o4 127 (by omega)]; exact hT1.2.2 q hq⟩
          have htK8 : TK K8 c len := ⟨by rw [k8q 7, k7q 7 (by omega)]; exact ht.1, hl, fun q hq => by rw [k8f 135 (by omega) (by omega) (by omega)]; exact ht.2.2 q hq⟩
          obtain ⟨r', I', O', K', m1, m2, m3, m4, m5, m6, m7, m8⟩ := ih (j0 + 1) (cnt + 1) g g2 X K8 O2 32 (-1) hok2 (by omega) htK8 hTX (by rw [k8q 10]; exact k710) (by rw [k8q 11]; exact k711) ⟨fun _ _ => rfl, x2.2⟩ hRX (by omega) (by omega) (by omega)
          refine ⟨r', I', O', K', ?_, m2, m3, m4, fun a ha => (m5 a ha).trans ((x2.1 a (by omega)).trans (hIfar a ha)), fun a z1 z2 z3 => (m6 a z1 z2 z3).trans (k8f a z1 z2 z3), fun q hq => (m7 q hq).trans ((k8q q).trans (k7q q hq)), o6.tr m8⟩
          rw [f_X7_followOnTrial_L22, hT1.1, if_neg (by rw [pi_le (by omega) (by omega)]; omega), x2_at hT1 hj]
          simp only [Option.bind_some, hlet_e]
          rw [h59, if_pos (show nI 59 = (59 : Int32) from rfl), o1]
          simp only [Option.bind_some]
          rw [if_neg hr0, semi_ok hw2, x1]
          simp only [Option.bind_some]
          rw [show nI j0 + (1 : Int32) = nI (j0 + 1) from pi_add j0 1, show nI cnt + (1 : Int32) = nI (cnt + 1) from pi_add cnt 1]
          exact m1
