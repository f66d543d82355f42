def TI (I0 : Nat → Nat → Int32) (c : Nat → Nat) (len : Nat) : Prop := I0 126 1 = nI len ∧ len ≤ 60 ∧ ∀ i, i < len → 33 ≤ c i ∧ c i ≤ 126 ∧ I0 127 i = nI (c i)
theorem TI.k {I0 I : Nat → Nat → Int32} {c : Nat → Nat} {len : Nat} (h : TI I0 c len) (e : ∀ q, q ≠ 128 → I q = I0 q) : TI I c len := ⟨by rw [e 126 (by omega)]; exact h.1, h.2.1, fun i hi => by rw [e 127 (by omega)]; exact h.2.2 i hi⟩
theorem x2_at {I : Nat → Nat → Int32} {c : Nat → Nat} {len i : Nat} (h : TI I c len) (hi : i < len) : f_X2_at (nI i) I = some (nI (c i)) := by
  obtain ⟨c1, c2, c3⟩ := h.2.2 i hi
  have hl := h.2.1
  unfold f_X2_at
  rw [if_neg (by rw [show (0 : Int32) = nI 0 from rfl, pi_lt (by omega) (by omega)]; omega), if_neg (by rw [show (60 : Int32) = nI 60 from rfl, pi_le (by omega) (by omega)]; omega), pi_gin (by omega), decide_eq_true (by omega), hg_t, pi_tn (by omega), c3, (ch_e _ (by omega)).2, hg_t]
theorem l9_run {c : Nat → Nat} {len : Nat} : ∀ n i fuel (I I' : Nat → Nat → Int32), TI I c len → Run c n i I I' → i + n ≤ len → f_X7_readText_L9 (fuel + n) (nI i) I = f_X7_readText_L9 fuel (nI (i + n)) I' := by
  intro n
  induction n with
  | zero => intro i fuel I I' _ h _; rw [show I = I' from h]; rfl
  | succ n ih =>
    intro i fuel I I' hT h hi
    obtain ⟨a1, J, a2, a3, a4⟩ := h
    have hl := hT.2.1
    rw [show fuel + (n + 1) = (fuel + n) + 1 by omega, f_X7_readText_L9, hT.1, if_neg (by rw [pi_le (by omega) (by omega)]; omega), x2_at hT (by omega)]
    simp only [Option.bind_some]
    rw [a2]
    simp only [Option.bind_some]
    rw [if_neg (show ¬ ((1 : Int32) = 0) by decide), hlet_e, show nI i + (1 : Int32) = nI (i + 1) from pi_add i 1, ih (i + 1) fuel J I' (hT.k a3) a4 (by omega), show i + 1 + n = i + (n + 1) by omega]
theorem l9_end {c : Nat → Nat} {len fuel : Nat} {I : Nat → Nat → Int32} (hT : TI I c len) : f_X7_readText_L9 (fuel + 1) (nI len) I = some (nI len, I) := by
  have hl := hT.2.1
  rw [f_X7_readText_L9, hT.1, if_pos (by rw [pi_le (by omega) (by omega)]; omega)]
theorem l9_no {c : Nat → Nat} {len fuel j : Nat} {I : Nat → Nat → Int32} (hT : TI I c len) (hj : j < len) (h : Rf (c j) I) : ∃ X, f_X7_readText_L9 (fuel + 1) (nI j) I = some (nI j, X) ∧ ∀ q, q ≠ 128 → X q = I q := by
  have hl := hT.2.1
  obtain ⟨X, x1, x2⟩ := h
  refine ⟨X, ?_, x2⟩
  rw [f_X7_readText_L9, hT.1, if_neg (by rw [pi_le (by omega) (by omega)]; omega), x2_at hT hj]
  simp only [Option.bind_some]
  rw [x1]
  simp only [Option.bind_some, if_true]
def okT (c : Nat → Nat) (len : Nat) : Nat → Nat → Prop
  | 0, _ => False
  | f + 1, i => ∃ j k w v, pt c len i = some (j, k, w, v) ∧ (j = len ∨ (j < len ∧ c j = 59 ∧ okT c len f (j + 1)))
theorem text_both {K0 I0 : Nat → Nat → Int32} {c : Nat → Nat} {len : Nat} (ht : TK K0 c len) (hT : TI I0 c len) :
    ∀ D i f (K I : Nat → Nat → Int32) (L a b k t : Int32), len - i ≤ D → i ≤ len → len - i < f → KS K0 K i 0 L a b → IS I0 I 0 k t 0 →
    ∃ K' I' j, ((f_X8_part K).bind fun I3 => f_X8_isText_L14 f I3) = some K' ∧ j ≤ len ∧ (∀ fuel, len - i < fuel → f_X7_readText_L9 fuel (nI i) I = some (nI j, I')) ∧ (∀ q, q ≠ 128 → I' q = I0 q) ∧
      (((∀ g, len - i < g → okT c len g i) ∧ j = len ∧ (∃ L a b, KS K0 K' len 0 L a b) ∧ f_X1_isWhole I' = some 1) ∨ ((∃ L a b, KS K0 K' j 1 L a b) ∧ (j = len → f_X1_isWhole I' = some 0))) := by
  have hl := ht.2.1
  intro D
  induction D with
  | zero =>
    intro i f K I L a b k t hD hil hf hK hI
    obtain ⟨K1, p1, I1, j, j1, j2, j3, j4⟩ := part_both ht hil hK hI
    obtain ⟨f', rfl⟩ : ∃ f', f = f' + 1 := ⟨f - 1, by omega⟩
    have hj : j = len := by omega
    subst hj
    have hfr : ∀ q, q ≠ 128 → I1 q = I0 q := fun q hq => (j3.fr q hq).trans (hI.1 q hq)
    have hcl : ∀ fuel, j - i < fuel → f_X7_readText_L9 fuel (nI i) I = some (nI j, I1) := by
      intro fuel hfu
      obtain ⟨g, rfl⟩ : ∃ g, fuel = g + 1 + (j - i) := ⟨fuel - 1 - (j - i), by omega⟩
      rw [l9_run (c := c) (len := j) (j - i) i (g + 1) I I1 (hT.k hI.1) j3 (by omega), show i + (j - i) = j by omega]
      exact l9_end (hT.k hfr)
    rcases j4 with ⟨q1, ⟨L1, a1, b1, q2⟩, q3⟩ | ⟨k1, w1, v1, q1, ⟨L1, a1, b1, q2⟩, q3, q4, q5, q6⟩
    · refine ⟨K1, I1, j, ?_, Nat.le_refl _, hcl, hfr, Or.inr ⟨⟨_, _, _, q2⟩, fun _ => ?_⟩⟩
      · rw [p1]
        show f_X8_isText_L14 (f' + 1) K1 = _
        rw [f_X8_isText_L14, if_neg (by rw [q2.2.2.2.1]; decide)]
      · rcases q3 with ⟨h, _⟩ | ⟨_, h⟩
        · omega
        · exact h
    · omega
  | succ D ih =>
    intro i f K I L a b k t hD hil hf hK hI
    obtain ⟨K1, p1, I1, j, j1, j2, j3, j4⟩ := part_both ht hil hK hI
    obtain ⟨f', rfl⟩ : ∃ f', f = f' + 1 := ⟨f - 1, by omega⟩
    have hfr : ∀ q, q ≠ 128 → I1 q = I0 q := fun q hq => (j3.fr q hq).trans (hI.1 q hq)
    have hrun : ∀ fuel, j - i ≤ fuel → f_X7_readText_L9 fuel (nI i) I = f_X7_readText_L9 (fuel - (j - i)) (nI j) I1 := by
      intro fuel hfu
      obtain ⟨g, rfl⟩ : ∃ g, fuel = g + (j - i) := ⟨fuel - (j - i), by omega⟩
      rw [l9_run (c := c) (len := len) (j - i) i g I I1 (hT.k hI.1) j3 (by omega), show i + (j - i) = j by omega, Nat.add_sub_cancel]
    rcases j4 with ⟨q1, ⟨L1, a1, b1, q2⟩, q3⟩ | ⟨k1, w1, v1, q1, ⟨L1, a1, b1, q2⟩, q3, q4, q5, q6⟩
    · have e14 : ((f_X8_part K).bind fun I3 => f_X8_isText_L14 (f' + 1) I3) = some K1 := by
        rw [p1]
        show f_X8_isText_L14 (f' + 1) K1 = _
        rw [f_X8_isText_L14, if_neg (by rw [q2.2.2.2.1]; decide)]
      rcases q3 with ⟨h1, h2⟩ | ⟨h1, h2⟩
      · obtain ⟨X, x1, x2⟩ := h2
        refine ⟨K1, X, j, e14, j2, fun fuel hfu => ?_, fun q hq => (x2 q hq).trans (hfr q hq), Or.inr ⟨⟨_, _, _, q2⟩, fun h => by omega⟩⟩
        rw [hrun fuel (by omega)]
        obtain ⟨g, hg⟩ : ∃ g, fuel - (j - i) = g + 1 := ⟨fuel - (j - i) - 1, by omega⟩
        rw [hg, f_X7_readText_L9, (hT.k hfr).1, if_neg (by rw [pi_le (by omega) (by omega)]; omega), x2_at (hT.k hfr) h1]
        simp only [Option.bind_some]
        rw [x1]
        simp only [Option.bind_some, if_true]
      · subst h1
        refine ⟨K1, I1, j, e14, j2, fun fuel hfu => ?_, hfr, Or.inr ⟨⟨_, _, _, q2⟩, fun _ => h2⟩⟩
        rw [hrun fuel (by omega)]
        obtain ⟨g, hg⟩ : ∃ g, fuel - (j - i) = g + 1 := ⟨fuel - (j - i) - 1, by omega⟩
        rw [hg]; exact l9_end (hT.k hfr)
    · have w0 : K1 129 11 = 0 := q2.2.2.2.1
      have e7 : K1 129 7 = nI len := by rw [q2.2.1 7 (by omega)]; exact ht.1
      have e10 : K1 129 10 = nI j := q2.2.2.1
      rcases Nat.lt_or_ge j len with hjl | hjl
      · by_cases h59 : c j = 59
        · -- the next part
          obtain ⟨K2, s1, s2⟩ := ks_sign_ok q2
          obtain ⟨X, x1, x2⟩ := is_start hfr
          obtain ⟨K3, I3, j3', r1, r2, r3, r4, r5⟩ := ih (j + 1) f' K2 X _ _ _ _ _ (by omega) (by omega) (by omega) s2 x2
          refine ⟨K3, I3, j3', ?_, r2, fun fuel hfu => ?_, r4, ?_⟩
          · rw [p1]
            show f_X8_isText_L14 (f' + 1) K1 = _
            rw [f_X8_isText_L14, if_pos w0, e7, e10, if_neg (by rw [pi_le (by omega) (by omega)]; omega), ks_next ht q2 j2]
            simp only [Option.bind_some]
            rw [show cz c len j = 59 by unfold cz; rw [if_pos hjl]; exact h59, if_pos (by rfl)]
            simp only [Option.bind_some]
            rw [s1]
            simp only [Option.bind_some]
            exact r1
          · rw [hrun fuel (by omega)]
            obtain ⟨g, hg⟩ : ∃ g, fuel - (j - i) = g + 1 := ⟨fuel - (j - i) - 1, by omega⟩
            rw [hg, f_X7_readText_L9, (hT.k hfr).1, if_neg (by rw [pi_le (by omega) (by omega)]; omega), x2_at (hT.k hfr) hjl]
            simp only [Option.bind_some]
            rw [h59, semi_ok q4, x1]
            simp only [Option.bind_some]
            rw [if_neg (show ¬ ((1 : Int32) = 0) by decide), hlet_e, show nI j + (1 : Int32) = nI (j + 1) from pi_add j 1]
            exact r3 g (by omega)
          · rcases r5 with ⟨u1, u2, u3, u4⟩ | u
            · left
              refine ⟨fun g hg => ?_, u2, u3, u4⟩
              obtain ⟨g', rfl⟩ : ∃ g', g = g' + 1 := ⟨g - 1, by omega⟩
              exact ⟨j, k1, w1, v1, q1, Or.inr ⟨hjl, h59, u1 g' (by omega)⟩⟩
            · exact Or.inr u
        · -- a sign that doesn't go on
          obtain ⟨K2, s1, s2⟩ := ks_sign_no q2
          obtain ⟨K3, L3, a3, b3, t1, t2⟩ := ks_part1 ht s2 j2
          obtain ⟨X, x1, x2⟩ := q6 hjl h59
          obtain ⟨f'', hf''⟩ : ∃ f'', f' = f'' + 1 := ⟨f' - 1, by omega⟩
          refine ⟨K3, X, j, ?_, j2, fun fuel hfu => ?_, fun q hq => (x2 q hq).trans (hfr q hq), Or.inr ⟨⟨_, _, _, t2⟩, fun h => by omega⟩⟩
          · rw [p1]
            show f_X8_isText_L14 (f' + 1) K1 = _
            rw [f_X8_isText_L14, if_pos w0, e7, e10, if_neg (by rw [pi_le (by omega) (by omega)]; omega), ks_next ht q2 j2]
            simp only [Option.bind_some]
            have n59 : ¬ (nI (cz c len j) = (59 : Int32)) := by
              rw [show cz c len j = c j from if_pos hjl]
              have := (ht.2.2 j hjl).2.1
              exact fun z => h59 ((pi_eq (b := 59) (by omega) (by omega)).mp z)
            rw [if_neg n59]
            simp only [Option.bind_some]
            rw [s1]
            simp only [Option.bind_some]
            rw [t1]
            show f_X8_isText_L14 f' K3 = _
            rw [hf'', f_X8_isText_L14, if_neg (by rw [t2.2.2.2.1]; decide)]
          · rw [hrun fuel (by omega)]
            obtain ⟨g, hg⟩ : ∃ g, fuel - (j - i) = g + 1 := ⟨fuel - (j - i) - 1, by omega⟩
            rw [hg, f_X7_readText_L9, (hT.k hfr).1, if_neg (by rw [pi_le (by omega) (by omega)]; omega), x2_at (hT.k hfr) hjl]
            simp only [Option.bind_some]
            rw [x1]
            simp only [Option.bind_some, if_true]
      · have hj : j = len := by omega
        subst hj
        refine ⟨K1, I1, j, ?_, j2, fun fuel hfu => ?_, hfr, Or.inl ⟨fun g hg => ?_, rfl, ⟨_, _, _, q2⟩, q4⟩⟩
        · rw [p1]
          show f_X8_isText_L14 (f' + 1) K1 = _
          rw [f_X8_isText_L14, if_pos w0, e7, e10, if_pos (by rw [pi_le (by omega) (by omega)]; omega)]
        · rw [hrun fuel (by omega)]
          obtain ⟨g, hg⟩ : ∃ g, fuel - (j - i) = g + 1 := ⟨fuel - (j - i) - 1, by omega⟩
          rw [hg]; exact l9_end (hT.k hfr)
        · obtain ⟨g', rfl⟩ : ∃ g', g = g' + 1 := ⟨g - 1, by omega⟩
          exact ⟨j, k1, w1, v1, q1, Or.inl rfl⟩
theorem read_both {I K : Nat → Nat → Int32} {c : Nat → Nat} {len : Nat} (ht : TK K c len) (hT : TI I c len) :
    ∃ K' I' j, f_X7_readText I = some (nI j, I') ∧ j ≤ len ∧ (∀ q, q ≠ 128 → I' q = I q) ∧ (∃ w, f_X8_isText K = some (w, K') ∧
      ((w = 1 ∧ j = len ∧ (∀ g, len < g → okT c len g 0) ∧ (∃ L a b, KS K K' len 0 L a b) ∧ f_X1_isWhole I' = some 1) ∨ (w = 0 ∧ (∃ L a b, KS K K' j 1 L a b) ∧ (j = len → f_X1_isWhole I' = some 0)))) := by
  have hl := ht.2.1
  obtain ⟨X, x1, x2⟩ := is_start (I0 := I) (I := I) (fun _ _ => rfl)
  have hK : KS K (gup (gup K 129 10 0) 129 11 0) 0 0 (K 129 12) (K 129 13) (K 129 14) := ⟨fun q hq => by rw [gup_ne hq, gup_ne hq], fun f hf => by rw [gup_i (by omega), gup_i (by omega)], by rw [gup_i (by omega), gup_at]; rfl, gup_at, by rw [gup_i (by omega), gup_i (by omega)], by rw [gup_i (by omega), gup_i (by omega)], by rw [gup_i (by omega), gup_i (by omega)]⟩
  obtain ⟨K', I', j, r1, r2, r3, r4, r5⟩ := text_both ht hT len 0 FU _ X _ _ _ _ _ (by omega) (by omega) (by unfold FU; omega) hK x2
  refine ⟨K', I', j, ?_, r2, r4, ?_⟩
  · unfold f_X7_readText
    rw [x1]
    exact r3 FU (by unfold FU; omega)
  · unfold f_X8_isText
    simp only [hlet_e]
    rw [← Option.bind_assoc, r1]
    simp only [Option.bind_some]
    rcases r5 with ⟨u1, u2, ⟨L, a, b, u3⟩, u4⟩ | ⟨⟨L, a, b, u1⟩, u2⟩
    · refine ⟨1, ?_, Or.inl ⟨rfl, u2, fun g hg => u1 g (by omega), ⟨_, _, _, u3⟩, u4⟩⟩
      rw [u3.2.2.2.1]; rfl
    · refine ⟨0, ?_, Or.inr ⟨rfl, ⟨_, _, _, u1⟩, u2⟩⟩
      rw [u1.2.2.2.1]; rfl
theorem tx_c {I K : Nat → Nat → Int32} {len : Nat} (h : TX I K len) : TI I (fun i => tn (K 135 i)) len ∧ TK K (fun i => tn (K 135 i)) len := by
  obtain ⟨h1, h2, h3, h4⟩ := h
  have e : ∀ i, i < len → 33 ≤ tn (K 135 i) ∧ tn (K 135 i) ≤ 126 ∧ I 127 i = nI (tn (K 135 i)) ∧ K 135 i = nI (tn (K 135 i)) := by
    intro i hi
    obtain ⟨c, c1, c2, c3, c4⟩ := h4 i hi
    have : tn (K 135 i) = c := by rw [c4]; exact pi_tn (by omega)
    rw [this]; exact ⟨c1, c2, c3, c4⟩
  exact ⟨⟨h1, h3, fun i hi => ⟨(e i hi).1, (e i hi).2.1, (e i hi).2.2.1⟩⟩, ⟨h2, h3, fun i hi => ⟨(e i hi).1, (e i hi).2.1, (e i hi).2.2.2⟩⟩⟩
theorem Inv2_J {I X K : Nat → Nat → Int32} {O : Nat → Nat → Option Nat} (e : ∀ a, a < 128 → X a = I a) (h : Inv2 I K O) : Inv2 X K O := by
  obtain ⟨n, p, len, h1, h2, ⟨h3, h4, h5, σ, s1, s2, s3⟩, h6, h7, h8, h9, h10⟩ := h
  refine ⟨n, p, len, RR_I (fun a _ h => e a (by omega)) h1, fun β hβ => RZ_I (fun a h1 h2 => e a ?_) (h2 β hβ), ⟨by rw [e 25 (by omega)]; exact h3, h4, h5, σ, s1, s2, fun i hi => ?_⟩, fun j hj => ?_, by rw [e 126 (by omega)]; exact h7, h8, h9, fun i hi => by rw [e 127 (by omega)]; exact h10 i hi⟩
  · rcases hβ with rfl | rfl | ⟨k, hk, rfl⟩ | rfl | rfl <;> omega
  · obtain ⟨m, hm⟩ := s3 i hi
    have := (s1 i (by omega)).1
    exact ⟨m, RR_I (fun a _ h => e a (by omega)) hm⟩
  · obtain ⟨a1, a2, a3⟩ := h6 j hj
    rw [e 101 (by omega)]
    refine ⟨a1, a2, fun h => ?_⟩
    obtain ⟨m, hm⟩ := a3 h
    exact ⟨m, RR_I (fun a _ h => e a (by omega)) hm⟩
section CS
variable {SL' : Nat} {sx : Nat → Int32} {p4 : Int32} {I : Nat → Nat → Int32} {O : Nat → Nat → Option Nat} {J : Nat → Nat → Int64}
end CS
