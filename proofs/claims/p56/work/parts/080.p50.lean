def KS (K0 K : Nat → Nat → Int32) (i : Nat) (w L a b : Int32) : Prop := (∀ q, q ≠ 129 → K q = K0 q) ∧ (∀ f, (f < 10 ∨ 14 < f) → K 129 f = K0 129 f) ∧ K 129 10 = nI i ∧ K 129 11 = w ∧ K 129 12 = L ∧ K 129 13 = a ∧ K 129 14 = b
def TK (K0 : Nat → Nat → Int32) (c : Nat → Nat) (len : Nat) : Prop := K0 129 7 = nI len ∧ len ≤ 60 ∧ ∀ i, i < len → 33 ≤ c i ∧ c i ≤ 126 ∧ K0 135 i = nI (c i)
def cz (c : Nat → Nat) (len i : Nat) : Nat := if i < len then c i else 0
theorem cz_lt {K0 : Nat → Nat → Int32} {c : Nat → Nat} {len i : Nat} (ht : TK K0 c len) : cz c len i < 127 := by
  unfold cz
  split
  · next h => have := (ht.2.2 i h).2.1; omega
  · omega
theorem ks_next {K0 K : Nat → Nat → Int32} {c : Nat → Nat} {len i : Nat} {w L a b : Int32} (ht : TK K0 c len) (h : KS K0 K i w L a b) (hi : i ≤ len) : f_X8_next K = some (nI (cz c len i)) := by
  obtain ⟨h1, h2, h3, h4⟩ := h
  have hl := ht.2.1
  unfold f_X8_next cz
  rw [h2 7 (by omega), ht.1, h3]
  by_cases e : i < len
  · rw [if_neg (by rw [pi_le (by omega) (by omega)]; omega), if_pos e, pi_gin (by omega), decide_eq_true (by omega), hg_t, pi_tn (by omega), h1 135 (by omega), (ht.2.2 i e).2.2]
  · rw [if_pos (by rw [pi_le (by omega) (by omega)]; omega), if_neg e]; rfl
theorem ks_up {K0 K : Nat → Nat → Int32} {i j : Nat} {w w' L a b : Int32} (h : KS K0 K i w L a b) : KS K0 (gup (gup K 129 11 w') 129 10 (nI j)) j w' L a b := by
  obtain ⟨h1, h2, h3, h4, h5, h6, h7⟩ := h
  refine ⟨fun q hq => by rw [gup_ne hq, gup_ne hq]; exact h1 q hq, fun f hf => by rw [gup_i (by omega), gup_i (by omega)]; exact h2 f hf, gup_at, by rw [gup_i (by omega), gup_at], by rw [gup_i (by omega), gup_i (by omega)]; exact h5, by rw [gup_i (by omega), gup_i (by omega)]; exact h6, by rw [gup_i (by omega), gup_i (by omega)]; exact h7⟩
theorem ks_sign_ok {K0 K : Nat → Nat → Int32} {i : Nat} {L a b : Int32} (h : KS K0 K i 0 L a b) : ∃ K', f_X8_sign 1 K = some K' ∧ KS K0 K' (i + 1) 0 L a b := by
  refine ⟨_, ?_, ks_up (w' := 0) (j := i + 1) h⟩
  obtain ⟨h1, h2, h3, h4, h5, h6, h7⟩ := h
  unfold f_X8_sign
  rw [h4, if_pos rfl, if_neg (by decide)]
  simp only [Option.bind_some]
  rw [show gz 0 = true by decide, hg_t, hlet_e, gup_at, if_pos rfl, hlet_e, gup_i (by omega), h3, show nI i + (1 : Int32) = nI (i + 1) from pi_add i 1]
theorem ks_sign_no {K0 K : Nat → Nat → Int32} {i : Nat} {L a b : Int32} (h : KS K0 K i 0 L a b) : ∃ K', f_X8_sign 0 K = some K' ∧ KS K0 K' i 1 L a b := by
  refine ⟨_, ?_, ks_up (w' := 1) (j := i) h⟩
  obtain ⟨h1, h2, h3, h4, h5, h6, h7⟩ := h
  unfold f_X8_sign
  rw [h4, if_pos rfl, if_pos rfl]
  simp only [Option.bind_some]
  rw [show gz 1 = true by decide, hg_t, hlet_e, gup_at, if_neg (by decide), hlet_e, gup_i (by omega), h3, Int32.add_zero]
theorem ks_sign_w {K0 K : Nat → Nat → Int32} {i : Nat} {v L a b : Int32} (h : KS K0 K i 1 L a b) : ∃ K', f_X8_sign v K = some K' ∧ KS K0 K' i 1 L a b := by
  refine ⟨_, ?_, ks_up (w' := 1) (j := i) h⟩
  obtain ⟨h1, h2, h3, h4, h5, h6, h7⟩ := h
  unfold f_X8_sign
  rw [h4, if_neg (by decide)]
  simp only [Option.bind_some]
  rw [show gz 1 = true by decide, hg_t, hlet_e, gup_at, if_neg (by decide), hlet_e, gup_i (by omega), h3, Int32.add_zero]
theorem ks_12 {K0 K : Nat → Nat → Int32} {i : Nat} {w L a b v : Int32} (h : KS K0 K i w L a b) : KS K0 (gup K 129 12 v) i w v a b := by
  obtain ⟨h1, h2, h3, h4, h5, h6, h7⟩ := h
  exact ⟨fun q hq => by rw [gup_ne hq]; exact h1 q hq, fun f hf => by rw [gup_i (by omega)]; exact h2 f hf, by rw [gup_i (by omega)]; exact h3, by rw [gup_i (by omega)]; exact h4, gup_at, by rw [gup_i (by omega)]; exact h6, by rw [gup_i (by omega)]; exact h7⟩
theorem ks_13 {K0 K : Nat → Nat → Int32} {i : Nat} {w L a b v : Int32} (h : KS K0 K i w L a b) : KS K0 (gup K 129 13 v) i w L v b := by
  obtain ⟨h1, h2, h3, h4, h5, h6, h7⟩ := h
  exact ⟨fun q hq => by rw [gup_ne hq]; exact h1 q hq, fun f hf => by rw [gup_i (by omega)]; exact h2 f hf, by rw [gup_i (by omega)]; exact h3, by rw [gup_i (by omega)]; exact h4, by rw [gup_i (by omega)]; exact h5, gup_at, by rw [gup_i (by omega)]; exact h7⟩
theorem ks_14 {K0 K : Nat → Nat → Int32} {i : Nat} {w L a b v : Int32} (h : KS K0 K i w L a b) : KS K0 (gup K 129 14 v) i w L a v := by
  obtain ⟨h1, h2, h3, h4, h5, h6, h7⟩ := h
  exact ⟨fun q hq => by rw [gup_ne hq]; exact h1 q hq, fun f hf => by rw [gup_i (by omega)]; exact h2 f hf, by rw [gup_i (by omega)]; exact h3, by rw [gup_i (by omega)]; exact h4, by rw [gup_i (by omega)]; exact h5, by rw [gup_i (by omega)]; exact h6, gup_at⟩
theorem ks_11 {K0 K : Nat → Nat → Int32} {i : Nat} {w L a b v : Int32} (h : KS K0 K i w L a b) : KS K0 (gup K 129 11 v) i v L a b := by
  obtain ⟨h1, h2, h3, h4, h5, h6, h7⟩ := h
  exact ⟨fun q hq => by rw [gup_ne hq]; exact h1 q hq, fun f hf => by rw [gup_i (by omega)]; exact h2 f hf, by rw [gup_i (by omega)]; exact h3, gup_at, by rw [gup_i (by omega)]; exact h5, by rw [gup_i (by omega)]; exact h6, by rw [gup_i (by omega)]; exact h7⟩
theorem ks_10 {K0 K : Nat → Nat → Int32} {i j : Nat} {w L a b : Int32} (h : KS K0 K i w L a b) : KS K0 (gup K 129 10 (nI j)) j w L a b := by
  obtain ⟨h1, h2, h3, h4, h5, h6, h7⟩ := h
  exact ⟨fun q hq => by rw [gup_ne hq]; exact h1 q hq, fun f hf => by rw [gup_i (by omega)]; exact h2 f hf, gup_at, by rw [gup_i (by omega)]; exact h4, by rw [gup_i (by omega)]; exact h5, by rw [gup_i (by omega)]; exact h6, by rw [gup_i (by omega)]; exact h7⟩
theorem dg_19 : ∀ x, x < 127 → f_X8_in (nI x - (48 : Int32)) (1 : Int32) (9 : Int32) = some (if 49 ≤ x ∧ x ≤ 57 then 1 else 0) := by decide
theorem dg_03 : ∀ x, x < 127 → f_X8_in (nI x - (48 : Int32)) (0 : Int32) (3 : Int32) = some (if 48 ≤ x ∧ x ≤ 51 then 1 else 0) := by decide
theorem dg_07 : ∀ x, x < 127 → f_X8_in (nI x - (48 : Int32)) (0 : Int32) (7 : Int32) = some (if 48 ≤ x ∧ x ≤ 55 then 1 else 0) := by decide
theorem dg_09 : ∀ x, x < 127 → f_X8_in (nI x) (48 : Int32) (57 : Int32) = some (if 48 ≤ x ∧ x ≤ 57 then 1 else 0) := by decide
theorem ks_digit {K0 K : Nat → Nat → Int32} {c : Nat → Nat} {len i : Nat} {w L a b lo hi : Int32} {t : Prop} [Decidable t] (ht : TK K0 c len) (h : KS K0 K i w L a b) (hi' : i ≤ len) (hin : f_X8_in (nI (cz c len i) - (48 : Int32)) lo hi = some (if t then 1 else 0)) :
    ∃ K', f_X8_digit lo hi K = some (nI (cz c len i) - (48 : Int32), K') ∧ ((w = 0 ∧ t ∧ KS K0 K' (i + 1) 0 L a b) ∨ (w = 0 ∧ ¬ t ∧ KS K0 K' i 1 L a b) ∨ (w = 1 ∧ KS K0 K' i 1 L a b) ∨ (w ≠ 0 ∧ w ≠ 1)) := by
  unfold f_X8_digit
  rw [ks_next ht h hi']
  simp only [Option.bind_some]
  rw [hin]
  simp only [Option.bind_some]
  by_cases w0 : w = 0
  · subst w0
    by_cases c : t
    · obtain ⟨K', e1, e2⟩ := ks_sign_ok h
      rw [if_pos c, e1]
      exact ⟨K', rfl, Or.inl ⟨rfl, c, e2⟩⟩
    · obtain ⟨K', e1, e2⟩ := ks_sign_no h
      rw [if_neg c, e1]
      exact ⟨K', rfl, Or.inr (Or.inl ⟨rfl, c, e2⟩)⟩
  · by_cases w1 : w = 1
    · subst w1
      obtain ⟨K', e1, e2⟩ := ks_sign_w (v := if t then 1 else 0) h
      rw [e1]
      exact ⟨K', rfl, Or.inr (Or.inr (Or.inl ⟨rfl, e2⟩))⟩
    · obtain ⟨K', e1⟩ : ∃ K', f_X8_sign (if t then 1 else 0) K = some K' := by
        unfold f_X8_sign
        have w0' : ¬ (K 129 11 = 0) := by rw [h.2.2.2.1]; exact w0
        rw [if_neg w0']
        simp only [Option.bind_some]
        rw [show gz 1 = true by decide, hg_t, hlet_e, gup_at, if_neg (by decide)]
        exact ⟨_, rfl⟩
      rw [e1]
      exact ⟨K', rfl, Or.inr (Or.inr (Or.inr ⟨w0, w1⟩))⟩
theorem ks_digit0 {K0 K : Nat → Nat → Int32} {c : Nat → Nat} {len i : Nat} {L a b lo hi : Int32} {t : Prop} [Decidable t] (ht : TK K0 c len) (h : KS K0 K i 0 L a b) (hi' : i ≤ len) (hin : f_X8_in (nI (cz c len i) - (48 : Int32)) lo hi = some (if t then 1 else 0)) :
    ∃ K', f_X8_digit lo hi K = some (nI (cz c len i) - (48 : Int32), K') ∧ ((t ∧ KS K0 K' (i + 1) 0 L a b) ∨ (¬ t ∧ KS K0 K' i 1 L a b)) := by
  obtain ⟨K', e, h1 | h1 | h1 | h1⟩ := ks_digit ht h hi' hin
  · exact ⟨K', e, Or.inl h1.2⟩
  · exact ⟨K', e, Or.inr h1.2⟩
  · exact absurd h1.1 (by decide)
  · exact absurd rfl h1.1
theorem ks_digit1 {K0 K : Nat → Nat → Int32} {c : Nat → Nat} {len i : Nat} {L a b lo hi : Int32} {t : Prop} [Decidable t] (ht : TK K0 c len) (h : KS K0 K i 1 L a b) (hi' : i ≤ len) (hin : f_X8_in (nI (cz c len i) - (48 : Int32)) lo hi = some (if t then 1 else 0)) :
    ∃ K', f_X8_digit lo hi K = some (nI (cz c len i) - (48 : Int32), K') ∧ KS K0 K' i 1 L a b := by
  obtain ⟨K', e, h1 | h1 | h1 | h1⟩ := ks_digit ht h hi' hin
  · exact absurd h1.1 (by decide)
  · exact absurd h1.1 (by decide)
  · exact ⟨K', e, h1.2⟩
  · exact absurd rfl h1.2
theorem ks_number1 {K0 K : Nat → Nat → Int32} {c : Nat → Nat} {len i : Nat} {L a b lo hi : Int32} (ht : TK K0 c len) (h : KS K0 K i 1 L a b) (hi' : i ≤ len) :
    ∃ x K', f_X8_number lo hi K = some (x, K') ∧ KS K0 K' i 1 L a b := by
  obtain ⟨K', e, h1⟩ := ks_digit1 ht h hi' (dg_19 _ (cz_lt ht))
  unfold f_X8_number
  rw [e]
  simp only [Option.bind_some, hlet_e]
  have w0 : ¬ (K' 129 11 = 0) := by rw [h1.2.2.2.1]; decide
  rw [if_neg w0]
  simp only [Option.bind_some]
  rw [if_neg w0]
  rw [show f_X8_number_L59 hi 0 FU (nI (cz c len i) - (48 : Int32)) K' = some (nI (cz c len i) - (48 : Int32), K') from rfl]
  simp only [Option.bind_some]
  rw [if_neg w0]
  exact ⟨_, _, rfl, ks_11 h1⟩
def prt2 (I11 : Nat → Nat → Int32) : Option (Nat → Nat → Int32) :=
  if (I11 129 12) = (110 : Int32) then
    some I11
  else
    (f_X8_next I11).bind fun r12 =>
    (if r12 = (61 : Int32) then some (1 : Int32) else some (0 : Int32)).bind fun p14 =>
    (f_X8_sign p14 I11).bind fun I15 =>
    (if (I15 129 11) = 0 then
        (if (I15 129 12) = (112 : Int32) then some (10 : Int32) else some (8 : Int32)).bind fun p20 =>
        (f_X8_number p20 (40 : Int32) I15).bind fun (r22, I21) => some (r22, I21)
      else some ((0 : Int32), I15)).bind fun (p17, I18) =>
    some (gup I18 129 14 p17)
def prt (I5 : Nat → Nat → Int32) : Option (Nat → Nat → Int32) :=
  if (I5 129 12) = (116 : Int32) then
    (f_X8_number (1 : Int32) (200 : Int32) I5).bind fun (r30, I29) => some (gup I29 129 14 r30)
  else
    (if (I5 129 12) = (99 : Int32) then some (3 : Int32) else some (7 : Int32)).bind fun p7 =>
    (f_X8_digit (0 : Int32) p7 I5).bind fun (r9, I8) => prt2 (gup I8 129 13 r9)
def ltr (x : Int32) : Int32 := if x = 112 then 1 else if x = 110 then 1 else if x = 99 then 1 else if x = 116 then 1 else 0
theorem part_e (K : Nat → Nat → Int32) : f_X8_part K = (f_X8_next K).bind fun r1 => (f_X8_sign (ltr r1) (gup K 129 12 r1)).bind prt := by
  unfold f_X8_part
  congr 1
  funext r1
  simp only [hlet_e, gup_at]
  unfold ltr
  by_cases a1 : r1 = (112 : Int32)
  · rw [if_pos a1, if_pos a1]; rfl
  · rw [if_neg a1, if_neg a1]
    by_cases a2 : r1 = (110 : Int32)
    · rw [if_pos a2, if_pos a2]; rfl
    · rw [if_neg a2, if_neg a2]
      by_cases a3 : r1 = (99 : Int32)
      · rw [if_pos a3, if_pos a3]; rfl
      · rw [if_neg a3, if_neg a3]
        by_cases a4 : r1 = (116 : Int32)
        · rw [if_pos a4, if_pos a4]; rfl
        · rw [if_neg a4, if_neg a4]; rfl
theorem ks_prt2_1 {K0 K : Nat → Nat → Int32} {c : Nat → Nat} {len i : Nat} {L a b : Int32} (ht : TK K0 c len) (h : KS K0 K i 1 L a b) (hi' : i ≤ len) : ∃ K' L' a' b', prt2 K = some K' ∧ KS K0 K' i 1 L' a' b' := by
  unfold prt2
  by_cases c3 : K 129 12 = (110 : Int32)
  · rw [if_pos c3]; exact ⟨_, _, _, _, rfl, h⟩
  · rw [if_neg c3, ks_next ht h hi']
    simp only [Option.bind_some]
    by_cases c4 : nI (cz c len i) = (61 : Int32)
    · rw [if_pos c4]
      simp only [Option.bind_some]
      obtain ⟨K5, e5, s5⟩ := ks_sign_w (v := 1) h
      rw [e5]
      simp only [Option.bind_some]
      rw [if_neg (by rw [s5.2.2.2.1]; decide)]
      exact ⟨_, _, _, _, rfl, ks_14 s5⟩
    · rw [if_neg c4]
      simp only [Option.bind_some]
      obtain ⟨K5, e5, s5⟩ := ks_sign_w (v := 0) h
      rw [e5]
      simp only [Option.bind_some]
      rw [if_neg (by rw [s5.2.2.2.1]; decide)]
      exact ⟨_, _, _, _, rfl, ks_14 s5⟩
theorem ks_prt_1 {K0 K : Nat → Nat → Int32} {c : Nat → Nat} {len i : Nat} {L a b : Int32} (ht : TK K0 c len) (h : KS K0 K i 1 L a b) (hi' : i ≤ len) : ∃ K' L' a' b', prt K = some K' ∧ KS K0 K' i 1 L' a' b' := by
  unfold prt
  by_cases c1 : K 129 12 = (116 : Int32)
  · rw [if_pos c1]
    obtain ⟨x, K3, e3, s3⟩ := ks_number1 (lo := 1) (hi := 200) ht h hi'
    rw [e3]
    exact ⟨_, _, _, _, rfl, ks_14 s3⟩
  · rw [if_neg c1]
    by_cases c2 : K 129 12 = (99 : Int32)
    · rw [if_pos c2]
      simp only [Option.bind_some]
      obtain ⟨K3, e3, s3⟩ := ks_digit1 ht h hi' (dg_03 _ (cz_lt ht))
      rw [e3]
      simp only [Option.bind_some]
      exact ks_prt2_1 ht (ks_13 s3) hi'
    · rw [if_neg c2]
      simp only [Option.bind_some]
      obtain ⟨K3, e3, s3⟩ := ks_digit1 ht h hi' (dg_07 _ (cz_lt ht))
      rw [e3]
      simp only [Option.bind_some]
      exact ks_prt2_1 ht (ks_13 s3) hi'
theorem ks_part1 {K0 K : Nat → Nat → Int32} {c : Nat → Nat} {len i : Nat} {L a b : Int32} (ht : TK K0 c len) (h : KS K0 K i 1 L a b) (hi' : i ≤ len) :
    ∃ K' L' a' b', f_X8_part K = some K' ∧ KS K0 K' i 1 L' a' b' := by
  rw [part_e, ks_next ht h hi']
  simp only [Option.bind_some]
  obtain ⟨K2, e2, s2⟩ := ks_sign_w (v := ltr (nI (cz c len i))) (ks_12 (v := nI (cz c len i)) h)
  rw [e2]
  simp only [Option.bind_some]
  exact ks_prt_1 ht s2 hi'
