def IS (I0 I : Nat → Nat → Int32) (p k t m : Int32) : Prop := (∀ q, q ≠ 128 → I q = I0 q) ∧ I 128 0 = p ∧ I 128 1 = k ∧ I 128 2 = t ∧ I 128 3 = m
theorem IS.f {I0 I : Nat → Nat → Int32} {p k t m : Int32} (h : IS I0 I p k t m) : ∀ q, q ≠ 128 → I q = I0 q := h.1
theorem is_start {I0 I : Nat → Nat → Int32} (h : ∀ q, q ≠ 128 → I q = I0 q) : ∃ X, f_X1_start I = some X ∧ IS I0 X 0 32 (-1) 0 := by
  refine ⟨_, rfl, fun q hq => ?_, ?_, ?_, ?_, ?_⟩
  · show gup (gup (gup (gup I 128 0 0) 128 1 32) 128 2 (-1)) 128 3 0 q = I0 q
    rw [gup_ne hq, gup_ne hq, gup_ne hq, gup_ne hq]; exact h q hq
  · simp [hlet_e, gup]
  · simp [hlet_e, gup]
  · simp [hlet_e, gup]
  · simp [hlet_e, gup]
def kd (k lo hi : Nat) : Prop := (k = 112 ∧ lo = 10 ∧ hi = 40) ∨ (k = 99 ∧ lo = 8 ∧ hi = 40) ∨ (k = 116 ∧ lo = 1 ∧ hi = 200)
theorem x1_least {I : Nat → Nat → Int32} {k lo hi : Nat} (h : kd k lo hi) (h1 : I 128 1 = nI k) : f_X1_least I = some (nI lo) := by
  unfold f_X1_least
  rw [h1]
  rcases h with ⟨rfl, rfl, rfl⟩ | ⟨rfl, rfl, rfl⟩ | ⟨rfl, rfl, rfl⟩ <;> rfl
theorem x1_most {I : Nat → Nat → Int32} {k lo hi : Nat} (h : kd k lo hi) (h1 : I 128 1 = nI k) : f_X1_most I = some (nI hi) := by
  unfold f_X1_most
  rw [h1]
  rcases h with ⟨rfl, rfl, rfl⟩ | ⟨rfl, rfl, rfl⟩ | ⟨rfl, rfl, rfl⟩ <;> rfl
theorem canB_s {I : Nat → Nat → Int32} {k lo hi a b d fuel : Nat} (h : kd k lo hi) (h1 : I 128 1 = nI k) (ha : a < 1000000) (hb : b < 1000000) (hd : d < 3) :
    f_X1_canBecomeNumber_L12 I (fuel + 1) (nI a) (nI b) (nI d) = if a ≤ hi ∧ lo ≤ b then some 1 else f_X1_canBecomeNumber_L12 I fuel (nI (10 * a)) (nI (10 * b + 9)) (nI (d + 1)) := by
  have hlo : lo ≤ 200 ∧ hi ≤ 200 := by rcases h with ⟨_, rfl, rfl⟩ | ⟨_, rfl, rfl⟩ | ⟨_, rfl, rfl⟩ <;> omega
  rw [f_X1_canBecomeNumber_L12, if_neg (by rw [show (3 : Int32) = nI 3 from rfl, pi_le (by omega) (by omega)]; omega), x1_most h h1]
  simp only [Option.bind_some, hlet_e]
  rw [show nI d + (1 : Int32) = nI (d + 1) from pi_add d 1, show nI a * (10 : Int32) = nI (10 * a) by rw [Nat.mul_comm 10 a]; exact pi_mul a 10, show nI b * (10 : Int32) + (9 : Int32) = nI (10 * b + 9) by rw [Nat.mul_comm 10 b, show nI b * (10 : Int32) = nI (b * 10) from pi_mul b 10]; exact pi_add _ 9]
  by_cases c1 : hi < a
  · rw [if_pos (by rw [pi_lt (by omega) (by omega)]; exact c1), if_neg (by omega)]
  · rw [if_neg (by rw [pi_lt (by omega) (by omega)]; exact c1), x1_least h h1]
    simp only [Option.bind_some]
    by_cases c2 : b < lo
    · rw [if_pos (by rw [pi_lt (by omega) (by omega)]; exact c2), if_neg (by omega)]
    · rw [if_neg (by rw [pi_lt (by omega) (by omega)]; exact c2), if_pos (by omega)]
def canB (lo hi v : Nat) : Prop := (v ≤ hi ∧ lo ≤ v) ∨ (10 * v ≤ hi ∧ lo ≤ 10 * v + 9) ∨ (100 * v ≤ hi ∧ lo ≤ 100 * v + 99)
theorem x1_canB {I : Nat → Nat → Int32} {k lo hi v : Nat} (h : kd k lo hi) (h1 : I 128 1 = nI k) (h3 : I 128 3 = nI v) (hv : v < 5000) : (canB lo hi v ∧ f_X1_canBecomeNumber I = some 1) ∨ (¬ canB lo hi v ∧ f_X1_canBecomeNumber I = some 0) := by
  have e : f_X1_canBecomeNumber I = f_X1_canBecomeNumber_L12 I (4092 + 1 + 1 + 1 + 1) (nI v) (nI v) (nI 0) := by
    unfold f_X1_canBecomeNumber FU
    rw [h3]; rfl
  have hE : ∀ a b, f_X1_canBecomeNumber_L12 I (4092 + 1) a b (nI (0 + 1 + 1 + 1)) = some 0 := fun a b => by
    rw [f_X1_canBecomeNumber_L12]; exact if_pos (by decide)
  rw [e, canB_s h h1 (by omega) (by omega) (by omega), canB_s h h1 (by omega) (by omega) (by omega), canB_s h h1 (by omega) (by omega) (by omega), hE]
  unfold canB
  by_cases c1 : v ≤ hi ∧ lo ≤ v
  · rw [if_pos c1]; exact Or.inl ⟨Or.inl c1, rfl⟩
  · rw [if_neg c1]
    by_cases c2 : 10 * v ≤ hi ∧ lo ≤ 10 * v + 9
    · rw [if_pos c2]; exact Or.inl ⟨Or.inr (Or.inl c2), rfl⟩
    · rw [if_neg c2]
      by_cases c3 : 10 * (10 * v) ≤ hi ∧ lo ≤ 10 * (10 * v + 9) + 9
      · rw [if_pos c3]; exact Or.inl ⟨Or.inr (Or.inr (by omega)), rfl⟩
      · rw [if_neg c3]; exact Or.inr ⟨by omega, rfl⟩
theorem wh_012 {I0 I : Nat → Nat → Int32} {p k t m : Int32} (h : IS I0 I p k t m) (hp : p = 0 ∨ p = 1 ∨ p = 2) : f_X1_isWhole I = some 0 := by
  unfold f_X1_isWhole
  rw [h.2.1]
  rcases hp with rfl | rfl | rfl <;> rfl
theorem wh_4 {I0 I : Nat → Nat → Int32} {k t m : Int32} (h : IS I0 I 4 k t m) : f_X1_isWhole I = some 1 := by
  unfold f_X1_isWhole
  rw [h.2.1]; rfl
theorem wh_3 {I0 I : Nat → Nat → Int32} {k lo hi v : Nat} {t : Int32} (hk : kd k lo hi) (h : IS I0 I 3 (nI k) t (nI v)) (hv : v < 5000) : f_X1_isWhole I = some (if lo ≤ v ∧ v ≤ hi then 1 else 0) := by
  have hlo : lo ≤ 200 ∧ hi ≤ 200 := by rcases hk with ⟨_, rfl, rfl⟩ | ⟨_, rfl, rfl⟩ | ⟨_, rfl, rfl⟩ <;> omega
  unfold f_X1_isWhole
  rw [h.2.1, if_neg (by decide), if_pos rfl, x1_least hk h.2.2.1, h.2.2.2.2]
  simp only [Option.bind_some]
  by_cases c1 : v < lo
  · rw [if_pos (by rw [pi_lt (by omega) (by omega)]; exact c1), if_neg (by omega)]
  · rw [if_neg (by rw [pi_lt (by omega) (by omega)]; exact c1), x1_most hk h.2.2.1]
    simp only [Option.bind_some]
    by_cases c2 : hi < v
    · rw [if_pos (by rw [pi_lt (by omega) (by omega)]; exact c2), if_neg (by omega)]
    · rw [if_neg (by rw [pi_lt (by omega) (by omega)]; exact c2), if_pos (by omega)]
def Rf (x : Nat) (I : Nat → Nat → Int32) : Prop := ∃ X, f_X1_accepts (nI x) I = some (0, X) ∧ ∀ q, q ≠ 128 → X q = I q
theorem rf_semi {I : Nat → Nat → Int32} (h : f_X1_isWhole I = some 0) : Rf 59 I := by
  refine ⟨I, ?_, fun _ _ => rfl⟩
  unfold f_X1_accepts
  rw [if_pos (show nI 59 = (59 : Int32) from rfl), h]
  simp only [Option.bind_some, if_true]
theorem semi_ok {I : Nat → Nat → Int32} (h : f_X1_isWhole I = some 1) : f_X1_accepts (nI 59) I = (f_X1_start I).bind fun X => some (1, X) := by
  unfold f_X1_accepts
  rw [if_pos (show nI 59 = (59 : Int32) from rfl), h]
  simp only [Option.bind_some]
  rw [if_neg (by decide)]
theorem acc_kind {I0 I : Nat → Nat → Int32} {k t m : Int32} {x : Nat} (h : IS I0 I 0 k t m) (hx : x < 127) (h59 : x ≠ 59) :
    ∃ X, f_X1_accepts (nI x) I = some ((if x = 112 ∨ x = 110 ∨ x = 99 ∨ x = 116 then 1 else 0), X) ∧ IS I0 X (if x = 116 then 3 else 1) (nI x) t m := by
  obtain ⟨h1, h2, h3, h4, h5⟩ := h
  have e : ∀ k : Nat, k < 127 → (nI x = nI k ↔ x = k) := fun k hk => pi_eq (by omega) (by omega)
  have n59 : ¬ (nI x = (59 : Int32)) := fun c => h59 ((e 59 (by omega)).mp c)
  have e116 : (nI x = (116 : Int32)) ↔ x = 116 := e 116 (by omega)
  have e112 : (nI x = (112 : Int32)) ↔ x = 112 := e 112 (by omega)
  have e110 : (nI x = (110 : Int32)) ↔ x = 110 := e 110 (by omega)
  have e99 : (nI x = (99 : Int32)) ↔ x = 99 := e 99 (by omega)
  refine ⟨gup (gup I 128 1 (nI x)) 128 0 (if x = 116 then 3 else 1), ?_, fun q hq => by rw [gup_ne hq, gup_ne hq]; exact h1 q hq, gup_at, by rw [gup_i (by omega), gup_at], by rw [gup_i (by omega), gup_i (by omega)]; exact h4, by rw [gup_i (by omega), gup_i (by omega)]; exact h5⟩
  unfold f_X1_accepts f_X1_acceptsKind
  rw [if_neg n59, h2, if_pos rfl, (ch_e x hx).2, hg_t]
  simp only [hlet_e]
  have gz1 : gz 1 = true := by decide
  have gz0 : gz 0 = true := by decide
  by_cases c1 : x = 116
  · have c2 : ¬ (nI x = (112 : Int32)) := fun c => by have := e112.mp c; omega
    have c3 : ¬ (nI x = (110 : Int32)) := fun c => by have := e110.mp c; omega
    have c4 : ¬ (nI x = (99 : Int32)) := fun c => by have := e99.mp c; omega
    rw [if_pos (e116.mpr c1)]
    simp only [Option.bind_some]
    rw [if_neg c2, if_neg c3, if_neg c4, if_pos (e116.mpr c1)]
    simp only [Option.bind_some]
    rw [gz1, hg_t, if_pos (by omega), if_pos c1]
  · rw [if_neg (fun c => c1 (e116.mp c))]
    simp only [Option.bind_some]
    by_cases c2 : x = 112
    · rw [if_pos (e112.mpr c2)]
      simp only [Option.bind_some]
      rw [gz1, hg_t, if_pos (by omega), if_neg c1]
    · rw [if_neg (fun c => c2 (e112.mp c))]
      by_cases c3 : x = 110
      · rw [if_pos (e110.mpr c3)]
        simp only [Option.bind_some]
        rw [gz1, hg_t, if_pos (by omega), if_neg c1]
      · rw [if_neg (fun c => c3 (e110.mp c))]
        by_cases c4 : x = 99
        · rw [if_pos (e99.mpr c4)]
          simp only [Option.bind_some]
          rw [gz1, hg_t, if_pos (by omega), if_neg c1]
        · rw [if_neg (fun c => c4 (e99.mp c)), if_neg (fun c => c1 (e116.mp c))]
          simp only [Option.bind_some]
          rw [gz0, hg_t, if_neg (by omega), if_neg c1]
theorem tg_lt : ∀ x, x < 127 → ((nI x - (48 : Int32) < 0) ↔ x < 48) ∧ (((4 : Int32) ≤ nI x - (48 : Int32)) ↔ 52 ≤ x) ∧ (((8 : Int32) ≤ nI x - (48 : Int32)) ↔ 56 ≤ x) := by decide
theorem acc_target {I0 I : Nat → Nat → Int32} {t m : Int32} {x k : Nat} (h : IS I0 I 1 (nI k) t m) (hk : k < 127) (hx : x < 127) (h59 : x ≠ 59) :
    ∃ X, f_X1_accepts (nI x) I = some ((if 48 ≤ x ∧ x ≤ (if k = 99 then 51 else 55) then 1 else 0), X) ∧ IS I0 X (if k = 110 then 4 else 2) (nI k) (nI x - (48 : Int32)) m := by
  obtain ⟨h1, h2, h3, h4, h5⟩ := h
  have n59 : ¬ (nI x = (59 : Int32)) := fun c => h59 ((pi_eq (b := 59) (by omega) (by omega)).mp c)
  have e110 : (nI k = (110 : Int32)) ↔ k = 110 := pi_eq (b := 110) (by omega) (by omega)
  have e99 : (nI k = (99 : Int32)) ↔ k = 99 := pi_eq (b := 99) (by omega) (by omega)
  refine ⟨gup (gup I 128 2 (nI x - (48 : Int32))) 128 0 (if k = 110 then 4 else 2), ?_, fun q hq => by rw [gup_ne hq, gup_ne hq]; exact h1 q hq, gup_at, by rw [gup_i (by omega), gup_i (by omega)]; exact h3, by rw [gup_i (by omega), gup_at], by rw [gup_i (by omega), gup_i (by omega)]; exact h5⟩
  unfold f_X1_accepts f_X1_acceptsTarget
  rw [if_neg n59, h2, if_neg (show ¬ ((1 : Int32) = 0) by decide), if_pos rfl]
  simp only [hlet_e]
  have gz1 : gz 1 = true := by decide
  have gz0 : gz 0 = true := by decide
  have r1 : gup I 128 2 (nI x - (48 : Int32)) 128 1 = nI k := by rw [gup_i (by omega)]; exact h3
  have r2 : ∀ v, gup (gup I 128 2 (nI x - (48 : Int32))) 128 0 v 128 1 = nI k := fun v => by rw [gup_i (by omega)]; exact r1
  have r3 : ∀ v, gup (gup I 128 2 (nI x - (48 : Int32))) 128 0 v 128 2 = nI x - (48 : Int32) := fun v => by rw [gup_i (by omega), gup_at]
  obtain ⟨z1, z2, z3⟩ := tg_lt x hx
  have fin : ∀ v : Int32, ((if gup (gup I 128 2 (nI x - (48 : Int32))) 128 0 v 128 2 < 0 then some ((0 : Int32), gup (gup I 128 2 (nI x - (48 : Int32))) 128 0 v)
      else (if gup (gup I 128 2 (nI x - (48 : Int32))) 128 0 v 128 1 = (99 : Int32) then some (4 : Int32) else some (8 : Int32)).bind fun p4 =>
        if p4 ≤ gup (gup I 128 2 (nI x - (48 : Int32))) 128 0 v 128 2 then some ((0 : Int32), gup (gup I 128 2 (nI x - (48 : Int32))) 128 0 v) else some ((1 : Int32), gup (gup I 128 2 (nI x - (48 : Int32))) 128 0 v)).bind fun x => hg (gz x.1) (some (x.1, x.2))) = some ((if 48 ≤ x ∧ x ≤ (if k = 99 then 51 else 55) then 1 else 0), gup (gup I 128 2 (nI x - (48 : Int32))) 128 0 v) := by
    intro v
    rw [r3, r2]
    by_cases c1 : x < 48
    · rw [if_pos (z1.mpr c1), if_neg (by omega)]
      simp only [Option.bind_some]
      rw [gz0, hg_t]
    · rw [if_neg (fun c => c1 (z1.mp c))]
      by_cases c2 : k = 99
      · rw [if_pos (e99.mpr c2), if_pos c2]
        simp only [Option.bind_some]
        by_cases c3 : 52 ≤ x
        · rw [if_pos (z2.mpr c3), if_neg (by omega)]
          simp only [Option.bind_some]
          rw [gz0, hg_t]
        · rw [if_neg (fun c => c3 (z2.mp c)), if_pos (by omega)]
          simp only [Option.bind_some]
          rw [gz1, hg_t]
      · rw [if_neg (fun c => c2 (e99.mp c)), if_neg c2]
        simp only [Option.bind_some]
        by_cases c3 : 56 ≤ x
        · rw [if_pos (z3.mpr c3), if_neg (by omega)]
          simp only [Option.bind_some]
          rw [gz0, hg_t]
        · rw [if_neg (fun c => c3 (z3.mp c)), if_pos (by omega)]
          simp only [Option.bind_some]
          rw [gz1, hg_t]
  rw [r1]
  by_cases c1 : k = 110
  · rw [if_pos (e110.mpr c1), if_pos c1]
    exact fin 4
  · rw [if_neg (fun c => c1 (e110.mp c)), if_neg c1]
    exact fin 2
theorem acc_eq {I0 I : Nat → Nat → Int32} {k t m : Int32} {x : Nat} (h : IS I0 I 2 k t m) (hx : x < 127) (h59 : x ≠ 59) :
    ∃ X, f_X1_accepts (nI x) I = some ((if x = 61 then 1 else 0), X) ∧ IS I0 X 3 k t m := by
  obtain ⟨h1, h2, h3, h4, h5⟩ := h
  have n59 : ¬ (nI x = (59 : Int32)) := fun c => h59 ((pi_eq (b := 59) (by omega) (by omega)).mp c)
  have e61 : (nI x = (61 : Int32)) ↔ x = 61 := pi_eq (b := 61) (by omega) (by omega)
  refine ⟨gup I 128 0 3, ?_, fun q hq => by rw [gup_ne hq]; exact h1 q hq, gup_at, by rw [gup_i (by omega)]; exact h3, by rw [gup_i (by omega)]; exact h4, by rw [gup_i (by omega)]; exact h5⟩
  unfold f_X1_accepts
  rw [if_neg n59, h2, if_neg (show ¬ ((2 : Int32) = 0) by decide), if_neg (show ¬ ((2 : Int32) = 1) by decide), if_pos rfl, hlet_e]
  by_cases c : x = 61
  · rw [if_pos (e61.mpr c), if_pos c]
  · rw [if_neg (fun z => c (e61.mp z)), if_neg c]
theorem acc_end {I0 I : Nat → Nat → Int32} {k t m : Int32} {x : Nat} (h : IS I0 I 4 k t m) (hx : x < 127) (h59 : x ≠ 59) : Rf x I := by
  have n59 : ¬ (nI x = (59 : Int32)) := fun c => h59 ((pi_eq (b := 59) (by omega) (by omega)).mp c)
  refine ⟨I, ?_, fun _ _ => rfl⟩
  unfold f_X1_accepts
  rw [if_neg n59, h.2.1, if_neg (show ¬ ((4 : Int32) = 0) by decide), if_neg (show ¬ ((4 : Int32) = 1) by decide), if_neg (show ¬ ((4 : Int32) = 2) by decide), if_neg (show ¬ ((4 : Int32) = 3) by decide)]
theorem acc_digit {I0 I : Nat → Nat → Int32} {t : Int32} {k lo hi v x : Nat} (hk : kd k lo hi) (h : IS I0 I 3 (nI k) t (nI v)) (hv : v ≤ 200) (hx : x < 127) (h59 : x ≠ 59) :
    (∃ X, 48 ≤ x ∧ x ≤ 57 ∧ 0 < 10 * v + (x - 48) ∧ canB lo hi (10 * v + (x - 48)) ∧ f_X1_accepts (nI x) I = some (1, X) ∧ IS I0 X 3 (nI k) t (nI (10 * v + (x - 48)))) ∨ (¬ (48 ≤ x ∧ x ≤ 57 ∧ 0 < 10 * v + (x - 48) ∧ canB lo hi (10 * v + (x - 48))) ∧ Rf x I) := by
  obtain ⟨h1, h2, h3, h4, h5⟩ := h
  have n59 : ¬ (nI x = (59 : Int32)) := fun c => h59 ((pi_eq (b := 59) (by omega) (by omega)).mp c)
  have gz1 : gz 1 = true := by decide
  have gz0 : gz 0 = true := by decide
  have l48 : (nI x < (48 : Int32)) ↔ x < 48 := pi_lt (b := 48) (by omega) (by omega)
  have l57 : (nI x ≤ (57 : Int32)) ↔ x ≤ 57 := pi_le (b := 57) (by omega) (by omega)
  have hacc : f_X1_accepts (nI x) I = (f_X1_acceptsDigit (nI x) I).bind fun y => hg (gz y.1) (some (y.1, y.2)) := by
    unfold f_X1_accepts
    rw [if_neg n59, h2, if_neg (show ¬ ((3 : Int32) = 0) by decide), if_neg (show ¬ ((3 : Int32) = 1) by decide), if_neg (show ¬ ((3 : Int32) = 2) by decide), if_pos rfl]
  by_cases c1 : x < 48
  · right
    refine ⟨by omega, I, ?_, fun _ _ => rfl⟩
    rw [hacc]
    unfold f_X1_acceptsDigit
    rw [if_pos (l48.mpr c1)]
    simp only [Option.bind_some]
    rw [gz0, hg_t]
  · by_cases c2 : x ≤ 57
    · have enum : nI v * (10 : Int32) + (nI x - (48 : Int32)) = nI (10 * v + (x - 48)) := by
        rw [show nI v * (10 : Int32) = nI (v * 10) from pi_mul v 10, show nI x - (48 : Int32) = nI (x - 48) from pi_sub (b := 48) (by omega), pi_add, Nat.mul_comm v 10]
      have hX : IS I0 (gup I 128 3 (nI (10 * v + (x - 48)))) 3 (nI k) t (nI (10 * v + (x - 48))) := ⟨fun q hq => by rw [gup_ne hq]; exact h1 q hq, by rw [gup_i (by omega)]; exact h2, by rw [gup_i (by omega)]; exact h3, by rw [gup_i (by omega)]; exact h4, gup_at⟩
      have hfr : ∀ q, q ≠ 128 → gup I 128 3 (nI (10 * v + (x - 48))) q = I q := fun q hq => gup_ne hq
      have hstep : f_X1_acceptsDigit (nI x) I = if (gup I 128 3 (nI (10 * v + (x - 48))) 128 3) ≤ 0 then some ((0 : Int32), gup I 128 3 (nI (10 * v + (x - 48)))) else (f_X1_canBecomeNumber (gup I 128 3 (nI (10 * v + (x - 48))))).bind fun r2 => if r2 = 0 then some ((0 : Int32), gup I 128 3 (nI (10 * v + (x - 48)))) else some ((1 : Int32), gup I 128 3 (nI (10 * v + (x - 48)))) := by
        unfold f_X1_acceptsDigit
        rw [if_neg (fun c => c1 (l48.mp c)), if_pos (l57.mpr c2), h5, enum, hlet_e]
      generalize hw : 10 * v + (x - 48) = w at *
      have hw2 : w < 5000 := by omega
      generalize gup I 128 3 (nI w) = X at *
      by_cases c3 : 0 < w
      · have nz : ¬ (X 128 3 ≤ 0) := by rw [hX.2.2.2.2, show (0 : Int32) = nI 0 from rfl, pi_le (by omega) (by omega)]; omega
        rcases x1_canB hk hX.2.2.1 hX.2.2.2.2 hw2 with ⟨d1, d2⟩ | ⟨d1, d2⟩
        · left
          refine ⟨X, by omega, c2, c3, d1, ?_, hX⟩
          rw [hacc, hstep, if_neg nz, d2]
          simp only [Option.bind_some]
          rw [if_neg (show ¬ ((1 : Int32) = 0) by decide)]
          simp only [Option.bind_some]
          rw [gz1, hg_t]
        · right
          refine ⟨fun z => d1 z.2.2.2, X, ?_, hfr⟩
          rw [hacc, hstep, if_neg nz, d2]
          simp only [Option.bind_some, if_true]
          rw [gz0, hg_t]
      · right
        have hz : X 128 3 ≤ 0 := by rw [hX.2.2.2.2, show w = 0 by omega]; decide
        refine ⟨fun z => c3 z.2.2.1, X, ?_, hfr⟩
        rw [hacc, hstep, if_pos hz]
        simp only [Option.bind_some]
        rw [gz0, hg_t]
    · right
      refine ⟨by omega, I, ?_, fun _ _ => rfl⟩
      rw [hacc]
      unfold f_X1_acceptsDigit
      rw [if_neg (fun c => c1 (l48.mp c)), if_neg (fun c => c2 (l57.mp c))]
      simp only [Option.bind_some]
      rw [gz0, hg_t]
