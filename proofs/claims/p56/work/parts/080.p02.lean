def cB (β b : Nat) : Nat := β + 1 + 3 + b
def Bd (x : Int32) (lo hi : Nat) : Prop := ∃ v : Nat, x = nI v ∧ lo ≤ v ∧ v ≤ hi
def tn (x : Int32) : Nat := x.toNatClampNeg
theorem Bd.e {x : Int32} {lo hi : Nat} (h : Bd x lo hi) (hh : hi < 2147483648) : x = nI (tn x) ∧ lo ≤ tn x ∧ tn x ≤ hi := by
  obtain ⟨v, rfl, h1, h2⟩ := h
  have : tn (nI v) = v := pi_tn (by omega)
  rw [this]; exact ⟨rfl, h1, h2⟩
def cnt3 (s : Nat → Int32) : Nat → Nat
  | 0 => 0
  | m + 1 => cnt3 s m + if s (16 * m + 6) = 3 then 1 else 0
def WX (s : Nat → Int32) (n : Nat) : Prop :=
  (s 128 = nI n ∧ n ≤ 8) ∧
  (∀ b, b < n → Bd (s (16 * b)) 10 40 ∧ Bd (s (16 * b + 1)) 0 999 ∧ Bd (s (16 * b + 2)) 0 1 ∧ Bd (s (16 * b + 3)) 0 999 ∧ Bd (s (16 * b + 4)) 0 100 ∧ Bd (s (16 * b + 5)) 0 1 ∧ Bd (s (16 * b + 6)) 0 3 ∧ Bd (s (16 * b + 7)) 0 3600 ∧ Bd (s (16 * b + 9)) 0 1 ∧ Bd (s (16 * b + 10)) 0 n ∧ Bd (s (16 * b + 12)) 0 12 ∧ (s (16 * b + 6) = 2 → s (16 * b + 12) ≠ 0)) ∧
  (∀ b, b < n → ∀ q, s (16 * b + 10) = nI (q + 1) → q < n → q ≠ b ∧ s (16 * q + 10) = nI (b + 1)) ∧
  (∀ k, k < 4 → Bd (s (129 + k)) 8 40) ∧
  (Bd (s 133) 1 9 ∧ Bd (s 150) 0 1) ∧
  (s 135 = nI (cnt3 s n)) ∧
  (∀ k, k < cnt3 s n → ∃ b, b < n ∧ s (136 + k) = nI b ∧ s (16 * b + 6) = 3) ∧
  (∀ k j, k < cnt3 s n → j < cnt3 s n → s (136 + k) = s (136 + j) → k = j) ∧
  (∀ b, b < n → s (16 * b + 6) = 3 → ∃ k, k < cnt3 s n ∧ s (136 + k) = nI b)
def WR (s : Nat → Int32) (n : Nat) : Prop := s 150 = 1 → ∀ b, b < n → s (16 * b + 6) ≠ 3 → tn (s (16 * b + 7)) < 400 * tn (s 133)
def WF (s : Nat → Int32) (n : Nat) : Prop := WX s n ∧ WR s n ∧ (s 150 = 1 → cnt3 s n < n)
def RB (I : Nat → Nat → Int32) (c : Nat) (s : Nat → Int32) (b : Nat) : Prop :=
  I c 1 = s (16 * b) ∧ I c 2 = s (16 * b + 1) ∧ I c 3 = s (16 * b + 2) ∧ I c 4 = s (16 * b + 7) ∧ I c 5 = s (16 * b + 8) ∧ I c 6 = s (16 * b + 3) ∧ I c 7 = s (16 * b + 4) ∧ I c 8 = s (16 * b + 5) ∧ I c 9 = s (16 * b + 6) ∧ I c 10 = s (16 * b + 12) ∧ I c 11 = s (16 * b + 9) ∧ I c 12 = s (16 * b + 10) - 1 ∧ I c 14 = s (16 * b + 11)
def R (I : Nat → Nat → Int32) (β : Nat) (s : Nat → Int32) (n : Nat) : Prop :=
  (I β 3 = s 128 ∧ I β 4 = s 133 ∧ I β 5 = s 150 ∧ I β 7 = s 135 ∧ I β 8 = s 144 ∧ I β 9 = s 145 ∧ I β 10 = s 146 ∧ I β 11 = s 147 ∧ I β 12 = s 148 ∧ I β 13 = s 149) ∧
  (∀ k, k < 4 → I (β + 3) k = s (129 + k)) ∧
  (∀ b, b < n → RB I (cB β b) s b) ∧
  (∀ b k, b < n → k < tn (s 135) → s (136 + k) = nI b → I (cB β b) 13 = nI k)
def RZ (I : Nat → Nat → Int32) (β : Nat) : Prop := ∀ b, b < 8 → I (cB β b) 0 = nI b ∧ gz (I (cB β b) 11) = true
def IsB (β : Nat) : Prop := β = 1 ∨ β = 13 ∨ (∃ k, k < 6 ∧ β = 27 + 12 * k) ∨ β = 102 ∨ β = 114
theorem sk_t : ∀ k, k < 6 → ∀ b, b < 8 → SHK (27 + 12 * k + 1 + 3 + b) = 6 := by decide
theorem sk_b {β b : Nat} (h : IsB β) (hb : b < 8) : SHK (cB β b) = 6 := by
  rcases h with rfl | rfl | ⟨k, hk, rfl⟩ | rfl | rfl
  · exact (by decide : ∀ b, b < 8 → SHK (cB 1 b) = 6) b hb
  · exact (by decide : ∀ b, b < 8 → SHK (cB 13 b) = 6) b hb
  · exact sk_t k hk b hb
  · exact (by decide : ∀ b, b < 8 → SHK (cB 102 b) = 6) b hb
  · exact (by decide : ∀ b, b < 8 → SHK (cB 114 b) = 6) b hb
theorem cnt3_le (s : Nat → Int32) (m : Nat) : cnt3 s m ≤ m := by
  induction m with
  | zero => exact Nat.le_refl _
  | succ m ih => unfold cnt3; split <;> omega
theorem x8_of {I : Nat → Nat → Int32} {b f : Nat} (hb : b < 8) (hf : f < 16) : f_X8_of (nI b) (nI f) I = some (I 130 (16 * b + f)) := by
  unfold f_X8_of
  simp only [pi_lit, pi_mul, pi_add]
  rw [pi_gin (by omega), pi_tn (by omega)]
  simp [hg, show 16 * b + f < 151 by omega]
theorem x8_flies {I : Nat → Nat → Int32} {b : Nat} (hb : b < 8) : f_X8_flies (nI b) I = some (if I 130 (16 * b + 6) = 1 then 1 else 0) := by
  unfold f_X8_flies
  rw [show (6 : Int32) = nI 6 from rfl, x8_of hb (by omega)]; simp only [Option.bind_some]; split <;> rfl
theorem x8_isOver {I : Nat → Nat → Int32} {b : Nat} (hb : b < 8) : f_X8_isOver (nI b) I = some (if I 130 (16 * b + 6) = 3 then 1 else 0) := by
  unfold f_X8_isOver
  rw [show (6 : Int32) = nI 6 from rfl, x8_of hb (by omega)]; simp only [Option.bind_some]; split <;> rfl
def dN (x y : Nat) : Nat := if (x + 4000 - y) % 400 = 0 then 400 else (x + 4000 - y) % 400
theorem dN_b (x y : Nat) : 1 ≤ dN x y ∧ dN x y ≤ 400 := by unfold dN; split <;> omega
theorem td_e (d : Int) : (0 ≤ d → 400 * d.tdiv 400 ≤ d ∧ d < 400 * d.tdiv 400 + 400) ∧ (d ≤ 0 → d ≤ 400 * d.tdiv 400 ∧ 400 * d.tdiv 400 < d + 400) := by
  constructor
  · intro h
    rw [Int.tdiv_eq_ediv_of_nonneg h]; omega
  · intro h
    have e : d.tdiv 400 = -((-d).tdiv 400) := by rw [Int.neg_tdiv, Int.neg_neg]
    rw [e, Int.tdiv_eq_ediv_of_nonneg (by omega)]; omega
theorem rem_e {x y : Nat} (hx : x ≤ 3600) (hy : y ≤ 3600) : ((nI x - nI y) - (nI x - nI y) / (400 : Int32) * (400 : Int32)).toInt = (x : Int) - y - 400 * ((x : Int) - y).tdiv 400 := by
  have hd := td_e ((x : Int) - y)
  have e1 : (nI x - nI y).toInt = (x : Int) - y := by
    rw [Int32.toInt_sub, pi_int (by omega), pi_int (by omega)]; apply Int.bmod_eq_of_le <;> omega
  have e2 : ((nI x - nI y) / (400 : Int32)).toInt = ((x : Int) - y).tdiv 400 := by
    rw [Int32.toInt_div, e1, show (400 : Int32).toInt = 400 from rfl]
    apply Int.bmod_eq_of_le <;> omega
  have e3 : ((nI x - nI y) / (400 : Int32) * (400 : Int32)).toInt = ((x : Int) - y).tdiv 400 * 400 := by
    rw [Int32.toInt_mul, e2, show (400 : Int32).toInt = 400 from rfl]; apply Int.bmod_eq_of_le <;> omega
  rw [Int32.toInt_sub, e1, e3]
  rw [show (400 : Int) * ((x : Int) - y).tdiv 400 = ((x : Int) - y).tdiv 400 * 400 from Int.mul_comm _ _]
  apply Int.bmod_eq_of_le <;> omega
theorem toI_nI {z : Int32} {v : Nat} (hv : v < 2147483648) (h : z.toInt = v) : z = nI v := by
  rw [← Int32.toInt_inj, pi_int hv, h]
theorem add_e {z : Int32} {v : Nat} {k : Int} (hk : z.toInt = k) (h1 : k + 400 = v) (hv : v < 1000) : z + (400 : Int32) = nI v := by
  apply toI_nI (by omega)
  rw [Int32.toInt_add, hk, show (400 : Int32).toInt = 400 from rfl, h1]; apply Int.bmod_eq_of_le <;> omega
theorem dN_p {x y : Nat} (hx : x ≤ 3600) (hy : y ≤ 3600) (h : 0 < (x : Int) - y - 400 * ((x : Int) - y).tdiv 400) : ((dN x y : Nat) : Int) = (x : Int) - y - 400 * ((x : Int) - y).tdiv 400 := by
  have hd := td_e ((x : Int) - y)
  generalize ((x : Int) - y).tdiv 400 = q at *
  unfold dN; split <;> omega
theorem dN_q {x y : Nat} (hx : x ≤ 3600) (hy : y ≤ 3600) (h : ¬ 0 < (x : Int) - y - 400 * ((x : Int) - y).tdiv 400) : ((dN x y : Nat) : Int) = (x : Int) - y - 400 * ((x : Int) - y).tdiv 400 + 400 := by
  have hd := td_e ((x : Int) - y)
  generalize ((x : Int) - y).tdiv 400 = q at *
  unfold dN; split <;> omega
def aN (x y : Nat) : Nat := if dN x y = 400 then 0 else dN x y
theorem x8_ahead {I : Nat → Nat → Int32} {a b x y : Nat} (ha : a < 8) (hb : b < 8) (hx : x ≤ 3600) (hy : y ≤ 3600) (ex : I 130 (16 * a + 7) = nI x) (ey : I 130 (16 * b + 7) = nI y) : f_X8_ahead (nI a) (nI b) I = some (nI (aN x y)) := by
  unfold f_X8_ahead
  rw [show (7 : Int32) = nI 7 from rfl, x8_of ha (by omega), x8_of hb (by omega), ex, ey]
  simp only [Option.bind_some]
  have hr := rem_e hx hy
  have hb := dN_b x y
  split
  · next h =>
    rw [Int32.le_iff_toInt_le, hr, show (0 : Int32).toInt = 0 from rfl] at h
    congr 1
    apply toI_nI (by unfold aN; split <;> omega)
    rw [hr]
    by_cases h0 : 0 < (x : Int) - y - 400 * ((x : Int) - y).tdiv 400
    · have := dN_p hx hy h0
      have hd := td_e ((x : Int) - y)
      unfold aN; split <;> omega
    · have := dN_q hx hy h0
      unfold aN; split <;> omega
  · next h =>
    rw [Int32.le_iff_toInt_le, hr, show (0 : Int32).toInt = 0 from rfl] at h
    congr 1
    have := dN_q hx hy (by omega)
    have hd := td_e ((x : Int) - y)
    apply add_e hr (by unfold aN; split <;> omega) (by unfold aN; split <;> omega)
theorem x6_feetBehind {I : Nat → Nat → Int32} {c d x y : Nat} (hx : x ≤ 3600) (hy : y ≤ 3600) (ex : I c 4 = nI y) (ey : I d 4 = nI x) : f_X6_feetBehind c d I = some (nI (dN x y)) := by
  unfold f_X6_feetBehind
  rw [ex, ey]
  have hr := rem_e hx hy
  have hb := dN_b x y
  split
  · next h =>
    rw [Int32.le_iff_toInt_le, hr, show (0 : Int32).toInt = 0 from rfl] at h
    congr 1
    have := dN_q hx hy (by omega)
    exact add_e hr (by omega) (by omega)
  · next h =>
    rw [Int32.le_iff_toInt_le, hr, show (0 : Int32).toInt = 0 from rfl] at h
    congr 1
    have := dN_p hx hy (by omega)
    apply toI_nI (by omega)
    rw [hr]; omega
