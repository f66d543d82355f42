theorem pi_lit (n : Nat) : (OfNat.ofNat n : Int32) = nI n := rfl
theorem pi_0 : (0 : Int32) = nI 0 := rfl
theorem pi_1 : (1 : Int32) = nI 1 := rfl
theorem pi_add (a b : Nat) : nI a + nI b = nI (a + b) := (Int32.ofNat_add a b).symm
theorem pi_mul (a b : Nat) : nI a * nI b = nI (a * b) := (Int32.ofNat_mul a b).symm
theorem pi_int {a : Nat} (h : a < 2147483648) : (nI a).toInt = a := Int32.toInt_ofNat_of_lt h
theorem pi_tn {a : Nat} (h : a < 2147483648) : (nI a).toNatClampNeg = a := Int32.toNatClampNeg_ofNat_of_lt h
theorem pi_le {a b : Nat} (ha : a < 2147483648) (hb : b < 2147483648) : nI a ≤ nI b ↔ a ≤ b := by
  rw [Int32.le_iff_toInt_le, pi_int ha, pi_int hb]; omega
theorem pi_lt {a b : Nat} (ha : a < 2147483648) (hb : b < 2147483648) : nI a < nI b ↔ a < b := by
  rw [Int32.lt_iff_toInt_lt, pi_int ha, pi_int hb]; omega
theorem pi_eq {a b : Nat} (ha : a < 2147483648) (hb : b < 2147483648) : nI a = nI b ↔ a = b := by
  rw [← Int32.toInt_inj, pi_int ha, pi_int hb]; omega
theorem pi_gin {a L : Nat} (ha : a < 2147483648) : gin (nI a) L = decide (a < L) := by
  unfold gin; rw [pi_tn ha, pi_0, show decide (nI 0 ≤ nI a) = true from decide_eq_true ((pi_le (by omega) ha).mpr (by omega))]; rfl
theorem pi_of {x : Int32} (h : 0 ≤ x.toInt) : ∃ a : Nat, a < 2147483648 ∧ x = nI a := by
  refine ⟨x.toInt.toNat, ?_, ?_⟩
  · have := x.toInt_lt; omega
  · have := x.toInt_lt
    rw [← Int32.toInt_inj, pi_int (by omega)]; omega
theorem pi_sub {a b : Nat} (h : b ≤ a) : nI a - nI b = nI (a - b) := by
  have h2 : nI a = nI (a - b) + nI b := by rw [pi_add]; congr 1; omega
  rw [h2]; rw [Int32.add_sub_cancel]
theorem pi_div {a b : Nat} (ha : a < 2147483648) (hb : b < 2147483648) : nI a / nI b = nI (a / b) := by
  have h3 : a / b < 2147483648 := Nat.lt_of_le_of_lt (Nat.div_le_self a b) ha
  rw [← Int32.toInt_inj, Int32.toInt_div, pi_int ha, pi_int hb, pi_int h3]
  rw [show Int.tdiv (a:Int) b = ((a/b : Nat):Int) from (Int.ofNat_tdiv a b).symm]
  generalize a / b = q at h3 ⊢
  apply Int.bmod_eq_of_le <;> omega
theorem loop_go {σ α : Type} (F : Nat → Int32 → σ → Option α) (n : Nat) (P : Nat → σ → Prop) (Q : α → Prop)
    (hs : ∀ k st, k ≤ n → P k st → (∃ x, (∀ fuel, F (fuel+1) (nI k) st = some x) ∧ Q x) ∨ (k < n ∧ ∃ st', P (k+1) st' ∧ ∀ fuel, F (fuel+1) (nI k) st = F fuel (nI (k+1)) st')) :
    ∀ fuel k st, k ≤ n → P k st → n - k < fuel → ∃ x, F fuel (nI k) st = some x ∧ Q x := by
  intro fuel
  induction fuel with
  | zero => intro k st _ _ h; omega
  | succ f ih =>
    intro k st hk hP hf
    rcases hs k st hk hP with ⟨x, hx, hq⟩ | ⟨hlt, st', hP', he⟩
    · exact ⟨x, hx f, hq⟩
    · rw [he f]; exact ih (k+1) st' (by omega) hP' (by omega)
theorem hg_t {α : Type} {x : Option α} : hg true x = x := rfl
theorem hlet_e {α β : Type} (x : α) (k : α → β) : hlet x k = k x := rfl
theorem hopt_e1 {β : Type} (a : β) (f : Nat → β) : hopt none a f = a := rfl
theorem hopt_e2 {β : Type} (n : Nat) (a : β) (f : Nat → β) : hopt (some n) a f = f n := rfl
theorem hk_e {α : Type} {n k : Nat} {x : Option α} (h : SHK n = k) : hk n k x = x := by unfold hk; rw [if_pos h]
theorem ob_e {α β : Type} (x : α) (f : α → Option β) : (some x).bind f = f x := rfl
