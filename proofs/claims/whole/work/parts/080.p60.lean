section CS
variable {SL' : Nat} {sx : Nat → Int32} {p4 : Int32} {I : Nat → Nat → Int32} {O : Nat → Nat → Option Nat} {J : Nat → Nat → Int64}
theorem cs_all (h : Inv2 I I O) (g1 : gin (p4 + (1 : Int32)) SL' = true) (g2 : gin (p4 + (2 : Int32)) SL' = true) (g3 : gin (p4 + (3 : Int32)) SL' = true) : ∀ k, CaseOk (f_L_step SL' sx k p4 I O J)
  | 0 => (show CaseOk (f_L_case0 SL' sx p4 I O J) from cs_0 h g1 g2 g3)
  | 1 => (show CaseOk (f_L_case1 SL' sx p4 I O J) from cs_1 h g1 g2)
  | 2 => (show CaseOk (f_L_case2 SL' sx p4 I O J) from cs_2 h g1)
  | 3 => (show CaseOk (f_L_case3 SL' sx p4 I O J) from cs_3 h g1 g2)
  | 4 => (show CaseOk (f_L_case4 SL' sx p4 I O J) from cs_4 h g1 g2)
  | 5 => (show CaseOk (f_L_case5 SL' sx p4 I O J) from cs_5 h g1)
  | 6 => (show CaseOk (f_L_case6 SL' sx p4 I O J) from cs_6 h)
  | 7 => (show CaseOk (f_L_case7 SL' sx p4 I O J) from cs_7 h g1)
  | 8 => (show CaseOk (f_L_case8 SL' sx p4 I O J) from cs_8 h g1)
  | 9 => (show CaseOk (f_L_case9 SL' sx p4 I O J) from cs_9 h)
  | 10 => (show CaseOk (f_L_case10 SL' sx p4 I O J) from cs_10 h)
  | 11 => (show CaseOk (f_L_case11 SL' sx p4 I O J) from cs_11 h)
  | 12 => (show CaseOk (f_L_case12 SL' sx p4 I O J) from cs_12 h g1)
  | 13 => (show CaseOk (f_L_case13 SL' sx p4 I O J) from cs_13 h g1)
  | 14 => (show CaseOk (f_L_case14 SL' sx p4 I O J) from cs_14 h)
  | 15 => (show CaseOk (f_L_case15 SL' sx p4 I O J) from cs_15 h)
  | 16 => (show CaseOk (f_L_case16 SL' sx p4 I O J) from cs_16 h)
  | 17 => (show CaseOk (f_L_case17 SL' sx p4 I O J) from cs_17 h g1)
  | 18 => (show CaseOk (f_L_case18 SL' sx p4 I O J) from cs_18 h g1)
  | 19 => (show CaseOk (f_L_case19 SL' sx p4 I O J) from cs_19 h g1)
  | 20 => (show CaseOk (f_L_case20 SL' sx p4 I O J) from cs_20 h g1)
  | 21 => (show CaseOk (f_L_case21 SL' sx p4 I O J) from cs_21 h g1)
  | 22 => (show CaseOk (f_L_case22 SL' sx p4 I O J) from cs_22 h g1)
  | 23 => (show CaseOk (f_L_case23 SL' sx p4 I O J) from cs_23 h g1)
  | 24 => (show CaseOk (f_L_case24 SL' sx p4 I O J) from cs_24 h g1)
  | 25 => (show CaseOk (f_L_case25 SL' sx p4 I O J) from cs_25 h g1)
  | 26 => (show CaseOk (f_L_case26 SL' sx p4 I O J) from cs_26 h g1)
  | 27 => (show CaseOk (f_L_case27 SL' sx p4 I O J) from cs_27 h g1)
  | 28 => (show CaseOk (f_L_case28 SL' sx p4 I O J) from cs_28 h g1)
  | 29 => (show CaseOk (f_L_case29 SL' sx p4 I O J) from cs_29 h g1)
  | 30 => (show CaseOk (f_L_case30 SL' sx p4 I O J) from cs_30 h g1)
  | 31 => (show CaseOk (f_L_case31 SL' sx p4 I O J) from cs_31 h g1)
  | 32 => (show CaseOk (f_L_case32 SL' sx p4 I O J) from cs_32 h g1)
  | 33 => (show CaseOk (f_L_case33 SL' sx p4 I O J) from cs_33 h g1)
  | 34 => (show CaseOk (f_L_case34 SL' sx p4 I O J) from cs_34 h g1 g2)
  | 35 => (show CaseOk (f_L_case35 SL' sx p4 I O J) from cs_35 h)
  | 36 => (show CaseOk (f_L_case36 SL' sx p4 I O J) from cs_36 h)
  | 37 => (show CaseOk (f_L_case37 SL' sx p4 I O J) from cs_37 h g1 g2)
  | 38 => (show CaseOk (f_L_case38 SL' sx p4 I O J) from cs_38 h g1)
  | 39 => (show CaseOk (f_L_case39 SL' sx p4 I O J) from cs_39 h)
  | 40 => (show CaseOk (f_L_case40 SL' sx p4 I O J) from cs_40 h)
  | 41 => (show CaseOk (f_L_case41 SL' sx p4 I O J) from cs_41 h)
  | 42 => (show CaseOk (f_L_case42 SL' sx p4 I O J) from cs_42 h g1)
  | 43 => (show CaseOk (f_L_case43 SL' sx p4 I O J) from cs_43 h g1)
  | 44 => (show CaseOk (f_L_case44 SL' sx p4 I O J) from cs_44 h)
  | 45 => (show CaseOk (f_L_case45 SL' sx p4 I O J) from cs_45 h)
  | 46 => (show CaseOk (f_L_case46 SL' sx p4 I O J) from cs_46 h)
  | 47 => (show CaseOk (f_L_case47 SL' sx p4 I O J) from cs_47 h)
  | 48 => (show CaseOk (f_L_case48 SL' sx p4 I O J) from cs_48 h)
  | 49 => (show CaseOk (f_L_case49 SL' sx p4 I O J) from cs_49 h)
  | 50 => (show CaseOk (f_L_case50 SL' sx p4 I O J) from cs_50 h)
  | 51 => (show CaseOk (f_L_case51 SL' sx p4 I O J) from cs_51 h)
  | 52 => (show CaseOk (f_L_case52 SL' sx p4 I O J) from cs_52 h)
  | k + 53 => ⟨I, O, J, rfl, h⟩
end CS
theorem loop_ok {SL' : Nat} {sx : Nat → Int32} (hL : SL' ≤ 2048) : ∀ (d j fuel : Nat) (I : Nat → Nat → Int32) (O : Nat → Nat → Option Nat) (J : Nat → Nat → Int64), SL' < 4 * (j + d) + 4 → 4 * j ≤ 4096 → d < fuel → Inv2 I I O → f_L_loop SL' sx fuel (nI (4 * j)) I O J = some () := by
  have e1 : (Int32.ofNat SL' - (4 : Int32)).toInt = (SL' : Int) - 4 := by
    rw [show Int32.ofNat SL' = nI SL' from rfl, Int32.toInt_sub, pi_int (by omega), show (4 : Int32).toInt = 4 from rfl]; apply Int.bmod_eq_of_le <;> omega
  intro d
  induction d with
  | zero =>
    intro j fuel I O J h1 h2 hf hI
    obtain ⟨f, rfl⟩ : ∃ f, fuel = f + 1 := ⟨fuel - 1, by omega⟩
    rw [f_L_loop, if_pos (by rw [Int32.lt_iff_toInt_lt, e1, pi_int (by omega)]; omega)]
  | succ d ih =>
    intro j fuel I O J h1 h2 hf hI
    obtain ⟨f, rfl⟩ : ∃ f, fuel = f + 1 := ⟨fuel - 1, by omega⟩
    by_cases c : (Int32.ofNat SL' - (4 : Int32)) < nI (4 * j)
    · rw [f_L_loop, if_pos c]
    · have hc : 4 * j + 4 ≤ SL' := by
        rw [Int32.lt_iff_toInt_lt, e1, pi_int (by omega)] at c; omega
      have gi : ∀ x, x < 4 → gin (nI (4 * j) + nI x) SL' = true := fun x hx => by rw [pi_add, pi_gin (by omega)]; exact decide_eq_true (by omega)
      rw [f_L_loop, if_neg c, pi_gin (by omega), decide_eq_true (by omega), hg_t]
      generalize (sx (nI (4 * j)).toNatClampNeg &&& (63 : Int32)).toNatClampNeg = k
      obtain ⟨I', O', J', a1, a2⟩ := cs_all (sx := sx) (J := J) hI (gi 1 (by omega)) (gi 2 (by omega)) (gi 3 (by omega)) k
      rw [a1]
      simp only [obs, hlet_e]
      rw [show nI (4 * j) + (4 : Int32) = nI (4 * (j + 1)) from pi_add (4 * j) 4]
      exact ih (j + 1) f I' O' J' (by omega) (by omega) (by omega) a2
def bno (a : Nat) : Nat := if a < 25 then (a - 1) % 12 - 4 else if a < 99 then (a - 27) % 12 - 4 else (a - 102) % 12 - 4
def w0I : Nat → Nat → Int32 := fun a i =>
  if SHK a = 6 then (if i = 0 then nI (bno a) else if i = 12 then -1 else 0)
  else if SHK a = 3 then (if i = 4 then 2 else 0)
  else if SHK a = 20 ∧ a < 126 then (if i < 4 then 20 else 0)
  else if a = 130 then (if i = 133 then 2 else if 129 ≤ i ∧ i < 133 then 20 else 0)
  else 0
def w0O : Nat → Nat → Option Nat := fun a i => if a = 26 ∧ i < 6 then some (27 + 12 * i) else none
def w0J : Nat → Nat → Int64 := fun _ _ => 0
theorem w0_rz : ZZ w0I := by
  intro β h
  unfold RZ
  rcases h with rfl | rfl | ⟨k, hk, rfl⟩ | rfl | rfl
  · decide +kernel
  · decide +kernel
  · exact (by decide +kernel : ∀ k, k < 6 → ∀ b, b < 8 → w0I (cB (27 + 12 * k) b) 0 = nI b ∧ gz (w0I (cB (27 + 12 * k) b) 11) = true) k hk
  · decide +kernel
  · decide +kernel
theorem w0_inv : Inv2 w0I w0I w0O := by
  have z101 : ∀ j, w0I 101 j = 0 := fun _ => rfl
  have z134 : ∀ j, w0I 134 j = 0 := fun _ => rfl
  refine ⟨0, 0, 0, ⟨⟨by decide +kernel, by decide +kernel, fun b hb => absurd hb (Nat.not_lt_zero b), fun b q hb => absurd hb (Nat.not_lt_zero b)⟩, w0_rz 1 isB1, by decide +kernel, ⟨⟨by decide +kernel, by omega⟩, fun b hb => absurd hb (Nat.not_lt_zero b), fun b hb => absurd hb (Nat.not_lt_zero b), fun k hk => ⟨20, (by decide +kernel : ∀ k, k < 4 → w0I 130 (129 + k) = nI 20) k hk, by omega, by omega⟩, ⟨⟨2, by decide +kernel, by omega, by omega⟩, ⟨0, by decide +kernel, by omega, by omega⟩⟩, by decide +kernel, fun k hk => absurd hk (Nat.not_lt_zero k), fun k j hk => absurd hk (Nat.not_lt_zero k), fun b hb => absurd hb (Nat.not_lt_zero b)⟩, fun _ b hb => absurd hb (Nat.not_lt_zero b), fun h => absurd h (by decide +kernel)⟩, w0_rz, ⟨by decide +kernel, by decide +kernel, by omega, id, fun i hi => ⟨hi, ?_⟩, fun i j _ _ h => h, fun i hi => absurd hi (Nat.not_lt_zero i)⟩, fun j hj => ⟨Or.inl (z101 j), by rw [z101, z134], fun h => absurd h (by rw [z101]; decide)⟩, by decide +kernel, by decide +kernel, by omega, fun i hi => absurd hi (Nat.not_lt_zero i)⟩
  show (if 26 = 26 ∧ i < 6 then some (27 + 12 * i) else none) = _
  rw [if_pos ⟨rfl, hi⟩]; rfl
theorem all_ok {SL' : Nat} {sx : Nat → Int32} (hL : SL' ≤ 2048) : f_L_loop SL' sx 4096 0 w0I w0O w0J = some () :=
  loop_ok hL 600 0 4096 w0I w0O w0J (by omega) (by omega) (by omega) w0_inv
