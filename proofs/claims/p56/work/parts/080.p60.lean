section CS
variable {SL' : Nat} {sx : Nat → Int32} {p4 : Int32} {I : Nat → Nat → Int32} {O : Nat → Nat → Option Nat} {J : Nat → Nat → Int64}
end CS
def bno (a : Nat) : Nat := if a < 25 then (a - 1) % 12 - 4 else if a < 99 then (a - 27) % 12 - 4 else (a - 102) % 12 - 4
def w0I : Nat → Nat → Int32 := fun a i =>
  if SHK a = 6 then (if i = 0 then nI (bno a) else if i = 12 then -1 else 0)
  else if SHK a = 3 then (if i = 4 then 2 else 0)
  else if SHK a = 20 ∧ a < 126 then (if i < 4 then 20 else 0)
  else if a = 130 then (if i = 133 then 2 else if 129 ≤ i ∧ i < 133 then 20 else 0)
  else 0
def w0O : Nat → Nat → Option Nat := fun a i => if a = 26 ∧ i < 6 then some (27 + 12 * i) else none
def w0J : Nat → Nat → Int64 := fun _ _ => 0
theorem w0_rz : ZZ w0I := by
  intro β h
  unfold RZ
  rcases h with rfl | rfl | ⟨k, hk, rfl⟩ | rfl | rfl
  · decide +kernel
  · decide +kernel
  · exact (by decide +kernel : ∀ k, k < 6 → ∀ b, b < 8 → w0I (cB (27 + 12 * k) b) 0 = nI b ∧ gz (w0I (cB (27 + 12 * k) b) 11) = true) k hk
  · decide +kernel
  · decide +kernel
theorem w0_inv : Inv2 w0I w0I w0O := by
  have z101 : ∀ j, w0I 101 j = 0 := fun _ => rfl
  have z134 : ∀ j, w0I 134 j = 0 := fun _ => rfl
  refine ⟨0, 0, 0, ⟨⟨by decide +kernel, by decide +kernel, fun b hb => absurd hb (Nat.not_lt_zero b), fun b q hb => absurd hb (Nat.not_lt_zero b)⟩, w0_rz 1 isB1, by decide +kernel, ⟨⟨by decide +kernel, by omega⟩, fun b hb => absurd hb (Nat.not_lt_zero b), fun b hb => absurd hb (Nat.not_lt_zero b), fun k hk => ⟨20, (by decide +kernel : ∀ k, k < 4 → w0I 130 (129 + k) = nI 20) k hk, by omega, by omega⟩, ⟨⟨2, by decide +kernel, by omega, by omega⟩, ⟨0, by decide +kernel, by omega, by omega⟩⟩, by decide +kernel, fun k hk => absurd hk (Nat.not_lt_zero k), fun k j hk => absurd hk (Nat.not_lt_zero k), fun b hb => absurd hb (Nat.not_lt_zero b)⟩, fun _ b hb => absurd hb (Nat.not_lt_zero b), fun h => absurd h (by decide +kernel)⟩, w0_rz, ⟨by decide +kernel, by decide +kernel, by omega, id, fun i hi => ⟨hi, ?_⟩, fun i j _ _ h => h, fun i hi => absurd hi (Nat.not_lt_zero i)⟩, fun j hj => ⟨Or.inl (z101 j), by rw [z101, z134], fun h => absurd h (by rw [z101]; decide)⟩, by decide +kernel, by decide +kernel, by omega, fun i hi => absurd hi (Nat.not_lt_zero i)⟩
  show (if 26 = 26 ∧ i < 6 then some (27 + 12 * i) else none) = _
  rw [if_pos ⟨rfl, hi⟩]; rfl
