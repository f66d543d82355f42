/-! The orders told as text: what a part of the text looks like, and how it is read. -/
def Ordr : Type := Nat × Nat × Nat
/-- the part of the text from i up to j is the order o -/
def Shp (c : Nat → Nat) (i j : Nat) (o : Nat × Nat × Nat) : Prop :=
  (o = (116, 0, 1) ∧ c i = 116 ∧ c (i + 1) = 49 ∧ j = i + 2) ∨
  (∃ d, d < 8 ∧ o = (110, d, 0) ∧ c i = 110 ∧ c (i + 1) = 48 + d ∧ j = i + 2) ∨
  (∃ d p, d < 8 ∧ 10 ≤ p ∧ p ≤ 40 ∧ o = (112, d, p) ∧ c i = 112 ∧ c (i + 1) = 48 + d ∧ c (i + 2) = 61 ∧ c (i + 3) = 48 + p / 10 ∧ c (i + 4) = 48 + p % 10 ∧ j = i + 5)
def Segs (c : Nat → Nat) (len : Nat) : List (Nat × Nat × Nat) → Nat → Prop
  | [], _ => False
  | [o], i => Shp c i len o
  | o :: o' :: r, i => ∃ j, Shp c i j o ∧ j < len ∧ c j = 59 ∧ Segs c len (o' :: r) (j + 1)
theorem Shp.lt {c : Nat → Nat} {i j : Nat} {o : Nat × Nat × Nat} (h : Shp c i j o) : i + 2 ≤ j ∧ j ≤ i + 5 := by
  rcases h with ⟨_, _, _, h⟩ | ⟨d, _, _, _, _, h⟩ | ⟨d, p, _, _, _, _, _, _, _, _, _, h⟩ <;> omega
theorem Shp.cg {c c' : Nat → Nat} {i j : Nat} {o : Nat × Nat × Nat} (h : Shp c i j o) (e : ∀ k, k < j → c' k = c k) : Shp c' i j o := by
  rcases h with ⟨h1, h2, h3, rfl⟩ | ⟨d, h1, h2, h3, h4, rfl⟩ | ⟨d, p, h1, h2, h3, h4, h5, h6, h7, h8, h9, rfl⟩
  · exact Or.inl ⟨h1, by rw [e _ (by omega)]; exact h2, by rw [e _ (by omega)]; exact h3, rfl⟩
  · exact Or.inr (Or.inl ⟨d, h1, h2, by rw [e _ (by omega)]; exact h3, by rw [e _ (by omega)]; exact h4, rfl⟩)
  · exact Or.inr (Or.inr ⟨d, p, h1, h2, h3, h4, by rw [e _ (by omega)]; exact h5, by rw [e _ (by omega)]; exact h6, by rw [e _ (by omega)]; exact h7, by rw [e _ (by omega)]; exact h8, by rw [e _ (by omega)]; exact h9, rfl⟩)
theorem Segs.snoc {c c' : Nat → Nat} {len len' : Nat} {o : Nat × Nat × Nat} (e : ∀ k, k < len → c' k = c k) (e59 : c' len = 59) (h' : Shp c' (len + 1) len' o) : ∀ (os : List (Nat × Nat × Nat)) (i : Nat), Segs c len os i → Segs c' len' (os ++ [o]) i := by
  intro os
  induction os with
  | nil => intro i h; exact h.elim
  | cons a r ih =>
    intro i h
    have hl := h'.lt
    cases r with
    | nil =>
      have h : Shp c i len a := h
      exact ⟨len, h.cg e, by omega, e59, h'⟩
    | cons b r =>
      obtain ⟨j, h1, h2, h3, h4⟩ := h
      exact ⟨j, h1.cg (fun k hk => e k (by omega)), by omega, by rw [e j h2]; exact h3, ih (j + 1) h4⟩
theorem nGo_stop {c : Nat → Nat} {len hi i m : Nat} (f : Nat) (h : i = len ∨ c i = 59) (hf : i = len → f = 0) : nGo c len hi f i m = (i, m) := by
  cases f with
  | zero => rfl
  | succ f =>
    unfold nGo
    rw [if_neg]
    rcases h with h | h
    · exact absurd (hf h) (by omega)
    · omega
theorem pt_of {c : Nat → Nat} {len i j : Nat} {o : Nat × Nat × Nat} (h : Shp c i j o) (hj : j = len ∨ (j < len ∧ c j = 59)) : pt c len i = some (j, o) := by
  have hl : j ≤ len := by omega
  have h59 : j = len ∨ c j = 59 := hj.imp id (fun h => h.2)
  rcases h with ⟨rfl, h2, h3, rfl⟩ | ⟨d, h1, rfl, h3, h4, rfl⟩ | ⟨d, p, h1, h2, h3, rfl, h5, h6, h7, h8, h9, rfl⟩
  · unfold pt
    rw [if_pos (by omega), if_pos h2]
    unfold nP
    rw [if_pos ⟨by omega, by omega, by omega⟩, h3, if_neg (by omega), nGo_stop (len - (i + 1 + 1)) h59 (by omega), if_neg (by omega)]
    rfl
  · unfold pt
    rw [if_pos (by omega), if_neg (by omega), if_pos (by omega), if_pos ⟨by omega, by omega, by rw [if_neg (by omega)]; omega⟩, if_pos h3, h4, Nat.add_sub_cancel_left]
  · unfold pt
    have hp1 : p / 10 ≤ 4 := by omega
    rw [if_pos (by omega), if_neg (by omega), if_pos (by omega), if_pos ⟨by omega, by omega, by rw [if_neg (by omega)]; omega⟩, if_neg (by omega), if_pos ⟨by omega, h7⟩, if_pos h5]
    unfold nP
    rw [if_pos ⟨by omega, by omega, by omega⟩, h8, if_neg (by omega), Nat.add_sub_cancel_left]
    obtain ⟨f, hf⟩ : ∃ f, len - (i + 3 + 1) = f + 1 := ⟨len - (i + 5), by omega⟩
    have hg : nGo c len 40 (f + 1) (i + 3 + 1) (p / 10) = (i + 5, p) := by
      unfold nGo
      rw [show i + 3 + 1 = i + 4 from rfl, h9, if_pos (by omega), show 10 * (p / 10) + (48 + p % 10 - 48) = p by omega, show i + 4 + 1 = i + 5 from rfl]
      exact nGo_stop f h59 (by omega)
    rw [hf, hg, if_neg (show ¬ (p < 10) by omega), h5, h6, Nat.add_sub_cancel_left]
    rfl
