/-! The text of the orders, as it is written. -/
theorem cell_v {SL : Nat} {sx : Nat → Int32} {j : Nat} (hj : j < 100) : ∃ x : Nat, x < 2147483648 ∧ f_L_cell SL sx (nI j) = some (nI x) := by
  have pos : ∀ y : Int32, ∃ x : Nat, x < 2147483648 ∧ (y &&& 2147483647) = nI x := by
    intro y
    have h0 : 0 ≤ (y &&& 2147483647).toInt := by
      have e : (y &&& 2147483647).toBitVec.msb = false := by
        rw [show (y &&& 2147483647).toBitVec = y.toBitVec &&& (2147483647 : Int32).toBitVec from rfl, BitVec.msb_and, show (2147483647 : Int32).toBitVec.msb = false by decide, Bool.and_false]
      show 0 ≤ (y &&& 2147483647).toBitVec.toInt
      rw [BitVec.toInt_eq_toNat_of_msb e]; omega
    exact pi_of h0
  unfold f_L_cell
  by_cases c : Int32.ofNat SL ≤ nI j
  · obtain ⟨x, x1, x2⟩ := pos ((49507 : Int32) * (nI j + 409) + 457)
    exact ⟨x, x1, (if_pos c).trans (congrArg some x2)⟩
  · obtain ⟨x, x1, x2⟩ := pos (sx (nI j).toNatClampNeg)
    refine ⟨x, x1, (if_neg c).trans ?_⟩
    have hjs : j < SL := by
      rcases Nat.lt_or_ge j SL with h | h
      · exact h
      · exact absurd ((pi_le (a := SL) (b := j) (by omega) (by omega)).mpr h) c
    rw [pi_gin (by omega), decide_eq_true hjs, hg_t, x2]
section TXS
variable {I K : Nat → Nat → Int32} {O : Nat → Nat → Option Nat} {c : Nat → Nat} {len : Nat}
theorem app1 {x : Nat} (h : Inv2 I K O) (hT : TI I c len) (hl : len < 60) (h1 : 33 ≤ x) (h2 : x ≤ 126) : ∃ I' K' c', f_L_append (nI x) I = some (nI (len + 1), I') ∧ Inv2 I' K' O ∧ TI I' c' (len + 1) ∧ (∀ i, i < len → c' i = c i) ∧ c' len = x ∧ ∀ a, a < 126 → I' a = I a := by
  obtain ⟨r, K', hd⟩ := i_append (nI x) K
  obtain ⟨I', e, i1, f1⟩ := hd I O h
  obtain ⟨t1, t2, t3⟩ := hT
  obtain ⟨e1, e2⟩ := ch_e x (by omega)
  have f5 : gin (nI len) 60 = true := by rw [pi_gin (by omega)]; exact decide_eq_true hl
  have i126 : gup I 127 len (nI x) 126 1 = nI len := by rw [gup_ne (by omega)]; exact t1
  have e' : f_L_append (nI x) I = some (nI (len + 1), gup (gup I 127 len (nI x)) 126 1 (nI (len + 1))) := by
    unfold f_L_append f_X7_append f_X2_isFull f_X2_add
    rw [if_neg (by rw [show (33 : Int32) = nI 33 from rfl, pi_lt (by omega) (by omega)]; omega), if_pos (by rw [show (126 : Int32) = nI 126 from rfl, pi_le (by omega) (by omega)]; omega), t1, if_pos (by rw [show (60 : Int32) = nI 60 from rfl, pi_lt (by omega) (by omega)]; omega)]
    simp only [Option.bind_some, if_true]
    rw [e1, if_neg (nlt0 (by omega)), if_neg (by rw [show (60 : Int32) = nI 60 from rfl, pi_le (by omega) (by omega)]; omega), f5, e2, hg_t, hg_t, pi_tn (by omega)]
    simp only [hlet_e]
    rw [i126, show nI len + (1 : Int32) = nI (len + 1) from pi_add len 1]
    simp only [Option.bind_some]
    rw [gup_at]; rfl
  rw [e'] at e
  have e := Option.some.inj e
  obtain rfl : gup (gup I 127 len (nI x)) 126 1 (nI (len + 1)) = I' := congrArg (fun z => z.2) e
  refine ⟨_, K', fun i => if i = len then x else c i, e', i1, ⟨gup_at, by omega, fun i hi => ?_⟩, fun i hi => if_neg (by omega), if_pos rfl, f1⟩
  rw [gup_ne (show (127 : Nat) ≠ 126 by omega)]
  dsimp only
  by_cases z : i = len
  · subst z
    rw [if_pos rfl, gup_at]; exact ⟨h1, h2, rfl⟩
  · rw [if_neg z, gup_i z]; exact t3 i (by omega)
theorem num1 {v : Nat} (h : Inv2 I K O) (hT : TI I c len) (hl : len < 60) (hv : v < 10) : ∃ I' K' c', f_L_number (nI v) I = some (nI (len + 1), I') ∧ Inv2 I' K' O ∧ TI I' c' (len + 1) ∧ (∀ i, i < len → c' i = c i) ∧ c' len = 48 + v ∧ ∀ a, a < 126 → I' a = I a := by
  obtain ⟨I', K', c', a1, a2⟩ := app1 (x := 48 + v) h hT hl (by omega) (by omega)
  refine ⟨I', K', c', ?_, a2⟩
  unfold f_L_number
  refine sq1 (a := ((0 : Int32), I)) (ifp (by rw [show (99 : Int32) = nI 99 from rfl, pi_le (by omega) (by omega)]; omega) rfl) ?_
  refine sq1 (a := ((0 : Int32), I)) (ifp (by rw [show (9 : Int32) = nI 9 from rfl, pi_le (by omega) (by omega)]; omega) rfl) ?_
  rw [show nI v - nI v / (10 : Int32) * (10 : Int32) = nI (v % 10) from mod_e (m := 10) (by omega) (by omega), show (48 : Int32) + nI (v % 10) = nI (48 + v % 10) from pi_add 48 _, Nat.mod_eq_of_lt hv]
  exact sq1 a1 rfl
theorem num2 {v : Nat} (h : Inv2 I K O) (hT : TI I c len) (hl : len < 59) (h10 : 10 ≤ v) (hv : v ≤ 40) : ∃ I' K' c', f_L_number (nI v) I = some (nI (len + 2), I') ∧ Inv2 I' K' O ∧ TI I' c' (len + 2) ∧ (∀ i, i < len → c' i = c i) ∧ c' len = 48 + v / 10 ∧ c' (len + 1) = 48 + v % 10 ∧ ∀ a, a < 126 → I' a = I a := by
  obtain ⟨I1, K1, c1, a1, a2, a3, a4, a5, a6⟩ := app1 (x := 48 + v / 10) h hT (by omega) (by omega) (by omega)
  obtain ⟨I2, K2, c2, b1, b2, b3, b4, b5, b6⟩ := app1 (x := 48 + v % 10) a2 a3 (by omega) (by omega) (by omega)
  refine ⟨I2, K2, c2, ?_, b2, b3, fun i hi => (b4 i (by omega)).trans (a4 i hi), (b4 len (by omega)).trans a5, b5, fun a ha => (b6 a ha).trans (a6 a ha)⟩
  unfold f_L_number
  refine sq1 (a := ((0 : Int32), I)) (ifp (by rw [show (99 : Int32) = nI 99 from rfl, pi_le (by omega) (by omega)]; omega) rfl) ?_
  refine sq1 (a := (nI (len + 1), I1)) (ifn (by rw [show (9 : Int32) = nI 9 from rfl, pi_le (by omega) (by omega)]; omega) ?_) ?_
  · rw [show nI v / (10 : Int32) = nI (v / 10) from pi_div (b := 10) (by omega) (by omega), show nI (v / 10) - nI (v / 10) / (10 : Int32) * (10 : Int32) = nI (v / 10 % 10) from mod_e (m := 10) (by omega) (by omega), show (48 : Int32) + nI (v / 10 % 10) = nI (48 + v / 10 % 10) from pi_add 48 _, Nat.mod_eq_of_lt (show v / 10 < 10 by omega)]
    exact sq1 a1 rfl
  · rw [show nI v - nI v / (10 : Int32) * (10 : Int32) = nI (v % 10) from mod_e (m := 10) (by omega) (by omega), show (48 : Int32) + nI (v % 10) = nI (48 + v % 10) from pi_add 48 _]
    exact sq1 b1 rfl
/-- the text so far, and the orders that it tells -/
def TSt (m : Nat) (c : Nat → Nat) (len : Nat) (os : List (Nat × Nat × Nat)) : Prop := os.length = m ∧ len ≤ 6 * m ∧ ((m = 0 ∧ len = 0) ∨ (0 < m ∧ Segs c len os 0))
theorem sep_v {m : Nat} {os : List (Nat × Nat × Nat)} (h : Inv2 I K O) (hT : TI I c len) (ht : TSt m c len os) (hm : m < 8) : ∃ r I' K' c' l1, (if nI m ≤ 0 then some ((0 : Int32), I) else (f_L_append (59 : Int32) I).bind fun (r160, I2_159) => some (r160, I2_159)) = some (r, I') ∧ Inv2 I' K' O ∧ TI I' c' l1 ∧ l1 ≤ 6 * m + 1 ∧ (∀ a, a < 126 → I' a = I a) ∧ (∀ c2 l2 o, (∀ i, i < l1 → c2 i = c' i) → Shp c2 l1 l2 o → TSt (m + 1) c2 l2 (os ++ [o])) := by
  obtain ⟨t1, t2, t3⟩ := ht
  rcases t3 with ⟨z1, z2⟩ | ⟨z1, z2⟩
  · subst z1
    refine ⟨0, I, K, c, len, ifp (by decide) rfl, h, hT, by omega, fun _ _ => rfl, fun c2 l2 o e hs => ?_⟩
    have hl := hs.lt
    obtain rfl : os = [] := List.length_eq_zero_iff.mp t1
    refine ⟨rfl, by omega, Or.inr ⟨by omega, ?_⟩⟩
    show Shp c2 0 l2 o
    rw [z2] at hs; exact hs
  · obtain ⟨I', K', c', a1, a2, a3, a4, a5, a6⟩ := app1 (x := 59) h hT (by omega) (by omega) (by omega)
    refine ⟨nI (len + 1), I', K', c', len + 1, ifn (by rw [show (0 : Int32) = nI 0 from rfl, pi_le (by omega) (by omega)]; omega) (sq1 a1 rfl), a2, a3, by omega, a6, fun c2 l2 o e hs => ?_⟩
    have hl := hs.lt
    refine ⟨by rw [List.length_append, t1]; rfl, by omega, Or.inr ⟨by omega, ?_⟩⟩
    exact Segs.snoc (fun k hk => (e k (by omega)).trans (a4 k hk)) ((e len (by omega)).trans a5) hs os 0 z2
end TXS
