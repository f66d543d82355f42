/-! Calls that are refused leave all as it is. -/
theorem sub_int {k m : Nat} (hk : k < 10000) (hm : m < 1000000) : (nI k - nI m).toInt = (k : Int) - m := by
  rw [Int32.toInt_sub, pi_int (by omega), pi_int (by omega)]; apply Int.bmod_eq_of_le <;> omega
theorem neg_int {m : Nat} (hm : m < 1000000) : (-nI m : Int32).toInt = -(m : Int) := by
  rw [Int32.toInt_neg, pi_int (by omega)]; apply Int.bmod_eq_of_le <;> omega
theorem m1_int {m : Nat} (hm : m < 1000000) : ((-1 : Int32) - nI m).toInt = -1 - (m : Int) := by
  rw [Int32.toInt_sub, pi_int (by omega), show (-1 : Int32).toInt = -1 from rfl]; apply Int.bmod_eq_of_le <;> omega
section RF
variable {I K : Nat → Nat → Int32} {O : Nat → Nat → Option Nat} {n : Nat} {s : Nat → Int32}
theorem r_enter1 {a b c : Int32} (h : a < (10 : Int32) ∨ (40 : Int32) < a) : f_L_enter a b c I O = some (-3, I, O) := by
  unfold f_L_enter f_X7_enter f_X7_isPace
  by_cases c1 : a < (10 : Int32)
  · rw [if_pos c1]; rfl
  · rw [if_neg c1, if_pos (h.resolve_left c1)]; rfl
theorem r_enter2 {b c : Int32} (h : b < (100 : Int32) ∨ (999 : Int32) < b) : f_L_enter (20 : Int32) b c I O = some (-3, I, O) := by
  unfold f_L_enter f_X7_enter
  rw [show f_X7_isPace (20 : Int32) = some 1 from rfl]
  simp only [Option.bind_some, show ¬ ((1 : Int32) = 0) by decide, if_false]
  by_cases c1 : b < (100 : Int32)
  · rw [if_pos c1]; rfl
  · rw [if_neg c1, if_pos (h.resolve_left c1)]; rfl
theorem r_enter3 {c : Int32} (h : c < 0 ∨ (2 : Int32) ≤ c) : f_L_enter (20 : Int32) (500 : Int32) c I O = some (-3, I, O) := by
  unfold f_L_enter f_X7_enter
  rw [show f_X7_isPace (20 : Int32) = some 1 from rfl]
  simp only [Option.bind_some, show ¬ ((1 : Int32) = 0) by decide, if_false]
  rw [if_neg (show ¬ ((500 : Int32) < 100) by decide), if_neg (show ¬ ((999 : Int32) < 500) by decide)]
  by_cases c1 : c < 0
  · rw [if_pos c1]; rfl
  · rw [if_neg c1, if_neg (fun z => absurd (Int32.le_trans (h.resolve_left c1) z) (by decide))]; rfl
theorem r_enter4 (h : RR I 1 s n) (hc : n = 8 ∨ I 1 5 = 1) : f_L_enter (20 : Int32) (500 : Int32) (0 : Int32) I O = some (-4, I, O) := by
  have hn := rr_n h
  unfold f_L_enter f_X7_enter
  rw [show f_X7_isPace (20 : Int32) = some 1 from rfl]
  simp only [Option.bind_some, show ¬ ((1 : Int32) = 0) by decide, if_false]
  rw [if_neg (show ¬ ((500 : Int32) < 100) by decide), if_neg (show ¬ ((999 : Int32) < 500) by decide), if_neg (show ¬ ((0 : Int32) < 0) by decide), if_pos (show (0 : Int32) ≤ 1 by decide), rr_3 h]
  by_cases c : n = 8
  · rw [c, if_pos (show (8 : Int32) ≤ nI 8 by decide)]; rfl
  · rw [if_neg (by rw [show (8 : Int32) = nI 8 from rfl, pi_le (by omega) (by omega)]; omega), hc.resolve_left c]; rfl
theorem r_setPace1 {a p : Int32} (h : RR I 1 s n) (ha : a < 0 ∨ nI n ≤ a) : f_L_setPace a p I O = some (-2, I, O) := by
  unfold f_L_setPace f_X7_setPace
  rw [kn_out h ha]; rfl
theorem r_pace {p : Int32} (hp : p < (10 : Int32) ∨ (40 : Int32) < p) : f_X7_checkPace p = some (Sum.inl 1) := by
  unfold f_X7_checkPace f_X7_isPace
  by_cases c1 : p < (10 : Int32)
  · rw [if_pos c1]; rfl
  · rw [if_neg c1, if_pos (hp.resolve_left c1)]; rfl
theorem r_setPace2 {b : Nat} {p : Int32} (h : RR I 1 s n) (hb : b < n) (hp : p < (10 : Int32) ∨ (40 : Int32) < p) : f_L_setPace (nI b) p I O = some (-3, I, O) := by
  unfold f_L_setPace f_X7_setPace
  rw [kn_in h hb]
  simp only [Option.bind_some, hsum]
  rw [r_pace hp]; rfl
theorem r_callIn1 {a : Int32} (h : RR I 1 s n) (ha : a < 0 ∨ nI n ≤ a) : f_L_callIn a I O = some (-2, I, O) := by
  unfold f_L_callIn f_X7_callIn
  rw [kn_out h ha]; rfl
theorem r_callIn2 {b : Nat} (h : RR I 1 s n) (hb : b < n) (h9 : I (cB 1 b) 9 = (3 : Int32)) : f_L_callIn (nI b) I O = some (-4, I, O) := by
  unfold f_L_callIn f_X7_callIn
  rw [kn_in h hb]
  simp only [Option.bind_some, hsum]
  rw [hk_e (rr_s h hb), if_pos h9]; rfl
theorem r_pair1 {a : Int32} (h : RR I 1 s n) (ha : a < 0 ∨ nI n ≤ a) : f_L_pair a a I O = some (-2, I, O) := by
  unfold f_L_pair f_X7_pair
  rw [kn_out h ha]; rfl
theorem r_pair2 {b : Nat} (h : RR I 1 s n) (hb : b < n) : f_L_pair (nI b) (nI b) I O = some (-3, I, O) := by
  unfold f_L_pair f_X7_pair
  rw [kn_in h hb]
  simp only [Option.bind_some, hsum]
  rw [if_pos trivial]; rfl
theorem r_setLimit1 {a l : Int32} (ha : a < 0 ∨ (4 : Int32) ≤ a) : f_L_setLimit a l I O = some (-2, I, O) := by
  unfold f_L_setLimit f_X7_setLimit f_X7_checkCorner
  by_cases c0 : a < 0
  · rw [if_pos c0]; rfl
  · rw [if_neg c0, if_neg (Int32.not_lt.mpr (ha.resolve_left c0))]; rfl
theorem r_setLimit2 {a l : Int32} (ha : f_X7_checkCorner a = some (Sum.inr ())) (hl : l < (8 : Int32) ∨ (40 : Int32) < l) : f_L_setLimit a l I O = some (-3, I, O) := by
  unfold f_L_setLimit f_X7_setLimit
  rw [ha]
  simp only [Option.bind_some, hsum]
  by_cases c0 : l < (8 : Int32)
  · rw [if_pos c0]; rfl
  · rw [if_neg c0, if_neg (Int32.not_le.mpr (hl.resolve_left c0))]; rfl
theorem r_setLaps1 {a : Int32} (ha : a < (1 : Int32) ∨ (9 : Int32) < a) : f_L_setLaps a I O = some (-3, I, O) := by
  unfold f_L_setLaps f_X7_setLaps
  by_cases c0 : a < (1 : Int32)
  · rw [if_pos c0]; rfl
  · rw [if_neg c0, if_neg (Int32.not_le.mpr (ha.resolve_left c0))]; rfl
theorem r_setLaps2 (h5 : I 1 5 = 1) : f_L_setLaps (3 : Int32) I O = some (-4, I, O) := by
  unfold f_L_setLaps f_X7_setLaps
  rw [if_neg (show ¬ ((3 : Int32) < 1) by decide), if_pos (show (3 : Int32) ≤ 9 by decide), h5]; rfl
theorem r_pass1 {a : Int32} (ha : a < (1 : Int32) ∨ (200 : Int32) < a) : f_L_pass a I O = some (-3, I, O) := by
  unfold f_L_pass f_X7_pass f_X7_checkSeconds
  by_cases c0 : a < (1 : Int32)
  · rw [if_pos c0]; rfl
  · rw [if_neg c0, if_neg (Int32.not_le.mpr (ha.resolve_left c0))]; rfl
theorem r_pass2 {m : Nat} (h1 : 1 ≤ m) (h2 : m ≤ 200) (h5 : I 1 5 = 0) : f_L_pass (nI m) I O = some (-4, I, O) := by
  unfold f_L_pass f_X7_pass f_X7_checkSeconds f_X7_checkRacing
  rw [if_neg (by rw [show (1 : Int32) = nI 1 from rfl, pi_lt (by omega) (by omega)]; omega), if_pos (by rw [show (200 : Int32) = nI 200 from rfl, pi_le (by omega) (by omega)]; omega), h5]; rfl
theorem r_append {a : Int32} (ha : a < (33 : Int32) ∨ (126 : Int32) < a) : f_L_append a I = some (-3, I) := by
  unfold f_L_append f_X7_append
  by_cases c0 : a < (33 : Int32)
  · rw [if_pos c0]; rfl
  · rw [if_neg c0, if_neg (Int32.not_le.mpr (ha.resolve_left c0))]; rfl
theorem r_slot {a : Int32} (ha : a < 0 ∨ (2 : Int32) ≤ a) : f_X7_checkSlot a = some (Sum.inl 1) := by
  unfold f_X7_checkSlot
  by_cases c0 : a < 0
  · rw [if_pos c0]
  · rw [if_neg c0, if_neg (Int32.not_lt.mpr (ha.resolve_left c0))]
theorem r_keep {a : Int32} (ha : a < 0 ∨ (2 : Int32) ≤ a) : f_L_keep a I = some (-3, I) := by
  unfold f_L_keep f_X7_keep
  rw [r_slot ha]; rfl
theorem r_goBack {a : Int32} (ha : a < 0 ∨ (2 : Int32) ≤ a) : f_L_goBack a I O = some (-3, I, O) := by
  unfold f_L_goBack f_X7_goBack
  rw [r_slot ha]; rfl
theorem r_begin (h : RR I 1 s n) (hn : n = 0) : f_L_begin I O = some (-4, I, O) := by
  unfold f_L_begin f_X7_begin
  rw [rr_3 h, hn, if_pos (show nI 0 = 0 from rfl)]; rfl
theorem r_wouldFly1 {a l : Int32} (h : RR I 1 s n) (ha : a < 0 ∨ nI n ≤ a) : f_L_wouldFly a l I O = some (-2, I, O) := by
  unfold f_L_wouldFly f_X7_wouldFly
  rw [kn_out h ha]; rfl
theorem r_wouldFly2 {b : Nat} {l : Int32} (h : RR I 1 s n) (hb : b < n) (hl : l < (1 : Int32) ∨ (200 : Int32) < l) : f_L_wouldFly (nI b) l I O = some (-3, I, O) := by
  unfold f_L_wouldFly f_X7_wouldFly f_X7_checkSeconds
  rw [kn_in h hb]
  simp only [Option.bind_some, hsum]
  by_cases c0 : l < (1 : Int32)
  · rw [if_pos c0]; rfl
  · rw [if_neg c0, if_neg (Int32.not_le.mpr (hl.resolve_left c0))]; rfl
theorem r_wouldFly3 {b m : Nat} (h : RR I 1 s n) (hb : b < n) (h1 : 1 ≤ m) (h2 : m ≤ 200) (h5 : I 1 5 = 0) : f_L_wouldFly (nI b) (nI m) I O = some (-4, I, O) := by
  unfold f_L_wouldFly f_X7_wouldFly f_X7_checkSeconds f_X7_checkRacing
  rw [kn_in h hb]
  simp only [Option.bind_some, hsum]
  rw [if_neg (by rw [show (1 : Int32) = nI 1 from rfl, pi_lt (by omega) (by omega)]; omega), if_pos (by rw [show (200 : Int32) = nI 200 from rfl, pi_le (by omega) (by omega)]; omega), h5]; rfl
theorem r_fwp1 {a l : Int32} (h : RR I 1 s n) (ha : a < 0 ∨ nI n ≤ a) : f_L_flownWithPace a l I O = some (-2, I, O) := by
  unfold f_L_flownWithPace f_X7_flownWithPace
  rw [kn_out h ha]; rfl
theorem r_fwp2 {b : Nat} {p : Int32} (h : RR I 1 s n) (hb : b < n) (hp : p < (10 : Int32) ∨ (40 : Int32) < p) : f_L_flownWithPace (nI b) p I O = some (-3, I, O) := by
  unfold f_L_flownWithPace f_X7_flownWithPace
  rw [kn_in h hb]
  simp only [Option.bind_some, hsum]
  rw [r_pace hp]; rfl
theorem r_fwp3 {b : Nat} (h : RR I 1 s n) (hb : b < n) (h5 : I 1 5 = 0) : f_L_flownWithPace (nI b) (20 : Int32) I O = some (-4, I, O) := by
  unfold f_L_flownWithPace f_X7_flownWithPace f_X7_checkRacing
  rw [kn_in h hb]
  simp only [Option.bind_some, hsum]
  rw [show f_X7_checkPace (20 : Int32) = some (Sum.inr ()) from rfl, h5]; rfl
theorem r_best1 {a : Int32} (h : RR I 1 s n) (ha : a < 0 ∨ nI n ≤ a) : f_L_bestPace a I O = some (-2, I, O) := by
  unfold f_L_bestPace f_X7_bestPace
  rw [kn_out h ha]; rfl
theorem r_best2 {b : Nat} (h : RR I 1 s n) (hb : b < n) (h5 : I 1 5 = 0) : f_L_bestPace (nI b) I O = some (-4, I, O) := by
  unfold f_L_bestPace f_X7_bestPace f_X7_checkRacing
  rw [kn_in h hb]
  simp only [Option.bind_some, hsum]
  rw [h5]; rfl
theorem e_arrived (h : RR I 1 s n) : f_X7_arrived I = some (nI (cnt3 s n)) := by
  unfold f_X7_arrived
  rw [h.1.1.2.2.2.1, (rr_w h).a.1]
theorem e_sparrows (h : RR I 1 s n) : f_X7_sparrows I = some (nI n) := by
  unfold f_X7_sparrows
  rw [rr_3 h]
theorem e_isRacing (h : RR I 1 s n) : f_X7_isRacing I = some (I 1 5) := by
  unfold f_X7_isRacing
  rw [h.gz5, hg_t]
end RF
