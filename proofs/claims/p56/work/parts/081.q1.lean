/-! What the law's own small methods answer, told by the class's cells. -/
theorem Bd.le {x : Int32} {lo hi lo' hi' : Nat} (h : Bd x lo hi) (h1 : lo' ≤ lo) (h2 : hi ≤ hi') : Bd x lo' hi' := by
  obtain ⟨v, e, a, b⟩ := h
  exact ⟨v, e, by omega, by omega⟩
section QB
variable {I : Nat → Nat → Int32} {O : Nat → Nat → Option Nat} {n : Nat} {s : Nat → Int32}
theorem rr_n (h : RR I 1 s n) : n ≤ 8 := h.2.2.2.1.1.2
theorem rr_3 (h : RR I 1 s n) : I 1 3 = nI n := h.1.1.1.trans h.2.2.2.1.1.1
theorem rr_w (h : RR I 1 s n) : WX s n := h.2.2.2.1
theorem rr_b (h : RR I 1 s n) {b : Nat} (hb : b < n) : RB I (cB 1 b) s b := h.1.2.2.1 b hb
theorem rr_s {b : Nat} (h : RR I 1 s n) (hb : b < n) : SHK (cB 1 b) = 6 := sk_b isB1 (by have := rr_n h; omega)
theorem rr_q (h : RR I 1 s n) : QR I 1 s n := h.1.q isB1 h.2.1 (rr_w h)
theorem rr_no {b : Nat} (h : RR I 1 s n) (hb : b < n) : I (cB 1 b) 0 = nI b := (h.2.1 b (by have := rr_n h; omega)).1
theorem kn_in {b : Nat} (h : RR I 1 s n) (hb : b < n) : f_X7_known (nI b) I = some (Sum.inr (some (cB 1 b))) := by
  unfold f_X7_known
  rw [x3_atb (rr_3 h) (rr_n h) hb]
  simp only [Option.bind_some]
  rw [hopt_e2, hk_e (rr_s h hb)]
theorem kn_out {a : Int32} (h : RR I 1 s n) (ha : a < 0 ∨ nI n ≤ a) : f_X7_known a I = some (Sum.inl 0) := by
  unfold f_X7_known f_X3_at
  rw [rr_3 h]
  by_cases c0 : a < 0
  · rw [if_pos c0]; rfl
  · rw [if_neg c0, if_pos (ha.resolve_left c0)]; rfl
theorem e_flown {b : Nat} (h : RR I 1 s n) (hb : b < n) : f_L_flown (nI b) I = some (I (cB 1 b) 4) := by
  unfold f_L_flown f_X7_flown
  rw [kn_in h hb]
  simp only [Option.bind_some, hsum]
  rw [hk_e (rr_s h hb)]
  simp only [Option.bind_some]
theorem e_speedOf {b : Nat} (h : RR I 1 s n) (hb : b < n) : f_L_speedOf (nI b) I = some (I (cB 1 b) 5) := by
  unfold f_L_speedOf f_X7_speedOf
  rw [kn_in h hb]
  simp only [Option.bind_some, hsum]
  rw [hk_e (rr_s h hb)]
  simp only [Option.bind_some]
theorem e_strengthOf {b : Nat} (h : RR I 1 s n) (hb : b < n) : f_L_strengthOf (nI b) I = some (I (cB 1 b) 6) := by
  unfold f_L_strengthOf f_X7_strengthOf
  rw [kn_in h hb]
  simp only [Option.bind_some, hsum]
  rw [hk_e (rr_s h hb)]
  simp only [Option.bind_some]
theorem e_wearOf {b : Nat} (h : RR I 1 s n) (hb : b < n) : f_L_wearOf (nI b) I = some (I (cB 1 b) 7) := by
  unfold f_L_wearOf f_X7_wearOf
  rw [kn_in h hb]
  simp only [Option.bind_some, hsum]
  rw [hk_e (rr_s h hb)]
  simp only [Option.bind_some]
theorem e_laneOf {b : Nat} (h : RR I 1 s n) (hb : b < n) : f_L_laneOf (nI b) I = some (I (cB 1 b) 8) := by
  unfold f_L_laneOf f_X7_laneOf
  rw [kn_in h hb]
  simp only [Option.bind_some, hsum]
  rw [hk_e (rr_s h hb)]
  simp only [Option.bind_some]
theorem e_stateOf {b : Nat} (h : RR I 1 s n) (hb : b < n) : f_L_stateOf (nI b) I = some (I (cB 1 b) 9) := by
  unfold f_L_stateOf f_X7_stateOf
  rw [kn_in h hb]
  simp only [Option.bind_some, hsum]
  rw [hk_e (rr_s h hb)]
  simp only [Option.bind_some]
theorem e_paceOf {b : Nat} (h : RR I 1 s n) (hb : b < n) : f_L_paceOf (nI b) I = some (I (cB 1 b) 1) := by
  unfold f_L_paceOf f_X7_paceOf
  rw [kn_in h hb]
  simp only [Option.bind_some, hsum]
  rw [hk_e (rr_s h hb)]
  simp only [Option.bind_some]
theorem e_lapsOf {b : Nat} (h : RR I 1 s n) (hb : b < n) : f_L_lapsOf (nI b) I = some (I (cB 1 b) 4 / (400 : Int32)) := by
  unfold f_L_lapsOf f_X7_lapsOf
  rw [kn_in h hb]
  simp only [Option.bind_some, hsum]
  rw [hk_e (rr_s h hb)]
  unfold f_X6_lapsOver
  simp only [Option.bind_some]
theorem e_partnerOf {b : Nat} (h : RR I 1 s n) (hb : b < n) : f_L_partnerOf (nI b) I = some (if I (cB 1 b) 12 = (-1 : Int32) then (-4 : Int32) else I (cB 1 b) 12) := by
  unfold f_L_partnerOf f_X7_partnerOf
  rw [kn_in h hb]
  simp only [Option.bind_some, hsum]
  rw [hk_e (rr_s h hb)]
  by_cases c : I (cB 1 b) 12 = (-1 : Int32)
  · rw [if_pos c, if_pos c]; rfl
  · rw [if_neg c, if_neg c]; rfl
theorem e_isCalledIn {b : Nat} (h : RR I 1 s n) (hb : b < n) : f_L_isCalledIn (nI b) I = some (I (cB 1 b) 11) := by
  have z := (h.2.1 b (by have := rr_n h; omega)).2
  unfold f_L_isCalledIn f_X7_isCalledIn
  rw [kn_in h hb]
  simp only [Option.bind_some, hsum]
  rw [hk_e (rr_s h hb), z, hg_t]
  simp only [Option.bind_some]
  rcases gz_of z with e | e
  · rw [e, if_pos rfl]
  · rw [e, if_neg (by decide)]
theorem e_timeOf {b : Nat} (h : RR I 1 s n) (hb : b < n) : f_L_timeOf (nI b) I = some (if I (cB 1 b) 9 = (3 : Int32) then I (cB 1 b) 14 else (-4 : Int32)) := by
  unfold f_L_timeOf f_X7_timeOf
  rw [kn_in h hb]
  simp only [Option.bind_some, hsum]
  rw [hk_e (rr_s h hb)]
  by_cases c : I (cB 1 b) 9 = (3 : Int32)
  · rw [if_pos c, if_pos c]; rfl
  · rw [if_neg c, if_neg c]; rfl
theorem e_placeByCounting {b : Nat} (h : RR I 1 s n) (hb : b < n) : f_L_placeByCounting (nI b) I = some (nI (rk (ky s n) b n)) := by
  unfold f_L_placeByCounting f_X7_placeByCounting
  rw [kn_in h hb]
  simp only [Option.bind_some, hsum]
  rw [hk_e (rr_s h hb), x3_countAheadOf isB1 (rr_w h) hb h.1 h.2.1]
  simp only [Option.bind_some]
theorem e_whereIs {b x : Nat} (h : RR I 1 s n) (hb : b < n) (hx : x ≤ 3600) (ex : I (cB 1 b) 4 = nI x) : f_L_whereIs (nI b) I = some (nI (pN x)) := by
  unfold f_L_whereIs f_X7_whereIs
  rw [kn_in h hb]
  simp only [Option.bind_some, hsum]
  rw [hk_e (rr_s h hb), x6_partOfCourse hx ex]
  simp only [Option.bind_some]
theorem kf_in {b : Nat} (h : RR I 1 s n) (hb : b < n) : f_X7_knownToFly (nI b) I = if I (cB 1 b) 9 = (1 : Int32) then some (Sum.inr (some (cB 1 b))) else some (Sum.inl 2) := by
  unfold f_X7_knownToFly
  rw [kn_in h hb]
  simp only [Option.bind_some, hsum]
  rw [hk_e (rr_s h hb)]
theorem kf_out {a : Int32} (h : RR I 1 s n) (ha : a < 0 ∨ nI n ≤ a) : f_X7_knownToFly a I = some (Sum.inl 0) := by
  unfold f_X7_knownToFly
  rw [kn_out h ha]; rfl
theorem e_allowance {b : Nat} (h : RR I 1 s n) (hb : b < n) : f_L_allowance (nI b) I = some (if I (cB 1 b) 9 = (1 : Int32) then nI (aF s b) else (-4 : Int32)) := by
  unfold f_L_allowance f_X7_allowance
  rw [kf_in h hb]
  by_cases c : I (cB 1 b) 9 = (1 : Int32)
  · rw [if_pos c, if_pos c]
    simp only [Option.bind_some, hsum]
    rw [hk_e (rr_s h hb), x3_allowedFeet (rr_w h) hb (rr_b h hb) h.1.2.1]
    simp only [Option.bind_some]
  · rw [if_neg c, if_neg c]; rfl
theorem e_gap {b : Nat} (h : RR I 1 s n) (hb : b < n) : ∃ r, NX s n b (s (16 * b + 5)) 8 r ∧ f_L_gapAhead (nI b) I = some (nI (nxg s b r)) ∧ f_L_isDrafting (nI b) I = some (if I (cB 1 b) 9 = (1 : Int32) then (if drf s b r = 0 then (0 : Int32) else 1) else (-4 : Int32)) := by
  have hq := rr_q h
  have hn := rr_n h
  obtain ⟨r, hr, hN⟩ := x3_nextAhead hq hb
  refine ⟨r, hN, ?_, ?_⟩
  · unfold f_L_gapAhead f_X7_gapAhead f_X3_gapOf
    rw [kn_in h hb]
    simp only [Option.bind_some, hsum]
    rw [hk_e (rr_s h hb), hr]
    simp only [Option.bind_some]
    cases r with
    | none => rfl
    | some j =>
      have hj : j < n := hN.2.1.1
      rw [Option.map_some, hopt_e2, hk_e (rr_s h hj), hq.fb hb hj]; rfl
  · unfold f_L_isDrafting f_X7_isDrafting
    rw [kf_in h hb]
    by_cases c : I (cB 1 b) 9 = (1 : Int32)
    · rw [if_pos c, if_pos c]
      simp only [Option.bind_some, hsum]
      rw [hk_e (rr_s h hb), hr]
      simp only [Option.bind_some]
      rw [x3_draftFeet hq hb hN]
      simp only [Option.bind_some]
      have hdb := drf_b (s := s) (b := b) (r := r)
      by_cases d : drf s b r = 0
      · rw [d]; rfl
      · have d0 : ¬ (nI (drf s b r) ≤ 0) := by rw [show (0 : Int32) = nI 0 from rfl, pi_le (by omega) (by omega)]; omega
        rw [if_neg d0, if_neg d]; rfl
    · rw [if_neg c, if_neg c]; rfl
theorem e_birdByOrder (h : RR I 1 s n) : ∃ O', FO 1 O O' ∧ (∀ q, q < n → ∃ b, b < n ∧ rk (ky s n) b n = q ∧ f_L_birdByOrder (nI q) I O = some (nI b, O')) ∧ ∀ a : Int32, (a < 0 ∨ nI n ≤ a) → f_L_birdByOrder a I O = some (-2, O') := by
  have hn := rr_n h
  have h3 := rr_3 h
  obtain ⟨O', o1, o2, o3⟩ := x3_putInOrder (O := O) isB1 (rr_w h) h.1 h.2.1
  refine ⟨O', o3, fun q hq => ?_, fun a ha => ?_⟩
  · obtain ⟨b, hb, p1, p2⟩ := o2 q hq
    refine ⟨b, hb, p2, ?_⟩
    unfold f_L_birdByOrder f_X7_birdByOrder
    rw [o1]
    simp only [Option.bind_some]
    rw [x3_inOrder isB1 h3 hn hq hb p1]
    simp only [Option.bind_some, hopt_e2]
    rw [hk_e (rr_s h hb), rr_no h hb]
    simp only [Option.bind_some, hsum]
  · unfold f_L_birdByOrder f_X7_birdByOrder
    rw [o1]
    simp only [Option.bind_some]
    unfold f_X3_inOrder
    rw [h3]
    by_cases c0 : a < 0
    · rw [if_pos c0]; rfl
    · rw [if_neg c0, if_pos (ha.resolve_left c0)]; rfl
theorem e_arrivedAt {k : Nat} (h : RR I 1 s n) (hk : k < cnt3 s n) : ∃ b, b < n ∧ s (136 + k) = nI b ∧ f_L_arrivedAt (nI k) I = some (nI b) := by
  have hn := rr_n h
  have hc := cnt3_le s n
  unfold f_L_arrivedAt f_X7_arrivedAt
  rcases x3_arrivedAs (a := nI k) isB1 (rr_w h) h.1 h.2.1 with ⟨k', b, hk', e, hb, e1, e2⟩ | ⟨hno, _⟩
  · rw [pi_eq (by omega) (by omega)] at e
    subst e
    refine ⟨b, hb, e1, ?_⟩
    rw [e2]
    simp only [Option.bind_some, hopt_e2]
    rw [hk_e (rr_s h hb), rr_no h hb]
    simp only [Option.bind_some, hsum]
  · exact absurd rfl (hno k hk)
theorem e_arrivedAt_o {a : Int32} (h : RR I 1 s n) (ha : a < 0 ∨ nI (cnt3 s n) ≤ a) : f_L_arrivedAt a I = some (-2) := by
  have hn := rr_n h
  have hc := cnt3_le s n
  unfold f_L_arrivedAt f_X7_arrivedAt
  rcases x3_arrivedAs (a := a) isB1 (rr_w h) h.1 h.2.1 with ⟨k', b, hk', e, hb, e1, e2⟩ | ⟨hno, e2⟩
  · exfalso
    subst e
    rcases ha with ha | ha
    · rw [show (0 : Int32) = nI 0 from rfl, pi_lt (by omega) (by omega)] at ha; omega
    · rw [pi_le (by omega) (by omega)] at ha; omega
  · rw [e2]; rfl
theorem e_limitOf_o {a : Int32} (ha : a < 0 ∨ (4 : Int32) ≤ a) : f_L_limitOf a I = some (-2) := by
  unfold f_L_limitOf f_X7_limitOf f_X7_checkCorner
  by_cases c0 : a < 0
  · rw [if_pos c0]; rfl
  · rw [if_neg c0, if_neg (Int32.not_lt.mpr (ha.resolve_left c0))]; rfl
theorem o_flown {a : Int32} (h : RR I 1 s n) (ha : a < 0 ∨ nI n ≤ a) : f_L_flown a I = some (-2) := by
  unfold f_L_flown f_X7_flown
  rw [kn_out h ha]; rfl
theorem o_speedOf {a : Int32} (h : RR I 1 s n) (ha : a < 0 ∨ nI n ≤ a) : f_L_speedOf a I = some (-2) := by
  unfold f_L_speedOf f_X7_speedOf
  rw [kn_out h ha]; rfl
theorem o_strengthOf {a : Int32} (h : RR I 1 s n) (ha : a < 0 ∨ nI n ≤ a) : f_L_strengthOf a I = some (-2) := by
  unfold f_L_strengthOf f_X7_strengthOf
  rw [kn_out h ha]; rfl
theorem o_wearOf {a : Int32} (h : RR I 1 s n) (ha : a < 0 ∨ nI n ≤ a) : f_L_wearOf a I = some (-2) := by
  unfold f_L_wearOf f_X7_wearOf
  rw [kn_out h ha]; rfl
theorem o_laneOf {a : Int32} (h : RR I 1 s n) (ha : a < 0 ∨ nI n ≤ a) : f_L_laneOf a I = some (-2) := by
  unfold f_L_laneOf f_X7_laneOf
  rw [kn_out h ha]; rfl
theorem o_stateOf {a : Int32} (h : RR I 1 s n) (ha : a < 0 ∨ nI n ≤ a) : f_L_stateOf a I = some (-2) := by
  unfold f_L_stateOf f_X7_stateOf
  rw [kn_out h ha]; rfl
theorem o_paceOf {a : Int32} (h : RR I 1 s n) (ha : a < 0 ∨ nI n ≤ a) : f_L_paceOf a I = some (-2) := by
  unfold f_L_paceOf f_X7_paceOf
  rw [kn_out h ha]; rfl
theorem o_lapsOf {a : Int32} (h : RR I 1 s n) (ha : a < 0 ∨ nI n ≤ a) : f_L_lapsOf a I = some (-2) := by
  unfold f_L_lapsOf f_X7_lapsOf
  rw [kn_out h ha]; rfl
theorem o_partnerOf {a : Int32} (h : RR I 1 s n) (ha : a < 0 ∨ nI n ≤ a) : f_L_partnerOf a I = some (-2) := by
  unfold f_L_partnerOf f_X7_partnerOf
  rw [kn_out h ha]; rfl
theorem o_isCalledIn {a : Int32} (h : RR I 1 s n) (ha : a < 0 ∨ nI n ≤ a) : f_L_isCalledIn a I = some (-2) := by
  unfold f_L_isCalledIn f_X7_isCalledIn
  rw [kn_out h ha]; rfl
theorem o_timeOf {a : Int32} (h : RR I 1 s n) (ha : a < 0 ∨ nI n ≤ a) : f_L_timeOf a I = some (-2) := by
  unfold f_L_timeOf f_X7_timeOf
  rw [kn_out h ha]; rfl
theorem o_placeByCounting {a : Int32} (h : RR I 1 s n) (ha : a < 0 ∨ nI n ≤ a) : f_L_placeByCounting a I = some (-2) := by
  unfold f_L_placeByCounting f_X7_placeByCounting
  rw [kn_out h ha]; rfl
theorem o_whereIs {a : Int32} (h : RR I 1 s n) (ha : a < 0 ∨ nI n ≤ a) : f_L_whereIs a I = some (-2) := by
  unfold f_L_whereIs f_X7_whereIs
  rw [kn_out h ha]; rfl
theorem o_gapAhead {a : Int32} (h : RR I 1 s n) (ha : a < 0 ∨ nI n ≤ a) : f_L_gapAhead a I = some (-2) := by
  unfold f_L_gapAhead f_X7_gapAhead
  rw [kn_out h ha]; rfl
theorem o_allowance {a : Int32} (h : RR I 1 s n) (ha : a < 0 ∨ nI n ≤ a) : f_L_allowance a I = some (-2) := by
  unfold f_L_allowance f_X7_allowance
  rw [kf_out h ha]; rfl
theorem o_isDrafting {a : Int32} (h : RR I 1 s n) (ha : a < 0 ∨ nI n ≤ a) : f_L_isDrafting a I = some (-2) := by
  unfold f_L_isDrafting f_X7_isDrafting
  rw [kf_out h ha]; rfl
end QB
