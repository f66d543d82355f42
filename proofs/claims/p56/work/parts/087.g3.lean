/-! The loops of what hangs together, and the whole. -/
theorem wf_e {I I7 : Nat → Nat → Int32} {O O8 : Nat → Nat → Option Nat} {n b m : Nat} {s : Nat → Int32} {r : Int32} (h : RR I 1 s n) (hb : b < n) (h5 : I 1 5 = 1) (h1 : 1 ≤ m) (h2 : m ≤ 200) (ef : f_X7_foretell (cB 1 b) (I (cB 1 b) 1) (nI m) I O = some (r, I7, O8)) : f_L_wouldFly (nI b) (nI m) I O = some (r, I7, O8) := by
  unfold f_L_wouldFly f_X7_wouldFly f_X7_checkSeconds f_X7_checkRacing
  rw [kn_in h hb]
  simp only [Option.bind_some, hsum]
  rw [if_neg (by rw [show (1 : Int32) = nI 1 from rfl, pi_lt (by omega) (by omega)]; omega), if_pos (by rw [show (200 : Int32) = nI 200 from rfl, pi_le (by omega) (by omega)]; omega), h5]
  simp only [Option.bind_some, show gz (1 : Int32) = true by decide, hg_t, show ¬ ((1 : Int32) = 0) by decide, if_false]
  rw [hk_e (rr_s h hb), ef]; rfl
theorem fw_e {I I7 : Nat → Nat → Int32} {O O8 : Nat → Nat → Option Nat} {n b m : Nat} {s : Nat → Int32} {r : Int32} (h : RR I 1 s n) (hb : b < n) (h5 : I 1 5 = 1) (h1 : 10 ≤ m) (h2 : m ≤ 40) (ef : f_X7_foretell (cB 1 b) (nI m) (50 : Int32) I O = some (r, I7, O8)) : f_L_flownWithPace (nI b) (nI m) I O = some (r, I7, O8) := by
  unfold f_L_flownWithPace f_X7_flownWithPace f_X7_checkPace f_X7_isPace f_X7_checkRacing
  rw [kn_in h hb]
  simp only [Option.bind_some, hsum]
  rw [if_neg (by rw [show (10 : Int32) = nI 10 from rfl, pi_lt (by omega) (by omega)]; omega), if_neg (by rw [show (40 : Int32) = nI 40 from rfl, pi_lt (by omega) (by omega)]; omega), h5]
  simp only [Option.bind_some, show gz (1 : Int32) = true by decide, hg_t, show ¬ ((1 : Int32) = 0) by decide, if_false]
  rw [hk_e (rr_s h hb), ef]; rfl
/-- frames of the foretelling -/
def FQ (I I' : Nat → Nat → Int32) (O O' : Nat → Nat → Option Nat) : Prop := (∀ a, a < 13 ∨ 25 ≤ a → I' a = I a) ∧ RZ I' 13 ∧ O' 26 = O 26
theorem FQ.tr {I I' I2 : Nat → Nat → Int32} {O O' O2 : Nat → Nat → Option Nat} (h : FQ I I' O O') (g : FQ I' I2 O' O2) : FQ I I2 O O2 := ⟨fun a ha => (g.1 a ha).trans (h.1 a ha), g.2.1, g.2.2.trans h.2.2⟩
theorem FQ.rr {I I' : Nat → Nat → Int32} {O O' : Nat → Nat → Option Nat} {n : Nat} {s : Nat → Int32} (h : FQ I I' O O') (r : RR I 1 s n) : RR I' 1 s n := RR_I (fun a _ _ => h.1 a (by omega)) r
theorem FQ.hc {I I' : Nat → Nat → Int32} {O O' : Nat → Nat → Option Nat} {B : Nat} (h : FQ I I' O O') (r : zHC I 1 B) : zHC I' 1 B := r.same (fun a _ _ => h.1 a (by omega))
theorem FQ.ha {I I' : Nat → Nat → Int32} {O O' : Nat → Nat → Option Nat} {B : Nat} (h : FQ I I' O O') (r : zHA I B) : zHA I' B := fun β hβ h3 => (r β hβ h3).same (fun a q1 q2 => h.1 a (by rcases hβ with rfl | rfl | ⟨k, hk, rfl⟩ | rfl | rfl <;> omega))
theorem FQ.inv {I I' K : Nat → Nat → Int32} {O O' : Nat → Nat → Option Nat} (h : FQ I I' O O') (r : Inv2 I K O) : Inv2 I' K O' := by
  have rr := r
  obtain ⟨n, p, len, h1, _⟩ := rr
  exact Inv2_now r (fun a q1 q2 => h.1 a (by omega)) h.2.1 (h.rr h1) (fun _ _ _ => rfl) rfl rfl h.2.2
theorem fore_up {I K : Nat → Nat → Int32} {O : Nat → Nat → Option Nat} {n b m B : Nat} (hI : RR I 1 (K 130) n) (hZ : RZ I 13) (hc : zHC I 1 B) (hb : b < n) (hm : m ≤ 200) (hB : B + 2000 < 1000000000) : ∃ I7 O8 r, f_X7_foretell (cB 1 b) (I (cB 1 b) 1) (nI m) I O = some (r, I7, O8) ∧ tn (I (cB 1 b) 4) ≤ tn r := by
  have hn := hI.2.2.2.1.1.2
  obtain ⟨X, x1, x2, x3, x4, x5, x6⟩ := x3_take (I := I) isB13 isB1 (by omega) hI.2.1 hI.gz5
  have hRX := take_RR hZ hI x3 x4 x5 x6
  have hcX : zHC X 13 B := hc.cg (fun f hf => x6 f (by omega) (by omega)) (fun b hb f hf => x3 b hb f (by omega) (by omega))
  have eX : gup X (cB 13 b) 1 (I (cB 1 b) 1) = X := gup_same (x3 b (by omega) 1 (by omega) (by omega))
  obtain ⟨I7, O8, B', v, q1, q2, q3, q4, q5, q6, q7⟩ := pass_both (O := O) (m := m) isB13 (show m < 4000 by omega) hRX
  have hfm := (pass_hc isB13 (show m < 4000 by omega) hRX q1 (by omega) hcX).2
  have x0 : X (cB 1 b) 0 = nI b := by rw [x2 _ (by unfold cB; omega)]; exact (hI.2.1 b (by omega)).1
  have xn : X 13 3 = nI n := hRX.1.1.1.trans hRX.2.2.2.1.1.1
  refine ⟨I7, O8, I7 (cB 13 b) 4, ?_, ?_⟩
  · unfold f_X7_foretell
    rw [x1]
    simp only [Option.bind_some]
    unfold f_X3_at
    rw [x0, xn, if_neg (by rw [show (0 : Int32) = nI 0 from rfl, pi_lt (by omega) (by omega)]; omega), if_neg (by rw [pi_le (by omega) (by omega)]; omega), if_pos (by rw [show (8 : Int32) = nI 8 from rfl, pi_lt (by omega) (by omega)]; omega), pi_gin (by omega), decide_eq_true (by omega), hg_t, pi_tn (by omega)]
    simp only [Option.bind_some, hopt_e2]
    show hk (cB 13 b) 6 (hlet (gup X (cB 13 b) 1 (I (cB 1 b) 1)) fun I6 => (f_X3_letGoBy 13 (nI m) I6 O).bind fun x => some (x.1 (cB 13 b) 4, x.1, x.2)) = _
    rw [hk_e (sk_b isB13 (by omega)), hlet_e, eX, q1]
    simp only [Option.bind_some]
  · have := hfm b hb
    rw [x3 b (by omega) 4 (by omega) (by omega)] at this
    exact this
theorem hang_B2 {I K : Nat → Nat → Int32} {O : Nat → Nat → Option Nat} {n b B : Nat} (h : RR I 1 (K 130) n) (hZ : RZ I 13) (hc : zHC I 1 B) (hB : B + 2000 < 1000000000) (hb : b < n) : ∃ I' O', hB2 (nI b) I O 1 = some ((1 : Int32), I', O') ∧ FQ I I' O O' := by
  have hn := rr_n h
  have h5 := (hc_n h hc).1.1
  unfold hB2
  rcases h5 with h5 | h5
  · refine ⟨I, O, ?_, fun _ _ => rfl, hZ, rfl⟩
    refine ifn (by decide) ?_
    refine sq1 (e_isRacing h) (ifp h5 ?_)
    refine sq1 (r_wouldFly3 (m := 7) h hb (by omega) (by omega) h5) (ifp rfl ?_)
    refine sq1 (r_fwp3 h hb h5) (ifp rfl ?_)
    exact sq1 (r_best2 h hb h5) (ifp rfl rfl)
  · have n5 : ¬ (I 1 5 = 0) := by rw [h5]; decide
    obtain ⟨x, _, _, _, _, _, pc, ⟨e4, l4⟩, _, _, _, _, _, ⟨e1, p1, p2⟩, _⟩ := bird_v h hc (by omega) hb
    have ep : K 130 (16 * b) = nI pc := (rr_b h hb).1.symm.trans e1
    have hpc : Bd (nI pc) 10 40 := ⟨pc, rfl, p1, p2⟩
    have hK : K 130 = wpd (K 130) (16 * b + 0) (nI pc) := by rw [← ep]; exact wpd_same.symm
    obtain ⟨I1, O1, r1, K1, a1, a2, a3, a4, a5, _, _, q1, hq1, rfl⟩ := foretell_q (O := O) (m := 7) h hZ hb hpc hK (by omega)
    obtain ⟨Iu, Ou, ru, u1, u2⟩ := fore_up (O := O) (m := 7) h hZ hc hb (by omega) hB
    rw [e1, a1] at u1
    obtain rfl : nI q1 = ru := congrArg (fun z => z.1) (Option.some.inj u1)
    have f1 : FQ I I1 O O1 := ⟨a3, a4, a5 26 (by omega)⟩
    have h1 := f1.rr h
    have c1 : I1 (cB 1 b) = I (cB 1 b) := a3 _ (by unfold cB; omega)
    have g5 : I1 1 5 = 1 := by rw [a3 1 (by omega)]; exact h5
    obtain ⟨I2, O2, r2, K2, b1, b2, b3, b4, b5, _⟩ := foretell_q (O := O1) (m := 50) h1 a4 hb hpc hK (by omega)
    have f2 : FQ I1 I2 O1 O2 := ⟨b3, b4, b5 26 (by omega)⟩
    have h2 := f2.rr h1
    have c2 : I2 (cB 1 b) = I (cB 1 b) := (b3 _ (by unfold cB; omega)).trans c1
    have g52 : I2 1 5 = 1 := by rw [b3 1 (by omega)]; exact g5
    obtain ⟨I3, O3, r3, K3, d1, d2, d3, d4, d5, _⟩ := foretell_q (O := O2) (m := 50) h2 b4 hb hpc hK (by omega)
    have f3 : FQ I2 I3 O2 O3 := ⟨d3, d4, d5 26 (by omega)⟩
    have e23 : r2 = r3 := by
      rw [b2] at d2
      exact congrArg (fun z => z.1) (Option.some.inj d2)
    refine ⟨I3, O3, ?_, (f1.tr f2).tr f3⟩
    refine ifn (by decide) ?_
    refine sq1 (e_isRacing h) (ifn n5 ?_)
    refine sq1 (wf_e (m := 7) h hb h5 (by omega) (by omega) (by rw [e1]; exact a1)) ?_
    refine sq1 (e_flown h1 hb) (ifn ?_ ?_)
    · rw [c1, e4, pi_lt (by omega) (by omega)]
      rw [e4, tn_nI (by omega), tn_nI (by omega)] at u2
      omega
    refine sq1 (e_paceOf h1 hb) ?_
    rw [c1, e1]
    refine sq1 (fw_e h1 hb g5 p1 p2 b1) ?_
    refine sq1 (wf_e (m := 50) h2 hb g52 (by omega) (by omega) (by rw [c2, e1]; exact d1)) ?_
    exact ifp e23 rfl
theorem hang_loop {K : Nat → Nat → Int32} {n B : Nat} (hB : B + 2000 < 1000000000) : ∀ d b fuel (I : Nat → Nat → Int32) (O : Nat → Nat → Option Nat), b + d = n → d < fuel → RR I 1 (K 130) n → RZ I 13 → zHC I 1 B →
    ∃ I' O', f_L_hangs_L141 (nI n) fuel (smF (K 130) b) (nI (cnt3 (K 130) b)) (nI (sm (pA (pP (K 130))) b)) 1 (nI b) I O = some (smF (K 130) n, nI (cnt3 (K 130) n), nI (sm (pA (pP (K 130))) n), 1, I', O') ∧ FQ I I' O O' := by
  intro d
  induction d with
  | zero =>
    intro b fuel I O hb hf h hZ hc
    obtain ⟨f, rfl⟩ : ∃ f, fuel = f + 1 := ⟨fuel - 1, by omega⟩
    obtain rfl : b = n := by omega
    have hn := rr_n h
    refine ⟨I, O, ?_, fun _ _ => rfl, hZ, rfl⟩
    rw [hang_e]
    exact ifp ((pi_le (by omega) (by omega)).mpr (Nat.le_refl _)) rfl
  | succ d ih =>
    intro b fuel I O hb hf h hZ hc
    obtain ⟨f, rfl⟩ : ∃ f, fuel = f + 1 := ⟨fuel - 1, by omega⟩
    have hn := rr_n h
    have hw := rr_w h
    have hbn : b < n := by omega
    obtain ⟨r104, ep, hp⟩ := part_v h hbn
    obtain ⟨r, hN, eg, ed⟩ := e_gap h hbn
    obtain ⟨O1, hO1, hbo, _⟩ := e_birdByOrder (O := O) h
    have hrl := rk_le (ky (K 130) n) b n
    rw [if_pos hbn] at hrl
    obtain ⟨b', hb', erk, ebo⟩ := hbo (rk (ky (K 130) n) b n) (by omega)
    obtain rfl : b' = b := rk_inj hb' hbn (fun hne => ky_inj hw hb' hbn hne) erk
    have hp1 : r104 ≠ nI b' := by
      rcases hp with ⟨e, _⟩ | ⟨q, q1, q2, e, _⟩
      · rw [e]; exact fun z => m4_n (v := b') (by omega) z.symm
      · rw [e]; exact neqn q2 (by omega) (by omega)
    have hp2 : r104 = (-4 : Int32) ∨ f_L_partnerOf r104 I = some (nI b') := by
      rcases hp with ⟨e, _⟩ | ⟨q, q1, q2, e, e', _⟩
      · exact Or.inl e
      · right; rw [e]; exact e'
    have hp3 : (if r104 < 0 then some (0 : Int32) else some (1 : Int32)) = some (nI (pA (pP (K 130)) b')) := by
      rcases hp with ⟨e, e'⟩ | ⟨q, q1, q2, e, _, e'⟩
      · rw [e, e', if_pos (by decide)]; rfl
      · rw [e, e', if_neg (nlt0 (by omega))]; rfl
    obtain ⟨I2, O2, k1, k2⟩ := hang_B2 (O := O1) h hZ hc hB hbn
    have k3 : FQ I I2 O O2 := ⟨k2.1, k2.2.1, k2.2.2.trans (hO1 26 (by omega))⟩
    obtain ⟨I', O', m1, m2⟩ := ih (b' + 1) f I2 O2 (by omega) (by omega) (k3.rr h) k3.2.1 (k3.hc hc)
    refine ⟨I', O', ?_, k3.tr m2⟩
    have rb := rr_b h hbn
    rw [hang_e]
    refine ifn (by rw [pi_le (by omega) (by omega)]; omega) (ifn (by decide) ?_)
    refine sq1 ep ?_
    refine sq1 eg ?_
    refine sq1 (e_stateOf h hbn) ?_
    refine sq1 (e_flown h hbn) ?_
    refine sq1 (a := nI (if K 130 (16 * b' + 6) = 3 then 1 else 0)) ?_ ?_
    · rw [rb.2.2.2.2.2.2.2.2.1]
      by_cases c : K 130 (16 * b' + 6) = 3
      · rw [if_pos c, if_pos c]; rfl
      · rw [if_neg c, if_neg c]; rfl
    refine sq1 hp3 ?_
    refine sq1 (e_placeByCounting h hbn) ?_
    refine sq1 ebo ?_
    refine sq1 (hang_B1 h hc (by omega) hbn hN ed hp1 hp2) ?_
    refine sq1 k1 ?_
    refine hl1 ?_
    have s1 : smF (K 130) b' + I (cB 1 b') 4 = smF (K 130) (b' + 1) := by rw [rb.2.2.2.1]; rfl
    have s2 : nI (cnt3 (K 130) b') + nI (if K 130 (16 * b' + 6) = 3 then 1 else 0) = nI (cnt3 (K 130) (b' + 1)) := pi_add _ _
    have s3 : nI (sm (pA (pP (K 130))) b') + nI (pA (pP (K 130)) b') = nI (sm (pA (pP (K 130))) (b' + 1)) := pi_add _ _
    rw [s1, s2, s3, show nI b' + (1 : Int32) = nI (b' + 1) from pi_add b' 1]
    exact m1
theorem arr_hang {I : Nat → Nat → Int32} {s : Nat → Int32} {n B : Nat} (h : RR I 1 s n) (hc : zHC I 1 B) (hB : B + 2000 < 1000000000) : ∀ d k fuel t0, k + d = cnt3 s n → d < fuel → t0 < 1000000000 → (∀ b, b < n → k < cnt3 s n → s (136 + k) = nI b → t0 ≤ tn (I (cB 1 b) 14)) → f_L_hangs_L695 I fuel (nI t0) 1 (nI k) = some (1 : Int32) := by
  have hn := rr_n h
  have hw := rr_w h
  have h3 := cnt3_le s n
  obtain ⟨hG, hH⟩ := hc_n h hc
  have h135 : tn (s 135) = cnt3 s n := by rw [hw.a.1, tn_nI (by omega)]
  intro d
  induction d with
  | zero =>
    intro k fuel t0 hk hf ht hl
    obtain ⟨f, rfl⟩ : ∃ f, fuel = f + 1 := ⟨fuel - 1, by omega⟩
    unfold f_L_hangs_L695
    exact sq1 (e_arrived h) (ifp (by rw [pi_le (by omega) (by omega)]; omega) rfl)
  | succ d ih =>
    intro k fuel t0 hk hf ht hl
    obtain ⟨f, rfl⟩ : ∃ f, fuel = f + 1 := ⟨fuel - 1, by omega⟩
    have hkc : k < cnt3 s n := by omega
    obtain ⟨b, hb, eb, ea⟩ := e_arrivedAt h hkc
    obtain ⟨o6, _⟩ := ky_at hw hkc hb eb
    have E9 : I (cB 1 b) 9 = (3 : Int32) := (rr_b h hb).2.2.2.2.2.2.2.2.1.trans o6
    obtain ⟨⟨t, et, t1, t2⟩, _⟩ := (hH.2.1 b hb).2 E9
    obtain ⟨u, eu, u1, u2⟩ := hG.2.1
    rw [eu, tn_nI (by omega)] at t2
    have htl := hl b hb hkc eb
    rw [et, tn_nI (by omega)] at htl
    have etm : f_L_timeOf (nI b) I = some (nI t) := by rw [e_timeOf h hb, if_pos E9, et]
    unfold f_L_hangs_L695
    refine sq1 (e_arrived h) (ifn (by rw [pi_le (by omega) (by omega)]; omega) (ifn (by decide) ?_))
    refine sq1 ea ?_
    refine sq1 (e_stateOf h hb) ?_
    refine sq1 (a := (1 : Int32)) (ifp E9 ?_) ?_
    · refine sq1 (e_placeByCounting h hb) (ifp (by rw [rk_place hw hkc hb eb]) ?_)
      refine sq1 etm (ifn (nltk htl (by omega)) ?_)
      refine sq1 etm ?_
      refine sq1 (a := nI u) (by unfold f_X7_seconds; rw [eu]) (ifn (nltk t2 (by omega)) rfl)
    refine sq1 etm ?_
    refine hl1 ?_
    rw [show nI k + (1 : Int32) = nI (k + 1) from pi_add k 1]
    refine ih (k + 1) f t (by omega) (by omega) (by omega) (fun b2 hb2 hk2 eb2 => ?_)
    obtain ⟨o62, _⟩ := ky_at hw hk2 hb2 eb2
    have E92 : I (cB 1 b2) 9 = (3 : Int32) := (rr_b h hb2).2.2.2.2.2.2.2.2.1.trans o62
    have p1 := h.1.2.2.2 b k hb (by omega) eb
    have p2 := h.1.2.2.2 b2 (k + 1) hb2 (by omega) eb2
    have := hH.2.2 b b2 hb hb2 E9 E92 (by rw [p1, p2, tn_nI (by omega), tn_nI (by omega)]; omega)
    rw [et, tn_nI (by omega)] at this
    exact this
