/-! The digest, with the cells that it leaves. -/
theorem digest_fr {I K : Nat → Nat → Int32} {O : Nat → Nat → Option Nat} {N : Nat} {J J' : Nat → Nat → Int64} (h : Inv2 I K O) :
    ∃ I' O' K' y, f_X7_digest N I O J = some (y, I', O', gup J N 0 y) ∧ f_X8_digest K J' = some (y, K', gup J' 129 16 y) ∧ Inv2 I' K' O' ∧ (∀ a, a < 13 ∨ 25 ≤ a → I' a = I a) ∧ (∀ a, a < 129 → K' a = K a) := by
  have hh := h
  obtain ⟨n, p, len, h1, hZZ, hSV, hSL, hTX⟩ := hh
  have hn := h1.2.2.2.1.1.2
  have g130' : gup K 129 8 0 130 = K 130 := gup_ne (by omega)
  have hI1 : RR I 1 (gup K 129 8 0 130) n := by rw [g130']; exact h1
  obtain ⟨y1, I2, K2, O2, a1, a2, a3⟩ := birds_loop (N := N) (J := J) (J' := J') n 0 FU I (gup K 129 8 0) O (mx 4637 (nI n).toInt64) (by omega) (by unfold FU; omega) hI1 (hZZ 13 isB13)
  have r2 := a3.rr hI1
  obtain ⟨O3, o1, o2, o3⟩ := x3_putInOrder (O := O2) isB1 r2.2.2.2.1 r2.1 r2.2.1
  obtain ⟨y2, b1, b2⟩ := order_loop (N := N) (J := J) (J' := J') r2 o2 n 0 FU y1 (by omega) (by unfold FU; omega)
  obtain ⟨y3, c1, c2⟩ := lim_loop (N := N) (J := J) (J' := J') r2 4 0 FU y2 (by omega) (by unfold FU; omega)
  obtain ⟨I4, O4, I5, O5, K3, K4, s, w, u, v, d1, d2, d3, d4, d5, d6, d7⟩ := two_both (O := O3) r2 a3.1
  have a5 : Fr I (gup K 129 8 0) O I5 K4 O5 := a3.t (Fr.t (I' := I2) (K' := K2) (O' := O3) ⟨a3.1, fun _ _ => rfl, o3 26 (by omega), fun _ _ _ => rfl, fun _ _ => rfl, fun _ _ => rfl, fun _ _ => rfl⟩ d7)
  have r5 := a5.rr hI1
  obtain ⟨q, I6, O6, K6, e1, e2⟩ := bst_both (O := O5) r5 a5.1
  have a6 := a5.t e1
  have r6 := a6.rr hI1
  obtain ⟨z1, m, vv, k1, k2, k3, k4⟩ := acc_both (N := N) (J := J) (J' := J') (x := mx (mx (mx y3 u.toInt64) v.toInt64) q) (p := nI p) r6 (by rw [a6.2.1 25 (by omega)]; exact hSV.1)
  have k5 := x8_all r6.2.2.2.1.1.1 hn
  have k6 := cnt_loop (K := K6) (J' := J') 6 144 FU (mx z1 (smF (K6 130) n).toInt64) (by omega) (by unfold FU; omega)
  have k7 : K6 129 3 = nI p := by rw [a6.2.2.2.2.2.1 3 (by omega), gup_i (by omega)]; exact hSV.2.1
  have f134 : K6 134 = K 134 := (a6.2.2.2.1 134 (by omega) (by omega)).trans (gup_ne (by omega))
  have f135 : K6 135 = K 135 := (a6.2.2.2.1 135 (by omega) (by omega)).trans (gup_ne (by omega))
  have f101 : I6 101 = I 101 := a6.2.1 101 (by omega)
  have s0 : K6 134 0 = I6 101 0 := by rw [f134, f101]; exact (hSL 0 (by omega)).2.1
  have s1 : K6 134 1 = I6 101 1 := by rw [f134, f101]; exact (hSL 1 (by omega)).2.1
  have tX : TX I6 K6 len := by
    obtain ⟨x1, x2, x3, x4⟩ := hTX
    refine ⟨by rw [a6.2.1 126 (by omega)]; exact x1, ?_, x3, fun i hi => by rw [a6.2.1 127 (by omega), f135]; exact x4 i hi⟩
    rw [a6.2.2.2.2.2.1 7 (by omega), gup_i (by omega)]; exact x2
  have l1 := sl_loop (I := I6) (N := N) (J := J) 2 0 FU (mx (mx (cnl (K6 130) 6 144 (mx z1 (smF (K6 130) n).toInt64)) (nI p).toInt64) vv) (by omega) (by unfold FU; omega)
  have hlen := tX.2.2.1
  obtain ⟨yy, m1, m2⟩ := tx_loop (N := N) (J := J) (J' := J') tX len 0 FU (mx (sll I6 2 0 (mx (mx (cnl (K6 130) 6 144 (mx z1 (smF (K6 130) n).toInt64)) (nI p).toInt64) vv)) (nI len).toInt64) (by omega) (by unfold FU; omega)
  have hInv : Inv2 I6 K6 O6 := by
    refine Inv2_now h (fun a q1 q2 => a6.2.1 a (by omega)) a6.1 r6 (fun a q1 q2 => (a6.2.2.2.1 a q1 q2).trans (gup_ne (by omega))) ?_ ?_ a6.2.2.1
    · rw [a6.2.2.2.2.2.1 3 (by omega), gup_i (by omega)]
    · rw [a6.2.2.2.2.2.1 7 (by omega), gup_i (by omega)]
  refine ⟨I6, O6, K6, yy, ?_, ?_, hInv, fun a ha => a6.2.1 a (by omega), fun a ha => (a6.2.2.2.2.1 a ha).trans (gup_ne (by omega))⟩
  · have i3 : I 1 3 = nI n := h1.1.1.1.trans h1.2.2.2.1.1.1
    have hO : f_X7_hashOrder N I2 O2 (gup J N 0 y1) = some (O3, gup J N 0 y2) := by
      unfold f_X7_hashOrder
      rw [o1]
      simp only [obs]
      rw [show f_X7_hashOrder_L9 N I2 O3 FU (0 : Int32) (gup J N 0 y1) = _ from b1]; rfl
    unfold f_X7_digest f_X0_init
    rw [hlet_e, hlet_e, gup_gup]
    simp only [obs, add_c]
    rw [i3, show f_X7_digest_L22 N FU (0 : Int32) I O (gup J N 0 (mx 4637 (nI n).toInt64)) = _ from a1]
    simp only [obs]
    rw [hO]
    simp only [obs]
    rw [show f_X7_digest_L95 N I2 FU (0 : Int32) (gup J N 0 y2) = _ from c1]
    simp only [obs]
    rw [d1]
    simp only [obs]
    rw [d2]
    simp only [obs, add_c]
    rw [d5, d6]
    simp only [obs, add_c]
    have fin : (f_X7_hashAccounts N I6 (gup J N 0 (mx (mx (mx y3 u.toInt64) v.toInt64) q))).bind (fun J39 => (f_X7_digest_L195 N I6 FU (0 : Int32) J39).bind fun J43 => (f_X0_add N (((I6 126 1)).toInt64) J43).bind fun J44 => (f_X7_digest_L243 N I6 FU (0 : Int32) J44).bind fun J48 => some ((J48 N 0), I6, O6, J48)) = some (yy, I6, O6, gup J N 0 yy) := by
      rw [k4]
      simp only [obs]
      rw [show f_X7_digest_L195 N I6 FU (0 : Int32) _ = _ from l1]
      simp only [obs, add_c]
      rw [tX.1, show f_X7_digest_L243 N I6 FU (0 : Int32) _ = _ from m1]
      simp only [obs, gup_at]
    rcases e2 with ⟨x1, x2, rfl, rfl, rfl, rfl⟩ | ⟨x1, x2, x3, x4, rfl, rfl, rfl, rfl⟩ | ⟨x1, x2, x3, x4, r, x5, x6, rfl⟩
    · rw [x1]
      simp only [obs, hopt_e1, add_c]
      exact fin
    · rw [x1]
      simp only [obs, hopt_e2]
      rw [hk_e (sk_b isB1 (by omega)), if_pos x3]
      simp only [obs, add_c]
      exact fin
    · rw [x1]
      simp only [obs, hopt_e2]
      rw [hk_e (sk_b isB1 (by omega)), if_neg x3, x5]
      simp only [obs, add_c]
      exact fin
  · unfold f_X8_digest
    rw [hlet_e, hlet_e, t128, g130', h1.2.2.2.1.1.1, add_r]
    simp only [obs]
    rw [show f_X8_digest_L27 FU (0 : Int32) (gup K 129 8 0) (gup J' 129 16 (mx 4637 (nI n).toInt64)) = _ from a2]
    simp only [obs]
    rw [show f_X8_digest_L52 K2 FU (0 : Int32) (gup J' 129 16 y1) = _ from b2]
    simp only [obs]
    rw [show f_X8_digest_L82 K2 FU (0 : Int32) (gup J' 129 16 y2) = _ from c2]
    simp only [obs]
    rw [d3]
    simp only [obs, add_r]
    rw [d4]
    simp only [obs, add_r, t150, t134, t135, t0', t1']
    have k6' : f_X8_digest_L250 K6 FU (144 : Int32) (gup J' 129 16 (mx z1 (smF (K6 130) n).toInt64)) = some (gup J' 129 16 (cnl (K6 130) 6 144 (mx z1 (smF (K6 130) n).toInt64))) := k6
    have hs : ∀ x, sll I6 2 0 x = mx (mx x (if I6 101 0 = 0 then 0 else 1)) (if I6 101 1 = 0 then 0 else 1) := fun _ => rfl
    rw [hs] at m2
    have m2' : ∀ z, z = (0 : Int32) → f_X8_digest_L341 K6 FU z (gup J' 129 16 (mx (mx (mx (mx (mx (cnl (K6 130) 6 144 (mx z1 (smF (K6 130) n).toInt64)) (nI p).toInt64) vv) (if I6 101 0 = 0 then 0 else 1)) (if I6 101 1 = 0 then 0 else 1)) (nI len).toInt64)) = some (gup J' 129 16 yy) := fun z hz => by rw [hz]; exact m2
    have m3 := m2' 0 rfl
    have hk0 : ∀ (d : Decidable (K6 134 0 = 0)), @ite (Option Int64) (K6 134 0 = 0) d (some 0) (some 1) = some (if I6 101 0 = 0 then 0 else 1) := fun d => by
      by_cases z : K6 134 0 = 0
      · rw [if_pos z, if_pos (s0.symm.trans z)]
      · rw [if_neg z, if_neg (fun e => z (s0.trans e))]
    have hk1 : ∀ (d : Decidable (K6 134 1 = 0)), @ite (Option Int64) (K6 134 1 = 0) d (some 0) (some 1) = some (if I6 101 1 = 0 then 0 else 1) := fun d => by
      by_cases z : K6 134 1 = 0
      · rw [if_pos z, if_pos (s1.symm.trans z)]
      · rw [if_neg z, if_neg (fun e => z (s1.trans e))]
    clear m2 m2' m1 l1 k4 hs k6
    rcases e2 with ⟨x1, x2, ep, eI, eO, eK⟩ | ⟨x1, x2, x3, x4, ep, eI, eO, eK⟩ | ⟨x1, x2, x3, x4, r, x5, x6, ep⟩
    · rw [if_pos x2]
      rw [ep] at k1
      subst eK
      subst eI
      simp only [obs, add_r]
      rw [k1]
      simp only [obs, k5, add_r]
      rw [k6']
      simp only [obs, add_r, k2, k3, k7]
      rw [hk0, hk1]
      simp only [obs, add_r]
      rw [tX.2.1, m3]
      simp only [obs, gup_at]
    · rw [if_neg x2, if_neg x4]
      rw [ep] at k1
      subst eK
      subst eI
      simp only [obs, add_r]
      rw [k1]
      simp only [obs, k5, add_r]
      rw [k6']
      simp only [obs, add_r, k2, k3, k7]
      rw [hk0, hk1]
      simp only [obs, add_r]
      rw [tX.2.1, m3]
      simp only [obs, gup_at]
    · rw [if_neg x2, if_pos x4, x6]
      rw [ep] at k1
      simp only [obs, add_r]
      rw [k1]
      simp only [obs, k5, add_r]
      rw [k6']
      simp only [obs, add_r, k2, k3, k7]
      rw [hk0, hk1]
      simp only [obs, add_r]
      rw [tX.2.1, m3]
      simp only [obs, gup_at]
theorem d_digest : ∀ K : Nat → Nat → Int32, ∃ (y : Int64) (K' : Nat → Nat → Int32), ∀ (I : Nat → Nat → Int32) (O : Nat → Nat → Option Nat) (J : Nat → Nat → Int64) (B : Nat), Inv2 I K O → zHA I B → ∃ I' O' J', f_X7_digest 129 I O J = some (y, I', O', J') ∧ Inv2 I' K' O' ∧ zHA I' B := by
  intro K
  by_cases hne : ∃ I O, Inv2 I K O
  rotate_left
  · exact ⟨0, K, fun I O _ _ h => absurd ⟨I, O, h⟩ hne⟩
  obtain ⟨I0, O0, h0⟩ := hne
  obtain ⟨_, _, K', y, _, e2, _⟩ := digest_fr (N := 129) (J := fun _ _ => 0) (J' := fun _ _ => 0) h0
  refine ⟨y, K', fun I O J B h hc => ?_⟩
  obtain ⟨I', O', K2, y2, d1, d2, d3, d4, _⟩ := digest_fr (N := 129) (J := J) (J' := fun _ _ => 0) h
  rw [e2] at d2
  have d2 := Option.some.inj d2
  obtain rfl : y = y2 := congrArg (fun z => z.1) d2
  obtain rfl : K' = K2 := congrArg (fun z => z.2.1) d2
  exact ⟨I', O', _, d1, d3, fun β hβ h3 => (hc β hβ h3).same (fun a q1 q2 => d4 a (by rcases hβ with rfl | rfl | ⟨k, hk, rfl⟩ | rfl | rfl <;> omega))⟩
