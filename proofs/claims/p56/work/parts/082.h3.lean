/-! A second, and many: the accounts hold on. -/
theorem turns_hc {K0 : Nat → Nat → Int32} {O7 : Nat → Nat → Option Nat} {β n : Nat} (hB : IsB β) :
    ∀ d k fuel (I I' K : Nat → Nat → Int32) (B : Nat), k + d = n → d < fuel → WX (K 130) n → R I β (K 130) n → RZ I β → I β 6 = K 130 134 + 1 → WA (K 130) n →
    (∀ q, q < n → ∃ b, b < n ∧ O7 (β + 2) q = some (cB β b)) → f_X3_letGoBy_L30 β O7 fuel (nI k) I = some I' → B + d < 1000000000 → I β 5 = 1 → 1 ≤ tn (I β 6) → zHG I β B → zHB I β n →
    zHG I' β (B + d) ∧ zHB I' β n ∧ zFM β n I I' ∧ I' β 5 = 1 ∧ I' β 3 = nI n := by
  intro d
  induction d with
  | zero =>
    intro k fuel I I' K B hk hf hw hR hZ h6 hA hT h hB2 h5 ht hg hh
    have hn := hw.1.2
    obtain ⟨f, rfl⟩ : ∃ f, fuel = f + 1 := ⟨fuel - 1, by omega⟩
    have h3 : I β 3 = nI n := hR.1.1.trans hw.1.1
    rw [f_X3_letGoBy_L30, h3, if_pos (by rw [pi_le (by omega) (by omega)]; omega)] at h
    obtain rfl := Option.some.inj h
    exact ⟨hg, hh, fun _ _ => Nat.le_refl _, h5, h3⟩
  | succ d ih =>
    intro k fuel I I' K B hk hf hw hR hZ h6 hA hT h hB2 h5 ht hg hh
    have hn := hw.1.2
    obtain ⟨f, rfl⟩ : ∃ f, fuel = f + 1 := ⟨fuel - 1, by omega⟩
    have h3 : I β 3 = nI n := hR.1.1.trans hw.1.1
    obtain ⟨b, hb, e1⟩ := hT k (by omega)
    obtain ⟨I1, K1, v1, a1, a2, a3, a4, a5, a6, a7, a8, a9, a10, a11, a12, a13, a14⟩ := turn_both (p4 := 0) hB hw hb hR hZ h6 hA
    obtain ⟨t1, t2, t3, t4⟩ := turn_hc hB hw hb hR hZ a1 (by omega) h5 ht hg hh a4 a6
    rw [f_X3_letGoBy_L30, h3, if_neg (by rw [pi_le (by omega) (by omega)]; omega), x3_inOrder hB h3 hn (by omega) hb e1] at h
    simp only [Option.bind_some] at h
    have h := (congrArg (fun z => Option.bind z _) a1).symm.trans h
    simp only [Option.bind_some, hlet_e] at h
    rw [show nI k + (1 : Int32) = nI (k + 1) from pi_add k 1] at h
    obtain ⟨u1, u2, u3, u4, u5⟩ := ih (k + 1) f I1 I' K1 (B + 1) (by omega) (by omega) a6 a4 a5 a8 a7 hT h (by omega) t4 (by rw [a14]; exact ht) t1 t2
    exact ⟨by rw [show B + (d + 1) = B + 1 + d by omega]; exact u1, u2, t3.tr u3, u4, u5⟩
theorem second_hc {I : Nat → Nat → Int32} {O O7 : Nat → Nat → Option Nat} {I11 K : Nat → Nat → Int32} {p12 : Int32} {β n B : Nat} (hB : IsB β) (h : RR I β (K 130) n) (hr : K 130 150 = 1) (hO : f_X3_putInOrder β (gup I β 6 (I β 6 + 1)) O = some O7) (hL : f_X3_letGoBy_L30 β O7 FU (0 : Int32) (gup I β 6 (I β 6 + 1)) = some I11) (hp : p12 = 0 ∨ p12 = 1) (hB2 : B + 10 < 1000000000) (hc : zHC I β B) : zHC (gup I11 β 5 p12) β (B + 9) ∧ zFM β n I (gup I11 β 5 p12) := by
  obtain ⟨hR, hZ, h6, hw, hwr, hlt⟩ := h
  have hn := hw.1.2
  have h3 : I β 3 = nI n := hR.1.1.trans hw.1.1
  have h5 : I β 5 = 1 := hR.1.2.2.1.trans hr
  obtain ⟨n', hn', h3', hg, hh⟩ := hc
  obtain rfl : n' = n := by rw [h3] at h3'; rw [pi_eq (by omega) (by omega)] at h3'; exact h3'.symm
  have hR6 : R (gup I β 6 (I β 6 + 1)) β (K 130) n' := by
    obtain ⟨h1, h2, h3, h4⟩ := hR
    have z : ∀ f, f ≠ 6 → gup I β 6 (I β 6 + 1) β f = I β f := fun f hf => gup_i hf
    refine ⟨?_, fun k hk => by rw [gup_n (by omega)]; exact h2 k hk, fun b hb => RB_cell (gup_ne cB_ne) (h3 b hb), fun b k hb hk e => by rw [gup_n cB_ne]; exact h4 b k hb hk e⟩
    rw [z 3 (by omega), z 4 (by omega), z 5 (by omega), z 7 (by omega), z 8 (by omega), z 9 (by omega), z 10 (by omega), z 11 (by omega), z 12 (by omega), z 13 (by omega)]
    exact h1
  have hZ6 : RZ (gup I β 6 (I β 6 + 1)) β := RZ_keep (Or.inr (fun b => fun c => cB_ne c.symm)) hZ
  obtain ⟨O8, o1, o2, o3⟩ := x3_putInOrder (O := O) hB hw hR6 hZ6
  rw [hO] at o1
  obtain rfl := Option.some.inj o1
  obtain ⟨g5, g6, g7, g9, g10, g11, g12, g13, gw, gr⟩ := hg
  obtain ⟨b8, bb, bm⟩ := hh
  have k6 := g6.e (by omega)
  have k7 := g7.e (by omega)
  have z : ∀ f, f ≠ 6 → gup I β 6 (I β 6 + 1) β f = I β f := fun f hf => gup_i hf
  have z6 : gup I β 6 (I β 6 + 1) β 6 = nI (tn (I β 6) + 1) := by rw [gup_at]; exact (congrArg (fun z => z + (1 : Int32)) k6.1).trans (pi_add _ 1)
  have o : ∀ b, gup I β 6 (I β 6 + 1) (cB β b) = I (cB β b) := fun b => gup_ne cB_ne
  have hg6 : zHG (gup I β 6 (I β 6 + 1)) β (B + 1) := by
    unfold zHG
    rw [z 5 (by omega), z6, z 7 (by omega), z 9 (by omega), z 10 (by omega), z 11 (by omega), z 12 (by omega), z 13 (by omega)]
    exact ⟨g5, ⟨_, rfl, by omega, by omega⟩, g7, g9.le (Nat.le_refl _) (by omega), g10.le (Nat.le_refl _) (by omega), g11.le (Nat.le_refl _) (by omega), g12.le (Nat.le_refl _) (by omega), g13.le (Nat.le_refl _) (by omega), gw, gr⟩
  have hh6 : zHB (gup I β 6 (I β 6 + 1)) β n' := by
    refine ⟨?_, fun b hb => ?_, fun b c hb hc => ?_⟩
    · rw [z 8 (by omega), b8]; exact (sC_cg (fun k hk => by rw [o])).symm
    · rw [o, z6, z 7 (by omega), tn_nI (by omega)]
      obtain ⟨p1, p2⟩ := bb b hb
      refine ⟨p1, fun q => ?_⟩
      obtain ⟨q1, q2, q3⟩ := p2 q
      exact ⟨q1.le (Nat.le_refl _) (by omega), q2, q3⟩
    · rw [o, o]; exact bm b c hb hc
  obtain ⟨t1, t2, t3, t4, t5⟩ := turns_hc (K0 := K) hB n' 0 FU (gup I β 6 (I β 6 + 1)) I11 K (B + 1) (by omega) (by unfold FU; omega) hw hR6 hZ6 (by rw [gup_at, h6]) (hwr hr) (fun q hq => by
    obtain ⟨b, hb, e1, _⟩ := o2 q hq
    exact ⟨b, hb, e1⟩) hL (by omega) (by rw [z 5 (by omega)]; exact h5) (by rw [z6, tn_nI (by omega)]; omega) hg6 hh6
  have y : ∀ f, f ≠ 5 → gup I11 β 5 p12 β f = I11 β f := fun f hf => gup_i hf
  have y5 : gup I11 β 5 p12 β 5 = p12 := gup_at
  have yo : ∀ b, gup I11 β 5 p12 (cB β b) = I11 (cB β b) := fun b => gup_ne cB_ne
  have t1' := t1.le (show B + 1 + n' ≤ B + 9 by omega)
  refine ⟨⟨n', hn', ?_, ?_, ?_⟩, fun b hb => ?_⟩
  · rw [y 3 (by omega)]; exact t5
  · obtain ⟨q5, q6, q7, q9, q10, q11, q12, q13, qw, qr⟩ := t1'
    unfold zHG
    rw [y5, y 6 (by omega), y 7 (by omega), y 9 (by omega), y 10 (by omega), y 11 (by omega), y 12 (by omega), y 13 (by omega)]
    refine ⟨hp, q6, q7, q9, q10, q11, q12, q13, ?_, fun _ => qr t4⟩
    rw [t4] at qw
    rcases hp with e | e
    · rw [e, if_neg (fun z => absurd z.1 (by decide))]; omega
    · rw [e]; exact qw
  · obtain ⟨c8, cb, cm⟩ := t2
    refine ⟨?_, fun b hb => ?_, fun b c hb hc => ?_⟩
    · rw [y 8 (by omega), c8]; exact (sC_cg (fun k hk => by rw [yo])).symm
    · rw [yo, y 6 (by omega), y 7 (by omega)]; exact cb b hb
    · rw [yo, yo]; exact cm b c hb hc
  · rw [yo]
    have := t3 b hb
    rw [o] at this
    exact this
theorem loop_hc {β n m : Nat} (hB : IsB β) (hm : m < 4000) :
    ∀ d k fuel (I I' : Nat → Nat → Int32) (O O' : Nat → Nat → Option Nat) (K : Nat → Nat → Int32) (B : Nat), k + d = m → d < fuel → RR I β (K 130) n → f_X3_letGoBy_L2 β (nI m) fuel (nI k) I O = some (I', O') → B + 9 * d + 10 < 1000000000 → zHC I β B → zHC I' β (B + 9 * d) ∧ zFM β n I I' := by
  intro d
  induction d with
  | zero =>
    intro k fuel I I' O O' K B hk hf h hL hB2 hc
    obtain ⟨f, rfl⟩ : ∃ f, fuel = f + 1 := ⟨fuel - 1, by omega⟩
    rw [f_X3_letGoBy_L2, if_pos (by rw [pi_le (by omega) (by omega)]; omega)] at hL
    simp only [Option.some.injEq, Prod.mk.injEq] at hL
    rw [← hL.1]
    exact ⟨hc, fun _ _ => Nat.le_refl _⟩
  | succ d ih =>
    intro k fuel I I' O O' K B hk hf h hL hB2 hc
    obtain ⟨f, rfl⟩ : ∃ f, fuel = f + 1 := ⟨fuel - 1, by omega⟩
    have h5 : I β 5 = K 130 150 := h.1.1.2.2.1
    have hb := h.2.2.2.1.2.2.2.2.1.2.e (by omega)
    by_cases hr : K 130 150 = 1
    · obtain ⟨O7, I11, p12, K1, v1, a1, a2, a3, a4, a5, a6, a7, a8, a9, a10, a11⟩ := one_second (O := O) hB h hr
      have hp : p12 = 0 ∨ p12 = 1 := gz_of a4
      obtain ⟨s1, s2⟩ := second_hc hB h hr a1 a2 hp (by omega) hc
      rw [f_X3_letGoBy_L2, if_neg (by rw [pi_le (by omega) (by omega)]; omega), h5, hr, if_neg (by decide), hlet_e, a1] at hL
      simp only [Option.bind_some] at hL
      rw [a2] at hL
      simp only [Option.bind_some] at hL
      have hL := (congrArg (fun z => Option.bind z _) a3).symm.trans hL
      simp only [Option.bind_some] at hL
      rw [a4, hg_t, hlet_e, hlet_e, show nI k + (1 : Int32) = nI (k + 1) from pi_add k 1] at hL
      obtain ⟨u1, u2⟩ := ih (k + 1) f _ I' O7 O' K1 (B + 9) (by omega) (by omega) a6 hL (by omega) s1
      exact ⟨by rw [show B + 9 * (d + 1) = B + 9 + 9 * d by omega]; exact u1, s2.tr u2⟩
    · have h0 : K 130 150 = 0 := by
        have : tn (K 130 150) ≠ 1 := fun e => hr (by rw [hb.1, e]; rfl)
        rw [hb.1, show tn (K 130 150) = 0 by omega]; rfl
      rw [f_X3_letGoBy_L2, if_neg (by rw [pi_le (by omega) (by omega)]; omega), h5, h0, if_pos rfl] at hL
      simp only [Option.some.injEq, Prod.mk.injEq] at hL
      rw [← hL.1]
      exact ⟨hc.le (by omega), fun _ _ => Nat.le_refl _⟩
theorem pass_hc {I I' K : Nat → Nat → Int32} {O O' : Nat → Nat → Option Nat} {β n m B : Nat} (hB : IsB β) (hm : m < 4000) (h : RR I β (K 130) n) (hL : f_X3_letGoBy β (nI m) I O = some (I', O')) (hB2 : B + 9 * m + 10 < 1000000000) (hc : zHC I β B) : zHC I' β (B + 9 * m) ∧ zFM β n I I' := by
  unfold f_X3_letGoBy at hL
  obtain ⟨⟨I4, O5⟩, h4, hL⟩ := hb_some hL
  simp only [Option.some.injEq, Prod.mk.injEq] at hL
  obtain ⟨rfl, rfl⟩ := hL
  exact loop_hc hB hm m 0 FU I I4 O O5 K B (by omega) (by unfold FU; omega) h h4 hB2 hc
