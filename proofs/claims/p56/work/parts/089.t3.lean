/-! The whole of follow; and how far a bird flies in a second. -/
theorem fe_v {I : Nat → Nat → Int32} {c : Nat → Nat} {len : Nat} {os : List (Nat × Nat × Nat)} (hl : len ≤ 60) (hc : ∀ k, k < len → 33 ≤ c k ∧ c k ≤ 126) (hT : TI I c len) (hs : Segs c len os 0) : ∃ I', f_X7_readText I = some (nI len, I') ∧ f_X1_isWhole I' = some 1 ∧ ∀ q, q ≠ 128 → I' q = I q := by
  obtain ⟨X, x1, x2⟩ := is_start (I0 := I) (I := I) (fun _ _ => rfl)
  obtain ⟨I', a1, a2, a3⟩ := read_l hl hc os 0 FU X I 32 (-1) hs (hT.k x2.f) x2 (by omega) (by unfold FU; omega)
  refine ⟨I', ?_, a2, fun q hq => (a3 q hq).trans (x2.f q hq)⟩
  unfold f_X7_readText
  exact sq1 x1 a1
theorem foll_v {I K : Nat → Nat → Int32} {O : Nat → Nat → Option Nat} {c : Nat → Nat} {len n : Nat} {os : List (Nat × Nat × Nat)} {s s' : Nat → Int32} (h : Inv2 I K O) (hR : RR I 1 s n) (hl : len ≤ 60) (hc : ∀ k, k < len → 33 ≤ c k ∧ c k ≤ 126) (hT : TI I c len) (hs : Segs c len os 0) (hos : OSs n os s s') (hlen : os.length < 100) : ∃ I' O', f_L_follow I O = some (nI os.length, I', O') ∧ RR I' 1 s' n := by
  obtain ⟨Ia, r1, w1, f1⟩ := fe_v hl hc hT hs
  have hh := h
  obtain ⟨n0, p0, len0, h1, hZZ, _⟩ := hh
  have hRa : RR Ia 1 s n := RR_I (fun a q1 q2 => f1 a (by omega)) hR
  have hZa : RZ Ia 13 := RZ_I (fun a q1 q2 => f1 a (by omega)) (hZZ 13 isB13)
  obtain ⟨X, x1, x2, x3, x4, x5, x6⟩ := x3_take (I := Ia) isB13 isB1 (by omega) hRa.2.1 hRa.gz5
  have hRX := take_RR hZa hRa x3 x4 x5 x6
  obtain ⟨Y, y1, y2⟩ := is_start (I0 := X) (I := X) (fun _ _ => rfl)
  have hTY : TI Y c len := by
    refine ⟨?_, hT.2.1, fun q hq => ?_⟩
    · rw [y2.f 126 (by omega), x2 126 (by omega), f1 126 (by omega)]; exact hT.1
    · rw [y2.f 127 (by omega), x2 127 (by omega), f1 127 (by omega)]; exact hT.2.2 q hq
  obtain ⟨I6, O6, a1, a2, a3, a4⟩ := foll_l hl hc os 0 0 FU Y X O 32 (-1) s s' hs hos hTY y2 (RR_I (fun a q1 q2 => y2.f a (by omega)) hRX) (by omega) (by unfold FU; omega)
  have i6 : ∀ a, a < 13 ∨ (25 ≤ a ∧ a ≠ 128) → I6 a = I a := fun a ha => (a3 a ha).trans ((y2.f a (by omega)).trans ((x2 a (by omega)).trans (f1 a (by omega))))
  have hR6 : RR I6 1 (K 130) n0 := RR_I (fun a q1 q2 => i6 a (by omega)) h1
  have hI6 : Inv2 I6 K O6 := Inv2_nowJ h (fun a q1 q2 => i6 a (by omega)) a2.2.1 hR6 (fun _ _ _ => rfl) rfl rfl (a4 26 (by omega))
  obtain ⟨n1, I10, O10, K10, s1, s2, s3, s4, s5, s6, s7, _⟩ := sv_step hI6
  have hR10 : RR I10 13 s' n := RR_I (fun a q1 q2 => s7 a (by omega)) a2
  obtain ⟨Z, z1, z2, z3, z4, z5, z6⟩ := x3_take (I := I10) isB1 isB13 (by omega) hR10.2.1 hR10.gz5
  have hRZ := take_RR s3.2.1 hR10 z3 z4 z5 z6
  refine ⟨gup Z 126 1 0, O10, ?_, RR_I (fun a q1 q2 => gup_ne (by omega)) hRZ⟩
  unfold f_L_follow f_X7_follow
  refine sq1 (a := (Sum.inr (nI os.length), gup Z 126 1 0, O10)) ?_ rfl
  refine sq1 r1 ?_
  refine ifn (by rw [f1 126 (by omega), hT.1, pi_lt (by omega) (by omega)]; omega) ?_
  refine sq1 w1 (ifn (by decide) ?_)
  refine sq1 (a := (nI os.length, I6, O6)) ?_ ?_
  · unfold f_X7_followOnTrial
    refine sq1 x1 ?_
    refine sq1 y1 ?_
    rw [Nat.zero_add] at a1
    exact a1
  · refine ifn (m1_n (by omega)) ?_
    refine sq1 s1 ?_
    refine sq1 z1 ?_
    rfl
theorem turn_fu {I I' : Nat → Nat → Int32} {β n b : Nat} {s : Nat → Int32} (hB : IsB β) (hw : WX s n) (hb : b < n) (hR : R I β s n) (hZ : RZ I β) (h : (hopt (some (cB β b)) (some I) fun n20 => hk n20 6 <| (f_X6_startsTurnFlying n20 I).bind fun (r22, I21) => if r22 = 0 then some I21 else (f_X3_fly β n20 I21).bind fun I24 => some I24) = some I') : (∀ c, c ≠ b → I' (cB β c) 4 = I (cB β c) 4) ∧ tn (I' (cB β b) 4) ≤ tn (I (cB β b) 4) + 42 := by
  have hn := hw.1.2
  rw [hopt_e2] at h
  obtain ⟨-, h⟩ := hk_some h
  obtain ⟨⟨r22, I21⟩, hs, h⟩ := hb_some h
  unfold f_X6_startsTurnFlying at hs
  simp only [hlet_e] at hs
  have c0 : gup I (cB β b) 5 0 (cB β b) 9 = I (cB β b) 9 := gup_i (by omega)
  rw [c0] at hs
  have small : ∀ X : Nat → Nat → Int32, (∀ a, a ≠ cB β b → X a = I a) → X (cB β b) 4 = I (cB β b) 4 → (∀ c, c ≠ b → X (cB β c) 4 = I (cB β c) 4) ∧ tn (X (cB β b) 4) ≤ tn (I (cB β b) 4) + 42 := by
    intro X x1 x2
    exact ⟨fun c hc => by rw [x1 _ (cB_inj hc)], by rw [x2]; omega⟩
  by_cases e1 : I (cB β b) 9 = 1
  · rw [if_pos e1] at hs
    simp only [Option.bind_some] at hs
    rw [if_neg (show ¬ (I (cB β b) 9 = 2) by rw [e1]; decide)] at hs
    simp only [show gz (1 : Int32) = true by decide, hg_t, Option.some.injEq, Prod.mk.injEq] at hs
    obtain ⟨rfl, rfl⟩ := hs
    simp only [show ¬ ((1 : Int32) = 0) by decide, if_false] at h
    obtain ⟨I24, hf, h⟩ := hb_some h
    obtain rfl := Option.some.inj h
    have hR1 : R (gup I (cB β b) 5 0) β (wpd s (16 * b + 8) 0) n := R_bird hn hw.a.2 hb (by unfold bPair; omega) hR
    have hw1 : WX (wpd s (16 * b + 8) 0) n := WX_bird hb (by unfold okv; right; right; right; right; right; right; right; right; left; rfl) hw
    have hZ1 : RZ (gup I (cB β b) 5 0) β := RZ_keep (Or.inl ⟨by omega, by omega⟩) hZ
    have hfe := fly_fe hB hw1 hb hR1 hZ1 hf
    obtain ⟨q1, _, _, _, _, x, y, ex, ey, lx, _, ly, _⟩ := hfe
    refine ⟨fun c hc => ?_, ?_⟩
    · rw [q1 _ cB_ne (cB_inj hc), gup_ne (cB_inj hc)]
    · rw [gup_i (by omega)] at ex
      rw [ey, ex, tn_nI (by omega), tn_nI (by omega)]; omega
  · rw [if_neg e1] at hs
    simp only [Option.bind_some] at hs
    by_cases e2 : I (cB β b) 9 = 2
    · rw [if_pos e2] at hs
      obtain ⟨p4, h4, hs⟩ := hb_some hs
      simp only [show gz (0 : Int32) = true by decide, hg_t, Option.some.injEq, Prod.mk.injEq] at hs
      obtain ⟨rfl, rfl⟩ := hs
      simp only [eq_self, if_true] at h
      obtain rfl := Option.some.inj h
      exact small _ (fun a ha => by rw [gup_ne ha, gup_ne ha, gup_ne ha]) (by rw [gup_i (by omega), gup_i (by omega), gup_i (by omega)])
    · rw [if_neg e2] at hs
      simp only [show gz (0 : Int32) = true by decide, hg_t, Option.some.injEq, Prod.mk.injEq] at hs
      obtain ⟨rfl, rfl⟩ := hs
      simp only [eq_self, if_true] at h
      obtain rfl := Option.some.inj h
      exact small _ (fun a ha => gup_ne ha) (gup_i (by omega))
theorem turns_fu {O7 : Nat → Nat → Option Nat} {β n : Nat} {κ : Nat → Nat} (hB : IsB β) (hκ : ∀ x y, x < n → y < n → x ≠ y → κ x ≠ κ y) :
    ∀ d k fuel (I I' K : Nat → Nat → Int32), k + d = n → d < fuel → WX (K 130) n → R I β (K 130) n → RZ I β → I β 6 = K 130 134 + 1 → WA (K 130) n →
    (∀ q, q < n → ∃ b, b < n ∧ O7 (β + 2) q = some (cB β b) ∧ rk κ b n = q) → f_X3_letGoBy_L30 β O7 fuel (nI k) I = some I' →
    ∀ b, b < n → tn (I' (cB β b) 4) ≤ tn (I (cB β b) 4) + (if k ≤ rk κ b n then 42 else 0) := by
  intro d
  induction d with
  | zero =>
    intro k fuel I I' K hk hf hw hR hZ h6 hA hT h b hb
    have hn := hw.1.2
    obtain ⟨f, rfl⟩ : ∃ f, fuel = f + 1 := ⟨fuel - 1, by omega⟩
    have h3 : I β 3 = nI n := hR.1.1.trans hw.1.1
    rw [f_X3_letGoBy_L30, h3, if_pos (by rw [pi_le (by omega) (by omega)]; omega)] at h
    obtain rfl := Option.some.inj h
    omega
  | succ d ih =>
    intro k fuel I I' K hk hf hw hR hZ h6 hA hT h b hb
    have hn := hw.1.2
    obtain ⟨f, rfl⟩ : ∃ f, fuel = f + 1 := ⟨fuel - 1, by omega⟩
    have h3 : I β 3 = nI n := hR.1.1.trans hw.1.1
    obtain ⟨b0, hb0, e1, erk⟩ := hT k (by omega)
    obtain ⟨I1, K1, v1, a1, a2, a3, a4, a5, a6, a7, a8, a9, a10, a11, a12, a13, a14⟩ := turn_both (p4 := 0) hB hw hb0 hR hZ h6 hA
    obtain ⟨t1, t2⟩ := turn_fu hB hw hb0 hR hZ a1
    rw [f_X3_letGoBy_L30, h3, if_neg (by rw [pi_le (by omega) (by omega)]; omega), x3_inOrder hB h3 hn (by omega) hb0 e1] at h
    simp only [Option.bind_some] at h
    have h := (congrArg (fun z => Option.bind z _) a1).symm.trans h
    simp only [Option.bind_some, hlet_e] at h
    rw [show nI k + (1 : Int32) = nI (k + 1) from pi_add k 1] at h
    have u := ih (k + 1) f I1 I' K1 (by omega) (by omega) a6 a4 a5 a8 a7 hT h b hb
    by_cases eb : b = b0
    · subst eb
      rw [erk, if_neg (by omega)] at u
      rw [erk, if_pos (by omega)]
      omega
    · rw [t1 b eb] at u
      have hne : rk κ b n ≠ k := fun z => eb (rk_inj hb hb0 (hκ b b0 hb hb0) (z.trans erk.symm))
      by_cases c : k + 1 ≤ rk κ b n
      · rw [if_pos c] at u; rw [if_pos (by omega)]; exact u
      · rw [if_neg c] at u; rw [if_neg (by omega)]; exact u
theorem one_fu {I I' K : Nat → Nat → Int32} {O O' : Nat → Nat → Option Nat} {β n : Nat} (hB : IsB β) (h : RR I β (K 130) n) (hr : K 130 150 = 1) (e : f_X3_letGoBy β (nI 1) I O = some (I', O')) : (∀ b, b < n → tn (I' (cB β b) 4) ≤ tn (I (cB β b) 4) + 42) ∧ (I' β 5 = 0 → I' β 3 ≤ I' β 7) := by
  obtain ⟨O7, I11, p12, K1, v1, a1, a2, a3, a4, a5, a6, a7, a8, a9, a10, a11⟩ := one_second (O := O) hB h hr
  have h5 : I β 5 = K 130 150 := h.1.1.2.2.1
  have e2 : f_X3_letGoBy β (nI 1) I O = some (gup I11 β 5 p12, O7) := by
    unfold f_X3_letGoBy
    have e : f_X3_letGoBy_L2 β (nI 1) FU 0 I O = some (gup I11 β 5 p12, O7) := by
      show f_X3_letGoBy_L2 β (nI 1) (4095 + 1) 0 I O = _
      rw [f_X3_letGoBy_L2, if_neg (by decide), h5, hr, if_neg (by decide), hlet_e, a1]
      refine sq1 rfl ?_
      refine sq1 a2 ?_
      refine sq1 a3 ?_
      rw [a4, hg_t, hlet_e, hlet_e]
      show f_X3_letGoBy_L2 β (nI 1) (4094 + 1) _ _ _ = _
      rw [f_X3_letGoBy_L2, if_pos (by decide)]
    exact sq1 e rfl
  rw [e2] at e
  have e := Option.some.inj e
  obtain rfl : gup I11 β 5 p12 = I' := congrArg (fun z => z.1) e
  obtain ⟨hR, hZ, h6, hw, hwr, hlt⟩ := h
  have hn := hw.1.2
  have hR6 : R (gup I β 6 (I β 6 + 1)) β (K 130) n := by
    obtain ⟨h1, h2, h3, h4⟩ := hR
    have z : ∀ f, f ≠ 6 → gup I β 6 (I β 6 + 1) β f = I β f := fun f hf => gup_i hf
    refine ⟨?_, fun k hk => by rw [gup_n (by omega)]; exact h2 k hk, fun b hb => RB_cell (gup_ne cB_ne) (h3 b hb), fun b k hb hk e => by rw [gup_n cB_ne]; exact h4 b k hb hk e⟩
    rw [z 3 (by omega), z 4 (by omega), z 5 (by omega), z 7 (by omega), z 8 (by omega), z 9 (by omega), z 10 (by omega), z 11 (by omega), z 12 (by omega), z 13 (by omega)]
    exact h1
  have hZ6 : RZ (gup I β 6 (I β 6 + 1)) β := RZ_keep (Or.inr (fun b => fun c => cB_ne c.symm)) hZ
  obtain ⟨O8, o1, o2, o3⟩ := x3_putInOrder (O := O) hB hw hR6 hZ6
  rw [a1] at o1
  obtain rfl := Option.some.inj o1
  have t := turns_fu (κ := ky (K 130) n) hB (fun x y hx hy hne => ky_inj hw hx hy hne) n 0 FU (gup I β 6 (I β 6 + 1)) I11 K (by omega) (by unfold FU; omega) hw hR6 hZ6 (by rw [gup_at, h6]) (hwr hr) o2 a2
  have y : ∀ f, f ≠ 5 → gup I11 β 5 p12 β f = I11 β f := fun f hf => gup_i hf
  refine ⟨fun b hb => ?_, fun z => ?_⟩
  · have := t b hb
    rw [if_pos (Nat.zero_le _), gup_ne cB_ne] at this
    rw [gup_ne cB_ne]; exact this
  · rw [gup_at] at z
    rw [y 3 (by omega), y 7 (by omega)]
    by_cases c : (I11 β 3) ≤ (I11 β 7)
    · exact c
    · rw [if_neg c] at a3
      have := Option.some.inj a3
      rw [z] at this; exact absurd this (by decide)
