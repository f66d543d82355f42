theorem Inv2_nowJ {I K X Y : Nat → Nat → Int32} {O O' : Nat → Nat → Option Nat} {n : Nat} (h : Inv2 I K O) (eI : ∀ a, 25 ≤ a → a < 128 → X a = I a) (eZ : RZ X 13) (hR : RR X 1 (Y 130) n) (eK : ∀ a, 132 ≤ a → a ≠ 136 → Y a = K a) (e3 : Y 129 3 = K 129 3) (e7 : Y 129 7 = K 129 7) (eO : O' 26 = O 26) : Inv2 X Y O' := by
  obtain ⟨m, p, len, h1, h2, ⟨h3, h4, h5, σ, s1, s2, s3⟩, h6, h7, h8, h9, h10⟩ := h
  refine ⟨n, p, len, hR, fun β hβ => ?_, ⟨by rw [eI 25 (by omega) (by omega)]; exact h3, e3.trans h4, h5, σ, fun i hi => by rw [eO]; exact s1 i hi, s2, fun i hi => ?_⟩, fun j hj => ?_, by rw [eI 126 (by omega) (by omega)]; exact h7, e7.trans h8, h9, fun i hi => by rw [eI 127 (by omega) (by omega), eK 135 (by omega) (by omega)]; exact h10 i hi⟩
  · have hz := h2 β hβ
    rcases hβ with rfl | rfl | ⟨k, hk, rfl⟩ | rfl | rfl
    · exact hR.2.1
    · exact eZ
    · exact RZ_I (fun a h1 h2 => eI a (by omega) (by omega)) hz
    · exact RZ_I (fun a h1 h2 => eI a (by omega) (by omega)) hz
    · exact RZ_I (fun a h1 h2 => eI a (by omega) (by omega)) hz
  · obtain ⟨m', hm⟩ := s3 i hi
    have := (s1 i (by omega)).1
    rw [eK 132 (by omega) (by omega)]
    exact ⟨m', RR_I (fun a h1 h2 => eI a (by omega) (by omega)) hm⟩
  · obtain ⟨a1, a2, a3⟩ := h6 j hj
    rw [eI 101 (by omega) (by omega), eK 134 (by omega) (by omega), eK 133 (by omega) (by omega)]
    refine ⟨a1, a2, fun h => ?_⟩
    obtain ⟨m', hm⟩ := a3 h
    exact ⟨m', RR_I (fun a h1 h2 => eI a (by omega) (by omega)) hm⟩
theorem Inv2_clear {I K : Nat → Nat → Int32} {O : Nat → Nat → Option Nat} (h : Inv2 I K O) : Inv2 (gup I 126 1 0) (gup K 129 7 0) O := by
  obtain ⟨n, p, len, h1, h2, ⟨s1, s2, s3, σ, s4, s5, s6⟩, h4, h5, h6, h7, h8⟩ := h
  have w : ∀ a, a ≠ 126 → gup I 126 1 0 a = I a := fun a x => gup_ne x
  have z : ∀ a, a ≠ 129 → gup K 129 7 0 a = K a := fun a x => gup_ne x
  refine ⟨n, p, 0, ?_, fun β hβ => RZ_I (fun a h1 h2 => w a ?_) (h2 β hβ), ⟨by rw [w 25 (by omega)]; exact s1, by rw [gup_i (by omega)]; exact s2, s3, σ, s4, s5, fun i hi => ?_⟩, fun j hj => ?_, by rw [gup_at]; rfl, gup_at, by omega, fun i hi => absurd hi (by omega)⟩
  · rw [z 130 (by omega)]; exact RR_I (fun a h1 h2 => w a (by omega)) h1
  · rcases hβ with rfl | rfl | ⟨k, hk, rfl⟩ | rfl | rfl <;> omega
  · obtain ⟨m, hm⟩ := s6 i hi
    have := (s4 i (by omega)).1
    rw [z 132 (by omega)]
    exact ⟨m, RR_I (fun a h1 h2 => w a (by omega)) hm⟩
  · obtain ⟨a1, a2, a3⟩ := h4 j hj
    rw [w 101 (by omega), z 134 (by omega), z 133 (by omega)]
    refine ⟨a1, a2, fun h => ?_⟩
    obtain ⟨m, hm⟩ := a3 h
    exact ⟨m, RR_I (fun a h1 h2 => w a (by omega)) hm⟩
theorem sv_step2 {I K : Nat → Nat → Int32} {O : Nat → Nat → Option Nat} (h : Inv2 I K O) :
    ∃ n I1 O1 K1, f_X4_save 1 I O = some (I1, O1) ∧ f_X8_records (gup K 129 8 0) = some K1 ∧ RR I1 1 (K1 130) n ∧ Inv2 I1 K1 O1 ∧ K1 129 8 = 0 ∧ (∀ a, a ≠ 25 → (a < 27 ∨ 99 ≤ a) → I1 a = I a) ∧ (∀ a, a ≠ 132 → a ≠ 129 → K1 a = K a) ∧ (∀ f, f ≠ 3 → f ≠ 8 → K1 129 f = K 129 f) := by
  have hh := h
  obtain ⟨n, I1, O1, K1, a1, a2, a3, a4, a5, a6, a7, a8, a9⟩ := sv_step h
  obtain ⟨n', p, len, h1, h2, h3, h4, h5, h6, h7, h8⟩ := hh
  have e : ∀ a, 130 ≤ a → gup K 129 8 0 a = K a := fun a ha => gup_ne (by omega)
  obtain ⟨s1, s2, s3, σ, s4, s5, s6⟩ := h3
  obtain ⟨I', O', K', p', b1, b2, b3, b4, b5, b6, b7, b8⟩ := save_both (K := gup K 129 8 0) h2 (by rw [e 130 (by omega)]; exact h1) ⟨s1, by rw [gup_i (by omega)]; exact s2, s3, σ, s4, s5, fun i hi => by rw [e 132 (by omega)]; exact s6 i hi⟩
  rw [a1] at b1
  rw [a2] at b2
  simp only [Option.some.injEq, Prod.mk.injEq] at b1 b2
  obtain ⟨rfl, rfl⟩ := b1
  subst b2
  exact ⟨n, I1, O1, K1, a1, a2, a3, a4, a5, b5, fun a z1 z2 => (b7 a z1 z2).trans (gup_ne z2), fun f z1 z2 => (b8 f z1).trans (gup_i z2)⟩
theorem op_follow : OPB f_W_follow f_X8_follow := by
  intro I O J K h
  have hh := h
  obtain ⟨n, p, len, h1, h2, h3, h4, hx⟩ := hh
  obtain ⟨hT, ht⟩ := tx_c hx
  obtain ⟨K', I1, j, r1, r2, r3, w, r4, r5⟩ := read_both ht hT
  have hl := ht.2.1
  have i126 : I1 126 1 = nI len := by rw [r3 126 (by omega)]; exact hT.1
  generalize hc : (fun i => tn (K 135 i)) = c at *
  rcases r5 with ⟨rfl, u1, u2, ⟨L, a, b, u3⟩, u4⟩ | ⟨rfl, ⟨L, a, b, u1⟩, u2⟩
  · -- orders
    subst u1
    have hok := u2 (j + 1) (by omega)
    generalize hK5 : gup K' 129 8 0 = K5
    have k5f : ∀ q, q ≠ 129 → K5 q = K q := fun q hq => by rw [← hK5, gup_ne hq]; exact u3.1 q hq
    have k5q : ∀ f, (f < 10 ∨ 14 < f) → f ≠ 8 → K5 129 f = K 129 f := fun f hf h8 => by rw [← hK5, gup_i h8]; exact u3.2.1 f hf
    obtain ⟨X, x1, x2, x3, x4, x5, x6⟩ := x3_take (I := I1) isB13 isB1 (by omega) (RZ_I (fun q _ h => r3 q (by omega)) h1.2.1) (by rw [r3 1 (by omega)]; exact h1.gz5)
    have h1' : RR I1 1 (K 130) n := RR_I (fun q _ h => r3 q (by omega)) h1
    have hZ13 : RZ I1 13 := RZ_I (fun q _ h => r3 q (by omega)) (ZZ13 h)
    have hRX := take_RR hZ13 h1' x3 x4 x5 x6
    obtain ⟨X2, y1, y2⟩ := is_start (I0 := X) (I := X) (fun _ _ => rfl)
    have hRX2 : RR X2 13 (K 130) n := RR_I (fun q _ h => y2.1 q (by omega)) hRX
    have hTX : TI X2 c j := ⟨by rw [y2.1 126 (by omega), x2 126 (by omega)]; exact i126, hl, fun q hq => by rw [y2.1 127 (by omega), x2 127 (by omega), r3 127 (by omega)]; exact hT.2.2 q hq⟩
    have hIX2 : IS X2 X2 0 32 (-1) 0 := ⟨fun _ _ => rfl, y2.2⟩
    obtain ⟨A, p1, p2, p3⟩ := x8_putAside (K := K5)
    generalize hA2 : gup (gup A 129 10 0) 129 11 0 = A2
    have a2f : ∀ q, q ≠ 129 → q ≠ 131 → A2 q = K q := fun q z1 z2 => by rw [← hA2, gup_ne z1, gup_ne z1, p2 q z2]; exact k5f q z1
    have a2q : ∀ f, f < 10 ∨ 14 < f → f ≠ 8 → A2 129 f = K 129 f := fun f hf h8 => by rw [← hA2, gup_i (by omega), gup_i (by omega), p2 129 (by omega)]; exact k5q f hf h8
    have htA : TK A2 c j := ⟨by rw [a2q 7 (by omega) (by omega)]; exact ht.1, hl, fun q hq => by rw [a2f 135 (by omega) (by omega)]; exact ht.2.2 q hq⟩
    obtain ⟨r, I6, O6, B, m1, m2, m3, m4, m5, m6, m7, m8⟩ := follow_loop (n := n) (j + 1) 0 0 FU FU X2 A2 O 32 (-1) hok (by omega) htA hTX (by rw [← hA2, gup_i (by omega), gup_at]; rfl) (by rw [← hA2, gup_at]) hIX2 (by rw [a2f 130 (by omega) (by omega)]; exact hRX2) (by unfold FU; omega) (by unfold FU; omega) (by omega)
    have b131 : ∀ k, k < 151 → B 131 k = K 130 k := fun k hk => by rw [m6 131 (by omega) (by omega) (by omega), ← hA2, gup_ne (by omega), gup_ne (by omega), p3 k hk, k5f 130 (by omega)]
    obtain ⟨C, s1, s2, s3⟩ := x8_putBack (K := B)
    have c130 : ∀ k, k < 151 → C 130 k = K 130 k := fun k hk => (s3 k hk).trans (b131 k hk)
    have i6f : ∀ q, q < 13 ∨ (25 ≤ q ∧ q ≠ 128) → I6 q = I q := fun q hq => (m5 q hq).trans ((y2.1 q (by omega)).trans ((x2 q (by omega)).trans (r3 q (by omega))))
    have cf : ∀ q, q ≠ 129 → q ≠ 130 → q ≠ 131 → q ≠ 136 → C q = K q := fun q z1 z2 z3 z4 => (s2 q z2).trans ((m6 q z1 z2 z4).trans (a2f q z1 z3))
    have cq : ∀ f, f < 10 ∨ 14 < f → f ≠ 8 → C 129 f = K 129 f := fun f hf h8 => by rw [s2 129 (by omega), m7 f hf]; exact a2q f hf h8
    have hfoll : f_X8_followsAll A = some (r, B) := by
      unfold f_X8_followsAll
      simp only [hlet_e]
      rw [hA2]; exact m2
    have hcls : f_X7_followOnTrial I1 O = some (r, I6, O6) := by
      unfold f_X7_followOnTrial
      rw [x1]
      simp only [Option.bind_some]
      rw [y1]
      simp only [Option.bind_some]
      exact m1
    have hInvC : Inv2 I6 C O6 := Inv2_nowJ (n := n) h (fun q z1 z2 => i6f q (by omega)) m4 (RR_s (s := K 130) c130 (RR_I (fun q _ h => i6f q (by omega)) h1)) (fun q z1 z2 => cf q (by omega) (by omega) (by omega) z2) (cq 3 (by omega) (by omega)) (cq 7 (by omega) (by omega)) (m8 26 (by omega))
    have hclsU : f_W_follow I O J = (if r = (-1 : Int32) then some (2, I6, O6, J) else (f_X4_save 1 I6 O6).bind fun y => (f_X3_takeFrom 1 13 y.1).bind fun I13 => some (0, gup I13 126 1 0, y.2, gup J 137 0 r.toInt64)) := by
      unfold f_W_follow f_X7_follow
      rw [r1]
      simp only [Option.bind_some]
      rw [i126, if_neg (by rw [pi_lt (by omega) (by omega)]; omega), u4]
      simp only [Option.bind_some]
      rw [if_neg (show ¬ ((1 : Int32) = 0) by decide), hcls]
      simp only [Option.bind_some]
      by_cases z : r = (-1 : Int32)
      · rw [if_pos z, if_pos z]; rfl
      · rw [if_neg z, if_neg z, Option.bind_assoc]
        cases f_X4_save 1 I6 O6 with
        | none => rfl
        | some y =>
          simp only [Option.bind_some]
          rw [Option.bind_assoc]
          cases f_X3_takeFrom 1 13 y.1 with
          | none => rfl
          | some I13 => rfl
    have hrefU : f_X8_follow K = (if r < 0 then some (0, gup C 129 8 2) else (f_X8_records (gup C 129 8 0)).bind fun I20 => (f_X8_followsAll I20).bind fun y => some (y.1, gup y.2 129 7 0)) := by
      unfold f_X8_follow
      rw [r4]
      simp only [Option.bind_some]
      rw [if_neg (show ¬ ((1 : Int32) = 0) by decide)]
      simp only [Option.bind_some]
      rw [ref0, hK5]
      simp only [Option.bind_some, if_true]
      rw [p1]
      simp only [Option.bind_some]
      rw [hfoll]
      simp only [Option.bind_some]
      rw [s1]
      by_cases z : r < 0
      · rw [if_pos z, if_pos z]
        simp only [Option.bind_some, if_true]
        rw [ref2]
        simp only [Option.bind_some]
        rw [if_neg (show ¬ ((1 : Int32) = 0) by decide)]
      · rw [if_neg z, if_neg z]
        simp only [Option.bind_some, show ¬ ((1 : Int32) = 0) by decide, if_false]
        rw [ref0]
        simp only [Option.bind_some, if_true, hlet_e]
    rcases m3 with rfl | ⟨m, hm, rfl, hRB⟩
    · refine ⟨I6, O6, gup C 129 8 2, Inv2_K (K := C) (fun q hq => gup_ne (by omega)) (gup_i (by omega)) (gup_i (by omega)) hInvC, fun q hq => i6f q (by omega), fun q hq => (gup_ne (by omega)).trans (cf q (by omega) (by omega) (by omega) (by omega)), Or.inr ⟨2, 0, by decide, ?_, ?_, gup_at⟩⟩
      · rw [hclsU, if_pos rfl]
      · rw [hrefU, if_pos (by decide)]
    · have hm1 : ¬ (nI m = (-1 : Int32)) := by
        intro z
        have := congrArg Int32.toInt z
        rw [pi_int (by omega), show (-1 : Int32).toInt = -1 from rfl] at this
        omega
      have hm0 : ¬ (nI m < 0) := by rw [show (0 : Int32) = nI 0 from rfl, pi_lt (by omega) (by omega)]; omega
      obtain ⟨n2, I8, O8, K8, t1, t2, t3, t4, t5, t6, t7, t8⟩ := sv_step2 hInvC
      generalize hA3 : gup (gup K8 129 10 0) 129 11 0 = A3
      have a3f : ∀ q, q ≠ 129 → q ≠ 130 → q ≠ 131 → q ≠ 132 → q ≠ 136 → A3 q = K q := fun q z1 z2 z3 z4 z5 => by rw [← hA3, gup_ne z1, gup_ne z1, t7 q z4 z1]; exact cf q z1 z2 z3 z5
      have a3q : ∀ f, f < 10 ∨ 14 < f → f ≠ 3 → f ≠ 8 → A3 129 f = K 129 f := fun f hf z1 z2 => by rw [← hA3, gup_i (by omega), gup_i (by omega), t8 f z1 z2]; exact cq f hf z2
      have htA3 : TK A3 c j := ⟨by rw [a3q 7 (by omega) (by omega) (by omega)]; exact ht.1, hl, fun q hq => by rw [a3f 135 (by omega) (by omega) (by omega) (by omega) (by omega)]; exact ht.2.2 q hq⟩
      have hRX3 : RR X2 13 (A3 130) n := RR_s (s := K 130) (fun k hk => by rw [← hA3, gup_ne (by omega), gup_ne (by omega), t7 130 (by omega) (by omega)]; exact c130 k hk) hRX2
      obtain ⟨r', I6', O6', B2, m1', m2', m3', m4', m5', m6', m7', m8'⟩ := follow_loop (n := n) (j + 1) 0 0 FU FU X2 A3 O 32 (-1) hok (by omega) htA3 hTX (by rw [← hA3, gup_i (by omega), gup_at]; rfl) (by rw [← hA3, gup_at]) hIX2 hRX3 (by unfold FU; omega) (by unfold FU; omega) (by omega)
      rw [m1] at m1'
      simp only [Option.some.injEq, Prod.mk.injEq] at m1'
      obtain ⟨rfl, rfl, rfl⟩ := m1'
      have hRB2 : RR I6 13 (B2 130) n := by
        rcases m3' with z | ⟨_, _, _, z⟩
        · exact absurd z hm1
        · exact z
      have hRI8 : RR I8 13 (B2 130) n := RR_I (fun q z1 z2 => t6 q (by omega) (by omega)) hRB2
      have hZ1 : RZ I8 1 := t3.2.1
      obtain ⟨Y, y1', y2', y3', y4', y5', y6'⟩ := x3_take (I := I8) isB1 isB13 (by omega) hRI8.2.1 hRI8.gz5
      have hRY := take_RR hZ1 hRI8 y3' y4' y5' y6'
      have b2f : ∀ q, q ≠ 129 → q ≠ 130 → q ≠ 136 → B2 q = K8 q := fun q z1 z2 z3 => (m6' q z1 z2 z3).trans (by rw [← hA3, gup_ne z1, gup_ne z1])
      have b2q : ∀ f, f < 10 → B2 129 f = K8 129 f := fun f hf => by rw [m7' f (by omega), ← hA3, gup_i (by omega), gup_i (by omega)]
      have hInvY : Inv2 Y B2 O8 := Inv2_nowJ (n := n) t4 (fun q z1 z2 => y2' q (by omega)) (RZ_I (fun q z1 z2 => y2' q (by omega)) hRI8.2.1) hRY (fun q z1 z2 => b2f q (by omega) (by omega) z2) (b2q 3 (by omega)) (b2q 7 (by omega)) rfl
      refine ⟨gup Y 126 1 0, O8, gup B2 129 7 0, Inv2_clear hInvY, fun q hq => ?_, fun q hq => ?_, Or.inl ⟨nI m, ?_, ?_, ?_⟩⟩
      · rw [gup_ne (by omega), y2' q (by omega), t6 q (by omega) (by omega)]; exact i6f q (by omega)
      · rw [gup_ne (by omega), b2f q (by omega) (by omega) (by omega), t7 q (by omega) (by omega)]; exact cf q (by omega) (by omega) (by omega) (by omega)
      · rw [hclsU, if_neg hm1, t1]
        simp only [Option.bind_some]
        rw [y1']; rfl
      · rw [hrefU, if_neg hm0, t2]
        simp only [Option.bind_some]
        have hf2 : f_X8_followsAll K8 = some (nI m, B2) := by
          unfold f_X8_followsAll
          simp only [hlet_e]
          rw [hA3]; exact m2'
        rw [hf2]; rfl
      · rw [gup_i (by omega), b2q 8 (by omega)]; exact t5
  · -- no orders
    refine ⟨I1, O, gup K' 129 8 1, ?_, fun q hq => r3 q (by omega), fun q hq => (gup_ne (by omega)).trans (u1.1 q (by omega)), Or.inr ⟨1, 0, by decide, ?_, ?_, gup_at⟩⟩
    · exact Inv2_J (I := I) (fun q hq => r3 q (by omega)) (Inv2_K (K := K) (fun q hq => (gup_ne (by omega)).trans (u1.1 q (by omega))) ((gup_i (by omega)).trans (u1.2.1 3 (by omega))) ((gup_i (by omega)).trans (u1.2.1 7 (by omega))) h)
    · unfold f_W_follow f_X7_follow
      rw [r1]
      simp only [Option.bind_some]
      rw [i126]
      by_cases z : j < len
      · rw [if_pos (by rw [pi_lt (by omega) (by omega)]; exact z)]; rfl
      · rw [if_neg (by rw [pi_lt (by omega) (by omega)]; exact z), u2 (by omega)]; rfl
    · unfold f_X8_follow
      rw [r4]
      simp only [Option.bind_some, if_true]
      rw [ref1]
      simp only [Option.bind_some]
      rw [if_neg (show ¬ ((1 : Int32) = 0) by decide)]
section CS
variable {SL' : Nat} {sx : Nat → Int32} {p4 : Int32} {I : Nat → Nat → Int32} {O : Nat → Nat → Option Nat} {J : Nat → Nat → Int64}
end CS
