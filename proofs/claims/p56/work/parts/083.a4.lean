/-- one order on the trial -/
theorem order_hc {I I1 K : Nat → Nat → Int32} {O O1 : Nat → Nat → Option Nat} {n k w v B : Nat} {r : Int32} (h : RR I 13 (K 130) n) (hp : PR I K k w v) (hB2 : B + 2000 < 1000000000) (hc : zHC I 13 B) (e : f_X7_followOneOnTrial I O = some (r, I1, O1)) : zHC I1 13 (B + 1800) := by
  have small : zHC I 13 (B + 1800) := hc.le (by omega)
  have bird : ∀ c f v, SHK c = 6 → (f = 1 ∨ f = 11) → zHC (gup I c f v) 13 (B + 1800) := fun c f v hk hf => small.cg (fun g _ => gup_n (fun e => by rw [← e] at hk; exact absurd hk (by decide))) (fun b hb g hg => by
    by_cases e : cB 13 b = c
    · rw [e]; exact gup_i (by omega)
    · exact gup_n e)
  have hv : I 128 3 = nI v ∧ v ≤ 200 ∨ I 128 1 = 110 := by
    obtain ⟨-, h1, hp⟩ := hp
    rcases hp with ⟨_, _, hv, _, e⟩ | ⟨_, _, _, hv, _, _, _, e⟩ | ⟨rfl, _⟩ | ⟨_, _, _, hv, _, _, _, e⟩
    · exact Or.inl ⟨e, hv⟩
    · exact Or.inl ⟨e, by omega⟩
    · exact Or.inr h1
    · exact Or.inl ⟨e, by omega⟩
  unfold f_X7_followOneOnTrial at e
  obtain ⟨r1, -, e⟩ := hb_some e
  split at e
  · obtain ⟨J, hJ, e⟩ := hb_some e
    simp only [Option.some.injEq, Prod.mk.injEq] at e
    rw [← e.2.1]
    unfold f_X3_changeLimit at hJ
    split at hJ
    · obtain rfl := Option.some.inj hJ; exact small
    · split at hJ
      · obtain rfl := Option.some.inj hJ; exact small
      · obtain ⟨-, hJ⟩ := hg_some hJ
        simp only [hlet_e] at hJ
        obtain rfl := Option.some.inj hJ
        exact small.cg (fun g _ => gup_n (by omega)) (fun b hb g hg => gup_n (by unfold cB; omega))
  split at e
  · cases r1 with
    | none => rw [hopt_e1] at e; simp only [Option.some.injEq, Prod.mk.injEq] at e; rw [← e.2.1]; exact small
    | some m =>
      rw [hopt_e2] at e
      obtain ⟨hk, e⟩ := hk_some e
      split at e
      · simp only [Option.some.injEq, Prod.mk.injEq] at e; rw [← e.2.1]; exact small
      · split at e
        · simp only [hlet_e, Option.some.injEq, Prod.mk.injEq] at e; rw [← e.2.1]; exact bird _ _ _ hk (Or.inr rfl)
        · simp only [hlet_e, Option.some.injEq, Prod.mk.injEq] at e; rw [← e.2.1]; exact bird _ _ _ hk (Or.inr rfl)
  next h110 =>
  split at e
  · cases r1 with
    | none => rw [hopt_e1] at e; simp only [Option.some.injEq, Prod.mk.injEq] at e; rw [← e.2.1]; exact small
    | some m =>
      rw [hopt_e2] at e
      obtain ⟨hk, e⟩ := hk_some e
      simp only [hlet_e, Option.some.injEq, Prod.mk.injEq] at e
      rw [← e.2.1]; exact bird _ _ _ hk (Or.inl rfl)
  split at e
  · simp only [Option.some.injEq, Prod.mk.injEq] at e; rw [← e.2.1]; exact small
  · obtain ⟨⟨J, O2⟩, hJ, e⟩ := hb_some e
    simp only [Option.some.injEq, Prod.mk.injEq] at e
    rw [← e.2.1]
    rcases hv with ⟨e3, h3⟩ | e
    · rw [e3] at hJ
      exact (pass_hc isB13 (show v < 4000 by omega) h hJ (by omega) hc).1.le (by omega)
    · exact absurd e h110
theorem follow_loop_h {c : Nat → Nat} {len n : Nat} : ∀ f i cnt fc fr (I K : Nat → Nat → Int32) (O : Nat → Nat → Option Nat) (k t : Int32), okT c len f i → i ≤ len → TK K c len → TI I c len → K 129 10 = nI i → K 129 11 = 0 → IS I I 0 k t 0 → RR I 13 (K 130) n → len - i < fc → len - i < fr → cnt ≤ i →
    ∃ r I' O' K', f_X7_followOnTrial_L22 fc (nI cnt) (nI i) I O = some (r, I', O') ∧ f_X8_followsAll_L12 fr (nI cnt) K = some (r, K') ∧ (r = -1 ∨ (∃ m, m ≤ 100 ∧ r = nI m ∧ RR I' 13 (K' 130) n)) ∧ RZ I' 13 ∧ (∀ a, a < 13 ∨ (25 ≤ a ∧ a ≠ 128) → I' a = I a) ∧ (∀ a, a ≠ 129 → a ≠ 130 → a ≠ 136 → K' a = K a) ∧ (∀ q, q < 10 ∨ 14 < q → K' 129 q = K 129 q) ∧ FO 13 O O' ∧ (∀ B, B + 2000 * (len - i) + 4000 < 1000000000 → zHC I 13 B → zHC I' 13 (B + 2000 * (len - i))) := by
  intro f
  induction f with
  | zero => intro i cnt fc fr I K O k t h; exact absurd h id
  | succ f ih =>
    intro i cnt fc fr I K O k t hok hil ht hT h10 h11 hI hR hfc hfr hcnt
    obtain ⟨j0, k0, w0, v0, e0, hnext⟩ := hok
    have hl := ht.2.1
    have hK : KS K K i 0 (K 129 12) (K 129 13) (K 129 14) := ⟨fun _ _ => rfl, fun _ _ => rfl, h10, h11, rfl, rfl, rfl⟩
    obtain ⟨K1, p1, I1, j, j1, j2, j3, j4⟩ := part_both ht hil hK hI
    rcases j4 with ⟨q1, _⟩ | ⟨k1, w1, v1, q1, ⟨L1, a1, b1, q2⟩, q3, q4, q5, q6⟩
    · rw [e0] at q1; cases q1
    · rw [e0] at q1
      simp only [Option.some.injEq, Prod.mk.injEq] at q1
      obtain ⟨rfl, rfl, rfl, rfl⟩ := q1
      have hilt : i < len := by omega
      have hfr1 := j3.fr
      have hT1 : TI I1 c len := hT.k hfr1
      generalize hK7 : gup K1 129 10 (nI (j0 + 1)) = K7
      have k7f : ∀ a, a ≠ 129 → K7 a = K a := fun a ha => by rw [← hK7, gup_ne ha]; exact q2.1 a ha
      have k7q : ∀ q, q < 10 ∨ 14 < q → K7 129 q = K 129 q := fun q hq => by rw [← hK7, gup_i (by omega)]; exact q2.2.1 q hq
      have k710 : K7 129 10 = nI (j0 + 1) := by rw [← hK7, gup_at]
      have k711 : K7 129 11 = 0 := by rw [← hK7, gup_i (by omega)]; exact q2.2.2.2.1
      have hp7 : PR I1 K7 k0 w0 v0 := by
        unfold PR at *
        rw [← hK7, gup_i (by omega), gup_i (by omega), gup_i (by omega)]; exact q5
      have hR7 : RR I1 13 (K7 130) n := by
        rw [k7f 130 (by omega)]; exact RR_I (fun a _ h => hfr1 a (by omega)) hR
      obtain ⟨r, I2, O2, o1, o2, o3, o4, o5, o6⟩ := order_both (O := O) hR7 hp7
      have hOC : ∀ B, B + 2000 < 1000000000 → zHC I 13 B → zHC I2 13 (B + 1800) := fun B hB9 hc9 => order_hc hR7 hp7 hB9 (hc9.same (fun a _ h => hfr1 a (by omega))) o1
      obtain ⟨g, rfl⟩ : ∃ g, fc = g + 1 + (j0 - i) := ⟨fc - 1 - (j0 - i), by omega⟩
      obtain ⟨g2, rfl⟩ : ∃ g2, fr = g2 + 1 := ⟨fr - 1, by omega⟩
      have hcl : f_X7_followOnTrial_L22 (g + 1 + (j0 - i)) (nI cnt) (nI i) I O = f_X7_followOnTrial_L22 (g + 1) (nI cnt) (nI j0) I1 O := by
        rw [l22_run (c := c) (len := len) (j0 - i) i (g + 1) (nI cnt) I I1 O hT j3 (by omega), show i + (j0 - i) = j0 by omega]
      have hIfar : ∀ a, a < 13 ∨ (25 ≤ a ∧ a ≠ 128) → I2 a = I a := fun a ha => (o4 a (by omega)).trans (hfr1 a (by omega))
      have href : f_X8_followsAll_L12 (g2 + 1) (nI cnt) K = (if r = 0 then some ((-1 : Int32), K7) else (did K7).bind fun y => f_X8_followsAll_L12 g2 (nI (cnt + 1)) y.2) := by
        rw [f_X8_followsAll_L12, h10, ht.1, if_neg (by rw [pi_le (by omega) (by omega)]; omega), p1]
        simp only [Option.bind_some, hlet_e]
        rw [q2.2.2.1, show nI j0 + (1 : Int32) = nI (j0 + 1) from pi_add j0 1, hK7, o2]
        simp only [Option.bind_some]
        rw [show nI cnt + (1 : Int32) = nI (cnt + 1) from pi_add cnt 1]
        rfl
      rw [hcl, href]
      rcases o3 with o3 | ⟨o3, y, K8, u1, u2, u3⟩
      · -- one that can't be
        rw [if_pos o3]
        refine ⟨-1, I2, O2, K7, ?_, rfl, Or.inl rfl, o5, hIfar, fun a z1 z2 z3 => k7f a z1, k7q, o6, fun B hB9 hc9 => (hOC B (by omega) hc9).le (by omega)⟩
        rw [f_X7_followOnTrial_L22, hT1.1]
        rcases hnext with hj | ⟨hj, h59, _⟩
        · rw [if_pos (by rw [pi_le (by omega) (by omega)]; omega), o1]
          simp only [Option.bind_some]
          rw [if_pos o3]
        · rw [if_neg (by rw [pi_le (by omega) (by omega)]; omega), x2_at hT1 hj]
          simp only [Option.bind_some, hlet_e]
          rw [h59, if_pos (show nI 59 = (59 : Int32) from rfl), o1]
          simp only [Option.bind_some]
          rw [if_pos o3]
      · have hr0 : ¬ (r = 0) := by rw [o3]; decide
        rw [if_neg hr0, u1]
        simp only [Option.bind_some]
        have k8f : ∀ a, a ≠ 129 → a ≠ 130 → a ≠ 136 → K8 a = K a := fun a z1 z2 z3 => (u3 a z2 z3).trans (k7f a z1)
        have k8q : ∀ q, K8 129 q = K7 129 q := fun q => by rw [u3 129 (by omega) (by omega)]
        rcases hnext with hj | ⟨hj, h59, hok2⟩
        · subst hj
          refine ⟨nI (cnt + 1), I2, O2, K8, ?_, ?_, Or.inr ⟨cnt + 1, by omega, rfl, u2⟩, o5, hIfar, k8f, fun q hq => (k8q q).trans (k7q q hq), o6, fun B hB9 hc9 => (hOC B (by omega) hc9).le (by omega)⟩
          · rw [f_X7_followOnTrial_L22, hT1.1, if_pos (by rw [pi_le (by omega) (by omega)]; omega), o1]
            simp only [Option.bind_some]
            rw [if_neg hr0, show nI cnt + (1 : Int32) = nI (cnt + 1) from pi_add cnt 1]
          · obtain ⟨g3, rfl⟩ : ∃ g3, g2 = g3 + 1 := ⟨g2 - 1, by omega⟩
            rw [f_X8_followsAll_L12, k8q 7, k8q 10, k710, k7q 7 (by omega), ht.1, if_pos (by rw [pi_le (by omega) (by omega)]; omega)]
        · skip
          have hw2 : f_X1_isWhole I2 = some 1 := by rw [wh_c (o4 128 (by omega))]; exact q4
          obtain ⟨X, x1, x2⟩ := is_start (I0 := I2) (I := I2) (fun _ _ => rfl)
          have hRX : RR X 13 (K8 130) n := RR_I (fun a _ h => x2.1 a (by omega)) u2
          have hTX : TI X c len := ⟨by rw [x2.1 126 (by omega), o4 126 (by omega)]; exact hT1.1, hl, fun q hq => by rw [x2.1 127 (by omega), o4 127 (by omega)]; exact hT1.2.2 q hq⟩
          have htK8 : TK K8 c len := ⟨by rw [k8q 7, k7q 7 (by omega)]; exact ht.1, hl, fun q hq => by rw [k8f 135 (by omega) (by omega) (by omega)]; exact ht.2.2 q hq⟩
          obtain ⟨r', I', O', K', m1, m2, m3, m4, m5, m6, m7, m8, m9⟩ := ih (j0 + 1) (cnt + 1) g g2 X K8 O2 32 (-1) hok2 (by omega) htK8 hTX (by rw [k8q 10]; exact k710) (by rw [k8q 11]; exact k711) ⟨fun _ _ => rfl, x2.2⟩ hRX (by omega) (by omega) (by omega)
          refine ⟨r', I', O', K', ?_, m2, m3, m4, fun a ha => (m5 a ha).trans ((x2.1 a (by omega)).trans (hIfar a ha)), fun a z1 z2 z3 => (m6 a z1 z2 z3).trans (k8f a z1 z2 z3), fun q hq => (m7 q hq).trans ((k8q q).trans (k7q q hq)), o6.tr m8, fun B hB9 hc9 => (m9 (B + 1800) (by omega) ((hOC B (by omega) hc9).same (fun a _ h => x2.1 a (by omega)))).le (by omega)⟩
          rw [f_X7_followOnTrial_L22, hT1.1, if_neg (by rw [pi_le (by omega) (by omega)]; omega), x2_at hT1 hj]
          simp only [Option.bind_some, hlet_e]
          rw [h59, if_pos (show nI 59 = (59 : Int32) from rfl), o1]
          simp only [Option.bind_some]
          rw [if_neg hr0, semi_ok hw2, x1]
          simp only [Option.bind_some]
          rw [show nI j0 + (1 : Int32) = nI (j0 + 1) from pi_add j0 1, show nI cnt + (1 : Int32) = nI (cnt + 1) from pi_add cnt 1]
          exact m1

theorem a_follow {I I9 K : Nat → Nat → Int32} {O O9 : Nat → Nat → Option Nat} {B9 : Nat} {r9 : Sum Nat Int32} (h : Inv2 I K O) (hc9 : zHA I B9) (hB9 : B9 + 200000 < 1000000000) (e9 : f_X7_follow I O = some (r9, I9, O9)) : zHA I9 (B9 + 130000) := by
  have hh := h
  obtain ⟨n, p, len, h1, h2, h3, h4, hx⟩ := hh
  obtain ⟨hT, ht⟩ := tx_c hx
  obtain ⟨K', I1, j, r1, r2, r3, w, r4, r5⟩ := read_both ht hT
  have hl := ht.2.1
  have i126 : I1 126 1 = nI len := by rw [r3 126 (by omega)]; exact hT.1
  generalize hc : (fun i => tn (K 135 i)) = c at *
  rcases r5 with ⟨rfl, u1, u2, ⟨L, a, b, u3⟩, u4⟩ | ⟨rfl, ⟨L, a, b, u1⟩, u2⟩
  · -- orders
    subst u1
    have hok := u2 (j + 1) (by omega)
    generalize hK5 : gup K' 129 8 0 = K5
    have k5f : ∀ q, q ≠ 129 → K5 q = K q := fun q hq => by rw [← hK5, gup_ne hq]; exact u3.1 q hq
    have k5q : ∀ f, (f < 10 ∨ 14 < f) → f ≠ 8 → K5 129 f = K 129 f := fun f hf h8 => by rw [← hK5, gup_i h8]; exact u3.2.1 f hf
    obtain ⟨X, x1, x2, x3, x4, x5, x6⟩ := x3_take (I := I1) isB13 isB1 (by omega) (RZ_I (fun q _ h => r3 q (by omega)) h1.2.1) (by rw [r3 1 (by omega)]; exact h1.gz5)
    have h1' : RR I1 1 (K 130) n := RR_I (fun q _ h => r3 q (by omega)) h1
    have hZ13 : RZ I1 13 := RZ_I (fun q _ h => r3 q (by omega)) (ZZ13 h)
    have hRX := take_RR hZ13 h1' x3 x4 x5 x6
    obtain ⟨X2, y1, y2⟩ := is_start (I0 := X) (I := X) (fun _ _ => rfl)
    have hRX2 : RR X2 13 (K 130) n := RR_I (fun q _ h => y2.1 q (by omega)) hRX
    have hTX : TI X2 c j := ⟨by rw [y2.1 126 (by omega), x2 126 (by omega)]; exact i126, hl, fun q hq => by rw [y2.1 127 (by omega), x2 127 (by omega), r3 127 (by omega)]; exact hT.2.2 q hq⟩
    have hIX2 : IS X2 X2 0 32 (-1) 0 := ⟨fun _ _ => rfl, y2.2⟩
    obtain ⟨A, p1, p2, p3⟩ := x8_putAside (K := K5)
    generalize hA2 : gup (gup A 129 10 0) 129 11 0 = A2
    have a2f : ∀ q, q ≠ 129 → q ≠ 131 → A2 q = K q := fun q z1 z2 => by rw [← hA2, gup_ne z1, gup_ne z1, p2 q z2]; exact k5f q z1
    have a2q : ∀ f, f < 10 ∨ 14 < f → f ≠ 8 → A2 129 f = K 129 f := fun f hf h8 => by rw [← hA2, gup_i (by omega), gup_i (by omega), p2 129 (by omega)]; exact k5q f hf h8
    have htA : TK A2 c j := ⟨by rw [a2q 7 (by omega) (by omega)]; exact ht.1, hl, fun q hq => by rw [a2f 135 (by omega) (by omega)]; exact ht.2.2 q hq⟩
    obtain ⟨r, I6, O6, B, m1, m2, m3, m4, m5, m6, m7, m8, m9⟩ := follow_loop_h (n := n) (j + 1) 0 0 FU FU X2 A2 O 32 (-1) hok (by omega) htA hTX (by rw [← hA2, gup_i (by omega), gup_at]; rfl) (by rw [← hA2, gup_at]) hIX2 (by rw [a2f 130 (by omega) (by omega)]; exact hRX2) (by unfold FU; omega) (by unfold FU; omega) (by omega)
    have b131 : ∀ k, k < 151 → B 131 k = K 130 k := fun k hk => by rw [m6 131 (by omega) (by omega) (by omega), ← hA2, gup_ne (by omega), gup_ne (by omega), p3 k hk, k5f 130 (by omega)]
    obtain ⟨C, s1, s2, s3⟩ := x8_putBack (K := B)
    have c130 : ∀ k, k < 151 → C 130 k = K 130 k := fun k hk => (s3 k hk).trans (b131 k hk)
    have i6f : ∀ q, q < 13 ∨ (25 ≤ q ∧ q ≠ 128) → I6 q = I q := fun q hq => (m5 q hq).trans ((y2.1 q (by omega)).trans ((x2 q (by omega)).trans (r3 q (by omega))))
    have cf : ∀ q, q ≠ 129 → q ≠ 130 → q ≠ 131 → q ≠ 136 → C q = K q := fun q z1 z2 z3 z4 => (s2 q z2).trans ((m6 q z1 z2 z4).trans (a2f q z1 z3))
    have cq : ∀ f, f < 10 ∨ 14 < f → f ≠ 8 → C 129 f = K 129 f := fun f hf h8 => by rw [s2 129 (by omega), m7 f hf]; exact a2q f hf h8
    have hfoll : f_X8_followsAll A = some (r, B) := by
      unfold f_X8_followsAll
      simp only [hlet_e]
      rw [hA2]; exact m2
    have hcls : f_X7_followOnTrial I1 O = some (r, I6, O6) := by
      unfold f_X7_followOnTrial
      rw [x1]
      simp only [Option.bind_some]
      rw [y1]
      simp only [Option.bind_some]
      exact m1
    have hInvC : Inv2 I6 C O6 := Inv2_nowJ (n := n) h (fun q z1 z2 => i6f q (by omega)) m4 (RR_s (s := K 130) c130 (RR_I (fun q _ h => i6f q (by omega)) h1)) (fun q z1 z2 => cf q (by omega) (by omega) (by omega) z2) (cq 3 (by omega) (by omega)) (cq 7 (by omega) (by omega)) (m8 26 (by omega))
    have hcX : zHC X2 13 B9 := by
      have c1 : zHA I1 B9 := hc9.far (fun a ha => r3 a (by unfold inR at ha; omega))
      have c2 : zHC X 13 B9 := (c1 1 isB1 (by omega)).cg (fun f hf => x6 f (by omega) (by omega)) (fun b hb f hf => x3 b hb f (by omega) (by omega))
      exact c2.same (fun a _ h => y2.1 a (by omega))
    have hc13 : zHC I6 13 (B9 + 130000) := (m9 B9 (by omega) hcX).le (by omega)
    have hc6 : zHA I6 (B9 + 130000) := zHA.upd isB13 (hc9.le (by omega)) (fun a ha hr => i6f a (by unfold inR at ha; omega)) hc13
    unfold f_X7_follow at e9
    rw [r1] at e9
    simp only [Option.bind_some] at e9
    rw [i126, if_neg (by rw [pi_lt (by omega) (by omega)]; omega), u4] at e9
    simp only [Option.bind_some] at e9
    rw [if_neg (show ¬ ((1 : Int32) = 0) by decide), hcls] at e9
    simp only [Option.bind_some] at e9
    split at e9
    · simp only [Option.some.injEq, Prod.mk.injEq] at e9; rw [← e9.2.1]; exact hc6
    · next hr1 =>
      obtain ⟨⟨I8, O8⟩, h8, e9⟩ := hb_some e9
      obtain ⟨Y, hY, e9⟩ := hb_some e9
      simp only [hlet_e, Option.some.injEq, Prod.mk.injEq] at e9
      rw [← e9.2.1]
      rcases m3 with rfl | ⟨m, hm, rfl, hRB⟩
      · exact absurd rfl hr1
      have c8 := save_ha hInvC h8 hc6
      have f8 := (save_far hInvC h8).1
      have hRI8 : RR I8 13 (B 130) n := RR_I (fun q z1 z2 => f8 q (by omega) (by omega)) hRB
      exact ((take_ha isB1 isB13 (by omega) hRI8 hY c8 (hc13.same (fun q z1 z2 => f8 q (by omega) (by omega)))).1).set (fun z => absurd z (by decide)) (fun z => absurd z (by decide))
  · -- no orders
    have hc1 : zHA I1 (B9 + 130000) := (hc9.far (fun a ha => r3 a (by unfold inR at ha; omega))).le (by omega)
    unfold f_X7_follow at e9
    rw [r1] at e9
    simp only [Option.bind_some] at e9
    rw [i126] at e9
    by_cases z : j < len
    · rw [if_pos (by rw [pi_lt (by omega) (by omega)]; exact z)] at e9
      simp only [Option.some.injEq, Prod.mk.injEq] at e9; rw [← e9.2.1]; exact hc1
    · rw [if_neg (by rw [pi_lt (by omega) (by omega)]; exact z), u2 (by omega)] at e9
      simp only [Option.bind_some, if_true, Option.some.injEq, Prod.mk.injEq] at e9
      rw [← e9.2.1]; exact hc1
