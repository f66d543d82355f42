/-! Eight orders on the one game, and their text on the other. -/
section L8
variable {SL : Nat} {sx : Nat → Int32} {n B0 : Nat} {s0 : Nat → Int32} {O2 : Nat → Nat → Option Nat} {Ib : Nat → Nat → Int32}
/-- where the loop stands after m orders -/
def LI (n B0 : Nat) (s0 : Nat → Int32) (O2 : Nat → Nat → Option Nat) (Ib : Nat → Nat → Int32) (m : Nat) (len : Nat) (I1 : Nat → Nat → Int32) (O1 : Nat → Nat → Option Nat) (I2 : Nat → Nat → Int32) : Prop :=
  ∃ K1 K2 c os s, Inv2 I1 K1 O1 ∧ zHA I1 (B0 + 1800 * m) ∧ RR I1 1 s n ∧ GQ n m s ∧ Inv2 I2 K2 O2 ∧ TI I2 c len ∧ TSt m c len os ∧ OSs n os s0 s ∧ ∀ a, a < 126 → I2 a = Ib a
theorem l8_go (hn0 : 0 < n) (hn8 : n ≤ 8) (hB : B0 + 30000 < 1000000000) : ∀ d m fuel (p35 : Int32) (len : Nat) (I1 : Nat → Nat → Int32) (O1 : Nat → Nat → Option Nat) (I2 : Nat → Nat → Int32), m + d = 8 → d < fuel → (m = 0 ∨ p35 = nI len) → LI n B0 s0 O2 Ib m len I1 O1 I2 →
    ∃ len' I1' O1' I2', f_L_law_L249 SL sx (nI n) fuel 1 p35 (nI m) (nI m) I1 O1 I2 = some (1, nI len', nI 8, I1', O1', I2') ∧ LI n B0 s0 O2 Ib 8 len' I1' O1' I2' := by
  intro d
  induction d with
  | zero =>
    intro m fuel p35 len I1 O1 I2 hm hf hp h
    obtain ⟨f, rfl⟩ : ∃ f, fuel = f + 1 := ⟨fuel - 1, by omega⟩
    obtain rfl : m = 8 := by omega
    obtain rfl : p35 = nI len := hp.resolve_left (by omega)
    refine ⟨len, I1, O1, I2, ?_, h⟩
    rw [f_L_law_L249]
    exact ifp (by decide) rfl
  | succ d ih =>
    intro m fuel p35 len I1 O1 I2 hm hf hp h
    obtain ⟨f, rfl⟩ : ∃ f, fuel = f + 1 := ⟨fuel - 1, by omega⟩
    obtain ⟨K1, K2, c, os, s, h1, h2, h3, h4, h5, h6, h7, h8, h9⟩ := h
    obtain ⟨x, x1, x2⟩ := cell_v (SL := SL) (sx := sx) (j := 56 + m) (by omega)
    have hq : nI x / ((1 : Int32) + nI m) = nI (x / (1 + m)) := by rw [show (1 : Int32) + nI m = nI (1 + m) from pi_add 1 m, pi_div (by omega) (by omega)]
    have hqb : x / (1 + m) < 2147483648 := Nat.lt_of_le_of_lt (Nat.div_le_self _ _) x1
    obtain ⟨q, eqq⟩ : ∃ q, q = x / (1 + m) := ⟨_, rfl⟩
    rw [← eqq] at hq hqb
    have hd3 : nI q / (3 : Int32) = nI (q / 3) := pi_div (b := 3) hqb (by omega)
    have hm3 : nI q - nI (q / 3) * (3 : Int32) = nI (q % 3) := by rw [← hd3]; exact mod_e (m := 3) hqb (by omega)
    have hdn : nI (q / 3) - nI (q / 3) / nI n * nI n = nI (q / 3 % n) := mod_e (by omega) (by omega)
    have hd64 : nI q / (64 : Int32) = nI (q / 64) := pi_div (b := 64) hqb (by omega)
    have hpc : (10 : Int32) + (nI (q / 64) - nI (q / 64) / (31 : Int32) * (31 : Int32)) = nI (10 + q / 64 % 31) := by rw [show nI (q / 64) - nI (q / 64) / (31 : Int32) * (31 : Int32) = nI (q / 64 % 31) from mod_e (m := 31) (by omega) (by omega)]; exact pi_add 10 _
    have hdd : q / 3 % n < n := Nat.mod_lt _ hn0
    have hp31 : q / 64 % 31 < 31 := Nat.mod_lt _ (by omega)
    obtain ⟨dd, hdd'⟩ : ∃ dd, dd = q / 3 % n := ⟨_, rfl⟩
    obtain ⟨pc, hpc'⟩ : ∃ pc, pc = 10 + q / 64 % 31 := ⟨_, rfl⟩
    rw [← hdd'] at hdn hdd
    rw [← hpc'] at hpc
    have pc1 : 10 ≤ pc := by omega
    have pc2 : pc ≤ 40 := by omega
    obtain ⟨r0, J0, L0, c0, l0, s1, s2, s3, s4, s5, s6⟩ := sep_v h5 h6 h7 (by omega)
    have nn : ¬ (nI n = 0) := by rw [show (0 : Int32) = nI 0 from rfl, pi_eq (by omega) (by omega)]; omega
    -- the end of a turn, the same for all three kinds
    have fin : ∀ (o : Nat × Nat × Nat) (r : Int32) (A : Nat → Nat → Int32) (P : Nat → Nat → Option Nat) (KA : Nat → Nat → Int32) (sA : Nat → Int32) (C : Nat → Nat → Int32) (KC : Nat → Nat → Int32) (c2 : Nat → Nat) (l2 : Nat), ¬ (r < 0) → Inv2 A KA P → zHA A (B0 + 1800 * m + 1800) → RR A 1 sA n → OS n o s sA → GQ n (m + 1) sA → Inv2 C KC O2 → TI C c2 l2 → (∀ i, i < l0 → c2 i = c0 i) → Shp c2 l0 l2 o → (∀ a, a < 126 → C a = J0 a) →
        ∃ len' I1' O1' I2', (hlet (nI m + (1 : Int32)) fun x142 => ((if r < 0 then some (0 : Int32) else if nI l2 ≤ 0 then some (0 : Int32) else some (1 : Int32)).bind fun p143 => hlet (nI m + (1 : Int32)) fun x144 => f_L_law_L249 SL sx (nI n) f p143 (nI l2) x142 x144 A P C)) = some (1, nI len', nI 8, I1', O1', I2') ∧ LI n B0 s0 O2 Ib 8 len' I1' O1' I2' := by
      intro o r A P KA sA C KC c2 l2 hr a1 a2 a3 a4 a5 b1 b2 b3 b4 b5
      have hl2 := b4.lt
      have ht2 := b2.2.1
      obtain ⟨len', I1', O1', I2', e1, e2⟩ := ih (m + 1) f (nI l2) l2 A P C (by omega) (by omega) (Or.inr rfl) ⟨KA, KC, c2, os ++ [o], sA, a1, by rw [show B0 + 1800 * (m + 1) = B0 + 1800 * m + 1800 by omega]; exact a2, a3, a5, b1, b2, s6 c2 l2 o b3 b4, OSs.snoc a4 os s0 h8, fun a ha => (b5 a ha).trans ((s5 a ha).trans (h9 a ha))⟩
      refine ⟨len', I1', O1', I2', ?_, e2⟩
      refine hl1 ?_
      refine sq1 (a := (1 : Int32)) (ifn hr (ifn (by rw [show (0 : Int32) = nI 0 from rfl, pi_le (by omega) (by omega)]; omega) rfl)) ?_
      refine hl1 ?_
      rw [show nI m + (1 : Int32) = nI (m + 1) from pi_add m 1]
      exact e1
    by_cases c3 : q % 3 = 0
    · by_cases c7 : 7 ≤ m
      · obtain ⟨r, A, P, KA, sA, g1, g2, g3, g4, g5, g6, g7⟩ := g_call (d := dd) h1 h2 (by omega) h3 hdd h4
        obtain ⟨C1, N1, c1, u1, u2, u3, u4, u5, u6⟩ := app1 (x := 110) s2 s3 (by omega) (by omega) (by omega)
        obtain ⟨C2, N2, c2, v1, v2, v3, v4, v5, v6⟩ := num1 (v := dd) u2 u3 (by omega) (by omega)
        obtain ⟨len', I1', O1', I2', e1, e2⟩ := fin (110, dd, 0) r A P KA sA C2 N2 c2 (l0 + 1 + 1) g2 g3 g4 g5 g6 g7 v2 v3 (fun i hi => (v4 i (by omega)).trans (u4 i hi)) (Or.inr (Or.inl ⟨dd, by omega, rfl, (v4 l0 (by omega)).trans u5, v5, rfl⟩)) (fun a ha => (v6 a ha).trans (u6 a ha))
        refine ⟨len', I1', O1', I2', ?_, e2⟩
        rw [f_L_law_L249]
        refine ifn (by rw [show (8 : Int32) = nI 8 from rfl, pi_le (by omega) (by omega)]; omega) (ifn (by decide) (ifn (by rw [show (0 : Int32) = nI 0 from rfl, pi_le (by omega) (by omega)]; omega) ?_))
        refine sq1 (a := nI x) (by rw [show nI m - nI m / (8 : Int32) * (8 : Int32) = nI (m % 8) from mod_e (m := 8) (by omega) (by omega), show (56 : Int32) + nI (m % 8) = nI (56 + m % 8) from pi_add 56 _, Nat.mod_eq_of_lt (show m < 8 by omega)]; exact x2) ?_
        rw [show gne ((1 : Int32) + nI m) = true from gne_t (by rw [show (1 : Int32) + nI m = nI (1 + m) from pi_add 1 m, show (0 : Int32) = nI 0 from rfl, pi_eq (by omega) (by omega)]; omega), hg_t]
        simp only [gne_t nn, hg_t, hq, hd3, hm3, hd64, hdn, hpc]
        refine sq1 (a := (0 : Int32)) (ifp (by rw [show (0 : Int32) = nI 0 from rfl, pi_le (by omega) (by omega)]; omega) rfl) ?_
        refine sq1 (a := (r, A, P)) (ifp rfl (ifp (by rw [show (7 : Int32) = nI 7 from rfl, pi_le (by omega) (by omega)]; omega) (sq1 g1 rfl))) ?_
        refine sq1 s1 ?_
        refine sq1 (a := (110 : Int32)) (ifp rfl (ifp (by rw [show (7 : Int32) = nI 7 from rfl, pi_le (by omega) (by omega)]; omega) rfl)) ?_
        refine sq1 u1 ?_
        refine sq1 (a := nI dd) (ifp rfl (ifp (by rw [show (7 : Int32) = nI 7 from rfl, pi_eq (by omega) (by omega)]; omega) rfl)) ?_
        refine sq1 v1 ?_
        refine sq1 (a := (nI (l0 + 1 + 1), C2)) (ifp rfl rfl) ?_
        refine sq1 (a := (nI (l0 + 1 + 1), C2)) (ifp rfl rfl) ?_
        exact e1
      · obtain ⟨r, A, P, KA, sA, g1, g2, g3, g4, g5, g6, g7⟩ := g_pass h1 h2 (by omega) h3 hn0 h4 (by omega)
        obtain ⟨C1, N1, c1, u1, u2, u3, u4, u5, u6⟩ := app1 (x := 116) s2 s3 (by omega) (by omega) (by omega)
        obtain ⟨C2, N2, c2, v1, v2, v3, v4, v5, v6⟩ := num1 (v := 1) u2 u3 (by omega) (by omega)
        obtain ⟨len', I1', O1', I2', e1, e2⟩ := fin (116, 0, 1) r A P KA sA C2 N2 c2 (l0 + 1 + 1) g2 g3 g4 g5 g6 g7 v2 v3 (fun i hi => (v4 i (by omega)).trans (u4 i hi)) (Or.inl ⟨rfl, (v4 l0 (by omega)).trans u5, v5, rfl⟩) (fun a ha => (v6 a ha).trans (u6 a ha))
        refine ⟨len', I1', O1', I2', ?_, e2⟩
        rw [f_L_law_L249]
        refine ifn (by rw [show (8 : Int32) = nI 8 from rfl, pi_le (by omega) (by omega)]; omega) (ifn (by decide) (ifn (by rw [show (0 : Int32) = nI 0 from rfl, pi_le (by omega) (by omega)]; omega) ?_))
        refine sq1 (a := nI x) (by rw [show nI m - nI m / (8 : Int32) * (8 : Int32) = nI (m % 8) from mod_e (m := 8) (by omega) (by omega), show (56 : Int32) + nI (m % 8) = nI (56 + m % 8) from pi_add 56 _, Nat.mod_eq_of_lt (show m < 8 by omega)]; exact x2) ?_
        rw [show gne ((1 : Int32) + nI m) = true from gne_t (by rw [show (1 : Int32) + nI m = nI (1 + m) from pi_add 1 m, show (0 : Int32) = nI 0 from rfl, pi_eq (by omega) (by omega)]; omega), hg_t]
        simp only [gne_t nn, hg_t, hq, hd3, hm3, hd64, hdn, hpc]
        refine sq1 (a := (0 : Int32)) (ifp (by rw [show (0 : Int32) = nI 0 from rfl, pi_le (by omega) (by omega)]; omega) rfl) ?_
        refine sq1 (a := (r, A, P)) (ifp rfl (ifn (by rw [show (7 : Int32) = nI 7 from rfl, pi_le (by omega) (by omega)]; omega) (sq1 g1 rfl))) ?_
        refine sq1 s1 ?_
        refine sq1 (a := (116 : Int32)) (ifp rfl (ifn (by rw [show (7 : Int32) = nI 7 from rfl, pi_le (by omega) (by omega)]; omega) rfl)) ?_
        refine sq1 u1 ?_
        refine sq1 (a := (1 : Int32)) (ifp rfl (ifn (by rw [show (7 : Int32) = nI 7 from rfl, pi_eq (by omega) (by omega)]; omega) rfl)) ?_
        refine sq1 v1 ?_
        refine sq1 (a := (nI (l0 + 1 + 1), C2)) (ifp rfl rfl) ?_
        refine sq1 (a := (nI (l0 + 1 + 1), C2)) (ifp rfl rfl) ?_
        exact e1
    · obtain ⟨r, A, P, KA, sA, g1, g2, g3, g4, g5, g6, g7⟩ := g_pace (d := dd) (p := pc) h1 h2 (by omega) h3 hdd pc1 pc2 h4
      obtain ⟨C1, N1, c1, u1, u2, u3, u4, u5, u6⟩ := app1 (x := 112) s2 s3 (by omega) (by omega) (by omega)
      obtain ⟨C2, N2, c2, v1, v2, v3, v4, v5, v6⟩ := num1 (v := dd) u2 u3 (by omega) (by omega)
      obtain ⟨C3, N3, c3, w1, w2, w3, w4, w5, w6⟩ := app1 (x := 61) v2 v3 (by omega) (by omega) (by omega)
      obtain ⟨C4, N4, c4, y1, y2, y3, y4, y5, y6, y7⟩ := num2 (v := pc) w2 w3 (by omega) pc1 pc2
      obtain ⟨len', I1', O1', I2', e1, e2⟩ := fin (112, dd, pc) r A P KA sA C4 N4 c4 (l0 + 1 + 1 + 1 + 2) g2 g3 g4 g5 g6 g7 y2 y3 (fun i hi => (y4 i (by omega)).trans ((w4 i (by omega)).trans ((v4 i (by omega)).trans (u4 i hi)))) (Or.inr (Or.inr ⟨dd, pc, by omega, pc1, pc2, rfl, (y4 l0 (by omega)).trans ((w4 l0 (by omega)).trans ((v4 l0 (by omega)).trans u5)), (y4 (l0 + 1) (by omega)).trans ((w4 (l0 + 1) (by omega)).trans v5), (y4 (l0 + 2) (by omega)).trans w5, y5, y6, rfl⟩)) (fun a ha => (y7 a ha).trans ((w6 a ha).trans ((v6 a ha).trans (u6 a ha))))
      refine ⟨len', I1', O1', I2', ?_, e2⟩
      rw [f_L_law_L249]
      refine ifn (by rw [show (8 : Int32) = nI 8 from rfl, pi_le (by omega) (by omega)]; omega) (ifn (by decide) (ifn (by rw [show (0 : Int32) = nI 0 from rfl, pi_le (by omega) (by omega)]; omega) ?_))
      refine sq1 (a := nI x) (by rw [show nI m - nI m / (8 : Int32) * (8 : Int32) = nI (m % 8) from mod_e (m := 8) (by omega) (by omega), show (56 : Int32) + nI (m % 8) = nI (56 + m % 8) from pi_add 56 _, Nat.mod_eq_of_lt (show m < 8 by omega)]; exact x2) ?_
      rw [show gne ((1 : Int32) + nI m) = true from gne_t (by rw [show (1 : Int32) + nI m = nI (1 + m) from pi_add 1 m, show (0 : Int32) = nI 0 from rfl, pi_eq (by omega) (by omega)]; omega), hg_t]
      simp only [gne_t nn, hg_t, hq, hd3, hm3, hd64, hdn, hpc]
      refine sq1 (a := (1 : Int32)) (ifn (by rw [show (0 : Int32) = nI 0 from rfl, pi_le (by omega) (by omega)]; omega) rfl) ?_
      refine sq1 (a := (r, A, P)) (ifn (by decide) (sq1 g1 rfl)) ?_
      refine sq1 s1 ?_
      refine sq1 (a := (112 : Int32)) (ifn (by decide) rfl) ?_
      refine sq1 u1 ?_
      refine sq1 (a := nI dd) (ifn (by decide) rfl) ?_
      refine sq1 v1 ?_
      refine sq1 (a := (nI (l0 + 1 + 1 + 1), C3)) (ifn (by decide) (sq1 w1 rfl)) ?_
      refine sq1 (a := (nI (l0 + 1 + 1 + 1 + 2), C4)) (ifn (by decide) (sq1 y1 rfl)) ?_
      exact e1
end L8
