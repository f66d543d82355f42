theorem WX_cfg {s : Nat → Int32} {n k : Nat} {v : Int32} (hk : (k = 133 ∧ Bd v 1 9) ∨ (k = 150 ∧ Bd v 0 1) ∨ (129 ≤ k ∧ k < 133 ∧ Bd v 8 40)) (h : WX s n) : WX (wpd s k v) n := by
  have hkk : 129 ≤ k ∧ k ≠ 135 ∧ (k < 136 ∨ 144 ≤ k) := by
    rcases hk with ⟨rfl, _⟩ | ⟨rfl, _⟩ | ⟨h1, h2, _⟩ <;> omega
  obtain ⟨h1, h2, h3, h4, h5, h6, h7, h8, h9⟩ := h
  have hn := h1.2
  have hc : cnt3 (wpd s k v) n = cnt3 s n := cnt3_far (fun b hb => by rw [wpd_ne (by omega)])
  have hcn := cnt3_le s n
  have e : ∀ i, i ≠ k → wpd s k v i = s i := fun i hi => wpd_ne hi
  refine ⟨⟨by rw [e _ (by omega)]; exact h1.1, hn⟩, fun b hb => ?_, fun b hb q hq hqn => ?_, fun c hc => ?_, ⟨?_, ?_⟩, ?_, ?_, ?_, ?_⟩
  · simp only [e (16 * b) (by omega), e (16 * b + 1) (by omega), e (16 * b + 2) (by omega), e (16 * b + 3) (by omega), e (16 * b + 4) (by omega), e (16 * b + 5) (by omega), e (16 * b + 6) (by omega), e (16 * b + 7) (by omega), e (16 * b + 9) (by omega), e (16 * b + 10) (by omega), e (16 * b + 12) (by omega)]
    exact h2 b hb
  · rw [e _ (by omega)] at hq ⊢; exact h3 b hb q hq hqn
  · by_cases ek : 129 + c = k
    · rw [ek, wpd_at]
      rcases hk with ⟨rfl, _⟩ | ⟨rfl, _⟩ | ⟨_, _, hv⟩
      · omega
      · omega
      · exact hv
    · rw [e _ ek]; exact h4 c hc
  · by_cases ek : 133 = k
    · rw [ek, wpd_at]
      rcases hk with ⟨_, hv⟩ | ⟨h, _⟩ | ⟨_, h, _⟩
      · exact hv
      · omega
      · omega
    · rw [e _ ek]; exact h5.1
  · by_cases ek : 150 = k
    · rw [ek, wpd_at]
      rcases hk with ⟨h, _⟩ | ⟨_, hv⟩ | ⟨_, h, _⟩
      · omega
      · exact hv
      · omega
    · rw [e _ ek]; exact h5.2
  · rw [hc, e _ (by omega)]; exact h6
  · rw [hc]; intro q hq
    obtain ⟨b, hb, e1, e2⟩ := h7 q hq
    exact ⟨b, hb, by rw [e _ (by omega)]; exact e1, by rw [e _ (by omega)]; exact e2⟩
  · rw [hc]; intro q j hq hj; rw [e _ (by omega), e _ (by omega)]; exact h8 q j hq hj
  · rw [hc]; intro b hb hq; rw [e _ (by omega)] at hq
    obtain ⟨q, hq1, hq2⟩ := h9 b hb hq
    exact ⟨q, hq1, by rw [e _ (by omega)]; exact hq2⟩
theorem turns_both {K0 : Nat → Nat → Int32} {O7 : Nat → Nat → Option Nat} {β n : Nat} (hB : IsB β) (h0 : K0 130 128 = nI n) :
    ∀ d k fuel (I K : Nat → Nat → Int32) (p4 : Int32), k + d = n → d < fuel → WX (K 130) n → R I β (K 130) n → RZ I β → I β 6 = K 130 134 + 1 → WA (K 130) n →
    (∀ q, q < n → ∃ b, b < n ∧ O7 (β + 2) q = some (cB β b) ∧ K 136 q = nI b) →
    ∃ I' K' v, f_X3_letGoBy_L30 β O7 fuel (nI k) I = some I' ∧ f_X8_second_L37 K0 fuel p4 (nI k) K = some (p4 + nI v, K') ∧
      R I' β (K' 130) n ∧ RZ I' β ∧ WX (K' 130) n ∧ WA (K' 130) n ∧ I' β 6 = K' 130 134 + 1 ∧ K' 130 134 = K 130 134 ∧ K' 130 150 = K 130 150 ∧ cnt3 (K' 130) n = cnt3 (K 130) n + v ∧ FK K K' ∧ FI β I I' := by
  intro d
  induction d with
  | zero =>
    intro k fuel I K p4 hk hf hw hR hZ h6 hA hT
    have hn := hw.1.2
    obtain ⟨f, rfl⟩ : ∃ f, fuel = f + 1 := ⟨fuel - 1, by omega⟩
    have h3 : I β 3 = nI n := hR.1.1.trans hw.1.1
    refine ⟨I, K, 0, ?_, ?_, hR, hZ, hw, hA, h6, rfl, rfl, rfl, FK.rf, FI.rf⟩
    · rw [f_X3_letGoBy_L30, h3, if_pos (by rw [pi_le (by omega) (by omega)]; omega)]
    · rw [f_X8_second_L37, t128, h0, if_pos (by rw [pi_le (by omega) (by omega)]; omega), show nI 0 = (0 : Int32) from rfl, Int32.add_zero]
  | succ d ih =>
    intro k fuel I K p4 hk hf hw hR hZ h6 hA hT
    have hn := hw.1.2
    obtain ⟨f, rfl⟩ : ∃ f, fuel = f + 1 := ⟨fuel - 1, by omega⟩
    have h3 : I β 3 = nI n := hR.1.1.trans hw.1.1
    obtain ⟨b, hb, e1, e2⟩ := hT k (by omega)
    obtain ⟨I1, K1, v1, a1, a2, a3, a4, a5, a6, a7, a8, a9, a10, a11, a12, a13, a14⟩ := turn_both (p4 := p4) hB hw hb hR hZ h6 hA
    obtain ⟨I', K', v, b1, b2, b3, b4, b5, b6, b7, b8, b9, b10, b11, b12⟩ := ih (k + 1) f I1 K1 (p4 + v1) (by omega) (by omega) a6 a4 a5 a8 a7 (fun q hq => by
      obtain ⟨c, hc, e3, e4⟩ := hT q hq
      exact ⟨c, hc, e3, by rw [a12 136 (by omega)]; exact e4⟩)
    have hv1 : v1 = nI (tn v1) := by rcases a3 with rfl | rfl <;> rfl
    refine ⟨I', K', tn v1 + v, ?_, ?_, b3, b4, b5, b6, b7, b8.trans a9, b9.trans a10, by rw [b10, a11]; omega, a12.tr b11, a13.tr b12⟩
    · rw [f_X3_letGoBy_L30, h3, if_neg (by rw [pi_le (by omega) (by omega)]; omega), x3_inOrder hB h3 hn (by omega) hb e1]
      simp only [Option.bind_some]
      refine (congrArg (fun z => Option.bind z _) a1).trans ?_
      simp only [Option.bind_some, hlet_e]
      rw [show nI k + (1 : Int32) = nI (k + 1) from pi_add k 1]; exact b1
    · rw [f_X8_second_L37, t128, h0, if_neg (by rw [pi_le (by omega) (by omega)]; omega), pi_gin (by omega), decide_eq_true (show k < 8 by omega), hg_t]
      rw [pi_tn (show k < 2147483648 by omega), e2, show gin ((16 : Int32) * nI b + (8 : Int32)) 151 = true from ixg (g := 8) (by omega) (by omega), hg_t]
      rw [← pi_add, ← hv1, ← Int32.add_assoc, ← b2]
      have key : ∀ {α β γ : Type} (x : Option α) (g : α → Option β) (h : β → Option γ), (x.bind g).bind h = x.bind fun y => (g y).bind h := fun x g h => Option.bind_assoc x g h
      have a2' := congrArg (fun z => Option.bind z (fun (p : Int32 × (Nat → Nat → Int32)) => hlet (nI k + 1) fun x20 => f_X8_second_L37 K0 f p.1 x20 p.2)) a2
      simp only [Option.bind_some, hlet_e] at a2'
      rw [show nI k + (1 : Int32) = nI (k + 1) from pi_add k 1] at a2'
      refine Eq.trans ?_ a2'
      simp only [hlet_e, Option.bind_assoc]
      rw [show nI k + (1 : Int32) = nI (k + 1) from pi_add k 1]
def FK2 (K K' : Nat → Nat → Int32) : Prop := ∀ a, a ≠ 130 → a ≠ 136 → K' a = K a
theorem FK2.tr {K K' K'' : Nat → Nat → Int32} (h : FK2 K K') (h2 : FK2 K' K'') : FK2 K K'' := fun a ha hb => (h2 a ha hb).trans (h a ha hb)
theorem second_both {I K : Nat → Nat → Int32} {O : Nat → Nat → Option Nat} {β n : Nat} (hB : IsB β) (hw : WX (K 130) n) (hR : R I β (K 130) n) (hZ : RZ I β) (h6 : I β 6 = K 130 134) (hA : WA (K 130) n) :
    ∃ O7 I11 p12 K' v, f_X3_putInOrder β (gup I β 6 (I β 6 + 1)) O = some O7 ∧ f_X3_letGoBy_L30 β O7 FU (0 : Int32) (gup I β 6 (I β 6 + 1)) = some I11 ∧
      (if (I11 β 3) ≤ (I11 β 7) then some (0 : Int32) else some (1 : Int32)) = some p12 ∧ gz p12 = true ∧ f_X8_second K = some (nI v, K') ∧
      R (gup I11 β 5 p12) β (K' 130) n ∧ RZ (gup I11 β 5 p12) β ∧ WX (K' 130) n ∧ WA (K' 130) n ∧ gup I11 β 5 p12 β 6 = K' 130 134 ∧ cnt3 (K' 130) n = cnt3 (K 130) n + v ∧
      ((K' 130 150 = 1 ∧ cnt3 (K' 130) n < n) ∨ (K' 130 150 = 0 ∧ cnt3 (K' 130) n = n)) ∧ FK2 K K' ∧ FI β I (gup I11 β 5 p12) ∧ FO β O O7 := by
  have hn := hw.1.2
  have hR6 : R (gup I β 6 (I β 6 + 1)) β (K 130) n := by
    obtain ⟨h1, h2, h3, h4⟩ := hR
    have z : ∀ f, f ≠ 6 → gup I β 6 (I β 6 + 1) β f = I β f := fun f hf => gup_i hf
    refine ⟨?_, fun k hk => by rw [gup_n (by omega)]; exact h2 k hk, fun b hb => RB_cell (gup_ne cB_ne) (h3 b hb), fun b k hb hk e => by rw [gup_n cB_ne]; exact h4 b k hb hk e⟩
    rw [z 3 (by omega), z 4 (by omega), z 5 (by omega), z 7 (by omega), z 8 (by omega), z 9 (by omega), z 10 (by omega), z 11 (by omega), z 12 (by omega), z 13 (by omega)]
    exact h1
  have hZ6 : RZ (gup I β 6 (I β 6 + 1)) β := RZ_keep (Or.inr (fun b => fun c => cB_ne c.symm)) hZ
  obtain ⟨O7, o1, o2, o3⟩ := x3_putInOrder (O := O) hB hw hR6 hZ6
  obtain ⟨K1, k1, k2, k3⟩ := x8_turns hw
  have e130 : K1 130 = K 130 := k2 130 (by omega)
  obtain ⟨I11, K2, v, c1, c2, c3, c4, c5, c6, c7, c8, c9, c10, c11, c12⟩ := turns_both (K0 := K) (O7 := O7) (n := n) hB hw.1.1 n 0 FU (gup I β 6 (I β 6 + 1)) K1 0 (by omega) (by unfold FU; omega) (by rw [e130]; exact hw) (by rw [e130]; exact hR6) hZ6 (by rw [gup_at, e130, h6]) (by rw [e130]; exact hA) (fun q hq => by
    obtain ⟨b, hb, e1, e2⟩ := o2 q hq
    exact ⟨b, hb, e1, by rw [← e2]; exact k3 b hb⟩)
  rw [e130] at c8 c9 c10
  have hle := cnt3_le (K2 130) n
  have r7 : I11 β 7 = nI (cnt3 (K2 130) n) := c3.1.2.2.2.1.trans c5.a.1
  have r3 : I11 β 3 = nI n := c3.1.1.trans c5.1.1
  have hz : (0 : Int32) + nI v = nI v := Int32.zero_add _
  rw [hz] at c2
  generalize hK3 : gup K2 130 134 (K2 130 134 + 1) = K3
  have row3 : K3 130 = wpd (K2 130) 134 (K2 130 134 + 1) := by rw [← hK3, wpd_gup]
  have far3 : ∀ i, i ≠ 134 → K3 130 i = K2 130 i := by intro i hi; rw [row3, wpd_ne hi]
  have k3135 : K3 130 135 = nI (cnt3 (K2 130) n) := (far3 _ (by omega)).trans c5.a.1
  have hw3 : WX (K3 130) n := by rw [row3]; exact WX_glob (by omega) c5
  have hR3 : R I11 β (K3 130) n := by
    obtain ⟨h1, h2, h3, h4⟩ := c3
    refine ⟨?_, fun k hk => by rw [far3 _ (by omega)]; exact h2 k hk, fun b hb => ?_, fun b k hb hk e => ?_⟩
    · rw [far3 _ (by omega), far3 _ (by omega), far3 _ (by omega), far3 _ (by omega), far3 _ (by omega), far3 _ (by omega), far3 _ (by omega), far3 _ (by omega), far3 _ (by omega), far3 _ (by omega)]
      exact h1
    · rw [row3]; exact RB_far (by omega) (h3 b hb)
    · rw [far3 _ (by omega)] at hk e; exact h4 b k hb hk e
  have second_eq : ∀ w, (if cnt3 (K2 130) n = n then w = 0 else w = 1) → f_X8_second K = some (nI v, gup K3 130 150 w) := by
    intro w hw'
    unfold f_X8_second
    rw [show f_X8_second_L13 K FU 0 K = some K1 from k1]
    simp only [Option.bind_some]
    rw [show f_X8_second_L37 K FU 0 0 K1 = some (nI v, K2) from c2]
    simp only [Option.bind_some, hlet_e]
    rw [t134, t135, t150, t128, hK3, k3135, hw.1.1]
    by_cases e : cnt3 (K2 130) n = n
    · rw [if_pos e] at hw'; rw [if_pos (by rw [e]), hw']
    · rw [if_neg e] at hw'; rw [if_neg (by rw [pi_eq (by omega) (by omega)]; exact e), hw']
  have c3eq : ∀ w, cnt3 (gup K3 130 150 w 130) n = cnt3 (K2 130) n := by
    intro w; rw [wpd_gup]; exact cnt3_far (fun c hc => by rw [wpd_ne (by omega), far3 _ (by omega)])
  have fin : ∀ w : Int32, Bd w 0 1 → R (gup I11 β 5 w) β (gup K3 130 150 w 130) n ∧ RZ (gup I11 β 5 w) β ∧ WX (gup K3 130 150 w 130) n ∧ WA (gup K3 130 150 w 130) n ∧ gup I11 β 5 w β 6 = gup K3 130 150 w 130 134 ∧ FK2 K (gup K3 130 150 w) ∧ FI β I (gup I11 β 5 w) := by
    intro w hwb
    refine ⟨?_, RZ_keep (Or.inr (fun b => fun c => cB_ne c.symm)) c4, ?_, ?_, ?_, ?_, ?_⟩
    · rw [wpd_gup]; exact R_glob hn hw3.a.2 (by unfold gPair; omega) hR3
    · rw [wpd_gup]; exact WX_cfg (Or.inr (Or.inl ⟨rfl, hwb⟩)) hw3
    · rw [wpd_gup]; intro c hc h
      rw [wpd_ne (by omega), far3 _ (by omega)] at h ⊢
      rw [wpd_ne (by omega), far3 133 (by omega)]; exact c6 c hc h
    · rw [gup_i (by omega), wpd_gup, wpd_ne (by omega), row3, wpd_at]; exact c7
    · intro a ha hb; rw [gup_ne ha, ← hK3, gup_ne ha, c11 a ha, k2 a hb]
    · exact FI.gup (by omega) (FI.tr (FI.gup (by omega) FI.rf) c12)
  by_cases e : cnt3 (K2 130) n = n
  · obtain ⟨f1, f2, f3, f4, f5, f6, f7⟩ := fin 0 ⟨0, rfl, by omega, by omega⟩
    refine ⟨O7, I11, 0, gup K3 130 150 0, v, o1, c1, ?_, by decide, second_eq 0 (by rw [if_pos e]), f1, f2, f3, f4, f5, by rw [c3eq, c10], Or.inr ⟨gup_at, by rw [c3eq, e]⟩, f6, f7, o3⟩
    rw [r3, r7, if_pos (by rw [pi_le (by omega) (by omega)]; omega)]
  · obtain ⟨f1, f2, f3, f4, f5, f6, f7⟩ := fin 1 ⟨1, rfl, by omega, by omega⟩
    refine ⟨O7, I11, 1, gup K3 130 150 1, v, o1, c1, ?_, by decide, second_eq 1 (by rw [if_neg e]), f1, f2, f3, f4, f5, by rw [c3eq, c10], Or.inl ⟨gup_at, by rw [c3eq]; omega⟩, f6, f7, o3⟩
    rw [r3, r7, if_neg (by rw [pi_le (by omega) (by omega)]; omega)]
