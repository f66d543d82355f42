def sm (f : Nat → Nat) : Nat → Nat
  | 0 => 0
  | m + 1 => sm f m + f m
theorem sm_s (f : Nat → Nat) (m : Nat) : sm f (m + 1) = sm f m + f m := rfl
theorem sm_add (f g : Nat → Nat) (m : Nat) : sm (fun k => f k + g k) m = sm f m + sm g m := by
  induction m with
  | zero => rfl
  | succ m ih => rw [sm_s, sm_s, sm_s, ih]; omega
theorem sm_congr {f g : Nat → Nat} {m : Nat} (h : ∀ k, k < m → f k = g k) : sm f m = sm g m := by
  induction m with
  | zero => rfl
  | succ m ih => rw [sm_s, sm_s, ih (fun k hk => h k (by omega)), h m (by omega)]
theorem sm_none {f : Nat → Nat} {m : Nat} (h : ∀ k, k < m → f k = 0) : sm f m = 0 := by
  induction m with
  | zero => rfl
  | succ m ih => rw [sm_s, ih (fun k hk => h k (by omega)), h m (by omega)]
theorem sm_le {f : Nat → Nat} {m : Nat} (h : ∀ k, k < m → f k ≤ 1) : sm f m ≤ m := by
  induction m with
  | zero => exact Nat.le_refl _
  | succ m ih => have := h m (by omega); have := ih (fun k hk => h k (by omega)); rw [sm_s]; omega
theorem sm_swap (g : Nat → Nat → Nat) (n m : Nat) : sm (fun b => sm (g b) m) n = sm (fun q => sm (fun b => g b q) n) m := by
  induction n with
  | zero => exact (sm_none (fun _ _ => rfl)).symm
  | succ n ih =>
    rw [sm_s, ih, ← sm_add]
    exact sm_congr (fun k _ => rfl)
theorem sm_one {p m : Nat} (h : p < m) : sm (fun q => if q = p then 1 else 0) m = 1 := by
  induction m with
  | zero => omega
  | succ m ih =>
    rw [sm_s]
    by_cases c : m = p
    · rw [if_pos c, sm_none (fun k hk => if_neg (by omega))]
    · rw [if_neg c, ih (by omega)]
theorem pick_up {P : Nat → Nat} {n b : Nat} (hP : P b ≤ n) : sm (fun q => if P b = q + 1 ∧ b < q then 1 else 0) n = if b + 1 < P b then 1 else 0 := by
  by_cases c : b + 1 < P b
  · rw [if_pos c]
    refine Eq.trans (sm_congr (g := fun q => if q = P b - 1 then 1 else 0) (fun q hq => ?_)) (sm_one (by omega))
    show _ = if q = P b - 1 then 1 else 0
    by_cases d : q = P b - 1
    · rw [if_pos d, if_pos (by omega)]
    · rw [if_neg d, if_neg (by omega)]
  · rw [if_neg c]
    exact sm_none (fun q hq => if_neg (by omega))
theorem pick_dn {P : Nat → Nat} {n b : Nat} (hP : P b ≤ n) : sm (fun q => if P b = q + 1 ∧ q < b then 1 else 0) n = if 0 < P b ∧ P b < b + 1 then 1 else 0 := by
  by_cases c : 0 < P b ∧ P b < b + 1
  · rw [if_pos c]
    refine Eq.trans (sm_congr (g := fun q => if q = P b - 1 then 1 else 0) (fun q hq => ?_)) (sm_one (by omega))
    show _ = if q = P b - 1 then 1 else 0
    by_cases d : q = P b - 1
    · rw [if_pos d, if_pos (by omega)]
    · rw [if_neg d, if_neg (by omega)]
  · rw [if_neg c]
    exact sm_none (fun q hq => if_neg (by omega))
def pU (P : Nat → Nat) (b : Nat) : Nat := if b + 1 < P b then 1 else 0
def pA (P : Nat → Nat) (b : Nat) : Nat := if P b = 0 then 0 else 1
theorem pairs_half {P : Nat → Nat} {n : Nat} (hb : ∀ b, b < n → P b ≤ n) (hs : ∀ b, b < n → ∀ q, P b = q + 1 → q < n → q ≠ b ∧ P q = b + 1) : sm (pA P) n = 2 * sm (pU P) n := by
  have hU : sm (pU P) n = sm (fun b => sm (fun q => if P b = q + 1 ∧ b < q then 1 else 0) n) n := sm_congr (fun b h => (pick_up (hb b h)).symm)
  have hD : sm (fun b => if 0 < P b ∧ P b < b + 1 then 1 else 0) n = sm (fun b => sm (fun q => if P b = q + 1 ∧ q < b then 1 else 0) n) n := sm_congr (fun b h => (pick_dn (hb b h)).symm)
  have hUD : sm (pU P) n = sm (fun b => if 0 < P b ∧ P b < b + 1 then 1 else 0) n := by
    rw [hU, hD, sm_swap]
    refine sm_congr (fun q hq => sm_congr (fun b h => ?_))
    show (if P b = q + 1 ∧ b < q then 1 else 0) = (if P q = b + 1 ∧ b < q then 1 else 0)
    by_cases c : P b = q + 1
    · have := (hs b h q c hq).2
      by_cases d : b < q
      · rw [if_pos ⟨c, d⟩, if_pos ⟨this, d⟩]
      · rw [if_neg (fun z => d z.2), if_neg (fun z => d z.2)]
    · rw [if_neg (fun z => c z.1), if_neg (fun z => c (hs q hq b z.1 h).2)]
  have hA : sm (pA P) n = sm (pU P) n + sm (fun b => if 0 < P b ∧ P b < b + 1 then 1 else 0) n := by
    rw [← sm_add]
    refine sm_congr (fun b h => ?_)
    have hne : P b ≠ b + 1 := fun e => (hs b h b e h).1 rfl
    unfold pA pU
    by_cases c0 : P b = 0
    · rw [if_pos c0, if_neg (by omega), if_neg (by omega)]
    · by_cases c1 : b + 1 < P b
      · rw [if_neg c0, if_pos c1, if_neg (by omega)]
      · rw [if_neg c0, if_neg c1, if_pos (by omega)]
  omega
theorem WX_ten {s t : Nat → Int32} {n : Nat} (e : ∀ i, (∀ c, c < n → i ≠ 16 * c + 10) → t i = s i) (hb : ∀ c, c < n → Bd (t (16 * c + 10)) 0 n) (hp : ∀ b, b < n → ∀ q, t (16 * b + 10) = nI (q + 1) → q < n → q ≠ b ∧ t (16 * q + 10) = nI (b + 1)) (h : WX s n) : WX t n := by
  obtain ⟨w1, w2, w3, w4, w5, w6, w7, w8, w9⟩ := h
  have hn := w1.2
  have far : ∀ b, b < n → ∀ k, k < 16 → k ≠ 10 → t (16 * b + k) = s (16 * b + k) := fun b hb k hk h10 => e _ (fun c hc => by omega)
  have far0 : ∀ b, b < n → t (16 * b) = s (16 * b) := fun b hb => e _ (fun c hc => by omega)
  have g' : ∀ i, 128 ≤ i → t i = s i := fun i hi => e _ (fun c hc => by omega)
  have hc : cnt3 t n = cnt3 s n := cnt3_far (fun b hb => by rw [far b hb 6 (by omega) (by omega)])
  refine ⟨⟨by rw [g' _ (by omega)]; exact w1.1, hn⟩, fun b h => ?_, hp, fun k hk => by rw [g' _ (by omega)]; exact w4 k hk, ⟨by rw [g' _ (by omega)]; exact w5.1, by rw [g' _ (by omega)]; exact w5.2⟩, by rw [hc, g' _ (by omega)]; exact w6, ?_, ?_, ?_⟩
  · rw [far0 b h, far b h 1 (by omega) (by omega), far b h 2 (by omega) (by omega), far b h 3 (by omega) (by omega), far b h 4 (by omega) (by omega), far b h 5 (by omega) (by omega), far b h 6 (by omega) (by omega), far b h 7 (by omega) (by omega), far b h 9 (by omega) (by omega), far b h 12 (by omega) (by omega)]
    obtain ⟨a0, a1, a2, a3, a4, a5, a6, a7, a9, _, a12, a13⟩ := w2 b h
    exact ⟨a0, a1, a2, a3, a4, a5, a6, a7, a9, hb b h, a12, a13⟩
  · rw [hc]; intro k hk
    obtain ⟨b, h, e1, e2⟩ := w7 k hk
    exact ⟨b, h, by rw [g' _ (by omega)]; exact e1, by rw [far b h 6 (by omega) (by omega)]; exact e2⟩
  · rw [hc]; intro k j hk hj hh
    rw [g' (136 + k) (by omega), g' (136 + j) (by omega)] at hh
    exact w8 k j hk hj hh
  · rw [hc]; intro b h h3
    rw [far b h 6 (by omega) (by omega)] at h3
    obtain ⟨k, hk, e1⟩ := w9 b h h3
    exact ⟨k, hk, by rw [g' _ (by omega)]; exact e1⟩
theorem RR_ten {I X : Nat → Nat → Int32} {β n : Nat} {s t : Nat → Int32} (h : RR I β s n) (hR : R X β t n) (xr : ∀ a f, f ≠ 12 → X a f = I a f) (e : ∀ i, (∀ c, c < n → i ≠ 16 * c + 10) → t i = s i) (hb : ∀ c, c < n → Bd (t (16 * c + 10)) 0 n) (hp : ∀ b, b < n → ∀ q, t (16 * b + 10) = nI (q + 1) → q < n → q ≠ b ∧ t (16 * q + 10) = nI (b + 1)) : RR X β t n := by
  obtain ⟨_, hZ, h6, hw, hr, hl⟩ := h
  have hn := hw.1.2
  have g' : ∀ i, 128 ≤ i → t i = s i := fun i hi => e _ (fun c hc => by omega)
  have far : ∀ b, b < n → ∀ k, k < 16 → k ≠ 10 → t (16 * b + k) = s (16 * b + k) := fun b hb k hk h10 => e _ (fun c hc => by omega)
  have hc : cnt3 t n = cnt3 s n := cnt3_far (fun b hb => by rw [far b hb 6 (by omega) (by omega)])
  refine ⟨hR, fun b hb => by rw [xr _ 0 (by omega), xr _ 11 (by omega)]; exact hZ b hb, by rw [xr _ 6 (by omega), g' _ (by omega)]; exact h6, WX_ten e hb hp hw, fun he c hc h3 => ?_, fun he => ?_⟩
  · rw [g' 150 (by omega)] at he
    rw [far c hc 6 (by omega) (by omega)] at h3
    rw [far c hc 7 (by omega) (by omega), g' 133 (by omega)]; exact hr he c hc h3
  · rw [g' 150 (by omega)] at he; rw [hc]; exact hl he
theorem gup_same {α : Type} {f : Nat → Nat → α} {n k : Nat} {v : α} (h : f n k = v) : gup f n k v = f := by
  funext a i
  unfold gup
  by_cases c : a = n ∧ i = k
  · rw [if_pos c, c.1, c.2, h]
  · rw [if_neg c]
theorem x3_atb {I : Nat → Nat → Int32} {β n q : Nat} (h3 : I β 3 = nI n) (hn : n ≤ 8) (hq : q < n) : f_X3_at β (nI q) I = some (some (cB β q)) := by
  unfold f_X3_at
  rw [h3, if_neg (by rw [show (0 : Int32) = nI 0 from rfl, pi_lt (by omega) (by omega)]; omega), if_neg (by rw [pi_le (by omega) (by omega)]; omega), if_pos (by rw [show (8 : Int32) = nI 8 from rfl, pi_lt (by omega) (by omega)]; omega), pi_gin (by omega), decide_eq_true (by omega), hg_t, pi_tn (by omega)]; rfl
theorem leave_both {I K : Nat → Nat → Int32} {n b : Nat} (hb : b < n) (h : RR I 1 (K 130) n) :
    ∃ X Y, f_X3_partFromPartner 1 (cB 1 b) I = some X ∧ f_X8_leaves (nI b) K = some Y ∧ RR X 1 (Y 130) n ∧ Y 130 (16 * b + 10) = 0 ∧ (∀ c, c < n → K 130 (16 * c + 10) = 0 → Y 130 (16 * c + 10) = 0) ∧ (∀ a, (a < 5 ∨ 13 ≤ a) → X a = I a) ∧ (∀ a f, f ≠ 12 → X a f = I a f) ∧ (∀ a, a ≠ 130 → Y a = K a) := by
  have hw := h.2.2.2.1
  have hn := hw.1.2
  have h3 : I 1 3 = nI n := h.1.1.1.trans hw.1.1
  obtain ⟨v, ev, _, hv⟩ := (hw.2.1 b hb).2.2.2.2.2.2.2.2.2.1
  have h12 : I (cB 1 b) 12 = K 130 (16 * b + 10) - 1 := (h.1.2.2.1 b hb).2.2.2.2.2.2.2.2.2.2.2.1
  have o10 : f_X8_of (nI b) (10 : Int32) K = some (K 130 (16 * b + 10)) := x8_of (f := 10) (by omega) (by omega)
  have g10 : gin ((16 : Int32) * nI b + (10 : Int32)) 151 = true := ixg (g := 10) (by omega) (by omega)
  have j10 : ((16 : Int32) * nI b + (10 : Int32)).toNatClampNeg = 16 * b + 10 := ix (g := 10) (by omega) (by omega)
  unfold f_X3_partFromPartner f_X8_leaves
  rcases Nat.eq_zero_or_pos v with e0 | e0
  · subst e0
    have em : nI 0 - (1 : Int32) = -1 := by decide
    have eI : I (cB 1 b) 12 = -1 := by rw [h12, ev, em]
    have eK : K 130 (16 * b + 10) = 0 := ev
    refine ⟨I, K, ?_, ?_, h, eK, fun c _ hc => hc, fun _ _ => rfl, fun _ _ _ => rfl, fun _ _ => rfl⟩
    · rw [eI, show f_X3_at 1 (-1) I = some none from rfl]
      simp only [Option.bind_some, hopt_e1, hlet_e]
      rw [gup_same eI]
    · rw [o10, eK]
      simp only [Option.bind_some]
      rw [if_pos (by decide)]
      simp only [Option.bind_some]
      rw [g10, hg_t, j10, hlet_e, gup_same eK]
  · obtain ⟨q, rfl⟩ : ∃ q, v = q + 1 := ⟨v - 1, by omega⟩
    have hq : q < n := by omega
    obtain ⟨hqb, hq10⟩ := hw.2.2.1 b hb q ev hq
    have em : nI (q + 1) - (1 : Int32) = nI q := pi_sub (b := 1) (by omega)
    have eI : I (cB 1 b) 12 = nI q := by rw [h12, ev, em]
    have ek : Bd (K 130 (16 * q + 10)) 0 n := (hw.2.1 q hq).2.2.2.2.2.2.2.2.2.1
    have erow : gup (gup K 130 (16 * q + 10) 0) 130 (16 * b + 10) 0 130 = wpd (wpd (K 130) (16 * q + 10) 0) (16 * b + 10) 0 := by rw [wpd_gup, wpd_gup]
    have hR1 := R_part (I := I) (β := 1) (b := q) (v := 0) (w := -1) hn hw.a.2 hq (by decide) h.1
    have hR2 := R_part (b := b) (v := 0) (w := -1) hn (by rw [wpd_ne (by omega)]; exact hw.a.2) hb (by decide) hR1
    refine ⟨gup (gup I (cB 1 q) 12 (-1)) (cB 1 b) 12 (-1), gup (gup K 130 (16 * q + 10) 0) 130 (16 * b + 10) 0, ?_, ?_, ?_, gup_at, fun c hc hz => ?_, fun a ha => ?_, fun a f hf => ?_, fun a ha => ?_⟩
    · rw [eI, x3_atb h3 hn hq]
      simp only [Option.bind_some, hopt_e2]
      rw [hk_e (sk_b (β := 1) (Or.inl rfl) (by omega))]
      simp only [Option.bind_some, hlet_e]
    · rw [o10, ev]
      simp only [Option.bind_some]
      rw [em, if_neg (by rw [show (0 : Int32) = nI 0 from rfl, pi_lt (by omega) (by omega)]; omega), show gin ((16 : Int32) * nI q + (10 : Int32)) 151 = true from ixg (g := 10) (by omega) (by omega), hg_t, show ((16 : Int32) * nI q + (10 : Int32)).toNatClampNeg = 16 * q + 10 from ix (g := 10) (by omega) (by omega)]
      simp only [Option.bind_some, hlet_e]
      rw [g10, hg_t, j10]
    · rw [erow]
      have far : ∀ c, c ≠ b → c ≠ q → wpd (wpd (K 130) (16 * q + 10) 0) (16 * b + 10) 0 (16 * c + 10) = K 130 (16 * c + 10) := fun c h1 h2 => by rw [wpd_ne (by omega), wpd_ne (by omega)]
      have atb : wpd (wpd (K 130) (16 * q + 10) 0) (16 * b + 10) 0 (16 * b + 10) = nI 0 := wpd_at
      have atq : wpd (wpd (K 130) (16 * q + 10) 0) (16 * b + 10) 0 (16 * q + 10) = nI 0 := by rw [wpd_ne (by omega), wpd_at]; rfl
      refine RR_ten h hR2 (fun a f hf => by rw [gup_i hf, gup_i hf]) (fun i hi => by rw [wpd_ne (hi b hb), wpd_ne (hi q hq)]) (fun c hc => ?_) (fun c hc r hr hrn => ?_)
      · by_cases c1 : c = b
        · rw [c1, atb]; exact ⟨0, rfl, by omega, by omega⟩
        · by_cases c2 : c = q
          · rw [c2, atq]; exact ⟨0, rfl, by omega, by omega⟩
          · rw [far c c1 c2]; exact (hw.2.1 c hc).2.2.2.2.2.2.2.2.2.1
      · by_cases c1 : c = b
        · rw [c1, atb, pi_eq (by omega) (by omega)] at hr; omega
        · by_cases c2 : c = q
          · rw [c2, atq, pi_eq (by omega) (by omega)] at hr; omega
          · rw [far c c1 c2] at hr
            obtain ⟨z1, z2⟩ := hw.2.2.1 c hc r hr hrn
            have r1 : r ≠ b := fun er => by rw [er, ev, pi_eq (by omega) (by omega)] at z2; omega
            have r2 : r ≠ q := fun er => by rw [er, hq10, pi_eq (by omega) (by omega)] at z2; omega
            exact ⟨z1, by rw [far r r1 r2]; exact z2⟩
    · rw [erow]
      by_cases c1 : c = b
      · rw [c1, wpd_at]
      · by_cases c2 : c = q
        · rw [c2, wpd_ne (by omega), wpd_at]
        · rw [wpd_ne (by omega), wpd_ne (by omega)]; exact hz
    · rw [gup_ne (by unfold cB; omega), gup_ne (by unfold cB; omega)]
    · rw [gup_i hf, gup_i hf]
    · rw [gup_ne ha, gup_ne ha]
theorem set_both {I : Nat → Nat → Int32} {s : Nat → Int32} {n b q : Nat} (hb : b < n) (hq : q < n) (hbq : b ≠ q) (h : RR I 1 s n) (zb : s (16 * b + 10) = 0) (zq : s (16 * q + 10) = 0) :
    RR (gup (gup I (cB 1 b) 12 (nI q)) (cB 1 q) 12 (nI b)) 1 (wpd (wpd s (16 * b + 10) (nI (q + 1))) (16 * q + 10) (nI (b + 1))) n := by
  have hw := h.2.2.2.1
  have hn := hw.1.2
  have em : ∀ k, nI k = nI (k + 1) - (1 : Int32) := fun k => (pi_sub (a := k + 1) (b := 1) (by omega)).symm
  have hR1 := R_part (b := b) (v := nI (q + 1)) (w := nI q) hn hw.a.2 hb (em q) h.1
  have hR2 := R_part (b := q) (v := nI (b + 1)) (w := nI b) hn (by rw [wpd_ne (by omega)]; exact hw.a.2) hq (em b) hR1
  have far : ∀ c, c ≠ b → c ≠ q → wpd (wpd s (16 * b + 10) (nI (q + 1))) (16 * q + 10) (nI (b + 1)) (16 * c + 10) = s (16 * c + 10) := fun c h1 h2 => by rw [wpd_ne (by omega), wpd_ne (by omega)]
  have atb : wpd (wpd s (16 * b + 10) (nI (q + 1))) (16 * q + 10) (nI (b + 1)) (16 * b + 10) = nI (q + 1) := by rw [wpd_ne (by omega), wpd_at]
  have atq : wpd (wpd s (16 * b + 10) (nI (q + 1))) (16 * q + 10) (nI (b + 1)) (16 * q + 10) = nI (b + 1) := wpd_at
  have zb' : s (16 * b + 10) = nI 0 := zb
  have zq' : s (16 * q + 10) = nI 0 := zq
  refine RR_ten h hR2 (fun a f hf => by rw [gup_i hf, gup_i hf]) (fun i hi => by rw [wpd_ne (hi q hq), wpd_ne (hi b hb)]) (fun c hc => ?_) (fun c hc r hr hrn => ?_)
  · by_cases c1 : c = b
    · rw [c1, atb]; exact ⟨q + 1, rfl, by omega, by omega⟩
    · by_cases c2 : c = q
      · rw [c2, atq]; exact ⟨b + 1, rfl, by omega, by omega⟩
      · rw [far c c1 c2]; exact (hw.2.1 c hc).2.2.2.2.2.2.2.2.2.1
  · by_cases c1 : c = b
    · rw [c1, atb, pi_eq (by omega) (by omega)] at hr
      have : r = q := by omega
      rw [this, c1]; exact ⟨fun e => hbq e.symm, atq⟩
    · by_cases c2 : c = q
      · rw [c2, atq, pi_eq (by omega) (by omega)] at hr
        have : r = b := by omega
        rw [this, c2]; exact ⟨hbq, atb⟩
      · rw [far c c1 c2] at hr
        obtain ⟨z1, z2⟩ := hw.2.2.1 c hc r hr hrn
        have r1 : r ≠ b := fun er => by rw [er, zb', pi_eq (by omega) (by omega)] at z2; omega
        have r2 : r ≠ q := fun er => by rw [er, zq', pi_eq (by omega) (by omega)] at z2; omega
        exact ⟨z1, by rw [far r r1 r2]; exact z2⟩
theorem pm_le : ∀ v, v < 9 → ∀ k, k < 8 → (nI v - (1 : Int32) ≤ nI k ↔ ¬ (k + 1 < v)) := by decide
def pP (s : Nat → Int32) (b : Nat) : Nat := tn (s (16 * b + 10))
theorem x3_countPairs {I : Nat → Nat → Int32} {β n : Nat} {s : Nat → Int32} (hB : IsB β) (hw : WX s n) (hR : R I β s n) (hZ : RZ I β) : f_X3_countPairs β I = some (nI (sm (pU (pP s)) n)) := by
  have hn := hw.1.2
  have h3 : I β 3 = nI n := hR.1.1.trans hw.1.1
  have := loop_go (fun fuel k (st : Int32) => f_X3_countPairs_L13 β I fuel st k) 8 (fun k st => st = nI (sm (pU (pP s)) (min k n))) (fun v => v = nI (sm (pU (pP s)) n)) ?_ FU 0 0 (by omega) (by rw [Nat.zero_min]; rfl) (by unfold FU; omega)
  · obtain ⟨v, hv, rfl⟩ := this
    unfold f_X3_countPairs
    rw [show f_X3_countPairs_L13 β I FU 0 0 = some (nI (sm (pU (pP s)) n)) from hv]; rfl
  · rintro k st hk rfl
    rcases Nat.lt_or_ge k 8 with hk8 | hk8
    · right
      have hnle : ¬ ((8 : Int32) ≤ nI k) := by rw [show (8 : Int32) = nI 8 from rfl, pi_le (by omega) (by omega)]; omega
      have hgin : gin (nI k) 8 = true := by rw [pi_gin (by omega)]; exact decide_eq_true hk8
      have htn : β + 1 + 3 + (nI k).toNatClampNeg = cB β k := by rw [pi_tn (by omega)]; rfl
      refine ⟨hk8, _, rfl, fun fuel => ?_⟩
      show f_X3_countPairs_L13 β I (fuel+1) (nI (sm (pU (pP s)) (min k n))) (nI k) = _
      rw [f_X3_countPairs_L13, if_neg hnle, hgin, hg_t, htn]
      unfold f_X3_isThere
      rw [hopt_e2, hk_e (sk_b hB hk8), h3, (hZ k hk8).1]
      by_cases hkn : k < n
      · rw [if_neg (by rw [pi_le (by omega) (by omega)]; omega), Nat.min_eq_left (by omega), Nat.min_eq_left (by omega)]
        simp only [Option.bind_some, hlet_e]
        have hbd := ((hw.2.1 k hkn).2.2.2.2.2.2.2.2.2.1).e (by omega)
        have h12 : I (cB β k) 12 = nI (pP s k) - 1 := by
          rw [(hR.2.2.1 k hkn).2.2.2.2.2.2.2.2.2.2.2.1]; unfold pP; rw [← hbd.1]
        have hv9 : pP s k ≤ n := hbd.2.2
        rw [if_neg (show ¬ ((1 : Int32) = 0) by decide), h12, show nI k + (1 : Int32) = nI (k + 1) from pi_add k 1, sm_s]
        by_cases c : k + 1 < pP s k
        · rw [if_neg (by rw [pm_le _ (by omega) _ hk8]; omega)]
          simp only [Option.bind_some]
          rw [show pU (pP s) k = 1 from if_pos c, show nI (sm (pU (pP s)) k) + (1 : Int32) = nI (sm (pU (pP s)) k + 1) from pi_add _ 1]
        · rw [if_pos (by rw [pm_le _ (by omega) _ hk8]; exact c)]
          simp only [Option.bind_some]
          simp only [show pU (pP s) k = 0 from if_neg c, Nat.add_zero]
      · rw [if_pos (by rw [pi_le (by omega) (by omega)]; omega), Nat.min_eq_right (by omega), Nat.min_eq_right (by omega)]
        simp only [Option.bind_some, hlet_e, if_true]
        rw [show nI k + (1 : Int32) = nI (k + 1) from pi_add k 1]
    · left
      have : k = 8 := by omega
      subst this
      refine ⟨nI (sm (pU (pP s)) (min 8 n)), fun fuel => ?_, by rw [Nat.min_eq_right (by omega)]⟩
      show f_X3_countPairs_L13 β I (fuel+1) _ (nI 8) = _
      rw [f_X3_countPairs_L13, if_pos (by decide)]
theorem x8_pairCount {K : Nat → Nat → Int32} {n : Nat} (hw : WX (K 130) n) : f_X8_pair_L88 K FU 0 0 = some (nI (sm (pA (pP (K 130))) n)) := by
  have hn := hw.1.2
  have := loop_go (fun fuel k (st : Int32) => f_X8_pair_L88 K fuel st k) n (fun k st => st = nI (sm (pA (pP (K 130))) k)) (fun v => v = nI (sm (pA (pP (K 130))) n)) ?_ FU 0 0 (by omega) rfl (by unfold FU; omega)
  · obtain ⟨v, hv, rfl⟩ := this
    exact hv
  · rintro k st hk rfl
    rcases Nat.lt_or_ge k n with hk8 | hk8
    · right
      refine ⟨hk8, _, rfl, fun fuel => ?_⟩
      show f_X8_pair_L88 K (fuel+1) (nI (sm (pA (pP (K 130))) k)) (nI k) = _
      have hbd := ((hw.2.1 k hk8).2.2.2.2.2.2.2.2.2.1).e (by omega)
      rw [f_X8_pair_L88, t128, hw.1.1, if_neg (by rw [pi_le (by omega) (by omega)]; omega), show f_X8_of (nI k) (10 : Int32) K = some (K 130 (16 * k + 10)) from x8_of (f := 10) (by omega) (by omega)]
      simp only [Option.bind_some, hlet_e]
      have h10 : K 130 (16 * k + 10) = nI (pP (K 130) k) := hbd.1
      have hv9 : pP (K 130) k ≤ n := hbd.2.2
      rw [h10, show nI k + (1 : Int32) = nI (k + 1) from pi_add k 1, sm_s]
      by_cases c : pP (K 130) k = 0
      · rw [if_pos (by rw [c]; decide)]
        simp only [Option.bind_some]
        simp only [show pA (pP (K 130)) k = 0 from if_pos c, Nat.add_zero, Int32.add_zero]
      · rw [if_neg (by rw [show (0 : Int32) = nI 0 from rfl, pi_le (by omega) (by omega)]; omega)]
        simp only [Option.bind_some]
        rw [show pA (pP (K 130)) k = 1 from if_neg c, show nI (sm (pA (pP (K 130))) k) + (1 : Int32) = nI (sm (pA (pP (K 130))) k + 1) from pi_add _ 1]
    · left
      have : k = n := by omega
      subst this
      refine ⟨nI (sm (pA (pP (K 130))) k), fun fuel => ?_, rfl⟩
      show f_X8_pair_L88 K (fuel+1) _ (nI k) = _
      rw [f_X8_pair_L88, t128, hw.1.1, if_pos (by rw [pi_le (by omega) (by omega)]; omega)]
theorem half_e {s : Nat → Int32} {n : Nat} (hw : WX s n) : nI (sm (pA (pP s)) n) / (2 : Int32) = nI (sm (pU (pP s)) n) := by
  have hn := hw.1.2
  have hbd : ∀ b, b < n → s (16 * b + 10) = nI (pP s b) ∧ pP s b ≤ n := fun b hb => by
    have := ((hw.2.1 b hb).2.2.2.2.2.2.2.2.2.1).e (by omega)
    exact ⟨this.1, this.2.2⟩
  have h2 := pairs_half (P := pP s) (n := n) (fun b hb => (hbd b hb).2) (fun b hb q hq hqn => by
    have e := (hbd b hb).1
    rw [hq] at e
    obtain ⟨z1, z2⟩ := hw.2.2.1 b hb q e hqn
    have hv := (hbd q hqn).2
    rw [(hbd q hqn).1, pi_eq (by omega) (by omega)] at z2
    exact ⟨z1, z2⟩)
  have hle : sm (pA (pP s)) n ≤ n := sm_le (fun k hk => by unfold pA; split <;> omega)
  rw [show (2 : Int32) = nI 2 from rfl, pi_div (by omega) (by omega), h2, Nat.mul_div_cancel_left _ (by omega)]
theorem op_pair (a1 a2 : Int32) : OPB (f_W_pair a1 a2) (f_X8_pair a1 a2) := by
  intro I O J K h
  have hh := h
  obtain ⟨n0, _, len, h1, _⟩ := hh
  have hn := h1.2.2.2.1.1.2
  have h3 : I 1 3 = K 130 128 := h1.1.1.1
  have kn : ∀ a, _ := fun a => known_e (I := I) (K := K) (n := n0) a (h1.1.1.1.trans h1.2.2.2.1.1.1) h1.2.2.2.1.1.1 hn
  rcases kn a1 with ⟨b, hb, rfl, e1, e2⟩ | ⟨e1, e2⟩
  · rcases kn a2 with ⟨q, hq, rfl, f1, f2⟩ | ⟨f1, f2⟩
    · by_cases hbq : b = q
      · subst hbq
        refine op_no h (c := 2) (r := 0) (by decide) ?_ ?_
        · unfold f_W_pair f_X7_pair
          rw [e1]
          simp only [Option.bind_some, hsum, if_true]
          rfl
        · unfold f_X8_pair
          rw [e2]
          simp only [Option.bind_some, show ¬ ((1 : Int32) = 0) by decide, if_false, if_true]
          rfl
      · have hne : ¬ (nI b = nI q) := by rw [pi_eq (by omega) (by omega)]; exact hbq
        obtain ⟨n, I1, O1, K1, s1, s2, s3, s4, s5, s6, s7, s8, s9⟩ := sv_step h
        have hnn : n = n0 := by
          have e3 := s3.2.2.2.1.1.1
          rw [s6, h1.2.2.2.1.1.1, pi_eq (by omega) (by have := s3.2.2.2.1.1.2; omega)] at e3
          exact e3.symm
        subst hnn
        obtain ⟨X1, Y1, u1, u2, u3, u4, u5, u6, u7, u8⟩ := leave_both hb s3
        obtain ⟨X2, Y2, v1, v2, v3, v4, v5, v6, v7, v8⟩ := leave_both hq u3
        have hR := set_both hb hq hbq v3 (v5 b hb u4) v4
        have x0q : X2 (cB 1 q) 0 = nI q := (v3.2.1 q (by omega)).1
        have x0b : gup X2 (cB 1 b) 12 (nI q) (cB 1 b) 0 = nI b := by rw [gup_i (by omega)]; exact (v3.2.1 b (by omega)).1
        generalize hX : gup (gup X2 (cB 1 b) 12 (nI q)) (cB 1 q) 12 (nI b) = X at *
        have erow : gup (gup Y2 130 (16 * b + 10) (nI (q + 1))) 130 (16 * q + 10) (nI (b + 1)) 130 = wpd (wpd (Y2 130) (16 * b + 10) (nI (q + 1))) (16 * q + 10) (nI (b + 1)) := by rw [wpd_gup, wpd_gup]
        rw [← erow] at hR
        have farY : ∀ a, a ≠ 130 → gup (gup Y2 130 (16 * b + 10) (nI (q + 1))) 130 (16 * q + 10) (nI (b + 1)) a = K1 a := fun a ha => by rw [gup_ne ha, gup_ne ha, v8 a ha, u8 a ha]
        generalize hY : gup (gup Y2 130 (16 * b + 10) (nI (q + 1))) 130 (16 * q + 10) (nI (b + 1)) = Y at *
        have farX : ∀ a, 13 ≤ a → X a = I1 a := fun a ha => by rw [← hX, gup_ne (by unfold cB; omega), gup_ne (by unfold cB; omega), v6 a (by omega), u6 a (by omega)]
        have z13 : RZ X 13 := RZ_I (fun a q1 q2 => farX a (by omega)) (ZZ13 s4)
        refine ⟨X, O1, Y, Inv2_now s4 (fun a q1 q2 => farX a (by omega)) z13 hR (fun a q1 q2 => farY a (by omega)) (by rw [farY 129 (by omega)]) (by rw [farY 129 (by omega)]) rfl, fun a ha => (farX a (by omega)).trans (s8 a ha), fun a ha => (farY a (by omega)).trans (s9 a ha), Or.inl ⟨nI (sm (pU (pP (Y 130))) n), ?_, ?_, by rw [farY 129 (by omega)]; exact s5⟩⟩
        · unfold f_W_pair f_X7_pair
          rw [e1]
          simp only [Option.bind_some, hsum]
          rw [f1]
          simp only [Option.bind_some, hsum]
          rw [if_neg hne, s1]
          simp only [Option.bind_some]
          rw [hk_e (sk_b (Or.inl rfl) (by omega)), hk_e (sk_b (Or.inl rfl) (by omega))]
          unfold f_X3_makePair
          rw [u1]
          simp only [Option.bind_some]
          rw [v1]
          simp only [Option.bind_some, hlet_e]
          rw [x0q, x0b, hX, x3_countPairs (Or.inl rfl) hR.2.2.2.1 hR.1 hR.2.1]
          simp only [Option.bind_some]
          rw [t0']
        · unfold f_X8_pair
          rw [e2]
          simp only [Option.bind_some, show ¬ ((1 : Int32) = 0) by decide, if_false]
          rw [f2]
          simp only [Option.bind_some, show ¬ ((1 : Int32) = 0) by decide, if_false]
          rw [if_neg hne]
          simp only [Option.bind_some]
          rw [ref0]
          simp only [Option.bind_some, if_true]
          rw [s2]
          simp only [Option.bind_some]
          rw [u2]
          simp only [Option.bind_some]
          rw [v2]
          simp only [Option.bind_some]
          rw [show gin ((16 : Int32) * nI b + (10 : Int32)) 151 = true from ixg (g := 10) (by omega) (by omega), show gin ((16 : Int32) * nI q + (10 : Int32)) 151 = true from ixg (g := 10) (by omega) (by omega), hg_t]
          simp only [hlet_e, hg_t]
          rw [show ((16 : Int32) * nI b + (10 : Int32)).toNatClampNeg = 16 * b + 10 from ix (g := 10) (by omega) (by omega), show ((16 : Int32) * nI q + (10 : Int32)).toNatClampNeg = 16 * q + 10 from ix (g := 10) (by omega) (by omega), show nI q + (1 : Int32) = nI (q + 1) from pi_add q 1, show nI b + (1 : Int32) = nI (b + 1) from pi_add b 1, hY, x8_pairCount hR.2.2.2.1]
          simp only [Option.bind_some]
          rw [half_e hR.2.2.2.1]
    · refine op_no h (c := 1) (r := 0) (by decide) ?_ ?_
      · unfold f_W_pair f_X7_pair
        rw [e1]
        simp only [Option.bind_some, hsum]
        rw [f1]; rfl
      · unfold f_X8_pair
        rw [e2]
        simp only [Option.bind_some, show ¬ ((1 : Int32) = 0) by decide, if_false]
        rw [f2]; rfl
  · refine op_no h (c := 1) (r := 0) (by decide) ?_ ?_
    · unfold f_W_pair f_X7_pair
      rw [e1]; rfl
    · unfold f_X8_pair
      rw [e2]; rfl
section CS
variable {SL' : Nat} {sx : Nat → Int32} {p4 : Int32} {I : Nat → Nat → Int32} {O : Nat → Nat → Option Nat} {J : Nat → Nat → Int64}
end CS
