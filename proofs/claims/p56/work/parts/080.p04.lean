def QR (I : Nat → Nat → Int32) (β : Nat) (s : Nat → Int32) (n : Nat) : Prop :=
  IsB β ∧ I β 3 = nI n ∧ (∀ k, k < 8 → I (cB β k) 0 = nI k) ∧ (∀ k, k < n → RB I (cB β k) s k) ∧ FL s n
theorem x3_way {I : Nat → Nat → Int32} {β n b k : Nat} {s : Nat → Int32} {lane : Int32} (h : QR I β s n) (hb : b < n) (hk : k < 8) (hw : wy s n b lane k) : f_X3_isInTheWay β (some (cB β k)) (cB β b) lane I = some 1 := by
  obtain ⟨h1, h2, h3, h4, h5, h6, h7⟩ := h
  obtain ⟨w1, w2, w3, w4⟩ := hw
  unfold f_X3_isInTheWay
  rw [hopt_e2, hk_e (sk_b h1 hk), h2, h3 k hk, h3 b (by omega), if_neg (by rw [pi_le (by omega) (by omega)]; omega), if_neg (by rw [pi_eq (by omega) (by omega)]; omega)]
  have r := h4 k w1
  rw [r.2.2.2.2.2.2.2.2.1, r.2.2.2.2.2.2.2.1, w3, w4, if_pos rfl, if_pos rfl]
theorem x3_nway {I : Nat → Nat → Int32} {β n b k : Nat} {s : Nat → Int32} {lane : Int32} (h : QR I β s n) (hb : b < n) (hk : k < 8) (hw : ¬ wy s n b lane k) : f_X3_isInTheWay β (some (cB β k)) (cB β b) lane I = some 0 := by
  obtain ⟨h1, h2, h3, h4, h5, h6, h7⟩ := h
  unfold f_X3_isInTheWay
  rw [hopt_e2, hk_e (sk_b h1 hk), h2, h3 k hk, h3 b (by omega)]
  by_cases w1 : k < n
  · rw [if_neg (by rw [pi_le (by omega) (by omega)]; omega)]
    have r := h4 k w1
    rw [r.2.2.2.2.2.2.2.2.1, r.2.2.2.2.2.2.2.1]
    by_cases w2 : k = b
    · rw [if_pos (by rw [w2])]
    · rw [if_neg (by rw [pi_eq (by omega) (by omega)]; omega)]
      by_cases w3 : s (16 * k + 6) = 1
      · rw [if_pos w3, if_neg (fun w4 => hw ⟨w1, w2, w3, w4⟩)]
      · rw [if_neg w3]
  · rw [if_pos (by rw [pi_le (by omega) (by omega)]; omega)]
theorem QR.fb {I : Nat → Nat → Int32} {β n b k : Nat} {s : Nat → Int32} (h : QR I β s n) (hb : b < n) (hk : k < n) : f_X6_feetBehind (cB β b) (cB β k) I = some (nI (gD s k b)) := by
  obtain ⟨h1, h2, h3, h4, h5, h6, h7⟩ := h
  exact x6_feetBehind (h7 k hk).2 (h7 b hb).2 ((h4 b hb).2.2.2.1.trans (h7 b hb).1) ((h4 k hk).2.2.2.1.trans (h7 k hk).1)
theorem NX_skip {s : Nat → Int32} {n b : Nat} {lane : Int32} {k : Nat} {r : Option Nat} (h : NX s n b lane k r) (hw : ¬ wy s n b lane k) : NX s n b lane (k + 1) r := by
  cases r with
  | none => exact fun q hq => (lt_succ'.mp hq).elim (fun hq => h q hq) (fun e => e ▸ hw)
  | some j => exact ⟨by have := h.1; omega, h.2.1, fun q hq hy => (lt_succ'.mp hq).elim (fun hq => h.2.2.1 q hq hy) (fun e => absurd (e ▸ hy) hw), h.2.2.2⟩
def nxd (s : Nat → Int32) (b : Nat) (r : Option Nat) : Nat := match r with | none => 401 | some j => gD s j b
theorem NX_keep {s : Nat → Int32} {n b : Nat} {lane : Int32} {k : Nat} {r : Option Nat} (h : NX s n b lane k r) (hw : wy s n b lane k) (hl : nxd s b r ≤ gD s k b) : NX s n b lane (k + 1) r := by
  cases r with
  | none => have := dN_b (fl s k) (fl s b); unfold nxd gD at hl; simp only at hl; omega
  | some j => exact ⟨by have := h.1; omega, h.2.1, fun q hq hy => (lt_succ'.mp hq).elim (fun hq => h.2.2.1 q hq hy) (fun e => e ▸ hl), h.2.2.2⟩
theorem NX_new {s : Nat → Int32} {n b : Nat} {lane : Int32} {k : Nat} {r : Option Nat} (h : NX s n b lane k r) (hw : wy s n b lane k) (hl : gD s k b < nxd s b r) : NX s n b lane (k + 1) (some k) := by
  cases r with
  | none => exact ⟨by omega, hw, fun q hq hy => (lt_succ'.mp hq).elim (fun hq => absurd hy (h q hq)) (fun e => e ▸ Nat.le_refl _), fun q hq hy => absurd hy (h q hq)⟩
  | some j =>
    have hl' : gD s k b < gD s j b := hl
    exact ⟨by omega, hw, fun q hq hy => (lt_succ'.mp hq).elim (fun hq => by have := h.2.2.1 q hq hy; omega) (fun e => e ▸ Nat.le_refl _), fun q hq hy => by have := h.2.2.1 q hq hy; omega⟩
theorem x3_nextAhead {I : Nat → Nat → Int32} {β n b : Nat} {s : Nat → Int32} (h : QR I β s n) (hb : b < n) : ∃ r, f_X3_nextAhead β (cB β b) I = some (Option.map (cB β) r) ∧ NX s n b (s (16 * b + 5)) 8 r := by
  have hh := h
  obtain ⟨h1, h2, h3, h4, h5, h6, h7⟩ := hh
  have hl := (h4 b hb).2.2.2.2.2.2.2.1
  have := loop_go (fun fuel k (st : Option Nat × Int32) => f_X3_nextAhead_L20 β (cB β b) I fuel st.1 st.2 k) 8 (fun k st => ∃ r, st = (Option.map (cB β) r, nI (nxd s b r)) ∧ NX s n b (s (16 * b + 5)) k r) (fun x => ∃ r, x = Option.map (cB β) r ∧ NX s n b (s (16 * b + 5)) 8 r) ?_ FU 0 (none, nI 401) (by omega) ⟨none, rfl, fun k hk => absurd hk (by omega)⟩ (by unfold FU; omega)
  · obtain ⟨x, hx, r, rfl, h5⟩ := this
    refine ⟨r, ?_, h5⟩
    unfold f_X3_nextAhead
    rw [show (0 : Int32) = nI 0 from rfl, show (401 : Int32) = nI 401 from rfl, hx]; rfl
  · rintro k st hk ⟨r, rfl, hN⟩
    rcases Nat.lt_or_ge k 8 with hk8 | hk8
    · right
      refine ⟨hk8, ?_⟩
      have hnle : ¬ ((8 : Int32) ≤ nI k) := by rw [show (8 : Int32) = nI 8 from rfl, pi_le (by omega) (by omega)]; omega
      have hgin : gin (nI k) 8 = true := by rw [pi_gin (by omega)]; exact decide_eq_true hk8
      have htn : β + 1 + 3 + (nI k).toNatClampNeg = cB β k := by rw [pi_tn (by omega)]; rfl
      have hnx : nxd s b r ≤ 401 := by
        cases r with
        | none => exact Nat.le_refl _
        | some j => have := dN_b (fl s j) (fl s b); show dN _ _ ≤ _; omega
      by_cases hw : wy s n b (s (16 * b + 5)) k
      · have hdk := dN_b (fl s k) (fl s b)
        have hdk2 : gD s k b ≤ 400 := hdk.2
        refine ⟨if nxd s b r ≤ gD s k b then (Option.map (cB β) r, nI (nxd s b r)) else (some (cB β k), nI (gD s k b)), ?_, fun fuel => ?_⟩
        · by_cases g1 : nxd s b r ≤ gD s k b
          · rw [if_pos g1]; exact ⟨r, rfl, NX_keep hN hw g1⟩
          · rw [if_neg g1]; exact ⟨some k, rfl, NX_new hN hw (by omega)⟩
        · show f_X3_nextAhead_L20 β (cB β b) I (fuel+1) (Option.map (cB β) r) (nI (nxd s b r)) (nI k) = _
          rw [f_X3_nextAhead_L20, if_neg hnle, hgin, hg_t, htn, hl, x3_way h hb hk8 hw]
          simp only [Option.bind_some, show ¬ ((1 : Int32) = 0) by decide, if_false, h.fb hb hw.1, pi_le (show nxd s b r < 2147483648 by omega) (show gD s k b < 2147483648 by omega)]
          rw [show nI k + 1 = nI (k + 1) from pi_add k 1]
          by_cases g1 : nxd s b r ≤ gD s k b
          · simp only [if_pos g1, Option.bind_some, hlet_e]
          · simp only [if_neg g1, Option.bind_some, hlet_e]
      · refine ⟨(Option.map (cB β) r, nI (nxd s b r)), ⟨r, rfl, NX_skip hN hw⟩, fun fuel => ?_⟩
        show f_X3_nextAhead_L20 β (cB β b) I (fuel+1) (Option.map (cB β) r) (nI (nxd s b r)) (nI k) = _
        rw [f_X3_nextAhead_L20, if_neg hnle, hgin, hg_t, htn, hl, x3_nway h hb hk8 hw]
        simp only [Option.bind_some, if_true, hlet_e]
        rw [show nI k + 1 = nI (k + 1) from pi_add k 1]
    · left
      have : k = 8 := by omega
      subst this
      refine ⟨Option.map (cB β) r, fun fuel => ?_, r, rfl, hN⟩
      show f_X3_nextAhead_L20 β (cB β b) I (fuel+1) (Option.map (cB β) r) (nI (nxd s b r)) (nI 8) = _
      rw [f_X3_nextAhead_L20, if_pos (by rw [show (8 : Int32) = nI 8 from rfl, pi_le (by omega) (by omega)]; omega)]
