theorem x8_birdAt {K : Nat → Nat → Int32} {n b : Nat} (hw : WX (K 130) n) (hb : b < n) : f_X8_birdAt (nI (rk (ky (K 130) n) b n)) K = some (nI b) := by
  have hn := hw.1.2
  have hr := rk_le (ky (K 130) n) b n
  have := loop_go (fun fuel k (st : Int32) => f_X8_birdAt_L4 (nI (rk (ky (K 130) n) b n)) K fuel st k) n (fun k st => b < k → st = nI b) (fun v => v = nI b) ?_ FU 0 (-1) (by omega) (fun h => absurd h (by omega)) (by unfold FU; omega)
  · obtain ⟨v, hv, rfl⟩ := this
    unfold f_X8_birdAt
    rw [show (0 : Int32) = nI 0 from rfl, hv]; rfl
  · rintro k st hk hP
    rcases Nat.lt_or_ge k n with h | h
    · right
      have hrk := rk_le (ky (K 130) n) k n
      refine ⟨h, if rk (ky (K 130) n) k n = rk (ky (K 130) n) b n then nI k else st, fun hbk => ?_, fun fuel => ?_⟩
      · by_cases c : rk (ky (K 130) n) k n = rk (ky (K 130) n) b n
        · rw [if_pos c]; rw [rk_inj h hb (fun c => ky_inj hw h hb c) c]
        · rw [if_neg c]
          rcases lt_succ'.mp hbk with h2 | h2
          · exact hP h2
          · exact absurd (by rw [h2]) c
      · show f_X8_birdAt_L4 (nI (rk (ky (K 130) n) b n)) K (fuel+1) st (nI k) = _
        rw [f_X8_birdAt_L4, t128, hw.1.1, if_neg (by rw [pi_le (by omega) (by omega)]; omega), x8_place hw h]
        simp only [Option.bind_some, hlet_e, pi_eq (show rk (ky (K 130) n) k n < 2147483648 by omega) (show rk (ky (K 130) n) b n < 2147483648 by omega)]
        rw [show nI k + (1 : Int32) = nI (k + 1) from pi_add k 1]
        by_cases c : rk (ky (K 130) n) k n = rk (ky (K 130) n) b n
        · rw [if_pos c, if_pos c]; rfl
        · rw [if_neg c, if_neg c]; rfl
    · left
      have : k = n := by omega
      subst this
      refine ⟨st, fun fuel => ?_, hP hb⟩
      show f_X8_birdAt_L4 _ K (fuel+1) _ _ = _
      rw [f_X8_birdAt_L4, t128, hw.1.1, if_pos (Int32.le_refl _)]
def smF (s : Nat → Int32) : Nat → Int32
  | 0 => 0
  | m + 1 => smF s m + s (16 * m + 7)
theorem x8_all {K : Nat → Nat → Int32} {n : Nat} (h128 : K 130 128 = nI n) (hn : n ≤ 8) : f_X8_all K = some (smF (K 130) n) := by
  have := loop_go (fun fuel k (st : Int32) => f_X8_all_L4 K fuel st k) n (fun k st => st = smF (K 130) k) (fun v => v = smF (K 130) n) ?_ FU 0 0 (by omega) rfl (by unfold FU; omega)
  · obtain ⟨v, hv, rfl⟩ := this
    unfold f_X8_all
    rw [show f_X8_all_L4 K FU 0 0 = some (smF (K 130) n) from hv]; rfl
  · rintro k st hk rfl
    rcases Nat.lt_or_ge k n with h | h
    · right
      refine ⟨h, _, rfl, fun fuel => ?_⟩
      show f_X8_all_L4 K (fuel+1) (smF (K 130) k) (nI k) = _
      rw [f_X8_all_L4, t128, h128, if_neg (by rw [pi_le (by omega) (by omega)]; omega), show (7 : Int32) = nI 7 from rfl, x8_of (by omega) (by omega)]
      simp only [Option.bind_some, hlet_e]
      rw [show nI k + (1 : Int32) = nI (k + 1) from pi_add k 1]; rfl
    · left
      have : k = n := by omega
      subst this
      refine ⟨_, fun fuel => ?_, rfl⟩
      show f_X8_all_L4 K (fuel+1) _ _ = _
      rw [f_X8_all_L4, t128, h128, if_pos (Int32.le_refl _)]
theorem x3_sumFlown {I : Nat → Nat → Int32} {β n : Nat} {s : Nat → Int32} (hB : IsB β) (hn : n ≤ 8) (h3 : I β 3 = nI n) (hR : R I β s n) (hZ : RZ I β) : f_X3_sumFlown β I = some (smF s n) := by
  have := loop_go (fun fuel k (st : Int32) => f_X3_sumFlown_L13 β I fuel st k) 8 (fun k st => st = smF s (min k n)) (fun v => v = smF s n) ?_ FU 0 0 (by omega) (by rw [Nat.zero_min]; rfl) (by unfold FU; omega)
  · obtain ⟨v, hv, rfl⟩ := this
    unfold f_X3_sumFlown
    rw [show f_X3_sumFlown_L13 β I FU 0 0 = some (smF s n) from hv]; rfl
  · rintro k st hk rfl
    rcases Nat.lt_or_ge k 8 with hk8 | hk8
    · right
      have hnle : ¬ ((8 : Int32) ≤ nI k) := by rw [show (8 : Int32) = nI 8 from rfl, pi_le (by omega) (by omega)]; omega
      have hgin : gin (nI k) 8 = true := by rw [pi_gin (by omega)]; exact decide_eq_true hk8
      have htn : β + 1 + 3 + (nI k).toNatClampNeg = cB β k := by rw [pi_tn (by omega)]; rfl
      refine ⟨hk8, _, rfl, fun fuel => ?_⟩
      show f_X3_sumFlown_L13 β I (fuel+1) (smF s (min k n)) (nI k) = _
      rw [f_X3_sumFlown_L13, if_neg hnle, hgin, hg_t, htn]
      unfold f_X3_isThere
      rw [hopt_e2, hk_e (sk_b hB hk8), h3, (hZ k hk8).1]
      by_cases hkn : k < n
      · rw [if_neg (by rw [pi_le (by omega) (by omega)]; omega), Nat.min_eq_left (by omega), Nat.min_eq_left (by omega)]
        simp only [Option.bind_some, hlet_e]
        rw [if_neg (show ¬ ((1 : Int32) = 0) by decide), (hR.2.2.1 k hkn).2.2.2.1, show nI k + (1 : Int32) = nI (k + 1) from pi_add k 1]; rfl
      · rw [if_pos (by rw [pi_le (by omega) (by omega)]; omega), Nat.min_eq_right (by omega), Nat.min_eq_right (by omega)]
        simp only [Option.bind_some, hlet_e, if_true]
        rw [show nI k + (1 : Int32) = nI (k + 1) from pi_add k 1]
    · left
      have : k = 8 := by omega
      subst this
      refine ⟨smF s (min 8 n), fun fuel => ?_, by rw [Nat.min_eq_right (by omega)]⟩
      show f_X3_sumFlown_L13 β I (fuel+1) _ (nI 8) = _
      rw [f_X3_sumFlown_L13, if_pos (by decide)]
section QQ
variable {I : Nat → Nat → Int32} {n : Nat} {J : Nat → Nat → Int64} {O : Nat → Nat → Option Nat}
theorem q_birdByOrder (h : QS I n) (a : Int32) : ∃ O', FO 1 O O' ∧ ((∃ v : Int32, f_W_birdByOrder a I O J = some (0, O', gup J 137 0 v.toInt64) ∧ f_X8_birdByOrder a I = some (v, gup I 129 8 0)) ∨ (∃ c r : Int32, c ≠ 0 ∧ f_W_birdByOrder a I O J = some (c, O', J) ∧ f_X8_birdByOrder a I = some (r, gup I 129 8 c))) := by
  have hw := h.2.2.2.1
  have hn := hw.1.2
  have h3 : I 1 3 = nI n := h.1.1.1.trans hw.1.1
  obtain ⟨O', o1, o2, o3⟩ := x3_putInOrder (O := O) (Or.inl rfl) hw h.1 h.2.1
  refine ⟨O', o3, ?_⟩
  unfold f_W_birdByOrder f_X7_birdByOrder f_X8_birdByOrder
  rw [o1]
  simp only [Option.bind_some]
  rcases h.k a with ⟨q, hq, rfl, e1, e2⟩ | ⟨e1, e2⟩
  · left
    obtain ⟨b, hb, p1, p2⟩ := o2 q hq
    refine ⟨nI b, ?_, ?_⟩
    · rw [x3_inOrder (Or.inl rfl) h3 hn hq hb p1]
      simp only [Option.bind_some, hopt_e2]
      rw [hk_e (sk_b (Or.inl rfl) (by omega)), (h.2.1 b (by omega)).1]
      simp only [Option.bind_some, hsum, hlet_e]
      rw [t0']
    · rw [e2]; simp only [Option.bind_some]
      rw [if_neg (by decide)]; simp only [Option.bind_some]
      rw [ref0]; simp only [Option.bind_some, if_true]
      have := x8_birdAt (K := gup I 129 8 0) (n := n) (b := b) (by rw [g130]; exact hw) hb
      rw [g130, p2] at this
      rw [this]; rfl
  · right
    refine ⟨1, 0, by decide, ?_, by rw [e2]; rfl⟩
    have hno : f_X3_inOrder 1 a I O' = some none := by
      unfold f_X7_known f_X3_at at e1
      unfold f_X3_inOrder
      rw [h3] at e1 ⊢
      by_cases c0 : a < 0
      · rw [if_pos c0]
      · obtain ⟨k, hk9, rfl⟩ := pi_of (x := a) (by rw [Int32.lt_iff_toInt_lt, show (0 : Int32).toInt = 0 from rfl] at c0; omega)
        rw [if_neg c0] at e1 ⊢
        by_cases c1 : k < n
        · exfalso
          rw [if_neg (by rw [pi_le (by omega) (by omega)]; omega), if_pos (by rw [show (8 : Int32) = nI 8 from rfl, pi_lt (by omega) (by omega)]; omega), pi_gin (by omega), decide_eq_true (by omega), hg_t] at e1
          simp only [Option.bind_some] at e1
          rw [pi_tn (by omega), hopt_e2] at e1
          have e1' : hk (cB 1 k) 6 (some (Sum.inr (some (cB 1 k)))) = some (Sum.inl 0 : Sum Nat (Option Nat)) := e1
          rw [hk_e (sk_b (β := 1) (Or.inl rfl) (by omega))] at e1'
          cases e1'
        · rw [if_pos (by rw [pi_le (by omega) (by omega)]; omega)]
    rw [hno]; rfl
end QQ
