/-! What hangs together: first the facts of one bird. -/
theorem rk_sm (κ : Nat → Nat) (b m : Nat) : rk κ b m = sm (fun c => if κ c < κ b then 1 else 0) m := by
  induction m with
  | zero => rfl
  | succ m ih =>
    show rk κ b m + (if κ m < κ b then 1 else 0) = sm (fun c => if κ c < κ b then 1 else 0) m + (if κ m < κ b then 1 else 0)
    rw [ih]
theorem ky_at {s : Nat → Int32} {n b k : Nat} (hw : WX s n) (hk : k < cnt3 s n) (hb : b < n) (e : s (136 + k) = nI b) : s (16 * b + 6) = 3 ∧ ky s n b = k := by
  obtain ⟨b', hb', e', o⟩ := hw.2.2.2.2.2.2.1 k hk
  have hn := hw.1.2
  have : b' = b := by rw [e', pi_eq (by omega) (by omega)] at e; exact e
  subst this
  refine ⟨o, ?_⟩
  rw [ky_o o]
  have hp := pos_o hw hb' o
  exact hw.2.2.2.2.2.2.2.1 _ _ hp.1 hk (hp.2.trans e'.symm)
theorem ky_of {s : Nat → Int32} {n c j : Nat} (hw : WX s n) (hj : j < cnt3 s n) (hc : c < n) (e : ky s n c = j) : s (136 + j) = nI c := by
  have h3 := cnt3_le s n
  have hn := hw.1.2
  by_cases o : s (16 * c + 6) = 3
  · rw [ky_o o] at e
    have hp := pos_o hw hc o
    rw [e] at hp; exact hp.2
  · rw [ky_n o] at e; omega
theorem rk_place {s : Nat → Int32} {n b k : Nat} (hw : WX s n) (hk : k < cnt3 s n) (hb : b < n) (e : s (136 + k) = nI b) : rk (ky s n) b n = k := by
  have hk2 := ky_at hw hk hb e
  have hn := hw.1.2
  have key : ∀ j, j ≤ cnt3 s n → sm (fun c => if ky s n c < j then 1 else 0) n = j := by
    intro j
    induction j with
    | zero => intro _; exact sm_none (fun c _ => if_neg (Nat.not_lt_zero _))
    | succ j ih =>
      intro hj
      obtain ⟨a, ha, ea, _⟩ := hw.2.2.2.2.2.2.1 j (by omega)
      have ka := (ky_at hw (by omega) ha ea).2
      have e1 : sm (fun c => if ky s n c < j + 1 then 1 else 0) n = sm (fun c => (if ky s n c < j then 1 else 0) + (if c = a then 1 else 0)) n := sm_congr (fun c hc => by
        show (if ky s n c < j + 1 then 1 else 0) = (if ky s n c < j then 1 else 0) + (if c = a then 1 else 0)
        by_cases ca : c = a
        · rw [if_pos ca, ca, ka, if_pos (by omega), if_neg (by omega)]
        · rw [if_neg ca]
          have : ky s n c ≠ j := fun e => by
            have e1 := ky_of hw (by omega) hc e
            rw [ea, pi_eq (by omega) (by omega)] at e1
            exact ca e1.symm
          by_cases cl : ky s n c < j
          · rw [if_pos cl, if_pos (by omega)]
          · rw [if_neg cl, if_neg (by omega)])
      rw [e1, sm_add, ih (by omega), sm_one ha]
  rw [rk_sm, hk2.2]; exact key k (by omega)
theorem sC_smF {I : Nat → Nat → Int32} {s : Nat → Int32} {n : Nat} (h : ∀ b, b < n → I (cB 1 b) 4 = s (16 * b + 7)) : ∀ m, m ≤ n → sC I 1 m = smF s m := by
  intro m
  induction m with
  | zero => intro _; rfl
  | succ m ih =>
    intro hm
    show sC I 1 m + I (cB 1 m) 4 = smF s m + s (16 * m + 7)
    rw [ih (by omega), h m (by omega)]
theorem nlt0 {v : Nat} (h : v < 2147483648) : ¬ (nI v < (0 : Int32)) := by
  rw [show (0 : Int32) = nI 0 from rfl, pi_lt h (by omega)]; omega
theorem nltk {v k : Nat} (h : v ≤ k) (hk : k < 2147483648) : ¬ (nI k < nI v) := by
  rw [pi_lt hk (by omega)]; omega
theorem nlek {v k : Nat} (h : v < k) (hk : k < 2147483648) : ¬ (nI k ≤ nI v) := by
  rw [pi_le hk (by omega)]; omega
theorem neqn {v k : Nat} (h : v ≠ k) (hv : v < 2147483648) (hk : k < 2147483648) : ¬ (nI v = nI k) := by
  rw [pi_eq hv hk]; exact h
theorem m4_n {v : Nat} (hv : v < 2147483648) : ¬ (nI v = (-4 : Int32)) := by
  intro e
  have := congrArg Int32.toInt e
  rw [pi_int hv, show (-4 : Int32).toInt = -4 from rfl] at this; omega
theorem m1_n {v : Nat} (hv : v < 2147483648) : ¬ (nI v = (-1 : Int32)) := by
  intro e
  have := congrArg Int32.toInt e
  rw [pi_int hv, show (-1 : Int32).toInt = -1 from rfl] at this; omega
section HG
variable {I : Nat → Nat → Int32} {n b B : Nat} {s : Nat → Int32}
theorem hc_n (h : RR I 1 s n) (hc : zHC I 1 B) : zHG I 1 B ∧ zHB I 1 n := by
  obtain ⟨n', hn', e3, hG, hH⟩ := hc
  have hn := rr_n h
  have : n' = n := by rw [rr_3 h, pi_eq (by omega) (by omega)] at e3; exact e3.symm
  subst this; exact ⟨hG, hH⟩
theorem bird_v (h : RR I 1 s n) (hc : zHC I 1 B) (hB : B < 1000000000) (hb : b < n) : ∃ x v5 v6 v7 v8 st pc : Nat, (I (cB 1 b) 4 = nI x ∧ x ≤ 3600) ∧ (I (cB 1 b) 5 = nI v5 ∧ v5 ≤ 42) ∧ (I (cB 1 b) 6 = nI v6 ∧ v6 ≤ 999) ∧ (I (cB 1 b) 7 = nI v7 ∧ v7 ≤ 100) ∧ (I (cB 1 b) 8 = nI v8 ∧ v8 ≤ 1) ∧ (I (cB 1 b) 9 = nI st ∧ st ≤ 3) ∧ (I (cB 1 b) 1 = nI pc ∧ 10 ≤ pc ∧ pc ≤ 40) ∧ (st = 3 → 400 ≤ x ∧ ∃ t, I (cB 1 b) 14 = nI t ∧ 1 ≤ t ∧ t ≤ B) := by
  obtain ⟨hG, hH⟩ := hc_n h hc
  have hw := rr_w h
  have hn := rr_n h
  have rb := rr_b h hb
  obtain ⟨⟨pc, e1, p1, p2⟩, _, _, ⟨v6, e6, _, l6⟩, ⟨v7, e7, _, l7⟩, ⟨v8, e8, _, l8⟩, ⟨st, e9, _, l9⟩, ⟨x, e4, _, l4⟩, _⟩ := hw.2.1 b hb
  obtain ⟨⟨v5, e5, _, l5⟩, h3⟩ := hH.2.1 b hb
  have E4 : I (cB 1 b) 4 = nI x := rb.2.2.2.1.trans e4
  have E9 : I (cB 1 b) 9 = nI st := rb.2.2.2.2.2.2.2.2.1.trans e9
  refine ⟨x, v5, v6, v7, v8, st, pc, ⟨E4, l4⟩, ⟨e5, l5⟩, ⟨rb.2.2.2.2.2.1.trans e6, l6⟩, ⟨rb.2.2.2.2.2.2.1.trans e7, l7⟩, ⟨rb.2.2.2.2.2.2.2.1.trans e8, l8⟩, ⟨E9, l9⟩, ⟨rb.1.trans e1, p1, p2⟩, fun e3 => ?_⟩
  obtain ⟨⟨t, et, t1, t2⟩, g4, _⟩ := h3 (by rw [E9, e3]; rfl)
  obtain ⟨u, eu, u1, u2⟩ := hG.2.1
  rw [E4, tn_nI (by omega)] at g4
  rw [eu, tn_nI (by omega)] at t2
  exact ⟨g4, t, et, t1, by omega⟩
theorem nq8 : ∀ x, x < 8 → ¬ (nI x = (-1 : Int32)) := by decide
theorem part_v (h : RR I 1 s n) (hb : b < n) : ∃ r, f_L_partnerOf (nI b) I = some r ∧ ((r = (-4 : Int32) ∧ pA (pP s) b = 0) ∨ ∃ q, q < n ∧ q ≠ b ∧ r = nI q ∧ f_L_partnerOf (nI q) I = some (nI b) ∧ pA (pP s) b = 1) := by
  have hw := rr_w h
  have hn := rr_n h
  obtain ⟨_, _, _, _, _, _, _, _, _, ⟨v, ev, _, lv⟩, _⟩ := hw.2.1 b hb
  have e12 : I (cB 1 b) 12 = s (16 * b + 10) - 1 := (rr_b h hb).2.2.2.2.2.2.2.2.2.2.2.1
  have ep : pP s b = v := by unfold pP; rw [ev, tn_nI (by omega)]
  rw [e_partnerOf h hb]
  refine ⟨_, rfl, ?_⟩
  rcases Nat.eq_zero_or_pos v with z | z
  · left; subst z
    rw [e12, ev, if_pos (by decide)]
    exact ⟨rfl, by unfold pA; rw [ep]; rfl⟩
  · right
    obtain ⟨q, rfl⟩ : ∃ q, v = q + 1 := ⟨v - 1, by omega⟩
    have eq : I (cB 1 b) 12 = nI q := by rw [e12, ev]; exact pi_sub (a := q + 1) (b := 1) (by omega)
    obtain ⟨q1, q2⟩ := hw.2.2.1 b hb q ev (by omega)
    have hq : q < n := by omega
    refine ⟨q, hq, q1, ?_, ?_, ?_⟩
    · rw [eq, if_neg (nq8 q (by omega))]
    · have e12' : I (cB 1 q) 12 = nI b := by
        rw [(rr_b h hq).2.2.2.2.2.2.2.2.2.2.2.1, q2]; exact pi_sub (a := b + 1) (b := 1) (by omega)
      rw [e_partnerOf h hq, e12', if_neg (nq8 b (by omega))]
    · unfold pA; rw [ep, if_neg (by omega)]
end HG
theorem nxg_b {s : Nat → Int32} {n b : Nat} {lane : Int32} {r : Option Nat} (hN : NX s n b lane 8 r) : nxg s b r ≤ 400 := by
  cases r with
  | none => exact Nat.zero_le _
  | some j => exact (dN_b (fl s j) (fl s b)).2
theorem drf_v {s : Nat → Int32} {b : Nat} {r : Option Nat} : (if nI (nxg s b r) ≤ 0 then some (0 : Int32) else if (9 : Int32) ≤ nI (nxg s b r) then some (0 : Int32) else some (1 : Int32)) = some (if drf s b r = 0 then (0 : Int32) else 1) := by
  cases r with
  | none =>
    show (if nI 0 ≤ 0 then some (0 : Int32) else if (9 : Int32) ≤ nI 0 then some (0 : Int32) else some (1 : Int32)) = some (if (0 : Nat) = 0 then (0 : Int32) else 1)
    rw [if_pos (by decide), if_pos rfl]
  | some j =>
    have g1 : 1 ≤ gD s j b := (dN_b (fl s j) (fl s b)).1
    have g2 : gD s j b ≤ 400 := (dN_b (fl s j) (fl s b)).2
    have e8 : drf s b (some j) = (if gD s j b ≤ 8 then (if nI j = s (16 * b + 10) - 1 then 2 else 1) else 0) := rfl
    have e9 : nxg s b (some j) = gD s j b := rfl
    rw [e9, e8]
    rw [if_neg (by rw [show (0 : Int32) = nI 0 from rfl, pi_le (by omega) (by omega)]; omega)]
    by_cases c : gD s j b ≤ 8
    · rw [if_neg (by rw [show (9 : Int32) = nI 9 from rfl, pi_le (by omega) (by omega)]; omega), if_pos c]
      by_cases d : nI j = s (16 * b + 10) - 1
      · rw [if_pos d]; rfl
      · rw [if_neg d]; rfl
    · rw [if_pos (by rw [show (9 : Int32) = nI 9 from rfl, pi_le (by omega) (by omega)]; omega), if_neg c]; rfl
theorem wp_v {x : Nat} (hx : x ≤ 3600) : (if (70 : Int32) ≤ nI x - nI x / (100 : Int32) * (100 : Int32) then some ((4 : Int32) + (nI x - nI x / (400 : Int32) * (400 : Int32)) / (100 : Int32)) else some ((nI x - nI x / (400 : Int32) * (400 : Int32)) / (100 : Int32))) = some (nI (pN x)) := by
  rw [show nI x - nI x / (100 : Int32) * (100 : Int32) = nI (x % 100) from mod_e (m := 100) (by omega) (by omega), show nI x - nI x / (400 : Int32) * (400 : Int32) = nI (x % 400) from mod_e (m := 400) (by omega) (by omega), show nI (x % 400) / (100 : Int32) = nI (x % 400 / 100) from pi_div (b := 100) (by omega) (by omega)]
  unfold pN
  by_cases c : 70 ≤ x % 100
  · rw [if_pos c, if_pos (by rw [show (70 : Int32) = nI 70 from rfl, pi_le (by omega) (by omega)]; exact c), show (4 : Int32) + nI (x % 400 / 100) = nI (4 + x % 400 / 100) from pi_add 4 _, Nat.add_comm]
  · rw [if_neg c, if_neg (by rw [show (70 : Int32) = nI 70 from rfl, pi_le (by omega) (by omega)]; exact c)]
