theorem its {c : Prop} [Decidable c] {a b : Int64} : (if c then some a else some b) = some (if c then a else b) := by split <;> rfl
theorem order_loop {I K : Nat → Nat → Int32} {O : Nat → Nat → Option Nat} {n N : Nat} {J J' : Nat → Nat → Int64} (hI : RR I 1 (K 130) n) (ho : Ord (ky (K 130) n) 1 n O) : ∀ d k fuel (x : Int64), n = k + d → d < fuel →
    ∃ y, f_X7_hashOrder_L9 N I O fuel (nI k) (gup J N 0 x) = some (gup J N 0 y) ∧ f_X8_digest_L52 K fuel (nI k) (gup J' 129 16 x) = some (gup J' 129 16 y) := by
  have hw := hI.2.2.2.1
  have hn := hw.1.2
  have h3 : I 1 3 = nI n := hI.1.1.1.trans hw.1.1
  intro d
  induction d with
  | zero =>
    intro k fuel x hk hf
    obtain ⟨f, rfl⟩ : ∃ f, fuel = f + 1 := ⟨fuel - 1, by omega⟩
    have hkn : n = k := hk
    subst hkn
    refine ⟨x, ?_, ?_⟩
    · rw [f_X7_hashOrder_L9, h3, if_pos (Int32.le_refl _)]
    · rw [f_X8_digest_L52, t128, hw.1.1, if_pos (Int32.le_refl _)]
  | succ d ih =>
    intro k fuel x hk hf
    obtain ⟨f, rfl⟩ : ∃ f, fuel = f + 1 := ⟨fuel - 1, by omega⟩
    have hnl : ¬ (nI n ≤ nI k) := by rw [pi_le (by omega) (by omega)]; omega
    obtain ⟨b, hb, p1, p2⟩ := ho k (by omega)
    have hbird := x8_birdAt hw hb
    rw [p2] at hbird
    obtain ⟨y, c1, c2⟩ := ih (k + 1) f (mx x (nI b).toInt64) (by omega) (by omega)
    refine ⟨y, ?_, ?_⟩
    · rw [f_X7_hashOrder_L9, h3, if_neg hnl, x3_inOrder isB1 h3 hn (by omega) hb p1]
      simp only [obs, hopt_e2]
      rw [hk_e (sk_b isB1 (by omega)), (hI.2.1 b (by omega)).1]
      simp only [obs, add_c, hlet_e]
      rw [show nI k + (1 : Int32) = nI (k + 1) from pi_add k 1]; exact c1
    · rw [f_X8_digest_L52, t128, hw.1.1, if_neg hnl, hbird]
      simp only [obs, add_r, hlet_e]
      rw [show nI k + (1 : Int32) = nI (k + 1) from pi_add k 1]; exact c2
theorem lim_loop {I K : Nat → Nat → Int32} {n N : Nat} {J J' : Nat → Nat → Int64} (hI : RR I 1 (K 130) n) : ∀ d k fuel (x : Int64), 4 = k + d → d < fuel →
    ∃ y, f_X7_digest_L95 N I fuel (nI k) (gup J N 0 x) = some (gup J N 0 y) ∧ f_X8_digest_L82 K fuel (nI k) (gup J' 129 16 x) = some (gup J' 129 16 y) := by
  intro d
  induction d with
  | zero =>
    intro k fuel x hk hf
    obtain ⟨f, rfl⟩ : ∃ f, fuel = f + 1 := ⟨fuel - 1, by omega⟩
    have hkn : k = 4 := by omega
    subst hkn
    refine ⟨x, ?_, ?_⟩
    · rw [f_X7_digest_L95, if_pos (by decide)]
    · rw [f_X8_digest_L82, if_pos (by decide)]
  | succ d ih =>
    intro k fuel x hk hf
    obtain ⟨f, rfl⟩ : ∃ f, fuel = f + 1 := ⟨fuel - 1, by omega⟩
    have hnl : ¬ ((4 : Int32) ≤ nI k) := by rw [show (4 : Int32) = nI 4 from rfl, pi_le (by omega) (by omega)]; omega
    obtain ⟨y, c1, c2⟩ := ih (k + 1) f (mx x (K 130 (129 + k)).toInt64) (by omega) (by omega)
    refine ⟨y, ?_, ?_⟩
    · rw [f_X7_digest_L95, if_neg hnl, x3_limitAt (by omega), hI.1.2.1 k (by omega)]
      simp only [obs, add_c, hlet_e]
      rw [show nI k + (1 : Int32) = nI (k + 1) from pi_add k 1]; exact c1
    · rw [f_X8_digest_L82, if_neg hnl, show (129 : Int32) = nI 129 from rfl, pi_add, pi_gin (by omega), decide_eq_true (by omega), hg_t, pi_tn (by omega), add_r]
      simp only [obs, hlet_e]
      rw [show nI k + (1 : Int32) = nI (k + 1) from pi_add k 1]; exact c2
theorem arr_loop {I K : Nat → Nat → Int32} {n N : Nat} {J J' : Nat → Nat → Int64} (hI : RR I 1 (K 130) n) : ∀ d k fuel (x : Int64), cnt3 (K 130) n = k + d → d < fuel →
    ∃ y, f_X7_hashAccounts_L45 N I fuel (nI k) (gup J N 0 x) = some (gup J N 0 y) ∧ f_X8_digest_L204 K fuel (nI k) (gup J' 129 16 x) = some (gup J' 129 16 y) := by
  have hw := hI.2.2.2.1
  have hn := hw.1.2
  have hc := cnt3_le (K 130) n
  have i7 : I 1 7 = nI (cnt3 (K 130) n) := hI.1.1.2.2.2.1.trans hw.a.1
  intro d
  induction d with
  | zero =>
    intro k fuel x hk hf
    obtain ⟨f, rfl⟩ : ∃ f, fuel = f + 1 := ⟨fuel - 1, by omega⟩
    have hkn : k = cnt3 (K 130) n := by omega
    refine ⟨x, ?_, ?_⟩
    · rw [f_X7_hashAccounts_L45, i7, if_pos (by rw [hkn]; exact Int32.le_refl _)]
    · rw [f_X8_digest_L204, t135, hw.a.1, if_pos (by rw [hkn]; exact Int32.le_refl _)]
  | succ d ih =>
    intro k fuel x hk hf
    obtain ⟨f, rfl⟩ : ∃ f, fuel = f + 1 := ⟨fuel - 1, by omega⟩
    have hnl : ¬ (nI (cnt3 (K 130) n) ≤ nI k) := by rw [pi_le (by omega) (by omega)]; omega
    rcases x3_arrivedAs (a := nI k) isB1 hw hI.1 hI.2.1 with ⟨k', b, hk', ek, hb, eb, ea⟩ | ⟨hno, _⟩
    · rw [pi_eq (by omega) (by omega)] at ek
      subst ek
      obtain ⟨y, c1, c2⟩ := ih (k + 1) f (mx x (nI b).toInt64) (by omega) (by omega)
      refine ⟨y, ?_, ?_⟩
      · rw [f_X7_hashAccounts_L45, i7, if_neg hnl, ea]
        simp only [obs, hopt_e2]
        rw [hk_e (sk_b isB1 (by omega)), (hI.2.1 b (by omega)).1]
        simp only [obs, add_c, hlet_e]
        rw [show nI k + (1 : Int32) = nI (k + 1) from pi_add k 1]; exact c1
      · rw [f_X8_digest_L204, t135, hw.a.1, if_neg hnl, show (136 : Int32) = nI 136 from rfl, pi_add, pi_gin (by omega), decide_eq_true (by omega), hg_t, pi_tn (by omega), eb, add_r]
        simp only [obs, hlet_e]
        rw [show nI k + (1 : Int32) = nI (k + 1) from pi_add k 1]; exact c2
    · exact absurd rfl (hno k (by omega))
def cnl (s : Nat → Int32) : Nat → Nat → Int64 → Int64
  | 0, _, x => x
  | d + 1, k, x => cnl s d (k + 1) (mx x (s k).toInt64)
theorem cnt_loop {K : Nat → Nat → Int32} {J' : Nat → Nat → Int64} : ∀ d k fuel (x : Int64), 150 = k + d → d < fuel →
    f_X8_digest_L250 K fuel (nI k) (gup J' 129 16 x) = some (gup J' 129 16 (cnl (K 130) d k x)) := by
  intro d
  induction d with
  | zero =>
    intro k fuel x hk hf
    obtain ⟨f, rfl⟩ : ∃ f, fuel = f + 1 := ⟨fuel - 1, by omega⟩
    rw [f_X8_digest_L250, if_pos (by rw [show (149 : Int32) = nI 149 from rfl, pi_lt (by omega) (by omega)]; omega)]; rfl
  | succ d ih =>
    intro k fuel x hk hf
    obtain ⟨f, rfl⟩ : ∃ f, fuel = f + 1 := ⟨fuel - 1, by omega⟩
    rw [f_X8_digest_L250, if_neg (by rw [show (149 : Int32) = nI 149 from rfl, pi_lt (by omega) (by omega)]; omega), pi_gin (by omega), decide_eq_true (by omega), hg_t, pi_tn (by omega), add_r]
    simp only [obs, hlet_e]
    rw [show nI k + (1 : Int32) = nI (k + 1) from pi_add k 1]; exact ih (k + 1) f _ (by omega) (by omega)
theorem two_both {I K : Nat → Nat → Int32} {O : Nat → Nat → Option Nat} {n : Nat} (hI : RR I 1 (K 130) n) (hZ : RZ I 13) :
    ∃ I1 O1 I2 O2 K1 K2, ∃ s w u v : Int32, f_X7_foretellSeconds I O = some (s, I1, O1) ∧ f_X7_foretellWinner I1 O1 = some (w, I2, O2) ∧ f_X8_first K = some (u, K1) ∧ f_X8_nextIn K1 = some (v, K2) ∧ w + (1 : Int32) = u ∧
      (if s = (-1 : Int32) then some (0 : Int64) else some ((s).toInt64)) = some v.toInt64 ∧ Fr I K O I2 K2 O2 := by
  obtain ⟨I0, O0, K1, z0, e1, e2, e3, e4, e5, e6, hc⟩ := winner_both (O := O) hI hZ
  have hu : ∃ u, f_X8_first K = some (u, K1) := by
    rcases hc with ⟨_, w2⟩ | ⟨b, _, _, w2⟩
    · exact ⟨_, w2⟩
    · exact ⟨_, w2⟩
  obtain ⟨u, hu⟩ := hu
  have r1 : RR I 1 (K1 130) n := RR_s (s := K 130) e6 hI
  obtain ⟨I1, O1, K2, z1, g1, g2, g3, g4, g5, g6, hs⟩ := nextIn_both (O := O) r1 hZ
  have rI1 : RR I1 1 (K 130) n := RR_I (fun a q1 q2 => g1 a (by omega)) hI
  obtain ⟨I2, O2, K1', z2, k1, k2, k3, k4, k5, k6, hc2⟩ := winner_both (O := O1) (K := K) rI1 z1
  have hwin : ∃ w, f_X7_foretellWinner I1 O1 = some (w, I2, O2) ∧ w + (1 : Int32) = u := by
    rcases hc2 with ⟨w1, w2⟩ | ⟨b, hb, w1, w2⟩
    · rw [hu] at w2
      simp only [Option.some.injEq, Prod.mk.injEq] at w2
      exact ⟨-1, w1, by rw [w2.1]; decide⟩
    · rw [hu] at w2
      simp only [Option.some.injEq, Prod.mk.injEq] at w2
      exact ⟨nI b, w1, by rw [w2.1]; exact pi_add b 1⟩
  have hsec : ∃ s v : Int32, f_X7_foretellSeconds I O = some (s, I1, O1) ∧ f_X8_nextIn K1 = some (v, K2) ∧ (if s = (-1 : Int32) then some (0 : Int64) else some ((s).toInt64)) = some v.toInt64 := by
    rcases hs with ⟨w1, w2⟩ | ⟨t, B, t1, t2, w1, w2, _⟩
    · exact ⟨-1, 0, w1, w2, by rw [if_pos rfl]; rfl⟩
    · have c1 : ¬ (nI t = (-1 : Int32)) := by
        intro e
        have := congrArg Int32.toInt e
        rw [pi_int (by omega), show (-1 : Int32).toInt = -1 from rfl] at this; omega
      exact ⟨nI t, nI t, w1, w2, if_neg c1⟩
  obtain ⟨w, a1, a2⟩ := hwin
  obtain ⟨s, v, b1, b2, b3⟩ := hsec
  exact ⟨I1, O1, I2, O2, K1, K2, s, w, u, v, b1, a1, hu, b2, a2, b3, z2, fun a ha => (k1 a ha).trans (g1 a ha), (k2 26 (by omega)).trans (g2 26 (by omega)), fun a h1 h2 => (g3 a h1 h2).trans (e3 a h1 h2), fun a ha => (g4 a ha).trans (e4 a ha), fun a ha => (g5 a ha).trans (e5 a ha), fun a ha => (g6 a ha).trans (e6 a ha)⟩
theorem smF_b {s : Nat → Int32} {n : Nat} (h : FL s n) : ∀ m, m ≤ n → ∃ S, smF s m = nI S ∧ S ≤ 3600 * m := by
  intro m
  induction m with
  | zero => intro _; exact ⟨0, rfl, by omega⟩
  | succ m ih =>
    intro hm
    obtain ⟨S, e, hS⟩ := ih (by omega)
    have hf := h.2.2 m (by omega)
    refine ⟨S + fl s m, ?_, by omega⟩
    show smF s m + s (16 * m + 7) = _
    rw [e, hf.1, pi_add]
theorem mean_both {I K : Nat → Nat → Int32} {n : Nat} (hI : RR I 1 (K 130) n) : ∃ m v, f_X7_meanFlown I = some m ∧ f_X8_mean K = some m ∧ f_X7_bitsOf m = some v ∧ f_Jxe99ae_doubleToLongBits_ccdee m = some v ∧ Op.cmpValue (FP.dcmp m m) .l = 0 := by
  have hw := hI.2.2.2.1
  have hn := hw.1.2
  have h3 : I 1 3 = nI n := hI.1.1.1.trans hw.1.1
  have fin : ∀ m : UInt64, FP.Core.val64 m ≠ .nan → Op.cmpValue (FP.dcmp m m) .l = 0 ∧ f_Jxe99ae_doubleToLongBits_ccdee m = some m.toInt64 := by
    intro m hm
    have c0 : Op.cmpValue (FP.dcmp m m) .l = 0 := by
      rw [show FP.dcmp m m = some .eq from FP.Core.dcmp_self hm]; rfl
    refine ⟨c0, ?_⟩
    unfold f_Jxe99ae_doubleToLongBits_ccdee f_Jxe99ae_isNaN_b9ae7
    rw [c0, if_pos rfl]; rfl
  rcases Nat.eq_zero_or_pos n with h0 | h0
  · subst h0
    obtain ⟨f1, f2⟩ := fin FP.dconst0 (fp_nn fp_zero)
    refine ⟨FP.dconst0, 0, ?_, ?_, ?_, f2, f1⟩
    · unfold f_X7_meanFlown
      rw [h3, if_pos (by decide)]
    · unfold f_X8_mean
      rw [t128, hw.1.1]; rfl
    · unfold f_X7_bitsOf
      rw [show Op.cmpValue (FP.dcmp FP.dconst0 FP.dconst0) .g = 0 by decide +kernel, if_neg (by decide)]
  · obtain ⟨S, e, hS⟩ := smF_b hw.fl n (Nat.le_refl n)
    obtain ⟨g1, g2, g3⟩ := mean_e (S := S) (n := n) (by omega) (by omega) (by omega)
    obtain ⟨f1, f2⟩ := fin _ g2
    refine ⟨_, _, ?_, ?_, g3, f2, f1⟩
    · unfold f_X7_meanFlown
      rw [h3, if_neg (by rw [show (0 : Int32) = nI 0 from rfl, pi_le (by omega) (by omega)]; omega), x3_sumFlown isB1 hn h3 hI.1 hI.2.1, e]
      simp only [obs]
      rw [g1, hg_t]
    · unfold f_X8_mean
      rw [t128, hw.1.1, if_neg (by rw [show (0 : Int32) = nI 0 from rfl, pi_eq (by omega) (by omega)]; omega), x8_all hw.1.1 hn, e]
      simp only [obs]
      rw [g1, hg_t]
theorem acc_both {I K : Nat → Nat → Int32} {n N : Nat} {p : Int32} {J J' : Nat → Nat → Int64} {x : Int64} (hI : RR I 1 (K 130) n) (hp : I 25 1 = p) :
    ∃ y1 m v, f_X8_digest_L204 K FU (0 : Int32) (gup J' 129 16 (mx (mx (mx x (K 130 150).toInt64) (K 130 134).toInt64) (K 130 135).toInt64)) = some (gup J' 129 16 y1) ∧ f_X8_mean K = some m ∧ f_Jxe99ae_doubleToLongBits_ccdee m = some v ∧
      f_X7_hashAccounts N I (gup J N 0 x) = some (gup J N 0 (mx (mx (cnl (K 130) 6 144 (mx y1 (smF (K 130) n).toInt64)) p.toInt64) v)) := by
  have hw := hI.2.2.2.1
  have hn := hw.1.2
  have h3 : I 1 3 = nI n := hI.1.1.1.trans hw.1.1
  obtain ⟨m, v, m1, m2, m3, m4, _⟩ := mean_both hI
  have hc := cnt3_le (K 130) n
  obtain ⟨y1, a1, a2⟩ := arr_loop (N := N) (J := J) (J' := J') hI (cnt3 (K 130) n) 0 FU (mx (mx (mx x (K 130 150).toInt64) (K 130 134).toInt64) (K 130 135).toInt64) (by omega) (by unfold FU; omega)
  refine ⟨y1, m, v, a2, m2, m4, ?_⟩
  have hrc : (if I 1 5 = 0 then some (0 : Int64) else some (1 : Int64)) = some (K 130 150).toInt64 := by
    rw [hI.1.1.2.2.1]
    rcases bd1_c hw.2.2.2.2.1.2 with h | h
    · rw [h]; rfl
    · rw [h]; rfl
  obtain ⟨b1, b2, b3, b4, b5, b6, b7, b8, b9, b10⟩ := hI.1.1
  unfold f_X7_hashAccounts
  rw [hrc]
  simp only [obs, add_c]
  rw [hI.2.2.1, b4]
  rw [show f_X7_hashAccounts_L45 N I FU (0 : Int32) _ = _ from a1]
  simp only [obs]
  rw [x3_sumFlown isB1 hn h3 hI.1 hI.2.1]
  simp only [obs, add_c, m1, m3]
  rw [b5, b6, b7, b8, b9, b10, hp]; rfl
def sll (I : Nat → Nat → Int32) : Nat → Nat → Int64 → Int64
  | 0, _, x => x
  | d + 1, k, x => sll I d (k + 1) (mx x (if I 101 k = 0 then 0 else 1))
theorem kept_e {I : Nat → Nat → Int32} {k : Nat} (hk : k < 2) : f_X5_kept (nI k) I = if I 101 k = 0 then some none else some (some (102 + 12 * k)) := by
  unfold f_X5_kept
  have c2 : ¬ ((2 : Int32) ≤ nI k) := by rw [show (2 : Int32) = nI 2 from rfl, pi_le (by omega) (by omega)]; omega
  rw [if_neg (by rw [show (0 : Int32) = nI 0 from rfl, pi_lt (by omega) (by omega)]; omega), if_neg c2, if_neg c2, pi_gin (by omega), decide_eq_true (by omega), hg_t, hg_t, pi_tn (by omega)]
theorem sl_loop {I : Nat → Nat → Int32} {N : Nat} {J : Nat → Nat → Int64} : ∀ d k fuel (x : Int64), 2 = k + d → d < fuel →
    f_X7_digest_L195 N I fuel (nI k) (gup J N 0 x) = some (gup J N 0 (sll I d k x)) := by
  intro d
  induction d with
  | zero =>
    intro k fuel x hk hf
    obtain ⟨f, rfl⟩ : ∃ f, fuel = f + 1 := ⟨fuel - 1, by omega⟩
    rw [f_X7_digest_L195, if_pos (by rw [show (2 : Int32) = nI 2 from rfl, pi_le (by omega) (by omega)]; omega)]; rfl
  | succ d ih =>
    intro k fuel x hk hf
    obtain ⟨f, rfl⟩ : ∃ f, fuel = f + 1 := ⟨fuel - 1, by omega⟩
    have sk : SHK (102 + 12 * k) = 3 := (by decide : ∀ k, k < 2 → SHK (102 + 12 * k) = 3) k (by omega)
    rw [f_X7_digest_L195, if_neg (by rw [show (2 : Int32) = nI 2 from rfl, pi_le (by omega) (by omega)]; omega), kept_e (by omega)]
    have := ih (k + 1) f (mx x (if I 101 k = 0 then 0 else 1)) (by omega) (by omega)
    show _ = some (gup J N 0 (sll I d (k + 1) (mx x (if I 101 k = 0 then 0 else 1))))
    rw [← this]
    by_cases c : I 101 k = 0
    · rw [if_pos c, if_pos c]
      simp only [obs, hopt_e1, add_c, hlet_e]
      rw [show nI k + (1 : Int32) = nI (k + 1) from pi_add k 1]
    · rw [if_neg c, if_neg c]
      simp only [obs, hopt_e2]
      rw [hk_e sk]
      simp only [obs, add_c, hlet_e]
      rw [show nI k + (1 : Int32) = nI (k + 1) from pi_add k 1]
theorem tx_loop {I K : Nat → Nat → Int32} {len N : Nat} {J J' : Nat → Nat → Int64} (h : TX I K len) : ∀ d k fuel (x : Int64), len = k + d → d < fuel →
    ∃ y, f_X7_digest_L243 N I fuel (nI k) (gup J N 0 x) = some (gup J N 0 y) ∧ f_X8_digest_L341 K fuel (nI k) (gup J' 129 16 x) = some (gup J' 129 16 y) := by
  obtain ⟨h1, h2, h3, h4⟩ := h
  intro d
  induction d with
  | zero =>
    intro k fuel x hk hf
    obtain ⟨f, rfl⟩ : ∃ f, fuel = f + 1 := ⟨fuel - 1, by omega⟩
    have hkn : k = len := by omega
    subst hkn
    refine ⟨x, ?_, ?_⟩
    · rw [f_X7_digest_L243, h1, if_pos (Int32.le_refl _)]
    · rw [f_X8_digest_L341, h2, if_pos (Int32.le_refl _)]
  | succ d ih =>
    intro k fuel x hk hf
    obtain ⟨f, rfl⟩ : ∃ f, fuel = f + 1 := ⟨fuel - 1, by omega⟩
    have hnl : ¬ (nI len ≤ nI k) := by rw [pi_le (by omega) (by omega)]; omega
    obtain ⟨c, c1, c2, c3, c4⟩ := h4 k (by omega)
    obtain ⟨y, e1, e2⟩ := ih (k + 1) f (mx x (nI c).toInt64) (by omega) (by omega)
    have at_ : f_X2_at (nI k) I = some (nI c) := by
      unfold f_X2_at
      rw [if_neg (by rw [show (0 : Int32) = nI 0 from rfl, pi_lt (by omega) (by omega)]; omega), if_neg (by rw [show (60 : Int32) = nI 60 from rfl, pi_le (by omega) (by omega)]; omega), pi_gin (by omega), decide_eq_true (by omega), hg_t, pi_tn (by omega), c3, (ch_e c (by omega)).2, hg_t]
    refine ⟨y, ?_, ?_⟩
    · rw [f_X7_digest_L243, h1, if_neg hnl, at_]
      simp only [obs, add_c, hlet_e]
      rw [show nI k + (1 : Int32) = nI (k + 1) from pi_add k 1]; exact e1
    · rw [f_X8_digest_L341, h2, if_neg hnl, pi_gin (by omega), decide_eq_true (by omega), hg_t, pi_tn (by omega), c4, add_r]
      simp only [obs, hlet_e]
      rw [show nI k + (1 : Int32) = nI (k + 1) from pi_add k 1]; exact e2
theorem bst_both {I K : Nat → Nat → Int32} {O : Nat → Nat → Option Nat} {n : Nat} (hI : RR I 1 (K 130) n) (hZ : RZ I 13) :
    ∃ p I' O' K', Fr I K O I' K' O' ∧
      ((f_X3_at 1 (0 : Int32) I = some none ∧ K 130 128 ≤ 0 ∧ p = (0 : Int64) ∧ I' = I ∧ O' = O ∧ K' = K) ∨
       (f_X3_at 1 (0 : Int32) I = some (some (cB 1 0)) ∧ ¬ (K 130 128 ≤ 0) ∧ I 1 5 = 0 ∧ ¬ (K 130 150 = (1 : Int32)) ∧ p = (0 : Int64) ∧ I' = I ∧ O' = O ∧ K' = K) ∨
       (f_X3_at 1 (0 : Int32) I = some (some (cB 1 0)) ∧ ¬ (K 130 128 ≤ 0) ∧ ¬ (I 1 5 = 0) ∧ K 130 150 = (1 : Int32) ∧ ∃ r : Int32, f_X7_foretellBestPace (cB 1 0) I O = some (r, I', O') ∧ f_X8_best (0 : Int32) K = some (r, K') ∧ p = r.toInt64)) := by
  have hw := hI.2.2.2.1
  have hn := hw.1.2
  have h3 : I 1 3 = nI n := hI.1.1.1.trans hw.1.1
  have h5 : I 1 5 = K 130 150 := hI.1.1.2.2.1
  rcases Nat.eq_zero_or_pos n with h0 | h0
  · subst h0
    refine ⟨0, I, O, K, Fr.r hZ, Or.inl ⟨?_, by rw [hw.1.1]; decide, rfl, rfl, rfl, rfl⟩⟩
    unfold f_X3_at
    rw [h3, if_neg (by decide), if_pos (by decide)]
  · have hp : ¬ (K 130 128 ≤ 0) := by rw [hw.1.1, show (0 : Int32) = nI 0 from rfl, pi_le (by omega) (by omega)]; omega
    have ha : f_X3_at 1 (0 : Int32) I = some (some (cB 1 0)) := x3_at1 (k := 0) h3 hn h0
    rcases bd1_c hw.2.2.2.2.1.2 with hr | hr
    · exact ⟨0, I, O, K, Fr.r hZ, Or.inr (Or.inl ⟨ha, hp, by rw [h5, hr], by rw [hr]; decide, rfl, rfl, rfl, rfl⟩)⟩
    · obtain ⟨I', O', K', w, b1, b2, b3, b4, b5, b6, b7⟩ := best_both (O := O) hI hZ h0
      exact ⟨w.toInt64, I', O', K', ⟨b4, b3, b5 26 (by omega), fun a h1 h2 => b6 a (by omega) (by omega) h2, fun a h1 => b6 a (by omega) (by omega) (by omega), fun f _ => by rw [b6 129 (by omega) (by omega) (by omega)], b7⟩, Or.inr (Or.inr ⟨ha, hp, by rw [h5, hr]; decide, hr, w, b1, b2, rfl⟩)⟩
theorem t1' : (1 : Int32).toNatClampNeg = 1 := by decide
theorem digest_both {I K : Nat → Nat → Int32} {O : Nat → Nat → Option Nat} {N : Nat} {J J' : Nat → Nat → Int64} (h : Inv2 I K O) :
    ∃ I' O' K' y, f_X7_digest N I O J = some (y, I', O', gup J N 0 y) ∧ f_X8_digest K J' = some (y, K', gup J' 129 16 y) ∧ Inv2 I' K' O' ∧ (∀ a, 129 ≤ a → I' a = I a) ∧ (∀ a, a < 129 → K' a = K a) := by
  have hh := h
  obtain ⟨n, p, len, h1, hZZ, hSV, hSL, hTX⟩ := hh
  have hn := h1.2.2.2.1.1.2
  have g130' : gup K 129 8 0 130 = K 130 := gup_ne (by omega)
  have hI1 : RR I 1 (gup K 129 8 0 130) n := by rw [g130']; exact h1
  obtain ⟨y1, I2, K2, O2, a1, a2, a3⟩ := birds_loop (N := N) (J := J) (J' := J') n 0 FU I (gup K 129 8 0) O (mx 4637 (nI n).toInt64) (by omega) (by unfold FU; omega) hI1 (hZZ 13 isB13)
  have r2 := a3.rr hI1
  obtain ⟨O3, o1, o2, o3⟩ := x3_putInOrder (O := O2) isB1 r2.2.2.2.1 r2.1 r2.2.1
  obtain ⟨y2, b1, b2⟩ := order_loop (N := N) (J := J) (J' := J') r2 o2 n 0 FU y1 (by omega) (by unfold FU; omega)
  obtain ⟨y3, c1, c2⟩ := lim_loop (N := N) (J := J) (J' := J') r2 4 0 FU y2 (by omega) (by unfold FU; omega)
  obtain ⟨I4, O4, I5, O5, K3, K4, s, w, u, v, d1, d2, d3, d4, d5, d6, d7⟩ := two_both (O := O3) r2 a3.1
  have a5 : Fr I (gup K 129 8 0) O I5 K4 O5 := a3.t (Fr.t (I' := I2) (K' := K2) (O' := O3) ⟨a3.1, fun _ _ => rfl, o3 26 (by omega), fun _ _ _ => rfl, fun _ _ => rfl, fun _ _ => rfl, fun _ _ => rfl⟩ d7)
  have r5 := a5.rr hI1
  obtain ⟨q, I6, O6, K6, e1, e2⟩ := bst_both (O := O5) r5 a5.1
  have a6 := a5.t e1
  have r6 := a6.rr hI1
  obtain ⟨z1, m, vv, k1, k2, k3, k4⟩ := acc_both (N := N) (J := J) (J' := J') (x := mx (mx (mx y3 u.toInt64) v.toInt64) q) (p := nI p) r6 (by rw [a6.2.1 25 (by omega)]; exact hSV.1)
  have k5 := x8_all r6.2.2.2.1.1.1 hn
  have k6 := cnt_loop (K := K6) (J' := J') 6 144 FU (mx z1 (smF (K6 130) n).toInt64) (by omega) (by unfold FU; omega)
  have k7 : K6 129 3 = nI p := by rw [a6.2.2.2.2.2.1 3 (by omega), gup_i (by omega)]; exact hSV.2.1
  have f134 : K6 134 = K 134 := (a6.2.2.2.1 134 (by omega) (by omega)).trans (gup_ne (by omega))
  have f135 : K6 135 = K 135 := (a6.2.2.2.1 135 (by omega) (by omega)).trans (gup_ne (by omega))
  have f101 : I6 101 = I 101 := a6.2.1 101 (by omega)
  have s0 : K6 134 0 = I6 101 0 := by rw [f134, f101]; exact (hSL 0 (by omega)).2.1
  have s1 : K6 134 1 = I6 101 1 := by rw [f134, f101]; exact (hSL 1 (by omega)).2.1
  have tX : TX I6 K6 len := by
    obtain ⟨x1, x2, x3, x4⟩ := hTX
    refine ⟨by rw [a6.2.1 126 (by omega)]; exact x1, ?_, x3, fun i hi => by rw [a6.2.1 127 (by omega), f135]; exact x4 i hi⟩
    rw [a6.2.2.2.2.2.1 7 (by omega), gup_i (by omega)]; exact x2
  have l1 := sl_loop (I := I6) (N := N) (J := J) 2 0 FU (mx (mx (cnl (K6 130) 6 144 (mx z1 (smF (K6 130) n).toInt64)) (nI p).toInt64) vv) (by omega) (by unfold FU; omega)
  have hlen := tX.2.2.1
  obtain ⟨yy, m1, m2⟩ := tx_loop (N := N) (J := J) (J' := J') tX len 0 FU (mx (sll I6 2 0 (mx (mx (cnl (K6 130) 6 144 (mx z1 (smF (K6 130) n).toInt64)) (nI p).toInt64) vv)) (nI len).toInt64) (by omega) (by unfold FU; omega)
  have hInv : Inv2 I6 K6 O6 := by
    refine Inv2_now h (fun a q1 q2 => a6.2.1 a (by omega)) a6.1 r6 (fun a q1 q2 => (a6.2.2.2.1 a q1 q2).trans (gup_ne (by omega))) ?_ ?_ a6.2.2.1
    · rw [a6.2.2.2.2.2.1 3 (by omega), gup_i (by omega)]
    · rw [a6.2.2.2.2.2.1 7 (by omega), gup_i (by omega)]
  refine ⟨I6, O6, K6, yy, ?_, ?_, hInv, fun a ha => a6.2.1 a (by omega), fun a ha => (a6.2.2.2.2.1 a ha).trans (gup_ne (by omega))⟩
  · have i3 : I 1 3 = nI n := h1.1.1.1.trans h1.2.2.2.1.1.1
    have hO : f_X7_hashOrder N I2 O2 (gup J N 0 y1) = some (O3, gup J N 0 y2) := by
      unfold f_X7_hashOrder
      rw [o1]
      simp only [obs]
      rw [show f_X7_hashOrder_L9 N I2 O3 FU (0 : Int32) (gup J N 0 y1) = _ from b1]; rfl
    unfold f_X7_digest f_X0_init
    rw [hlet_e, hlet_e, gup_gup]
    simp only [obs, add_c]
    rw [i3, show f_X7_digest_L22 N FU (0 : Int32) I O (gup J N 0 (mx 4637 (nI n).toInt64)) = _ from a1]
    simp only [obs]
    rw [hO]
    simp only [obs]
    rw [show f_X7_digest_L95 N I2 FU (0 : Int32) (gup J N 0 y2) = _ from c1]
    simp only [obs]
    rw [d1]
    simp only [obs]
    rw [d2]
    simp only [obs, add_c]
    rw [d5, d6]
    simp only [obs, add_c]
    have fin : (f_X7_hashAccounts N I6 (gup J N 0 (mx (mx (mx y3 u.toInt64) v.toInt64) q))).bind (fun J39 => (f_X7_digest_L195 N I6 FU (0 : Int32) J39).bind fun J43 => (f_X0_add N (((I6 126 1)).toInt64) J43).bind fun J44 => (f_X7_digest_L243 N I6 FU (0 : Int32) J44).bind fun J48 => some ((J48 N 0), I6, O6, J48)) = some (yy, I6, O6, gup J N 0 yy) := by
      rw [k4]
      simp only [obs]
      rw [show f_X7_digest_L195 N I6 FU (0 : Int32) _ = _ from l1]
      simp only [obs, add_c]
      rw [tX.1, show f_X7_digest_L243 N I6 FU (0 : Int32) _ = _ from m1]
      simp only [obs, gup_at]
    rcases e2 with ⟨x1, x2, rfl, rfl, rfl, rfl⟩ | ⟨x1, x2, x3, x4, rfl, rfl, rfl, rfl⟩ | ⟨x1, x2, x3, x4, r, x5, x6, rfl⟩
    · rw [x1]
      simp only [obs, hopt_e1, add_c]
      exact fin
    · rw [x1]
      simp only [obs, hopt_e2]
      rw [hk_e (sk_b isB1 (by omega)), if_pos x3]
      simp only [obs, add_c]
      exact fin
    · rw [x1]
      simp only [obs, hopt_e2]
      rw [hk_e (sk_b isB1 (by omega)), if_neg x3, x5]
      simp only [obs, add_c]
      exact fin
  · unfold f_X8_digest
    rw [hlet_e, hlet_e, t128, g130', h1.2.2.2.1.1.1, add_r]
    simp only [obs]
    rw [show f_X8_digest_L27 FU (0 : Int32) (gup K 129 8 0) (gup J' 129 16 (mx 4637 (nI n).toInt64)) = _ from a2]
    simp only [obs]
    rw [show f_X8_digest_L52 K2 FU (0 : Int32) (gup J' 129 16 y1) = _ from b2]
    simp only [obs]
    rw [show f_X8_digest_L82 K2 FU (0 : Int32) (gup J' 129 16 y2) = _ from c2]
    simp only [obs]
    rw [d3]
    simp only [obs, add_r]
    rw [d4]
    simp only [obs, add_r, t150, t134, t135, t0', t1']
    have k6' : f_X8_digest_L250 K6 FU (144 : Int32) (gup J' 129 16 (mx z1 (smF (K6 130) n).toInt64)) = some (gup J' 129 16 (cnl (K6 130) 6 144 (mx z1 (smF (K6 130) n).toInt64))) := k6
    have hs : ∀ x, sll I6 2 0 x = mx (mx x (if I6 101 0 = 0 then 0 else 1)) (if I6 101 1 = 0 then 0 else 1) := fun _ => rfl
    rw [hs] at m2
    have m2' : ∀ z, z = (0 : Int32) → f_X8_digest_L341 K6 FU z (gup J' 129 16 (mx (mx (mx (mx (mx (cnl (K6 130) 6 144 (mx z1 (smF (K6 130) n).toInt64)) (nI p).toInt64) vv) (if I6 101 0 = 0 then 0 else 1)) (if I6 101 1 = 0 then 0 else 1)) (nI len).toInt64)) = some (gup J' 129 16 yy) := fun z hz => by rw [hz]; exact m2
    have m3 := m2' 0 rfl
    have hk0 : ∀ (d : Decidable (K6 134 0 = 0)), @ite (Option Int64) (K6 134 0 = 0) d (some 0) (some 1) = some (if I6 101 0 = 0 then 0 else 1) := fun d => by
      by_cases z : K6 134 0 = 0
      · rw [if_pos z, if_pos (s0.symm.trans z)]
      · rw [if_neg z, if_neg (fun e => z (s0.trans e))]
    have hk1 : ∀ (d : Decidable (K6 134 1 = 0)), @ite (Option Int64) (K6 134 1 = 0) d (some 0) (some 1) = some (if I6 101 1 = 0 then 0 else 1) := fun d => by
      by_cases z : K6 134 1 = 0
      · rw [if_pos z, if_pos (s1.symm.trans z)]
      · rw [if_neg z, if_neg (fun e => z (s1.trans e))]
    clear m2 m2' m1 l1 k4 hs k6
    rcases e2 with ⟨x1, x2, ep, eI, eO, eK⟩ | ⟨x1, x2, x3, x4, ep, eI, eO, eK⟩ | ⟨x1, x2, x3, x4, r, x5, x6, ep⟩
    · rw [if_pos x2]
      rw [ep] at k1
      subst eK
      subst eI
      simp only [obs, add_r]
      rw [k1]
      simp only [obs, k5, add_r]
      rw [k6']
      simp only [obs, add_r, k2, k3, k7]
      rw [hk0, hk1]
      simp only [obs, add_r]
      rw [tX.2.1, m3]
      simp only [obs, gup_at]
    · rw [if_neg x2, if_neg x4]
      rw [ep] at k1
      subst eK
      subst eI
      simp only [obs, add_r]
      rw [k1]
      simp only [obs, k5, add_r]
      rw [k6']
      simp only [obs, add_r, k2, k3, k7]
      rw [hk0, hk1]
      simp only [obs, add_r]
      rw [tX.2.1, m3]
      simp only [obs, gup_at]
    · rw [if_neg x2, if_pos x4, x6]
      rw [ep] at k1
      simp only [obs, add_r]
      rw [k1]
      simp only [obs, k5, add_r]
      rw [k6']
      simp only [obs, add_r, k2, k3, k7]
      rw [hk0, hk1]
      simp only [obs, add_r]
      rw [tX.2.1, m3]
      simp only [obs, gup_at]
section CS
variable {SL' : Nat} {sx : Nat → Int32} {p4 : Int32} {I : Nat → Nat → Int32} {O : Nat → Nat → Option Nat} {J : Nat → Nat → Int64}
end CS
