theorem obs {α β : Type} {a : α} {f : α → Option β} : (some a).bind f = f a := by
  have h : ∀ o : Option α, o = some a → o.bind f = f a := by
    intro o ho
    cases ho
    exact Option.bind_some a f
  exact h _ rfl
def mx (x v : Int64) : Int64 := 31 * x + v
theorem gup_gup {α : Type} {f : Nat → Nat → α} {n k : Nat} {a b : α} : gup (gup f n k a) n k b = gup f n k b := by
  funext i j
  by_cases h : i = n ∧ j = k
  · unfold gup; rw [if_pos h, if_pos h]
  · unfold gup; rw [if_neg h, if_neg h, if_neg h]
theorem add_c {N : Nat} {J : Nat → Nat → Int64} {x v : Int64} : f_X0_add N v (gup J N 0 x) = some (gup J N 0 (mx x v)) := by
  unfold f_X0_add
  rw [hlet_e, gup_gup, gup_at]; rfl
theorem add_r {J : Nat → Nat → Int64} {x v : Int64} : f_X8_mixes v (gup J 129 16 x) = some (gup J 129 16 (mx x v)) := by
  unfold f_X8_mixes
  rw [hlet_e, gup_gup, gup_at]; rfl
def brd (s : Nat → Int32) (b k g w : Nat) (D A T x : Int64) : Int64 :=
  mx (mx (mx (mx (mx (mx (mx (mx (mx (mx (mx (mx (mx (mx (mx (mx x (s (16 * b + 7)).toInt64) (s (16 * b + 7) / (400 : Int32)).toInt64) (s (16 * b + 8)).toInt64) (s (16 * b + 3)).toInt64) (s (16 * b + 4)).toInt64) (s (16 * b + 5)).toInt64) (s (16 * b + 6)).toInt64) (s (16 * b)).toInt64) (s (16 * b + 10)).toInt64) (s (16 * b + 9)).toInt64) (nI k).toInt64) (nI g).toInt64) D) (nI w).toInt64) A) T
theorem hash_bird {I : Nat → Nat → Int32} {J : Nat → Nat → Int64} {N b k g w : Nat} {p1 : Int32} {D A T x : Int64} {s : Nat → Int32} (rb : RB I (cB 1 b) s b)
    (hp : (if I (cB 1 b) 9 = (1 : Int32) then some (1 : Int32) else some (0 : Int32)) = some p1)
    (hc : (if I (cB 1 b) 11 = 0 then some (0 : Int64) else some (1 : Int64)) = some (s (16 * b + 9)).toInt64)
    (e1 : f_X3_countAheadOf 1 (cB 1 b) I = some (nI k)) (e2 : f_X3_gapOf 1 (cB 1 b) I = some (nI g)) (e3 : f_X6_partOfCourse (cB 1 b) I = some (nI w))
    (eD : (if p1 = 0 then some (0 : Int64) else (f_X3_nextAhead 1 (cB 1 b) I).bind fun r50 => (f_X3_draftFeet 1 (cB 1 b) r50 I).bind fun r52 => if r52 ≤ 0 then some (0 : Int64) else some (1 : Int64)) = some D)
    (eA : (if p1 = 0 then some (0 : Int64) else (f_X3_allowedFeet 1 (cB 1 b) I).bind fun r47 => some ((r47).toInt64)) = some A)
    (eT : (if I (cB 1 b) 9 = (3 : Int32) then some ((I (cB 1 b) 14).toInt64) else some (0 : Int64)) = some T) :
    f_X7_hashSparrow N (cB 1 b) I (gup J N 0 x) = some (gup J N 0 (brd s b k g w D A T x)) := by
  obtain ⟨a1, a2, a3, a4, a5, a6, a7, a8, a9, a10, a11, a12, a14⟩ := rb
  unfold f_X7_hashSparrow f_X6_lapsOver
  rw [hp]
  simp only [obs, add_c]
  rw [hc]
  simp only [obs, add_c, e1, e2]
  rw [eD]
  simp only [obs, add_c, e3]
  rw [eA]
  simp only [obs, add_c]
  rw [eT]
  simp only [obs, add_c]
  rw [a4, a5, a6, a7, a8, a9, a1, a12, Int32.sub_add_cancel]
  unfold brd
  exact Eq.refl _
theorem mix_bird {K K' : Nat → Nat → Int32} {J : Nat → Nat → Int64} {b k g w : Nat} {p1 o3 : Int32} {D A T x p : Int64} (hb : b < 8)
    (hp : f_X8_flies (nI b) K = some p1) (e1 : f_X8_place (nI b) K = some (nI k)) (e2 : f_X8_gap (nI b) (K 130 (16 * b + 5)) K = some (nI g)) (e3 : f_X8_where (nI b) K = some (nI w))
    (eD : (if p1 = 0 then some (0 : Int64) else (f_X8_isDrafted (nI b) K).bind fun r84 => if r84 = 0 then some (0 : Int64) else some (1 : Int64)) = some D)
    (eA : (if p1 = 0 then some (0 : Int64) else (f_X8_allowed (nI b) K).bind fun r81 => some ((r81).toInt64)) = some A)
    (ho : f_X8_isOver (nI b) K = some o3)
    (eT : (if o3 = 0 then some (0 : Int64) else some ((K 130 (16 * b + 11)).toInt64)) = some T)
    (eP : (¬ (K 130 150 = (1 : Int32)) ∧ p = 0 ∧ K' = K) ∨ (K 130 150 = (1 : Int32) ∧ ∃ r : Int32, f_X8_flownIn (nI b) (30 : Int32) K = some (r, K') ∧ p = r.toInt64)) :
    f_X8_mixBird (nI b) K (gup J 129 16 x) = some (K', gup J 129 16 (mx (brd (K 130) b k g w D A T x) p)) := by
  have o0 : f_X8_of (nI b) (0 : Int32) K = some (K 130 (16 * b)) := x8_of (f := 0) hb (by omega)
  have o3' : f_X8_of (nI b) (3 : Int32) K = some (K 130 (16 * b + 3)) := x8_of (f := 3) hb (by omega)
  have o4 : f_X8_of (nI b) (4 : Int32) K = some (K 130 (16 * b + 4)) := x8_of (f := 4) hb (by omega)
  have o5 : f_X8_of (nI b) (5 : Int32) K = some (K 130 (16 * b + 5)) := x8_of (f := 5) hb (by omega)
  have o6 : f_X8_of (nI b) (6 : Int32) K = some (K 130 (16 * b + 6)) := x8_of (f := 6) hb (by omega)
  have o7 : f_X8_of (nI b) (7 : Int32) K = some (K 130 (16 * b + 7)) := x8_of (f := 7) hb (by omega)
  have o8 : f_X8_of (nI b) (8 : Int32) K = some (K 130 (16 * b + 8)) := x8_of (f := 8) hb (by omega)
  have o9 : f_X8_of (nI b) (9 : Int32) K = some (K 130 (16 * b + 9)) := x8_of (f := 9) hb (by omega)
  have o10 : f_X8_of (nI b) (10 : Int32) K = some (K 130 (16 * b + 10)) := x8_of (f := 10) hb (by omega)
  have o11 : f_X8_of (nI b) (11 : Int32) K = some (K 130 (16 * b + 11)) := x8_of (f := 11) hb (by omega)
  unfold f_X8_mixBird
  simp only [obs, add_r, o0, o3', o4, o5, o6, o7, o8, o9, o10, o11, e1, e2, hp]
  rw [eD]
  simp only [obs, add_r, e3]
  rw [eA]
  simp only [obs, add_r, ho]
  rw [eT]
  simp only [obs, add_r]
  rw [t150]
  rcases eP with ⟨c, rfl, rfl⟩ | ⟨c, r, c1, rfl⟩
  · rw [if_neg c]
    simp only [obs, add_r]
    unfold brd
    exact Eq.refl _
  · rw [if_pos c, c1]
    simp only [obs, add_r]
    unfold brd
    exact Eq.refl _
def Fr (I K : Nat → Nat → Int32) (O : Nat → Nat → Option Nat) (I' K' : Nat → Nat → Int32) (O' : Nat → Nat → Option Nat) : Prop :=
  RZ I' 13 ∧ (∀ a, a < 13 ∨ 25 ≤ a → I' a = I a) ∧ O' 26 = O 26 ∧ (∀ a, 132 ≤ a → a ≠ 136 → K' a = K a) ∧ (∀ a, a < 129 → K' a = K a) ∧ (∀ f, f ≠ 15 → K' 129 f = K 129 f) ∧ (∀ k, k < 151 → K' 130 k = K 130 k)
theorem Fr.r {I K : Nat → Nat → Int32} {O : Nat → Nat → Option Nat} (z : RZ I 13) : Fr I K O I K O :=
  ⟨z, fun _ _ => rfl, rfl, fun _ _ _ => rfl, fun _ _ => rfl, fun _ _ => rfl, fun _ _ => rfl⟩
theorem Fr.t {I K I' K' I2 K2 : Nat → Nat → Int32} {O O' O2 : Nat → Nat → Option Nat} (h : Fr I K O I' K' O') (g : Fr I' K' O' I2 K2 O2) : Fr I K O I2 K2 O2 := by
  obtain ⟨a1, a2, a3, a4, a5, a6, a7⟩ := h
  obtain ⟨b1, b2, b3, b4, b5, b6, b7⟩ := g
  exact ⟨b1, fun a ha => (b2 a ha).trans (a2 a ha), b3.trans a3, fun a h1 h2 => (b4 a h1 h2).trans (a4 a h1 h2), fun a ha => (b5 a ha).trans (a5 a ha), fun a ha => (b6 a ha).trans (a6 a ha), fun a ha => (b7 a ha).trans (a7 a ha)⟩
theorem Fr.rr {I K I' K' : Nat → Nat → Int32} {O O' : Nat → Nat → Option Nat} {n : Nat} (h : Fr I K O I' K' O') (r : RR I 1 (K 130) n) : RR I' 1 (K' 130) n :=
  RR_I (fun a q1 q2 => h.2.1 a (by omega)) (RR_s (s := K 130) h.2.2.2.2.2.2 r)
theorem wpd_id {s : Nat → Int32} {k : Nat} : s = wpd s k (s k) := by
  funext i
  unfold wpd
  by_cases h : i = k
  · rw [if_pos h, h]
  · rw [if_neg h]
theorem x3_at1 {I : Nat → Nat → Int32} {n k : Nat} (h3 : I 1 3 = nI n) (hn : n ≤ 8) (hk : k < n) : f_X3_at 1 (nI k) I = some (some (cB 1 k)) := by
  unfold f_X3_at
  rw [h3, if_neg (by rw [show (0 : Int32) = nI 0 from rfl, pi_lt (by omega) (by omega)]; omega), if_neg (by rw [pi_le (by omega) (by omega)]; omega), if_pos (by rw [show (8 : Int32) = nI 8 from rfl, pi_lt (by omega) (by omega)]; omega), pi_gin (by omega), decide_eq_true (by omega), hg_t, pi_tn (by omega)]; rfl
theorem bird_both {I K : Nat → Nat → Int32} {O : Nat → Nat → Option Nat} {n b N : Nat} {J J' : Nat → Nat → Int64} {x : Int64} (hI : RR I 1 (K 130) n) (hZ : RZ I 13) (hb : b < n) :
    ∃ y p I' O' K', f_X7_hashSparrow N (cB 1 b) I (gup J N 0 x) = some (gup J N 0 y) ∧
      ((I 1 5 = 0 ∧ p = 0 ∧ I' = I ∧ O' = O) ∨ (¬ (I 1 5 = 0) ∧ ∃ r : Int32, f_X7_foretell (cB 1 b) (I (cB 1 b) 1) (30 : Int32) I O = some (r, I', O') ∧ p = r.toInt64)) ∧
      f_X8_mixBird (nI b) K (gup J' 129 16 x) = some (K', gup J' 129 16 (mx y p)) ∧ Fr I K O I' K' O' := by
  have hw := hI.2.2.2.1
  have hn := hw.1.2
  have rb := hI.1.2.2.1 b hb
  have hwb := hw.2.1 b hb
  have h9 : I (cB 1 b) 9 = K 130 (16 * b + 6) := rb.2.2.2.2.2.2.2.2.1
  have h11 : I (cB 1 b) 11 = K 130 (16 * b + 9) := rb.2.2.2.2.2.2.2.2.2.2.1
  have h14 : I (cB 1 b) 14 = K 130 (16 * b + 11) := rb.2.2.2.2.2.2.2.2.2.2.2.2
  have hq := hI.1.q isB1 hI.2.1 hw
  obtain ⟨r, hr, hN⟩ := x3_nextAhead hq hb
  have hd := x3_draftFeet hq hb hN
  obtain ⟨g, hg, hg4, hG⟩ := x8_gap (I := K) (lane := K 130 (16 * b + 5)) (n := n) (b := b) hw.fl hb
  have eg := GP_NX hn hG hN
  have hgap : f_X3_gapOf 1 (cB 1 b) I = some (nI g) := by
    unfold f_X3_gapOf
    rw [hr]
    simp only [obs]
    cases r with
    | none =>
      simp only at eg
      rw [Option.map_none, hopt_e1, eg]; try rfl
    | some j =>
      simp only at eg
      have hj := hN.2.1.1
      rw [Option.map_some, hopt_e2, hk_e (sk_b isB1 (by omega)), hq.fb hb hj, eg]; try rfl
  have hf := hw.fl.2.2 b hb
  have hcc := bd1_c hwb.2.2.2.2.2.2.2.2.1
  have hc : (if I (cB 1 b) 11 = 0 then some (0 : Int64) else some (1 : Int64)) = some (K 130 (16 * b + 9)).toInt64 := by
    rw [h11]
    rcases hcc with h | h
    · rw [h]; rfl
    · rw [h]; rfl
  have hdb := drf_b (s := K 130) (b := b) (r := r)
  have HD : ∃ p1 D A, (if I (cB 1 b) 9 = (1 : Int32) then some (1 : Int32) else some (0 : Int32)) = some p1 ∧ f_X8_flies (nI b) K = some p1 ∧
      (if p1 = 0 then some (0 : Int64) else (f_X3_nextAhead 1 (cB 1 b) I).bind fun r50 => (f_X3_draftFeet 1 (cB 1 b) r50 I).bind fun r52 => if r52 ≤ 0 then some (0 : Int64) else some (1 : Int64)) = some D ∧
      (if p1 = 0 then some (0 : Int64) else (f_X8_isDrafted (nI b) K).bind fun r84 => if r84 = 0 then some (0 : Int64) else some (1 : Int64)) = some D ∧
      (if p1 = 0 then some (0 : Int64) else (f_X3_allowedFeet 1 (cB 1 b) I).bind fun r47 => some ((r47).toInt64)) = some A ∧
      (if p1 = 0 then some (0 : Int64) else (f_X8_allowed (nI b) K).bind fun r81 => some ((r81).toInt64)) = some A := by
    by_cases c : K 130 (16 * b + 6) = 1
    · have i10 : ¬ ((1 : Int32) = 0) := by decide
      refine ⟨1, if drf (K 130) b r = 0 then 0 else 1, (nI (aF (K 130) b)).toInt64, by rw [h9, if_pos c], by rw [x8_flies (by omega), if_pos c], ?_, ?_, ?_, ?_⟩
      · rw [if_neg i10, hr]
        simp only [obs]
        rw [hd]
        simp only [obs]
        by_cases d : drf (K 130) b r = 0
        · rw [d, if_pos (show nI 0 ≤ 0 by decide)]; rfl
        · rw [if_neg (by rw [show (0 : Int32) = nI 0 from rfl, pi_le (by omega) (by omega)]; omega), if_neg d]
      · rw [if_neg i10, x8_isDrafted hw.fl hb hN]
        simp only [obs]
        by_cases d : drf (K 130) b r = 0
        · rw [d]; rfl
        · rw [if_neg d, if_neg i10, if_neg d]
      · rw [if_neg i10, x3_allowedFeet hw hb rb hI.1.2.1]; rfl
      · rw [if_neg i10, x8_allowed hw hb]; rfl
    · exact ⟨0, 0, 0, by rw [h9, if_neg c], by rw [x8_flies (by omega), if_neg c], rfl, rfl, rfl, rfl⟩
  have HT : ∃ o3 T, (if I (cB 1 b) 9 = (3 : Int32) then some ((I (cB 1 b) 14).toInt64) else some (0 : Int64)) = some T ∧ f_X8_isOver (nI b) K = some o3 ∧ (if o3 = 0 then some (0 : Int64) else some ((K 130 (16 * b + 11)).toInt64)) = some T := by
    by_cases c : K 130 (16 * b + 6) = 3
    · exact ⟨1, (K 130 (16 * b + 11)).toInt64, by rw [h9, if_pos c, h14], by rw [x8_isOver (by omega), if_pos c], rfl⟩
    · exact ⟨0, 0, by rw [h9, if_neg c], by rw [x8_isOver (by omega), if_neg c], rfl⟩
  obtain ⟨p1, D, A, d1, d2, d3, d4, d5, d6⟩ := HD
  obtain ⟨o3, T, t1, t2, t3⟩ := HT
  have hcl := hash_bird (J := J) (N := N) (x := x) rb d1 hc (x3_countAheadOf isB1 hw hb hI.1 hI.2.1) hgap (x6_partOfCourse hf.2 (rb.2.2.2.1.trans hf.1)) d3 d5 t1
  have h5 : I 1 5 = K 130 150 := hI.1.1.2.2.1
  rcases bd1_c hw.2.2.2.2.1.2 with hrc | hrc
  · refine ⟨_, 0, I, O, K, hcl, Or.inl ⟨by rw [h5, hrc], rfl, rfl, rfl⟩, ?_, Fr.r hZ⟩
    exact mix_bird (by omega) d2 (x8_place hw hb) hg (x8_where (by omega) hf.2 hf.1) d4 d6 t2 t3 (Or.inl ⟨by rw [hrc]; decide, rfl, rfl⟩)
  · obtain ⟨I7, O8, v, K8, f1, f2, f3, f4, f5, f6, f7⟩ := foretell_both (O := O) (m := 30) hI hZ hb hwb.1 wpd_id (by omega)
    refine ⟨_, v.toInt64, I7, O8, K8, hcl, Or.inr ⟨by rw [h5, hrc]; decide, v, ?_, rfl⟩, ?_, ?_⟩
    · rw [rb.1]; exact f1
    · exact mix_bird (by omega) d2 (x8_place hw hb) hg (x8_where (by omega) hf.2 hf.1) d4 d6 t2 t3 (Or.inr ⟨hrc, v, f2, rfl⟩)
    · exact ⟨f4, f3, f5 26 (by omega), fun a h1 h2 => f6 a (by omega) (by omega) h2, fun a h1 => f6 a (by omega) (by omega) (by omega), fun f _ => by rw [f6 129 (by omega) (by omega) (by omega)], f7⟩
theorem birds_loop {N n : Nat} {J J' : Nat → Nat → Int64} : ∀ d k fuel (I K : Nat → Nat → Int32) (O : Nat → Nat → Option Nat) (x : Int64), n = k + d → d < fuel → RR I 1 (K 130) n → RZ I 13 →
    ∃ y I' K' O', f_X7_digest_L22 N fuel (nI k) I O (gup J N 0 x) = some (I', O', gup J N 0 y) ∧ f_X8_digest_L27 fuel (nI k) K (gup J' 129 16 x) = some (K', gup J' 129 16 y) ∧ Fr I K O I' K' O' := by
  intro d
  induction d with
  | zero =>
    intro k fuel I K O x hk hf hI hZ
    obtain ⟨f, rfl⟩ : ∃ f, fuel = f + 1 := ⟨fuel - 1, by omega⟩
    have hkn : n = k := hk
    subst hkn
    refine ⟨x, I, K, O, ?_, ?_, Fr.r hZ⟩
    · rw [f_X7_digest_L22, hI.1.1.1.trans hI.2.2.2.1.1.1, if_pos (Int32.le_refl _)]
    · rw [f_X8_digest_L27, t128, hI.2.2.2.1.1.1, if_pos (Int32.le_refl _)]
  | succ d ih =>
    intro k fuel I K O x hk hf hI hZ
    have hn := hI.2.2.2.1.1.2
    obtain ⟨f, rfl⟩ : ∃ f, fuel = f + 1 := ⟨fuel - 1, by omega⟩
    obtain ⟨y, p, I1, O1, K1, b1, b2, b3, b4⟩ := bird_both (N := N) (J := J) (J' := J') (x := x) (O := O) (b := k) hI hZ (by omega)
    obtain ⟨z, I', K', O', c1, c2, c3⟩ := ih (k + 1) f I1 K1 O1 (mx y p) (by omega) (by omega) (b4.rr hI) b4.1
    have h3 := hI.1.1.1.trans hI.2.2.2.1.1.1
    have hnl : ¬ (nI n ≤ nI k) := by rw [pi_le (by omega) (by omega)]; omega
    refine ⟨z, I', K', O', ?_, ?_, b4.t c3⟩
    · rw [f_X7_digest_L22, h3, if_neg hnl, x3_at1 h3 hn (by omega)]
      simp only [obs, hopt_e2]
      rw [hk_e (sk_b isB1 (by omega)), b1]
      simp only [obs]
      rcases b2 with ⟨e1, rfl, rfl, rfl⟩ | ⟨e1, r, e2, rfl⟩
      · rw [if_pos e1]
        simp only [obs, add_c, hlet_e]
        rw [show nI k + (1 : Int32) = nI (k + 1) from pi_add k 1]; exact c1
      · rw [if_neg e1, e2]
        simp only [obs, add_c, hlet_e]
        rw [show nI k + (1 : Int32) = nI (k + 1) from pi_add k 1]; exact c1
    · rw [f_X8_digest_L27, t128, hI.2.2.2.1.1.1, if_neg hnl, b3]
      simp only [obs, hlet_e]
      rw [show nI k + (1 : Int32) = nI (k + 1) from pi_add k 1]; exact c2
