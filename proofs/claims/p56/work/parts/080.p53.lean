def pt (c : Nat → Nat) (len i : Nat) : Option (Nat × Nat × Nat × Nat) :=
  if i < len then
    if c i = 116 then (nP c len 1 200 (i + 1)).map fun g => (g.1, 116, 0, g.2)
    else if c i = 112 ∨ c i = 110 ∨ c i = 99 then
      if i + 1 < len ∧ 48 ≤ c (i + 1) ∧ c (i + 1) ≤ (if c i = 99 then 51 else 55) then
        if c i = 110 then some (i + 2, 110, c (i + 1) - 48, 0)
        else if i + 2 < len ∧ c (i + 2) = 61 then (nP c len (if c i = 112 then 10 else 8) 40 (i + 3)).map fun g => (g.1, c i, c (i + 1) - 48, g.2)
        else none
      else none
    else none
  else none
def PR (I K : Nat → Nat → Int32) (k w v : Nat) : Prop := K 129 12 = nI k ∧ I 128 1 = nI k ∧
  ((k = 116 ∧ 1 ≤ v ∧ v ≤ 200 ∧ K 129 14 = nI v ∧ I 128 3 = nI v) ∨
   (k = 112 ∧ w < 8 ∧ 10 ≤ v ∧ v ≤ 40 ∧ K 129 13 = nI w ∧ I 128 2 = nI w ∧ K 129 14 = nI v ∧ I 128 3 = nI v) ∨
   (k = 110 ∧ w < 8 ∧ K 129 13 = nI w ∧ I 128 2 = nI w) ∨
   (k = 99 ∧ w < 4 ∧ 8 ≤ v ∧ v ≤ 40 ∧ K 129 13 = nI w ∧ I 128 2 = nI w ∧ K 129 14 = nI v ∧ I 128 3 = nI v))
def PB (K0 : Nat → Nat → Int32) (c : Nat → Nat) (len i : Nat) (I K' : Nat → Nat → Int32) : Prop :=
  ∃ I' j, i ≤ j ∧ j ≤ len ∧ Run c (j - i) i I I' ∧ ((pt c len i = none ∧ (∃ L a b, KS K0 K' j 1 L a b) ∧ Bad c len j I') ∨
    (∃ k w v, pt c len i = some (j, k, w, v) ∧ (∃ L a b, KS K0 K' j 0 L a b) ∧ i < j ∧ f_X1_isWhole I' = some 1 ∧ PR I' K' k w v ∧ Stop c len j I'))
theorem isfr {I0 I X : Nat → Nat → Int32} {p k t m p' k' t' m' : Int32} (h : IS I0 I p k t m) (h' : IS I0 X p' k' t' m') : ∀ q, q ≠ 128 → X q = I q := fun q hq => (h'.1 q hq).trans (h.1 q hq).symm
theorem part_num {K0 I0 : Nat → Nat → Int32} {c : Nat → Nat} {len i x : Nat} {K I I1 : Nat → Nat → Int32} {b : Int32} (ht : TK K0 c len) (hilt : i + 1 < len) (hx : x = 112 ∨ x = 99) (ecx : c i = x) (hd : 48 ≤ c (i + 1) ∧ c (i + 1) ≤ (if c i = 99 then 51 else 55))
    (hK : KS K0 K (i + 2) 0 (nI x) (nI (c (i + 1) - 48)) b) (hI1 : IS I0 I1 2 (nI x) (nI (c (i + 1) - 48)) 0) (hrun : Run c 2 i I I1) :
    ∃ K', prt2 K = some K' ∧ PB K0 c len i I K' := by
  have hx110 : x ≠ 110 := by omega
  have ept : pt c len i = if i + 2 < len ∧ c (i + 2) = 61 then (nP c len (if c i = 112 then 10 else 8) 40 (i + 3)).map fun g => (g.1, c i, c (i + 1) - 48, g.2) else none := by
    unfold pt
    rw [if_pos (by omega), if_neg (by omega), if_pos (by omega), if_pos ⟨hilt, hd⟩, if_neg (by omega)]
  unfold prt2
  rw [hK.2.2.2.2.1, if_neg (by rw [show (110 : Int32) = nI 110 from rfl, pi_eq (by omega) (by omega)]; exact hx110), ks_next ht hK (by omega)]
  simp only [Option.bind_some]
  have e61 : (nI (cz c len (i + 2)) = (61 : Int32)) ↔ cz c len (i + 2) = 61 := pi_eq (b := 61) (by have := cz_lt (i := i + 2) ht; omega) (by omega)
  by_cases y : i + 2 < len ∧ c (i + 2) = 61
  · have ey : cz c len (i + 2) = 61 := by unfold cz; rw [if_pos y.1]; exact y.2
    rw [if_pos (e61.mpr ey)]
    simp only [Option.bind_some]
    obtain ⟨K2, e2, s2⟩ := ks_sign_ok hK
    rw [e2]
    simp only [Option.bind_some]
    rw [if_pos s2.2.2.2.1]
    obtain ⟨X, x1, x2⟩ := acc_eq hI1 (x := c (i + 2)) (by omega) (by omega)
    rw [if_pos y.2] at x1
    have hrun3 : Run c 3 i I X := Run.tr (n := 2) (m := 1) hrun (Run.one (by omega) x1 (isfr hI1 x2))
    have key : ∀ lo, kd x lo 40 → lo = (if c i = 112 then 10 else 8) → ∃ K', ((f_X8_number (nI lo) (40 : Int32) K2).bind fun z => some (gup z.2 129 14 z.1)) = some K' ∧ PB K0 c len i I K' := by
      intro lo hkd hlo
      obtain ⟨z, K3, I3, j, n1, n2, n3, n4, n5⟩ := number_both ht hkd (by omega) s2 x2
      rw [show f_X8_number (nI lo) (40 : Int32) K2 = some (z, K3) from n1]
      refine ⟨_, rfl, I3, j, by omega, n3, ?_, ?_⟩
      · rw [show j - i = 3 + (j - (i + 3)) by omega]; exact Run.tr hrun3 n4
      · rcases n5 with ⟨m1, m2, m3⟩ | ⟨v, m1, m2, m3, m4, m5, m6, m7, m8⟩
        · left
          exact ⟨by rw [ept, if_pos y, ← hlo, m1]; rfl, ⟨_, _, _, ks_14 m2⟩, m3⟩
        · right
          have hwh := wh_3 hkd m7 (by omega)
          rw [if_pos ⟨m5, m6⟩] at hwh
          refine ⟨x, c (i + 1) - 48, v, by rw [ept, if_pos y, ← hlo, m1, ecx]; rfl, ⟨_, _, _, ks_14 m2⟩, by omega, hwh, ?_, m8⟩
          have s14 := ks_14 (v := z) m2
          refine ⟨s14.2.2.2.2.1, m7.2.2.1, ?_⟩
          rcases hkd with ⟨rfl, rfl, _⟩ | ⟨rfl, rfl, _⟩ | ⟨rfl, _, _⟩
          · refine Or.inr (Or.inl ⟨rfl, ?_, m5, m6, s14.2.2.2.2.2.1, m7.2.2.2.1, by rw [s14.2.2.2.2.2.2, m4], m7.2.2.2.2⟩)
            rw [if_neg (by omega)] at hd; omega
          · refine Or.inr (Or.inr (Or.inr ⟨rfl, ?_, m5, m6, s14.2.2.2.2.2.1, m7.2.2.2.1, by rw [s14.2.2.2.2.2.2, m4], m7.2.2.2.2⟩))
            rw [if_pos (by omega)] at hd; omega
          · omega
    have e112 : (K2 129 12 = (112 : Int32)) ↔ x = 112 := by rw [s2.2.2.2.2.1]; exact pi_eq (b := 112) (by omega) (by omega)
    have e3 : ∀ (lo : Nat), ((f_X8_number (nI lo) (40 : Int32) K2).bind fun (r22, I21) => some (r22, I21)).bind (fun (p17, I18) => some (gup I18 129 14 p17)) = ((f_X8_number (nI lo) (40 : Int32) K2).bind fun z => some (gup z.2 129 14 z.1)) := by
      intro lo
      cases f_X8_number (nI lo) (40 : Int32) K2 <;> rfl
    by_cases q : x = 112
    · rw [if_pos (e112.mpr q)]
      have := key 10 (Or.inl ⟨q, rfl, rfl⟩) (by rw [if_pos (by omega)])
      rw [← e3 10] at this
      exact this
    · rw [if_neg (fun z => q (e112.mp z))]
      have := key 8 (Or.inr (Or.inl ⟨by omega, rfl, rfl⟩)) (by rw [if_neg (by omega)])
      rw [← e3 8] at this
      exact this
  · have ey : ¬ cz c len (i + 2) = 61 := by
      unfold cz
      by_cases q : i + 2 < len
      · rw [if_pos q]; exact fun z => y ⟨q, z⟩
      · rw [if_neg q]; omega
    rw [if_neg (fun z => ey (e61.mp z))]
    simp only [Option.bind_some]
    obtain ⟨K2, e2, s2⟩ := ks_sign_no hK
    rw [e2]
    simp only [Option.bind_some]
    rw [if_neg (by rw [s2.2.2.2.1]; decide)]
    refine ⟨_, rfl, I1, i + 2, by omega, by omega, by rw [show i + 2 - i = 2 by omega]; exact hrun, Or.inl ⟨by rw [ept, if_neg y], ⟨_, _, _, ks_14 s2⟩, ?_⟩⟩
    rcases Nat.lt_or_ge (i + 2) len with q | q
    · left
      refine ⟨q, ?_⟩
      by_cases y2 : c (i + 2) = 59
      · rw [y2]; exact rf_semi (wh_012 hI1 (Or.inr (Or.inr rfl)))
      · have := (ht.2.2 (i + 2) q).2.1
        obtain ⟨X, x1, x2⟩ := acc_eq hI1 (x := c (i + 2)) (by omega) y2
        rw [if_neg (fun z => y ⟨q, z⟩)] at x1
        exact ⟨X, x1, isfr hI1 x2⟩
    · right; exact ⟨by omega, wh_012 hI1 (Or.inr (Or.inr rfl))⟩
theorem part_dig {K0 I0 : Nat → Nat → Int32} {c : Nat → Nat} {len i x : Nat} {K I I1 : Nat → Nat → Int32} {a b t : Int32} (ht : TK K0 c len) (hilt : i < len) (hx : x = 112 ∨ x = 110 ∨ x = 99) (ecx : c i = x)
    (hK : KS K0 K (i + 1) 0 (nI x) a b) (hI1 : IS I0 I1 1 (nI x) t 0) (hrun : Run c 1 i I I1) :
    ∃ K', prt K = some K' ∧ PB K0 c len i I K' := by
  have ept : pt c len i = if i + 1 < len ∧ 48 ≤ c (i + 1) ∧ c (i + 1) ≤ (if c i = 99 then 51 else 55) then
        if c i = 110 then some (i + 2, 110, c (i + 1) - 48, 0)
        else if i + 2 < len ∧ c (i + 2) = 61 then (nP c len (if c i = 112 then 10 else 8) 40 (i + 3)).map fun g => (g.1, c i, c (i + 1) - 48, g.2)
        else none
      else none := by
    unfold pt
    rw [if_pos hilt, if_neg (by omega), if_pos (by omega)]
  have e116 : ¬ (K 129 12 = (116 : Int32)) := by rw [hK.2.2.2.2.1, show (116 : Int32) = nI 116 from rfl, pi_eq (by omega) (by omega)]; omega
  have e99 : (K 129 12 = (99 : Int32)) ↔ x = 99 := by rw [hK.2.2.2.2.1]; exact pi_eq (b := 99) (by omega) (by omega)
  unfold prt
  rw [if_neg e116]
  have key : ∀ p7 : Int32, (f_X8_in (nI (cz c len (i + 1)) - (48 : Int32)) 0 p7 = some (if 48 ≤ cz c len (i + 1) ∧ cz c len (i + 1) ≤ (if c i = 99 then 51 else 55) then 1 else 0)) → ∃ K', ((f_X8_digit (0 : Int32) p7 K).bind fun (r9, I8) => prt2 (gup I8 129 13 r9)) = some K' ∧ PB K0 c len i I K' := by
    intro p7 hin
    obtain ⟨K2, e2, q | q⟩ := ks_digit0 ht hK (by omega) hin
    · obtain ⟨q, s2⟩ := q
      have hlt : i + 1 < len := by
        rcases Nat.lt_or_ge (i + 1) len with h | h
        · exact h
        · rw [show cz c len (i + 1) = 0 from if_neg (by omega)] at q; omega
      have ecz : cz c len (i + 1) = c (i + 1) := if_pos hlt
      rw [ecz] at q e2
      have hc57 : c (i + 1) ≤ 57 := by have := q.2; split at this <;> omega
      have ed : nI (c (i + 1)) - (48 : Int32) = nI (c (i + 1) - 48) := pi_sub (b := 48) q.1
      rw [e2]
      simp only [Option.bind_some]
      have s3 := ks_13 (v := nI (c (i + 1)) - (48 : Int32)) s2
      rw [ed] at s3 ⊢
      obtain ⟨X, x1, x2⟩ := acc_target hI1 (x := c (i + 1)) (by omega) (by omega) (by omega)
      rw [if_pos (by rw [← ecx]; exact q)] at x1
      rw [ed] at x2
      have hrun2 : Run c 2 i I X := Run.tr (n := 1) (m := 1) hrun (Run.one (by omega) x1 (isfr hI1 x2))
      by_cases z : x = 110
      · rw [if_pos z] at x2
        refine ⟨gup K2 129 13 (nI (c (i + 1) - 48)), ?_, X, i + 2, by omega, by omega, by rw [show i + 2 - i = 2 by omega]; exact hrun2, Or.inr ⟨110, c (i + 1) - 48, 0, ?_, ⟨_, _, _, s3⟩, by omega, wh_4 x2, ⟨by rw [s3.2.2.2.2.1, z], by rw [x2.2.2.1, z], Or.inr (Or.inr (Or.inl ⟨rfl, ?_, s3.2.2.2.2.2.1, x2.2.2.2.1⟩))⟩, ?_⟩⟩
        · unfold prt2
          rw [if_pos (by rw [s3.2.2.2.2.1, z]; rfl)]
        · rw [ept, if_pos ⟨hlt, q⟩, if_pos (by omega)]
        · have := q.2
          rw [if_neg (by omega)] at this; omega
        · intro h h59
          have := (ht.2.2 (i + 2) h).2.1
          exact acc_end x2 (by omega) h59
      · rw [if_neg z] at x2
        exact part_num ht hlt (by omega) ecx q s3 x2 hrun2
    · obtain ⟨q, s2⟩ := q
      rw [e2]
      simp only [Option.bind_some]
      obtain ⟨K3, L3, a3, b3, e3, s3⟩ := ks_prt2_1 ht (ks_13 (v := nI (cz c len (i + 1)) - (48 : Int32)) s2) (by omega)
      refine ⟨K3, e3, I1, i + 1, by omega, by omega, by rw [show i + 1 - i = 1 by omega]; exact hrun, Or.inl ⟨?_, ⟨_, _, _, s3⟩, ?_⟩⟩
      · rw [ept, if_neg]
        intro z
        rw [show cz c len (i + 1) = c (i + 1) from if_pos z.1] at q
        exact q z.2
      · rcases Nat.lt_or_ge (i + 1) len with y | y
        · left
          refine ⟨y, ?_⟩
          by_cases y2 : c (i + 1) = 59
          · rw [y2]; exact rf_semi (wh_012 hI1 (Or.inr (Or.inl rfl)))
          · have := (ht.2.2 (i + 1) y).2.1
            rw [show cz c len (i + 1) = c (i + 1) from if_pos y] at q
            obtain ⟨X, x1, x2⟩ := acc_target hI1 (x := c (i + 1)) (by omega) (by omega) y2
            rw [if_neg (by rw [← ecx]; exact q)] at x1
            exact ⟨X, x1, isfr hI1 x2⟩
        · right; exact ⟨by omega, wh_012 hI1 (Or.inr (Or.inl rfl))⟩
  by_cases z : x = 99
  · rw [if_pos (e99.mpr z)]
    exact key 3 (by rw [if_pos (show c i = 99 by omega)]; exact dg_03 _ (cz_lt ht))
  · rw [if_neg (fun y => z (e99.mp y))]
    exact key 7 (by rw [if_neg (show ¬ c i = 99 by omega)]; exact dg_07 _ (cz_lt ht))
theorem ltr_e : ∀ x, x < 127 → ltr (nI x) = if x = 112 ∨ x = 110 ∨ x = 99 ∨ x = 116 then 1 else 0 := by decide
theorem part_both {K0 I0 : Nat → Nat → Int32} {c : Nat → Nat} {len i : Nat} {K I : Nat → Nat → Int32} {L a b k t : Int32} (ht : TK K0 c len) (hil : i ≤ len) (hK : KS K0 K i 0 L a b) (hI : IS I0 I 0 k t 0) :
    ∃ K', f_X8_part K = some K' ∧ PB K0 c len i I K' := by
  rw [part_e, ks_next ht hK hil]
  simp only [Option.bind_some]
  rw [ltr_e _ (cz_lt ht)]
  have s1 := ks_12 (v := nI (cz c len i)) hK
  by_cases q : cz c len i = 112 ∨ cz c len i = 110 ∨ cz c len i = 99 ∨ cz c len i = 116
  · have hilt : i < len := by
      rcases Nat.lt_or_ge i len with h | h
      · exact h
      · rw [show cz c len i = 0 from if_neg (by omega)] at q; omega
    have ecz : cz c len i = c i := if_pos hilt
    rw [if_pos q]
    rw [ecz] at q s1 ⊢
    obtain ⟨K2, e2, s2⟩ := ks_sign_ok s1
    rw [e2]
    simp only [Option.bind_some]
    obtain ⟨X, x1, x2⟩ := acc_kind hI (x := c i) (by omega) (by omega)
    rw [if_pos q] at x1
    have hrun : Run c 1 i I X := Run.one (by omega) x1 (isfr hI x2)
    by_cases z : c i = 116
    · rw [if_pos z] at x2
      have ept : pt c len i = (nP c len 1 200 (i + 1)).map fun g => (g.1, 116, 0, g.2) := by unfold pt; rw [if_pos hilt, if_pos z]
      have hkd : kd (c i) 1 200 := Or.inr (Or.inr ⟨z, rfl, rfl⟩)
      obtain ⟨y, K3, I3, j, n1, n2, n3, n4, n5⟩ := number_both ht hkd (by omega) s2 x2
      unfold prt
      rw [if_pos (by rw [s2.2.2.2.2.1, z]; rfl), show f_X8_number (1 : Int32) (200 : Int32) K2 = some (y, K3) from n1]
      refine ⟨_, rfl, I3, j, by omega, n3, ?_, ?_⟩
      · rw [show j - i = 1 + (j - (i + 1)) by omega]; exact Run.tr hrun n4
      · rcases n5 with ⟨m1, m2, m3⟩ | ⟨v, m1, m2, m3, m4, m5, m6, m7, m8⟩
        · left
          exact ⟨by rw [ept, m1]; rfl, ⟨_, _, _, ks_14 m2⟩, m3⟩
        · right
          have hwh := wh_3 hkd m7 (by omega)
          rw [if_pos ⟨m5, m6⟩] at hwh
          have s14 := ks_14 (v := y) m2
          exact ⟨116, 0, v, by rw [ept, m1]; rfl, ⟨_, _, _, s14⟩, by omega, hwh, ⟨by rw [← z]; exact s14.2.2.2.2.1, by rw [← z]; exact m7.2.2.1, Or.inl ⟨rfl, m5, m6, by rw [← m4]; exact s14.2.2.2.2.2.2, m7.2.2.2.2⟩⟩, m8⟩
    · rw [if_neg z] at x2
      exact part_dig ht hilt (by omega) rfl s2 x2 hrun
  · rw [if_neg q]
    obtain ⟨K2, e2, s2⟩ := ks_sign_no s1
    rw [e2]
    simp only [Option.bind_some]
    obtain ⟨K3, L3, a3, b3, e3, s3⟩ := ks_prt_1 ht s2 hil
    refine ⟨K3, e3, I, i, Nat.le_refl _, hil, by rw [Nat.sub_self]; exact rfl, Or.inl ⟨?_, ⟨_, _, _, s3⟩, ?_⟩⟩
    · unfold pt
      by_cases y : i < len
      · rw [show cz c len i = c i from if_pos y] at q
        rw [if_pos y, if_neg (by omega), if_neg (by omega)]
      · rw [if_neg y]
    · rcases Nat.lt_or_ge i len with y | y
      · left
        refine ⟨y, ?_⟩
        by_cases y2 : c i = 59
        · rw [y2]; exact rf_semi (wh_012 hI (Or.inl rfl))
        · have := (ht.2.2 i y).2.1
          rw [show cz c len i = c i from if_pos y] at q
          obtain ⟨X, x1, x2⟩ := acc_kind hI (x := c i) (by omega) y2
          rw [if_neg q] at x1
          exact ⟨X, x1, isfr hI x2⟩
      · right; exact ⟨by omega, wh_012 hI (Or.inl rfl)⟩
