/-! The text read and followed, order by order. -/
def kz (c : Nat → Nat) (len i : Nat) : Nat → Nat → Int32 := fun q f => if q = 129 then (if f = 7 then nI len else if f = 10 then nI i else 0) else if q = 135 then nI (c f) else 0
theorem kz_tk {c : Nat → Nat} {len i : Nat} (hl : len ≤ 60) (hc : ∀ k, k < len → 33 ≤ c k ∧ c k ≤ 126) : TK (kz c len i) c len := ⟨rfl, hl, fun j hj => ⟨(hc j hj).1, (hc j hj).2, rfl⟩⟩
theorem kz_ks {c : Nat → Nat} {len i : Nat} : KS (kz c len i) (kz c len i) i 0 0 0 0 := ⟨fun _ _ => rfl, fun _ _ => rfl, rfl, rfl, rfl, rfl, rfl⟩
theorem seg_run {I0 I : Nat → Nat → Int32} {c : Nat → Nat} {len i j : Nat} {o : Nat × Nat × Nat} {k t : Int32} (hl : len ≤ 60) (hc : ∀ k, k < len → 33 ≤ c k ∧ c k ≤ 126) (hi : i ≤ len) (hI : IS I0 I 0 k t 0) (hp : pt c len i = some (j, o)) : ∃ I' K', i < j ∧ j ≤ len ∧ Run c (j - i) i I I' ∧ f_X1_isWhole I' = some 1 ∧ PR I' K' o.1 o.2.1 o.2.2 := by
  obtain ⟨K', _, I', j', h1, h2, h3, hh⟩ := part_both (kz_tk (i := i) hl hc) hi kz_ks hI
  rcases hh with ⟨e, _⟩ | ⟨k', w, v, e, _, hij, hw, hpr, _⟩
  · rw [hp] at e; exact absurd e (by simp)
  · rw [hp] at e
    have e := Option.some.inj e
    obtain rfl : j = j' := congrArg (fun z => z.1) e
    obtain rfl : o = (k', w, v) := congrArg (fun z => z.2) e
    exact ⟨I', K', hij, h2, h3, hw, hpr⟩
theorem read_l {c : Nat → Nat} {len : Nat} (hl : len ≤ 60) (hc : ∀ k, k < len → 33 ≤ c k ∧ c k ≤ 126) : ∀ (os : List (Nat × Nat × Nat)) (i fuel : Nat) (I I0 : Nat → Nat → Int32) (k t : Int32), Segs c len os i → TI I c len → IS I0 I 0 k t 0 → i ≤ len → len - i < fuel → ∃ I', f_X7_readText_L9 fuel (nI i) I = some (nI len, I') ∧ f_X1_isWhole I' = some 1 ∧ ∀ q, q ≠ 128 → I' q = I q := by
  intro os
  induction os with
  | nil => intro i fuel I I0 k t h; exact h.elim
  | cons o r ih =>
    intro i fuel I I0 k t h hT hI hi hf
    cases r with
    | nil =>
      have h : Shp c i len o := h
      obtain ⟨I', K', p1, p2, p3, p4, _⟩ := seg_run hl hc hi hI (pt_of h (Or.inl rfl))
      obtain ⟨f, hf2⟩ : ∃ f, fuel = (f + 1) + (len - i) := ⟨fuel - (len - i) - 1, by omega⟩
      refine ⟨I', ?_, p4, p3.fr⟩
      rw [hf2, l9_run (len - i) i (f + 1) I I' hT p3 (by omega), show i + (len - i) = len by omega]
      exact l9_end (hT.k p3.fr)
    | cons o' r =>
      obtain ⟨j, h1, h2, h3, h4⟩ := h
      obtain ⟨I', K', p1, p2, p3, p4, _⟩ := seg_run hl hc hi hI (pt_of h1 (Or.inr ⟨h2, h3⟩))
      obtain ⟨f, hf2⟩ : ∃ f, fuel = (f + 1) + (j - i) := ⟨fuel - (j - i) - 1, by omega⟩
      have hT' := hT.k p3.fr
      obtain ⟨X, x1, x2⟩ := is_start (I0 := I') (I := I') (fun _ _ => rfl)
      obtain ⟨I2, q1, q2, q3⟩ := ih (j + 1) f X I' 32 (-1) h4 (hT'.k x2.f) x2 (by omega) (by omega)
      refine ⟨I2, ?_, q2, fun q hq => (q3 q hq).trans ((x2.f q hq).trans (p3.fr q hq))⟩
      rw [hf2, l9_run (j - i) i (f + 1) I I' hT p3 (by omega), show i + (j - i) = j by omega, f_X7_readText_L9, hT'.1, if_neg (by rw [pi_le (by omega) (by omega)]; omega), x2_at hT' h2]
      refine sq1 rfl ?_
      rw [h3, semi_ok p4, x1]
      refine sq1 rfl ?_
      refine ifn (by decide) ?_
      rw [hlet_e, show nI j + (1 : Int32) = nI (j + 1) from pi_add j 1]
      exact q1
/-- what an order does to the row of a race -/
def OS (n : Nat) (o : Nat × Nat × Nat) (s s' : Nat → Int32) : Prop :=
  (o.1 = 116 ∧ o.2.2 = 1 ∧ s 150 = 1 ∧ ∃ (K K' : Nat → Nat → Int32) (v : Int32), K 130 = s ∧ f_X8_passes (nI 1) K = some (v, K') ∧ K' 130 = s') ∨
  (o.1 = 110 ∧ o.2.1 < n ∧ s (16 * o.2.1 + 6) ≠ 3 ∧ s' = wpd s (16 * o.2.1 + 9) (if s (16 * o.2.1 + 9) = 0 then 1 else 0)) ∨
  (o.1 = 112 ∧ o.2.1 < n ∧ Bd (nI o.2.2) 10 40 ∧ s' = wpd s (16 * o.2.1 + 0) (nI o.2.2))
def OSs (n : Nat) : List (Nat × Nat × Nat) → (Nat → Int32) → (Nat → Int32) → Prop
  | [], s, s' => s = s'
  | o :: r, s, s' => ∃ s1, OS n o s s1 ∧ OSs n r s1 s'
theorem OSs.snoc {n : Nat} {o : Nat × Nat × Nat} {s' s2 : Nat → Int32} (h2 : OS n o s' s2) : ∀ (os : List (Nat × Nat × Nat)) (s : Nat → Int32), OSs n os s s' → OSs n (os ++ [o]) s s2 := by
  intro os
  induction os with
  | nil => intro s h; exact ⟨s2, by rw [show s = s' from h]; exact h2, rfl⟩
  | cons a r ih =>
    intro s h
    obtain ⟨s1, h3, h4⟩ := h
    exact ⟨s1, h3, ih s1 h4⟩
theorem order_ls {I K : Nat → Nat → Int32} {O : Nat → Nat → Option Nat} {n : Nat} {s s' : Nat → Int32} {o : Nat × Nat × Nat} (h : RR I 13 s n) (hp : PR I K o.1 o.2.1 o.2.2) (hos : OS n o s s') : ∃ I1 O1, f_X7_followOneOnTrial I O = some ((1 : Int32), I1, O1) ∧ RR I1 13 s' n ∧ (∀ a, a < 13 ∨ 25 ≤ a → I1 a = I a) ∧ FO 13 O O1 := by
  obtain ⟨k, w, v⟩ := o
  have hn := h.2.2.2.1.1.2
  have h3 : I 13 3 = nI n := h.1.1.1.trans h.2.2.2.1.1.1
  have h5 : I 13 5 = s 150 := h.1.1.2.2.1
  obtain ⟨-, p2, p3⟩ := hp
  dsimp only at p2 p3
  rcases hos with ⟨e1, e2, e3, Ks, Ks', v', k1, k2, k3⟩ | ⟨e1, e2, e3, e4⟩ | ⟨e1, e2, e3, e4⟩
  · obtain rfl : k = 116 := e1
    obtain rfl : v = 1 := e2
    subst k1
    rcases p3 with ⟨_, q1, q2, q3, q4⟩ | ⟨z, _⟩ | ⟨z, _⟩ | ⟨z, _⟩ <;> try omega
    obtain ⟨r0, e0⟩ := x3_at_some (I := I) (β := 13) (I 128 2)
    obtain ⟨I', O', K', u, a1, a2, a3, a4, a5, a6, a7⟩ := pass_both (O := O) (m := 1) isB13 (by omega) h
    rw [k2] at a2
    obtain rfl : Ks' = K' := congrArg (fun z => z.2) (Option.some.inj a2)
    subst k3
    refine ⟨I', O', ?_, a3, fun a ha => a6 a (by omega), a7⟩
    unfold f_X7_followOneOnTrial
    rw [p2, q4, h5]
    refine sq1 e0 ?_
    refine ifn (by decide) (ifn (by decide) (ifn (by decide) (ifn (by rw [e3]; decide) ?_)))
    exact sq1 a1 rfl
  · obtain rfl : k = 110 := e1
    have e2 : w < n := e2
    rcases p3 with ⟨z, _⟩ | ⟨z, _⟩ | ⟨_, q0, q3, q4⟩ | ⟨z, _⟩ <;> try omega
    have h9 : I (cB 13 w) 9 = s (16 * w + 6) := (h.1.2.2.1 w e2).2.2.2.2.2.2.2.2.1
    have h11 : I (cB 13 w) 11 = s (16 * w + 9) := (h.1.2.2.1 w e2).2.2.2.2.2.2.2.2.2.2.1
    have e3 : s (16 * w + 6) ≠ 3 := e3
    subst e4
    refine ⟨gup I (cB 13 w) 11 (if s (16 * w + 9) = 0 then 1 else 0), O, ?_, RR_call e2 (by split; exact Or.inr rfl; exact Or.inl rfl) h, fun a ha => gup_ne (by unfold cB; omega), fun _ _ => rfl⟩
    unfold f_X7_followOneOnTrial
    rw [p2, q4]
    refine sq1 (x3_atb h3 hn e2) ?_
    refine ifn (by decide) (ifp rfl ?_)
    rw [hopt_e2, hk_e (sk_b isB13 (by omega)), h9, h11]
    refine ifn e3 ?_
    by_cases c : s (16 * w + 9) = 0
    · rw [if_pos c, if_pos c]; rfl
    · rw [if_neg c, if_neg c]; rfl
  · obtain rfl : k = 112 := e1
    have e2 : w < n := e2
    rcases p3 with ⟨z, _⟩ | ⟨_, q0, q1, q2, q3, q4, q5, q6⟩ | ⟨z, _⟩ | ⟨z, _⟩ <;> try omega
    subst e4
    refine ⟨gup I (cB 13 w) 1 (nI v), O, ?_, RR_bird e2 (by unfold bPair; omega) (by omega) (by omega) (by unfold okv; left; exact ⟨rfl, e3⟩) h, fun a ha => gup_ne (by unfold cB; omega), fun _ _ => rfl⟩
    unfold f_X7_followOneOnTrial
    rw [p2, q4, q6]
    refine sq1 (x3_atb h3 hn e2) ?_
    refine ifn (by decide) (ifn (by decide) (ifp rfl ?_))
    rw [hopt_e2, hk_e (sk_b isB13 (by omega))]; rfl
theorem foll_l {c : Nat → Nat} {len n : Nat} (hl : len ≤ 60) (hc : ∀ k, k < len → 33 ≤ c k ∧ c k ≤ 126) : ∀ (os : List (Nat × Nat × Nat)) (i cnt fuel : Nat) (I I0 : Nat → Nat → Int32) (O : Nat → Nat → Option Nat) (k t : Int32) (s s' : Nat → Int32), Segs c len os i → OSs n os s s' → TI I c len → IS I0 I 0 k t 0 → RR I 13 s n → i ≤ len → len - i < fuel → ∃ I' O', f_X7_followOnTrial_L22 fuel (nI cnt) (nI i) I O = some (nI (cnt + os.length), I', O') ∧ RR I' 13 s' n ∧ (∀ a, a < 13 ∨ (25 ≤ a ∧ a ≠ 128) → I' a = I a) ∧ FO 13 O O' := by
  intro os
  induction os with
  | nil => intro i cnt fuel I I0 O k t s s' h; exact h.elim
  | cons o r ih =>
    intro i cnt fuel I I0 O k t s s' h hos hT hI hR hi hf
    obtain ⟨s1, ho, hos⟩ := hos
    cases r with
    | nil =>
      have h : Shp c i len o := h
      obtain ⟨I', K', p1, p2, p3, p4, p5⟩ := seg_run hl hc hi hI (pt_of h (Or.inl rfl))
      obtain ⟨f, hf2⟩ : ∃ f, fuel = (f + 1) + (len - i) := ⟨fuel - (len - i) - 1, by omega⟩
      have hT' := hT.k p3.fr
      have hR' : RR I' 13 s n := RR_I (fun a q1 q2 => p3.fr a (by omega)) hR
      obtain ⟨I1, O1, a1, a2, a3, a4⟩ := order_ls (O := O) hR' p5 ho
      obtain rfl : s1 = s' := hos
      refine ⟨I1, O1, ?_, a2, fun a ha => (a3 a (by omega)).trans (p3.fr a (by omega)), a4⟩
      rw [hf2, l22_run (len - i) i (f + 1) (nI cnt) I I' O hT p3 (by omega), show i + (len - i) = len by omega, f_X7_followOnTrial_L22, hT'.1]
      refine ifp (by rw [pi_le (by omega) (by omega)]; omega) ?_
      refine sq1 a1 ?_
      exact ifn (by decide) (by rw [show nI cnt + (1 : Int32) = nI (cnt + 1) from pi_add cnt 1]; rfl)
    | cons o' r =>
      obtain ⟨j, h1, h2, h3, h4⟩ := h
      obtain ⟨I', K', p1, p2, p3, p4, p5⟩ := seg_run hl hc hi hI (pt_of h1 (Or.inr ⟨h2, h3⟩))
      obtain ⟨f, hf2⟩ : ∃ f, fuel = (f + 1) + (j - i) := ⟨fuel - (j - i) - 1, by omega⟩
      have hT' := hT.k p3.fr
      have hR' : RR I' 13 s n := RR_I (fun a q1 q2 => p3.fr a (by omega)) hR
      obtain ⟨I1, O1, a1, a2, a3, a4⟩ := order_ls (O := O) hR' p5 ho
      have w1 : f_X1_isWhole I1 = some 1 := (wh_c (a3 128 (by omega))).trans p4
      obtain ⟨X, x1, x2⟩ := is_start (I0 := I1) (I := I1) (fun _ _ => rfl)
      have hT1 : TI X c len := by
        refine ⟨?_, hT'.2.1, fun q hq => ?_⟩
        · rw [x2.f 126 (by omega), a3 126 (by omega)]; exact hT'.1
        · rw [x2.f 127 (by omega), a3 127 (by omega)]; exact hT'.2.2 q hq
      obtain ⟨I2, O2, q1, q2, q3, q4⟩ := ih (j + 1) (cnt + 1) f X I1 O1 32 (-1) s1 s' h4 hos hT1 x2 (RR_I (fun a q1 q2 => x2.f a (by omega)) a2) (by omega) (by omega)
      refine ⟨I2, O2, ?_, q2, fun a ha => (q3 a ha).trans ((x2.f a (by omega)).trans ((a3 a (by omega)).trans (p3.fr a (by omega)))), a4.tr q4⟩
      rw [hf2, l22_run (j - i) i (f + 1) (nI cnt) I I' O hT p3 (by omega), show i + (j - i) = j by omega, f_X7_followOnTrial_L22, hT'.1]
      refine ifn (by rw [pi_le (by omega) (by omega)]; omega) ?_
      refine sq1 (x2_at hT' h2) ?_
      rw [h3]
      refine hl1 ?_
      refine ifp rfl ?_
      refine sq1 a1 (ifn (by decide) ?_)
      refine hl1 ?_
      refine sq1 (a := ((1 : Int32), X)) (by rw [semi_ok w1, x1]; rfl) ?_
      refine hl1 ?_
      rw [show nI j + (1 : Int32) = nI (j + 1) from pi_add j 1, show nI cnt + (1 : Int32) = nI (cnt + 1) from pi_add cnt 1]
      rw [show cnt + (o :: o' :: r).length = cnt + 1 + (o' :: r).length by simp only [List.length_cons]; omega]
      exact q1
