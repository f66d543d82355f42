theorem zt_int {args : Array Value} {s : State} (h : (Cond.arrayClass .int).before args s = true) : ∃ cA, ArrOfT s cA .int ∧ va_RA s cA .int := by
  obtain ⟨c, k, comp, h1, h2, h3⟩ := Cond.arrayClass_spec h
  exact ⟨c, fun N z => ⟨(fun k h => by cases h), k, h2, comp, h3⟩, h1⟩
theorem zt_bool {args : Array Value} {s : State} (h : (Cond.arrayClass .boolean).before args s = true) : ∃ cA, ArrOfT s cA .boolean ∧ va_RA s cA .boolean := by
  obtain ⟨c, k, comp, h1, h2, h3⟩ := Cond.arrayClass_spec h
  exact ⟨c, fun N z => ⟨(fun k h => by cases h), k, h2, comp, h3⟩, h1⟩
theorem zt_char {args : Array Value} {s : State} (h : (Cond.arrayClass .char).before args s = true) : ∃ cA, ArrOfT s cA .char ∧ va_RA s cA .char := by
  obtain ⟨c, k, comp, h1, h2, h3⟩ := Cond.arrayClass_spec h
  exact ⟨c, fun N z => ⟨(fun k h => by cases h), k, h2, comp, h3⟩, h1⟩
theorem zt_obj {args : Array Value} {s : State} {C : String} (h : (Cond.arrayOver (.object C)).before args s = true) : ∃ cA, ArrOfT s cA (.object C) ∧ va_RA s cA (.object C) := by
  obtain ⟨comp, c, k, h1, _, h2, h3, h4⟩ := Cond.arrayOver_spec h
  exact ⟨c, fun N z => ⟨(fun k h => by cases h), k, h2, comp, h3⟩, k, comp, h2, h3, h1, h4⟩
theorem zt_over6 : Cond.arrayOver (.object RX6) ∈ lw_tbl := by decide +kernel
theorem zt_over3 : Cond.arrayOver (.object RX3) ∈ lw_tbl := by decide +kernel
theorem zt_K {args : Array Value} {s : State} (hts : ∀ w ∈ lw_tbl, w.before args s = true) : ∃ dC dI ca, va_K (dC, dI) vwCl (hT ca) s := by
  obtain ⟨c0, i0, k0⟩ := u_known (C := RX0) (T := TX0) (N := 1) (n := 1) hts in_wsX00 (hts (.instantiable RX0 1) (by decide +kernel))
  obtain ⟨c1, i1, k1⟩ := u_known (C := RX1) (T := TX1) (N := 4) (n := 4) hts in_wsX10 (hts (.instantiable RX1 4) (by decide +kernel))
  obtain ⟨c2, i2, k2⟩ := u_known (C := RX2) (T := TX2) (N := 2) (n := 2) hts in_wsX20 (hts (.instantiable RX2 2) (by decide +kernel))
  obtain ⟨c3, i3, k3⟩ := u_known (C := RX3) (T := TX3) (N := 14) (n := 14) hts in_wsX30 (hts (.instantiable RX3 14) (by decide +kernel))
  obtain ⟨c4, i4, k4⟩ := u_known (C := RX4) (T := TX4) (N := 2) (n := 2) hts in_wsX40 (hts (.instantiable RX4 2) (by decide +kernel))
  obtain ⟨c5, i5, k5⟩ := u_known (C := RX5) (T := TX5) (N := 2) (n := 2) hts in_wsX50 (hts (.instantiable RX5 2) (by decide +kernel))
  obtain ⟨c6, i6, k6⟩ := u_known (C := RX6) (T := TX6) (N := 15) (n := 15) hts in_wsX60 (hts (.instantiable RX6 15) (by decide +kernel))
  obtain ⟨c7, i7, k7⟩ := u_known (C := RX7) (T := TX7) (N := 6) (n := 6) hts in_wsX70 (hts (.instantiable RX7 6) (by decide +kernel))
  obtain ⟨a0, r0⟩ := zt_int (hts (.arrayClass .int) (by decide +kernel))
  obtain ⟨a1, r1⟩ := zt_bool (hts (.arrayClass .boolean) (by decide +kernel))
  obtain ⟨a2, r2⟩ := zt_char (hts (.arrayClass .char) (by decide +kernel))
  obtain ⟨a4, r4⟩ := zt_obj (hts _ zt_over6)
  obtain ⟨a5, r5⟩ := zt_obj (hts _ zt_over3)
  refine ⟨fun k => match k with | 0 => c0 | 1 => c1 | 2 => c2 | 3 => c3 | 4 => c4 | 5 => c5 | 6 => c6 | _ => c7, fun k => match k with | 0 => i0 | 1 => i1 | 2 => i2 | 3 => i3 | 4 => i4 | 5 => i5 | 6 => i6 | _ => i7, fun k => match k with | 0 => a0 | 1 => a1 | 2 => a2 | 3 => a0 | 4 => a4 | _ => a5, fun k q hq => ?_, fun k q hq => ?_⟩
  · match k, hq with
    | 0, hq => cases hq; exact k0
    | 1, hq => cases hq; exact k1
    | 2, hq => cases hq; exact k2
    | 3, hq => cases hq; exact k3
    | 4, hq => cases hq; exact k4
    | 5, hq => cases hq; exact k5
    | 6, hq => cases hq; exact k6
    | 7, hq => cases hq; exact k7
    | k + 8, hq => cases hq
  · match k, hq with
    | 0, hq => cases hq; exact r0
    | 1, hq => cases hq; exact r1
    | 2, hq => cases hq; exact r2
    | 3, hq => cases hq; exact r0
    | 4, hq => cases hq; exact r4
    | 5, hq => cases hq; exact r5
    | k + 6, hq => cases hq
theorem zt_str : ∀ q ∈ gTx, Cond.stringRef RX7 q.1 q.2 ∈ lw_tbl := by decide +kernel
theorem zt_cast : ∀ k, k < 3 → Cond.castable (gEn k) (gEn k) ∈ lw_tbl := by decide +kernel
theorem zt_decl : ∀ y ∈ gDx, Cond.declares y ∈ lw_tbl := by decide +kernel
theorem zt_nest : ∀ q ∈ gNx, Cond.methodLinkNest RX7 q.1 q.2 "SparrowRace" ∈ lw_tbl := by decide +kernel
theorem zt_exact {args : Array Value} {s : State} (hgv : (Jvm.Cond.and given_1 narrow_1).before args s = true) : ∀ q ∈ gTx, (Cond.exactly (.string RX7 q.1) "java/lang/String").before args s = true := by
  have hs := flat_of_before _ hgv
  intro q hq
  refine hs _ ?_
  revert hq
  revert q
  decide +kernel
theorem zt_ncast {args : Array Value} {s : State} (hgv : (Jvm.Cond.and given_1 narrow_1).before args s = true) : ∀ i, i < 3 → ∀ j, j < 3 → i ≠ j → (Cond.not (.castable (gEn i) (gEn j))).before args s = true := by
  have hs := flat_of_before _ hgv
  intro i hi j hj hij
  refine hs _ ?_
  revert hij
  revert hj
  revert j
  revert hi
  revert i
  decide +kernel
theorem zt_Th {args : Array Value} {s : State} {A : Nat → Prop} (hts : ∀ w ∈ lw_tbl, w.before args s = true) (hgv : (Jvm.Cond.and given_1 narrow_1).before args s = true) (hA : ∀ a : Nat, a < s.heap.size → ¬ A a) : gTh A s s.heap := by
  have hs := flat_of_before _ hgv
  refine ⟨fun q hq => ?_, ⟨fun k hk => va_Nw.of rfl (hts _ (zt_cast k hk)), fun y hy => va_Nw.of rfl (hts _ (zt_decl y hy)), fun q hq => va_Nw.of rfl (hts _ (zt_nest q hq)), fun i j hi hj hij => va_Nc.of (zt_ncast hgv i hi j hj hij)⟩, ?_, ?_⟩
  · obtain ⟨a, c, cell, k, h3, _⟩ := Cond.exactly_spec (zt_exact hgv q hq)
    exact ⟨a, vk_R.of (hts _ (zt_str q hq)) h3⟩
  · exact vx_Zqof (hts (.laysStatic Bundle.tN "UNASSIGNED_STACK" Bundle.steD) (by decide +kernel)) (hts (.initialized Bundle.tN) (by decide +kernel)) (hs (.isRef (.static Bundle.tN "UNASSIGNED_STACK" Bundle.steD)) (by decide +kernel)) hA
  · exact vx_Zqof (hts (.laysStatic Bundle.tN "SUPPRESSED_SENTINEL" Bundle.listD) (by decide +kernel)) (hts (.initialized Bundle.tN) (by decide +kernel)) (hs (.isRef (.static Bundle.tN "SUPPRESSED_SENTINEL" Bundle.listD)) (by decide +kernel)) hA
/-! the world as it is made is the first world -/
theorem w0I_6 {a : Nat} (h : SHK a = 6) : w0I a = fun i => if i = 0 then nI (bno a) else if i = 12 then -1 else 0 := by
  funext i
  unfold w0I
  rw [if_pos h]
theorem w0I_3 {a : Nat} (h : SHK a = 3) : w0I a = fun i => if i = 4 then 2 else 0 := by
  funext i
  unfold w0I
  rw [if_neg (by omega), if_pos h]
theorem w0I_20 {a : Nat} (h : SHK a = 20) (h2 : a < 126) : w0I a = fun i => if i < 4 then 20 else 0 := by
  funext i
  unfold w0I
  rw [if_neg (by omega), if_neg (by omega), if_pos ⟨h, h2⟩]
theorem w0O_n {a : Nat} (h : a ≠ 26) : w0O a = fun _ => none := by
  funext i
  unfold w0O
  rw [if_neg (fun c => h c.1)]
def shb (β : Nat) : Bool := decide (SHK β = 3) && decide (SHK (β + 1) = 24) && decide (SHK (β + 2) = 26) && decide (SHK (β + 3) = 20) && decide (SHL (β + 3) = 4) && decide (β + 3 < 126) && decide (β + 2 ≠ 26) && (List.range 8).all (fun i => decide (SHK (β + 4 + i) = 6) && decide (bno (β + 4 + i) = i))
theorem shb_k : ∀ k, k < 6 → shb (27 + 12 * k) = true := by decide +kernel
theorem shb_b {β : Nat} (h : IsB β) : shb β = true := by
  rcases h with rfl | rfl | ⟨k, hk, rfl⟩ | rfl | rfl
  · decide +kernel
  · decide +kernel
  · exact shb_k k hk
  · decide +kernel
  · decide +kernel
theorem zkRace.h {ca : Nat → ClassId} {β : Nat} {b : Nat → Nat} {E : Nat → va_E} (h : zkRace ca β b E) (hB : IsB β) : ∀ j, j < 12 → E (β + j) = hEc ca b (w0I (β + j)) (w0O (β + j)) (w0J (β + j)) (β + j) := by
  have hs := shb_b hB
  unfold shb at hs
  simp only [Bool.and_eq_true, decide_eq_true_eq] at hs
  obtain ⟨⟨⟨⟨⟨⟨⟨s0, s1⟩, s2⟩, s3⟩, sl⟩, s4⟩, s5⟩, s6⟩ := hs
  obtain ⟨h0, h1, h2, h3, h4⟩ := h
  intro j hj
  by_cases j0 : j = 0
  · subst j0
    rw [Nat.add_zero, hE_3 s0, w0I_3 s0]; exact h0
  by_cases j1 : j = 1
  · subst j1
    rw [hE_24 s1]; exact h1
  by_cases j2 : j = 2
  · subst j2
    rw [hE_26 s2, w0O_n s5]; exact h2
  by_cases j3 : j = 3
  · subst j3
    rw [hE_20 s3, sl, w0I_20 s3 s4]; exact h3
  obtain ⟨i, rfl⟩ : ∃ i, j = 4 + i := ⟨j - 4, by omega⟩
  have s7 := List.all_eq_true.mp s6 i (List.mem_range.mpr (by omega))
  simp only [Bool.and_eq_true, decide_eq_true_eq] at s7
  obtain ⟨e1, e2⟩ := s7
  have e := h4 i (by omega)
  rw [← Nat.add_assoc, hE_6 e1, w0I_6 e1, e2]; exact e
theorem zk_rows {b : Nat → Nat} : (fun k => (ov 3 (w0O 26 k)).map b) = (fun j => if j < 6 then some (b (27 + 12 * j)) else none) := by
  funext k
  by_cases c : k < 6
  · have e : w0O 26 k = some (27 + 12 * k) := if_pos ⟨rfl, c⟩
    rw [if_pos c, e, ov_some ((by decide +kernel : ∀ k, k < 6 → SHK (27 + 12 * k) = 3) k c)]; rfl
  · have e : w0O 26 k = none := if_neg (fun h => c h.2)
    rw [if_neg c, e]; rfl
theorem zk_slots {b : Nat → Nat} : (fun j => if j < 2 then some (b (102 + 12 * j)) else none) = (fun k => if k = 0 then some (b 102) else if k = 1 then some (b 114) else none) := by
  funext k
  by_cases c : k = 0
  · subst c; rfl
  · by_cases d : k = 1
    · subst d; rfl
    · rw [if_neg (by omega), if_neg c, if_neg d]
theorem zk_first {ca : Nat → ClassId} {b : Nat → Nat} {E : Nat → va_E} (hg : zkGame ca b E) : ∀ n, n < 129 → E n = hEc ca b (w0I n) (w0O n) (w0J n) n := by
  obtain ⟨g0, g1, g13, ⟨g25, g26, gs⟩, ⟨g99, g100, g101, gl⟩, ⟨g126, g127⟩, g128⟩ := hg
  intro n hn
  have race : ∀ β, zkRace ca β b E → IsB β → β ≤ n → n < β + 12 → E n = hEc ca b (w0I n) (w0O n) (w0J n) n := fun β h hB h1 h2 => by
    obtain ⟨j, rfl⟩ : ∃ j, n = β + j := ⟨n - β, by omega⟩
    exact h.h hB j (by omega)
  by_cases c0 : n = 0
  · subst c0; rw [hE_7 (by decide)]; exact g0
  by_cases c1 : n < 13
  · exact race 1 g1 isB1 (by omega) (by omega)
  by_cases c2 : n < 25
  · exact race 13 g13 isB13 (by omega) (by omega)
  by_cases c3 : n = 25
  · subst c3; rw [hE_4 (by decide)]; exact g25
  by_cases c4 : n = 26
  · subst c4; rw [hE_25 (by decide), zk_rows]; exact g26
  by_cases c5 : n < 99
  · exact race (27 + 12 * ((n - 27) / 12)) (gs _ (by omega)) (Or.inr (Or.inr (Or.inl ⟨_, by omega, rfl⟩))) (by omega) (by omega)
  by_cases c6 : n = 99
  · subst c6; rw [hE_5 (by decide)]; exact g99
  by_cases c7 : n = 100
  · subst c7; rw [hE_27 (by decide), ← zk_slots]; exact g100
  by_cases c8 : n = 101
  · subst c8; rw [hE_21 (by decide)]; exact g101
  by_cases c9 : n < 126
  · rcases Nat.lt_or_ge n 114 with d | d
    · exact race 102 (gl 0 (by omega)) (Or.inr (Or.inr (Or.inr (Or.inl rfl)))) (by omega) (by omega)
    · exact race 114 (gl 1 (by omega)) (Or.inr (Or.inr (Or.inr (Or.inr rfl)))) (by omega) (by omega)
  obtain ⟨m, hm, rfl⟩ : ∃ m, m < 3 ∧ n = 126 + m := ⟨n - 126, by omega, by omega⟩
  match m, hm with
  | 0, _ => rw [hE_2 (by decide)]; exact g126
  | 1, _ => rw [hE_22 (by decide)]; exact g127
  | 2, _ => rw [hE_1 (by decide)]; exact g128
  | m + 3, h => exact absurd h (by omega)
theorem zk_hW {ca : Nat → ClassId} {b : Nat → Nat} {E : Nat → va_E} {I : Nat → Nat → Int32} {O : Nat → Nat → Option Nat} {J : Nat → Nat → Int64} {N : Nat} (h : ∀ n, n < N → E n = hEc ca b (I n) (O n) (J n) n) : zkW N b E = hW N ca b I O J := by
  unfold zkW hW
  apply List.map_congr_left
  intro k hk
  rw [h k (List.mem_range.mp hk)]
theorem zk_Ad {A : Nat → Prop} {N : Nat} {b : Nat → Nat} {E : Nat → va_E} (hD : va_D A (zkW N b E)) : gAd A b N :=
  ⟨fun n hn => hD.2 n _ (zkW_at hn rfl), fun i j hi hj e => hD.1 i j _ _ (zkW_at hi rfl) (zkW_at hj rfl) e⟩
