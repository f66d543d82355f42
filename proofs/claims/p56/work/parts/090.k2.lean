def sp0 : List Value := [.int 0, .int 0, .int 0, .int 0, .int 0, .int 0, .int 0, .int 0, .int 0, .int 0, .int 0, .int 0, .int 0, .int 0, .int 0]
def spv (i : Int32) : List Value := [.int i, .int 0, .int 0, .int 0, .int 0, .int 0, .int 0, .int 0, .int 0, .int 0, .int 0, .int 0, .int (-1), .int 0, .int 0]
def rc0 : List Value := [.null, .null, .null, .int 0, .int 0, .int 0, .int 0, .int 0, .int 0, .int 0, .int 0, .int 0, .int 0, .int 0]
set_option maxHeartbeats 8000000 in
set_option maxRecDepth 100000 in
theorem zc_X6_init {l : Launch} {dC : Nat → ClassId} {dI : Nat → Nat → Nat} {ca : Nat → ClassId} {A : Nat → Prop} {N n0 a0 : Nat} {b : Nat → Nat} {E : Nat → va_E} (i : Int32) (hn : n0 < N) (ha : b n0 = a0) (hE : E n0 = .inr (6, sp0)) : Met l yX6_init wsX6_init ({ frames := 1, cells := 0, slots := 0, locals := 40 } : Room) (va_Pc [.ref a0, .int i] (zkPre dC dI ca A N b E)) (va_Qv (fun (u : (Nat → Nat) × (Nat → va_E)) => u.1 = b ∧ (∀ k, k ≠ n0 → u.2 k = E k) ∧ u.2 n0 = .inr (6, spv i)) (fun u t => zkEnd dC dI A N u t.heap) A) 0 0 A := by
  refine Met.ofW (cc := cX6_init) (maxL := 2) (ret := none) (by decide) rfl ?_
  intro p e s m args below meth c s₁ B hml hv
  obtain ⟨rfl, hP, hD, hK, hA2, hth, hao6, hao3⟩ := hv
  have hx := B.exec
  have hb := B.bytes
  have hr := B.returns
  have hlk := B.notSynchronized
  have hin : meth.name = "<init>" := (name_of_methodNamed B.named B.method).1
  have X : zkCx p s m ([.ref a0, .int i] : List Value).toArray c RX6 cX6_init wsX6_init 2 dC dI ca A := ⟨hx, hb, hml, findClass_of_methodNamed B.named, atoms_spec (ws := wsX6_init) B.pre, hK, hA2, hth, hao6, hao3⟩
  have hS : va_S A s.heap s.heap [] := va_S.rf
  have hl := lv_entry ([.ref a0, .int i] : List Value) (n := 2) (Nat.le_of_ble_eq_true rfl)
  rw [lg_entry_eq]
  generalize (lg_sl ([.ref a0, .int i] : List Value) ++ List.replicate (2 - (lg_sl ([.ref a0, .int i] : List Value)).length) Slot.unset).toArray = ls at hl ⊢
  have hl : lv_has ls 2 [(0, .ref a0), (1, .int i)] := hl
  refine lv_aload_n hx hb dX6_init_0 rfl (lv_at hl 0 rfl) ?_
  refine W.objInit hx hb X.ow (X.ts _ (List.mem_of_getElem? (i := 1) rfl)) (X.ts _ (List.mem_of_getElem? (i := 2) rfl)) (X.ts _ (List.mem_of_getElem? (i := 3) rfl)) rfl (by rw [hml]; exact hl.1) rfl dX6_init_1 (Nat.le_of_ble_eq_true rfl) (Nat.le_of_ble_eq_true rfl) ?_
  refine W.eq (g2 := F0 m 4 ls []) rfl ?_
  have hi6 : ∀ w ∈ wsX60, w ∈ wsX6_init := (fun w h => List.mem_cons_of_mem _ (List.mem_append_right _ h))
  refine lv_aload_n hx hb dX6_init_4 rfl (lv_at hl 0 rfl) ?_
  refine lv_iload_n hx hb dX6_init_5 rfl (lv_at hl 1 rfl) ?_
  refine zk_putF (ci := 6) (k := 0) (C := RX6) (T := TX6) (Nf := 15) (ty := .int) (ty0 := tyX6) X hin hP hD hS ha hn hE rfl hi6 tyX6_ok nmX6 (by decide) (List.mem_of_getElem? (i := 4) rfl) rfl rfl (by decide +kernel) rfl rfl (Nat.le_of_ble_eq_true rfl) dX6_init_6 (fun H locs hP hD hS => ?_)
  refine lv_aload_n hx hb dX6_init_9 rfl (lv_at hl 0 rfl) ?_
  refine lv_iconst (v := -1) hx hb dX6_init_10 (by decide) ?_
  refine zk_put (ci := 6) (k := 12) (C := RX6) (T := TX6) (Nf := 15) (ty := .int) (ty0 := tyX6) X hP hD hS ha hn zkE_at rfl hi6 tyX6_ok nmX6 (by decide) (List.mem_of_getElem? (i := 5) rfl) rfl (by decide +kernel) rfl rfl (Nat.le_of_ble_eq_true rfl) dX6_init_11 (fun H locs hP hD hS => ?_)
  exact W.vret hx hb hr (fun t9 ht hW => ⟨⟨(b, _), rfl, ⟨rfl, fun k hk => (zkE_ne hk).trans (zkE_ne hk), zkE_at⟩, ⟨gEnd ht hP, hD⟩⟩, hS.F ht⟩) hS.2.2 dX6_init_14 hlk
/-- a race as it is made -/
def zkRace (ca : Nat → ClassId) (n : Nat) (b : Nat → Nat) (E : Nat → va_E) : Prop :=
  E n = .inr (3, [.ref (b (n + 1)), .ref (b (n + 2)), .ref (b (n + 3)), .int 0, .int 2, .int 0, .int 0, .int 0, .int 0, .int 0, .int 0, .int 0, .int 0, .int 0]) ∧
  E (n + 1) = .inl (ca 4, 8, .inr (.inr (.inr (.inr (fun k => if k < 8 then some (b (n + 4 + k)) else none))))) ∧
  E (n + 2) = .inl (ca 4, 8, .inr (.inr (.inr (.inr (fun _ => none))))) ∧
  E (n + 3) = .inl (ca 0, 4, .inl (fun k => if k < 4 then 20 else 0)) ∧
  ∀ i, i < 8 → E (n + 4 + i) = .inr (6, spv (nI i))
theorem zkRace.k {ca : Nat → ClassId} {n M : Nat} {b b' : Nat → Nat} {E E' : Nat → va_E} (h : zkRace ca n b E) (hM : n + 12 ≤ M) (hb : ∀ k, n ≤ k → k < M → b' k = b k) (hE : ∀ k, n ≤ k → k < M → E' k = E k) : zkRace ca n b' E' := by
  obtain ⟨h1, h2, h3, h4, h5⟩ := h
  refine ⟨?_, ?_, ?_, ?_, fun i hi => ?_⟩
  · rw [hE n (by omega) (by omega), hb (n + 1) (by omega) (by omega), hb (n + 2) (by omega) (by omega), hb (n + 3) (by omega) (by omega)]; exact h1
  · rw [hE (n + 1) (by omega) (by omega), h2]
    have : (fun k => if k < 8 then some (b (n + 4 + k)) else none) = (fun k => if k < 8 then some (b' (n + 4 + k)) else none) := by
      funext k
      by_cases c : k < 8
      · rw [if_pos c, if_pos c, hb (n + 4 + k) (by omega) (by omega)]
      · rw [if_neg c, if_neg c]
    rw [this]
  · rw [hE (n + 2) (by omega) (by omega)]; exact h3
  · rw [hE (n + 3) (by omega) (by omega)]; exact h4
  · rw [hE (n + 4 + i) (by omega) (by omega)]; exact h5 i hi
theorem up_some {f : Nat → Option Nat} {g : Nat → Nat} {k q : Nat} (h : f = fun j => if j < k then some (g j) else none) (hq : g k = q) : va_up f k (some q) = fun j => if j < k + 1 then some (g j) else none := by
  subst h
  subst hq
  funext j
  unfold va_up
  by_cases c : j = k
  · rw [if_pos c, c, if_pos (by omega)]
  · rw [if_neg c]
    dsimp only
    by_cases d : j < k
    · rw [if_pos d, if_pos (by omega)]
    · rw [if_neg d, if_neg (by omega)]
theorem up_20 {k : Nat} : upd (fun j => if j < k then (20 : Int32) else 0) k 20 = fun j => if j < k + 1 then 20 else 0 := by
  funext j
  unfold upd
  by_cases c : j = k
  · rw [if_pos c, c, if_pos (by omega)]
  · rw [if_neg c]
    dsimp only
    by_cases d : j < k
    · rw [if_pos d, if_pos (by omega)]
    · rw [if_neg d, if_neg (by omega)]
theorem refs_c {k : Nat} {g g' : Nat → Nat} (h : ∀ j, j < k → g' j = g j) : (fun j => if j < k then some (g' j) else none) = (fun j => if j < k then some (g j) else none) := by
  funext j
  by_cases c : j < k
  · rw [if_pos c, if_pos c, h j c]
  · rw [if_neg c, if_neg c]
theorem lim_0 : (fun (_ : Nat) => (0 : Int32)) = (fun j => if j < 0 then 20 else 0) := by funext j; rw [if_neg (by omega)]
theorem refs_0 {g : Nat → Nat} : (fun (_ : Nat) => (none : Option Nat)) = (fun j => if j < 0 then some (g j) else none) := by funext j; rw [if_neg (by omega)]
set_option maxHeartbeats 8000000 in
set_option maxRecDepth 100000 in
theorem zc_X3_init {l : Launch} {dC : Nat → ClassId} {dI : Nat → Nat → Nat} {ca : Nat → ClassId} {A : Nat → Prop} {N0 a0 : Nat} {b : Nat → Nat} {E : Nat → va_E} (ha : b N0 = a0) (hE : E N0 = .inr (3, rc0)) : Met l yX3_init wsX3_init ({ frames := 2, cells := 11, slots := 140, locals := 70 } : Room) (va_Pc [.ref a0] (zkPre dC dI ca A (N0 + 1) b E)) (va_Qv (fun (u : (Nat → Nat) × (Nat → va_E)) => (∀ k, k ≤ N0 → u.1 k = b k) ∧ (∀ k, k < N0 → u.2 k = E k) ∧ zkRace ca N0 u.1 u.2) (fun u t => zkEnd dC dI A (N0 + 12) u t.heap) A) 11 140 A := by
  refine Met.ofW (cc := cX3_init) (maxL := 2) (ret := none) (by decide) rfl ?_
  intro p e s m args below meth c s₁ B hml hv
  obtain ⟨rfl, hP, hD, hK, hA2, hth, hao6, hao3⟩ := hv
  have hx := B.exec
  have hb := B.bytes
  have hr := B.returns
  have hlk := B.notSynchronized
  have hin : meth.name = "<init>" := (name_of_methodNamed B.named B.method).1
  have X : zkCx p s m ([.ref a0] : List Value).toArray c RX3 cX3_init wsX3_init 2 dC dI ca A := ⟨hx, hb, hml, findClass_of_methodNamed B.named, atoms_spec (ws := wsX3_init) B.pre, hK, hA2, hth, hao6, hao3⟩
  have hS : va_S A s.heap s.heap [] := va_S.rf
  have hl := lv_entry ([.ref a0] : List Value) (n := 2) (Nat.le_of_ble_eq_true rfl)
  rw [lg_entry_eq]
  generalize (lg_sl ([.ref a0] : List Value) ++ List.replicate (2 - (lg_sl ([.ref a0] : List Value)).length) Slot.unset).toArray = ls at hl ⊢
  have hl : lv_has ls 2 [(0, .ref a0)] := hl
  refine lv_aload_n hx hb dX3_init_0 rfl (lv_at hl 0 rfl) ?_
  refine W.objInit hx hb X.ow (X.ts _ (List.mem_of_getElem? (i := 1) rfl)) (X.ts _ (List.mem_of_getElem? (i := 2) rfl)) (X.ts _ (List.mem_of_getElem? (i := 3) rfl)) rfl (by rw [hml]; exact hl.1) rfl dX3_init_1 (Nat.le_of_ble_eq_true rfl) (Nat.le_of_ble_eq_true rfl) ?_
  refine W.eq (g2 := F0 m 4 ls []) rfl ?_
  have hi3 : ∀ w ∈ wsX30, w ∈ wsX3_init := (fun w h => List.mem_cons_of_mem _ (List.mem_append_left _ (List.mem_append_right _ h)))
  have hi6 : ∀ w ∈ wsX60, w ∈ wsX3_init := (fun w h => List.mem_cons_of_mem _ (List.mem_append_right _ h))
  refine lv_aload_n hx hb dX3_init_4 rfl (lv_at hl 0 rfl) ?_
  refine lv_bipush (v := 8) hx hb dX3_init_5 (by decide) ?_
  refine zk_newq (t := 4) (C := RX6) (N' := 8) X hP hD hS (List.mem_of_getElem? (i := 4) rfl) X.ao.1 rfl (by decide) (by decide) (by decide) (Nat.le_of_ble_eq_true rfl) (Nat.le_of_ble_eq_true rfl) dX3_init_7 (fun q1 H hP hD hS => ?_)
  have hb1 : ∀ k, k ≤ N0 → zkB b (N0 + 1) q1 k = b k := fun k hk => zkB_ne (by omega)
  have hE1 : ∀ k, k ≤ N0 → ∀ e, zkE E (N0 + 1) e k = E k := fun k hk e => zkE_ne (by omega)
  refine zk_putF (ci := 3) (k := 0) (C := RX3) (T := TX3) (Nf := 14) (ty := .array (.object "SparrowRace$Sparrow")) (ty0 := tyX3) X hin hP hD hS ((hb1 N0 (Nat.le_refl _)).trans ha) (by omega) ((hE1 N0 (Nat.le_refl _) _).trans hE) rfl hi3 tyX3_ok nmX3 (by decide) (List.mem_of_getElem? (i := 5) rfl) rfl rfl (by decide +kernel) rfl rfl (Nat.le_of_ble_eq_true rfl) dX3_init_10 (fun H locs hP hD hS => ?_)
  refine lv_aload_n hx hb dX3_init_13 rfl (lv_at hl 0 rfl) ?_
  refine lv_bipush (v := 8) hx hb dX3_init_14 (by decide) ?_
  refine zk_newq (t := 4) (C := RX6) (N' := 8) X hP hD hS (List.mem_of_getElem? (i := 4) rfl) X.ao.1 rfl (by decide) (by decide) (by decide) (Nat.le_of_ble_eq_true rfl) (Nat.le_of_ble_eq_true rfl) dX3_init_16 (fun q2 H hP hD hS => ?_)
  refine zk_putF (ci := 3) (k := 1) (C := RX3) (T := TX3) (Nf := 14) (ty := .array (.object "SparrowRace$Sparrow")) (ty0 := tyX3) X hin hP hD hS ((zkB_ne (by omega)).trans ((hb1 N0 (Nat.le_refl _)).trans ha)) (by omega) ((zkE_ne (by omega)).trans zkE_at) rfl hi3 tyX3_ok nmX3 (by decide) (List.mem_of_getElem? (i := 6) rfl) rfl rfl (by decide +kernel) rfl rfl (Nat.le_of_ble_eq_true rfl) dX3_init_19 (fun H locs hP hD hS => ?_)
  refine lv_aload_n hx hb dX3_init_22 rfl (lv_at hl 0 rfl) ?_
  refine lv_iconst (v := 4) hx hb dX3_init_23 (by decide) ?_
  refine zk_newa (t := 0) (atype := .int) (ty := .int) (N' := 4) (a0 := (4, .inl (fun _ => 0))) X hP hD hS (List.mem_of_getElem? (i := 7) rfl) rfl rfl zk_uni (fun _ => rfl) (by decide) (by decide) (by decide) (Nat.le_of_ble_eq_true rfl) (Nat.le_of_ble_eq_true rfl) dX3_init_24 (fun q3 H hP hD hS => ?_)
  refine zk_putF (ci := 3) (k := 2) (C := RX3) (T := TX3) (Nf := 14) (ty := .array .int) (ty0 := tyX3) X hin hP hD hS ((zkB_ne (by omega)).trans ((zkB_ne (by omega)).trans ((hb1 N0 (Nat.le_refl _)).trans ha))) (by omega) ((zkE_ne (by omega)).trans zkE_at) rfl hi3 tyX3_ok nmX3 (by decide) (List.mem_of_getElem? (i := 8) rfl) rfl rfl (by decide +kernel) rfl rfl (Nat.le_of_ble_eq_true rfl) dX3_init_26 (fun H locs hP hD hS => ?_)
  refine lv_aload_n hx hb dX3_init_29 rfl (lv_at hl 0 rfl) ?_
  refine lv_iconst (v := 2) hx hb dX3_init_30 (by decide) ?_
  refine zk_put (ci := 3) (k := 4) (C := RX3) (T := TX3) (Nf := 14) (ty := .int) (ty0 := tyX3) X hP hD hS ((zkB_ne (by omega)).trans ((zkB_ne (by omega)).trans ((hb1 N0 (Nat.le_refl _)).trans ha))) (by omega) zkE_at rfl hi3 tyX3_ok nmX3 (by decide) (List.mem_of_getElem? (i := 9) rfl) rfl (by decide +kernel) rfl rfl (Nat.le_of_ble_eq_true rfl) dX3_init_31 (fun H locs hP hD hS => ?_)
  have g0 : zkB (zkB (zkB b (N0 + 1) q1) (N0 + 1 + 1) q2) (N0 + 1 + 1 + 1) q3 N0 = a0 := (zkB_ne (by omega)).trans ((zkB_ne (by omega)).trans ((hb1 N0 (Nat.le_refl _)).trans ha))
  have g1 : zkB (zkB (zkB b (N0 + 1) q1) (N0 + 1 + 1) q2) (N0 + 1 + 1 + 1) q3 (N0 + 1) = q1 := (zkB_ne (by omega)).trans ((zkB_ne (by omega)).trans zkB_at)
  have g2 : zkB (zkB (zkB b (N0 + 1) q1) (N0 + 1 + 1) q2) (N0 + 1 + 1 + 1) q3 (N0 + 2) = q2 := (zkB_ne (by omega)).trans zkB_at
  have g3 : zkB (zkB (zkB b (N0 + 1) q1) (N0 + 1 + 1) q2) (N0 + 1 + 1 + 1) q3 (N0 + 3) = q3 := zkB_at
  have gb : ∀ k, k ≤ N0 → zkB (zkB (zkB b (N0 + 1) q1) (N0 + 1 + 1) q2) (N0 + 1 + 1 + 1) q3 k = b k := fun k hk => (zkB_ne (by omega)).trans ((zkB_ne (by omega)).trans (hb1 k hk))
  generalize zkB (zkB (zkB b (N0 + 1) q1) (N0 + 1 + 1) q2) (N0 + 1 + 1 + 1) q3 = b3 at *
  obtain ⟨E3, hE3⟩ : ∃ E3 : Nat → va_E, va_P (dC, dI) vwCl (zkW (N0 + 4) b3 E3) H ∧ va_D A (zkW (N0 + 4) b3 E3) ∧ E3 N0 = .inr (3, [.ref q1, .ref q2, .ref q3, .int 0, .int 2, .int 0, .int 0, .int 0, .int 0, .int 0, .int 0, .int 0, .int 0, .int 0]) ∧ E3 (N0 + 1) = .inl (ca 4, 8, .inr (.inr (.inr (.inr (fun _ => none))))) ∧ E3 (N0 + 2) = .inl (ca 4, 8, .inr (.inr (.inr (.inr (fun _ => none))))) ∧ E3 (N0 + 3) = .inl (ca 0, 4, .inl (fun _ => 0)) ∧ ∀ k, k < N0 → E3 k = E k :=
    ⟨_, hP, hD, zkE_at, (zkE_ne (by omega)).trans ((zkE_ne (by omega)).trans ((zkE_ne (by omega)).trans ((zkE_ne (by omega)).trans ((zkE_ne (by omega)).trans ((zkE_ne (by omega)).trans zkE_at))))), (zkE_ne (by omega)).trans ((zkE_ne (by omega)).trans ((zkE_ne (by omega)).trans ((zkE_ne (by omega)).trans zkE_at))), (zkE_ne (by omega)).trans ((zkE_ne (by omega)).trans zkE_at), fun k hk => (zkE_ne (by omega)).trans ((zkE_ne (by omega)).trans ((zkE_ne (by omega)).trans ((zkE_ne (by omega)).trans ((zkE_ne (by omega)).trans ((zkE_ne (by omega)).trans (zkE_ne (by omega)))))))⟩
  clear hP hD
  obtain ⟨hP, hD, f0, f1, f2, f3, fE⟩ := hE3
  -- the limits
  have loop2 : ∀ (Q : State → Prop), (∀ (b' : Nat → Nat) (E' : Nat → va_E) (H : Heap) (locs : List Loc) (ls : Array Slot) (cn sn : Nat), (∀ j, j < N0 + 4 → b' j = b3 j) → (∀ j, j < N0 + 4 → j ≠ N0 + 1 → j ≠ N0 + 3 → E' j = E3 j) → E' (N0 + 1) = .inl (ca 4, 8, .inr (.inr (.inr (.inr (fun j => if j < 8 then some (b' (N0 + 4 + j)) else none))))) → (∀ i, i < 8 → E' (N0 + 4 + i) = .inr (6, spv (nI i))) → E' (N0 + 3) = .inl (ca 0, 4, .inl (fun j => if j < 4 then 20 else 0)) → va_P (dC, dI) vwCl (zkW (N0 + 12) b' E') H → va_D A (zkW (N0 + 12) b' E') → va_S A s.heap H locs → cn ≤ 11 → sn ≤ 140 → W p l e ({ frames := 2, cells := 11, slots := 140, locals := 70 } : Room) s m ([.ref a0] : List Value).toArray below meth c H locs cn sn Q (F0 m 90 ls [])) → ∀ d k, k + d = 4 → ∀ (b' : Nat → Nat) (E' : Nat → va_E) (H : Heap) (locs : List Loc) (ls : Array Slot) (x : Int32) (cn sn : Nat), x = nI k → (∀ j, j < N0 + 4 → b' j = b3 j) → (∀ j, j < N0 + 4 → j ≠ N0 + 1 → j ≠ N0 + 3 → E' j = E3 j) → E' (N0 + 1) = .inl (ca 4, 8, .inr (.inr (.inr (.inr (fun j => if j < 8 then some (b' (N0 + 4 + j)) else none))))) → (∀ i, i < 8 → E' (N0 + 4 + i) = .inr (6, spv (nI i))) → E' (N0 + 3) = .inl (ca 0, 4, .inl (fun j => if j < k then 20 else 0)) →
      va_P (dC, dI) vwCl (zkW (N0 + 12) b' E') H → va_D A (zkW (N0 + 12) b' E') → va_S A s.heap H locs → lv_has ls 2 [(0, .ref a0), (1, .int x)] → cn ≤ 11 → sn ≤ 140 →
      W p l e ({ frames := 2, cells := 11, slots := 140, locals := 70 } : Room) s m ([.ref a0] : List Value).toArray below meth c H locs cn sn Q (F0 m 67 ls []) := by
    intro Q KT d
    induction d with
    | zero =>
      intro k hk b' E' H locs ls x cn sn ex jb jE j1 jS j3 hP hD hS hl hcn hsn
      have hk4 : k = 4 := by omega
      subst hk4
      refine lv_iload_n hx hb dX3_init_67 rfl (lv_at hl 1 rfl) ?_
      refine lv_aload_n hx hb dX3_init_68 rfl (lv_at hl 0 rfl) ?_
      refine zk_get (ci := 3) (k := 2) (C := RX3) (T := TX3) (Nf := 14) X hP ((jb N0 (by omega)).trans g0) (by omega) ((jE N0 (by omega) (by omega) (by omega)).trans f0) rfl hi3 (by decide) (List.mem_of_getElem? (i := 8) rfl) rfl dX3_init_69 ?_
      refine zk_alen (t := 0) (ty := .int) (v := 4) X hP ((jb (N0 + 3) (by omega)).trans g3) (by omega) j3 rfl rfl dX3_init_72 ?_
      refine lv_icmp_ge (tgt := 90) hx hb dX3_init_73 (by decide) (fun c1 => ?_) (fun c1 => ?_)
      · exact KT b' E' H locs ls cn sn jb jE j1 jS j3 hP hD hS hcn hsn
      · exact absurd (by rw [ex]; decide) c1
    | succ d ih =>
      intro k hk b' E' H locs ls x cn sn ex jb jE j1 jS j3 hP hD hS hl hcn hsn
      refine lv_iload_n hx hb dX3_init_67 rfl (lv_at hl 1 rfl) ?_
      refine lv_aload_n hx hb dX3_init_68 rfl (lv_at hl 0 rfl) ?_
      refine zk_get (ci := 3) (k := 2) (C := RX3) (T := TX3) (Nf := 14) X hP ((jb N0 (by omega)).trans g0) (by omega) ((jE N0 (by omega) (by omega) (by omega)).trans f0) rfl hi3 (by decide) (List.mem_of_getElem? (i := 8) rfl) rfl dX3_init_69 ?_
      refine zk_alen (t := 0) (ty := .int) (v := 4) X hP ((jb (N0 + 3) (by omega)).trans g3) (by omega) j3 rfl rfl dX3_init_72 ?_
      refine lv_icmp_ge (tgt := 90) hx hb dX3_init_73 (by decide) (fun c1 => ?_) (fun c1 => ?_)
      · refine absurd c1 ?_
        rw [ex, show (4 : Int32) = nI 4 from rfl, pi_le (by omega) (by omega)]; omega
      · refine lv_aload_n hx hb dX3_init_76 rfl (lv_at hl 0 rfl) ?_
        refine zk_get (ci := 3) (k := 2) (C := RX3) (T := TX3) (Nf := 14) X hP ((jb N0 (by omega)).trans g0) (by omega) ((jE N0 (by omega) (by omega) (by omega)).trans f0) rfl hi3 (by decide) (List.mem_of_getElem? (i := 8) rfl) rfl dX3_init_77 ?_
        refine lv_iload_n hx hb dX3_init_80 rfl (lv_at hl 1 rfl) ?_
        refine lv_bipush (v := 20) hx hb dX3_init_81 (by decide) ?_
        refine zk_iast X hP hD hS ((jb (N0 + 3) (by omega)).trans g3) (by omega) j3 (by rw [ex]; exact vp_in_nI (by omega) (by omega)) dX3_init_83 (fun H locs hP hD hS => ?_)
        obtain ⟨y, ey⟩ : ∃ y : Int32, y = x + 1 := ⟨_, rfl⟩
        refine lv_iinc (v := y) (lv' := [(1, .int y), (0, .ref a0)]) hx hb dX3_init_84 hl (k := 1) rfl (by rw [ey]; rfl) (by decide) rfl (fun ls hl => ?_)
        refine lv_goto (tgt := 67) hx hb dX3_init_87 (by decide) ?_
        refine ih (k + 1) (by omega) b' _ H locs ls y cn sn (by rw [ey, ex]; exact pi_add k 1) jb (fun j z1 z2 z3 => (zkE_ne z3).trans (jE j z1 z2 z3)) ((zkE_ne (by omega)).trans j1) (fun i hi => (zkE_ne (by omega)).trans (jS i hi)) ?_ hP hD hS (lv_sub hl [1, 0] rfl) hcn hsn
        rw [zkE_at, ex, show (nI k).toNatClampNeg = k from pi_tn (by omega), up_20]
  -- the birds
  have loop1 : ∀ (Q : State → Prop), (∀ (b' : Nat → Nat) (E' : Nat → va_E) (H : Heap) (locs : List Loc) (ls : Array Slot) (cn sn : Nat), (∀ j, j < N0 + 4 → b' j = b3 j) → (∀ j, j < N0 + 4 → j ≠ N0 + 1 → E' j = E3 j) → E' (N0 + 1) = .inl (ca 4, 8, .inr (.inr (.inr (.inr (fun j => if j < 8 then some (b' (N0 + 4 + j)) else none))))) → (∀ i, i < 8 → E' (N0 + 4 + i) = .inr (6, spv (nI i))) → va_P (dC, dI) vwCl (zkW (N0 + 12) b' E') H → va_D A (zkW (N0 + 12) b' E') → va_S A s.heap H locs → lv_has ls 2 [(0, .ref a0), (1, .int 8)] → cn ≤ 11 → sn ≤ 140 → W p l e ({ frames := 2, cells := 11, slots := 140, locals := 70 } : Room) s m ([.ref a0] : List Value).toArray below meth c H locs cn sn Q (F0 m 65 ls [])) → ∀ d k, k + d = 8 → ∀ (b' : Nat → Nat) (E' : Nat → va_E) (H : Heap) (locs : List Loc) (ls : Array Slot) (x : Int32) (cn sn : Nat), x = nI k → (∀ j, j < N0 + 4 → b' j = b3 j) → (∀ j, j < N0 + 4 → j ≠ N0 + 1 → E' j = E3 j) → E' (N0 + 1) = .inl (ca 4, 8, .inr (.inr (.inr (.inr (fun j => if j < k then some (b' (N0 + 4 + j)) else none))))) → (∀ i, i < k → E' (N0 + 4 + i) = .inr (6, spv (nI i))) →
      va_P (dC, dI) vwCl (zkW (N0 + 4 + k) b' E') H → va_D A (zkW (N0 + 4 + k) b' E') → va_S A s.heap H locs → lv_has ls 2 [(0, .ref a0), (1, .int x)] → cn ≤ 3 + k → sn ≤ 20 + 15 * k →
      W p l e ({ frames := 2, cells := 11, slots := 140, locals := 70 } : Room) s m ([.ref a0] : List Value).toArray below meth c H locs cn sn Q (F0 m 36 ls []) := by
    intro Q KT d
    induction d with
    | zero =>
      intro k hk b' E' H locs ls x cn sn ex jb jE j1 jS hP hD hS hl hcn hsn
      have hk8 : k = 8 := by omega
      subst hk8
      refine lv_iload_n hx hb dX3_init_36 rfl (lv_at hl 1 rfl) ?_
      refine lv_aload_n hx hb dX3_init_37 rfl (lv_at hl 0 rfl) ?_
      refine zk_get (ci := 3) (k := 0) (C := RX3) (T := TX3) (Nf := 14) X hP ((jb N0 (by omega)).trans g0) (by omega) ((jE N0 (by omega) (by omega)).trans f0) rfl hi3 (by decide) (List.mem_of_getElem? (i := 5) rfl) rfl dX3_init_38 ?_
      refine zk_alen (t := 4) (ty := .object "SparrowRace$Sparrow") (v := 8) X hP ((jb (N0 + 1) (by omega)).trans g1) (by omega) j1 rfl rfl dX3_init_41 ?_
      refine lv_icmp_ge (tgt := 65) hx hb dX3_init_42 (by decide) (fun c1 => ?_) (fun c1 => ?_)
      · rw [ex] at hl
        exact KT b' E' H locs ls cn sn jb jE j1 jS hP hD hS hl (by omega) (by omega)
      · exact absurd (by rw [ex]; decide) c1
    | succ d ih =>
      intro k hk b' E' H locs ls x cn sn ex jb jE j1 jS hP hD hS hl hcn hsn
      refine lv_iload_n hx hb dX3_init_36 rfl (lv_at hl 1 rfl) ?_
      refine lv_aload_n hx hb dX3_init_37 rfl (lv_at hl 0 rfl) ?_
      refine zk_get (ci := 3) (k := 0) (C := RX3) (T := TX3) (Nf := 14) X hP ((jb N0 (by omega)).trans g0) (by omega) ((jE N0 (by omega) (by omega)).trans f0) rfl hi3 (by decide) (List.mem_of_getElem? (i := 5) rfl) rfl dX3_init_38 ?_
      refine zk_alen (t := 4) (ty := .object "SparrowRace$Sparrow") (v := 8) X hP ((jb (N0 + 1) (by omega)).trans g1) (by omega) j1 rfl rfl dX3_init_41 ?_
      refine lv_icmp_ge (tgt := 65) hx hb dX3_init_42 (by decide) (fun c1 => ?_) (fun c1 => ?_)
      · refine absurd c1 ?_
        rw [ex, show (8 : Int32) = nI 8 from rfl, pi_le (by omega) (by omega)]; omega
      · refine lv_aload_n hx hb dX3_init_45 rfl (lv_at hl 0 rfl) ?_
        refine zk_get (ci := 3) (k := 0) (C := RX3) (T := TX3) (Nf := 14) X hP ((jb N0 (by omega)).trans g0) (by omega) ((jE N0 (by omega) (by omega)).trans f0) rfl hi3 (by decide) (List.mem_of_getElem? (i := 5) rfl) rfl dX3_init_46 ?_
        refine lv_iload_n hx hb dX3_init_49 rfl (lv_at hl 1 rfl) ?_
        refine zk_new (ci := 6) (C := RX6) (T := TX6) (Nf := 15) (fs := sp0) (ty0 := tyX6) X hP hD hS rfl hi6 tyX6_ok (List.mem_of_getElem? (i := 4) rfl) (List.mem_of_getElem? (i := 10) rfl) (List.mem_of_getElem? (i := 11) rfl) (fun j hj => by match j, hj with | 0, _ => rfl | 1, _ => rfl | 2, _ => rfl | 3, _ => rfl | 4, _ => rfl | 5, _ => rfl | 6, _ => rfl | 7, _ => rfl | 8, _ => rfl | 9, _ => rfl | 10, _ => rfl | 11, _ => rfl | 12, _ => rfl | 13, _ => rfl | 14, _ => rfl) (by show cn + 1 ≤ 11; omega) (by show sn + 15 ≤ 140; omega) dX3_init_50 (fun q H hP hD hS => ?_)
        refine lv_dup hx hb dX3_init_53 rfl ?_
        refine lv_iload_n hx hb dX3_init_54 rfl (lv_at hl 1 rfl) ?_
        refine zk_callI (As := [.int x]) (rest := [.ref q, .int x, .ref q1]) X hP hD hS (zc_X6_init x (by omega) zkB_at zkE_at) (cwI 1 X.ts gX3_init_X6_init rfl rfl rfl (X.ts _ (List.mem_of_getElem? (i := 11) rfl)) (X.ts _ (List.mem_of_getElem? (i := 12) rfl)) (X.ts _ (List.mem_of_getElem? (i := 13) rfl)) rfl (by decide +kernel) ⟨Nat.le_of_ble_eq_true rfl, Nat.le_of_ble_eq_true rfl⟩) rfl hl.1 rfl (Nat.le_of_ble_eq_true rfl) dX3_init_55 ⟨by show cn + 1 + 0 ≤ 11; omega, by show sn + 15 + 0 ≤ 140; omega⟩ (fun u H locs hu hP hD hS => ?_)
        obtain ⟨ub, uE⟩ := u
        obtain ⟨u1, u2, u3⟩ := hu
        dsimp only at u1 u2 u3 hP hD
        subst u1
        refine zk_astq (t := 4) (ci := 6) (qk := N0 + 4 + k) (r := (RX6, TX6, 15)) X hP hD hS ((zkB_ne (by omega)).trans ((jb (N0 + 1) (by omega)).trans g1)) (by omega) ((u2 _ (by omega)).trans ((zkE_ne (by omega)).trans j1)) rfl zkB_at (by omega) u3 rfl (by rw [ex]; exact vp_in_nI (by omega) (by omega)) dX3_init_58 (fun H locs hP hD hS => ?_)
        obtain ⟨y, ey⟩ : ∃ y : Int32, y = x + 1 := ⟨_, rfl⟩
        refine lv_iinc (v := y) (lv' := [(1, .int y), (0, .ref a0)]) hx hb dX3_init_59 hl (k := 1) rfl (by rw [ey]; rfl) (by decide) rfl (fun ls hl => ?_)
        refine lv_goto (tgt := 36) hx hb dX3_init_62 (by decide) ?_
        refine ih (k + 1) (by omega) _ _ H locs ls y _ _ (by rw [ey, ex]; exact pi_add k 1) (fun j hj => (zkB_ne (by omega)).trans (jb j hj)) (fun j z1 z2 => (zkE_ne z2).trans ((u2 j (by omega)).trans ((zkE_ne (by omega)).trans (jE j z1 z2)))) ?_ (fun i hi => ?_) hP hD hS (lv_sub hl [1, 0] rfl) (by omega) (by omega)
        · rw [zkE_at, ex, show (nI k).toNatClampNeg = k from pi_tn (by omega)]
          rw [up_some (g := fun j => zkB b' (N0 + 4 + k) q (N0 + 4 + j)) (k := k) (refs_c (fun j hj => (zkB_ne (by omega)).symm)) rfl]
        · by_cases z : i = k
          · rw [z]
            exact (zkE_ne (by omega)).trans (by rw [u3, ex])
          · exact (zkE_ne (by omega)).trans ((u2 _ (by omega)).trans ((zkE_ne (by omega)).trans (jS i (by omega))))
  refine lv_iconst (v := 0) hx hb dX3_init_34 (by decide) ?_
  refine lv_istore_n (lv' := [(1, .int (0 : Int32)), (0, .ref a0)]) hx hb dX3_init_35 rfl hl (by decide) rfl (fun ls hl => ?_)
  refine loop1 _ (fun b' E' H locs ls cn sn jb jE j1 jS hP hD hS hl hcn hsn => ?_) 8 0 rfl b3 E3 H _ ls 0 _ _ rfl (fun _ _ => rfl) (fun _ _ _ => rfl) (by rw [f1, refs_0]) (fun i hi => absurd hi (by omega)) hP hD hS (lv_sub hl [1, 0] rfl) (by show 0 + 1 + 1 + 1 ≤ 3 + 0; omega) (by show 0 + 8 + 8 + 4 ≤ 20 + 15 * 0; omega)
  refine lv_iconst (v := 0) hx hb dX3_init_65 (by decide) ?_
  refine lv_istore_n (lv' := [(1, .int (0 : Int32)), (0, .ref a0)]) hx hb dX3_init_66 rfl hl (by decide) rfl (fun ls hl => ?_)
  refine loop2 _ (fun b' E' H locs ls cn sn jb jE j1 jS j3 hP hD hS hcn hsn => ?_) 4 0 rfl b' E' H locs ls 0 cn sn rfl jb (fun j z1 z2 z3 => jE j z1 z2) j1 jS (by rw [jE (N0 + 3) (by omega) (by omega), f3, lim_0]) hP hD hS (lv_sub hl [1, 0] rfl) hcn hsn
  refine W.widen (k := 11) (n := 140) hcn hsn ?_
  exact W.vret hx hb hr (fun t9 ht hW => ⟨⟨(b', E'), rfl, ⟨fun k hk => (jb k (by omega)).trans (gb k hk), fun k hk => (jE k (by omega) (by omega) (by omega)).trans (fE k hk), by dsimp only; rw [show b' (N0 + 1) = q1 from (jb _ (by omega)).trans g1, show b' (N0 + 2) = q2 from (jb _ (by omega)).trans g2, show b' (N0 + 3) = q3 from (jb _ (by omega)).trans g3]; exact (jE N0 (by omega) (by omega) (by omega)).trans f0, j1, (jE (N0 + 2) (by omega) (by omega) (by omega)).trans f2, j3, jS⟩, ⟨gEnd ht hP, hD⟩⟩, hS.F ht⟩) hS.2.2 dX3_init_90 hlk
