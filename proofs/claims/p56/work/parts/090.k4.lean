/-- the game's object and all that it makes -/
def zkGame (ca : Nat → ClassId) (b : Nat → Nat) (E : Nat → va_E) : Prop :=
  E 0 = .inr (7, [.ref (b 1), .ref (b 13), .ref (b 25), .ref (b 99), .ref (b 126), .ref (b 128)]) ∧ zkRace ca 1 b E ∧ zkRace ca 13 b E ∧
  (E 25 = .inr (4, [.ref (b 26), .int 0]) ∧ E 26 = .inl (ca 5, 6, .inr (.inr (.inr (.inr (fun j => if j < 6 then some (b (27 + 12 * j)) else none))))) ∧ ∀ i, i < 6 → zkRace ca (27 + 12 * i) b E) ∧
  (E 99 = .inr (5, [.ref (b 100), .ref (b 101)]) ∧ E 100 = .inl (ca 5, 2, .inr (.inr (.inr (.inr (fun j => if j < 2 then some (b (102 + 12 * j)) else none))))) ∧ E 101 = .inl (ca 1, 2, .inl (fun _ => 0)) ∧ ∀ i, i < 2 → zkRace ca (102 + 12 * i) b E) ∧
  (E 126 = .inr (2, [.ref (b 127), .int 0]) ∧ E 127 = .inl (ca 2, 60, .inl (fun _ => 0))) ∧
  E 128 = .inr (1, [.int 0, .int 0, .int 0, .int 0])
set_option maxHeartbeats 8000000 in
set_option maxRecDepth 100000 in
theorem zc_X7_init {l : Launch} {dC : Nat → ClassId} {dI : Nat → Nat → Nat} {ca : Nat → ClassId} {A : Nat → Prop} {a0 : Nat} {b : Nat → Nat} {E : Nat → va_E} (ha : b 0 = a0) (hE : E 0 = .inr (7, [.null, .null, .null, .null, .null, .null])) : Met l yX7_init wsX7_init ({ frames := 4, cells := 128, slots := 1620, locals := 150 } : Room) (va_Pc [.ref a0] (zkPre dC dI ca A 1 b E)) (va_Qv (fun (u : (Nat → Nat) × (Nat → va_E)) => u.1 0 = b 0 ∧ zkGame ca u.1 u.2) (fun u t => zkEnd dC dI A 129 u t.heap) A) 128 1620 A := by
  refine Met.ofW (cc := cX7_init) (maxL := 1) (ret := none) (by decide) rfl ?_
  intro p e s m args below meth c s₁ B hml hv
  obtain ⟨rfl, hP, hD, hK, hA2, hth, hao6, hao3⟩ := hv
  have hx := B.exec
  have hb := B.bytes
  have hr := B.returns
  have hlk := B.notSynchronized
  have hin : meth.name = "<init>" := (name_of_methodNamed B.named B.method).1
  have X : zkCx p s m ([.ref a0] : List Value).toArray c RX7 cX7_init wsX7_init 1 dC dI ca A := ⟨hx, hb, hml, findClass_of_methodNamed B.named, atoms_spec (ws := wsX7_init) B.pre, hK, hA2, hth, hao6, hao3⟩
  have hS : va_S A s.heap s.heap [] := va_S.rf
  have hl := lv_entry ([.ref a0] : List Value) (n := 1) (Nat.le_of_ble_eq_true rfl)
  rw [lg_entry_eq]
  generalize (lg_sl ([.ref a0] : List Value) ++ List.replicate (1 - (lg_sl ([.ref a0] : List Value)).length) Slot.unset).toArray = ls at hl ⊢
  have hl : lv_has ls 1 [(0, .ref a0)] := hl
  refine lv_aload_n hx hb dX7_init_0 rfl (lv_at hl 0 rfl) ?_
  refine W.objInit hx hb X.ow (X.ts _ (List.mem_of_getElem? (i := 1) rfl)) (X.ts _ (List.mem_of_getElem? (i := 2) rfl)) (X.ts _ (List.mem_of_getElem? (i := 3) rfl)) rfl (by rw [hml]; exact hl.1) rfl dX7_init_1 (Nat.le_of_ble_eq_true rfl) (Nat.le_of_ble_eq_true rfl) ?_
  refine W.eq (g2 := F0 m 4 ls []) rfl ?_
  have hi7 : ∀ w ∈ wsX70, w ∈ wsX7_init := (fun w h => List.mem_cons_of_mem _ (List.mem_append_left _ (List.mem_append_left _ (List.mem_append_left _ (List.mem_append_left _ (List.mem_append_left _ (List.mem_append_right _ h)))))))
  have hi3 : ∀ w ∈ wsX30, w ∈ wsX7_init := (fun w h => List.mem_cons_of_mem _ (List.mem_append_left _ (List.mem_append_left _ (List.mem_append_left _ (List.mem_append_left _ (List.mem_append_left _ (List.mem_append_left _ (List.mem_append_right _ h))))))))
  have hi4 : ∀ w ∈ wsX40, w ∈ wsX7_init := (fun w h => List.mem_cons_of_mem _ (List.mem_append_left _ (List.mem_append_left _ (List.mem_append_left _ (List.mem_append_left _ (List.mem_append_right _ h))))))
  have hi5 : ∀ w ∈ wsX50, w ∈ wsX7_init := (fun w h => List.mem_cons_of_mem _ (List.mem_append_left _ (List.mem_append_left _ (List.mem_append_left _ (List.mem_append_right _ h)))))
  have hi2 : ∀ w ∈ wsX20, w ∈ wsX7_init := (fun w h => List.mem_cons_of_mem _ (List.mem_append_left _ (List.mem_append_left _ (List.mem_append_right _ h))))
  have hi1 : ∀ w ∈ wsX10, w ∈ wsX7_init := (fun w h => List.mem_cons_of_mem _ (List.mem_append_left _ (List.mem_append_right _ h)))
  refine lv_aload_n hx hb dX7_init_4 rfl (lv_at hl 0 rfl) ?_
  refine zk_new (N := 1) (ci := 3) (C := RX3) (T := TX3) (Nf := 14) (fs := rc0) (ty0 := tyX3) X hP hD hS rfl hi3 tyX3_ok (List.mem_of_getElem? (i := 4) rfl) (List.mem_of_getElem? (i := 5) rfl) (List.mem_of_getElem? (i := 6) rfl) (fun j hj => by match j, hj with | 0, _ => rfl | 1, _ => rfl | 2, _ => rfl | 3, _ => rfl | 4, _ => rfl | 5, _ => rfl | 6, _ => rfl | 7, _ => rfl | 8, _ => rfl | 9, _ => rfl | 10, _ => rfl | 11, _ => rfl | 12, _ => rfl | 13, _ => rfl) (Nat.le_of_ble_eq_true rfl) (Nat.le_of_ble_eq_true rfl) dX7_init_5 (fun q1 H hP hD hS => ?_)
  refine lv_dup hx hb dX7_init_8 rfl ?_
  refine zk_callI (As := []) (rest := [.ref q1, .ref a0]) X hP hD hS (zc_X3_init (N0 := 1) zkB_at zkE_at) (cwI 0 X.ts gX7_init_X3_init rfl rfl rfl (X.ts _ (List.mem_of_getElem? (i := 6) rfl)) (X.ts _ (List.mem_of_getElem? (i := 25) rfl)) (X.ts _ (List.mem_of_getElem? (i := 26) rfl)) rfl (by decide +kernel) ⟨Nat.le_of_ble_eq_true rfl, Nat.le_of_ble_eq_true rfl⟩) rfl hl.1 rfl (Nat.le_of_ble_eq_true rfl) dX7_init_9 ⟨Nat.le_of_ble_eq_true rfl, Nat.le_of_ble_eq_true rfl⟩ (fun u H locs hu hP hD hS => ?_)
  obtain ⟨b1, e1⟩ := u
  have u1b : ∀ j, j ≤ 1 → b1 j = zkB b 1 q1 j := hu.1
  have u1e : ∀ j, j < 1 → e1 j = zkE E 1 _ j := hu.2.1
  have r1 := hu.2.2
  dsimp only at r1
  clear hu
  dsimp only at hP hD
  have q1v : b1 1 = q1 := (u1b 1 (Nat.le_refl _)).trans zkB_at
  have o1b : ∀ j, j < 1 → b1 j = b j := fun j hj => (u1b j (by omega)).trans (zkB_ne (by omega))
  have o1e : ∀ j, j < 1 → e1 j = E j := fun j hj => (u1e j hj).trans (zkE_ne (by omega))
  have a1 : b1 0 = a0 := (o1b 0 (by omega)).trans ha
  refine zk_putF (N := 13) (ci := 7) (k := 0) (C := RX7) (T := TX7) (Nf := 6) (ty := .object "SparrowRace$Race") (ty0 := tyX7) X hin hP hD hS a1 (by omega) ((o1e 0 (by omega)).trans hE) rfl hi7 tyX7_ok nmX7 (by decide) (List.mem_of_getElem? (i := 7) rfl) rfl rfl (by decide +kernel) rfl rfl (Nat.le_of_ble_eq_true rfl) dX7_init_12 (fun H locs hP hD hS => ?_)
  obtain ⟨E1, hE1⟩ : ∃ E1 : Nat → va_E, va_P (dC, dI) vwCl (zkW 13 b1 E1) H ∧ va_D A (zkW 13 b1 E1) ∧ E1 0 = .inr (7, [.ref (b1 1), .null, .null, .null, .null, .null]) ∧ zkRace ca 1 b1 E1 :=
    ⟨_, hP, hD, zkE_at.trans (by rw [q1v]; rfl), r1.k (M := 13) (by omega) (fun _ _ _ => rfl) (fun j z1 z2 => zkE_ne (by omega))⟩
  clear hP hD
  obtain ⟨hP, hD, f1_0, f1_1⟩ := hE1
  refine lv_aload_n hx hb dX7_init_15 rfl (lv_at hl 0 rfl) ?_
  refine zk_new (N := 13) (ci := 3) (C := RX3) (T := TX3) (Nf := 14) (fs := rc0) (ty0 := tyX3) X hP hD hS rfl hi3 tyX3_ok (List.mem_of_getElem? (i := 4) rfl) (List.mem_of_getElem? (i := 5) rfl) (List.mem_of_getElem? (i := 6) rfl) (fun j hj => by match j, hj with | 0, _ => rfl | 1, _ => rfl | 2, _ => rfl | 3, _ => rfl | 4, _ => rfl | 5, _ => rfl | 6, _ => rfl | 7, _ => rfl | 8, _ => rfl | 9, _ => rfl | 10, _ => rfl | 11, _ => rfl | 12, _ => rfl | 13, _ => rfl) (Nat.le_of_ble_eq_true rfl) (Nat.le_of_ble_eq_true rfl) dX7_init_16 (fun q2 H hP hD hS => ?_)
  refine lv_dup hx hb dX7_init_19 rfl ?_
  refine zk_callI (As := []) (rest := [.ref q2, .ref a0]) X hP hD hS (zc_X3_init (N0 := 13) zkB_at zkE_at) (cwI 0 X.ts gX7_init_X3_init rfl rfl rfl (X.ts _ (List.mem_of_getElem? (i := 6) rfl)) (X.ts _ (List.mem_of_getElem? (i := 25) rfl)) (X.ts _ (List.mem_of_getElem? (i := 26) rfl)) rfl (by decide +kernel) ⟨Nat.le_of_ble_eq_true rfl, Nat.le_of_ble_eq_true rfl⟩) rfl hl.1 rfl (Nat.le_of_ble_eq_true rfl) dX7_init_20 ⟨Nat.le_of_ble_eq_true rfl, Nat.le_of_ble_eq_true rfl⟩ (fun u H locs hu hP hD hS => ?_)
  obtain ⟨b2, e2⟩ := u
  have u2b : ∀ j, j ≤ 13 → b2 j = zkB b1 13 q2 j := hu.1
  have u2e : ∀ j, j < 13 → e2 j = zkE E1 13 _ j := hu.2.1
  have r2 := hu.2.2
  dsimp only at r2
  clear hu
  dsimp only at hP hD
  have q2v : b2 13 = q2 := (u2b 13 (Nat.le_refl _)).trans zkB_at
  have o2b : ∀ j, j < 13 → b2 j = b1 j := fun j hj => (u2b j (by omega)).trans (zkB_ne (by omega))
  have o2e : ∀ j, j < 13 → e2 j = E1 j := fun j hj => (u2e j hj).trans (zkE_ne (by omega))
  have a2 : b2 0 = a0 := (o2b 0 (by omega)).trans a1
  refine zk_putF (N := 25) (ci := 7) (k := 1) (C := RX7) (T := TX7) (Nf := 6) (ty := .object "SparrowRace$Race") (ty0 := tyX7) X hin hP hD hS a2 (by omega) ((o2e 0 (by omega)).trans f1_0) rfl hi7 tyX7_ok nmX7 (by decide) (List.mem_of_getElem? (i := 8) rfl) rfl rfl (by decide +kernel) rfl rfl (Nat.le_of_ble_eq_true rfl) dX7_init_23 (fun H locs hP hD hS => ?_)
  obtain ⟨E2, hE2⟩ : ∃ E2 : Nat → va_E, va_P (dC, dI) vwCl (zkW 25 b2 E2) H ∧ va_D A (zkW 25 b2 E2) ∧ E2 0 = .inr (7, [.ref (b2 1), .ref (b2 13), .null, .null, .null, .null]) ∧ zkRace ca 1 b2 E2 ∧ zkRace ca 13 b2 E2 :=
    ⟨_, hP, hD, zkE_at.trans (by rw [show b2 1 = b1 1 from o2b 1 (by omega), q2v]; rfl), f1_1.k (M := 13) (by omega) (fun j z1 z2 => o2b j (by omega)) (fun j z1 z2 => (zkE_ne (by omega)).trans (o2e j (by omega))), r2.k (M := 25) (by omega) (fun _ _ _ => rfl) (fun j z1 z2 => zkE_ne (by omega))⟩
  clear hP hD
  obtain ⟨hP, hD, f2_0, f2_1, f2_2⟩ := hE2
  refine lv_aload_n hx hb dX7_init_26 rfl (lv_at hl 0 rfl) ?_
  refine zk_new (N := 25) (ci := 4) (C := RX4) (T := TX4) (Nf := 2) (fs := [.null, .int 0]) (ty0 := tyX4) X hP hD hS rfl hi4 tyX4_ok (List.mem_of_getElem? (i := 9) rfl) (List.mem_of_getElem? (i := 10) rfl) (List.mem_of_getElem? (i := 11) rfl) (fun j hj => by match j, hj with | 0, _ => rfl | 1, _ => rfl) (Nat.le_of_ble_eq_true rfl) (Nat.le_of_ble_eq_true rfl) dX7_init_27 (fun q3 H hP hD hS => ?_)
  refine lv_dup hx hb dX7_init_30 rfl ?_
  refine zk_callI (As := []) (rest := [.ref q3, .ref a0]) X hP hD hS (zc_X4_init (N0 := 25) zkB_at zkE_at) (cwI 0 X.ts gX7_init_X4_init rfl rfl rfl (X.ts _ (List.mem_of_getElem? (i := 11) rfl)) (X.ts _ (List.mem_of_getElem? (i := 43) rfl)) (X.ts _ (List.mem_of_getElem? (i := 44) rfl)) rfl (by decide +kernel) ⟨Nat.le_of_ble_eq_true rfl, Nat.le_of_ble_eq_true rfl⟩) rfl hl.1 rfl (Nat.le_of_ble_eq_true rfl) dX7_init_31 ⟨Nat.le_of_ble_eq_true rfl, Nat.le_of_ble_eq_true rfl⟩ (fun u H locs hu hP hD hS => ?_)
  obtain ⟨b3, e3⟩ := u
  have u3b : ∀ j, j ≤ 25 → b3 j = zkB b2 25 q3 j := hu.1
  have u3e : ∀ j, j < 25 → e3 j = zkE E2 25 _ j := hu.2.1
  have r3 := hu.2.2
  dsimp only at r3
  clear hu
  dsimp only at hP hD
  have q3v : b3 25 = q3 := (u3b 25 (Nat.le_refl _)).trans zkB_at
  have o3b : ∀ j, j < 25 → b3 j = b2 j := fun j hj => (u3b j (by omega)).trans (zkB_ne (by omega))
  have o3e : ∀ j, j < 25 → e3 j = E2 j := fun j hj => (u3e j hj).trans (zkE_ne (by omega))
  have a3 : b3 0 = a0 := (o3b 0 (by omega)).trans a2
  refine zk_putF (N := 99) (ci := 7) (k := 2) (C := RX7) (T := TX7) (Nf := 6) (ty := .object "SparrowRace$SavedRaces") (ty0 := tyX7) X hin hP hD hS a3 (by omega) ((o3e 0 (by omega)).trans f2_0) rfl hi7 tyX7_ok nmX7 (by decide) (List.mem_of_getElem? (i := 12) rfl) rfl rfl (by decide +kernel) rfl rfl (Nat.le_of_ble_eq_true rfl) dX7_init_34 (fun H locs hP hD hS => ?_)
  obtain ⟨E3, hE3⟩ : ∃ E3 : Nat → va_E, va_P (dC, dI) vwCl (zkW 99 b3 E3) H ∧ va_D A (zkW 99 b3 E3) ∧ E3 0 = .inr (7, [.ref (b3 1), .ref (b3 13), .ref (b3 25), .null, .null, .null]) ∧ zkRace ca 1 b3 E3 ∧ zkRace ca 13 b3 E3 ∧ (E3 25 = .inr (4, [.ref (b3 26), .int 0]) ∧ E3 26 = .inl (ca 5, 6, .inr (.inr (.inr (.inr (fun j => if j < 6 then some (b3 (27 + 12 * j)) else none))))) ∧ ∀ i, i < 6 → zkRace ca (27 + 12 * i) b3 E3) :=
    ⟨_, hP, hD, zkE_at.trans (by rw [show b3 1 = b2 1 from o3b 1 (by omega), show b3 13 = b2 13 from o3b 13 (by omega), q3v]; rfl), f2_1.k (M := 13) (by omega) (fun j z1 z2 => o3b j (by omega)) (fun j z1 z2 => (zkE_ne (by omega)).trans (o3e j (by omega))), f2_2.k (M := 25) (by omega) (fun j z1 z2 => o3b j (by omega)) (fun j z1 z2 => (zkE_ne (by omega)).trans (o3e j (by omega))), ⟨(zkE_ne (by omega)).trans r3.1, (zkE_ne (by omega)).trans r3.2.1, fun i hi => (r3.2.2 i hi).k (M := 99) (by omega) (fun _ _ _ => rfl) (fun j z1 z2 => zkE_ne (by omega))⟩⟩
  clear hP hD
  obtain ⟨hP, hD, f3_0, f3_1, f3_2, f3_3⟩ := hE3
  refine lv_aload_n hx hb dX7_init_37 rfl (lv_at hl 0 rfl) ?_
  refine zk_new (N := 99) (ci := 5) (C := RX5) (T := TX5) (Nf := 2) (fs := [.null, .null]) (ty0 := tyX5) X hP hD hS rfl hi5 tyX5_ok (List.mem_of_getElem? (i := 13) rfl) (List.mem_of_getElem? (i := 14) rfl) (List.mem_of_getElem? (i := 15) rfl) (fun j hj => by match j, hj with | 0, _ => rfl | 1, _ => rfl) (Nat.le_of_ble_eq_true rfl) (Nat.le_of_ble_eq_true rfl) dX7_init_38 (fun q4 H hP hD hS => ?_)
  refine lv_dup hx hb dX7_init_41 rfl ?_
  refine zk_callI (As := []) (rest := [.ref q4, .ref a0]) X hP hD hS (zc_X5_init (N0 := 99) zkB_at zkE_at) (cwI 0 X.ts gX7_init_X5_init rfl rfl rfl (X.ts _ (List.mem_of_getElem? (i := 15) rfl)) (X.ts _ (List.mem_of_getElem? (i := 50) rfl)) (X.ts _ (List.mem_of_getElem? (i := 51) rfl)) rfl (by decide +kernel) ⟨Nat.le_of_ble_eq_true rfl, Nat.le_of_ble_eq_true rfl⟩) rfl hl.1 rfl (Nat.le_of_ble_eq_true rfl) dX7_init_42 ⟨Nat.le_of_ble_eq_true rfl, Nat.le_of_ble_eq_true rfl⟩ (fun u H locs hu hP hD hS => ?_)
  obtain ⟨b4, e4⟩ := u
  have u4b : ∀ j, j ≤ 99 → b4 j = zkB b3 99 q4 j := hu.1
  have u4e : ∀ j, j < 99 → e4 j = zkE E3 99 _ j := hu.2.1
  have r4 := hu.2.2
  dsimp only at r4
  clear hu
  dsimp only at hP hD
  have q4v : b4 99 = q4 := (u4b 99 (Nat.le_refl _)).trans zkB_at
  have o4b : ∀ j, j < 99 → b4 j = b3 j := fun j hj => (u4b j (by omega)).trans (zkB_ne (by omega))
  have o4e : ∀ j, j < 99 → e4 j = E3 j := fun j hj => (u4e j hj).trans (zkE_ne (by omega))
  have a4 : b4 0 = a0 := (o4b 0 (by omega)).trans a3
  refine zk_putF (N := 126) (ci := 7) (k := 3) (C := RX7) (T := TX7) (Nf := 6) (ty := .object "SparrowRace$Slots") (ty0 := tyX7) X hin hP hD hS a4 (by omega) ((o4e 0 (by omega)).trans f3_0) rfl hi7 tyX7_ok nmX7 (by decide) (List.mem_of_getElem? (i := 16) rfl) rfl rfl (by decide +kernel) rfl rfl (Nat.le_of_ble_eq_true rfl) dX7_init_45 (fun H locs hP hD hS => ?_)
  obtain ⟨E4, hE4⟩ : ∃ E4 : Nat → va_E, va_P (dC, dI) vwCl (zkW 126 b4 E4) H ∧ va_D A (zkW 126 b4 E4) ∧ E4 0 = .inr (7, [.ref (b4 1), .ref (b4 13), .ref (b4 25), .ref (b4 99), .null, .null]) ∧ zkRace ca 1 b4 E4 ∧ zkRace ca 13 b4 E4 ∧ (E4 25 = .inr (4, [.ref (b4 26), .int 0]) ∧ E4 26 = .inl (ca 5, 6, .inr (.inr (.inr (.inr (fun j => if j < 6 then some (b4 (27 + 12 * j)) else none))))) ∧ ∀ i, i < 6 → zkRace ca (27 + 12 * i) b4 E4) ∧ (E4 99 = .inr (5, [.ref (b4 100), .ref (b4 101)]) ∧ E4 100 = .inl (ca 5, 2, .inr (.inr (.inr (.inr (fun j => if j < 2 then some (b4 (102 + 12 * j)) else none))))) ∧ E4 101 = .inl (ca 1, 2, .inl (fun _ => 0)) ∧ ∀ i, i < 2 → zkRace ca (102 + 12 * i) b4 E4) :=
    ⟨_, hP, hD, zkE_at.trans (by rw [show b4 1 = b3 1 from o4b 1 (by omega), show b4 13 = b3 13 from o4b 13 (by omega), show b4 25 = b3 25 from o4b 25 (by omega), q4v]; rfl), f3_1.k (M := 13) (by omega) (fun j z1 z2 => o4b j (by omega)) (fun j z1 z2 => (zkE_ne (by omega)).trans (o4e j (by omega))), f3_2.k (M := 25) (by omega) (fun j z1 z2 => o4b j (by omega)) (fun j z1 z2 => (zkE_ne (by omega)).trans (o4e j (by omega))), ⟨by rw [zkE_ne (by omega), o4e 25 (by omega), o4b 26 (by omega)]; exact f3_3.1, by rw [zkE_ne (by omega), o4e 26 (by omega), refs_c (g := fun j => b3 (27 + 12 * j)) (fun j hj => o4b _ (by omega))]; exact f3_3.2.1, fun i hi => (f3_3.2.2 i hi).k (M := 99) (by omega) (fun j z1 z2 => o4b j (by omega)) (fun j z1 z2 => (zkE_ne (by omega)).trans (o4e j (by omega)))⟩, ⟨(zkE_ne (by omega)).trans r4.1, (zkE_ne (by omega)).trans r4.2.1, (zkE_ne (by omega)).trans r4.2.2.1, fun i hi => (r4.2.2.2 i hi).k (M := 126) (by omega) (fun _ _ _ => rfl) (fun j z1 z2 => zkE_ne (by omega))⟩⟩
  clear hP hD
  obtain ⟨hP, hD, f4_0, f4_1, f4_2, f4_3, f4_4⟩ := hE4
  refine lv_aload_n hx hb dX7_init_48 rfl (lv_at hl 0 rfl) ?_
  refine zk_new (N := 126) (ci := 2) (C := RX2) (T := TX2) (Nf := 2) (fs := [.null, .int 0]) (ty0 := tyX2) X hP hD hS rfl hi2 tyX2_ok (List.mem_of_getElem? (i := 17) rfl) (List.mem_of_getElem? (i := 18) rfl) (List.mem_of_getElem? (i := 19) rfl) (fun j hj => by match j, hj with | 0, _ => rfl | 1, _ => rfl) (Nat.le_of_ble_eq_true rfl) (Nat.le_of_ble_eq_true rfl) dX7_init_49 (fun q5 H hP hD hS => ?_)
  refine lv_dup hx hb dX7_init_52 rfl ?_
  refine zk_callN (As := []) (rest := [.ref q5, .ref a0]) X hP hD hS (zc_X2_init (N0 := 126) zkB_at zkE_at) ⟨va_cnB 0 X.ts gX7_init_X2_init_n35 rfl rfl rfl (X.th.2.1.2.2.1 (35, yX2_init) (by decide)) (X.ts _ (List.mem_of_getElem? (i := 19) rfl)) (by decide +kernel) ⟨Nat.le_of_ble_eq_true rfl, Nat.le_of_ble_eq_true rfl⟩, rfl, X.ts _ (List.mem_of_getElem? (i := 59) rfl)⟩ rfl hl.1 rfl (Nat.le_of_ble_eq_true rfl) dX7_init_53 ⟨Nat.le_of_ble_eq_true rfl, Nat.le_of_ble_eq_true rfl⟩ (fun u H locs hu hP hD hS => ?_)
  obtain ⟨b5, e5⟩ := u
  have u5b : ∀ j, j ≤ 126 → b5 j = zkB b4 126 q5 j := hu.1
  have u5e : ∀ j, j < 126 → e5 j = zkE E4 126 _ j := hu.2.1
  have r5 := hu.2.2
  dsimp only at r5
  clear hu
  dsimp only at hP hD
  have q5v : b5 126 = q5 := (u5b 126 (Nat.le_refl _)).trans zkB_at
  have o5b : ∀ j, j < 126 → b5 j = b4 j := fun j hj => (u5b j (by omega)).trans (zkB_ne (by omega))
  have o5e : ∀ j, j < 126 → e5 j = E4 j := fun j hj => (u5e j hj).trans (zkE_ne (by omega))
  have a5 : b5 0 = a0 := (o5b 0 (by omega)).trans a4
  refine zk_putF (N := 128) (ci := 7) (k := 4) (C := RX7) (T := TX7) (Nf := 6) (ty := .object "SparrowRace$OrderText") (ty0 := tyX7) X hin hP hD hS a5 (by omega) ((o5e 0 (by omega)).trans f4_0) rfl hi7 tyX7_ok nmX7 (by decide) (List.mem_of_getElem? (i := 20) rfl) rfl rfl (by decide +kernel) rfl rfl (Nat.le_of_ble_eq_true rfl) dX7_init_56 (fun H locs hP hD hS => ?_)
  obtain ⟨E5, hE5⟩ : ∃ E5 : Nat → va_E, va_P (dC, dI) vwCl (zkW 128 b5 E5) H ∧ va_D A (zkW 128 b5 E5) ∧ E5 0 = .inr (7, [.ref (b5 1), .ref (b5 13), .ref (b5 25), .ref (b5 99), .ref (b5 126), .null]) ∧ zkRace ca 1 b5 E5 ∧ zkRace ca 13 b5 E5 ∧ (E5 25 = .inr (4, [.ref (b5 26), .int 0]) ∧ E5 26 = .inl (ca 5, 6, .inr (.inr (.inr (.inr (fun j => if j < 6 then some (b5 (27 + 12 * j)) else none))))) ∧ ∀ i, i < 6 → zkRace ca (27 + 12 * i) b5 E5) ∧ (E5 99 = .inr (5, [.ref (b5 100), .ref (b5 101)]) ∧ E5 100 = .inl (ca 5, 2, .inr (.inr (.inr (.inr (fun j => if j < 2 then some (b5 (102 + 12 * j)) else none))))) ∧ E5 101 = .inl (ca 1, 2, .inl (fun _ => 0)) ∧ ∀ i, i < 2 → zkRace ca (102 + 12 * i) b5 E5) ∧ (E5 126 = .inr (2, [.ref (b5 127), .int 0]) ∧ E5 127 = .inl (ca 2, 60, .inl (fun _ => 0))) :=
    ⟨_, hP, hD, zkE_at.trans (by rw [show b5 1 = b4 1 from o5b 1 (by omega), show b5 13 = b4 13 from o5b 13 (by omega), show b5 25 = b4 25 from o5b 25 (by omega), show b5 99 = b4 99 from o5b 99 (by omega), q5v]; rfl), f4_1.k (M := 13) (by omega) (fun j z1 z2 => o5b j (by omega)) (fun j z1 z2 => (zkE_ne (by omega)).trans (o5e j (by omega))), f4_2.k (M := 25) (by omega) (fun j z1 z2 => o5b j (by omega)) (fun j z1 z2 => (zkE_ne (by omega)).trans (o5e j (by omega))), ⟨by rw [zkE_ne (by omega), o5e 25 (by omega), o5b 26 (by omega)]; exact f4_3.1, by rw [zkE_ne (by omega), o5e 26 (by omega), refs_c (g := fun j => b4 (27 + 12 * j)) (fun j hj => o5b _ (by omega))]; exact f4_3.2.1, fun i hi => (f4_3.2.2 i hi).k (M := 99) (by omega) (fun j z1 z2 => o5b j (by omega)) (fun j z1 z2 => (zkE_ne (by omega)).trans (o5e j (by omega)))⟩, ⟨by rw [zkE_ne (by omega), o5e 99 (by omega), o5b 100 (by omega), o5b 101 (by omega)]; exact f4_4.1, by rw [zkE_ne (by omega), o5e 100 (by omega), refs_c (g := fun j => b4 (102 + 12 * j)) (fun j hj => o5b _ (by omega))]; exact f4_4.2.1, by rw [zkE_ne (by omega), o5e 101 (by omega)]; exact f4_4.2.2.1, fun i hi => (f4_4.2.2.2 i hi).k (M := 126) (by omega) (fun j z1 z2 => o5b j (by omega)) (fun j z1 z2 => (zkE_ne (by omega)).trans (o5e j (by omega)))⟩, ⟨(zkE_ne (by omega)).trans r5.1, (zkE_ne (by omega)).trans r5.2⟩⟩
  clear hP hD
  obtain ⟨hP, hD, f5_0, f5_1, f5_2, f5_3, f5_4, f5_5⟩ := hE5
  refine lv_aload_n hx hb dX7_init_59 rfl (lv_at hl 0 rfl) ?_
  refine zk_new (N := 128) (ci := 1) (C := RX1) (T := TX1) (Nf := 4) (fs := [.int 0, .int 0, .int 0, .int 0]) (ty0 := tyX1) X hP hD hS rfl hi1 tyX1_ok (List.mem_of_getElem? (i := 21) rfl) (List.mem_of_getElem? (i := 22) rfl) (List.mem_of_getElem? (i := 23) rfl) (fun j hj => by match j, hj with | 0, _ => rfl | 1, _ => rfl | 2, _ => rfl | 3, _ => rfl) (Nat.le_of_ble_eq_true rfl) (Nat.le_of_ble_eq_true rfl) dX7_init_60 (fun q6 H hP hD hS => ?_)
  refine lv_dup hx hb dX7_init_63 rfl ?_
  refine zk_callN (As := []) (rest := [.ref q6, .ref a0]) X hP hD hS (zc_X1_init (N := 128 + 1) (b := zkB b5 128 q6)) ⟨va_cnB 0 X.ts gX7_init_X1_init_n42 rfl rfl rfl (X.th.2.1.2.2.1 (42, yX1_init) (by decide)) (X.ts _ (List.mem_of_getElem? (i := 23) rfl)) (by decide +kernel) ⟨Nat.le_of_ble_eq_true rfl, Nat.le_of_ble_eq_true rfl⟩, rfl, X.ts _ (List.mem_of_getElem? (i := 64) rfl)⟩ rfl hl.1 rfl (Nat.le_of_ble_eq_true rfl) dX7_init_64 ⟨Nat.le_of_ble_eq_true rfl, Nat.le_of_ble_eq_true rfl⟩ (fun u H locs hu hP hD hS => ?_)
  obtain ⟨b6, e6⟩ := u
  have u6b : ∀ j, j ≤ 128 → b6 j = zkB b5 128 q6 j := fun j _ => congrFun (congrArg Prod.fst hu) j
  have u6E : ∀ j, e6 j = zkE E5 128 _ j := fun j => congrFun (congrArg Prod.snd hu) j
  have u6e : ∀ j, j < 128 → e6 j = zkE E5 128 _ j := fun j _ => u6E j
  have r6 : e6 128 = .inr (1, [.int 0, .int 0, .int 0, .int 0]) := (u6E 128).trans zkE_at
  clear hu
  dsimp only at hP hD
  have q6v : b6 128 = q6 := (u6b 128 (Nat.le_refl _)).trans zkB_at
  have o6b : ∀ j, j < 128 → b6 j = b5 j := fun j hj => (u6b j (by omega)).trans (zkB_ne (by omega))
  have o6e : ∀ j, j < 128 → e6 j = E5 j := fun j hj => (u6e j hj).trans (zkE_ne (by omega))
  have a6 : b6 0 = a0 := (o6b 0 (by omega)).trans a5
  refine zk_putF (N := 129) (ci := 7) (k := 5) (C := RX7) (T := TX7) (Nf := 6) (ty := .object "SparrowRace$OrderReader") (ty0 := tyX7) X hin hP hD hS a6 (by omega) ((o6e 0 (by omega)).trans f5_0) rfl hi7 tyX7_ok nmX7 (by decide) (List.mem_of_getElem? (i := 24) rfl) rfl rfl (by decide +kernel) rfl rfl (Nat.le_of_ble_eq_true rfl) dX7_init_67 (fun H locs hP hD hS => ?_)
  obtain ⟨E6, hE6⟩ : ∃ E6 : Nat → va_E, va_P (dC, dI) vwCl (zkW 129 b6 E6) H ∧ va_D A (zkW 129 b6 E6) ∧ E6 0 = .inr (7, [.ref (b6 1), .ref (b6 13), .ref (b6 25), .ref (b6 99), .ref (b6 126), .ref (b6 128)]) ∧ zkRace ca 1 b6 E6 ∧ zkRace ca 13 b6 E6 ∧ (E6 25 = .inr (4, [.ref (b6 26), .int 0]) ∧ E6 26 = .inl (ca 5, 6, .inr (.inr (.inr (.inr (fun j => if j < 6 then some (b6 (27 + 12 * j)) else none))))) ∧ ∀ i, i < 6 → zkRace ca (27 + 12 * i) b6 E6) ∧ (E6 99 = .inr (5, [.ref (b6 100), .ref (b6 101)]) ∧ E6 100 = .inl (ca 5, 2, .inr (.inr (.inr (.inr (fun j => if j < 2 then some (b6 (102 + 12 * j)) else none))))) ∧ E6 101 = .inl (ca 1, 2, .inl (fun _ => 0)) ∧ ∀ i, i < 2 → zkRace ca (102 + 12 * i) b6 E6) ∧ (E6 126 = .inr (2, [.ref (b6 127), .int 0]) ∧ E6 127 = .inl (ca 2, 60, .inl (fun _ => 0))) ∧ E6 128 = .inr (1, [.int 0, .int 0, .int 0, .int 0]) :=
    ⟨_, hP, hD, zkE_at.trans (by rw [show b6 1 = b5 1 from o6b 1 (by omega), show b6 13 = b5 13 from o6b 13 (by omega), show b6 25 = b5 25 from o6b 25 (by omega), show b6 99 = b5 99 from o6b 99 (by omega), show b6 126 = b5 126 from o6b 126 (by omega), q6v]; rfl), f5_1.k (M := 13) (by omega) (fun j z1 z2 => o6b j (by omega)) (fun j z1 z2 => (zkE_ne (by omega)).trans (o6e j (by omega))), f5_2.k (M := 25) (by omega) (fun j z1 z2 => o6b j (by omega)) (fun j z1 z2 => (zkE_ne (by omega)).trans (o6e j (by omega))), ⟨by rw [zkE_ne (by omega), o6e 25 (by omega), o6b 26 (by omega)]; exact f5_3.1, by rw [zkE_ne (by omega), o6e 26 (by omega), refs_c (g := fun j => b5 (27 + 12 * j)) (fun j hj => o6b _ (by omega))]; exact f5_3.2.1, fun i hi => (f5_3.2.2 i hi).k (M := 99) (by omega) (fun j z1 z2 => o6b j (by omega)) (fun j z1 z2 => (zkE_ne (by omega)).trans (o6e j (by omega)))⟩, ⟨by rw [zkE_ne (by omega), o6e 99 (by omega), o6b 100 (by omega), o6b 101 (by omega)]; exact f5_4.1, by rw [zkE_ne (by omega), o6e 100 (by omega), refs_c (g := fun j => b5 (102 + 12 * j)) (fun j hj => o6b _ (by omega))]; exact f5_4.2.1, by rw [zkE_ne (by omega), o6e 101 (by omega)]; exact f5_4.2.2.1, fun i hi => (f5_4.2.2.2 i hi).k (M := 126) (by omega) (fun j z1 z2 => o6b j (by omega)) (fun j z1 z2 => (zkE_ne (by omega)).trans (o6e j (by omega)))⟩, ⟨by rw [zkE_ne (by omega), o6e 126 (by omega), o6b 127 (by omega)]; exact f5_5.1, by rw [zkE_ne (by omega), o6e 127 (by omega)]; exact f5_5.2⟩, (zkE_ne (by omega)).trans r6⟩
  clear hP hD
  obtain ⟨hP, hD, f6_0, f6_1, f6_2, f6_3, f6_4, f6_5, f6_6⟩ := hE6
  exact W.vret hx hb hr (fun t9 ht hW => ⟨⟨(b6, E6), rfl, ⟨a6.trans ha.symm, f6_0, f6_1, f6_2, f6_3, f6_4, f6_5, f6_6⟩, ⟨gEnd ht hP, hD⟩⟩, hS.F ht⟩) hS.2.2 dX7_init_70 hlk
