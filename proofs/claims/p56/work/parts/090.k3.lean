set_option maxHeartbeats 8000000 in
set_option maxRecDepth 100000 in
theorem zc_X4_init {l : Launch} {dC : Nat → ClassId} {dI : Nat → Nat → Nat} {ca : Nat → ClassId} {A : Nat → Prop} {N0 a0 : Nat} {b : Nat → Nat} {E : Nat → va_E} (ha : b N0 = a0) (hE : E N0 = .inr (4, [.null, .int 0])) : Met l yX4_init wsX4_init ({ frames := 3, cells := 73, slots := 930, locals := 110 } : Room) (va_Pc [.ref a0] (zkPre dC dI ca A (N0 + 1) b E)) (va_Qv (fun (u : (Nat → Nat) × (Nat → va_E)) => (∀ k, k ≤ N0 → u.1 k = b k) ∧ (∀ k, k < N0 → u.2 k = E k) ∧ u.2 N0 = .inr (4, [.ref (u.1 (N0 + 1)), .int 0]) ∧ u.2 (N0 + 1) = .inl (ca 5, 6, .inr (.inr (.inr (.inr (fun j => if j < 6 then some (u.1 (N0 + 2 + 12 * j)) else none))))) ∧ ∀ i, i < 6 → zkRace ca (N0 + 2 + 12 * i) u.1 u.2) (fun u t => zkEnd dC dI A (N0 + 74) u t.heap) A) 73 930 A := by
  refine Met.ofW (cc := cX4_init) (maxL := 2) (ret := none) (by decide) rfl ?_
  intro p e s m args below meth c s₁ B hml hv
  obtain ⟨rfl, hP, hD, hK, hA2, hth, hao6, hao3⟩ := hv
  have hx := B.exec
  have hb := B.bytes
  have hr := B.returns
  have hlk := B.notSynchronized
  have hin : meth.name = "<init>" := (name_of_methodNamed B.named B.method).1
  have X : zkCx p s m ([.ref a0] : List Value).toArray c RX4 cX4_init wsX4_init 2 dC dI ca A := ⟨hx, hb, hml, findClass_of_methodNamed B.named, atoms_spec (ws := wsX4_init) B.pre, hK, hA2, hth, hao6, hao3⟩
  have hS : va_S A s.heap s.heap [] := va_S.rf
  have hl := lv_entry ([.ref a0] : List Value) (n := 2) (Nat.le_of_ble_eq_true rfl)
  rw [lg_entry_eq]
  generalize (lg_sl ([.ref a0] : List Value) ++ List.replicate (2 - (lg_sl ([.ref a0] : List Value)).length) Slot.unset).toArray = ls at hl ⊢
  have hl : lv_has ls 2 [(0, .ref a0)] := hl
  refine lv_aload_n hx hb dX4_init_0 rfl (lv_at hl 0 rfl) ?_
  refine W.objInit hx hb X.ow (X.ts _ (List.mem_of_getElem? (i := 1) rfl)) (X.ts _ (List.mem_of_getElem? (i := 2) rfl)) (X.ts _ (List.mem_of_getElem? (i := 3) rfl)) rfl (by rw [hml]; exact hl.1) rfl dX4_init_1 (Nat.le_of_ble_eq_true rfl) (Nat.le_of_ble_eq_true rfl) ?_
  refine W.eq (g2 := F0 m 4 ls []) rfl ?_
  have hi : ∀ w ∈ wsX40, w ∈ wsX4_init := (fun w h => List.mem_cons_of_mem _ (List.mem_append_left _ (List.mem_append_left _ (List.mem_append_right _ h))))
  have hi3 : ∀ w ∈ wsX30, w ∈ wsX4_init := (fun w h => List.mem_cons_of_mem _ (List.mem_append_left _ (List.mem_append_right _ h)))
  refine lv_aload_n hx hb dX4_init_4 rfl (lv_at hl 0 rfl) ?_
  refine lv_bipush (v := 6) hx hb dX4_init_5 (by decide) ?_
  refine zk_newq (t := 5) (C := RX3) (N' := 6) X hP hD hS (List.mem_of_getElem? (i := 4) rfl) X.ao.2 rfl (by decide) (by decide) (by decide) (Nat.le_of_ble_eq_true rfl) (Nat.le_of_ble_eq_true rfl) dX4_init_7 (fun q1 H hP hD hS => ?_)
  refine zk_putF (ci := 4) (k := 0) (C := RX4) (T := TX4) (Nf := 2) (ty := .array (.object "SparrowRace$Race")) (ty0 := tyX4) X hin hP hD hS ((zkB_ne (by omega)).trans ha) (by omega) ((zkE_ne (by omega)).trans hE) rfl hi tyX4_ok nmX4 (by decide) (List.mem_of_getElem? (i := 5) rfl) rfl rfl (by decide +kernel) rfl rfl (Nat.le_of_ble_eq_true rfl) dX4_init_10 (fun H locs hP hD hS => ?_)
  have g0 : zkB b (N0 + 1) q1 N0 = a0 := (zkB_ne (by omega)).trans ha
  have g1 : zkB b (N0 + 1) q1 (N0 + 1) = q1 := zkB_at
  have gb : ∀ k, k ≤ N0 → zkB b (N0 + 1) q1 k = b k := fun k hk => zkB_ne (by omega)
  generalize zkB b (N0 + 1) q1 = b2 at *
  obtain ⟨E2, hE2⟩ : ∃ E2 : Nat → va_E, va_P (dC, dI) vwCl (zkW (N0 + 2) b2 E2) H ∧ va_D A (zkW (N0 + 2) b2 E2) ∧ E2 N0 = .inr (4, [.ref q1, .int 0]) ∧ E2 (N0 + 1) = .inl (ca 5, 6, .inr (.inr (.inr (.inr (fun _ => none))))) ∧ ∀ k, k < N0 → E2 k = E k :=
    ⟨_, hP, hD, zkE_at, (zkE_ne (by omega)).trans zkE_at, fun k hk => (zkE_ne (by omega)).trans (zkE_ne (by omega))⟩
  clear hP hD
  obtain ⟨hP, hD, f0, f1, fE⟩ := hE2
  have loop1 : ∀ (Q : State → Prop), (∀ (b' : Nat → Nat) (E' : Nat → va_E) (H : Heap) (locs : List Loc) (ls : Array Slot) (cn sn : Nat), (∀ j, j < N0 + 2 → b' j = b2 j) → (∀ j, j < N0 + 2 → j ≠ N0 + 1 → E' j = E2 j) → E' (N0 + 1) = .inl (ca 5, 6, .inr (.inr (.inr (.inr (fun j => if j < 6 then some (b' (N0 + 2 + 12 * j)) else none))))) → (∀ i, i < 6 → zkRace ca (N0 + 2 + 12 * i) b' E') → va_P (dC, dI) vwCl (zkW (N0 + 74) b' E') H → va_D A (zkW (N0 + 74) b' E') → va_S A s.heap H locs → cn ≤ 73 → sn ≤ 930 → W p l e ({ frames := 3, cells := 73, slots := 930, locals := 110 } : Room) s m ([.ref a0] : List Value).toArray below meth c H locs cn sn Q (F0 m 43 ls [])) → ∀ d k, k + d = 6 → ∀ (b' : Nat → Nat) (E' : Nat → va_E) (H : Heap) (locs : List Loc) (ls : Array Slot) (x : Int32) (cn sn : Nat), x = nI k → (∀ j, j < N0 + 2 → b' j = b2 j) → (∀ j, j < N0 + 2 → j ≠ N0 + 1 → E' j = E2 j) → E' (N0 + 1) = .inl (ca 5, 6, .inr (.inr (.inr (.inr (fun j => if j < k then some (b' (N0 + 2 + 12 * j)) else none))))) → (∀ i, i < k → zkRace ca (N0 + 2 + 12 * i) b' E') → va_P (dC, dI) vwCl (zkW (N0 + 2 + 12 * k) b' E') H → va_D A (zkW (N0 + 2 + 12 * k) b' E') → va_S A s.heap H locs → lv_has ls 2 [(0, .ref a0), (1, .int x)] → cn ≤ 1 + 12 * k → sn ≤ 6 + 154 * k →
      W p l e ({ frames := 3, cells := 73, slots := 930, locals := 110 } : Room) s m ([.ref a0] : List Value).toArray below meth c H locs cn sn Q (F0 m 15 ls []) := by
    intro Q KT d
    induction d with
    | zero =>
      intro k hk b' E' H locs ls x cn sn ex jb jE j1 jS hP hD hS hl hcn hsn
      have hk6 : k = 6 := by omega
      subst hk6
      refine lv_iload_n hx hb dX4_init_15 rfl (lv_at hl 1 rfl) ?_
      refine lv_aload_n hx hb dX4_init_16 rfl (lv_at hl 0 rfl) ?_
      refine zk_get (ci := 4) (k := 0) (C := RX4) (T := TX4) (Nf := 2) X hP ((jb N0 (by omega)).trans g0) (by omega) ((jE N0 (by omega) (by omega)).trans f0) rfl hi (by decide) (List.mem_of_getElem? (i := 5) rfl) rfl dX4_init_17 ?_
      refine zk_alen (t := 5) (ty := .object "SparrowRace$Race") (v := 6) X hP ((jb (N0 + 1) (by omega)).trans g1) (by omega) j1 rfl rfl dX4_init_20 ?_
      refine lv_icmp_ge (tgt := 43) hx hb dX4_init_21 (by decide) (fun c1 => ?_) (fun c1 => ?_)
      · exact KT b' E' H locs ls cn sn jb jE j1 jS hP hD hS (by omega) (by omega)
      · exact absurd (by rw [ex]; decide) c1
    | succ d ih =>
      intro k hk b' E' H locs ls x cn sn ex jb jE j1 jS hP hD hS hl hcn hsn
      refine lv_iload_n hx hb dX4_init_15 rfl (lv_at hl 1 rfl) ?_
      refine lv_aload_n hx hb dX4_init_16 rfl (lv_at hl 0 rfl) ?_
      refine zk_get (ci := 4) (k := 0) (C := RX4) (T := TX4) (Nf := 2) X hP ((jb N0 (by omega)).trans g0) (by omega) ((jE N0 (by omega) (by omega)).trans f0) rfl hi (by decide) (List.mem_of_getElem? (i := 5) rfl) rfl dX4_init_17 ?_
      refine zk_alen (t := 5) (ty := .object "SparrowRace$Race") (v := 6) X hP ((jb (N0 + 1) (by omega)).trans g1) (by omega) j1 rfl rfl dX4_init_20 ?_
      refine lv_icmp_ge (tgt := 43) hx hb dX4_init_21 (by decide) (fun c1 => ?_) (fun c1 => ?_)
      · refine absurd c1 ?_
        rw [ex, show (6 : Int32) = nI 6 from rfl, pi_le (by omega) (by omega)]; omega
      · refine lv_aload_n hx hb dX4_init_24 rfl (lv_at hl 0 rfl) ?_
        refine zk_get (ci := 4) (k := 0) (C := RX4) (T := TX4) (Nf := 2) X hP ((jb N0 (by omega)).trans g0) (by omega) ((jE N0 (by omega) (by omega)).trans f0) rfl hi (by decide) (List.mem_of_getElem? (i := 5) rfl) rfl dX4_init_25 ?_
        refine lv_iload_n hx hb dX4_init_28 rfl (lv_at hl 1 rfl) ?_
        refine zk_new (ci := 3) (C := RX3) (T := TX3) (Nf := 14) (fs := rc0) (ty0 := tyX3) X hP hD hS rfl hi3 tyX3_ok (List.mem_of_getElem? (i := 4) rfl) (List.mem_of_getElem? (i := 6) rfl) (List.mem_of_getElem? (i := 7) rfl) (fun j hj => by match j, hj with | 0, _ => rfl | 1, _ => rfl | 2, _ => rfl | 3, _ => rfl | 4, _ => rfl | 5, _ => rfl | 6, _ => rfl | 7, _ => rfl | 8, _ => rfl | 9, _ => rfl | 10, _ => rfl | 11, _ => rfl | 12, _ => rfl | 13, _ => rfl) (by show cn + 1 ≤ 73; omega) (by show sn + 14 ≤ 930; omega) dX4_init_29 (fun q H hP hD hS => ?_)
        refine lv_dup hx hb dX4_init_32 rfl ?_
        refine zk_callI (As := []) (rest := [.ref q, .int x, .ref q1]) X hP hD hS (zc_X3_init zkB_at zkE_at) (cwI 0 X.ts gX4_init_X3_init rfl rfl rfl (X.ts _ (List.mem_of_getElem? (i := 7) rfl)) (X.ts _ (List.mem_of_getElem? (i := 8) rfl)) (X.ts _ (List.mem_of_getElem? (i := 9) rfl)) rfl (by decide +kernel) ⟨Nat.le_of_ble_eq_true rfl, Nat.le_of_ble_eq_true rfl⟩) rfl hl.1 rfl (Nat.le_of_ble_eq_true rfl) dX4_init_33 ⟨by show cn + 1 + 11 ≤ 73; omega, by show sn + 14 + 140 ≤ 930; omega⟩ (fun u H locs hu hP hD hS => ?_)
        obtain ⟨ub, uE⟩ := u
        obtain ⟨u1, u2, u3⟩ := hu
        dsimp only at u1 u2 u3 hP hD
        have ub1 : ∀ j, j < N0 + 2 + 12 * k → ub j = b' j := fun j hj => (u1 j (by omega)).trans (zkB_ne (by omega))
        have uE1 : ∀ j, j < N0 + 2 + 12 * k → uE j = E' j := fun j hj => (u2 j hj).trans (zkE_ne (by omega))
        have ubk : ub (N0 + 2 + 12 * k) = q := (u1 _ (Nat.le_refl _)).trans zkB_at
        refine zk_astq (t := 5) (ci := 3) (qk := N0 + 2 + 12 * k) (r := (RX3, TX3, 14)) X hP hD hS ((ub1 (N0 + 1) (by omega)).trans ((jb (N0 + 1) (by omega)).trans g1)) (by omega) ((uE1 _ (by omega)).trans j1) rfl ubk (by omega) u3.1 rfl (by rw [ex]; exact vp_in_nI (by omega) (by omega)) dX4_init_36 (fun H locs hP hD hS => ?_)
        obtain ⟨y, ey⟩ : ∃ y : Int32, y = x + 1 := ⟨_, rfl⟩
        refine lv_iinc (v := y) (lv' := [(1, .int y), (0, .ref a0)]) hx hb dX4_init_37 hl (k := 1) rfl (by rw [ey]; rfl) (by decide) rfl (fun ls hl => ?_)
        refine lv_goto (tgt := 15) hx hb dX4_init_40 (by decide) ?_
        refine ih (k + 1) (by omega) ub _ H locs ls y _ _ (by rw [ey, ex]; exact pi_add k 1) (fun j hj => (ub1 j (by omega)).trans (jb j hj)) (fun j z1 z2 => (zkE_ne z2).trans ((uE1 j (by omega)).trans (jE j z1 z2))) ?_ (fun i hi => ?_) hP hD hS (lv_sub hl [1, 0] rfl) (by omega) (by omega)
        · rw [zkE_at, ex, show (nI k).toNatClampNeg = k from pi_tn (by omega)]
          rw [up_some (g := fun j => ub (N0 + 2 + 12 * j)) (k := k) (refs_c (fun j hj => (ub1 _ (by omega)).symm)) rfl]
        · by_cases z : i = k
          · rw [z]
            exact u3.k (Nat.le_refl _) (fun _ _ _ => rfl) (fun j z1 z2 => zkE_ne (by omega))
          · exact (jS i (by omega)).k (M := N0 + 2 + 12 * k) (by omega) (fun j z1 z2 => ub1 j z2) (fun j z1 z2 => (zkE_ne (by omega)).trans (uE1 j z2))
  refine lv_iconst (v := 0) hx hb dX4_init_13 (by decide) ?_
  refine lv_istore_n (lv' := [(1, .int (0 : Int32)), (0, .ref a0)]) hx hb dX4_init_14 rfl hl (by decide) rfl (fun ls hl => ?_)
  refine loop1 _ (fun b' E' H locs ls cn sn jb jE j1 jS hP hD hS hcn hsn => ?_) 6 0 rfl b2 E2 H _ ls 0 _ _ rfl (fun _ _ => rfl) (fun _ _ _ => rfl) (by rw [f1, refs_0]) (fun i hi => absurd hi (by omega)) hP hD hS (lv_sub hl [1, 0] rfl) (by show 0 + 1 ≤ 1 + 12 * 0; omega) (by show 0 + 6 ≤ 6 + 154 * 0; omega)
  refine W.widen (k := 73) (n := 930) hcn hsn ?_
  exact W.vret hx hb hr (fun t9 ht hW => ⟨⟨(b', E'), rfl, ⟨fun k hk => (jb k (by omega)).trans (gb k hk), fun k hk => (jE k (by omega) (by omega)).trans (fE k hk), by dsimp only; rw [show b' (N0 + 1) = q1 from (jb _ (by omega)).trans g1]; exact (jE N0 (by omega) (by omega)).trans f0, j1, jS⟩, ⟨gEnd ht hP, hD⟩⟩, hS.F ht⟩) hS.2.2 dX4_init_43 hlk
set_option maxHeartbeats 8000000 in
set_option maxRecDepth 100000 in
theorem zc_X5_init {l : Launch} {dC : Nat → ClassId} {dI : Nat → Nat → Nat} {ca : Nat → ClassId} {A : Nat → Prop} {N0 a0 : Nat} {b : Nat → Nat} {E : Nat → va_E} (ha : b N0 = a0) (hE : E N0 = .inr (5, [.null, .null])) : Met l yX5_init wsX5_init ({ frames := 3, cells := 26, slots := 312, locals := 110 } : Room) (va_Pc [.ref a0] (zkPre dC dI ca A (N0 + 1) b E)) (va_Qv (fun (u : (Nat → Nat) × (Nat → va_E)) => (∀ k, k ≤ N0 → u.1 k = b k) ∧ (∀ k, k < N0 → u.2 k = E k) ∧ u.2 N0 = .inr (5, [.ref (u.1 (N0 + 1)), .ref (u.1 (N0 + 2))]) ∧ u.2 (N0 + 1) = .inl (ca 5, 2, .inr (.inr (.inr (.inr (fun j => if j < 2 then some (u.1 (N0 + 3 + 12 * j)) else none))))) ∧ u.2 (N0 + 2) = .inl (ca 1, 2, .inl (fun _ => 0)) ∧ ∀ i, i < 2 → zkRace ca (N0 + 3 + 12 * i) u.1 u.2) (fun u t => zkEnd dC dI A (N0 + 27) u t.heap) A) 26 312 A := by
  refine Met.ofW (cc := cX5_init) (maxL := 2) (ret := none) (by decide) rfl ?_
  intro p e s m args below meth c s₁ B hml hv
  obtain ⟨rfl, hP, hD, hK, hA2, hth, hao6, hao3⟩ := hv
  have hx := B.exec
  have hb := B.bytes
  have hr := B.returns
  have hlk := B.notSynchronized
  have hin : meth.name = "<init>" := (name_of_methodNamed B.named B.method).1
  have X : zkCx p s m ([.ref a0] : List Value).toArray c RX5 cX5_init wsX5_init 2 dC dI ca A := ⟨hx, hb, hml, findClass_of_methodNamed B.named, atoms_spec (ws := wsX5_init) B.pre, hK, hA2, hth, hao6, hao3⟩
  have hS : va_S A s.heap s.heap [] := va_S.rf
  have hl := lv_entry ([.ref a0] : List Value) (n := 2) (Nat.le_of_ble_eq_true rfl)
  rw [lg_entry_eq]
  generalize (lg_sl ([.ref a0] : List Value) ++ List.replicate (2 - (lg_sl ([.ref a0] : List Value)).length) Slot.unset).toArray = ls at hl ⊢
  have hl : lv_has ls 2 [(0, .ref a0)] := hl
  refine lv_aload_n hx hb dX5_init_0 rfl (lv_at hl 0 rfl) ?_
  refine W.objInit hx hb X.ow (X.ts _ (List.mem_of_getElem? (i := 1) rfl)) (X.ts _ (List.mem_of_getElem? (i := 2) rfl)) (X.ts _ (List.mem_of_getElem? (i := 3) rfl)) rfl (by rw [hml]; exact hl.1) rfl dX5_init_1 (Nat.le_of_ble_eq_true rfl) (Nat.le_of_ble_eq_true rfl) ?_
  refine W.eq (g2 := F0 m 4 ls []) rfl ?_
  have hi : ∀ w ∈ wsX50, w ∈ wsX5_init := (fun w h => List.mem_cons_of_mem _ (List.mem_append_left _ (List.mem_append_left _ (List.mem_append_right _ h))))
  have hi3 : ∀ w ∈ wsX30, w ∈ wsX5_init := (fun w h => List.mem_cons_of_mem _ (List.mem_append_left _ (List.mem_append_right _ h)))
  refine lv_aload_n hx hb dX5_init_4 rfl (lv_at hl 0 rfl) ?_
  refine lv_iconst (v := 2) hx hb dX5_init_5 (by decide) ?_
  refine zk_newq (t := 5) (C := RX3) (N' := 2) X hP hD hS (List.mem_of_getElem? (i := 4) rfl) X.ao.2 rfl (by decide) (by decide) (by decide) (Nat.le_of_ble_eq_true rfl) (Nat.le_of_ble_eq_true rfl) dX5_init_6 (fun q1 H hP hD hS => ?_)
  refine zk_putF (ci := 5) (k := 0) (C := RX5) (T := TX5) (Nf := 2) (ty := .array (.object "SparrowRace$Race")) (ty0 := tyX5) X hin hP hD hS ((zkB_ne (by omega)).trans ha) (by omega) ((zkE_ne (by omega)).trans hE) rfl hi tyX5_ok nmX5 (by decide) (List.mem_of_getElem? (i := 5) rfl) rfl rfl (by decide +kernel) rfl rfl (Nat.le_of_ble_eq_true rfl) dX5_init_9 (fun H locs hP hD hS => ?_)
  refine lv_aload_n hx hb dX5_init_12 rfl (lv_at hl 0 rfl) ?_
  refine lv_iconst (v := 2) hx hb dX5_init_13 (by decide) ?_
  refine zk_newa (t := 1) (atype := .boolean) (ty := .boolean) (N' := 2) (a0 := (2, .inl (fun _ => 0))) X hP hD hS (List.mem_of_getElem? (i := 6) rfl) rfl rfl zk_unz (fun _ => rfl) (by decide) (by decide) (by decide) (Nat.le_of_ble_eq_true rfl) (Nat.le_of_ble_eq_true rfl) dX5_init_14 (fun q2 H hP hD hS => ?_)
  refine zk_putF (ci := 5) (k := 1) (C := RX5) (T := TX5) (Nf := 2) (ty := .array .boolean) (ty0 := tyX5) X hin hP hD hS ((zkB_ne (by omega)).trans ((zkB_ne (by omega)).trans ha)) (by omega) ((zkE_ne (by omega)).trans zkE_at) rfl hi tyX5_ok nmX5 (by decide) (List.mem_of_getElem? (i := 7) rfl) rfl rfl (by decide +kernel) rfl rfl (Nat.le_of_ble_eq_true rfl) dX5_init_16 (fun H locs hP hD hS => ?_)
  have g0 : zkB (zkB b (N0 + 1) q1) (N0 + 1 + 1) q2 N0 = a0 := (zkB_ne (by omega)).trans ((zkB_ne (by omega)).trans ha)
  have g1 : zkB (zkB b (N0 + 1) q1) (N0 + 1 + 1) q2 (N0 + 1) = q1 := (zkB_ne (by omega)).trans zkB_at
  have g2 : zkB (zkB b (N0 + 1) q1) (N0 + 1 + 1) q2 (N0 + 2) = q2 := zkB_at
  have gb : ∀ k, k ≤ N0 → zkB (zkB b (N0 + 1) q1) (N0 + 1 + 1) q2 k = b k := fun k hk => (zkB_ne (by omega)).trans (zkB_ne (by omega))
  generalize zkB (zkB b (N0 + 1) q1) (N0 + 1 + 1) q2 = b2 at *
  obtain ⟨E2, hE2⟩ : ∃ E2 : Nat → va_E, va_P (dC, dI) vwCl (zkW (N0 + 3) b2 E2) H ∧ va_D A (zkW (N0 + 3) b2 E2) ∧ E2 N0 = .inr (5, [.ref q1, .ref q2]) ∧ E2 (N0 + 1) = .inl (ca 5, 2, .inr (.inr (.inr (.inr (fun _ => none))))) ∧ E2 (N0 + 2) = .inl (ca 1, 2, .inl (fun _ => 0)) ∧ ∀ k, k < N0 → E2 k = E k :=
    ⟨_, hP, hD, zkE_at, (zkE_ne (by omega)).trans ((zkE_ne (by omega)).trans ((zkE_ne (by omega)).trans zkE_at)), (zkE_ne (by omega)).trans zkE_at, fun k hk => (zkE_ne (by omega)).trans ((zkE_ne (by omega)).trans ((zkE_ne (by omega)).trans (zkE_ne (by omega))))⟩
  clear hP hD
  obtain ⟨hP, hD, f0, f1, f2, fE⟩ := hE2
  have loop1 : ∀ (Q : State → Prop), (∀ (b' : Nat → Nat) (E' : Nat → va_E) (H : Heap) (locs : List Loc) (ls : Array Slot) (cn sn : Nat), (∀ j, j < N0 + 3 → b' j = b2 j) → (∀ j, j < N0 + 3 → j ≠ N0 + 1 → E' j = E2 j) → E' (N0 + 1) = .inl (ca 5, 2, .inr (.inr (.inr (.inr (fun j => if j < 2 then some (b' (N0 + 3 + 12 * j)) else none))))) → (∀ i, i < 2 → zkRace ca (N0 + 3 + 12 * i) b' E') → va_P (dC, dI) vwCl (zkW (N0 + 27) b' E') H → va_D A (zkW (N0 + 27) b' E') → va_S A s.heap H locs → cn ≤ 26 → sn ≤ 312 → W p l e ({ frames := 3, cells := 26, slots := 312, locals := 110 } : Room) s m ([.ref a0] : List Value).toArray below meth c H locs cn sn Q (F0 m 49 ls [])) → ∀ d k, k + d = 2 → ∀ (b' : Nat → Nat) (E' : Nat → va_E) (H : Heap) (locs : List Loc) (ls : Array Slot) (x : Int32) (cn sn : Nat), x = nI k → (∀ j, j < N0 + 3 → b' j = b2 j) → (∀ j, j < N0 + 3 → j ≠ N0 + 1 → E' j = E2 j) → E' (N0 + 1) = .inl (ca 5, 2, .inr (.inr (.inr (.inr (fun j => if j < k then some (b' (N0 + 3 + 12 * j)) else none))))) → (∀ i, i < k → zkRace ca (N0 + 3 + 12 * i) b' E') → va_P (dC, dI) vwCl (zkW (N0 + 3 + 12 * k) b' E') H → va_D A (zkW (N0 + 3 + 12 * k) b' E') → va_S A s.heap H locs → lv_has ls 2 [(0, .ref a0), (1, .int x)] → cn ≤ 2 + 12 * k → sn ≤ 4 + 154 * k →
      W p l e ({ frames := 3, cells := 26, slots := 312, locals := 110 } : Room) s m ([.ref a0] : List Value).toArray below meth c H locs cn sn Q (F0 m 21 ls []) := by
    intro Q KT d
    induction d with
    | zero =>
      intro k hk b' E' H locs ls x cn sn ex jb jE j1 jS hP hD hS hl hcn hsn
      have hk6 : k = 2 := by omega
      subst hk6
      refine lv_iload_n hx hb dX5_init_21 rfl (lv_at hl 1 rfl) ?_
      refine lv_aload_n hx hb dX5_init_22 rfl (lv_at hl 0 rfl) ?_
      refine zk_get (ci := 5) (k := 0) (C := RX5) (T := TX5) (Nf := 2) X hP ((jb N0 (by omega)).trans g0) (by omega) ((jE N0 (by omega) (by omega)).trans f0) rfl hi (by decide) (List.mem_of_getElem? (i := 5) rfl) rfl dX5_init_23 ?_
      refine zk_alen (t := 5) (ty := .object "SparrowRace$Race") (v := 2) X hP ((jb (N0 + 1) (by omega)).trans g1) (by omega) j1 rfl rfl dX5_init_26 ?_
      refine lv_icmp_ge (tgt := 49) hx hb dX5_init_27 (by decide) (fun c1 => ?_) (fun c1 => ?_)
      · exact KT b' E' H locs ls cn sn jb jE j1 jS hP hD hS (by omega) (by omega)
      · exact absurd (by rw [ex]; decide) c1
    | succ d ih =>
      intro k hk b' E' H locs ls x cn sn ex jb jE j1 jS hP hD hS hl hcn hsn
      refine lv_iload_n hx hb dX5_init_21 rfl (lv_at hl 1 rfl) ?_
      refine lv_aload_n hx hb dX5_init_22 rfl (lv_at hl 0 rfl) ?_
      refine zk_get (ci := 5) (k := 0) (C := RX5) (T := TX5) (Nf := 2) X hP ((jb N0 (by omega)).trans g0) (by omega) ((jE N0 (by omega) (by omega)).trans f0) rfl hi (by decide) (List.mem_of_getElem? (i := 5) rfl) rfl dX5_init_23 ?_
      refine zk_alen (t := 5) (ty := .object "SparrowRace$Race") (v := 2) X hP ((jb (N0 + 1) (by omega)).trans g1) (by omega) j1 rfl rfl dX5_init_26 ?_
      refine lv_icmp_ge (tgt := 49) hx hb dX5_init_27 (by decide) (fun c1 => ?_) (fun c1 => ?_)
      · refine absurd c1 ?_
        rw [ex, show (2 : Int32) = nI 2 from rfl, pi_le (by omega) (by omega)]; omega
      · refine lv_aload_n hx hb dX5_init_30 rfl (lv_at hl 0 rfl) ?_
        refine zk_get (ci := 5) (k := 0) (C := RX5) (T := TX5) (Nf := 2) X hP ((jb N0 (by omega)).trans g0) (by omega) ((jE N0 (by omega) (by omega)).trans f0) rfl hi (by decide) (List.mem_of_getElem? (i := 5) rfl) rfl dX5_init_31 ?_
        refine lv_iload_n hx hb dX5_init_34 rfl (lv_at hl 1 rfl) ?_
        refine zk_new (ci := 3) (C := RX3) (T := TX3) (Nf := 14) (fs := rc0) (ty0 := tyX3) X hP hD hS rfl hi3 tyX3_ok (List.mem_of_getElem? (i := 4) rfl) (List.mem_of_getElem? (i := 8) rfl) (List.mem_of_getElem? (i := 9) rfl) (fun j hj => by match j, hj with | 0, _ => rfl | 1, _ => rfl | 2, _ => rfl | 3, _ => rfl | 4, _ => rfl | 5, _ => rfl | 6, _ => rfl | 7, _ => rfl | 8, _ => rfl | 9, _ => rfl | 10, _ => rfl | 11, _ => rfl | 12, _ => rfl | 13, _ => rfl) (by show cn + 1 ≤ 26; omega) (by show sn + 14 ≤ 312; omega) dX5_init_35 (fun q H hP hD hS => ?_)
        refine lv_dup hx hb dX5_init_38 rfl ?_
        refine zk_callI (As := []) (rest := [.ref q, .int x, .ref q1]) X hP hD hS (zc_X3_init zkB_at zkE_at) (cwI 0 X.ts gX5_init_X3_init rfl rfl rfl (X.ts _ (List.mem_of_getElem? (i := 9) rfl)) (X.ts _ (List.mem_of_getElem? (i := 10) rfl)) (X.ts _ (List.mem_of_getElem? (i := 11) rfl)) rfl (by decide +kernel) ⟨Nat.le_of_ble_eq_true rfl, Nat.le_of_ble_eq_true rfl⟩) rfl hl.1 rfl (Nat.le_of_ble_eq_true rfl) dX5_init_39 ⟨by show cn + 1 + 11 ≤ 26; omega, by show sn + 14 + 140 ≤ 312; omega⟩ (fun u H locs hu hP hD hS => ?_)
        obtain ⟨ub, uE⟩ := u
        obtain ⟨u1, u2, u3⟩ := hu
        dsimp only at u1 u2 u3 hP hD
        have ub1 : ∀ j, j < N0 + 3 + 12 * k → ub j = b' j := fun j hj => (u1 j (by omega)).trans (zkB_ne (by omega))
        have uE1 : ∀ j, j < N0 + 3 + 12 * k → uE j = E' j := fun j hj => (u2 j hj).trans (zkE_ne (by omega))
        have ubk : ub (N0 + 3 + 12 * k) = q := (u1 _ (Nat.le_refl _)).trans zkB_at
        refine zk_astq (t := 5) (ci := 3) (qk := N0 + 3 + 12 * k) (r := (RX3, TX3, 14)) X hP hD hS ((ub1 (N0 + 1) (by omega)).trans ((jb (N0 + 1) (by omega)).trans g1)) (by omega) ((uE1 _ (by omega)).trans j1) rfl ubk (by omega) u3.1 rfl (by rw [ex]; exact vp_in_nI (by omega) (by omega)) dX5_init_42 (fun H locs hP hD hS => ?_)
        obtain ⟨y, ey⟩ : ∃ y : Int32, y = x + 1 := ⟨_, rfl⟩
        refine lv_iinc (v := y) (lv' := [(1, .int y), (0, .ref a0)]) hx hb dX5_init_43 hl (k := 1) rfl (by rw [ey]; rfl) (by decide) rfl (fun ls hl => ?_)
        refine lv_goto (tgt := 21) hx hb dX5_init_46 (by decide) ?_
        refine ih (k + 1) (by omega) ub _ H locs ls y _ _ (by rw [ey, ex]; exact pi_add k 1) (fun j hj => (ub1 j (by omega)).trans (jb j hj)) (fun j z1 z2 => (zkE_ne z2).trans ((uE1 j (by omega)).trans (jE j z1 z2))) ?_ (fun i hi => ?_) hP hD hS (lv_sub hl [1, 0] rfl) (by omega) (by omega)
        · rw [zkE_at, ex, show (nI k).toNatClampNeg = k from pi_tn (by omega)]
          rw [up_some (g := fun j => ub (N0 + 3 + 12 * j)) (k := k) (refs_c (fun j hj => (ub1 _ (by omega)).symm)) rfl]
        · by_cases z : i = k
          · rw [z]
            exact u3.k (Nat.le_refl _) (fun _ _ _ => rfl) (fun j z1 z2 => zkE_ne (by omega))
          · exact (jS i (by omega)).k (M := N0 + 3 + 12 * k) (by omega) (fun j z1 z2 => ub1 j z2) (fun j z1 z2 => (zkE_ne (by omega)).trans (uE1 j z2))
  refine lv_iconst (v := 0) hx hb dX5_init_19 (by decide) ?_
  refine lv_istore_n (lv' := [(1, .int (0 : Int32)), (0, .ref a0)]) hx hb dX5_init_20 rfl hl (by decide) rfl (fun ls hl => ?_)
  refine loop1 _ (fun b' E' H locs ls cn sn jb jE j1 jS hP hD hS hcn hsn => ?_) 2 0 rfl b2 E2 H _ ls 0 _ _ rfl (fun _ _ => rfl) (fun _ _ _ => rfl) (by rw [f1, refs_0]) (fun i hi => absurd hi (by omega)) hP hD hS (lv_sub hl [1, 0] rfl) (by show 0 + 1 + 1 ≤ 2 + 12 * 0; omega) (by show 0 + 2 + 2 ≤ 4 + 154 * 0; omega)
  refine W.widen (k := 26) (n := 312) hcn hsn ?_
  exact W.vret hx hb hr (fun t9 ht hW => ⟨⟨(b', E'), rfl, ⟨fun k hk => (jb k (by omega)).trans (gb k hk), fun k hk => (jE k (by omega) (by omega)).trans (fE k hk), by dsimp only; rw [show b' (N0 + 1) = q1 from (jb _ (by omega)).trans g1, show b' (N0 + 2) = q2 from (jb _ (by omega)).trans g2]; exact (jE N0 (by omega) (by omega)).trans f0, j1, (jE (N0 + 2) (by omega) (by omega)).trans f2, jS⟩, ⟨gEnd ht hP, hD⟩⟩, hS.F ht⟩) hS.2.2 dX5_init_49 hlk
set_option maxHeartbeats 8000000 in
set_option maxRecDepth 100000 in
theorem zc_X2_init {l : Launch} {dC : Nat → ClassId} {dI : Nat → Nat → Nat} {ca : Nat → ClassId} {A : Nat → Prop} {N0 a0 : Nat} {b : Nat → Nat} {E : Nat → va_E} (ha : b N0 = a0) (hE : E N0 = .inr (2, [.null, .int 0])) : Met l yX2_init wsX2_init ({ frames := 1, cells := 1, slots := 60, locals := 40 } : Room) (va_Pc [.ref a0] (zkPre dC dI ca A (N0 + 1) b E)) (va_Qv (fun (u : (Nat → Nat) × (Nat → va_E)) => (∀ k, k ≤ N0 → u.1 k = b k) ∧ (∀ k, k < N0 → u.2 k = E k) ∧ u.2 N0 = .inr (2, [.ref (u.1 (N0 + 1)), .int 0]) ∧ u.2 (N0 + 1) = .inl (ca 2, 60, .inl (fun _ => 0))) (fun u t => zkEnd dC dI A (N0 + 2) u t.heap) A) 1 60 A := by
  refine Met.ofW (cc := cX2_init) (maxL := 1) (ret := none) (by decide) rfl ?_
  intro p e s m args below meth c s₁ B hml hv
  obtain ⟨rfl, hP, hD, hK, hA2, hth, hao6, hao3⟩ := hv
  have hx := B.exec
  have hb := B.bytes
  have hr := B.returns
  have hlk := B.notSynchronized
  have hin : meth.name = "<init>" := (name_of_methodNamed B.named B.method).1
  have X : zkCx p s m ([.ref a0] : List Value).toArray c RX2 cX2_init wsX2_init 1 dC dI ca A := ⟨hx, hb, hml, findClass_of_methodNamed B.named, atoms_spec (ws := wsX2_init) B.pre, hK, hA2, hth, hao6, hao3⟩
  have hS : va_S A s.heap s.heap [] := va_S.rf
  have hl := lv_entry ([.ref a0] : List Value) (n := 1) (Nat.le_of_ble_eq_true rfl)
  rw [lg_entry_eq]
  generalize (lg_sl ([.ref a0] : List Value) ++ List.replicate (1 - (lg_sl ([.ref a0] : List Value)).length) Slot.unset).toArray = ls at hl ⊢
  have hl : lv_has ls 1 [(0, .ref a0)] := hl
  refine lv_aload_n hx hb dX2_init_0 rfl (lv_at hl 0 rfl) ?_
  refine W.objInit hx hb X.ow (X.ts _ (List.mem_of_getElem? (i := 1) rfl)) (X.ts _ (List.mem_of_getElem? (i := 2) rfl)) (X.ts _ (List.mem_of_getElem? (i := 3) rfl)) rfl (by rw [hml]; exact hl.1) rfl dX2_init_1 (Nat.le_of_ble_eq_true rfl) (Nat.le_of_ble_eq_true rfl) ?_
  refine W.eq (g2 := F0 m 4 ls []) rfl ?_
  have hi : ∀ w ∈ wsX20, w ∈ wsX2_init := (fun w h => List.mem_cons_of_mem _ (List.mem_append_right _ h))
  refine lv_aload_n hx hb dX2_init_4 rfl (lv_at hl 0 rfl) ?_
  refine lv_bipush (v := 60) hx hb dX2_init_5 (by decide) ?_
  refine zk_newa (t := 2) (atype := .char) (ty := .char) (N' := 60) (a0 := (60, .inl (fun _ => 0))) X hP hD hS (List.mem_of_getElem? (i := 4) rfl) rfl rfl zk_unc (fun _ => rfl) (by decide) (by decide) (by decide) (Nat.le_of_ble_eq_true rfl) (Nat.le_of_ble_eq_true rfl) dX2_init_7 (fun q1 H hP hD hS => ?_)
  refine zk_putF (ci := 2) (k := 0) (C := RX2) (T := TX2) (Nf := 2) (ty := .array .char) (ty0 := tyX2) X hin hP hD hS ((zkB_ne (by omega)).trans ha) (by omega) ((zkE_ne (by omega)).trans hE) rfl hi tyX2_ok nmX2 (by decide) (List.mem_of_getElem? (i := 5) rfl) rfl rfl (by decide +kernel) rfl rfl (Nat.le_of_ble_eq_true rfl) dX2_init_9 (fun H locs hP hD hS => ?_)
  exact W.vret hx hb hr (fun t9 ht hW => ⟨⟨(zkB b (N0 + 1) q1, _), rfl, ⟨fun k hk => zkB_ne (by omega), fun k hk => (zkE_ne (by omega)).trans (zkE_ne (by omega)), zkE_at.trans (congrArg (fun z => (Sum.inr (2, [Value.ref z, Value.int 0]) : va_E)) (show q1 = zkB b (N0 + 1) q1 (N0 + 1) from zkB_at.symm)), (zkE_ne (by omega)).trans zkE_at⟩, ⟨gEnd ht hP, hD⟩⟩, hS.F ht⟩) hS.2.2 dX2_init_12 hlk
set_option maxHeartbeats 8000000 in
set_option maxRecDepth 100000 in
theorem zc_X1_init {l : Launch} {dC : Nat → ClassId} {dI : Nat → Nat → Nat} {ca : Nat → ClassId} {A : Nat → Prop} {N a0 : Nat} {b : Nat → Nat} {E : Nat → va_E} : Met l yX1_init wsX1_init ({ frames := 1, cells := 0, slots := 0, locals := 40 } : Room) (va_Pc [.ref a0] (zkPre dC dI ca A N b E)) (va_Qv (fun (u : (Nat → Nat) × (Nat → va_E)) => u = (b, E)) (fun u t => zkEnd dC dI A N u t.heap) A) 0 0 A := by
  refine Met.ofW (cc := cX1_init) (maxL := 1) (ret := none) (by decide) rfl ?_
  intro p e s m args below meth c s₁ B hml hv
  obtain ⟨rfl, hP, hD, hK, hA2, hth, hao6, hao3⟩ := hv
  have hx := B.exec
  have hb := B.bytes
  have hr := B.returns
  have hlk := B.notSynchronized
  have hin : meth.name = "<init>" := (name_of_methodNamed B.named B.method).1
  have X : zkCx p s m ([.ref a0] : List Value).toArray c RX1 cX1_init wsX1_init 1 dC dI ca A := ⟨hx, hb, hml, findClass_of_methodNamed B.named, atoms_spec (ws := wsX1_init) B.pre, hK, hA2, hth, hao6, hao3⟩
  have hS : va_S A s.heap s.heap [] := va_S.rf
  have hl := lv_entry ([.ref a0] : List Value) (n := 1) (Nat.le_of_ble_eq_true rfl)
  rw [lg_entry_eq]
  generalize (lg_sl ([.ref a0] : List Value) ++ List.replicate (1 - (lg_sl ([.ref a0] : List Value)).length) Slot.unset).toArray = ls at hl ⊢
  have hl : lv_has ls 1 [(0, .ref a0)] := hl
  refine lv_aload_n hx hb dX1_init_0 rfl (lv_at hl 0 rfl) ?_
  refine W.objInit hx hb X.ow (X.ts _ (List.mem_of_getElem? (i := 1) rfl)) (X.ts _ (List.mem_of_getElem? (i := 2) rfl)) (X.ts _ (List.mem_of_getElem? (i := 3) rfl)) rfl (by rw [hml]; exact hl.1) rfl dX1_init_1 (Nat.le_of_ble_eq_true rfl) (Nat.le_of_ble_eq_true rfl) ?_
  refine W.eq (g2 := F0 m 4 ls []) rfl ?_
  exact W.vret hx hb hr (fun t9 ht hW => ⟨⟨(b, E), rfl, rfl, ⟨gEnd ht hP, hD⟩⟩, hS.F ht⟩) hS.2.2 dX1_init_4 hlk
