def f_X0_init (t0 : Nat) (J : Nat → Nat → Int64) : Option (Nat → Nat → Int64) :=
  hlet (gup J t0 0 (4637 : Int64)) fun J1 =>
  some J1
set_option maxHeartbeats 8000000 in
set_option maxRecDepth 100000 in
theorem c_X0_init {l : Launch} {dC : Nat → ClassId} {dI : Nat → Nat → Nat} {ca : Nat → ClassId} {b : Nat → Nat} {A : Nat → Prop} {N : Nat} (hN : 129 ≤ N) (hA : gAd A b N) (I : Nat → Nat → Int32) (O : Nat → Nat → Option Nat) (J : Nat → Nat → Int64) (t0 : Nat) (hk_t0 : SHK t0 = 0) (hn_t0 : t0 < N) (res : Nat → Nat → Int64) (h : f_X0_init t0 J = some res) : Met l yX0_init wsX0_init ({ frames := 1, cells := 0, slots := 0, locals := 30 } : Room) (va_Pc [.ref (b t0)] (gPre dC dI ca b A N I O J)) (va_Qv (fun (u : Nat → Nat → Int64) => res = u) (fun (u : Nat → Nat → Int64) t => va_P (dC, dI) vwCl (hW N ca b I O u) t.heap) A) 0 0 A := by
  refine Met.ofW (cc := cX0_init) (maxL := 1) (ret := none) (by decide) rfl ?_
  intro p e s m args below meth c s₁ B hml hv
  obtain ⟨rfl, hP, hK, hA2, hth⟩ := hv
  have hx := B.exec
  have hb := B.bytes
  have hr := B.returns
  have hlk := B.notSynchronized
  have X : gCx p s m ([.ref (b t0)] : List Value).toArray c RX0 cX0_init wsX0_init 1 dC dI ca b A N := ⟨hx, hb, hml, findClass_of_methodNamed B.named, atoms_spec (ws := wsX0_init) B.pre, hK, hA, hA2, hth⟩
  have hi0 : ∀ w ∈ wsX00, w ∈ wsX0_init := (fun w h => List.mem_cons_of_mem _ (List.mem_append_right _ h))
  have hS : va_S A s.heap s.heap [] := va_S.rf
  have hl := lv_entry ([.ref (b t0)] : List Value) (n := 1) (Nat.le_of_ble_eq_true rfl)
  rw [lg_entry_eq]
  generalize (lg_sl ([.ref (b t0)] : List Value) ++ List.replicate (1 - (lg_sl ([.ref (b t0)] : List Value)).length) Slot.unset).toArray = ls at hl ⊢
  have hl : lv_has ls 1 [(0, .ref (b t0))] := hl
  unfold f_X0_init at h
  refine lv_aload_n hx hb dX0_init_0 rfl (lv_at hl 0 rfl) ?_
  refine W.objInit hx hb X.ow (X.ts _ (List.mem_of_getElem? (i := 1) rfl)) (X.ts _ (List.mem_of_getElem? (i := 2) rfl)) (X.ts _ (List.mem_of_getElem? (i := 3) rfl)) rfl (by rw [hml]; exact hl.1) rfl dX0_init_1 (Nat.le_of_ble_eq_true rfl) (Nat.le_of_ble_eq_true rfl) ?_
  refine W.eq (g2 := F0 m 4 ls []) rfl ?_
  refine lv_aload_n hx hb dX0_init_4 rfl (lv_at hl 0 rfl) ?_
  refine lv_ldc2 (v := 4637) hx hb X.ow (X.ts _ (List.mem_of_getElem? (i := 4) rfl)) dX0_init_5 ?_
  refine gp0_0 X hP hS hk_t0 hn_t0 hi0 (List.mem_of_getElem? (i := 5) rfl) dX0_init_8 (fun H locs hP hS => ?_)
  obtain ⟨J1, eJ1, h⟩ := hlet_ex h
  rw [← eJ1] at hP
  exact W.vret hx hb hr (fun t9 ht hW => ⟨⟨J1, rfl, (Option.some.inj h).symm, gEnd ht hP⟩, hS.F ht⟩) hS.2.2 dX0_init_11 hlk
def f_X0_add (t0 : Nat) (a1 : Int64) (J : Nat → Nat → Int64) : Option (Nat → Nat → Int64) :=
  hlet (gup J t0 0 (((31 : Int64) * (J t0 0)) + a1)) fun J1 =>
  some J1
set_option maxHeartbeats 8000000 in
set_option maxRecDepth 100000 in
theorem c_X0_add {l : Launch} {dC : Nat → ClassId} {dI : Nat → Nat → Nat} {ca : Nat → ClassId} {b : Nat → Nat} {A : Nat → Prop} {N : Nat} (hN : 129 ≤ N) (hA : gAd A b N) (I : Nat → Nat → Int32) (O : Nat → Nat → Option Nat) (J : Nat → Nat → Int64) (t0 : Nat) (a1 : Int64) (hk_t0 : SHK t0 = 0) (hn_t0 : t0 < N) (res : Nat → Nat → Int64) (h : f_X0_add t0 a1 J = some res) : Met l yX0_add wsX0_add ({ frames := 0, cells := 0, slots := 0, locals := 0 } : Room) (va_Pc [.ref (b t0), .long a1] (gPre dC dI ca b A N I O J)) (va_Qv (fun (u : Nat → Nat → Int64) => res = u) (fun (u : Nat → Nat → Int64) t => va_P (dC, dI) vwCl (hW N ca b I O u) t.heap) A) 0 0 A := by
  refine Met.ofW (cc := cX0_add) (maxL := 3) (ret := none) (by decide) rfl ?_
  intro p e s m args below meth c s₁ B hml hv
  obtain ⟨rfl, hP, hK, hA2, hth⟩ := hv
  have hx := B.exec
  have hb := B.bytes
  have hr := B.returns
  have hlk := B.notSynchronized
  have X : gCx p s m ([.ref (b t0), .long a1] : List Value).toArray c RX0 cX0_add wsX0_add 3 dC dI ca b A N := ⟨hx, hb, hml, findClass_of_methodNamed B.named, atoms_spec (ws := wsX0_add) B.pre, hK, hA, hA2, hth⟩
  have hi0 : ∀ w ∈ wsX00, w ∈ wsX0_add := (fun w h => List.mem_cons_of_mem _ (List.mem_append_right _ h))
  have hS : va_S A s.heap s.heap [] := va_S.rf
  have hl := lv_entry ([.ref (b t0), .long a1] : List Value) (n := 3) (Nat.le_of_ble_eq_true rfl)
  rw [lg_entry_eq]
  generalize (lg_sl ([.ref (b t0), .long a1] : List Value) ++ List.replicate (3 - (lg_sl ([.ref (b t0), .long a1] : List Value)).length) Slot.unset).toArray = ls at hl ⊢
  have hl : lv_has ls 3 [(0, .ref (b t0)), (1, .long a1)] := hl
  unfold f_X0_add at h
  refine lv_aload_n hx hb dX0_add_0 rfl (lv_at hl 0 rfl) ?_
  refine lv_ldc2 (v := 31) hx hb X.ow (X.ts _ (List.mem_of_getElem? (i := 1) rfl)) dX0_add_1 ?_
  refine lv_aload_n hx hb dX0_add_4 rfl (lv_at hl 0 rfl) ?_
  refine gg0_0 X hP hk_t0 hn_t0 hi0 (List.mem_of_getElem? (i := 2) rfl) dX0_add_5 ?_
  refine lv_lmul hx hb dX0_add_8 ?_
  refine lv_lload_n hx hb dX0_add_9 rfl (lv_at hl 1 rfl) ?_
  refine lv_ladd hx hb dX0_add_10 ?_
  refine gp0_0 X hP hS hk_t0 hn_t0 hi0 (List.mem_of_getElem? (i := 2) rfl) dX0_add_11 (fun H locs hP hS => ?_)
  obtain ⟨J1, eJ1, h⟩ := hlet_ex h
  rw [← eJ1] at hP
  exact W.vret hx hb hr (fun t9 ht hW => ⟨⟨J1, rfl, (Option.some.inj h).symm, gEnd ht hP⟩, hS.F ht⟩) hS.2.2 dX0_add_14 hlk
def f_X1_start (I : Nat → Nat → Int32) : Option (Nat → Nat → Int32) :=
  hlet (gup I 128 0 (0 : Int32)) fun I1 =>
  hlet (gup I1 128 1 (32 : Int32)) fun I2 =>
  hlet (gup I2 128 2 (-1 : Int32)) fun I3 =>
  hlet (gup I3 128 3 (0 : Int32)) fun I4 =>
  some I4
set_option maxHeartbeats 8000000 in
set_option maxRecDepth 100000 in
theorem c_X1_start {l : Launch} {dC : Nat → ClassId} {dI : Nat → Nat → Nat} {ca : Nat → ClassId} {b : Nat → Nat} {A : Nat → Prop} {N : Nat} (hN : 129 ≤ N) (hA : gAd A b N) (I : Nat → Nat → Int32) (O : Nat → Nat → Option Nat) (J : Nat → Nat → Int64) (res : Nat → Nat → Int32) (h : f_X1_start I = some res) : Met l yX1_start wsX1_start ({ frames := 0, cells := 0, slots := 0, locals := 0 } : Room) (va_Pc [.ref (b 128)] (gPre dC dI ca b A N I O J)) (va_Qv (fun (u : Nat → Nat → Int32) => res = u) (fun (u : Nat → Nat → Int32) t => va_P (dC, dI) vwCl (hW N ca b u O J) t.heap) A) 0 0 A := by
  refine Met.ofW (cc := cX1_start) (maxL := 1) (ret := none) (by decide) rfl ?_
  intro p e s m args below meth c s₁ B hml hv
  obtain ⟨rfl, hP, hK, hA2, hth⟩ := hv
  have hx := B.exec
  have hb := B.bytes
  have hr := B.returns
  have hlk := B.notSynchronized
  have X : gCx p s m ([.ref (b 128)] : List Value).toArray c RX1 cX1_start wsX1_start 1 dC dI ca b A N := ⟨hx, hb, hml, findClass_of_methodNamed B.named, atoms_spec (ws := wsX1_start) B.pre, hK, hA, hA2, hth⟩
  have hi1 : ∀ w ∈ wsX10, w ∈ wsX1_start := (fun w h => List.mem_cons_of_mem _ (List.mem_append_right _ h))
  have hS : va_S A s.heap s.heap [] := va_S.rf
  have hl := lv_entry ([.ref (b 128)] : List Value) (n := 1) (Nat.le_of_ble_eq_true rfl)
  rw [lg_entry_eq]
  generalize (lg_sl ([.ref (b 128)] : List Value) ++ List.replicate (1 - (lg_sl ([.ref (b 128)] : List Value)).length) Slot.unset).toArray = ls at hl ⊢
  have hl : lv_has ls 1 [(0, .ref (b 128))] := hl
  unfold f_X1_start at h
  refine lv_aload_n hx hb dX1_start_0 rfl (lv_at hl 0 rfl) ?_
  refine lv_iconst (v := 0) hx hb dX1_start_1 (by decide) ?_
  refine gp1_0 X hP hS kc_128 (sk_in hN kc_128 (by decide)) hi1 (List.mem_of_getElem? (i := 1) rfl) dX1_start_2 (fun H locs hP hS => ?_)
  obtain ⟨I1, eI1, h⟩ := hlet_ex h
  rw [← eI1] at hP
  refine lv_aload_n hx hb dX1_start_5 rfl (lv_at hl 0 rfl) ?_
  refine lv_bipush (v := 32) hx hb dX1_start_6 (by decide) ?_
  refine gp1_1 X hP hS kc_128 (sk_in hN kc_128 (by decide)) hi1 (List.mem_of_getElem? (i := 2) rfl) (by decide) dX1_start_8 (fun H locs hP hS => ?_)
  obtain ⟨I2, eI2, h⟩ := hlet_ex h
  rw [← eI2] at hP
  refine lv_aload_n hx hb dX1_start_11 rfl (lv_at hl 0 rfl) ?_
  refine lv_iconst (v := (-1)) hx hb dX1_start_12 (by decide) ?_
  refine gp1_2 X hP hS kc_128 (sk_in hN kc_128 (by decide)) hi1 (List.mem_of_getElem? (i := 3) rfl) dX1_start_13 (fun H locs hP hS => ?_)
  obtain ⟨I3, eI3, h⟩ := hlet_ex h
  rw [← eI3] at hP
  refine lv_aload_n hx hb dX1_start_16 rfl (lv_at hl 0 rfl) ?_
  refine lv_iconst (v := 0) hx hb dX1_start_17 (by decide) ?_
  refine gp1_3 X hP hS kc_128 (sk_in hN kc_128 (by decide)) hi1 (List.mem_of_getElem? (i := 4) rfl) dX1_start_18 (fun H locs hP hS => ?_)
  obtain ⟨I4, eI4, h⟩ := hlet_ex h
  rw [← eI4] at hP
  exact W.vret hx hb hr (fun t9 ht hW => ⟨⟨I4, rfl, (Option.some.inj h).symm, gEnd ht hP⟩, hS.F ht⟩) hS.2.2 dX1_start_21 hlk
def f_X1_least (I : Nat → Nat → Int32) : Option (Int32) :=
  if (I 128 1) = (112 : Int32) then
    some (10 : Int32)
  else
    if (I 128 1) = (99 : Int32) then
      some (8 : Int32)
    else
      some (1 : Int32)
set_option maxHeartbeats 8000000 in
set_option maxRecDepth 100000 in
theorem c_X1_least {l : Launch} {dC : Nat → ClassId} {dI : Nat → Nat → Nat} {ca : Nat → ClassId} {b : Nat → Nat} {A : Nat → Prop} {N : Nat} (hN : 129 ≤ N) (hA : gAd A b N) (I : Nat → Nat → Int32) (O : Nat → Nat → Option Nat) (J : Nat → Nat → Int64) (res : Int32) (h : f_X1_least I = some res) : Met l yX1_least wsX1_least ({ frames := 0, cells := 0, slots := 0, locals := 0 } : Room) (va_Pc [.ref (b 128)] (gPre dC dI ca b A N I O J)) (va_Qi (fun (r : Int32) (u : Unit) => res = r) (fun (u : Unit) t => va_P (dC, dI) vwCl (hW N ca b I O J) t.heap) A) 0 0 A := by
  refine Met.ofW (cc := cX1_least) (maxL := 1) (ret := (some .int)) (by decide) rfl ?_
  intro p e s m args below meth c s₁ B hml hv
  obtain ⟨rfl, hP, hK, hA2, hth⟩ := hv
  have hx := B.exec
  have hb := B.bytes
  have hr := B.returns
  have hlk := B.notSynchronized
  have X : gCx p s m ([.ref (b 128)] : List Value).toArray c RX1 cX1_least wsX1_least 1 dC dI ca b A N := ⟨hx, hb, hml, findClass_of_methodNamed B.named, atoms_spec (ws := wsX1_least) B.pre, hK, hA, hA2, hth⟩
  have hi1 : ∀ w ∈ wsX10, w ∈ wsX1_least := (fun w h => List.mem_cons_of_mem _ (List.mem_append_right _ h))
  have hS : va_S A s.heap s.heap [] := va_S.rf
  have hl := lv_entry ([.ref (b 128)] : List Value) (n := 1) (Nat.le_of_ble_eq_true rfl)
  rw [lg_entry_eq]
  generalize (lg_sl ([.ref (b 128)] : List Value) ++ List.replicate (1 - (lg_sl ([.ref (b 128)] : List Value)).length) Slot.unset).toArray = ls at hl ⊢
  have hl : lv_has ls 1 [(0, .ref (b 128))] := hl
  unfold f_X1_least at h
  refine lv_aload_n hx hb dX1_least_0 rfl (lv_at hl 0 rfl) ?_
  refine gg1_1 X hP kc_128 (sk_in hN kc_128 (by decide)) hi1 (List.mem_of_getElem? (i := 1) rfl) dX1_least_1 ?_
  refine lv_bipush (v := 112) hx hb dX1_least_4 (by decide) ?_
  refine lv_icmp_ne (tgt := 14) hx hb dX1_least_6 (by decide) (fun c2 => ?_) (fun c2 => ?_)
  · have h := gif_f c2 h
    refine lv_aload_n hx hb dX1_least_14 rfl (lv_at hl 0 rfl) ?_
    refine gg1_1 X hP kc_128 (sk_in hN kc_128 (by decide)) hi1 (List.mem_of_getElem? (i := 1) rfl) dX1_least_15 ?_
    refine lv_bipush (v := 99) hx hb dX1_least_18 (by decide) ?_
    refine lv_icmp_ne (tgt := 28) hx hb dX1_least_20 (by decide) (fun c1 => ?_) (fun c1 => ?_)
    · have h := gif_f c1 h
      refine lv_iconst (v := 1) hx hb dX1_least_28 (by decide) ?_
      exact W.iret hx hb hr (fun t9 ht hW => ⟨⟨(1 : Int32), (), rfl, (Option.some.inj h).symm, gEnd ht hP⟩, hS.F ht⟩) hS.2.2 dX1_least_29 hlk
    · have h := gif_t c1 h
      refine lv_bipush (v := 8) hx hb dX1_least_23 (by decide) ?_
      refine lv_goto (tgt := 29) hx hb dX1_least_25 (by decide) ?_
      exact W.iret hx hb hr (fun t9 ht hW => ⟨⟨(8 : Int32), (), rfl, (Option.some.inj h).symm, gEnd ht hP⟩, hS.F ht⟩) hS.2.2 dX1_least_29 hlk
  · have h := gif_t c2 h
    refine lv_bipush (v := 10) hx hb dX1_least_9 (by decide) ?_
    refine lv_goto (tgt := 29) hx hb dX1_least_11 (by decide) ?_
    exact W.iret hx hb hr (fun t9 ht hW => ⟨⟨(10 : Int32), (), rfl, (Option.some.inj h).symm, gEnd ht hP⟩, hS.F ht⟩) hS.2.2 dX1_least_29 hlk
def f_X1_most (I : Nat → Nat → Int32) : Option (Int32) :=
  if (I 128 1) = (112 : Int32) then
    some (40 : Int32)
  else
    if (I 128 1) = (99 : Int32) then
      some (40 : Int32)
    else
      some (200 : Int32)
set_option maxHeartbeats 8000000 in
set_option maxRecDepth 100000 in
theorem c_X1_most {l : Launch} {dC : Nat → ClassId} {dI : Nat → Nat → Nat} {ca : Nat → ClassId} {b : Nat → Nat} {A : Nat → Prop} {N : Nat} (hN : 129 ≤ N) (hA : gAd A b N) (I : Nat → Nat → Int32) (O : Nat → Nat → Option Nat) (J : Nat → Nat → Int64) (res : Int32) (h : f_X1_most I = some res) : Met l yX1_most wsX1_most ({ frames := 0, cells := 0, slots := 0, locals := 0 } : Room) (va_Pc [.ref (b 128)] (gPre dC dI ca b A N I O J)) (va_Qi (fun (r : Int32) (u : Unit) => res = r) (fun (u : Unit) t => va_P (dC, dI) vwCl (hW N ca b I O J) t.heap) A) 0 0 A := by
  refine Met.ofW (cc := cX1_most) (maxL := 1) (ret := (some .int)) (by decide) rfl ?_
  intro p e s m args below meth c s₁ B hml hv
  obtain ⟨rfl, hP, hK, hA2, hth⟩ := hv
  have hx := B.exec
  have hb := B.bytes
  have hr := B.returns
  have hlk := B.notSynchronized
  have X : gCx p s m ([.ref (b 128)] : List Value).toArray c RX1 cX1_most wsX1_most 1 dC dI ca b A N := ⟨hx, hb, hml, findClass_of_methodNamed B.named, atoms_spec (ws := wsX1_most) B.pre, hK, hA, hA2, hth⟩
  have hi1 : ∀ w ∈ wsX10, w ∈ wsX1_most := (fun w h => List.mem_cons_of_mem _ (List.mem_append_right _ h))
  have hS : va_S A s.heap s.heap [] := va_S.rf
  have hl := lv_entry ([.ref (b 128)] : List Value) (n := 1) (Nat.le_of_ble_eq_true rfl)
  rw [lg_entry_eq]
  generalize (lg_sl ([.ref (b 128)] : List Value) ++ List.replicate (1 - (lg_sl ([.ref (b 128)] : List Value)).length) Slot.unset).toArray = ls at hl ⊢
  have hl : lv_has ls 1 [(0, .ref (b 128))] := hl
  unfold f_X1_most at h
  refine lv_aload_n hx hb dX1_most_0 rfl (lv_at hl 0 rfl) ?_
  refine gg1_1 X hP kc_128 (sk_in hN kc_128 (by decide)) hi1 (List.mem_of_getElem? (i := 1) rfl) dX1_most_1 ?_
  refine lv_bipush (v := 112) hx hb dX1_most_4 (by decide) ?_
  refine lv_icmp_ne (tgt := 14) hx hb dX1_most_6 (by decide) (fun c2 => ?_) (fun c2 => ?_)
  · have h := gif_f c2 h
    refine lv_aload_n hx hb dX1_most_14 rfl (lv_at hl 0 rfl) ?_
    refine gg1_1 X hP kc_128 (sk_in hN kc_128 (by decide)) hi1 (List.mem_of_getElem? (i := 1) rfl) dX1_most_15 ?_
    refine lv_bipush (v := 99) hx hb dX1_most_18 (by decide) ?_
    refine lv_icmp_ne (tgt := 28) hx hb dX1_most_20 (by decide) (fun c1 => ?_) (fun c1 => ?_)
    · have h := gif_f c1 h
      refine lv_sipush (v := 200) hx hb dX1_most_28 (by decide) ?_
      exact W.iret hx hb hr (fun t9 ht hW => ⟨⟨(200 : Int32), (), rfl, (Option.some.inj h).symm, gEnd ht hP⟩, hS.F ht⟩) hS.2.2 dX1_most_31 hlk
    · have h := gif_t c1 h
      refine lv_bipush (v := 40) hx hb dX1_most_23 (by decide) ?_
      refine lv_goto (tgt := 31) hx hb dX1_most_25 (by decide) ?_
      exact W.iret hx hb hr (fun t9 ht hW => ⟨⟨(40 : Int32), (), rfl, (Option.some.inj h).symm, gEnd ht hP⟩, hS.F ht⟩) hS.2.2 dX1_most_31 hlk
  · have h := gif_t c2 h
    refine lv_bipush (v := 40) hx hb dX1_most_9 (by decide) ?_
    refine lv_goto (tgt := 31) hx hb dX1_most_11 (by decide) ?_
    exact W.iret hx hb hr (fun t9 ht hW => ⟨⟨(40 : Int32), (), rfl, (Option.some.inj h).symm, gEnd ht hP⟩, hS.F ht⟩) hS.2.2 dX1_most_31 hlk
def f_X1_isWhole (I : Nat → Nat → Int32) : Option (Int32) :=
  if (I 128 0) = (4 : Int32) then
    some (1 : Int32)
  else
    if (I 128 0) = (3 : Int32) then
      (f_X1_least I).bind fun r1 =>
      if (I 128 3) < r1 then
        some (0 : Int32)
      else
        (f_X1_most I).bind fun r3 =>
        if r3 < (I 128 3) then
          some (0 : Int32)
        else
          some (1 : Int32)
    else
      some (0 : Int32)
set_option maxHeartbeats 8000000 in
set_option maxRecDepth 100000 in
theorem c_X1_isWhole {l : Launch} {dC : Nat → ClassId} {dI : Nat → Nat → Nat} {ca : Nat → ClassId} {b : Nat → Nat} {A : Nat → Prop} {N : Nat} (hN : 129 ≤ N) (hA : gAd A b N) (I : Nat → Nat → Int32) (O : Nat → Nat → Option Nat) (J : Nat → Nat → Int64) (res : Int32) (h : f_X1_isWhole I = some res) : Met l yX1_isWhole wsX1_isWhole ({ frames := 1, cells := 0, slots := 0, locals := 20 } : Room) (va_Pc [.ref (b 128)] (gPre dC dI ca b A N I O J)) (va_Qi (fun (r : Int32) (u : Unit) => res = r) (fun (u : Unit) t => va_P (dC, dI) vwCl (hW N ca b I O J) t.heap) A) 0 0 A := by
  refine Met.ofW (cc := cX1_isWhole) (maxL := 1) (ret := (some .boolean)) (by decide) rfl ?_
  intro p e s m args below meth c s₁ B hml hv
  obtain ⟨rfl, hP, hK, hA2, hth⟩ := hv
  have hx := B.exec
  have hb := B.bytes
  have hr := B.returns
  have hlk := B.notSynchronized
  have X : gCx p s m ([.ref (b 128)] : List Value).toArray c RX1 cX1_isWhole wsX1_isWhole 1 dC dI ca b A N := ⟨hx, hb, hml, findClass_of_methodNamed B.named, atoms_spec (ws := wsX1_isWhole) B.pre, hK, hA, hA2, hth⟩
  have hi1 : ∀ w ∈ wsX10, w ∈ wsX1_isWhole := (fun w h => List.mem_cons_of_mem _ (List.mem_append_right _ h))
  have hS : va_S A s.heap s.heap [] := va_S.rf
  have hl := lv_entry ([.ref (b 128)] : List Value) (n := 1) (Nat.le_of_ble_eq_true rfl)
  rw [lg_entry_eq]
  generalize (lg_sl ([.ref (b 128)] : List Value) ++ List.replicate (1 - (lg_sl ([.ref (b 128)] : List Value)).length) Slot.unset).toArray = ls at hl ⊢
  have hl : lv_has ls 1 [(0, .ref (b 128))] := hl
  unfold f_X1_isWhole at h
  refine lv_aload_n hx hb dX1_isWhole_0 rfl (lv_at hl 0 rfl) ?_
  refine gg1_0 X hP kc_128 (sk_in hN kc_128 (by decide)) hi1 (List.mem_of_getElem? (i := 1) rfl) dX1_isWhole_1 ?_
  refine lv_iconst (v := 4) hx hb dX1_isWhole_4 (by decide) ?_
  refine lv_icmp_eq (tgt := 38) hx hb dX1_isWhole_5 (by decide) (fun c8 => ?_) (fun c8 => ?_)
  · have h := gif_t c8 h
    refine lv_iconst (v := 1) hx hb dX1_isWhole_38 (by decide) ?_
    refine lv_goto (tgt := 43) hx hb dX1_isWhole_39 (by decide) ?_
    exact W.zret (ty := .boolean) hx hb hr (by decide) (fun t9 ht hW => ⟨⟨(1 : Int32), (), rfl, (Option.some.inj h).symm, gEnd ht hP⟩, hS.F ht⟩) hS.2.2 dX1_isWhole_43 hlk
  · have h := gif_f c8 h
    refine lv_aload_n hx hb dX1_isWhole_8 rfl (lv_at hl 0 rfl) ?_
    refine gg1_0 X hP kc_128 (sk_in hN kc_128 (by decide)) hi1 (List.mem_of_getElem? (i := 1) rfl) dX1_isWhole_9 ?_
    refine lv_iconst (v := 3) hx hb dX1_isWhole_12 (by decide) ?_
    refine lv_icmp_ne (tgt := 42) hx hb dX1_isWhole_13 (by decide) (fun c7 => ?_) (fun c7 => ?_)
    · have h := gif_f c7 h
      refine lv_iconst (v := 0) hx hb dX1_isWhole_42 (by decide) ?_
      exact W.zret (ty := .boolean) hx hb hr (by decide) (fun t9 ht hW => ⟨⟨(0 : Int32), (), rfl, (Option.some.inj h).symm, gEnd ht hP⟩, hS.F ht⟩) hS.2.2 dX1_isWhole_43 hlk
    · have h := gif_t c7 h
      refine lv_aload_n hx hb dX1_isWhole_16 rfl (lv_at hl 0 rfl) ?_
      refine gg1_3 X hP kc_128 (sk_in hN kc_128 (by decide)) hi1 (List.mem_of_getElem? (i := 2) rfl) dX1_isWhole_17 ?_
      refine lv_aload_n hx hb dX1_isWhole_20 rfl (lv_at hl 0 rfl) ?_
      obtain ⟨q2, hcq2, h⟩ := hb_some h
      refine gdV_i (As := []) (rest := [.int (I 128 3)]) (BH := (fun (u : Unit) H => va_P (dC, dI) vwCl (hW N ca b I O J) H)) X hP hS (c_X1_least hN hA I O J q2 hcq2) (cwV 0 X.ts gX1_isWhole_X1_least rfl rfl rfl (by decide +kernel) ⟨Nat.le_of_ble_eq_true rfl, Nat.le_of_ble_eq_true rfl⟩) (gr1 X hP kc_128 (sk_in hN kc_128 (by decide))) rfl hl.1 rfl (Nat.le_of_ble_eq_true rfl) dX1_isWhole_21 ⟨Nat.le_of_ble_eq_true rfl, Nat.le_of_ble_eq_true rfl⟩ (fun r1 u9 H locs hw hP hS => ?_)
      have hw := hw.symm
      subst hw
      refine lv_icmp_lt (tgt := 42) hx hb dX1_isWhole_24 (by decide) (fun c6 => ?_) (fun c6 => ?_)
      · have h := gif_t c6 h
        refine lv_iconst (v := 0) hx hb dX1_isWhole_42 (by decide) ?_
        exact W.zret (ty := .boolean) hx hb hr (by decide) (fun t9 ht hW => ⟨⟨(0 : Int32), (), rfl, (Option.some.inj h).symm, gEnd ht hP⟩, hS.F ht⟩) hS.2.2 dX1_isWhole_43 hlk
      · have h := gif_f c6 h
        refine lv_aload_n hx hb dX1_isWhole_27 rfl (lv_at hl 0 rfl) ?_
        refine gg1_3 X hP kc_128 (sk_in hN kc_128 (by decide)) hi1 (List.mem_of_getElem? (i := 2) rfl) dX1_isWhole_28 ?_
        refine lv_aload_n hx hb dX1_isWhole_31 rfl (lv_at hl 0 rfl) ?_
        obtain ⟨q4, hcq4, h⟩ := hb_some h
        refine gdV_i (As := []) (rest := [.int (I 128 3)]) (BH := (fun (u : Unit) H => va_P (dC, dI) vwCl (hW N ca b I O J) H)) X hP hS (c_X1_most hN hA I O J q4 hcq4) (cwV 0 X.ts gX1_isWhole_X1_most rfl rfl rfl (by decide +kernel) ⟨Nat.le_of_ble_eq_true rfl, Nat.le_of_ble_eq_true rfl⟩) (gr1 X hP kc_128 (sk_in hN kc_128 (by decide))) rfl hl.1 rfl (Nat.le_of_ble_eq_true rfl) dX1_isWhole_32 ⟨Nat.le_of_ble_eq_true rfl, Nat.le_of_ble_eq_true rfl⟩ (fun r3 u9 H locs hw hP hS => ?_)
        have hw := hw.symm
        subst hw
        refine lv_icmp_gt (tgt := 42) hx hb dX1_isWhole_35 (by decide) (fun c5 => ?_) (fun c5 => ?_)
        · have h := gif_t c5 h
          refine lv_iconst (v := 0) hx hb dX1_isWhole_42 (by decide) ?_
          exact W.zret (ty := .boolean) hx hb hr (by decide) (fun t9 ht hW => ⟨⟨(0 : Int32), (), rfl, (Option.some.inj h).symm, gEnd ht hP⟩, hS.F ht⟩) hS.2.2 dX1_isWhole_43 hlk
        · have h := gif_f c5 h
          refine lv_iconst (v := 1) hx hb dX1_isWhole_38 (by decide) ?_
          refine lv_goto (tgt := 43) hx hb dX1_isWhole_39 (by decide) ?_
          exact W.zret (ty := .boolean) hx hb hr (by decide) (fun t9 ht hW => ⟨⟨(1 : Int32), (), rfl, (Option.some.inj h).symm, gEnd ht hP⟩, hS.F ht⟩) hS.2.2 dX1_isWhole_43 hlk
def f_X1_acceptsKind (a1 : Int32) (I : Nat → Nat → Int32) : Option (Int32 × (Nat → Nat → Int32)) :=
  hg (gc a1) <|
  hlet (gup I 128 1 a1) fun I1 =>
  (show Option (Int32) from
    if a1 = (116 : Int32) then
      some (3 : Int32)
    else
      some (1 : Int32)).bind fun p2 =>
  hlet (gup I1 128 0 p2) fun I3 =>
  if a1 = (112 : Int32) then
    some ((1 : Int32), I3)
  else
    if a1 = (110 : Int32) then
      some ((1 : Int32), I3)
    else
      if a1 = (99 : Int32) then
        some ((1 : Int32), I3)
      else
        if a1 = (116 : Int32) then
          some ((1 : Int32), I3)
        else
          some ((0 : Int32), I3)
set_option maxHeartbeats 8000000 in
set_option maxRecDepth 100000 in
theorem c_X1_acceptsKind {l : Launch} {dC : Nat → ClassId} {dI : Nat → Nat → Nat} {ca : Nat → ClassId} {b : Nat → Nat} {A : Nat → Prop} {N : Nat} (hN : 129 ≤ N) (hA : gAd A b N) (I : Nat → Nat → Int32) (O : Nat → Nat → Option Nat) (J : Nat → Nat → Int64) (a1 : Int32) (res : Int32 × (Nat → Nat → Int32)) (h : f_X1_acceptsKind a1 I = some res) : Met l yX1_acceptsKind wsX1_acceptsKind ({ frames := 0, cells := 0, slots := 0, locals := 0 } : Room) (va_Pc [.ref (b 128), .int a1] (gPre dC dI ca b A N I O J)) (va_Qi (fun (r : Int32) (u : Nat → Nat → Int32) => res = (r, u)) (fun (u : Nat → Nat → Int32) t => va_P (dC, dI) vwCl (hW N ca b u O J) t.heap) A) 0 0 A := by
  refine Met.ofW (cc := cX1_acceptsKind) (maxL := 2) (ret := (some .boolean)) (by decide) rfl ?_
  intro p e s m args below meth c s₁ B hml hv
  obtain ⟨rfl, hP, hK, hA2, hth⟩ := hv
  have hx := B.exec
  have hb := B.bytes
  have hr := B.returns
  have hlk := B.notSynchronized
  have X : gCx p s m ([.ref (b 128), .int a1] : List Value).toArray c RX1 cX1_acceptsKind wsX1_acceptsKind 2 dC dI ca b A N := ⟨hx, hb, hml, findClass_of_methodNamed B.named, atoms_spec (ws := wsX1_acceptsKind) B.pre, hK, hA, hA2, hth⟩
  have hi1 : ∀ w ∈ wsX10, w ∈ wsX1_acceptsKind := (fun w h => List.mem_cons_of_mem _ (List.mem_append_right _ h))
  have hS : va_S A s.heap s.heap [] := va_S.rf
  have hl := lv_entry ([.ref (b 128), .int a1] : List Value) (n := 2) (Nat.le_of_ble_eq_true rfl)
  rw [lg_entry_eq]
  generalize (lg_sl ([.ref (b 128), .int a1] : List Value) ++ List.replicate (2 - (lg_sl ([.ref (b 128), .int a1] : List Value)).length) Slot.unset).toArray = ls at hl ⊢
  have hl : lv_has ls 2 [(0, .ref (b 128)), (1, .int a1)] := hl
  unfold f_X1_acceptsKind at h
  refine lv_aload_n hx hb dX1_acceptsKind_0 rfl (lv_at hl 0 rfl) ?_
  refine lv_iload_n hx hb dX1_acceptsKind_1 rfl (lv_at hl 1 rfl) ?_
  obtain ⟨hgv, h⟩ := hg_some h
  refine gp1_1 X hP hS kc_128 (sk_in hN kc_128 (by decide)) hi1 (List.mem_of_getElem? (i := 1) rfl) hgv dX1_acceptsKind_2 (fun H locs hP hS => ?_)
  obtain ⟨I1, eI1, h⟩ := hlet_ex h
  rw [← eI1] at hP
  refine lv_aload_n hx hb dX1_acceptsKind_5 rfl (lv_at hl 0 rfl) ?_
  refine lv_iload_n hx hb dX1_acceptsKind_6 rfl (lv_at hl 1 rfl) ?_
  refine lv_bipush (v := 116) hx hb dX1_acceptsKind_7 (by decide) ?_
  obtain ⟨p2, hv, h⟩ := hb_some h
  have K17 : ∀ (H : Heap) (locs : List Loc) (ls : Array Slot), va_P (dC, dI) vwCl (hW N ca b I1 O J) H → va_S A s.heap H locs → lv_has ls 2 [(1, .int a1)] → W p l e (headSpec wsX1_acceptsKind ({ frames := 0, cells := 0, slots := 0, locals := 0 } : Room)).room s m ([.ref (b 128), .int a1] : List Value).toArray below meth c H locs 0 0 (MQ below (va_Qi (fun (r : Int32) (u : Nat → Nat → Int32) => res = (r, u)) (fun (u : Nat → Nat → Int32) t => va_P (dC, dI) vwCl (hW N ca b u O J) t.heap) A) ([.ref (b 128), .int a1] : List Value).toArray s 0 0 A) (F0 m 17 ls [.int p2, .ref (b 128)]) := by
    intro H locs ls hP hS hl
    refine gp1_0 X hP hS kc_128 (sk_in hN kc_128 (by decide)) hi1 (List.mem_of_getElem? (i := 2) rfl) dX1_acceptsKind_17 (fun H locs hP hS => ?_)
    obtain ⟨I3, eI3, h⟩ := hlet_ex h
    rw [← eI3] at hP
    refine lv_iload_n hx hb dX1_acceptsKind_20 rfl (lv_at hl 0 rfl) ?_
    refine lv_bipush (v := 112) hx hb dX1_acceptsKind_21 (by decide) ?_
    refine lv_icmp_eq (tgt := 44) hx hb dX1_acceptsKind_23 (by decide) (fun c7 => ?_) (fun c7 => ?_)
    · have h := gif_t c7 h
      refine lv_iconst (v := 1) hx hb dX1_acceptsKind_44 (by decide) ?_
      refine lv_goto (tgt := 49) hx hb dX1_acceptsKind_45 (by decide) ?_
      exact W.zret (ty := .boolean) hx hb hr (by decide) (fun t9 ht hW => ⟨⟨(1 : Int32), I3, rfl, (Option.some.inj h).symm, gEnd ht hP⟩, hS.F ht⟩) hS.2.2 dX1_acceptsKind_49 hlk
    · have h := gif_f c7 h
      refine lv_iload_n hx hb dX1_acceptsKind_26 rfl (lv_at hl 0 rfl) ?_
      refine lv_bipush (v := 110) hx hb dX1_acceptsKind_27 (by decide) ?_
      refine lv_icmp_eq (tgt := 44) hx hb dX1_acceptsKind_29 (by decide) (fun c6 => ?_) (fun c6 => ?_)
      · have h := gif_t c6 h
        refine lv_iconst (v := 1) hx hb dX1_acceptsKind_44 (by decide) ?_
        refine lv_goto (tgt := 49) hx hb dX1_acceptsKind_45 (by decide) ?_
        exact W.zret (ty := .boolean) hx hb hr (by decide) (fun t9 ht hW => ⟨⟨(1 : Int32), I3, rfl, (Option.some.inj h).symm, gEnd ht hP⟩, hS.F ht⟩) hS.2.2 dX1_acceptsKind_49 hlk
      · have h := gif_f c6 h
        refine lv_iload_n hx hb dX1_acceptsKind_32 rfl (lv_at hl 0 rfl) ?_
        refine lv_bipush (v := 99) hx hb dX1_acceptsKind_33 (by decide) ?_
        refine lv_icmp_eq (tgt := 44) hx hb dX1_acceptsKind_35 (by decide) (fun c5 => ?_) (fun c5 => ?_)
        · have h := gif_t c5 h
          refine lv_iconst (v := 1) hx hb dX1_acceptsKind_44 (by decide) ?_
          refine lv_goto (tgt := 49) hx hb dX1_acceptsKind_45 (by decide) ?_
          exact W.zret (ty := .boolean) hx hb hr (by decide) (fun t9 ht hW => ⟨⟨(1 : Int32), I3, rfl, (Option.some.inj h).symm, gEnd ht hP⟩, hS.F ht⟩) hS.2.2 dX1_acceptsKind_49 hlk
        · have h := gif_f c5 h
          refine lv_iload_n hx hb dX1_acceptsKind_38 rfl (lv_at hl 0 rfl) ?_
          refine lv_bipush (v := 116) hx hb dX1_acceptsKind_39 (by decide) ?_
          refine lv_icmp_ne (tgt := 48) hx hb dX1_acceptsKind_41 (by decide) (fun c4 => ?_) (fun c4 => ?_)
          · have h := gif_f c4 h
            refine lv_iconst (v := 0) hx hb dX1_acceptsKind_48 (by decide) ?_
            exact W.zret (ty := .boolean) hx hb hr (by decide) (fun t9 ht hW => ⟨⟨(0 : Int32), I3, rfl, (Option.some.inj h).symm, gEnd ht hP⟩, hS.F ht⟩) hS.2.2 dX1_acceptsKind_49 hlk
          · have h := gif_t c4 h
            refine lv_iconst (v := 1) hx hb dX1_acceptsKind_44 (by decide) ?_
            refine lv_goto (tgt := 49) hx hb dX1_acceptsKind_45 (by decide) ?_
            exact W.zret (ty := .boolean) hx hb hr (by decide) (fun t9 ht hW => ⟨⟨(1 : Int32), I3, rfl, (Option.some.inj h).symm, gEnd ht hP⟩, hS.F ht⟩) hS.2.2 dX1_acceptsKind_49 hlk
  have h := hv
  refine lv_icmp_ne (tgt := 16) hx hb dX1_acceptsKind_9 (by decide) (fun c8 => ?_) (fun c8 => ?_)
  · have h := gif_f c8 h
    refine lv_iconst (v := 1) hx hb dX1_acceptsKind_16 (by decide) ?_
    cases h
    exact K17 _ _ _ hP hS (lv_sub hl [1] rfl)
  · have h := gif_t c8 h
    refine lv_iconst (v := 3) hx hb dX1_acceptsKind_12 (by decide) ?_
    refine lv_goto (tgt := 17) hx hb dX1_acceptsKind_13 (by decide) ?_
    cases h
    exact K17 _ _ _ hP hS (lv_sub hl [1] rfl)
def f_X1_acceptsTarget (a1 : Int32) (I : Nat → Nat → Int32) : Option (Int32 × (Nat → Nat → Int32)) :=
  hlet (gup I 128 2 (a1 - (48 : Int32))) fun I1 =>
  (show Option (Int32) from
    if (I1 128 1) = (110 : Int32) then
      some (4 : Int32)
    else
      some (2 : Int32)).bind fun p2 =>
  hlet (gup I1 128 0 p2) fun I3 =>
  if (I3 128 2) < 0 then
    some ((0 : Int32), I3)
  else
    (show Option (Int32) from
      if (I3 128 1) = (99 : Int32) then
        some (4 : Int32)
      else
        some (8 : Int32)).bind fun p4 =>
    if p4 ≤ (I3 128 2) then
      some ((0 : Int32), I3)
    else
      some ((1 : Int32), I3)
set_option maxHeartbeats 8000000 in
set_option maxRecDepth 100000 in
theorem c_X1_acceptsTarget {l : Launch} {dC : Nat → ClassId} {dI : Nat → Nat → Nat} {ca : Nat → ClassId} {b : Nat → Nat} {A : Nat → Prop} {N : Nat} (hN : 129 ≤ N) (hA : gAd A b N) (I : Nat → Nat → Int32) (O : Nat → Nat → Option Nat) (J : Nat → Nat → Int64) (a1 : Int32) (res : Int32 × (Nat → Nat → Int32)) (h : f_X1_acceptsTarget a1 I = some res) : Met l yX1_acceptsTarget wsX1_acceptsTarget ({ frames := 0, cells := 0, slots := 0, locals := 0 } : Room) (va_Pc [.ref (b 128), .int a1] (gPre dC dI ca b A N I O J)) (va_Qi (fun (r : Int32) (u : Nat → Nat → Int32) => res = (r, u)) (fun (u : Nat → Nat → Int32) t => va_P (dC, dI) vwCl (hW N ca b u O J) t.heap) A) 0 0 A := by
  refine Met.ofW (cc := cX1_acceptsTarget) (maxL := 2) (ret := (some .boolean)) (by decide) rfl ?_
  intro p e s m args below meth c s₁ B hml hv
  obtain ⟨rfl, hP, hK, hA2, hth⟩ := hv
  have hx := B.exec
  have hb := B.bytes
  have hr := B.returns
  have hlk := B.notSynchronized
  have X : gCx p s m ([.ref (b 128), .int a1] : List Value).toArray c RX1 cX1_acceptsTarget wsX1_acceptsTarget 2 dC dI ca b A N := ⟨hx, hb, hml, findClass_of_methodNamed B.named, atoms_spec (ws := wsX1_acceptsTarget) B.pre, hK, hA, hA2, hth⟩
  have hi1 : ∀ w ∈ wsX10, w ∈ wsX1_acceptsTarget := (fun w h => List.mem_cons_of_mem _ (List.mem_append_right _ h))
  have hS : va_S A s.heap s.heap [] := va_S.rf
  have hl := lv_entry ([.ref (b 128), .int a1] : List Value) (n := 2) (Nat.le_of_ble_eq_true rfl)
  rw [lg_entry_eq]
  generalize (lg_sl ([.ref (b 128), .int a1] : List Value) ++ List.replicate (2 - (lg_sl ([.ref (b 128), .int a1] : List Value)).length) Slot.unset).toArray = ls at hl ⊢
  have hl : lv_has ls 2 [(0, .ref (b 128)), (1, .int a1)] := hl
  unfold f_X1_acceptsTarget at h
  refine lv_aload_n hx hb dX1_acceptsTarget_0 rfl (lv_at hl 0 rfl) ?_
  refine lv_iload_n hx hb dX1_acceptsTarget_1 rfl (lv_at hl 1 rfl) ?_
  refine lv_bipush (v := 48) hx hb dX1_acceptsTarget_2 (by decide) ?_
  refine lv_isub hx hb dX1_acceptsTarget_4 ?_
  refine gp1_2 X hP hS kc_128 (sk_in hN kc_128 (by decide)) hi1 (List.mem_of_getElem? (i := 1) rfl) dX1_acceptsTarget_5 (fun H locs hP hS => ?_)
  obtain ⟨I1, eI1, h⟩ := hlet_ex h
  rw [← eI1] at hP
  refine lv_aload_n hx hb dX1_acceptsTarget_8 rfl (lv_at hl 0 rfl) ?_
  refine lv_aload_n hx hb dX1_acceptsTarget_9 rfl (lv_at hl 0 rfl) ?_
  refine gg1_1 X hP kc_128 (sk_in hN kc_128 (by decide)) hi1 (List.mem_of_getElem? (i := 2) rfl) dX1_acceptsTarget_10 ?_
  refine lv_bipush (v := 110) hx hb dX1_acceptsTarget_13 (by decide) ?_
  obtain ⟨p2, hv, h⟩ := hb_some h
  have K23 : ∀ (H : Heap) (locs : List Loc) (ls : Array Slot), va_P (dC, dI) vwCl (hW N ca b I1 O J) H → va_S A s.heap H locs → lv_has ls 2 [(0, .ref (b 128))] → W p l e (headSpec wsX1_acceptsTarget ({ frames := 0, cells := 0, slots := 0, locals := 0 } : Room)).room s m ([.ref (b 128), .int a1] : List Value).toArray below meth c H locs 0 0 (MQ below (va_Qi (fun (r : Int32) (u : Nat → Nat → Int32) => res = (r, u)) (fun (u : Nat → Nat → Int32) t => va_P (dC, dI) vwCl (hW N ca b u O J) t.heap) A) ([.ref (b 128), .int a1] : List Value).toArray s 0 0 A) (F0 m 23 ls [.int p2, .ref (b 128)]) := by
    intro H locs ls hP hS hl
    refine gp1_0 X hP hS kc_128 (sk_in hN kc_128 (by decide)) hi1 (List.mem_of_getElem? (i := 3) rfl) dX1_acceptsTarget_23 (fun H locs hP hS => ?_)
    obtain ⟨I3, eI3, h⟩ := hlet_ex h
    rw [← eI3] at hP
    refine lv_aload_n hx hb dX1_acceptsTarget_26 rfl (lv_at hl 0 rfl) ?_
    refine gg1_2 X hP kc_128 (sk_in hN kc_128 (by decide)) hi1 (List.mem_of_getElem? (i := 1) rfl) dX1_acceptsTarget_27 ?_
    refine lv_if_lt (tgt := 59) hx hb dX1_acceptsTarget_30 (by decide) (fun c7 => ?_) (fun c7 => ?_)
    · have h := gif_t c7 h
      refine lv_iconst (v := 0) hx hb dX1_acceptsTarget_59 (by decide) ?_
      exact W.zret (ty := .boolean) hx hb hr (by decide) (fun t9 ht hW => ⟨⟨(0 : Int32), I3, rfl, (Option.some.inj h).symm, gEnd ht hP⟩, hS.F ht⟩) hS.2.2 dX1_acceptsTarget_60 hlk
    · have h := gif_f c7 h
      refine lv_aload_n hx hb dX1_acceptsTarget_33 rfl (lv_at hl 0 rfl) ?_
      refine gg1_2 X hP kc_128 (sk_in hN kc_128 (by decide)) hi1 (List.mem_of_getElem? (i := 1) rfl) dX1_acceptsTarget_34 ?_
      refine lv_aload_n hx hb dX1_acceptsTarget_37 rfl (lv_at hl 0 rfl) ?_
      refine gg1_1 X hP kc_128 (sk_in hN kc_128 (by decide)) hi1 (List.mem_of_getElem? (i := 2) rfl) dX1_acceptsTarget_38 ?_
      refine lv_bipush (v := 99) hx hb dX1_acceptsTarget_41 (by decide) ?_
      obtain ⟨p4, hv, h⟩ := hb_some h
      have K52 : ∀ (H : Heap) (locs : List Loc) (ls : Array Slot), va_P (dC, dI) vwCl (hW N ca b I3 O J) H → va_S A s.heap H locs → lv_has ls 2 [] → W p l e (headSpec wsX1_acceptsTarget ({ frames := 0, cells := 0, slots := 0, locals := 0 } : Room)).room s m ([.ref (b 128), .int a1] : List Value).toArray below meth c H locs 0 0 (MQ below (va_Qi (fun (r : Int32) (u : Nat → Nat → Int32) => res = (r, u)) (fun (u : Nat → Nat → Int32) t => va_P (dC, dI) vwCl (hW N ca b u O J) t.heap) A) ([.ref (b 128), .int a1] : List Value).toArray s 0 0 A) (F0 m 52 ls [.int p4, .int (I3 128 2)]) := by
        intro H locs ls hP hS hl
        refine lv_icmp_ge (tgt := 59) hx hb dX1_acceptsTarget_52 (by decide) (fun c5 => ?_) (fun c5 => ?_)
        · have h := gif_t c5 h
          refine lv_iconst (v := 0) hx hb dX1_acceptsTarget_59 (by decide) ?_
          exact W.zret (ty := .boolean) hx hb hr (by decide) (fun t9 ht hW => ⟨⟨(0 : Int32), I3, rfl, (Option.some.inj h).symm, gEnd ht hP⟩, hS.F ht⟩) hS.2.2 dX1_acceptsTarget_60 hlk
        · have h := gif_f c5 h
          refine lv_iconst (v := 1) hx hb dX1_acceptsTarget_55 (by decide) ?_
          refine lv_goto (tgt := 60) hx hb dX1_acceptsTarget_56 (by decide) ?_
          exact W.zret (ty := .boolean) hx hb hr (by decide) (fun t9 ht hW => ⟨⟨(1 : Int32), I3, rfl, (Option.some.inj h).symm, gEnd ht hP⟩, hS.F ht⟩) hS.2.2 dX1_acceptsTarget_60 hlk
      have h := hv
      refine lv_icmp_ne (tgt := 50) hx hb dX1_acceptsTarget_43 (by decide) (fun c6 => ?_) (fun c6 => ?_)
      · have h := gif_f c6 h
        refine lv_bipush (v := 8) hx hb dX1_acceptsTarget_50 (by decide) ?_
        cases h
        exact K52 _ _ _ hP hS (lv_sub hl [] rfl)
      · have h := gif_t c6 h
        refine lv_iconst (v := 4) hx hb dX1_acceptsTarget_46 (by decide) ?_
        refine lv_goto (tgt := 52) hx hb dX1_acceptsTarget_47 (by decide) ?_
        cases h
        exact K52 _ _ _ hP hS (lv_sub hl [] rfl)
  have h := hv
  refine lv_icmp_ne (tgt := 22) hx hb dX1_acceptsTarget_15 (by decide) (fun c8 => ?_) (fun c8 => ?_)
  · have h := gif_f c8 h
    refine lv_iconst (v := 2) hx hb dX1_acceptsTarget_22 (by decide) ?_
    cases h
    exact K23 _ _ _ hP hS (lv_sub hl [0] rfl)
  · have h := gif_t c8 h
    refine lv_iconst (v := 4) hx hb dX1_acceptsTarget_18 (by decide) ?_
    refine lv_goto (tgt := 23) hx hb dX1_acceptsTarget_19 (by decide) ?_
    cases h
    exact K23 _ _ _ hP hS (lv_sub hl [0] rfl)
def f_X1_canBecomeNumber_L12 (I : Nat → Nat → Int32) : Nat → Int32 → Int32 → Int32 → Option (Int32)
  | 0, _, _, _ => none
  | fuel + 1, p1, p2, p3 =>
    if (3 : Int32) ≤ p3 then
      some (0 : Int32)
    else
      (f_X1_most I).bind fun r4 =>
      hlet (fun (_ : Unit) => show Option (Int32) from
        hlet (p3 + 1) fun x7 =>
        f_X1_canBecomeNumber_L12 I fuel (p1 * (10 : Int32)) ((p2 * (10 : Int32)) + (9 : Int32)) x7) fun j6 =>
      if r4 < p1 then
        j6 ()
      else
        (f_X1_least I).bind fun r8 =>
        if p2 < r8 then
          j6 ()
        else
          some (1 : Int32)
def f_X1_canBecomeNumber (I : Nat → Nat → Int32) : Option (Int32) :=
  f_X1_canBecomeNumber_L12 I FU (I 128 3) (I 128 3) (0 : Int32)
set_option maxHeartbeats 8000000 in
set_option maxRecDepth 100000 in
theorem c_X1_canBecomeNumber {l : Launch} {dC : Nat → ClassId} {dI : Nat → Nat → Nat} {ca : Nat → ClassId} {b : Nat → Nat} {A : Nat → Prop} {N : Nat} (hN : 129 ≤ N) (hA : gAd A b N) (I : Nat → Nat → Int32) (O : Nat → Nat → Option Nat) (J : Nat → Nat → Int64) (res : Int32) (h : f_X1_canBecomeNumber I = some res) : Met l yX1_canBecomeNumber wsX1_canBecomeNumber ({ frames := 1, cells := 0, slots := 0, locals := 20 } : Room) (va_Pc [.ref (b 128)] (gPre dC dI ca b A N I O J)) (va_Qi (fun (r : Int32) (u : Unit) => res = r) (fun (u : Unit) t => va_P (dC, dI) vwCl (hW N ca b I O J) t.heap) A) 0 0 A := by
  refine Met.ofW (cc := cX1_canBecomeNumber) (maxL := 4) (ret := (some .boolean)) (by decide) rfl ?_
  intro p e s m args below meth c s₁ B hml hv
  obtain ⟨rfl, hP, hK, hA2, hth⟩ := hv
  have hx := B.exec
  have hb := B.bytes
  have hr := B.returns
  have hlk := B.notSynchronized
  have X : gCx p s m ([.ref (b 128)] : List Value).toArray c RX1 cX1_canBecomeNumber wsX1_canBecomeNumber 4 dC dI ca b A N := ⟨hx, hb, hml, findClass_of_methodNamed B.named, atoms_spec (ws := wsX1_canBecomeNumber) B.pre, hK, hA, hA2, hth⟩
  have hi1 : ∀ w ∈ wsX10, w ∈ wsX1_canBecomeNumber := (fun w h => List.mem_cons_of_mem _ (List.mem_append_right _ h))
  have hS : va_S A s.heap s.heap [] := va_S.rf
  have hl := lv_entry ([.ref (b 128)] : List Value) (n := 4) (Nat.le_of_ble_eq_true rfl)
  rw [lg_entry_eq]
  generalize (lg_sl ([.ref (b 128)] : List Value) ++ List.replicate (4 - (lg_sl ([.ref (b 128)] : List Value)).length) Slot.unset).toArray = ls at hl ⊢
  have hl : lv_has ls 4 [(0, .ref (b 128))] := hl
  unfold f_X1_canBecomeNumber at h
  refine lv_aload_n hx hb dX1_canBecomeNumber_0 rfl (lv_at hl 0 rfl) ?_
  refine gg1_3 X hP kc_128 (sk_in hN kc_128 (by decide)) hi1 (List.mem_of_getElem? (i := 1) rfl) dX1_canBecomeNumber_1 ?_
  refine lv_istore_n (lv' := [(1, .int (I 128 3)), (0, .ref (b 128))]) hx hb dX1_canBecomeNumber_4 rfl hl (by decide) rfl (fun ls hl => ?_)
  refine lv_aload_n hx hb dX1_canBecomeNumber_5 rfl (lv_at hl 1 rfl) ?_
  refine gg1_3 X hP kc_128 (sk_in hN kc_128 (by decide)) hi1 (List.mem_of_getElem? (i := 1) rfl) dX1_canBecomeNumber_6 ?_
  refine lv_istore_n (lv' := [(2, .int (I 128 3)), (1, .int (I 128 3)), (0, .ref (b 128))]) hx hb dX1_canBecomeNumber_9 rfl hl (by decide) rfl (fun ls hl => ?_)
  refine lv_iconst (v := 0) hx hb dX1_canBecomeNumber_10 (by decide) ?_
  refine lv_istore_n (lv' := [(3, .int (0 : Int32)), (2, .int (I 128 3)), (1, .int (I 128 3)), (0, .ref (b 128))]) hx hb dX1_canBecomeNumber_11 rfl hl (by decide) rfl (fun ls hl => ?_)
  have hL12 : ∀ (fuel : Nat) (p1 : Int32) (p2 : Int32) (p3 : Int32) (H : Heap) (locs : List Loc) (ls : Array Slot), f_X1_canBecomeNumber_L12 I fuel p1 p2 p3 = some res → va_P (dC, dI) vwCl (hW N ca b I O J) H → va_S A s.heap H locs → lv_has ls 4 [(0, .ref (b 128)), (1, .int p1), (2, .int p2), (3, .int p3)] → W p l e (headSpec wsX1_canBecomeNumber ({ frames := 1, cells := 0, slots := 0, locals := 20 } : Room)).room s m ([.ref (b 128)] : List Value).toArray below meth c H locs 0 0 (MQ below (va_Qi (fun (r : Int32) (u : Unit) => res = r) (fun (u : Unit) t => va_P (dC, dI) vwCl (hW N ca b I O J) t.heap) A) ([.ref (b 128)] : List Value).toArray s 0 0 A) (F0 m 12 ls []) := by
    intro fuel
    induction fuel with
    | zero =>
      intro p1 p2 p3 H locs ls h hP hS hl
      rw [f_X1_canBecomeNumber_L12] at h
      cases h
    | succ fuel ih =>
      intro p1 p2 p3 H locs ls h hP hS hl
      rw [f_X1_canBecomeNumber_L12] at h
      refine lv_iload_n hx hb dX1_canBecomeNumber_12 rfl (lv_at hl 3 rfl) ?_
      refine lv_iconst (v := 3) hx hb dX1_canBecomeNumber_13 (by decide) ?_
      refine lv_icmp_ge (tgt := 54) hx hb dX1_canBecomeNumber_14 (by decide) (fun c12 => ?_) (fun c12 => ?_)
      · have h := gif_t c12 h
        refine lv_iconst (v := 0) hx hb dX1_canBecomeNumber_54 (by decide) ?_
        exact W.zret (ty := .boolean) hx hb hr (by decide) (fun t9 ht hW => ⟨⟨(0 : Int32), (), rfl, (Option.some.inj h).symm, gEnd ht hP⟩, hS.F ht⟩) hS.2.2 dX1_canBecomeNumber_55 hlk
      · have h := gif_f c12 h
        refine lv_iload_n hx hb dX1_canBecomeNumber_17 rfl (lv_at hl 1 rfl) ?_
        refine lv_aload_n hx hb dX1_canBecomeNumber_18 rfl (lv_at hl 0 rfl) ?_
        obtain ⟨q5, hcq5, h⟩ := hb_some h
        refine gdV_i (As := []) (rest := [.int p1]) (BH := (fun (u : Unit) H => va_P (dC, dI) vwCl (hW N ca b I O J) H)) X hP hS (c_X1_most hN hA I O J q5 hcq5) (cwV 0 X.ts gX1_canBecomeNumber_X1_most rfl rfl rfl (by decide +kernel) ⟨Nat.le_of_ble_eq_true rfl, Nat.le_of_ble_eq_true rfl⟩) (gr1 X hP kc_128 (sk_in hN kc_128 (by decide))) rfl hl.1 rfl (Nat.le_of_ble_eq_true rfl) dX1_canBecomeNumber_19 ⟨Nat.le_of_ble_eq_true rfl, Nat.le_of_ble_eq_true rfl⟩ (fun r4 u9 H locs hw hP hS => ?_)
        have hw := hw.symm
        subst hw
        obtain ⟨j6, ej6, h⟩ := hlet_ex h
        have K35 : ∀ (H : Heap) (locs : List Loc) (ls : Array Slot), j6 () = some res → va_P (dC, dI) vwCl (hW N ca b I O J) H → va_S A s.heap H locs → lv_has ls 4 [(0, .ref (b 128)), (1, .int p1), (2, .int p2), (3, .int p3)] → W p l e (headSpec wsX1_canBecomeNumber ({ frames := 1, cells := 0, slots := 0, locals := 20 } : Room)).room s m ([.ref (b 128)] : List Value).toArray below meth c H locs 0 0 (MQ below (va_Qi (fun (r : Int32) (u : Unit) => res = r) (fun (u : Unit) t => va_P (dC, dI) vwCl (hW N ca b I O J) t.heap) A) ([.ref (b 128)] : List Value).toArray s 0 0 A) (F0 m 35 ls []) := by
          intro H locs ls h hP hS hl
          rw [ej6] at h
          refine lv_iload_n hx hb dX1_canBecomeNumber_35 rfl (lv_at hl 1 rfl) ?_
          refine lv_bipush (v := 10) hx hb dX1_canBecomeNumber_36 (by decide) ?_
          refine lv_imul hx hb dX1_canBecomeNumber_38 ?_
          refine lv_istore_n (lv' := [(1, .int (p1 * (10 : Int32))), (0, .ref (b 128)), (2, .int p2), (3, .int p3)]) hx hb dX1_canBecomeNumber_39 rfl hl (by decide) rfl (fun ls hl => ?_)
          refine lv_iload_n hx hb dX1_canBecomeNumber_40 rfl (lv_at hl 2 rfl) ?_
          refine lv_bipush (v := 10) hx hb dX1_canBecomeNumber_41 (by decide) ?_
          refine lv_imul hx hb dX1_canBecomeNumber_43 ?_
          refine lv_bipush (v := 9) hx hb dX1_canBecomeNumber_44 (by decide) ?_
          refine lv_iadd hx hb dX1_canBecomeNumber_46 ?_
          refine lv_istore_n (lv' := [(2, .int ((p2 * (10 : Int32)) + (9 : Int32))), (1, .int (p1 * (10 : Int32))), (0, .ref (b 128)), (3, .int p3)]) hx hb dX1_canBecomeNumber_47 rfl hl (by decide) rfl (fun ls hl => ?_)
          obtain ⟨x7, ex7, h⟩ := hlet_ex h
          refine lv_iinc (v := x7) (lv' := [(3, .int x7), (2, .int ((p2 * (10 : Int32)) + (9 : Int32))), (1, .int (p1 * (10 : Int32))), (0, .ref (b 128))]) hx hb dX1_canBecomeNumber_48 hl (k := 3) rfl (by rw [ex7]; rfl) (by decide) rfl (fun ls hl => ?_)
          refine lv_goto (tgt := 12) hx hb dX1_canBecomeNumber_51 (by decide) ?_
          exact ih _ _ _ _ _ _ h hP hS (lv_sub hl [3, 2, 1, 0] rfl)
        refine lv_icmp_gt (tgt := 35) hx hb dX1_canBecomeNumber_22 (by decide) (fun c11 => ?_) (fun c11 => ?_)
        · have h := gif_t c11 h
          exact K35 _ _ _ h hP hS (lv_sub hl [0, 1, 2, 3] rfl)
        · have h := gif_f c11 h
          refine lv_iload_n hx hb dX1_canBecomeNumber_25 rfl (lv_at hl 2 rfl) ?_
          refine lv_aload_n hx hb dX1_canBecomeNumber_26 rfl (lv_at hl 0 rfl) ?_
          obtain ⟨q9, hcq9, h⟩ := hb_some h
          refine gdV_i (As := []) (rest := [.int p2]) (BH := (fun (u : Unit) H => va_P (dC, dI) vwCl (hW N ca b I O J) H)) X hP hS (c_X1_least hN hA I O J q9 hcq9) (cwV 0 X.ts gX1_canBecomeNumber_X1_least rfl rfl rfl (by decide +kernel) ⟨Nat.le_of_ble_eq_true rfl, Nat.le_of_ble_eq_true rfl⟩) (gr1 X hP kc_128 (sk_in hN kc_128 (by decide))) rfl hl.1 rfl (Nat.le_of_ble_eq_true rfl) dX1_canBecomeNumber_27 ⟨Nat.le_of_ble_eq_true rfl, Nat.le_of_ble_eq_true rfl⟩ (fun r8 u9 H locs hw hP hS => ?_)
          have hw := hw.symm
          subst hw
          refine lv_icmp_lt (tgt := 35) hx hb dX1_canBecomeNumber_30 (by decide) (fun c10 => ?_) (fun c10 => ?_)
          · have h := gif_t c10 h
            exact K35 _ _ _ h hP hS (lv_sub hl [0, 1, 2, 3] rfl)
          · have h := gif_f c10 h
            refine lv_iconst (v := 1) hx hb dX1_canBecomeNumber_33 (by decide) ?_
            exact W.zret (ty := .boolean) hx hb hr (by decide) (fun t9 ht hW => ⟨⟨(1 : Int32), (), rfl, (Option.some.inj h).symm, gEnd ht hP⟩, hS.F ht⟩) hS.2.2 dX1_canBecomeNumber_34 hlk
  exact hL12 FU _ _ _ _ _ _ h hP hS (lv_sub hl [3, 2, 1, 0] rfl)
def f_X1_acceptsDigit (a1 : Int32) (I : Nat → Nat → Int32) : Option (Int32 × (Nat → Nat → Int32)) :=
  if a1 < (48 : Int32) then
    some ((0 : Int32), I)
  else
    if a1 ≤ (57 : Int32) then
      hlet (gup I 128 3 (((I 128 3) * (10 : Int32)) + (a1 - (48 : Int32)))) fun I1 =>
      if (I1 128 3) ≤ 0 then
        some ((0 : Int32), I1)
      else
        (f_X1_canBecomeNumber I1).bind fun r2 =>
        if r2 = 0 then
          some ((0 : Int32), I1)
        else
          some ((1 : Int32), I1)
    else
      some ((0 : Int32), I)
set_option maxHeartbeats 8000000 in
set_option maxRecDepth 100000 in
theorem c_X1_acceptsDigit {l : Launch} {dC : Nat → ClassId} {dI : Nat → Nat → Nat} {ca : Nat → ClassId} {b : Nat → Nat} {A : Nat → Prop} {N : Nat} (hN : 129 ≤ N) (hA : gAd A b N) (I : Nat → Nat → Int32) (O : Nat → Nat → Option Nat) (J : Nat → Nat → Int64) (a1 : Int32) (res : Int32 × (Nat → Nat → Int32)) (h : f_X1_acceptsDigit a1 I = some res) : Met l yX1_acceptsDigit wsX1_acceptsDigit ({ frames := 2, cells := 0, slots := 0, locals := 43 } : Room) (va_Pc [.ref (b 128), .int a1] (gPre dC dI ca b A N I O J)) (va_Qi (fun (r : Int32) (u : Nat → Nat → Int32) => res = (r, u)) (fun (u : Nat → Nat → Int32) t => va_P (dC, dI) vwCl (hW N ca b u O J) t.heap) A) 0 0 A := by
  refine Met.ofW (cc := cX1_acceptsDigit) (maxL := 2) (ret := (some .boolean)) (by decide) rfl ?_
  intro p e s m args below meth c s₁ B hml hv
  obtain ⟨rfl, hP, hK, hA2, hth⟩ := hv
  have hx := B.exec
  have hb := B.bytes
  have hr := B.returns
  have hlk := B.notSynchronized
  have X : gCx p s m ([.ref (b 128), .int a1] : List Value).toArray c RX1 cX1_acceptsDigit wsX1_acceptsDigit 2 dC dI ca b A N := ⟨hx, hb, hml, findClass_of_methodNamed B.named, atoms_spec (ws := wsX1_acceptsDigit) B.pre, hK, hA, hA2, hth⟩
  have hi1 : ∀ w ∈ wsX10, w ∈ wsX1_acceptsDigit := (fun w h => List.mem_cons_of_mem _ (List.mem_append_right _ h))
  have hS : va_S A s.heap s.heap [] := va_S.rf
  have hl := lv_entry ([.ref (b 128), .int a1] : List Value) (n := 2) (Nat.le_of_ble_eq_true rfl)
  rw [lg_entry_eq]
  generalize (lg_sl ([.ref (b 128), .int a1] : List Value) ++ List.replicate (2 - (lg_sl ([.ref (b 128), .int a1] : List Value)).length) Slot.unset).toArray = ls at hl ⊢
  have hl : lv_has ls 2 [(0, .ref (b 128)), (1, .int a1)] := hl
  unfold f_X1_acceptsDigit at h
  refine lv_iload_n hx hb dX1_acceptsDigit_0 rfl (lv_at hl 1 rfl) ?_
  refine lv_bipush (v := 48) hx hb dX1_acceptsDigit_1 (by decide) ?_
  refine lv_icmp_lt (tgt := 12) hx hb dX1_acceptsDigit_3 (by decide) (fun c7 => ?_) (fun c7 => ?_)
  · have h := gif_t c7 h
    refine lv_iconst (v := 0) hx hb dX1_acceptsDigit_12 (by decide) ?_
    exact W.zret (ty := .boolean) hx hb hr (by decide) (fun t9 ht hW => ⟨⟨(0 : Int32), I, rfl, (Option.some.inj h).symm, gEnd ht hP⟩, hS.F ht⟩) hS.2.2 dX1_acceptsDigit_13 hlk
  · have h := gif_f c7 h
    refine lv_iload_n hx hb dX1_acceptsDigit_6 rfl (lv_at hl 1 rfl) ?_
    refine lv_bipush (v := 57) hx hb dX1_acceptsDigit_7 (by decide) ?_
    refine lv_icmp_le (tgt := 14) hx hb dX1_acceptsDigit_9 (by decide) (fun c6 => ?_) (fun c6 => ?_)
    · have h := gif_t c6 h
      refine lv_aload_n hx hb dX1_acceptsDigit_14 rfl (lv_at hl 0 rfl) ?_
      refine lv_aload_n hx hb dX1_acceptsDigit_15 rfl (lv_at hl 0 rfl) ?_
      refine gg1_3 X hP kc_128 (sk_in hN kc_128 (by decide)) hi1 (List.mem_of_getElem? (i := 1) rfl) dX1_acceptsDigit_16 ?_
      refine lv_bipush (v := 10) hx hb dX1_acceptsDigit_19 (by decide) ?_
      refine lv_imul hx hb dX1_acceptsDigit_21 ?_
      refine lv_iload_n hx hb dX1_acceptsDigit_22 rfl (lv_at hl 1 rfl) ?_
      refine lv_bipush (v := 48) hx hb dX1_acceptsDigit_23 (by decide) ?_
      refine lv_isub hx hb dX1_acceptsDigit_25 ?_
      refine lv_iadd hx hb dX1_acceptsDigit_26 ?_
      refine gp1_3 X hP hS kc_128 (sk_in hN kc_128 (by decide)) hi1 (List.mem_of_getElem? (i := 1) rfl) dX1_acceptsDigit_27 (fun H locs hP hS => ?_)
      obtain ⟨I1, eI1, h⟩ := hlet_ex h
      rw [← eI1] at hP
      refine lv_aload_n hx hb dX1_acceptsDigit_30 rfl (lv_at hl 0 rfl) ?_
      refine gg1_3 X hP kc_128 (sk_in hN kc_128 (by decide)) hi1 (List.mem_of_getElem? (i := 1) rfl) dX1_acceptsDigit_31 ?_
      refine lv_if_le (tgt := 48) hx hb dX1_acceptsDigit_34 (by decide) (fun c5 => ?_) (fun c5 => ?_)
      · have h := gif_t c5 h
        refine lv_iconst (v := 0) hx hb dX1_acceptsDigit_48 (by decide) ?_
        exact W.zret (ty := .boolean) hx hb hr (by decide) (fun t9 ht hW => ⟨⟨(0 : Int32), I1, rfl, (Option.some.inj h).symm, gEnd ht hP⟩, hS.F ht⟩) hS.2.2 dX1_acceptsDigit_49 hlk
      · have h := gif_f c5 h
        refine lv_aload_n hx hb dX1_acceptsDigit_37 rfl (lv_at hl 0 rfl) ?_
        obtain ⟨q3, hcq3, h⟩ := hb_some h
        refine gdV_i (As := []) (rest := []) (BH := (fun (u : Unit) H => va_P (dC, dI) vwCl (hW N ca b I1 O J) H)) X hP hS (c_X1_canBecomeNumber hN hA I1 O J q3 hcq3) (cwV 0 X.ts gX1_acceptsDigit_X1_canBecomeNumber rfl rfl rfl (by decide +kernel) ⟨Nat.le_of_ble_eq_true rfl, Nat.le_of_ble_eq_true rfl⟩) (gr1 X hP kc_128 (sk_in hN kc_128 (by decide))) rfl hl.1 rfl (Nat.le_of_ble_eq_true rfl) dX1_acceptsDigit_38 ⟨Nat.le_of_ble_eq_true rfl, Nat.le_of_ble_eq_true rfl⟩ (fun r2 u9 H locs hw hP hS => ?_)
        have hw := hw.symm
        subst hw
        refine lv_if_eq (tgt := 48) hx hb dX1_acceptsDigit_41 (by decide) (fun c4 => ?_) (fun c4 => ?_)
        · have h := gif_t c4 h
          refine lv_iconst (v := 0) hx hb dX1_acceptsDigit_48 (by decide) ?_
          exact W.zret (ty := .boolean) hx hb hr (by decide) (fun t9 ht hW => ⟨⟨(0 : Int32), I1, rfl, (Option.some.inj h).symm, gEnd ht hP⟩, hS.F ht⟩) hS.2.2 dX1_acceptsDigit_49 hlk
        · have h := gif_f c4 h
          refine lv_iconst (v := 1) hx hb dX1_acceptsDigit_44 (by decide) ?_
          refine lv_goto (tgt := 49) hx hb dX1_acceptsDigit_45 (by decide) ?_
          exact W.zret (ty := .boolean) hx hb hr (by decide) (fun t9 ht hW => ⟨⟨(1 : Int32), I1, rfl, (Option.some.inj h).symm, gEnd ht hP⟩, hS.F ht⟩) hS.2.2 dX1_acceptsDigit_49 hlk
    · have h := gif_f c6 h
      refine lv_iconst (v := 0) hx hb dX1_acceptsDigit_12 (by decide) ?_
      exact W.zret (ty := .boolean) hx hb hr (by decide) (fun t9 ht hW => ⟨⟨(0 : Int32), I, rfl, (Option.some.inj h).symm, gEnd ht hP⟩, hS.F ht⟩) hS.2.2 dX1_acceptsDigit_13 hlk
def f_X1_accepts (a1 : Int32) (I : Nat → Nat → Int32) : Option (Int32 × (Nat → Nat → Int32)) :=
  if a1 = (59 : Int32) then
    (f_X1_isWhole I).bind fun r16 =>
    if r16 = 0 then
      some ((0 : Int32), I)
    else
      (f_X1_start I).bind fun I18 =>
      some ((1 : Int32), I18)
  else
    if (I 128 0) = 0 then
      (f_X1_acceptsKind a1 I).bind fun (r2, I1) =>
      hg (gz r2) <|
      some (r2, I1)
    else
    if (I 128 0) = 1 then
      (f_X1_acceptsTarget a1 I).bind fun (r6, I5) =>
      hg (gz r6) <|
      some (r6, I5)
    else
    if (I 128 0) = 2 then
      hlet (gup I 128 0 (3 : Int32)) fun I9 =>
      if a1 = (61 : Int32) then
        some ((1 : Int32), I9)
      else
        some ((0 : Int32), I9)
    else
    if (I 128 0) = 3 then
      (f_X1_acceptsDigit a1 I).bind fun (r13, I12) =>
      hg (gz r13) <|
      some (r13, I12)
    else
    some ((0 : Int32), I)
set_option maxHeartbeats 8000000 in
set_option maxRecDepth 100000 in
theorem c_X1_accepts {l : Launch} {dC : Nat → ClassId} {dI : Nat → Nat → Nat} {ca : Nat → ClassId} {b : Nat → Nat} {A : Nat → Prop} {N : Nat} (hN : 129 ≤ N) (hA : gAd A b N) (I : Nat → Nat → Int32) (O : Nat → Nat → Option Nat) (J : Nat → Nat → Int64) (a1 : Int32) (res : Int32 × (Nat → Nat → Int32)) (h : f_X1_accepts a1 I = some res) : Met l yX1_accepts wsX1_accepts ({ frames := 3, cells := 0, slots := 0, locals := 64 } : Room) (va_Pc [.ref (b 128), .int a1] (gPre dC dI ca b A N I O J)) (va_Qi (fun (r : Int32) (u : Nat → Nat → Int32) => res = (r, u)) (fun (u : Nat → Nat → Int32) t => va_P (dC, dI) vwCl (hW N ca b u O J) t.heap) A) 0 0 A := by
  refine Met.ofW (cc := cX1_accepts) (maxL := 2) (ret := (some .boolean)) (by decide) rfl ?_
  intro p e s m args below meth c s₁ B hml hv
  obtain ⟨rfl, hP, hK, hA2, hth⟩ := hv
  have hx := B.exec
  have hb := B.bytes
  have hr := B.returns
  have hlk := B.notSynchronized
  have X : gCx p s m ([.ref (b 128), .int a1] : List Value).toArray c RX1 cX1_accepts wsX1_accepts 2 dC dI ca b A N := ⟨hx, hb, hml, findClass_of_methodNamed B.named, atoms_spec (ws := wsX1_accepts) B.pre, hK, hA, hA2, hth⟩
  have hi1 : ∀ w ∈ wsX10, w ∈ wsX1_accepts := (fun w h => List.mem_cons_of_mem _ (List.mem_append_right _ h))
  have hS : va_S A s.heap s.heap [] := va_S.rf
  have hl := lv_entry ([.ref (b 128), .int a1] : List Value) (n := 2) (Nat.le_of_ble_eq_true rfl)
  rw [lg_entry_eq]
  generalize (lg_sl ([.ref (b 128), .int a1] : List Value) ++ List.replicate (2 - (lg_sl ([.ref (b 128), .int a1] : List Value)).length) Slot.unset).toArray = ls at hl ⊢
  have hl : lv_has ls 2 [(0, .ref (b 128)), (1, .int a1)] := hl
  unfold f_X1_accepts at h
  refine lv_iload_n hx hb dX1_accepts_0 rfl (lv_at hl 1 rfl) ?_
  refine lv_bipush (v := 59) hx hb dX1_accepts_1 (by decide) ?_
  refine lv_icmp_ne (tgt := 21) hx hb dX1_accepts_3 (by decide) (fun c21 => ?_) (fun c21 => ?_)
  · have h := gif_f c21 h
    refine lv_aload_n hx hb dX1_accepts_21 rfl (lv_at hl 0 rfl) ?_
    refine gg1_0 X hP kc_128 (sk_in hN kc_128 (by decide)) hi1 (List.mem_of_getElem? (i := 1) rfl) dX1_accepts_22 ?_
    by_cases c4 : (I 128 0) = 0
    · have h := gif_t c4 h
      refine lv_tableIn (tgt := 56) hx hb dX1_accepts_25 (by rw [c4]; decide) (by rw [c4]; decide) (by rw [c4]; rfl) (by decide) ?_
      refine lv_aload_n hx hb dX1_accepts_56 rfl (lv_at hl 0 rfl) ?_
      refine lv_iload_n hx hb dX1_accepts_57 rfl (lv_at hl 1 rfl) ?_
      obtain ⟨q3, hcq3, h⟩ := hb_some h
      refine gdV_i (As := [.int a1]) (rest := []) (BH := (fun (u : Nat → Nat → Int32) H => va_P (dC, dI) vwCl (hW N ca b u O J) H)) X hP hS (c_X1_acceptsKind hN hA I O J a1 q3 hcq3) (cwV 1 X.ts gX1_accepts_X1_acceptsKind rfl rfl rfl (by decide +kernel) ⟨Nat.le_of_ble_eq_true rfl, Nat.le_of_ble_eq_true rfl⟩) (gr1 X hP kc_128 (sk_in hN kc_128 (by decide))) rfl hl.1 rfl (Nat.le_of_ble_eq_true rfl) dX1_accepts_58 ⟨Nat.le_of_ble_eq_true rfl, Nat.le_of_ble_eq_true rfl⟩ (fun r2 I1 H locs hw hP hS => ?_)
      subst hw
      obtain ⟨hgz, h⟩ := hg_some h
      exact W.zret (ty := .boolean) hx hb hr (gz_nar hgz) (fun t9 ht hW => ⟨⟨r2, I1, rfl, (Option.some.inj h).symm, gEnd ht hP⟩, hS.F ht⟩) hS.2.2 dX1_accepts_61 hlk
    have h := gif_f c4 h
    by_cases c8 : (I 128 0) = 1
    · have h := gif_t c8 h
      refine lv_tableIn (tgt := 62) hx hb dX1_accepts_25 (by rw [c8]; decide) (by rw [c8]; decide) (by rw [c8]; rfl) (by decide) ?_
      refine lv_aload_n hx hb dX1_accepts_62 rfl (lv_at hl 0 rfl) ?_
      refine lv_iload_n hx hb dX1_accepts_63 rfl (lv_at hl 1 rfl) ?_
      obtain ⟨q7, hcq7, h⟩ := hb_some h
      refine gdV_i (As := [.int a1]) (rest := []) (BH := (fun (u : Nat → Nat → Int32) H => va_P (dC, dI) vwCl (hW N ca b u O J) H)) X hP hS (c_X1_acceptsTarget hN hA I O J a1 q7 hcq7) (cwV 1 X.ts gX1_accepts_X1_acceptsTarget rfl rfl rfl (by decide +kernel) ⟨Nat.le_of_ble_eq_true rfl, Nat.le_of_ble_eq_true rfl⟩) (gr1 X hP kc_128 (sk_in hN kc_128 (by decide))) rfl hl.1 rfl (Nat.le_of_ble_eq_true rfl) dX1_accepts_64 ⟨Nat.le_of_ble_eq_true rfl, Nat.le_of_ble_eq_true rfl⟩ (fun r6 I5 H locs hw hP hS => ?_)
      subst hw
      obtain ⟨hgz, h⟩ := hg_some h
      exact W.zret (ty := .boolean) hx hb hr (gz_nar hgz) (fun t9 ht hW => ⟨⟨r6, I5, rfl, (Option.some.inj h).symm, gEnd ht hP⟩, hS.F ht⟩) hS.2.2 dX1_accepts_67 hlk
    have h := gif_f c8 h
    by_cases c11 : (I 128 0) = 2
    · have h := gif_t c11 h
      refine lv_tableIn (tgt := 68) hx hb dX1_accepts_25 (by rw [c11]; decide) (by rw [c11]; decide) (by rw [c11]; rfl) (by decide) ?_
      refine lv_aload_n hx hb dX1_accepts_68 rfl (lv_at hl 0 rfl) ?_
      refine lv_iconst (v := 3) hx hb dX1_accepts_69 (by decide) ?_
      refine gp1_0 X hP hS kc_128 (sk_in hN kc_128 (by decide)) hi1 (List.mem_of_getElem? (i := 1) rfl) dX1_accepts_70 (fun H locs hP hS => ?_)
      obtain ⟨I9, eI9, h⟩ := hlet_ex h
      rw [← eI9] at hP
      refine lv_iload_n hx hb dX1_accepts_73 rfl (lv_at hl 1 rfl) ?_
      refine lv_bipush (v := 61) hx hb dX1_accepts_74 (by decide) ?_
      refine lv_icmp_ne (tgt := 83) hx hb dX1_accepts_76 (by decide) (fun c10 => ?_) (fun c10 => ?_)
      · have h := gif_f c10 h
        refine lv_iconst (v := 0) hx hb dX1_accepts_83 (by decide) ?_
        exact W.zret (ty := .boolean) hx hb hr (by decide) (fun t9 ht hW => ⟨⟨(0 : Int32), I9, rfl, (Option.some.inj h).symm, gEnd ht hP⟩, hS.F ht⟩) hS.2.2 dX1_accepts_84 hlk
      · have h := gif_t c10 h
        refine lv_iconst (v := 1) hx hb dX1_accepts_79 (by decide) ?_
        refine lv_goto (tgt := 84) hx hb dX1_accepts_80 (by decide) ?_
        exact W.zret (ty := .boolean) hx hb hr (by decide) (fun t9 ht hW => ⟨⟨(1 : Int32), I9, rfl, (Option.some.inj h).symm, gEnd ht hP⟩, hS.F ht⟩) hS.2.2 dX1_accepts_84 hlk
    have h := gif_f c11 h
    by_cases c15 : (I 128 0) = 3
    · have h := gif_t c15 h
      refine lv_tableIn (tgt := 85) hx hb dX1_accepts_25 (by rw [c15]; decide) (by rw [c15]; decide) (by rw [c15]; rfl) (by decide) ?_
      refine lv_aload_n hx hb dX1_accepts_85 rfl (lv_at hl 0 rfl) ?_
      refine lv_iload_n hx hb dX1_accepts_86 rfl (lv_at hl 1 rfl) ?_
      obtain ⟨q14, hcq14, h⟩ := hb_some h
      refine gdV_i (As := [.int a1]) (rest := []) (BH := (fun (u : Nat → Nat → Int32) H => va_P (dC, dI) vwCl (hW N ca b u O J) H)) X hP hS (c_X1_acceptsDigit hN hA I O J a1 q14 hcq14) (cwV 1 X.ts gX1_accepts_X1_acceptsDigit rfl rfl rfl (by decide +kernel) ⟨Nat.le_of_ble_eq_true rfl, Nat.le_of_ble_eq_true rfl⟩) (gr1 X hP kc_128 (sk_in hN kc_128 (by decide))) rfl hl.1 rfl (Nat.le_of_ble_eq_true rfl) dX1_accepts_87 ⟨Nat.le_of_ble_eq_true rfl, Nat.le_of_ble_eq_true rfl⟩ (fun r13 I12 H locs hw hP hS => ?_)
      subst hw
      obtain ⟨hgz, h⟩ := hg_some h
      exact W.zret (ty := .boolean) hx hb hr (gz_nar hgz) (fun t9 ht hW => ⟨⟨r13, I12, rfl, (Option.some.inj h).symm, gEnd ht hP⟩, hS.F ht⟩) hS.2.2 dX1_accepts_90 hlk
    have h := gif_f c15 h
    refine lv_tableOut (tgt := 91) hx hb dX1_accepts_25 (by have z0 : ¬ Int32.toInt (I 128 0) = 0 := lv_neT c4 rfl; have z1 : ¬ Int32.toInt (I 128 0) = 1 := lv_neT c8 rfl; have z2 : ¬ Int32.toInt (I 128 0) = 2 := lv_neT c11 rfl; have z3 : ¬ Int32.toInt (I 128 0) = 3 := lv_neT c15 rfl; omega) (by decide) ?_
    refine lv_iconst (v := 0) hx hb dX1_accepts_91 (by decide) ?_
    exact W.zret (ty := .boolean) hx hb hr (by decide) (fun t9 ht hW => ⟨⟨(0 : Int32), I, rfl, (Option.some.inj h).symm, gEnd ht hP⟩, hS.F ht⟩) hS.2.2 dX1_accepts_92 hlk
  · have h := gif_t c21 h
    refine lv_aload_n hx hb dX1_accepts_6 rfl (lv_at hl 0 rfl) ?_
    obtain ⟨q17, hcq17, h⟩ := hb_some h
    refine gdV_i (As := []) (rest := []) (BH := (fun (u : Unit) H => va_P (dC, dI) vwCl (hW N ca b I O J) H)) X hP hS (c_X1_isWhole hN hA I O J q17 hcq17) (cwV 0 X.ts gX1_accepts_X1_isWhole rfl rfl rfl (by decide +kernel) ⟨Nat.le_of_ble_eq_true rfl, Nat.le_of_ble_eq_true rfl⟩) (gr1 X hP kc_128 (sk_in hN kc_128 (by decide))) rfl hl.1 rfl (Nat.le_of_ble_eq_true rfl) dX1_accepts_7 ⟨Nat.le_of_ble_eq_true rfl, Nat.le_of_ble_eq_true rfl⟩ (fun r16 u9 H locs hw hP hS => ?_)
    have hw := hw.symm
    subst hw
    refine lv_if_ne (tgt := 15) hx hb dX1_accepts_10 (by decide) (fun c20 => ?_) (fun c20 => ?_)
    · have h := gif_f c20 h
      refine lv_aload_n hx hb dX1_accepts_15 rfl (lv_at hl 0 rfl) ?_
      obtain ⟨q19, hcq19, h⟩ := hb_some h
      refine gdV_v (As := []) (rest := []) (BH := (fun (u : Nat → Nat → Int32) H => va_P (dC, dI) vwCl (hW N ca b u O J) H)) X hP hS (c_X1_start hN hA I O J q19 hcq19) (cwV 0 X.ts gX1_accepts_X1_start rfl rfl rfl (by decide +kernel) ⟨Nat.le_of_ble_eq_true rfl, Nat.le_of_ble_eq_true rfl⟩) (gr1 X hP kc_128 (sk_in hN kc_128 (by decide))) rfl hl.1 rfl (Nat.le_of_ble_eq_true rfl) dX1_accepts_16 ⟨Nat.le_of_ble_eq_true rfl, Nat.le_of_ble_eq_true rfl⟩ (fun I18 H locs hw hP hS => ?_)
      have hw := hw.symm
      subst hw
      refine lv_iconst (v := 1) hx hb dX1_accepts_19 (by decide) ?_
      exact W.zret (ty := .boolean) hx hb hr (by decide) (fun t9 ht hW => ⟨⟨(1 : Int32), I18, rfl, (Option.some.inj h).symm, gEnd ht hP⟩, hS.F ht⟩) hS.2.2 dX1_accepts_20 hlk
    · have h := gif_t c20 h
      refine lv_iconst (v := 0) hx hb dX1_accepts_13 (by decide) ?_
      exact W.zret (ty := .boolean) hx hb hr (by decide) (fun t9 ht hW => ⟨⟨(0 : Int32), I, rfl, (Option.some.inj h).symm, gEnd ht hP⟩, hS.F ht⟩) hS.2.2 dX1_accepts_14 hlk
def f_X2_isFull (I : Nat → Nat → Int32) : Option (Int32) :=
  if (I 126 1) < (60 : Int32) then
    some (0 : Int32)
  else
    some (1 : Int32)
set_option maxHeartbeats 8000000 in
set_option maxRecDepth 100000 in
theorem c_X2_isFull {l : Launch} {dC : Nat → ClassId} {dI : Nat → Nat → Nat} {ca : Nat → ClassId} {b : Nat → Nat} {A : Nat → Prop} {N : Nat} (hN : 129 ≤ N) (hA : gAd A b N) (I : Nat → Nat → Int32) (O : Nat → Nat → Option Nat) (J : Nat → Nat → Int64) (res : Int32) (h : f_X2_isFull I = some res) : Met l yX2_isFull wsX2_isFull ({ frames := 0, cells := 0, slots := 0, locals := 0 } : Room) (va_Pc [.ref (b 126)] (gPre dC dI ca b A N I O J)) (va_Qi (fun (r : Int32) (u : Unit) => res = r) (fun (u : Unit) t => va_P (dC, dI) vwCl (hW N ca b I O J) t.heap) A) 0 0 A := by
  refine Met.ofW (cc := cX2_isFull) (maxL := 1) (ret := (some .boolean)) (by decide) rfl ?_
  intro p e s m args below meth c s₁ B hml hv
  obtain ⟨rfl, hP, hK, hA2, hth⟩ := hv
  have hx := B.exec
  have hb := B.bytes
  have hr := B.returns
  have hlk := B.notSynchronized
  have X : gCx p s m ([.ref (b 126)] : List Value).toArray c RX2 cX2_isFull wsX2_isFull 1 dC dI ca b A N := ⟨hx, hb, hml, findClass_of_methodNamed B.named, atoms_spec (ws := wsX2_isFull) B.pre, hK, hA, hA2, hth⟩
  have hi2 : ∀ w ∈ wsX20, w ∈ wsX2_isFull := (fun w h => List.mem_cons_of_mem _ (List.mem_append_right _ h))
  have hS : va_S A s.heap s.heap [] := va_S.rf
  have hl := lv_entry ([.ref (b 126)] : List Value) (n := 1) (Nat.le_of_ble_eq_true rfl)
  rw [lg_entry_eq]
  generalize (lg_sl ([.ref (b 126)] : List Value) ++ List.replicate (1 - (lg_sl ([.ref (b 126)] : List Value)).length) Slot.unset).toArray = ls at hl ⊢
  have hl : lv_has ls 1 [(0, .ref (b 126))] := hl
  unfold f_X2_isFull at h
  refine lv_aload_n hx hb dX2_isFull_0 rfl (lv_at hl 0 rfl) ?_
  refine gg2_1 X hP kc_126 (sk_in hN kc_126 (by decide)) hi2 (List.mem_of_getElem? (i := 1) rfl) dX2_isFull_1 ?_
  refine lv_aload_n hx hb dX2_isFull_4 rfl (lv_at hl 0 rfl) ?_
  refine gg2_0 X hP kc_126 (sk_in hN kc_126 (by decide)) hi2 (List.mem_of_getElem? (i := 2) rfl) dX2_isFull_5 ?_
  refine gl22 X hP kc_127 (sk_in hN kc_127 (by decide)) (L := 60) (by decide) (v := 60) (by decide) dX2_isFull_8 ?_
  refine lv_icmp_lt (tgt := 16) hx hb dX2_isFull_9 (by decide) (fun c1 => ?_) (fun c1 => ?_)
  · have h := gif_t c1 h
    refine lv_iconst (v := 0) hx hb dX2_isFull_16 (by decide) ?_
    exact W.zret (ty := .boolean) hx hb hr (by decide) (fun t9 ht hW => ⟨⟨(0 : Int32), (), rfl, (Option.some.inj h).symm, gEnd ht hP⟩, hS.F ht⟩) hS.2.2 dX2_isFull_17 hlk
  · have h := gif_f c1 h
    refine lv_iconst (v := 1) hx hb dX2_isFull_12 (by decide) ?_
    refine lv_goto (tgt := 17) hx hb dX2_isFull_13 (by decide) ?_
    exact W.zret (ty := .boolean) hx hb hr (by decide) (fun t9 ht hW => ⟨⟨(1 : Int32), (), rfl, (Option.some.inj h).symm, gEnd ht hP⟩, hS.F ht⟩) hS.2.2 dX2_isFull_17 hlk
def f_X2_add (a1 : Int32) (I : Nat → Nat → Int32) : Option (Nat → Nat → Int32) :=
  if (I 126 1) < 0 then
    some I
  else
    if (60 : Int32) ≤ (I 126 1) then
      some I
    else
      hg (gin (I 126 1) 60) <|
      hg (gc a1) <|
      hlet (gup I 127 ((I 126 1).toNatClampNeg) a1) fun I2 =>
      hlet (gup I2 126 1 ((I2 126 1) + (1 : Int32))) fun I3 =>
      some I3
set_option maxHeartbeats 8000000 in
set_option maxRecDepth 100000 in
theorem c_X2_add {l : Launch} {dC : Nat → ClassId} {dI : Nat → Nat → Nat} {ca : Nat → ClassId} {b : Nat → Nat} {A : Nat → Prop} {N : Nat} (hN : 129 ≤ N) (hA : gAd A b N) (I : Nat → Nat → Int32) (O : Nat → Nat → Option Nat) (J : Nat → Nat → Int64) (a1 : Int32) (res : Nat → Nat → Int32) (h : f_X2_add a1 I = some res) : Met l yX2_add wsX2_add ({ frames := 0, cells := 0, slots := 0, locals := 0 } : Room) (va_Pc [.ref (b 126), .int a1] (gPre dC dI ca b A N I O J)) (va_Qv (fun (u : Nat → Nat → Int32) => res = u) (fun (u : Nat → Nat → Int32) t => va_P (dC, dI) vwCl (hW N ca b u O J) t.heap) A) 0 0 A := by
  refine Met.ofW (cc := cX2_add) (maxL := 2) (ret := none) (by decide) rfl ?_
  intro p e s m args below meth c s₁ B hml hv
  obtain ⟨rfl, hP, hK, hA2, hth⟩ := hv
  have hx := B.exec
  have hb := B.bytes
  have hr := B.returns
  have hlk := B.notSynchronized
  have X : gCx p s m ([.ref (b 126), .int a1] : List Value).toArray c RX2 cX2_add wsX2_add 2 dC dI ca b A N := ⟨hx, hb, hml, findClass_of_methodNamed B.named, atoms_spec (ws := wsX2_add) B.pre, hK, hA, hA2, hth⟩
  have hi2 : ∀ w ∈ wsX20, w ∈ wsX2_add := (fun w h => List.mem_cons_of_mem _ (List.mem_append_right _ h))
  have hS : va_S A s.heap s.heap [] := va_S.rf
  have hl := lv_entry ([.ref (b 126), .int a1] : List Value) (n := 2) (Nat.le_of_ble_eq_true rfl)
  rw [lg_entry_eq]
  generalize (lg_sl ([.ref (b 126), .int a1] : List Value) ++ List.replicate (2 - (lg_sl ([.ref (b 126), .int a1] : List Value)).length) Slot.unset).toArray = ls at hl ⊢
  have hl : lv_has ls 2 [(0, .ref (b 126)), (1, .int a1)] := hl
  unfold f_X2_add at h
  refine lv_aload_n hx hb dX2_add_0 rfl (lv_at hl 0 rfl) ?_
  refine gg2_1 X hP kc_126 (sk_in hN kc_126 (by decide)) hi2 (List.mem_of_getElem? (i := 1) rfl) dX2_add_1 ?_
  refine lv_if_lt (tgt := 39) hx hb dX2_add_4 (by decide) (fun c5 => ?_) (fun c5 => ?_)
  · have h := gif_t c5 h
    exact W.vret hx hb hr (fun t9 ht hW => ⟨⟨I, rfl, (Option.some.inj h).symm, gEnd ht hP⟩, hS.F ht⟩) hS.2.2 dX2_add_39 hlk
  · have h := gif_f c5 h
    refine lv_aload_n hx hb dX2_add_7 rfl (lv_at hl 0 rfl) ?_
    refine gg2_1 X hP kc_126 (sk_in hN kc_126 (by decide)) hi2 (List.mem_of_getElem? (i := 1) rfl) dX2_add_8 ?_
    refine lv_aload_n hx hb dX2_add_11 rfl (lv_at hl 0 rfl) ?_
    refine gg2_0 X hP kc_126 (sk_in hN kc_126 (by decide)) hi2 (List.mem_of_getElem? (i := 2) rfl) dX2_add_12 ?_
    refine gl22 X hP kc_127 (sk_in hN kc_127 (by decide)) (L := 60) (by decide) (v := 60) (by decide) dX2_add_15 ?_
    refine lv_icmp_ge (tgt := 39) hx hb dX2_add_16 (by decide) (fun c4 => ?_) (fun c4 => ?_)
    · have h := gif_t c4 h
      exact W.vret hx hb hr (fun t9 ht hW => ⟨⟨I, rfl, (Option.some.inj h).symm, gEnd ht hP⟩, hS.F ht⟩) hS.2.2 dX2_add_39 hlk
    · have h := gif_f c4 h
      refine lv_aload_n hx hb dX2_add_19 rfl (lv_at hl 0 rfl) ?_
      refine gg2_0 X hP kc_126 (sk_in hN kc_126 (by decide)) hi2 (List.mem_of_getElem? (i := 2) rfl) dX2_add_20 ?_
      refine lv_aload_n hx hb dX2_add_23 rfl (lv_at hl 0 rfl) ?_
      refine gg2_1 X hP kc_126 (sk_in hN kc_126 (by decide)) hi2 (List.mem_of_getElem? (i := 1) rfl) dX2_add_24 ?_
      refine lv_iload_n hx hb dX2_add_27 rfl (lv_at hl 1 rfl) ?_
      obtain ⟨hgi1, h⟩ := hg_some h
      obtain ⟨hgv, h⟩ := hg_some h
      refine gs22 X hP hS kc_127 (sk_in hN kc_127 (by decide)) (L := 60) (by decide) hgi1 hgv dX2_add_28 (fun H locs hP hS => ?_)
      obtain ⟨I2, eI2, h⟩ := hlet_ex h
      rw [← eI2] at hP
      refine lv_aload_n hx hb dX2_add_29 rfl (lv_at hl 0 rfl) ?_
      refine lv_dup hx hb dX2_add_30 rfl ?_
      refine gg2_1 X hP kc_126 (sk_in hN kc_126 (by decide)) hi2 (List.mem_of_getElem? (i := 1) rfl) dX2_add_31 ?_
      refine lv_iconst (v := 1) hx hb dX2_add_34 (by decide) ?_
      refine lv_iadd hx hb dX2_add_35 ?_
      refine gp2_1 X hP hS kc_126 (sk_in hN kc_126 (by decide)) hi2 (List.mem_of_getElem? (i := 1) rfl) dX2_add_36 (fun H locs hP hS => ?_)
      obtain ⟨I3, eI3, h⟩ := hlet_ex h
      rw [← eI3] at hP
      exact W.vret hx hb hr (fun t9 ht hW => ⟨⟨I3, rfl, (Option.some.inj h).symm, gEnd ht hP⟩, hS.F ht⟩) hS.2.2 dX2_add_39 hlk
def f_X2_at (a1 : Int32) (I : Nat → Nat → Int32) : Option (Int32) :=
  if a1 < 0 then
    some (32 : Int32)
  else
    if (60 : Int32) ≤ a1 then
      some (32 : Int32)
    else
      hg (gin a1 60) <|
      hg (gc (I 127 (a1.toNatClampNeg))) <|
      some (I 127 (a1.toNatClampNeg))
set_option maxHeartbeats 8000000 in
set_option maxRecDepth 100000 in
theorem c_X2_at {l : Launch} {dC : Nat → ClassId} {dI : Nat → Nat → Nat} {ca : Nat → ClassId} {b : Nat → Nat} {A : Nat → Prop} {N : Nat} (hN : 129 ≤ N) (hA : gAd A b N) (I : Nat → Nat → Int32) (O : Nat → Nat → Option Nat) (J : Nat → Nat → Int64) (a1 : Int32) (res : Int32) (h : f_X2_at a1 I = some res) : Met l yX2_at wsX2_at ({ frames := 0, cells := 0, slots := 0, locals := 0 } : Room) (va_Pc [.ref (b 126), .int a1] (gPre dC dI ca b A N I O J)) (va_Qi (fun (r : Int32) (u : Unit) => res = r) (fun (u : Unit) t => va_P (dC, dI) vwCl (hW N ca b I O J) t.heap) A) 0 0 A := by
  refine Met.ofW (cc := cX2_at) (maxL := 2) (ret := (some .char)) (by decide) rfl ?_
  intro p e s m args below meth c s₁ B hml hv
  obtain ⟨rfl, hP, hK, hA2, hth⟩ := hv
  have hx := B.exec
  have hb := B.bytes
  have hr := B.returns
  have hlk := B.notSynchronized
  have X : gCx p s m ([.ref (b 126), .int a1] : List Value).toArray c RX2 cX2_at wsX2_at 2 dC dI ca b A N := ⟨hx, hb, hml, findClass_of_methodNamed B.named, atoms_spec (ws := wsX2_at) B.pre, hK, hA, hA2, hth⟩
  have hi2 : ∀ w ∈ wsX20, w ∈ wsX2_at := (fun w h => List.mem_cons_of_mem _ (List.mem_append_right _ h))
  have hS : va_S A s.heap s.heap [] := va_S.rf
  have hl := lv_entry ([.ref (b 126), .int a1] : List Value) (n := 2) (Nat.le_of_ble_eq_true rfl)
  rw [lg_entry_eq]
  generalize (lg_sl ([.ref (b 126), .int a1] : List Value) ++ List.replicate (2 - (lg_sl ([.ref (b 126), .int a1] : List Value)).length) Slot.unset).toArray = ls at hl ⊢
  have hl : lv_has ls 2 [(0, .ref (b 126)), (1, .int a1)] := hl
  unfold f_X2_at at h
  refine lv_iload_n hx hb dX2_at_0 rfl (lv_at hl 1 rfl) ?_
  refine lv_if_lt (tgt := 22) hx hb dX2_at_1 (by decide) (fun c3 => ?_) (fun c3 => ?_)
  · have h := gif_t c3 h
    refine lv_bipush (v := 32) hx hb dX2_at_22 (by decide) ?_
    exact W.zret (ty := .char) hx hb hr (by decide) (fun t9 ht hW => ⟨⟨(32 : Int32), (), rfl, (Option.some.inj h).symm, gEnd ht hP⟩, hS.F ht⟩) hS.2.2 dX2_at_24 hlk
  · have h := gif_f c3 h
    refine lv_iload_n hx hb dX2_at_4 rfl (lv_at hl 1 rfl) ?_
    refine lv_aload_n hx hb dX2_at_5 rfl (lv_at hl 0 rfl) ?_
    refine gg2_0 X hP kc_126 (sk_in hN kc_126 (by decide)) hi2 (List.mem_of_getElem? (i := 1) rfl) dX2_at_6 ?_
    refine gl22 X hP kc_127 (sk_in hN kc_127 (by decide)) (L := 60) (by decide) (v := 60) (by decide) dX2_at_9 ?_
    refine lv_icmp_ge (tgt := 22) hx hb dX2_at_10 (by decide) (fun c2 => ?_) (fun c2 => ?_)
    · have h := gif_t c2 h
      refine lv_bipush (v := 32) hx hb dX2_at_22 (by decide) ?_
      exact W.zret (ty := .char) hx hb hr (by decide) (fun t9 ht hW => ⟨⟨(32 : Int32), (), rfl, (Option.some.inj h).symm, gEnd ht hP⟩, hS.F ht⟩) hS.2.2 dX2_at_24 hlk
    · have h := gif_f c2 h
      refine lv_aload_n hx hb dX2_at_13 rfl (lv_at hl 0 rfl) ?_
      refine gg2_0 X hP kc_126 (sk_in hN kc_126 (by decide)) hi2 (List.mem_of_getElem? (i := 1) rfl) dX2_at_14 ?_
      refine lv_iload_n hx hb dX2_at_17 rfl (lv_at hl 1 rfl) ?_
      obtain ⟨hgi1, h⟩ := hg_some h
      refine ga22 X hP kc_127 (sk_in hN kc_127 (by decide)) (L := 60) (by decide) hgi1 dX2_at_18 ?_
      refine lv_goto (tgt := 24) hx hb dX2_at_19 (by decide) ?_
      obtain ⟨hgz, h⟩ := hg_some h
      exact W.zret (ty := .char) hx hb hr (gc_nar hgz) (fun t9 ht hW => ⟨⟨(I 127 (a1.toNatClampNeg)), (), rfl, (Option.some.inj h).symm, gEnd ht hP⟩, hS.F ht⟩) hS.2.2 dX2_at_24 hlk
