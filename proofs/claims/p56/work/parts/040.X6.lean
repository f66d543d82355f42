def f_X6_takeFrom (t0 : Nat) (a1 : Nat) (I : Nat → Nat → Int32) : Option (Nat → Nat → Int32) :=
  hlet (gup I t0 1 (I a1 1)) fun I1 =>
  hlet (gup I1 t0 2 (I1 a1 2)) fun I2 =>
  hlet (gup I2 t0 3 (I2 a1 3)) fun I3 =>
  hlet (gup I3 t0 4 (I3 a1 4)) fun I4 =>
  hlet (gup I4 t0 5 (I4 a1 5)) fun I5 =>
  hlet (gup I5 t0 6 (I5 a1 6)) fun I6 =>
  hlet (gup I6 t0 7 (I6 a1 7)) fun I7 =>
  hlet (gup I7 t0 8 (I7 a1 8)) fun I8 =>
  hlet (gup I8 t0 9 (I8 a1 9)) fun I9 =>
  hlet (gup I9 t0 10 (I9 a1 10)) fun I10 =>
  hg (gz (I10 a1 11)) <|
  hlet (gup I10 t0 11 (I10 a1 11)) fun I11 =>
  hlet (gup I11 t0 12 (I11 a1 12)) fun I12 =>
  hlet (gup I12 t0 13 (I12 a1 13)) fun I13 =>
  hlet (gup I13 t0 14 (I13 a1 14)) fun I14 =>
  some I14
set_option maxHeartbeats 8000000 in
set_option maxRecDepth 100000 in
theorem c_X6_takeFrom {l : Launch} {dC : Nat → ClassId} {dI : Nat → Nat → Nat} {ca : Nat → ClassId} {b : Nat → Nat} {A : Nat → Prop} {N : Nat} (hN : 129 ≤ N) (hA : gAd A b N) (I : Nat → Nat → Int32) (O : Nat → Nat → Option Nat) (J : Nat → Nat → Int64) (t0 : Nat) (a1 : Nat) (hk_t0 : SHK t0 = 6) (hk_a1 : SHK a1 = 6) (res : Nat → Nat → Int32) (h : f_X6_takeFrom t0 a1 I = some res) : Met l yX6_takeFrom wsX6_takeFrom ({ frames := 0, cells := 0, slots := 0, locals := 0 } : Room) (va_Pc [.ref (b t0), .ref (b a1)] (gPre dC dI ca b A N I O J)) (va_Qv (fun (u : Nat → Nat → Int32) => res = u) (fun (u : Nat → Nat → Int32) t => va_P (dC, dI) vwCl (hW N ca b u O J) t.heap) A) 0 0 A := by
  refine Met.ofW (cc := cX6_takeFrom) (maxL := 2) (ret := none) (by decide) rfl ?_
  intro p e s m args below meth c s₁ B hml hv
  obtain ⟨rfl, hP, hK, hA2, hth⟩ := hv
  have hx := B.exec
  have hb := B.bytes
  have hr := B.returns
  have hlk := B.notSynchronized
  have X : gCx p s m ([.ref (b t0), .ref (b a1)] : List Value).toArray c RX6 cX6_takeFrom wsX6_takeFrom 2 dC dI ca b A N := ⟨hx, hb, hml, findClass_of_methodNamed B.named, atoms_spec (ws := wsX6_takeFrom) B.pre, hK, hA, hA2, hth⟩
  have hi6 : ∀ w ∈ wsX60, w ∈ wsX6_takeFrom := (fun w h => List.mem_cons_of_mem _ (List.mem_append_right _ h))
  have hS : va_S A s.heap s.heap [] := va_S.rf
  have hl := lv_entry ([.ref (b t0), .ref (b a1)] : List Value) (n := 2) (Nat.le_of_ble_eq_true rfl)
  rw [lg_entry_eq]
  generalize (lg_sl ([.ref (b t0), .ref (b a1)] : List Value) ++ List.replicate (2 - (lg_sl ([.ref (b t0), .ref (b a1)] : List Value)).length) Slot.unset).toArray = ls at hl ⊢
  have hl : lv_has ls 2 [(0, .ref (b t0)), (1, .ref (b a1))] := hl
  unfold f_X6_takeFrom at h
  refine lv_aload_n hx hb dX6_takeFrom_0 rfl (lv_at hl 0 rfl) ?_
  refine lv_aload_n hx hb dX6_takeFrom_1 rfl (lv_at hl 1 rfl) ?_
  refine gg6_1 X hP hk_a1 (sk_in hN hk_a1 (by decide)) hi6 (List.mem_of_getElem? (i := 1) rfl) dX6_takeFrom_2 ?_
  refine gp6_1 X hP hS hk_t0 (sk_in hN hk_t0 (by decide)) hi6 (List.mem_of_getElem? (i := 1) rfl) dX6_takeFrom_5 (fun H locs hP hS => ?_)
  obtain ⟨I1, eI1, h⟩ := hlet_ex h
  rw [← eI1] at hP
  refine lv_aload_n hx hb dX6_takeFrom_8 rfl (lv_at hl 0 rfl) ?_
  refine lv_aload_n hx hb dX6_takeFrom_9 rfl (lv_at hl 1 rfl) ?_
  refine gg6_2 X hP hk_a1 (sk_in hN hk_a1 (by decide)) hi6 (List.mem_of_getElem? (i := 2) rfl) dX6_takeFrom_10 ?_
  refine gp6_2 X hP hS hk_t0 (sk_in hN hk_t0 (by decide)) hi6 (List.mem_of_getElem? (i := 2) rfl) dX6_takeFrom_13 (fun H locs hP hS => ?_)
  obtain ⟨I2, eI2, h⟩ := hlet_ex h
  rw [← eI2] at hP
  refine lv_aload_n hx hb dX6_takeFrom_16 rfl (lv_at hl 0 rfl) ?_
  refine lv_aload_n hx hb dX6_takeFrom_17 rfl (lv_at hl 1 rfl) ?_
  refine gg6_3 X hP hk_a1 (sk_in hN hk_a1 (by decide)) hi6 (List.mem_of_getElem? (i := 3) rfl) dX6_takeFrom_18 ?_
  refine gp6_3 X hP hS hk_t0 (sk_in hN hk_t0 (by decide)) hi6 (List.mem_of_getElem? (i := 3) rfl) dX6_takeFrom_21 (fun H locs hP hS => ?_)
  obtain ⟨I3, eI3, h⟩ := hlet_ex h
  rw [← eI3] at hP
  refine lv_aload_n hx hb dX6_takeFrom_24 rfl (lv_at hl 0 rfl) ?_
  refine lv_aload_n hx hb dX6_takeFrom_25 rfl (lv_at hl 1 rfl) ?_
  refine gg6_4 X hP hk_a1 (sk_in hN hk_a1 (by decide)) hi6 (List.mem_of_getElem? (i := 4) rfl) dX6_takeFrom_26 ?_
  refine gp6_4 X hP hS hk_t0 (sk_in hN hk_t0 (by decide)) hi6 (List.mem_of_getElem? (i := 4) rfl) dX6_takeFrom_29 (fun H locs hP hS => ?_)
  obtain ⟨I4, eI4, h⟩ := hlet_ex h
  rw [← eI4] at hP
  refine lv_aload_n hx hb dX6_takeFrom_32 rfl (lv_at hl 0 rfl) ?_
  refine lv_aload_n hx hb dX6_takeFrom_33 rfl (lv_at hl 1 rfl) ?_
  refine gg6_5 X hP hk_a1 (sk_in hN hk_a1 (by decide)) hi6 (List.mem_of_getElem? (i := 5) rfl) dX6_takeFrom_34 ?_
  refine gp6_5 X hP hS hk_t0 (sk_in hN hk_t0 (by decide)) hi6 (List.mem_of_getElem? (i := 5) rfl) dX6_takeFrom_37 (fun H locs hP hS => ?_)
  obtain ⟨I5, eI5, h⟩ := hlet_ex h
  rw [← eI5] at hP
  refine lv_aload_n hx hb dX6_takeFrom_40 rfl (lv_at hl 0 rfl) ?_
  refine lv_aload_n hx hb dX6_takeFrom_41 rfl (lv_at hl 1 rfl) ?_
  refine gg6_6 X hP hk_a1 (sk_in hN hk_a1 (by decide)) hi6 (List.mem_of_getElem? (i := 6) rfl) dX6_takeFrom_42 ?_
  refine gp6_6 X hP hS hk_t0 (sk_in hN hk_t0 (by decide)) hi6 (List.mem_of_getElem? (i := 6) rfl) dX6_takeFrom_45 (fun H locs hP hS => ?_)
  obtain ⟨I6, eI6, h⟩ := hlet_ex h
  rw [← eI6] at hP
  refine lv_aload_n hx hb dX6_takeFrom_48 rfl (lv_at hl 0 rfl) ?_
  refine lv_aload_n hx hb dX6_takeFrom_49 rfl (lv_at hl 1 rfl) ?_
  refine gg6_7 X hP hk_a1 (sk_in hN hk_a1 (by decide)) hi6 (List.mem_of_getElem? (i := 7) rfl) dX6_takeFrom_50 ?_
  refine gp6_7 X hP hS hk_t0 (sk_in hN hk_t0 (by decide)) hi6 (List.mem_of_getElem? (i := 7) rfl) dX6_takeFrom_53 (fun H locs hP hS => ?_)
  obtain ⟨I7, eI7, h⟩ := hlet_ex h
  rw [← eI7] at hP
  refine lv_aload_n hx hb dX6_takeFrom_56 rfl (lv_at hl 0 rfl) ?_
  refine lv_aload_n hx hb dX6_takeFrom_57 rfl (lv_at hl 1 rfl) ?_
  refine gg6_8 X hP hk_a1 (sk_in hN hk_a1 (by decide)) hi6 (List.mem_of_getElem? (i := 8) rfl) dX6_takeFrom_58 ?_
  refine gp6_8 X hP hS hk_t0 (sk_in hN hk_t0 (by decide)) hi6 (List.mem_of_getElem? (i := 8) rfl) dX6_takeFrom_61 (fun H locs hP hS => ?_)
  obtain ⟨I8, eI8, h⟩ := hlet_ex h
  rw [← eI8] at hP
  refine lv_aload_n hx hb dX6_takeFrom_64 rfl (lv_at hl 0 rfl) ?_
  refine lv_aload_n hx hb dX6_takeFrom_65 rfl (lv_at hl 1 rfl) ?_
  refine gg6_9 X hP hk_a1 (sk_in hN hk_a1 (by decide)) hi6 (List.mem_of_getElem? (i := 9) rfl) dX6_takeFrom_66 ?_
  refine gp6_9 X hP hS hk_t0 (sk_in hN hk_t0 (by decide)) hi6 (List.mem_of_getElem? (i := 9) rfl) dX6_takeFrom_69 (fun H locs hP hS => ?_)
  obtain ⟨I9, eI9, h⟩ := hlet_ex h
  rw [← eI9] at hP
  refine lv_aload_n hx hb dX6_takeFrom_72 rfl (lv_at hl 0 rfl) ?_
  refine lv_aload_n hx hb dX6_takeFrom_73 rfl (lv_at hl 1 rfl) ?_
  refine gg6_10 X hP hk_a1 (sk_in hN hk_a1 (by decide)) hi6 (List.mem_of_getElem? (i := 10) rfl) dX6_takeFrom_74 ?_
  refine gp6_10 X hP hS hk_t0 (sk_in hN hk_t0 (by decide)) hi6 (List.mem_of_getElem? (i := 10) rfl) dX6_takeFrom_77 (fun H locs hP hS => ?_)
  obtain ⟨I10, eI10, h⟩ := hlet_ex h
  rw [← eI10] at hP
  refine lv_aload_n hx hb dX6_takeFrom_80 rfl (lv_at hl 0 rfl) ?_
  refine lv_aload_n hx hb dX6_takeFrom_81 rfl (lv_at hl 1 rfl) ?_
  refine gg6_11 X hP hk_a1 (sk_in hN hk_a1 (by decide)) hi6 (List.mem_of_getElem? (i := 11) rfl) dX6_takeFrom_82 ?_
  obtain ⟨hgv, h⟩ := hg_some h
  refine gp6_11 X hP hS hk_t0 (sk_in hN hk_t0 (by decide)) hi6 (List.mem_of_getElem? (i := 11) rfl) hgv dX6_takeFrom_85 (fun H locs hP hS => ?_)
  obtain ⟨I11, eI11, h⟩ := hlet_ex h
  rw [← eI11] at hP
  refine lv_aload_n hx hb dX6_takeFrom_88 rfl (lv_at hl 0 rfl) ?_
  refine lv_aload_n hx hb dX6_takeFrom_89 rfl (lv_at hl 1 rfl) ?_
  refine gg6_12 X hP hk_a1 (sk_in hN hk_a1 (by decide)) hi6 (List.mem_of_getElem? (i := 12) rfl) dX6_takeFrom_90 ?_
  refine gp6_12 X hP hS hk_t0 (sk_in hN hk_t0 (by decide)) hi6 (List.mem_of_getElem? (i := 12) rfl) dX6_takeFrom_93 (fun H locs hP hS => ?_)
  obtain ⟨I12, eI12, h⟩ := hlet_ex h
  rw [← eI12] at hP
  refine lv_aload_n hx hb dX6_takeFrom_96 rfl (lv_at hl 0 rfl) ?_
  refine lv_aload_n hx hb dX6_takeFrom_97 rfl (lv_at hl 1 rfl) ?_
  refine gg6_13 X hP hk_a1 (sk_in hN hk_a1 (by decide)) hi6 (List.mem_of_getElem? (i := 13) rfl) dX6_takeFrom_98 ?_
  refine gp6_13 X hP hS hk_t0 (sk_in hN hk_t0 (by decide)) hi6 (List.mem_of_getElem? (i := 13) rfl) dX6_takeFrom_101 (fun H locs hP hS => ?_)
  obtain ⟨I13, eI13, h⟩ := hlet_ex h
  rw [← eI13] at hP
  refine lv_aload_n hx hb dX6_takeFrom_104 rfl (lv_at hl 0 rfl) ?_
  refine lv_aload_n hx hb dX6_takeFrom_105 rfl (lv_at hl 1 rfl) ?_
  refine gg6_14 X hP hk_a1 (sk_in hN hk_a1 (by decide)) hi6 (List.mem_of_getElem? (i := 14) rfl) dX6_takeFrom_106 ?_
  refine gp6_14 X hP hS hk_t0 (sk_in hN hk_t0 (by decide)) hi6 (List.mem_of_getElem? (i := 14) rfl) dX6_takeFrom_109 (fun H locs hP hS => ?_)
  obtain ⟨I14, eI14, h⟩ := hlet_ex h
  rw [← eI14] at hP
  exact W.vret hx hb hr (fun t9 ht hW => ⟨⟨I14, rfl, (Option.some.inj h).symm, gEnd ht hP⟩, hS.F ht⟩) hS.2.2 dX6_takeFrom_112 hlk
def f_X6_goToStart (t0 : Nat) (a1 : Int32) (I : Nat → Nat → Int32) : Option (Nat → Nat → Int32) :=
  hlet (gup I t0 4 (0 : Int32)) fun I1 =>
  hlet (gup I1 t0 5 (0 : Int32)) fun I2 =>
  hlet (gup I2 t0 6 (I2 t0 2)) fun I3 =>
  hlet (gup I3 t0 7 (0 : Int32)) fun I4 =>
  hlet (gup I4 t0 8 (I4 t0 3)) fun I5 =>
  hlet (gup I5 t0 9 a1) fun I6 =>
  hlet (gup I6 t0 10 (0 : Int32)) fun I7 =>
  hlet (gup I7 t0 11 (0 : Int32)) fun I8 =>
  hlet (gup I8 t0 13 (0 : Int32)) fun I9 =>
  hlet (gup I9 t0 14 (0 : Int32)) fun I10 =>
  some I10
set_option maxHeartbeats 8000000 in
set_option maxRecDepth 100000 in
theorem c_X6_goToStart {l : Launch} {dC : Nat → ClassId} {dI : Nat → Nat → Nat} {ca : Nat → ClassId} {b : Nat → Nat} {A : Nat → Prop} {N : Nat} (hN : 129 ≤ N) (hA : gAd A b N) (I : Nat → Nat → Int32) (O : Nat → Nat → Option Nat) (J : Nat → Nat → Int64) (t0 : Nat) (a1 : Int32) (hk_t0 : SHK t0 = 6) (res : Nat → Nat → Int32) (h : f_X6_goToStart t0 a1 I = some res) : Met l yX6_goToStart wsX6_goToStart ({ frames := 0, cells := 0, slots := 0, locals := 0 } : Room) (va_Pc [.ref (b t0), .int a1] (gPre dC dI ca b A N I O J)) (va_Qv (fun (u : Nat → Nat → Int32) => res = u) (fun (u : Nat → Nat → Int32) t => va_P (dC, dI) vwCl (hW N ca b u O J) t.heap) A) 0 0 A := by
  refine Met.ofW (cc := cX6_goToStart) (maxL := 2) (ret := none) (by decide) rfl ?_
  intro p e s m args below meth c s₁ B hml hv
  obtain ⟨rfl, hP, hK, hA2, hth⟩ := hv
  have hx := B.exec
  have hb := B.bytes
  have hr := B.returns
  have hlk := B.notSynchronized
  have X : gCx p s m ([.ref (b t0), .int a1] : List Value).toArray c RX6 cX6_goToStart wsX6_goToStart 2 dC dI ca b A N := ⟨hx, hb, hml, findClass_of_methodNamed B.named, atoms_spec (ws := wsX6_goToStart) B.pre, hK, hA, hA2, hth⟩
  have hi6 : ∀ w ∈ wsX60, w ∈ wsX6_goToStart := (fun w h => List.mem_cons_of_mem _ (List.mem_append_right _ h))
  have hS : va_S A s.heap s.heap [] := va_S.rf
  have hl := lv_entry ([.ref (b t0), .int a1] : List Value) (n := 2) (Nat.le_of_ble_eq_true rfl)
  rw [lg_entry_eq]
  generalize (lg_sl ([.ref (b t0), .int a1] : List Value) ++ List.replicate (2 - (lg_sl ([.ref (b t0), .int a1] : List Value)).length) Slot.unset).toArray = ls at hl ⊢
  have hl : lv_has ls 2 [(0, .ref (b t0)), (1, .int a1)] := hl
  unfold f_X6_goToStart at h
  refine lv_aload_n hx hb dX6_goToStart_0 rfl (lv_at hl 0 rfl) ?_
  refine lv_iconst (v := 0) hx hb dX6_goToStart_1 (by decide) ?_
  refine gp6_4 X hP hS hk_t0 (sk_in hN hk_t0 (by decide)) hi6 (List.mem_of_getElem? (i := 1) rfl) dX6_goToStart_2 (fun H locs hP hS => ?_)
  obtain ⟨I1, eI1, h⟩ := hlet_ex h
  rw [← eI1] at hP
  refine lv_aload_n hx hb dX6_goToStart_5 rfl (lv_at hl 0 rfl) ?_
  refine lv_iconst (v := 0) hx hb dX6_goToStart_6 (by decide) ?_
  refine gp6_5 X hP hS hk_t0 (sk_in hN hk_t0 (by decide)) hi6 (List.mem_of_getElem? (i := 2) rfl) dX6_goToStart_7 (fun H locs hP hS => ?_)
  obtain ⟨I2, eI2, h⟩ := hlet_ex h
  rw [← eI2] at hP
  refine lv_aload_n hx hb dX6_goToStart_10 rfl (lv_at hl 0 rfl) ?_
  refine lv_aload_n hx hb dX6_goToStart_11 rfl (lv_at hl 0 rfl) ?_
  refine gg6_2 X hP hk_t0 (sk_in hN hk_t0 (by decide)) hi6 (List.mem_of_getElem? (i := 3) rfl) dX6_goToStart_12 ?_
  refine gp6_6 X hP hS hk_t0 (sk_in hN hk_t0 (by decide)) hi6 (List.mem_of_getElem? (i := 4) rfl) dX6_goToStart_15 (fun H locs hP hS => ?_)
  obtain ⟨I3, eI3, h⟩ := hlet_ex h
  rw [← eI3] at hP
  refine lv_aload_n hx hb dX6_goToStart_18 rfl (lv_at hl 0 rfl) ?_
  refine lv_iconst (v := 0) hx hb dX6_goToStart_19 (by decide) ?_
  refine gp6_7 X hP hS hk_t0 (sk_in hN hk_t0 (by decide)) hi6 (List.mem_of_getElem? (i := 5) rfl) dX6_goToStart_20 (fun H locs hP hS => ?_)
  obtain ⟨I4, eI4, h⟩ := hlet_ex h
  rw [← eI4] at hP
  refine lv_aload_n hx hb dX6_goToStart_23 rfl (lv_at hl 0 rfl) ?_
  refine lv_aload_n hx hb dX6_goToStart_24 rfl (lv_at hl 0 rfl) ?_
  refine gg6_3 X hP hk_t0 (sk_in hN hk_t0 (by decide)) hi6 (List.mem_of_getElem? (i := 6) rfl) dX6_goToStart_25 ?_
  refine gp6_8 X hP hS hk_t0 (sk_in hN hk_t0 (by decide)) hi6 (List.mem_of_getElem? (i := 7) rfl) dX6_goToStart_28 (fun H locs hP hS => ?_)
  obtain ⟨I5, eI5, h⟩ := hlet_ex h
  rw [← eI5] at hP
  refine lv_aload_n hx hb dX6_goToStart_31 rfl (lv_at hl 0 rfl) ?_
  refine lv_iload_n hx hb dX6_goToStart_32 rfl (lv_at hl 1 rfl) ?_
  refine gp6_9 X hP hS hk_t0 (sk_in hN hk_t0 (by decide)) hi6 (List.mem_of_getElem? (i := 8) rfl) dX6_goToStart_33 (fun H locs hP hS => ?_)
  obtain ⟨I6, eI6, h⟩ := hlet_ex h
  rw [← eI6] at hP
  refine lv_aload_n hx hb dX6_goToStart_36 rfl (lv_at hl 0 rfl) ?_
  refine lv_iconst (v := 0) hx hb dX6_goToStart_37 (by decide) ?_
  refine gp6_10 X hP hS hk_t0 (sk_in hN hk_t0 (by decide)) hi6 (List.mem_of_getElem? (i := 9) rfl) dX6_goToStart_38 (fun H locs hP hS => ?_)
  obtain ⟨I7, eI7, h⟩ := hlet_ex h
  rw [← eI7] at hP
  refine lv_aload_n hx hb dX6_goToStart_41 rfl (lv_at hl 0 rfl) ?_
  refine lv_iconst (v := 0) hx hb dX6_goToStart_42 (by decide) ?_
  refine gp6_11 X hP hS hk_t0 (sk_in hN hk_t0 (by decide)) hi6 (List.mem_of_getElem? (i := 10) rfl) (by decide) dX6_goToStart_43 (fun H locs hP hS => ?_)
  obtain ⟨I8, eI8, h⟩ := hlet_ex h
  rw [← eI8] at hP
  refine lv_aload_n hx hb dX6_goToStart_46 rfl (lv_at hl 0 rfl) ?_
  refine lv_iconst (v := 0) hx hb dX6_goToStart_47 (by decide) ?_
  refine gp6_13 X hP hS hk_t0 (sk_in hN hk_t0 (by decide)) hi6 (List.mem_of_getElem? (i := 11) rfl) dX6_goToStart_48 (fun H locs hP hS => ?_)
  obtain ⟨I9, eI9, h⟩ := hlet_ex h
  rw [← eI9] at hP
  refine lv_aload_n hx hb dX6_goToStart_51 rfl (lv_at hl 0 rfl) ?_
  refine lv_iconst (v := 0) hx hb dX6_goToStart_52 (by decide) ?_
  refine gp6_14 X hP hS hk_t0 (sk_in hN hk_t0 (by decide)) hi6 (List.mem_of_getElem? (i := 12) rfl) dX6_goToStart_53 (fun H locs hP hS => ?_)
  obtain ⟨I10, eI10, h⟩ := hlet_ex h
  rw [← eI10] at hP
  exact W.vret hx hb hr (fun t9 ht hW => ⟨⟨I10, rfl, (Option.some.inj h).symm, gEnd ht hP⟩, hS.F ht⟩) hS.2.2 dX6_goToStart_56 hlk
def f_X6_isAheadOf (t0 : Nat) (a1 : Nat) (I : Nat → Nat → Int32) : Option (Int32) :=
  (show Option (Int32) from
    if (I t0 9) = (3 : Int32) then
      some (1 : Int32)
    else
      some (0 : Int32)).bind fun p1 =>
  (show Option (Int32) from
    if (I a1 9) = (3 : Int32) then
      some (1 : Int32)
    else
      some (0 : Int32)).bind fun p2 =>
  hlet (fun (_ : Unit) => show Option (Int32) from
    if p1 = 0 then
      if p2 = 0 then
        if (I a1 4) < (I t0 4) then
          some (1 : Int32)
        else
          if (I t0 4) = (I a1 4) then
            if (I a1 0) ≤ (I t0 0) then
              some (0 : Int32)
            else
              some (1 : Int32)
          else
            some (0 : Int32)
      else
        hg (gz p1) <|
        some p1
    else
      hg (gz p1) <|
      some p1) fun j3 =>
  if p1 = 0 then
    j3 ()
  else
    if p2 = 0 then
      j3 ()
    else
      if (I a1 13) ≤ (I t0 13) then
        some (0 : Int32)
      else
        some (1 : Int32)
set_option maxHeartbeats 8000000 in
set_option maxRecDepth 100000 in
theorem c_X6_isAheadOf {l : Launch} {dC : Nat → ClassId} {dI : Nat → Nat → Nat} {ca : Nat → ClassId} {b : Nat → Nat} {A : Nat → Prop} {N : Nat} (hN : 129 ≤ N) (hA : gAd A b N) (I : Nat → Nat → Int32) (O : Nat → Nat → Option Nat) (J : Nat → Nat → Int64) (t0 : Nat) (a1 : Nat) (hk_t0 : SHK t0 = 6) (hk_a1 : SHK a1 = 6) (res : Int32) (h : f_X6_isAheadOf t0 a1 I = some res) : Met l yX6_isAheadOf wsX6_isAheadOf ({ frames := 0, cells := 0, slots := 0, locals := 0 } : Room) (va_Pc [.ref (b t0), .ref (b a1)] (gPre dC dI ca b A N I O J)) (va_Qi (fun (r : Int32) (u : Unit) => res = r) (fun (u : Unit) t => va_P (dC, dI) vwCl (hW N ca b I O J) t.heap) A) 0 0 A := by
  refine Met.ofW (cc := cX6_isAheadOf) (maxL := 4) (ret := (some .boolean)) (by decide) rfl ?_
  intro p e s m args below meth c s₁ B hml hv
  obtain ⟨rfl, hP, hK, hA2, hth⟩ := hv
  have hx := B.exec
  have hb := B.bytes
  have hr := B.returns
  have hlk := B.notSynchronized
  have X : gCx p s m ([.ref (b t0), .ref (b a1)] : List Value).toArray c RX6 cX6_isAheadOf wsX6_isAheadOf 4 dC dI ca b A N := ⟨hx, hb, hml, findClass_of_methodNamed B.named, atoms_spec (ws := wsX6_isAheadOf) B.pre, hK, hA, hA2, hth⟩
  have hi6 : ∀ w ∈ wsX60, w ∈ wsX6_isAheadOf := (fun w h => List.mem_cons_of_mem _ (List.mem_append_right _ h))
  have hS : va_S A s.heap s.heap [] := va_S.rf
  have hl := lv_entry ([.ref (b t0), .ref (b a1)] : List Value) (n := 4) (Nat.le_of_ble_eq_true rfl)
  rw [lg_entry_eq]
  generalize (lg_sl ([.ref (b t0), .ref (b a1)] : List Value) ++ List.replicate (4 - (lg_sl ([.ref (b t0), .ref (b a1)] : List Value)).length) Slot.unset).toArray = ls at hl ⊢
  have hl : lv_has ls 4 [(0, .ref (b t0)), (1, .ref (b a1))] := hl
  unfold f_X6_isAheadOf at h
  refine lv_aload_n hx hb dX6_isAheadOf_0 rfl (lv_at hl 0 rfl) ?_
  refine gg6_9 X hP hk_t0 (sk_in hN hk_t0 (by decide)) hi6 (List.mem_of_getElem? (i := 1) rfl) dX6_isAheadOf_1 ?_
  refine lv_iconst (v := 3) hx hb dX6_isAheadOf_4 (by decide) ?_
  obtain ⟨p1, hv, h⟩ := hb_some h
  have K13 : ∀ (H : Heap) (locs : List Loc) (ls : Array Slot), va_P (dC, dI) vwCl (hW N ca b I O J) H → va_S A s.heap H locs → lv_has ls 4 [(0, .ref (b t0)), (1, .ref (b a1))] → W p l e (headSpec wsX6_isAheadOf ({ frames := 0, cells := 0, slots := 0, locals := 0 } : Room)).room s m ([.ref (b t0), .ref (b a1)] : List Value).toArray below meth c H locs 0 0 (MQ below (va_Qi (fun (r : Int32) (u : Unit) => res = r) (fun (u : Unit) t => va_P (dC, dI) vwCl (hW N ca b I O J) t.heap) A) ([.ref (b t0), .ref (b a1)] : List Value).toArray s 0 0 A) (F0 m 13 ls [.int p1]) := by
    intro H locs ls hP hS hl
    refine lv_istore_n (lv' := [(2, .int p1), (0, .ref (b t0)), (1, .ref (b a1))]) hx hb dX6_isAheadOf_13 rfl hl (by decide) rfl (fun ls hl => ?_)
    refine lv_aload_n hx hb dX6_isAheadOf_14 rfl (lv_at hl 2 rfl) ?_
    refine gg6_9 X hP hk_a1 (sk_in hN hk_a1 (by decide)) hi6 (List.mem_of_getElem? (i := 1) rfl) dX6_isAheadOf_15 ?_
    refine lv_iconst (v := 3) hx hb dX6_isAheadOf_18 (by decide) ?_
    obtain ⟨p2, hv, h⟩ := hb_some h
    have K27 : ∀ (H : Heap) (locs : List Loc) (ls : Array Slot), va_P (dC, dI) vwCl (hW N ca b I O J) H → va_S A s.heap H locs → lv_has ls 4 [(0, .ref (b t0)), (1, .ref (b a1)), (2, .int p1)] → W p l e (headSpec wsX6_isAheadOf ({ frames := 0, cells := 0, slots := 0, locals := 0 } : Room)).room s m ([.ref (b t0), .ref (b a1)] : List Value).toArray below meth c H locs 0 0 (MQ below (va_Qi (fun (r : Int32) (u : Unit) => res = r) (fun (u : Unit) t => va_P (dC, dI) vwCl (hW N ca b I O J) t.heap) A) ([.ref (b t0), .ref (b a1)] : List Value).toArray s 0 0 A) (F0 m 27 ls [.int p2]) := by
      intro H locs ls hP hS hl
      refine lv_istore_n (lv' := [(3, .int p2), (0, .ref (b t0)), (1, .ref (b a1)), (2, .int p1)]) hx hb dX6_isAheadOf_27 rfl hl (by decide) rfl (fun ls hl => ?_)
      refine lv_iload_n hx hb dX6_isAheadOf_28 rfl (lv_at hl 3 rfl) ?_
      obtain ⟨j3, ej3, h⟩ := hlet_ex h
      have K53 : ∀ (H : Heap) (locs : List Loc) (ls : Array Slot), j3 () = some res → va_P (dC, dI) vwCl (hW N ca b I O J) H → va_S A s.heap H locs → lv_has ls 4 [(0, .ref (b t0)), (1, .ref (b a1)), (2, .int p1), (3, .int p2)] → W p l e (headSpec wsX6_isAheadOf ({ frames := 0, cells := 0, slots := 0, locals := 0 } : Room)).room s m ([.ref (b t0), .ref (b a1)] : List Value).toArray below meth c H locs 0 0 (MQ below (va_Qi (fun (r : Int32) (u : Unit) => res = r) (fun (u : Unit) t => va_P (dC, dI) vwCl (hW N ca b I O J) t.heap) A) ([.ref (b t0), .ref (b a1)] : List Value).toArray s 0 0 A) (F0 m 53 ls []) := by
        intro H locs ls h hP hS hl
        rw [ej3] at h
        refine lv_iload_n hx hb dX6_isAheadOf_53 rfl (lv_at hl 2 rfl) ?_
        refine lv_if_ne (tgt := 61) hx hb dX6_isAheadOf_54 (by decide) (fun c8 => ?_) (fun c8 => ?_)
        · have h := gif_f c8 h
          refine lv_iload_n hx hb dX6_isAheadOf_61 rfl (lv_at hl 2 rfl) ?_
          obtain ⟨hgz, h⟩ := hg_some h
          exact W.zret (ty := .boolean) hx hb hr (gz_nar hgz) (fun t9 ht hW => ⟨⟨p1, (), rfl, (Option.some.inj h).symm, gEnd ht hP⟩, hS.F ht⟩) hS.2.2 dX6_isAheadOf_62 hlk
        · have h := gif_t c8 h
          refine lv_iload_n hx hb dX6_isAheadOf_57 rfl (lv_at hl 3 rfl) ?_
          refine lv_if_eq (tgt := 63) hx hb dX6_isAheadOf_58 (by decide) (fun c7 => ?_) (fun c7 => ?_)
          · have h := gif_t c7 h
            refine lv_aload_n hx hb dX6_isAheadOf_63 rfl (lv_at hl 0 rfl) ?_
            refine gg6_4 X hP hk_t0 (sk_in hN hk_t0 (by decide)) hi6 (List.mem_of_getElem? (i := 3) rfl) dX6_isAheadOf_64 ?_
            refine lv_aload_n hx hb dX6_isAheadOf_67 rfl (lv_at hl 1 rfl) ?_
            refine gg6_4 X hP hk_a1 (sk_in hN hk_a1 (by decide)) hi6 (List.mem_of_getElem? (i := 3) rfl) dX6_isAheadOf_68 ?_
            refine lv_icmp_gt (tgt := 96) hx hb dX6_isAheadOf_71 (by decide) (fun c6 => ?_) (fun c6 => ?_)
            · have h := gif_t c6 h
              refine lv_iconst (v := 1) hx hb dX6_isAheadOf_96 (by decide) ?_
              refine lv_goto (tgt := 101) hx hb dX6_isAheadOf_97 (by decide) ?_
              exact W.zret (ty := .boolean) hx hb hr (by decide) (fun t9 ht hW => ⟨⟨(1 : Int32), (), rfl, (Option.some.inj h).symm, gEnd ht hP⟩, hS.F ht⟩) hS.2.2 dX6_isAheadOf_101 hlk
            · have h := gif_f c6 h
              refine lv_aload_n hx hb dX6_isAheadOf_74 rfl (lv_at hl 0 rfl) ?_
              refine gg6_4 X hP hk_t0 (sk_in hN hk_t0 (by decide)) hi6 (List.mem_of_getElem? (i := 3) rfl) dX6_isAheadOf_75 ?_
              refine lv_aload_n hx hb dX6_isAheadOf_78 rfl (lv_at hl 1 rfl) ?_
              refine gg6_4 X hP hk_a1 (sk_in hN hk_a1 (by decide)) hi6 (List.mem_of_getElem? (i := 3) rfl) dX6_isAheadOf_79 ?_
              refine lv_icmp_ne (tgt := 100) hx hb dX6_isAheadOf_82 (by decide) (fun c5 => ?_) (fun c5 => ?_)
              · have h := gif_f c5 h
                refine lv_iconst (v := 0) hx hb dX6_isAheadOf_100 (by decide) ?_
                exact W.zret (ty := .boolean) hx hb hr (by decide) (fun t9 ht hW => ⟨⟨(0 : Int32), (), rfl, (Option.some.inj h).symm, gEnd ht hP⟩, hS.F ht⟩) hS.2.2 dX6_isAheadOf_101 hlk
              · have h := gif_t c5 h
                refine lv_aload_n hx hb dX6_isAheadOf_85 rfl (lv_at hl 0 rfl) ?_
                refine gg6_0 X hP hk_t0 (sk_in hN hk_t0 (by decide)) hi6 (List.mem_of_getElem? (i := 4) rfl) dX6_isAheadOf_86 ?_
                refine lv_aload_n hx hb dX6_isAheadOf_89 rfl (lv_at hl 1 rfl) ?_
                refine gg6_0 X hP hk_a1 (sk_in hN hk_a1 (by decide)) hi6 (List.mem_of_getElem? (i := 4) rfl) dX6_isAheadOf_90 ?_
                refine lv_icmp_ge (tgt := 100) hx hb dX6_isAheadOf_93 (by decide) (fun c4 => ?_) (fun c4 => ?_)
                · have h := gif_t c4 h
                  refine lv_iconst (v := 0) hx hb dX6_isAheadOf_100 (by decide) ?_
                  exact W.zret (ty := .boolean) hx hb hr (by decide) (fun t9 ht hW => ⟨⟨(0 : Int32), (), rfl, (Option.some.inj h).symm, gEnd ht hP⟩, hS.F ht⟩) hS.2.2 dX6_isAheadOf_101 hlk
                · have h := gif_f c4 h
                  refine lv_iconst (v := 1) hx hb dX6_isAheadOf_96 (by decide) ?_
                  refine lv_goto (tgt := 101) hx hb dX6_isAheadOf_97 (by decide) ?_
                  exact W.zret (ty := .boolean) hx hb hr (by decide) (fun t9 ht hW => ⟨⟨(1 : Int32), (), rfl, (Option.some.inj h).symm, gEnd ht hP⟩, hS.F ht⟩) hS.2.2 dX6_isAheadOf_101 hlk
          · have h := gif_f c7 h
            refine lv_iload_n hx hb dX6_isAheadOf_61 rfl (lv_at hl 2 rfl) ?_
            obtain ⟨hgz, h⟩ := hg_some h
            exact W.zret (ty := .boolean) hx hb hr (gz_nar hgz) (fun t9 ht hW => ⟨⟨p1, (), rfl, (Option.some.inj h).symm, gEnd ht hP⟩, hS.F ht⟩) hS.2.2 dX6_isAheadOf_62 hlk
      refine lv_if_eq (tgt := 53) hx hb dX6_isAheadOf_29 (by decide) (fun c11 => ?_) (fun c11 => ?_)
      · have h := gif_t c11 h
        exact K53 _ _ _ h hP hS (lv_sub hl [1, 2, 3, 0] rfl)
      · have h := gif_f c11 h
        refine lv_iload_n hx hb dX6_isAheadOf_32 rfl (lv_at hl 0 rfl) ?_
        refine lv_if_eq (tgt := 53) hx hb dX6_isAheadOf_33 (by decide) (fun c10 => ?_) (fun c10 => ?_)
        · have h := gif_t c10 h
          exact K53 _ _ _ h hP hS (lv_sub hl [1, 2, 3, 0] rfl)
        · have h := gif_f c10 h
          refine lv_aload_n hx hb dX6_isAheadOf_36 rfl (lv_at hl 1 rfl) ?_
          refine gg6_13 X hP hk_t0 (sk_in hN hk_t0 (by decide)) hi6 (List.mem_of_getElem? (i := 2) rfl) dX6_isAheadOf_37 ?_
          refine lv_aload_n hx hb dX6_isAheadOf_40 rfl (lv_at hl 2 rfl) ?_
          refine gg6_13 X hP hk_a1 (sk_in hN hk_a1 (by decide)) hi6 (List.mem_of_getElem? (i := 2) rfl) dX6_isAheadOf_41 ?_
          refine lv_icmp_ge (tgt := 51) hx hb dX6_isAheadOf_44 (by decide) (fun c9 => ?_) (fun c9 => ?_)
          · have h := gif_t c9 h
            refine lv_iconst (v := 0) hx hb dX6_isAheadOf_51 (by decide) ?_
            exact W.zret (ty := .boolean) hx hb hr (by decide) (fun t9 ht hW => ⟨⟨(0 : Int32), (), rfl, (Option.some.inj h).symm, gEnd ht hP⟩, hS.F ht⟩) hS.2.2 dX6_isAheadOf_52 hlk
          · have h := gif_f c9 h
            refine lv_iconst (v := 1) hx hb dX6_isAheadOf_47 (by decide) ?_
            refine lv_goto (tgt := 52) hx hb dX6_isAheadOf_48 (by decide) ?_
            exact W.zret (ty := .boolean) hx hb hr (by decide) (fun t9 ht hW => ⟨⟨(1 : Int32), (), rfl, (Option.some.inj h).symm, gEnd ht hP⟩, hS.F ht⟩) hS.2.2 dX6_isAheadOf_52 hlk
    have h := hv
    refine lv_icmp_ne (tgt := 26) hx hb dX6_isAheadOf_19 (by decide) (fun c12 => ?_) (fun c12 => ?_)
    · have h := gif_f c12 h
      refine lv_iconst (v := 0) hx hb dX6_isAheadOf_26 (by decide) ?_
      cases h
      exact K27 _ _ _ hP hS (lv_sub hl [1, 2, 0] rfl)
    · have h := gif_t c12 h
      refine lv_iconst (v := 1) hx hb dX6_isAheadOf_22 (by decide) ?_
      refine lv_goto (tgt := 27) hx hb dX6_isAheadOf_23 (by decide) ?_
      cases h
      exact K27 _ _ _ hP hS (lv_sub hl [1, 2, 0] rfl)
  have h := hv
  refine lv_icmp_ne (tgt := 12) hx hb dX6_isAheadOf_5 (by decide) (fun c13 => ?_) (fun c13 => ?_)
  · have h := gif_f c13 h
    refine lv_iconst (v := 0) hx hb dX6_isAheadOf_12 (by decide) ?_
    cases h
    exact K13 _ _ _ hP hS (lv_sub hl [0, 1] rfl)
  · have h := gif_t c13 h
    refine lv_iconst (v := 1) hx hb dX6_isAheadOf_8 (by decide) ?_
    refine lv_goto (tgt := 13) hx hb dX6_isAheadOf_9 (by decide) ?_
    cases h
    exact K13 _ _ _ hP hS (lv_sub hl [0, 1] rfl)
def f_X6_feetBehind (t0 : Nat) (a1 : Nat) (I : Nat → Nat → Int32) : Option (Int32) :=
  if (((I a1 4) - (I t0 4)) - ((I a1 4) - (I t0 4)) / (400 : Int32) * (400 : Int32)) ≤ 0 then
    some ((((I a1 4) - (I t0 4)) - ((I a1 4) - (I t0 4)) / (400 : Int32) * (400 : Int32)) + (400 : Int32))
  else
    some (((I a1 4) - (I t0 4)) - ((I a1 4) - (I t0 4)) / (400 : Int32) * (400 : Int32))
set_option maxHeartbeats 8000000 in
set_option maxRecDepth 100000 in
theorem c_X6_feetBehind {l : Launch} {dC : Nat → ClassId} {dI : Nat → Nat → Nat} {ca : Nat → ClassId} {b : Nat → Nat} {A : Nat → Prop} {N : Nat} (hN : 129 ≤ N) (hA : gAd A b N) (I : Nat → Nat → Int32) (O : Nat → Nat → Option Nat) (J : Nat → Nat → Int64) (t0 : Nat) (a1 : Nat) (hk_t0 : SHK t0 = 6) (hk_a1 : SHK a1 = 6) (res : Int32) (h : f_X6_feetBehind t0 a1 I = some res) : Met l yX6_feetBehind wsX6_feetBehind ({ frames := 0, cells := 0, slots := 0, locals := 0 } : Room) (va_Pc [.ref (b t0), .ref (b a1)] (gPre dC dI ca b A N I O J)) (va_Qi (fun (r : Int32) (u : Unit) => res = r) (fun (u : Unit) t => va_P (dC, dI) vwCl (hW N ca b I O J) t.heap) A) 0 0 A := by
  refine Met.ofW (cc := cX6_feetBehind) (maxL := 3) (ret := (some .int)) (by decide) rfl ?_
  intro p e s m args below meth c s₁ B hml hv
  obtain ⟨rfl, hP, hK, hA2, hth⟩ := hv
  have hx := B.exec
  have hb := B.bytes
  have hr := B.returns
  have hlk := B.notSynchronized
  have X : gCx p s m ([.ref (b t0), .ref (b a1)] : List Value).toArray c RX6 cX6_feetBehind wsX6_feetBehind 3 dC dI ca b A N := ⟨hx, hb, hml, findClass_of_methodNamed B.named, atoms_spec (ws := wsX6_feetBehind) B.pre, hK, hA, hA2, hth⟩
  have hi6 : ∀ w ∈ wsX60, w ∈ wsX6_feetBehind := (fun w h => List.mem_cons_of_mem _ (List.mem_append_right _ h))
  have hS : va_S A s.heap s.heap [] := va_S.rf
  have hl := lv_entry ([.ref (b t0), .ref (b a1)] : List Value) (n := 3) (Nat.le_of_ble_eq_true rfl)
  rw [lg_entry_eq]
  generalize (lg_sl ([.ref (b t0), .ref (b a1)] : List Value) ++ List.replicate (3 - (lg_sl ([.ref (b t0), .ref (b a1)] : List Value)).length) Slot.unset).toArray = ls at hl ⊢
  have hl : lv_has ls 3 [(0, .ref (b t0)), (1, .ref (b a1))] := hl
  unfold f_X6_feetBehind at h
  refine lv_aload_n hx hb dX6_feetBehind_0 rfl (lv_at hl 1 rfl) ?_
  refine gg6_4 X hP hk_a1 (sk_in hN hk_a1 (by decide)) hi6 (List.mem_of_getElem? (i := 1) rfl) dX6_feetBehind_1 ?_
  refine lv_aload_n hx hb dX6_feetBehind_4 rfl (lv_at hl 0 rfl) ?_
  refine gg6_4 X hP hk_t0 (sk_in hN hk_t0 (by decide)) hi6 (List.mem_of_getElem? (i := 1) rfl) dX6_feetBehind_5 ?_
  refine lv_isub hx hb dX6_feetBehind_8 ?_
  refine lv_sipush (v := 400) hx hb dX6_feetBehind_9 (by decide) ?_
  refine lv_irem hx hb dX6_feetBehind_12 (by decide) ?_
  refine lv_istore_n (lv' := [(2, .int (((I a1 4) - (I t0 4)) - ((I a1 4) - (I t0 4)) / (400 : Int32) * (400 : Int32))), (0, .ref (b t0)), (1, .ref (b a1))]) hx hb dX6_feetBehind_13 rfl hl (by decide) rfl (fun ls hl => ?_)
  refine lv_iload_n hx hb dX6_feetBehind_14 rfl (lv_at hl 0 rfl) ?_
  refine lv_if_le (tgt := 22) hx hb dX6_feetBehind_15 (by decide) (fun c1 => ?_) (fun c1 => ?_)
  · have h := gif_t c1 h
    refine lv_iload_n hx hb dX6_feetBehind_22 rfl (lv_at hl 0 rfl) ?_
    refine lv_sipush (v := 400) hx hb dX6_feetBehind_23 (by decide) ?_
    refine lv_iadd hx hb dX6_feetBehind_26 ?_
    exact W.iret hx hb hr (fun t9 ht hW => ⟨⟨((((I a1 4) - (I t0 4)) - ((I a1 4) - (I t0 4)) / (400 : Int32) * (400 : Int32)) + (400 : Int32)), (), rfl, (Option.some.inj h).symm, gEnd ht hP⟩, hS.F ht⟩) hS.2.2 dX6_feetBehind_27 hlk
  · have h := gif_f c1 h
    refine lv_iload_n hx hb dX6_feetBehind_18 rfl (lv_at hl 0 rfl) ?_
    refine lv_goto (tgt := 27) hx hb dX6_feetBehind_19 (by decide) ?_
    exact W.iret hx hb hr (fun t9 ht hW => ⟨⟨(((I a1 4) - (I t0 4)) - ((I a1 4) - (I t0 4)) / (400 : Int32) * (400 : Int32)), (), rfl, (Option.some.inj h).symm, gEnd ht hP⟩, hS.F ht⟩) hS.2.2 dX6_feetBehind_27 hlk
def f_X6_partOfCourse (t0 : Nat) (I : Nat → Nat → Int32) : Option (Int32) :=
  if (70 : Int32) ≤ ((I t0 4) - (I t0 4) / (100 : Int32) * (100 : Int32)) then
    some ((((I t0 4) - (I t0 4) / (400 : Int32) * (400 : Int32)) / (100 : Int32)) + (4 : Int32))
  else
    some (((I t0 4) - (I t0 4) / (400 : Int32) * (400 : Int32)) / (100 : Int32))
set_option maxHeartbeats 8000000 in
set_option maxRecDepth 100000 in
theorem c_X6_partOfCourse {l : Launch} {dC : Nat → ClassId} {dI : Nat → Nat → Nat} {ca : Nat → ClassId} {b : Nat → Nat} {A : Nat → Prop} {N : Nat} (hN : 129 ≤ N) (hA : gAd A b N) (I : Nat → Nat → Int32) (O : Nat → Nat → Option Nat) (J : Nat → Nat → Int64) (t0 : Nat) (hk_t0 : SHK t0 = 6) (res : Int32) (h : f_X6_partOfCourse t0 I = some res) : Met l yX6_partOfCourse wsX6_partOfCourse ({ frames := 0, cells := 0, slots := 0, locals := 0 } : Room) (va_Pc [.ref (b t0)] (gPre dC dI ca b A N I O J)) (va_Qi (fun (r : Int32) (u : Unit) => res = r) (fun (u : Unit) t => va_P (dC, dI) vwCl (hW N ca b I O J) t.heap) A) 0 0 A := by
  refine Met.ofW (cc := cX6_partOfCourse) (maxL := 2) (ret := (some .int)) (by decide) rfl ?_
  intro p e s m args below meth c s₁ B hml hv
  obtain ⟨rfl, hP, hK, hA2, hth⟩ := hv
  have hx := B.exec
  have hb := B.bytes
  have hr := B.returns
  have hlk := B.notSynchronized
  have X : gCx p s m ([.ref (b t0)] : List Value).toArray c RX6 cX6_partOfCourse wsX6_partOfCourse 2 dC dI ca b A N := ⟨hx, hb, hml, findClass_of_methodNamed B.named, atoms_spec (ws := wsX6_partOfCourse) B.pre, hK, hA, hA2, hth⟩
  have hi6 : ∀ w ∈ wsX60, w ∈ wsX6_partOfCourse := (fun w h => List.mem_cons_of_mem _ (List.mem_append_right _ h))
  have hS : va_S A s.heap s.heap [] := va_S.rf
  have hl := lv_entry ([.ref (b t0)] : List Value) (n := 2) (Nat.le_of_ble_eq_true rfl)
  rw [lg_entry_eq]
  generalize (lg_sl ([.ref (b t0)] : List Value) ++ List.replicate (2 - (lg_sl ([.ref (b t0)] : List Value)).length) Slot.unset).toArray = ls at hl ⊢
  have hl : lv_has ls 2 [(0, .ref (b t0))] := hl
  unfold f_X6_partOfCourse at h
  refine lv_aload_n hx hb dX6_partOfCourse_0 rfl (lv_at hl 0 rfl) ?_
  refine gg6_4 X hP hk_t0 (sk_in hN hk_t0 (by decide)) hi6 (List.mem_of_getElem? (i := 1) rfl) dX6_partOfCourse_1 ?_
  refine lv_sipush (v := 400) hx hb dX6_partOfCourse_4 (by decide) ?_
  refine lv_irem hx hb dX6_partOfCourse_7 (by decide) ?_
  refine lv_bipush (v := 100) hx hb dX6_partOfCourse_8 (by decide) ?_
  refine lv_idiv hx hb dX6_partOfCourse_10 (by decide) ?_
  refine lv_istore_n (lv' := [(1, .int (((I t0 4) - (I t0 4) / (400 : Int32) * (400 : Int32)) / (100 : Int32))), (0, .ref (b t0))]) hx hb dX6_partOfCourse_11 rfl hl (by decide) rfl (fun ls hl => ?_)
  refine lv_aload_n hx hb dX6_partOfCourse_12 rfl (lv_at hl 1 rfl) ?_
  refine gg6_4 X hP hk_t0 (sk_in hN hk_t0 (by decide)) hi6 (List.mem_of_getElem? (i := 1) rfl) dX6_partOfCourse_13 ?_
  refine lv_bipush (v := 100) hx hb dX6_partOfCourse_16 (by decide) ?_
  refine lv_irem hx hb dX6_partOfCourse_18 (by decide) ?_
  refine lv_bipush (v := 70) hx hb dX6_partOfCourse_19 (by decide) ?_
  refine lv_icmp_ge (tgt := 28) hx hb dX6_partOfCourse_21 (by decide) (fun c1 => ?_) (fun c1 => ?_)
  · have h := gif_t c1 h
    refine lv_iload_n hx hb dX6_partOfCourse_28 rfl (lv_at hl 0 rfl) ?_
    refine lv_iconst (v := 4) hx hb dX6_partOfCourse_29 (by decide) ?_
    refine lv_iadd hx hb dX6_partOfCourse_30 ?_
    exact W.iret hx hb hr (fun t9 ht hW => ⟨⟨((((I t0 4) - (I t0 4) / (400 : Int32) * (400 : Int32)) / (100 : Int32)) + (4 : Int32)), (), rfl, (Option.some.inj h).symm, gEnd ht hP⟩, hS.F ht⟩) hS.2.2 dX6_partOfCourse_31 hlk
  · have h := gif_f c1 h
    refine lv_iload_n hx hb dX6_partOfCourse_24 rfl (lv_at hl 0 rfl) ?_
    refine lv_goto (tgt := 31) hx hb dX6_partOfCourse_25 (by decide) ?_
    exact W.iret hx hb hr (fun t9 ht hW => ⟨⟨(((I t0 4) - (I t0 4) / (400 : Int32) * (400 : Int32)) / (100 : Int32)), (), rfl, (Option.some.inj h).symm, gEnd ht hP⟩, hS.F ht⟩) hS.2.2 dX6_partOfCourse_31 hlk
def f_X6_startsTurnFlying (t0 : Nat) (I : Nat → Nat → Int32) : Option (Int32 × (Nat → Nat → Int32)) :=
  hlet (gup I t0 5 (0 : Int32)) fun I1 =>
  (show Option (Int32) from
    if (I1 t0 9) = (1 : Int32) then
      some (1 : Int32)
    else
      some (0 : Int32)).bind fun p2 =>
  if (I1 t0 9) = (2 : Int32) then
    hlet (gup I1 t0 10 ((I1 t0 10) - (1 : Int32))) fun I3 =>
    (show Option (Int32) from
      if (I3 t0 10) ≤ 0 then
        some (1 : Int32)
      else
        some (2 : Int32)).bind fun p4 =>
    hlet (gup I3 t0 9 p4) fun I5 =>
    hg (gz p2) <|
    some (p2, I5)
  else
    hg (gz p2) <|
    some (p2, I1)
set_option maxHeartbeats 8000000 in
set_option maxRecDepth 100000 in
theorem c_X6_startsTurnFlying {l : Launch} {dC : Nat → ClassId} {dI : Nat → Nat → Nat} {ca : Nat → ClassId} {b : Nat → Nat} {A : Nat → Prop} {N : Nat} (hN : 129 ≤ N) (hA : gAd A b N) (I : Nat → Nat → Int32) (O : Nat → Nat → Option Nat) (J : Nat → Nat → Int64) (t0 : Nat) (hk_t0 : SHK t0 = 6) (res : Int32 × (Nat → Nat → Int32)) (h : f_X6_startsTurnFlying t0 I = some res) : Met l yX6_startsTurnFlying wsX6_startsTurnFlying ({ frames := 0, cells := 0, slots := 0, locals := 0 } : Room) (va_Pc [.ref (b t0)] (gPre dC dI ca b A N I O J)) (va_Qi (fun (r : Int32) (u : Nat → Nat → Int32) => res = (r, u)) (fun (u : Nat → Nat → Int32) t => va_P (dC, dI) vwCl (hW N ca b u O J) t.heap) A) 0 0 A := by
  refine Met.ofW (cc := cX6_startsTurnFlying) (maxL := 2) (ret := (some .boolean)) (by decide) rfl ?_
  intro p e s m args below meth c s₁ B hml hv
  obtain ⟨rfl, hP, hK, hA2, hth⟩ := hv
  have hx := B.exec
  have hb := B.bytes
  have hr := B.returns
  have hlk := B.notSynchronized
  have X : gCx p s m ([.ref (b t0)] : List Value).toArray c RX6 cX6_startsTurnFlying wsX6_startsTurnFlying 2 dC dI ca b A N := ⟨hx, hb, hml, findClass_of_methodNamed B.named, atoms_spec (ws := wsX6_startsTurnFlying) B.pre, hK, hA, hA2, hth⟩
  have hi6 : ∀ w ∈ wsX60, w ∈ wsX6_startsTurnFlying := (fun w h => List.mem_cons_of_mem _ (List.mem_append_right _ h))
  have hS : va_S A s.heap s.heap [] := va_S.rf
  have hl := lv_entry ([.ref (b t0)] : List Value) (n := 2) (Nat.le_of_ble_eq_true rfl)
  rw [lg_entry_eq]
  generalize (lg_sl ([.ref (b t0)] : List Value) ++ List.replicate (2 - (lg_sl ([.ref (b t0)] : List Value)).length) Slot.unset).toArray = ls at hl ⊢
  have hl : lv_has ls 2 [(0, .ref (b t0))] := hl
  unfold f_X6_startsTurnFlying at h
  refine lv_aload_n hx hb dX6_startsTurnFlying_0 rfl (lv_at hl 0 rfl) ?_
  refine lv_iconst (v := 0) hx hb dX6_startsTurnFlying_1 (by decide) ?_
  refine gp6_5 X hP hS hk_t0 (sk_in hN hk_t0 (by decide)) hi6 (List.mem_of_getElem? (i := 1) rfl) dX6_startsTurnFlying_2 (fun H locs hP hS => ?_)
  obtain ⟨I1, eI1, h⟩ := hlet_ex h
  rw [← eI1] at hP
  refine lv_aload_n hx hb dX6_startsTurnFlying_5 rfl (lv_at hl 0 rfl) ?_
  refine gg6_9 X hP hk_t0 (sk_in hN hk_t0 (by decide)) hi6 (List.mem_of_getElem? (i := 2) rfl) dX6_startsTurnFlying_6 ?_
  refine lv_iconst (v := 1) hx hb dX6_startsTurnFlying_9 (by decide) ?_
  obtain ⟨p2, hv, h⟩ := hb_some h
  have K18 : ∀ (H : Heap) (locs : List Loc) (ls : Array Slot), va_P (dC, dI) vwCl (hW N ca b I1 O J) H → va_S A s.heap H locs → lv_has ls 2 [(0, .ref (b t0))] → W p l e (headSpec wsX6_startsTurnFlying ({ frames := 0, cells := 0, slots := 0, locals := 0 } : Room)).room s m ([.ref (b t0)] : List Value).toArray below meth c H locs 0 0 (MQ below (va_Qi (fun (r : Int32) (u : Nat → Nat → Int32) => res = (r, u)) (fun (u : Nat → Nat → Int32) t => va_P (dC, dI) vwCl (hW N ca b u O J) t.heap) A) ([.ref (b t0)] : List Value).toArray s 0 0 A) (F0 m 18 ls [.int p2]) := by
    intro H locs ls hP hS hl
    refine lv_istore_n (lv' := [(1, .int p2), (0, .ref (b t0))]) hx hb dX6_startsTurnFlying_18 rfl hl (by decide) rfl (fun ls hl => ?_)
    refine lv_aload_n hx hb dX6_startsTurnFlying_19 rfl (lv_at hl 1 rfl) ?_
    refine gg6_9 X hP hk_t0 (sk_in hN hk_t0 (by decide)) hi6 (List.mem_of_getElem? (i := 2) rfl) dX6_startsTurnFlying_20 ?_
    refine lv_iconst (v := 2) hx hb dX6_startsTurnFlying_23 (by decide) ?_
    refine lv_icmp_ne (tgt := 53) hx hb dX6_startsTurnFlying_24 (by decide) (fun c7 => ?_) (fun c7 => ?_)
    · have h := gif_f c7 h
      refine lv_iload_n hx hb dX6_startsTurnFlying_53 rfl (lv_at hl 0 rfl) ?_
      obtain ⟨hgz, h⟩ := hg_some h
      exact W.zret (ty := .boolean) hx hb hr (gz_nar hgz) (fun t9 ht hW => ⟨⟨p2, I1, rfl, (Option.some.inj h).symm, gEnd ht hP⟩, hS.F ht⟩) hS.2.2 dX6_startsTurnFlying_54 hlk
    · have h := gif_t c7 h
      refine lv_aload_n hx hb dX6_startsTurnFlying_27 rfl (lv_at hl 1 rfl) ?_
      refine lv_dup hx hb dX6_startsTurnFlying_28 rfl ?_
      refine gg6_10 X hP hk_t0 (sk_in hN hk_t0 (by decide)) hi6 (List.mem_of_getElem? (i := 3) rfl) dX6_startsTurnFlying_29 ?_
      refine lv_iconst (v := 1) hx hb dX6_startsTurnFlying_32 (by decide) ?_
      refine lv_isub hx hb dX6_startsTurnFlying_33 ?_
      refine gp6_10 X hP hS hk_t0 (sk_in hN hk_t0 (by decide)) hi6 (List.mem_of_getElem? (i := 3) rfl) dX6_startsTurnFlying_34 (fun H locs hP hS => ?_)
      obtain ⟨I3, eI3, h⟩ := hlet_ex h
      rw [← eI3] at hP
      refine lv_aload_n hx hb dX6_startsTurnFlying_37 rfl (lv_at hl 1 rfl) ?_
      refine lv_aload_n hx hb dX6_startsTurnFlying_38 rfl (lv_at hl 1 rfl) ?_
      refine gg6_10 X hP hk_t0 (sk_in hN hk_t0 (by decide)) hi6 (List.mem_of_getElem? (i := 3) rfl) dX6_startsTurnFlying_39 ?_
      obtain ⟨p4, hv, h⟩ := hb_some h
      have K50 : ∀ (H : Heap) (locs : List Loc) (ls : Array Slot), va_P (dC, dI) vwCl (hW N ca b I3 O J) H → va_S A s.heap H locs → lv_has ls 2 [(1, .int p2)] → W p l e (headSpec wsX6_startsTurnFlying ({ frames := 0, cells := 0, slots := 0, locals := 0 } : Room)).room s m ([.ref (b t0)] : List Value).toArray below meth c H locs 0 0 (MQ below (va_Qi (fun (r : Int32) (u : Nat → Nat → Int32) => res = (r, u)) (fun (u : Nat → Nat → Int32) t => va_P (dC, dI) vwCl (hW N ca b u O J) t.heap) A) ([.ref (b t0)] : List Value).toArray s 0 0 A) (F0 m 50 ls [.int p4, .ref (b t0)]) := by
        intro H locs ls hP hS hl
        refine gp6_9 X hP hS hk_t0 (sk_in hN hk_t0 (by decide)) hi6 (List.mem_of_getElem? (i := 2) rfl) dX6_startsTurnFlying_50 (fun H locs hP hS => ?_)
        obtain ⟨I5, eI5, h⟩ := hlet_ex h
        rw [← eI5] at hP
        refine lv_iload_n hx hb dX6_startsTurnFlying_53 rfl (lv_at hl 0 rfl) ?_
        obtain ⟨hgz, h⟩ := hg_some h
        exact W.zret (ty := .boolean) hx hb hr (gz_nar hgz) (fun t9 ht hW => ⟨⟨p2, I5, rfl, (Option.some.inj h).symm, gEnd ht hP⟩, hS.F ht⟩) hS.2.2 dX6_startsTurnFlying_54 hlk
      have h := hv
      refine lv_if_le (tgt := 49) hx hb dX6_startsTurnFlying_42 (by decide) (fun c6 => ?_) (fun c6 => ?_)
      · have h := gif_t c6 h
        refine lv_iconst (v := 1) hx hb dX6_startsTurnFlying_49 (by decide) ?_
        cases h
        exact K50 _ _ _ hP hS (lv_sub hl [0] rfl)
      · have h := gif_f c6 h
        refine lv_iconst (v := 2) hx hb dX6_startsTurnFlying_45 (by decide) ?_
        refine lv_goto (tgt := 50) hx hb dX6_startsTurnFlying_46 (by decide) ?_
        cases h
        exact K50 _ _ _ hP hS (lv_sub hl [0] rfl)
  have h := hv
  refine lv_icmp_ne (tgt := 17) hx hb dX6_startsTurnFlying_10 (by decide) (fun c8 => ?_) (fun c8 => ?_)
  · have h := gif_f c8 h
    refine lv_iconst (v := 0) hx hb dX6_startsTurnFlying_17 (by decide) ?_
    cases h
    exact K18 _ _ _ hP hS (lv_sub hl [0] rfl)
  · have h := gif_t c8 h
    refine lv_iconst (v := 1) hx hb dX6_startsTurnFlying_13 (by decide) ?_
    refine lv_goto (tgt := 18) hx hb dX6_startsTurnFlying_14 (by decide) ?_
    cases h
    exact K18 _ _ _ hP hS (lv_sub hl [0] rfl)
def f_X6_flyWithStrength (t0 : Nat) (a1 : Int32) (a2 : Int32) (I : Nat → Nat → Int32) : Option (Int32 × (Nat → Nat → Int32)) :=
  (show Option (Int32) from
    if a2 = 0 then
      some (((a1 * a1) / (40 : Int32)) + (1 : Int32))
    else
      some (((((a1 * a1) / (40 : Int32)) + (1 : Int32)) * (3 : Int32)) / (5 : Int32))).bind fun p1 =>
  if p1 ≤ (I t0 6) then
    hlet (gup I t0 6 ((I t0 6) - p1)) fun I2 =>
    some (a1, I2)
  else
    if (4 : Int32) ≤ a1 then
      some ((4 : Int32), I)
    else
      some (a1, I)
set_option maxHeartbeats 8000000 in
set_option maxRecDepth 100000 in
theorem c_X6_flyWithStrength {l : Launch} {dC : Nat → ClassId} {dI : Nat → Nat → Nat} {ca : Nat → ClassId} {b : Nat → Nat} {A : Nat → Prop} {N : Nat} (hN : 129 ≤ N) (hA : gAd A b N) (I : Nat → Nat → Int32) (O : Nat → Nat → Option Nat) (J : Nat → Nat → Int64) (t0 : Nat) (a1 : Int32) (a2 : Int32) (hk_t0 : SHK t0 = 6) (res : Int32 × (Nat → Nat → Int32)) (h : f_X6_flyWithStrength t0 a1 a2 I = some res) : Met l yX6_flyWithStrength wsX6_flyWithStrength ({ frames := 0, cells := 0, slots := 0, locals := 0 } : Room) (va_Pc [.ref (b t0), .int a1, .int a2] (gPre dC dI ca b A N I O J)) (va_Qi (fun (r : Int32) (u : Nat → Nat → Int32) => res = (r, u)) (fun (u : Nat → Nat → Int32) t => va_P (dC, dI) vwCl (hW N ca b u O J) t.heap) A) 0 0 A := by
  refine Met.ofW (cc := cX6_flyWithStrength) (maxL := 4) (ret := (some .int)) (by decide) rfl ?_
  intro p e s m args below meth c s₁ B hml hv
  obtain ⟨rfl, hP, hK, hA2, hth⟩ := hv
  have hx := B.exec
  have hb := B.bytes
  have hr := B.returns
  have hlk := B.notSynchronized
  have X : gCx p s m ([.ref (b t0), .int a1, .int a2] : List Value).toArray c RX6 cX6_flyWithStrength wsX6_flyWithStrength 4 dC dI ca b A N := ⟨hx, hb, hml, findClass_of_methodNamed B.named, atoms_spec (ws := wsX6_flyWithStrength) B.pre, hK, hA, hA2, hth⟩
  have hi6 : ∀ w ∈ wsX60, w ∈ wsX6_flyWithStrength := (fun w h => List.mem_cons_of_mem _ (List.mem_append_right _ h))
  have hS : va_S A s.heap s.heap [] := va_S.rf
  have hl := lv_entry ([.ref (b t0), .int a1, .int a2] : List Value) (n := 4) (Nat.le_of_ble_eq_true rfl)
  rw [lg_entry_eq]
  generalize (lg_sl ([.ref (b t0), .int a1, .int a2] : List Value) ++ List.replicate (4 - (lg_sl ([.ref (b t0), .int a1, .int a2] : List Value)).length) Slot.unset).toArray = ls at hl ⊢
  have hl : lv_has ls 4 [(0, .ref (b t0)), (1, .int a1), (2, .int a2)] := hl
  unfold f_X6_flyWithStrength at h
  refine lv_iload_n hx hb dX6_flyWithStrength_0 rfl (lv_at hl 1 rfl) ?_
  refine lv_iload_n hx hb dX6_flyWithStrength_1 rfl (lv_at hl 1 rfl) ?_
  refine lv_imul hx hb dX6_flyWithStrength_2 ?_
  refine lv_bipush (v := 40) hx hb dX6_flyWithStrength_3 (by decide) ?_
  refine lv_idiv hx hb dX6_flyWithStrength_5 (by decide) ?_
  refine lv_iconst (v := 1) hx hb dX6_flyWithStrength_6 (by decide) ?_
  refine lv_iadd hx hb dX6_flyWithStrength_7 ?_
  refine lv_istore_n (lv' := [(3, .int (((a1 * a1) / (40 : Int32)) + (1 : Int32))), (0, .ref (b t0)), (1, .int a1), (2, .int a2)]) hx hb dX6_flyWithStrength_8 rfl hl (by decide) rfl (fun ls hl => ?_)
  refine lv_iload_n hx hb dX6_flyWithStrength_9 rfl (lv_at hl 3 rfl) ?_
  obtain ⟨p1, hv, h⟩ := hb_some h
  have K19 : ∀ (H : Heap) (locs : List Loc) (ls : Array Slot), va_P (dC, dI) vwCl (hW N ca b I O J) H → va_S A s.heap H locs → lv_has ls 4 [(0, .ref (b t0)), (1, .int a1), (3, .int p1)] → W p l e (headSpec wsX6_flyWithStrength ({ frames := 0, cells := 0, slots := 0, locals := 0 } : Room)).room s m ([.ref (b t0), .int a1, .int a2] : List Value).toArray below meth c H locs 0 0 (MQ below (va_Qi (fun (r : Int32) (u : Nat → Nat → Int32) => res = (r, u)) (fun (u : Nat → Nat → Int32) t => va_P (dC, dI) vwCl (hW N ca b u O J) t.heap) A) ([.ref (b t0), .int a1, .int a2] : List Value).toArray s 0 0 A) (F0 m 19 ls []) := by
    intro H locs ls hP hS hl
    refine lv_aload_n hx hb dX6_flyWithStrength_19 rfl (lv_at hl 0 rfl) ?_
    refine gg6_6 X hP hk_t0 (sk_in hN hk_t0 (by decide)) hi6 (List.mem_of_getElem? (i := 1) rfl) dX6_flyWithStrength_20 ?_
    refine lv_iload_n hx hb dX6_flyWithStrength_23 rfl (lv_at hl 2 rfl) ?_
    refine lv_icmp_ge (tgt := 38) hx hb dX6_flyWithStrength_24 (by decide) (fun c4 => ?_) (fun c4 => ?_)
    · have h := gif_t c4 h
      refine lv_aload_n hx hb dX6_flyWithStrength_38 rfl (lv_at hl 0 rfl) ?_
      refine lv_dup hx hb dX6_flyWithStrength_39 rfl ?_
      refine gg6_6 X hP hk_t0 (sk_in hN hk_t0 (by decide)) hi6 (List.mem_of_getElem? (i := 1) rfl) dX6_flyWithStrength_40 ?_
      refine lv_iload_n hx hb dX6_flyWithStrength_43 rfl (lv_at hl 2 rfl) ?_
      refine lv_isub hx hb dX6_flyWithStrength_44 ?_
      refine gp6_6 X hP hS hk_t0 (sk_in hN hk_t0 (by decide)) hi6 (List.mem_of_getElem? (i := 1) rfl) dX6_flyWithStrength_45 (fun H locs hP hS => ?_)
      obtain ⟨I2, eI2, h⟩ := hlet_ex h
      rw [← eI2] at hP
      refine lv_iload_n hx hb dX6_flyWithStrength_48 rfl (lv_at hl 1 rfl) ?_
      exact W.iret hx hb hr (fun t9 ht hW => ⟨⟨a1, I2, rfl, (Option.some.inj h).symm, gEnd ht hP⟩, hS.F ht⟩) hS.2.2 dX6_flyWithStrength_49 hlk
    · have h := gif_f c4 h
      refine lv_iload_n hx hb dX6_flyWithStrength_27 rfl (lv_at hl 1 rfl) ?_
      refine lv_iconst (v := 4) hx hb dX6_flyWithStrength_28 (by decide) ?_
      refine lv_icmp_ge (tgt := 36) hx hb dX6_flyWithStrength_29 (by decide) (fun c3 => ?_) (fun c3 => ?_)
      · have h := gif_t c3 h
        refine lv_iconst (v := 4) hx hb dX6_flyWithStrength_36 (by decide) ?_
        exact W.iret hx hb hr (fun t9 ht hW => ⟨⟨(4 : Int32), I, rfl, (Option.some.inj h).symm, gEnd ht hP⟩, hS.F ht⟩) hS.2.2 dX6_flyWithStrength_37 hlk
      · have h := gif_f c3 h
        refine lv_iload_n hx hb dX6_flyWithStrength_32 rfl (lv_at hl 1 rfl) ?_
        refine lv_goto (tgt := 37) hx hb dX6_flyWithStrength_33 (by decide) ?_
        exact W.iret hx hb hr (fun t9 ht hW => ⟨⟨a1, I, rfl, (Option.some.inj h).symm, gEnd ht hP⟩, hS.F ht⟩) hS.2.2 dX6_flyWithStrength_37 hlk
  have h := hv
  refine lv_if_eq (tgt := 19) hx hb dX6_flyWithStrength_10 (by decide) (fun c5 => ?_) (fun c5 => ?_)
  · have h := gif_t c5 h
    cases h
    exact K19 _ _ _ hP hS (lv_sub hl [1, 2, 0] rfl)
  · have h := gif_f c5 h
    refine lv_iload_n hx hb dX6_flyWithStrength_13 rfl (lv_at hl 0 rfl) ?_
    refine lv_iconst (v := 3) hx hb dX6_flyWithStrength_14 (by decide) ?_
    refine lv_imul hx hb dX6_flyWithStrength_15 ?_
    refine lv_iconst (v := 5) hx hb dX6_flyWithStrength_16 (by decide) ?_
    refine lv_idiv hx hb dX6_flyWithStrength_17 (by decide) ?_
    refine lv_istore_n (lv' := [(3, .int (((((a1 * a1) / (40 : Int32)) + (1 : Int32)) * (3 : Int32)) / (5 : Int32))), (0, .ref (b t0)), (1, .int a1), (2, .int a2)]) hx hb dX6_flyWithStrength_18 rfl hl (by decide) rfl (fun ls hl => ?_)
    cases h
    exact K19 _ _ _ hP hS (lv_sub hl [1, 2, 0] rfl)
def f_X6_lapsOver (t0 : Nat) (I : Nat → Nat → Int32) : Option (Int32) :=
  some ((I t0 4) / (400 : Int32))
set_option maxHeartbeats 8000000 in
set_option maxRecDepth 100000 in
theorem c_X6_lapsOver {l : Launch} {dC : Nat → ClassId} {dI : Nat → Nat → Nat} {ca : Nat → ClassId} {b : Nat → Nat} {A : Nat → Prop} {N : Nat} (hN : 129 ≤ N) (hA : gAd A b N) (I : Nat → Nat → Int32) (O : Nat → Nat → Option Nat) (J : Nat → Nat → Int64) (t0 : Nat) (hk_t0 : SHK t0 = 6) (res : Int32) (h : f_X6_lapsOver t0 I = some res) : Met l yX6_lapsOver wsX6_lapsOver ({ frames := 0, cells := 0, slots := 0, locals := 0 } : Room) (va_Pc [.ref (b t0)] (gPre dC dI ca b A N I O J)) (va_Qi (fun (r : Int32) (u : Unit) => res = r) (fun (u : Unit) t => va_P (dC, dI) vwCl (hW N ca b I O J) t.heap) A) 0 0 A := by
  refine Met.ofW (cc := cX6_lapsOver) (maxL := 1) (ret := (some .int)) (by decide) rfl ?_
  intro p e s m args below meth c s₁ B hml hv
  obtain ⟨rfl, hP, hK, hA2, hth⟩ := hv
  have hx := B.exec
  have hb := B.bytes
  have hr := B.returns
  have hlk := B.notSynchronized
  have X : gCx p s m ([.ref (b t0)] : List Value).toArray c RX6 cX6_lapsOver wsX6_lapsOver 1 dC dI ca b A N := ⟨hx, hb, hml, findClass_of_methodNamed B.named, atoms_spec (ws := wsX6_lapsOver) B.pre, hK, hA, hA2, hth⟩
  have hi6 : ∀ w ∈ wsX60, w ∈ wsX6_lapsOver := (fun w h => List.mem_cons_of_mem _ (List.mem_append_right _ h))
  have hS : va_S A s.heap s.heap [] := va_S.rf
  have hl := lv_entry ([.ref (b t0)] : List Value) (n := 1) (Nat.le_of_ble_eq_true rfl)
  rw [lg_entry_eq]
  generalize (lg_sl ([.ref (b t0)] : List Value) ++ List.replicate (1 - (lg_sl ([.ref (b t0)] : List Value)).length) Slot.unset).toArray = ls at hl ⊢
  have hl : lv_has ls 1 [(0, .ref (b t0))] := hl
  unfold f_X6_lapsOver at h
  refine lv_aload_n hx hb dX6_lapsOver_0 rfl (lv_at hl 0 rfl) ?_
  refine gg6_4 X hP hk_t0 (sk_in hN hk_t0 (by decide)) hi6 (List.mem_of_getElem? (i := 1) rfl) dX6_lapsOver_1 ?_
  refine lv_sipush (v := 400) hx hb dX6_lapsOver_4 (by decide) ?_
  refine lv_idiv hx hb dX6_lapsOver_7 (by decide) ?_
  exact W.iret hx hb hr (fun t9 ht hW => ⟨⟨((I t0 4) / (400 : Int32)), (), rfl, (Option.some.inj h).symm, gEnd ht hP⟩, hS.F ht⟩) hS.2.2 dX6_lapsOver_8 hlk
def f_X6_goToNest (t0 : Nat) (I : Nat → Nat → Int32) : Option (Nat → Nat → Int32) :=
  hlet (gup I t0 9 (2 : Int32)) fun I1 =>
  hlet (gup I1 t0 10 (12 : Int32)) fun I2 =>
  hlet (gup I2 t0 11 (0 : Int32)) fun I3 =>
  hlet (gup I3 t0 7 (0 : Int32)) fun I4 =>
  if (999 : Int32) ≤ ((I4 t0 6) + (300 : Int32)) then
    hlet (gup I4 t0 6 (999 : Int32)) fun I5 =>
    some I5
  else
    hlet (gup I4 t0 6 ((I4 t0 6) + (300 : Int32))) fun I6 =>
    some I6
set_option maxHeartbeats 8000000 in
set_option maxRecDepth 100000 in
theorem c_X6_goToNest {l : Launch} {dC : Nat → ClassId} {dI : Nat → Nat → Nat} {ca : Nat → ClassId} {b : Nat → Nat} {A : Nat → Prop} {N : Nat} (hN : 129 ≤ N) (hA : gAd A b N) (I : Nat → Nat → Int32) (O : Nat → Nat → Option Nat) (J : Nat → Nat → Int64) (t0 : Nat) (hk_t0 : SHK t0 = 6) (res : Nat → Nat → Int32) (h : f_X6_goToNest t0 I = some res) : Met l yX6_goToNest wsX6_goToNest ({ frames := 0, cells := 0, slots := 0, locals := 0 } : Room) (va_Pc [.ref (b t0)] (gPre dC dI ca b A N I O J)) (va_Qv (fun (u : Nat → Nat → Int32) => res = u) (fun (u : Nat → Nat → Int32) t => va_P (dC, dI) vwCl (hW N ca b u O J) t.heap) A) 0 0 A := by
  refine Met.ofW (cc := cX6_goToNest) (maxL := 1) (ret := none) (by decide) rfl ?_
  intro p e s m args below meth c s₁ B hml hv
  obtain ⟨rfl, hP, hK, hA2, hth⟩ := hv
  have hx := B.exec
  have hb := B.bytes
  have hr := B.returns
  have hlk := B.notSynchronized
  have X : gCx p s m ([.ref (b t0)] : List Value).toArray c RX6 cX6_goToNest wsX6_goToNest 1 dC dI ca b A N := ⟨hx, hb, hml, findClass_of_methodNamed B.named, atoms_spec (ws := wsX6_goToNest) B.pre, hK, hA, hA2, hth⟩
  have hi6 : ∀ w ∈ wsX60, w ∈ wsX6_goToNest := (fun w h => List.mem_cons_of_mem _ (List.mem_append_right _ h))
  have hS : va_S A s.heap s.heap [] := va_S.rf
  have hl := lv_entry ([.ref (b t0)] : List Value) (n := 1) (Nat.le_of_ble_eq_true rfl)
  rw [lg_entry_eq]
  generalize (lg_sl ([.ref (b t0)] : List Value) ++ List.replicate (1 - (lg_sl ([.ref (b t0)] : List Value)).length) Slot.unset).toArray = ls at hl ⊢
  have hl : lv_has ls 1 [(0, .ref (b t0))] := hl
  unfold f_X6_goToNest at h
  refine lv_aload_n hx hb dX6_goToNest_0 rfl (lv_at hl 0 rfl) ?_
  refine lv_iconst (v := 2) hx hb dX6_goToNest_1 (by decide) ?_
  refine gp6_9 X hP hS hk_t0 (sk_in hN hk_t0 (by decide)) hi6 (List.mem_of_getElem? (i := 1) rfl) dX6_goToNest_2 (fun H locs hP hS => ?_)
  obtain ⟨I1, eI1, h⟩ := hlet_ex h
  rw [← eI1] at hP
  refine lv_aload_n hx hb dX6_goToNest_5 rfl (lv_at hl 0 rfl) ?_
  refine lv_bipush (v := 12) hx hb dX6_goToNest_6 (by decide) ?_
  refine gp6_10 X hP hS hk_t0 (sk_in hN hk_t0 (by decide)) hi6 (List.mem_of_getElem? (i := 2) rfl) dX6_goToNest_8 (fun H locs hP hS => ?_)
  obtain ⟨I2, eI2, h⟩ := hlet_ex h
  rw [← eI2] at hP
  refine lv_aload_n hx hb dX6_goToNest_11 rfl (lv_at hl 0 rfl) ?_
  refine lv_iconst (v := 0) hx hb dX6_goToNest_12 (by decide) ?_
  refine gp6_11 X hP hS hk_t0 (sk_in hN hk_t0 (by decide)) hi6 (List.mem_of_getElem? (i := 3) rfl) (by decide) dX6_goToNest_13 (fun H locs hP hS => ?_)
  obtain ⟨I3, eI3, h⟩ := hlet_ex h
  rw [← eI3] at hP
  refine lv_aload_n hx hb dX6_goToNest_16 rfl (lv_at hl 0 rfl) ?_
  refine lv_iconst (v := 0) hx hb dX6_goToNest_17 (by decide) ?_
  refine gp6_7 X hP hS hk_t0 (sk_in hN hk_t0 (by decide)) hi6 (List.mem_of_getElem? (i := 4) rfl) dX6_goToNest_18 (fun H locs hP hS => ?_)
  obtain ⟨I4, eI4, h⟩ := hlet_ex h
  rw [← eI4] at hP
  refine lv_aload_n hx hb dX6_goToNest_21 rfl (lv_at hl 0 rfl) ?_
  refine lv_aload_n hx hb dX6_goToNest_22 rfl (lv_at hl 0 rfl) ?_
  refine gg6_6 X hP hk_t0 (sk_in hN hk_t0 (by decide)) hi6 (List.mem_of_getElem? (i := 5) rfl) dX6_goToNest_23 ?_
  refine lv_sipush (v := 300) hx hb dX6_goToNest_26 (by decide) ?_
  refine lv_iadd hx hb dX6_goToNest_29 ?_
  refine lv_sipush (v := 999) hx hb dX6_goToNest_30 (by decide) ?_
  refine lv_icmp_ge (tgt := 47) hx hb dX6_goToNest_33 (by decide) (fun c7 => ?_) (fun c7 => ?_)
  · have h := gif_t c7 h
    refine lv_sipush (v := 999) hx hb dX6_goToNest_47 (by decide) ?_
    refine gp6_6 X hP hS hk_t0 (sk_in hN hk_t0 (by decide)) hi6 (List.mem_of_getElem? (i := 5) rfl) dX6_goToNest_50 (fun H locs hP hS => ?_)
    obtain ⟨I5, eI5, h⟩ := hlet_ex h
    rw [← eI5] at hP
    exact W.vret hx hb hr (fun t9 ht hW => ⟨⟨I5, rfl, (Option.some.inj h).symm, gEnd ht hP⟩, hS.F ht⟩) hS.2.2 dX6_goToNest_53 hlk
  · have h := gif_f c7 h
    refine lv_aload_n hx hb dX6_goToNest_36 rfl (lv_at hl 0 rfl) ?_
    refine gg6_6 X hP hk_t0 (sk_in hN hk_t0 (by decide)) hi6 (List.mem_of_getElem? (i := 5) rfl) dX6_goToNest_37 ?_
    refine lv_sipush (v := 300) hx hb dX6_goToNest_40 (by decide) ?_
    refine lv_iadd hx hb dX6_goToNest_43 ?_
    refine lv_goto (tgt := 50) hx hb dX6_goToNest_44 (by decide) ?_
    refine gp6_6 X hP hS hk_t0 (sk_in hN hk_t0 (by decide)) hi6 (List.mem_of_getElem? (i := 5) rfl) dX6_goToNest_50 (fun H locs hP hS => ?_)
    obtain ⟨I6, eI6, h⟩ := hlet_ex h
    rw [← eI6] at hP
    exact W.vret hx hb hr (fun t9 ht hW => ⟨⟨I6, rfl, (Option.some.inj h).symm, gEnd ht hP⟩, hS.F ht⟩) hS.2.2 dX6_goToNest_53 hlk
