def f_X4_dropOldest_L2 : Nat → Int32 → (Nat → Nat → Option Nat) → Option (Nat → Nat → Option Nat)
  | 0, _, _ => none
  | fuel + 1, p1, O2 =>
    if (6 : Int32) ≤ p1 then
      some O2
    else
      hg (gin (p1 - (1 : Int32)) 6) <|
      hlet (ov 3 (O2 26 ((p1 - (1 : Int32)).toNatClampNeg))) fun r6 =>
      hg (gin p1 6) <|
      hlet (ov 3 (O2 26 (p1.toNatClampNeg))) fun r8 =>
      (r8).bind fun n9 => hk n9 3 <|
      hg (gin (p1 - (1 : Int32)) 6) <|
      hlet (gup O2 26 ((p1 - (1 : Int32)).toNatClampNeg) (some n9)) fun O11 =>
      (r6).bind fun n12 => hk n12 3 <|
      hg (gin p1 6) <|
      hlet (gup O11 26 (p1.toNatClampNeg) (some n12)) fun O14 =>
      hlet (p1 + 1) fun x15 =>
      f_X4_dropOldest_L2 fuel x15 O14
def f_X4_dropOldest (I : Nat → Nat → Int32) (O : Nat → Nat → Option Nat) : Option ((Nat → Nat → Int32) × (Nat → Nat → Option Nat)) :=
  (f_X4_dropOldest_L2  FU (1 : Int32) O).bind fun O3 =>
  hlet (gup I 25 1 ((I 25 1) - (1 : Int32))) fun I4 =>
  some (I4, O3)
set_option maxHeartbeats 8000000 in
set_option maxRecDepth 100000 in
theorem c_X4_dropOldest {l : Launch} {dC : Nat → ClassId} {dI : Nat → Nat → Nat} {ca : Nat → ClassId} {b : Nat → Nat} {A : Nat → Prop} {N : Nat} (hN : 129 ≤ N) (hA : gAd A b N) (I : Nat → Nat → Int32) (O : Nat → Nat → Option Nat) (J : Nat → Nat → Int64) (res : (Nat → Nat → Int32) × (Nat → Nat → Option Nat)) (h : f_X4_dropOldest I O = some res) : Met l yX4_dropOldest wsX4_dropOldest ({ frames := 0, cells := 0, slots := 0, locals := 0 } : Room) (va_Pc [.ref (b 25)] (gPre dC dI ca b A N I O J)) (va_Qv (fun (u : (Nat → Nat → Int32) × (Nat → Nat → Option Nat)) => res = u) (fun (u : (Nat → Nat → Int32) × (Nat → Nat → Option Nat)) t => va_P (dC, dI) vwCl (hW N ca b u.1 u.2 J) t.heap) A) 0 0 A := by
  refine Met.ofW (cc := cX4_dropOldest) (maxL := 3) (ret := none) (by decide) rfl ?_
  intro p e s m args below meth c s₁ B hml hv
  obtain ⟨rfl, hP, hK, hA2, hth⟩ := hv
  have hx := B.exec
  have hb := B.bytes
  have hr := B.returns
  have hlk := B.notSynchronized
  have X : gCx p s m ([.ref (b 25)] : List Value).toArray c RX4 cX4_dropOldest wsX4_dropOldest 3 dC dI ca b A N := ⟨hx, hb, hml, findClass_of_methodNamed B.named, atoms_spec (ws := wsX4_dropOldest) B.pre, hK, hA, hA2, hth⟩
  have hi4 : ∀ w ∈ wsX40, w ∈ wsX4_dropOldest := (fun w h => List.mem_cons_of_mem _ (List.mem_append_right _ h))
  have hS : va_S A s.heap s.heap [] := va_S.rf
  have hl := lv_entry ([.ref (b 25)] : List Value) (n := 3) (Nat.le_of_ble_eq_true rfl)
  rw [lg_entry_eq]
  generalize (lg_sl ([.ref (b 25)] : List Value) ++ List.replicate (3 - (lg_sl ([.ref (b 25)] : List Value)).length) Slot.unset).toArray = ls at hl ⊢
  have hl : lv_has ls 3 [(0, .ref (b 25))] := hl
  unfold f_X4_dropOldest at h
  refine lv_iconst (v := 1) hx hb dX4_dropOldest_0 (by decide) ?_
  refine lv_istore_n (lv' := [(1, .int (1 : Int32)), (0, .ref (b 25))]) hx hb dX4_dropOldest_1 rfl hl (by decide) rfl (fun ls hl => ?_)
  obtain ⟨O3, hv, h⟩ := hb_some h
  have K47 : ∀ (H : Heap) (locs : List Loc) (ls : Array Slot), va_P (dC, dI) vwCl (hW N ca b I O3 J) H → va_S A s.heap H locs → lv_has ls 3 [(0, .ref (b 25))] → W p l e (headSpec wsX4_dropOldest ({ frames := 0, cells := 0, slots := 0, locals := 0 } : Room)).room s m ([.ref (b 25)] : List Value).toArray below meth c H locs 0 0 (MQ below (va_Qv (fun (u : (Nat → Nat → Int32) × (Nat → Nat → Option Nat)) => res = u) (fun (u : (Nat → Nat → Int32) × (Nat → Nat → Option Nat)) t => va_P (dC, dI) vwCl (hW N ca b u.1 u.2 J) t.heap) A) ([.ref (b 25)] : List Value).toArray s 0 0 A) (F0 m 47 ls []) := by
    intro H locs ls hP hS hl
    refine lv_aload_n hx hb dX4_dropOldest_47 rfl (lv_at hl 0 rfl) ?_
    refine lv_dup hx hb dX4_dropOldest_48 rfl ?_
    refine gg4_1 X hP kc_25 (sk_in hN kc_25 (by decide)) hi4 (List.mem_of_getElem? (i := 2) rfl) dX4_dropOldest_49 ?_
    refine lv_iconst (v := 1) hx hb dX4_dropOldest_52 (by decide) ?_
    refine lv_isub hx hb dX4_dropOldest_53 ?_
    refine gp4_1 X hP hS kc_25 (sk_in hN kc_25 (by decide)) hi4 (List.mem_of_getElem? (i := 2) rfl) dX4_dropOldest_54 (fun H locs hP hS => ?_)
    obtain ⟨I4, eI4, h⟩ := hlet_ex h
    rw [← eI4] at hP
    exact W.vret hx hb hr (fun t9 ht hW => ⟨⟨(I4, O3), rfl, (Option.some.inj h).symm, gEnd ht hP⟩, hS.F ht⟩) hS.2.2 dX4_dropOldest_57 hlk
  have hL2 : ∀ (fuel : Nat) (p1 : Int32) (O2 : Nat → Nat → Option Nat) (H : Heap) (locs : List Loc) (ls : Array Slot), f_X4_dropOldest_L2  fuel p1 O2 = some O3 → va_P (dC, dI) vwCl (hW N ca b I O2 J) H → va_S A s.heap H locs → lv_has ls 3 [(0, .ref (b 25)), (1, .int p1)] → W p l e (headSpec wsX4_dropOldest ({ frames := 0, cells := 0, slots := 0, locals := 0 } : Room)).room s m ([.ref (b 25)] : List Value).toArray below meth c H locs 0 0 (MQ below (va_Qv (fun (u : (Nat → Nat → Int32) × (Nat → Nat → Option Nat)) => res = u) (fun (u : (Nat → Nat → Int32) × (Nat → Nat → Option Nat)) t => va_P (dC, dI) vwCl (hW N ca b u.1 u.2 J) t.heap) A) ([.ref (b 25)] : List Value).toArray s 0 0 A) (F0 m 2 ls []) := by
    intro fuel
    induction fuel with
    | zero =>
      intro p1 O2 H locs ls h hP hS hl
      rw [f_X4_dropOldest_L2] at h
      cases h
    | succ fuel ih =>
      intro p1 O2 H locs ls h hP hS hl
      rw [f_X4_dropOldest_L2] at h
      refine lv_iload_n hx hb dX4_dropOldest_2 rfl (lv_at hl 1 rfl) ?_
      refine lv_aload_n hx hb dX4_dropOldest_3 rfl (lv_at hl 0 rfl) ?_
      refine gg4_0 X hP kc_25 (sk_in hN kc_25 (by decide)) hi4 (List.mem_of_getElem? (i := 1) rfl) dX4_dropOldest_4 ?_
      refine gl25 X hP kc_26 (sk_in hN kc_26 (by decide)) dX4_dropOldest_7 ?_
      refine lv_icmp_ge (tgt := 47) hx hb dX4_dropOldest_8 (by decide) (fun c16 => ?_) (fun c16 => ?_)
      · have h := gif_t c16 h
        cases h
        exact K47 _ _ _ hP hS (lv_sub hl [0] rfl)
      · have h := gif_f c16 h
        refine lv_aload_n hx hb dX4_dropOldest_11 rfl (lv_at hl 0 rfl) ?_
        refine gg4_0 X hP kc_25 (sk_in hN kc_25 (by decide)) hi4 (List.mem_of_getElem? (i := 1) rfl) dX4_dropOldest_12 ?_
        refine lv_iload_n hx hb dX4_dropOldest_15 rfl (lv_at hl 1 rfl) ?_
        refine lv_iconst (v := 1) hx hb dX4_dropOldest_16 (by decide) ?_
        refine lv_isub hx hb dX4_dropOldest_17 ?_
        obtain ⟨hgi5, h⟩ := hg_some h
        refine ga25 X hP kc_26 (sk_in hN kc_26 (by decide)) hgi5 dX4_dropOldest_18 ?_
        refine gv_top (fun r6 er6 => ?_)
        have h := hlet_some er6 h
        refine gv_astore_n (r := Option.map b r6) (lv' := [(2, va_rf (Option.map b r6)), (0, .ref (b 25)), (1, .int p1)]) hx hb dX4_dropOldest_19 rfl hl (by decide) rfl (fun ls hl => ?_)
        refine lv_aload_n hx hb dX4_dropOldest_20 rfl (lv_at hl 1 rfl) ?_
        refine gg4_0 X hP kc_25 (sk_in hN kc_25 (by decide)) hi4 (List.mem_of_getElem? (i := 1) rfl) dX4_dropOldest_21 ?_
        refine lv_iload_n hx hb dX4_dropOldest_24 rfl (lv_at hl 2 rfl) ?_
        refine lv_iconst (v := 1) hx hb dX4_dropOldest_25 (by decide) ?_
        refine lv_isub hx hb dX4_dropOldest_26 ?_
        refine lv_aload_n hx hb dX4_dropOldest_27 rfl (lv_at hl 1 rfl) ?_
        refine gg4_0 X hP kc_25 (sk_in hN kc_25 (by decide)) hi4 (List.mem_of_getElem? (i := 1) rfl) dX4_dropOldest_28 ?_
        refine lv_iload_n hx hb dX4_dropOldest_31 rfl (lv_at hl 2 rfl) ?_
        obtain ⟨hgi7, h⟩ := hg_some h
        refine ga25 X hP kc_26 (sk_in hN kc_26 (by decide)) hgi7 dX4_dropOldest_32 ?_
        refine gv_top (fun r8 er8 => ?_)
        have h := hlet_some er8 h
        obtain ⟨n9, rfl, h⟩ := hb_some h
        obtain ⟨hk_n9, h⟩ := hk_some h
        obtain ⟨hgi10, h⟩ := hg_some h
        refine gs25 X hP hS kc_26 (sk_in hN kc_26 (by decide)) hk_n9 (sk_in hN hk_n9 (by decide)) hgi10 dX4_dropOldest_33 (fun H locs hP hS => ?_)
        obtain ⟨O11, eO11, h⟩ := hlet_ex h
        rw [← eO11] at hP
        refine lv_aload_n hx hb dX4_dropOldest_34 rfl (lv_at hl 1 rfl) ?_
        refine gg4_0 X hP kc_25 (sk_in hN kc_25 (by decide)) hi4 (List.mem_of_getElem? (i := 1) rfl) dX4_dropOldest_35 ?_
        refine lv_iload_n hx hb dX4_dropOldest_38 rfl (lv_at hl 2 rfl) ?_
        refine gv_aload_n (r := Option.map b r6) hx hb dX4_dropOldest_39 rfl (lv_at hl 0 rfl) ?_
        obtain ⟨n12, rfl, h⟩ := hb_some h
        obtain ⟨hk_n12, h⟩ := hk_some h
        obtain ⟨hgi13, h⟩ := hg_some h
        refine gs25 X hP hS kc_26 (sk_in hN kc_26 (by decide)) hk_n12 (sk_in hN hk_n12 (by decide)) hgi13 dX4_dropOldest_40 (fun H locs hP hS => ?_)
        obtain ⟨O14, eO14, h⟩ := hlet_ex h
        rw [← eO14] at hP
        obtain ⟨x15, ex15, h⟩ := hlet_ex h
        refine lv_iinc (v := x15) (lv' := [(1, .int x15), (2, .ref (b n12)), (0, .ref (b 25))]) hx hb dX4_dropOldest_41 hl (k := 2) rfl (by rw [ex15]; rfl) (by decide) rfl (fun ls hl => ?_)
        refine lv_goto (tgt := 2) hx hb dX4_dropOldest_44 (by decide) ?_
        exact ih _ _ _ _ _ h hP hS (lv_sub hl [2, 0] rfl)
  exact hL2 FU _ _ _ _ _ hv hP hS (lv_sub hl [1, 0] rfl)
def f_X4_save (a1 : Nat) (I : Nat → Nat → Int32) (O : Nat → Nat → Option Nat) : Option ((Nat → Nat → Int32) × (Nat → Nat → Option Nat)) :=
  (show Option ((Nat → Nat → Int32) × (Nat → Nat → Option Nat)) from
    if (I 25 1) < (6 : Int32) then
      some (I, O)
    else
      (f_X4_dropOldest I O).bind fun (I11, O12) =>
      some (I11, O12)).bind fun (I1, O2) =>
  if (I1 25 1) < 0 then
    some (I1, O2)
  else
    if (6 : Int32) ≤ (I1 25 1) then
      some (I1, O2)
    else
      hg (gin (I1 25 1) 6) <|
      hlet (ov 3 (O2 26 ((I1 25 1).toNatClampNeg))) fun r4 =>
      hopt r4 (
        some (I1, O2)) fun n5 => hk n5 3 <|
      (f_X3_takeFrom n5 a1 I1).bind fun I6 =>
      hlet (gup I6 25 1 ((I6 25 1) + (1 : Int32))) fun I8 =>
      some (I8, O2)
set_option maxHeartbeats 8000000 in
set_option maxRecDepth 100000 in
theorem c_X4_save {l : Launch} {dC : Nat → ClassId} {dI : Nat → Nat → Nat} {ca : Nat → ClassId} {b : Nat → Nat} {A : Nat → Prop} {N : Nat} (hN : 129 ≤ N) (hA : gAd A b N) (I : Nat → Nat → Int32) (O : Nat → Nat → Option Nat) (J : Nat → Nat → Int64) (a1 : Nat) (hk_a1 : SHK a1 = 3) (res : (Nat → Nat → Int32) × (Nat → Nat → Option Nat)) (h : f_X4_save a1 I O = some res) : Met l yX4_save wsX4_save ({ frames := 2, cells := 0, slots := 0, locals := 45 } : Room) (va_Pc [.ref (b 25), .ref (b a1)] (gPre dC dI ca b A N I O J)) (va_Qv (fun (u : (Nat → Nat → Int32) × (Nat → Nat → Option Nat)) => res = u) (fun (u : (Nat → Nat → Int32) × (Nat → Nat → Option Nat)) t => va_P (dC, dI) vwCl (hW N ca b u.1 u.2 J) t.heap) A) 0 0 A := by
  refine Met.ofW (cc := cX4_save) (maxL := 3) (ret := none) (by decide) rfl ?_
  intro p e s m args below meth c s₁ B hml hv
  obtain ⟨rfl, hP, hK, hA2, hth⟩ := hv
  have hx := B.exec
  have hb := B.bytes
  have hr := B.returns
  have hlk := B.notSynchronized
  have X : gCx p s m ([.ref (b 25), .ref (b a1)] : List Value).toArray c RX4 cX4_save wsX4_save 3 dC dI ca b A N := ⟨hx, hb, hml, findClass_of_methodNamed B.named, atoms_spec (ws := wsX4_save) B.pre, hK, hA, hA2, hth⟩
  have hi4 : ∀ w ∈ wsX40, w ∈ wsX4_save := (fun w h => List.mem_cons_of_mem _ (List.mem_append_left _ (List.mem_append_left _ (List.mem_append_right _ h))))
  have hS : va_S A s.heap s.heap [] := va_S.rf
  have hl := lv_entry ([.ref (b 25), .ref (b a1)] : List Value) (n := 3) (Nat.le_of_ble_eq_true rfl)
  rw [lg_entry_eq]
  generalize (lg_sl ([.ref (b 25), .ref (b a1)] : List Value) ++ List.replicate (3 - (lg_sl ([.ref (b 25), .ref (b a1)] : List Value)).length) Slot.unset).toArray = ls at hl ⊢
  have hl : lv_has ls 3 [(0, .ref (b 25)), (1, .ref (b a1))] := hl
  unfold f_X4_save at h
  refine lv_aload_n hx hb dX4_save_0 rfl (lv_at hl 0 rfl) ?_
  refine gg4_1 X hP kc_25 (sk_in hN kc_25 (by decide)) hi4 (List.mem_of_getElem? (i := 1) rfl) dX4_save_1 ?_
  refine lv_aload_n hx hb dX4_save_4 rfl (lv_at hl 0 rfl) ?_
  refine gg4_0 X hP kc_25 (sk_in hN kc_25 (by decide)) hi4 (List.mem_of_getElem? (i := 2) rfl) dX4_save_5 ?_
  refine gl25 X hP kc_26 (sk_in hN kc_26 (by decide)) dX4_save_8 ?_
  obtain ⟨⟨I1, O2⟩, hv, h⟩ := hb_some h
  have K16 : ∀ (H : Heap) (locs : List Loc) (ls : Array Slot), va_P (dC, dI) vwCl (hW N ca b I1 O2 J) H → va_S A s.heap H locs → lv_has ls 3 [(0, .ref (b 25)), (1, .ref (b a1))] → W p l e (headSpec wsX4_save ({ frames := 2, cells := 0, slots := 0, locals := 45 } : Room)).room s m ([.ref (b 25), .ref (b a1)] : List Value).toArray below meth c H locs 0 0 (MQ below (va_Qv (fun (u : (Nat → Nat → Int32) × (Nat → Nat → Option Nat)) => res = u) (fun (u : (Nat → Nat → Int32) × (Nat → Nat → Option Nat)) t => va_P (dC, dI) vwCl (hW N ca b u.1 u.2 J) t.heap) A) ([.ref (b 25), .ref (b a1)] : List Value).toArray s 0 0 A) (F0 m 16 ls []) := by
    intro H locs ls hP hS hl
    refine lv_aload_n hx hb dX4_save_16 rfl (lv_at hl 0 rfl) ?_
    refine gg4_1 X hP kc_25 (sk_in hN kc_25 (by decide)) hi4 (List.mem_of_getElem? (i := 1) rfl) dX4_save_17 ?_
    refine lv_if_lt (tgt := 64) hx hb dX4_save_20 (by decide) (fun c10 => ?_) (fun c10 => ?_)
    · have h := gif_t c10 h
      exact W.vret hx hb hr (fun t9 ht hW => ⟨⟨(I1, O2), rfl, (Option.some.inj h).symm, gEnd ht hP⟩, hS.F ht⟩) hS.2.2 dX4_save_64 hlk
    · have h := gif_f c10 h
      refine lv_aload_n hx hb dX4_save_23 rfl (lv_at hl 0 rfl) ?_
      refine gg4_1 X hP kc_25 (sk_in hN kc_25 (by decide)) hi4 (List.mem_of_getElem? (i := 1) rfl) dX4_save_24 ?_
      refine lv_aload_n hx hb dX4_save_27 rfl (lv_at hl 0 rfl) ?_
      refine gg4_0 X hP kc_25 (sk_in hN kc_25 (by decide)) hi4 (List.mem_of_getElem? (i := 2) rfl) dX4_save_28 ?_
      refine gl25 X hP kc_26 (sk_in hN kc_26 (by decide)) dX4_save_31 ?_
      refine lv_icmp_ge (tgt := 64) hx hb dX4_save_32 (by decide) (fun c9 => ?_) (fun c9 => ?_)
      · have h := gif_t c9 h
        exact W.vret hx hb hr (fun t9 ht hW => ⟨⟨(I1, O2), rfl, (Option.some.inj h).symm, gEnd ht hP⟩, hS.F ht⟩) hS.2.2 dX4_save_64 hlk
      · have h := gif_f c9 h
        refine lv_aload_n hx hb dX4_save_35 rfl (lv_at hl 0 rfl) ?_
        refine gg4_0 X hP kc_25 (sk_in hN kc_25 (by decide)) hi4 (List.mem_of_getElem? (i := 2) rfl) dX4_save_36 ?_
        refine lv_aload_n hx hb dX4_save_39 rfl (lv_at hl 0 rfl) ?_
        refine gg4_1 X hP kc_25 (sk_in hN kc_25 (by decide)) hi4 (List.mem_of_getElem? (i := 1) rfl) dX4_save_40 ?_
        obtain ⟨hgi3, h⟩ := hg_some h
        refine ga25 X hP kc_26 (sk_in hN kc_26 (by decide)) hgi3 dX4_save_43 ?_
        refine gv_top (fun r4 er4 => ?_)
        have h := hlet_some er4 h
        refine gv_astore_n (r := Option.map b r4) (lv' := [(2, va_rf (Option.map b r4)), (0, .ref (b 25)), (1, .ref (b a1))]) hx hb dX4_save_44 rfl hl (by decide) rfl (fun ls hl => ?_)
        refine gv_aload_n (r := Option.map b r4) hx hb dX4_save_45 rfl (lv_at hl 0 rfl) ?_
        cases r4 with
        | none =>
          have h := hopt_n h
          refine lv_ifnullN (tgt := 64) hx hb dX4_save_46 (by decide) ?_
          exact W.vret hx hb hr (fun t9 ht hW => ⟨⟨(I1, O2), rfl, (Option.some.inj h).symm, gEnd ht hP⟩, hS.F ht⟩) hS.2.2 dX4_save_64 hlk
        | some n5 =>
          obtain ⟨hk_n5, h⟩ := hk_some (hopt_s h)
          refine lv_ifnull hx hb dX4_save_46 ?_
          refine lv_aload_n hx hb dX4_save_49 rfl (lv_at hl 0 rfl) ?_
          refine lv_aload_n hx hb dX4_save_50 rfl (lv_at hl 2 rfl) ?_
          obtain ⟨q7, hcq7, h⟩ := hb_some h
          refine gdV_v (As := [.ref (b a1)]) (rest := []) (BH := (fun (u : Nat → Nat → Int32) H => va_P (dC, dI) vwCl (hW N ca b u O2 J) H)) X hP hS (c_X3_takeFrom hN hA I1 O2 J n5 a1 hk_n5 hk_a1 q7 hcq7) (cwV 1 X.ts gX4_save_X3_takeFrom rfl rfl rfl (by decide +kernel) ⟨Nat.le_of_ble_eq_true rfl, Nat.le_of_ble_eq_true rfl⟩) (gr3 X hP hk_n5 (sk_in hN hk_n5 (by decide))) rfl hl.1 rfl (Nat.le_of_ble_eq_true rfl) dX4_save_51 ⟨Nat.le_of_ble_eq_true rfl, Nat.le_of_ble_eq_true rfl⟩ (fun I6 H locs hw hP hS => ?_)
          have hw := hw.symm
          subst hw
          refine lv_aload_n hx hb dX4_save_54 rfl (lv_at hl 1 rfl) ?_
          refine lv_dup hx hb dX4_save_55 rfl ?_
          refine gg4_1 X hP kc_25 (sk_in hN kc_25 (by decide)) hi4 (List.mem_of_getElem? (i := 1) rfl) dX4_save_56 ?_
          refine lv_iconst (v := 1) hx hb dX4_save_59 (by decide) ?_
          refine lv_iadd hx hb dX4_save_60 ?_
          refine gp4_1 X hP hS kc_25 (sk_in hN kc_25 (by decide)) hi4 (List.mem_of_getElem? (i := 1) rfl) dX4_save_61 (fun H locs hP hS => ?_)
          obtain ⟨I8, eI8, h⟩ := hlet_ex h
          rw [← eI8] at hP
          exact W.vret hx hb hr (fun t9 ht hW => ⟨⟨(I8, O2), rfl, (Option.some.inj h).symm, gEnd ht hP⟩, hS.F ht⟩) hS.2.2 dX4_save_64 hlk
  have h := hv
  refine lv_icmp_lt (tgt := 16) hx hb dX4_save_9 (by decide) (fun c14 => ?_) (fun c14 => ?_)
  · have h := gif_t c14 h
    cases h
    exact K16 _ _ _ hP hS (lv_sub hl [0, 1] rfl)
  · have h := gif_f c14 h
    refine lv_aload_n hx hb dX4_save_12 rfl (lv_at hl 0 rfl) ?_
    obtain ⟨q13, hcq13, h⟩ := hb_some h
    refine gdV_v (As := []) (rest := []) (BH := (fun (u : (Nat → Nat → Int32) × (Nat → Nat → Option Nat)) H => va_P (dC, dI) vwCl (hW N ca b u.1 u.2 J) H)) X hP hS (c_X4_dropOldest hN hA I O J q13 hcq13) (cwV 0 X.ts gX4_save_X4_dropOldest rfl rfl rfl (by decide +kernel) ⟨Nat.le_of_ble_eq_true rfl, Nat.le_of_ble_eq_true rfl⟩) (gr4 X hP kc_25 (sk_in hN kc_25 (by decide))) rfl hl.1 rfl (Nat.le_of_ble_eq_true rfl) dX4_save_13 ⟨Nat.le_of_ble_eq_true rfl, Nat.le_of_ble_eq_true rfl⟩ (fun u9 H locs hw hP hS => ?_)
    obtain ⟨I11, O12⟩ := u9
    subst hw
    cases h
    exact K16 _ _ _ hP hS (lv_sub hl [0, 1] rfl)
def f_X4_dropLatest (I : Nat → Nat → Int32) (O : Nat → Nat → Option Nat) : Option (Option Nat × (Nat → Nat → Int32)) :=
  if (I 25 1) ≤ 0 then
    some ((none : Option Nat), I)
  else
    if (I 25 1) ≤ (6 : Int32) then
      hlet (gup I 25 1 ((I 25 1) - (1 : Int32))) fun I1 =>
      hg (gin (I1 25 1) 6) <|
      hlet (ov 3 (O 26 ((I1 25 1).toNatClampNeg))) fun r3 =>
      some (r3, I1)
    else
      some ((none : Option Nat), I)
set_option maxHeartbeats 8000000 in
set_option maxRecDepth 100000 in
theorem c_X4_dropLatest {l : Launch} {dC : Nat → ClassId} {dI : Nat → Nat → Nat} {ca : Nat → ClassId} {b : Nat → Nat} {A : Nat → Prop} {N : Nat} (hN : 129 ≤ N) (hA : gAd A b N) (I : Nat → Nat → Int32) (O : Nat → Nat → Option Nat) (J : Nat → Nat → Int64) (res : Option Nat × (Nat → Nat → Int32)) (h : f_X4_dropLatest I O = some res) : Met l yX4_dropLatest wsX4_dropLatest ({ frames := 0, cells := 0, slots := 0, locals := 0 } : Room) (va_Pc [.ref (b 25)] (gPre dC dI ca b A N I O J)) (va_Qq (fun (r : Option Nat) (u : Nat → Nat → Int32) => ∃ v, r = Option.map b v ∧ res = (v, u)) (fun (u : Nat → Nat → Int32) t => va_P (dC, dI) vwCl (hW N ca b u O J) t.heap) A) 0 0 A := by
  refine Met.ofW (cc := cX4_dropLatest) (maxL := 1) (ret := (some (.object "SparrowRace$Race"))) (by decide) rfl ?_
  intro p e s m args below meth c s₁ B hml hv
  obtain ⟨rfl, hP, hK, hA2, hth⟩ := hv
  have hx := B.exec
  have hb := B.bytes
  have hr := B.returns
  have hlk := B.notSynchronized
  have X : gCx p s m ([.ref (b 25)] : List Value).toArray c RX4 cX4_dropLatest wsX4_dropLatest 1 dC dI ca b A N := ⟨hx, hb, hml, findClass_of_methodNamed B.named, atoms_spec (ws := wsX4_dropLatest) B.pre, hK, hA, hA2, hth⟩
  have hi4 : ∀ w ∈ wsX40, w ∈ wsX4_dropLatest := (fun w h => List.mem_cons_of_mem _ (List.mem_append_right _ h))
  have hS : va_S A s.heap s.heap [] := va_S.rf
  have hl := lv_entry ([.ref (b 25)] : List Value) (n := 1) (Nat.le_of_ble_eq_true rfl)
  rw [lg_entry_eq]
  generalize (lg_sl ([.ref (b 25)] : List Value) ++ List.replicate (1 - (lg_sl ([.ref (b 25)] : List Value)).length) Slot.unset).toArray = ls at hl ⊢
  have hl : lv_has ls 1 [(0, .ref (b 25))] := hl
  unfold f_X4_dropLatest at h
  refine lv_aload_n hx hb dX4_dropLatest_0 rfl (lv_at hl 0 rfl) ?_
  refine gg4_1 X hP kc_25 (sk_in hN kc_25 (by decide)) hi4 (List.mem_of_getElem? (i := 1) rfl) dX4_dropLatest_1 ?_
  refine lv_if_le (tgt := 19) hx hb dX4_dropLatest_4 (by decide) (fun c5 => ?_) (fun c5 => ?_)
  · have h := gif_t c5 h
    refine lv_null hx hb dX4_dropLatest_19 ?_
    exact W.aret (v := .null) (rt := (.object "SparrowRace$Race")) hx hb hr (Or.inl ⟨_, rfl⟩) (Or.inl rfl) (fun t9 ht hW => ⟨⟨Option.map b (none : Option Nat), I, rfl, ⟨(none : Option Nat), rfl, (Option.some.inj h).symm⟩, gEnd ht hP⟩, hS.F ht⟩) hS.2.2 dX4_dropLatest_20 hlk
  · have h := gif_f c5 h
    refine lv_aload_n hx hb dX4_dropLatest_7 rfl (lv_at hl 0 rfl) ?_
    refine gg4_1 X hP kc_25 (sk_in hN kc_25 (by decide)) hi4 (List.mem_of_getElem? (i := 1) rfl) dX4_dropLatest_8 ?_
    refine lv_aload_n hx hb dX4_dropLatest_11 rfl (lv_at hl 0 rfl) ?_
    refine gg4_0 X hP kc_25 (sk_in hN kc_25 (by decide)) hi4 (List.mem_of_getElem? (i := 2) rfl) dX4_dropLatest_12 ?_
    refine gl25 X hP kc_26 (sk_in hN kc_26 (by decide)) dX4_dropLatest_15 ?_
    refine lv_icmp_le (tgt := 21) hx hb dX4_dropLatest_16 (by decide) (fun c4 => ?_) (fun c4 => ?_)
    · have h := gif_t c4 h
      refine lv_aload_n hx hb dX4_dropLatest_21 rfl (lv_at hl 0 rfl) ?_
      refine lv_dup hx hb dX4_dropLatest_22 rfl ?_
      refine gg4_1 X hP kc_25 (sk_in hN kc_25 (by decide)) hi4 (List.mem_of_getElem? (i := 1) rfl) dX4_dropLatest_23 ?_
      refine lv_iconst (v := 1) hx hb dX4_dropLatest_26 (by decide) ?_
      refine lv_isub hx hb dX4_dropLatest_27 ?_
      refine gp4_1 X hP hS kc_25 (sk_in hN kc_25 (by decide)) hi4 (List.mem_of_getElem? (i := 1) rfl) dX4_dropLatest_28 (fun H locs hP hS => ?_)
      obtain ⟨I1, eI1, h⟩ := hlet_ex h
      rw [← eI1] at hP
      refine lv_aload_n hx hb dX4_dropLatest_31 rfl (lv_at hl 0 rfl) ?_
      refine gg4_0 X hP kc_25 (sk_in hN kc_25 (by decide)) hi4 (List.mem_of_getElem? (i := 2) rfl) dX4_dropLatest_32 ?_
      refine lv_aload_n hx hb dX4_dropLatest_35 rfl (lv_at hl 0 rfl) ?_
      refine gg4_1 X hP kc_25 (sk_in hN kc_25 (by decide)) hi4 (List.mem_of_getElem? (i := 1) rfl) dX4_dropLatest_36 ?_
      obtain ⟨hgi2, h⟩ := hg_some h
      refine ga25 X hP kc_26 (sk_in hN kc_26 (by decide)) hgi2 dX4_dropLatest_39 ?_
      refine gv_top (fun r3 er3 => ?_)
      have h := hlet_some er3 h
      exact W.aret (v := va_rf (Option.map b r3)) (rt := (.object "SparrowRace$Race")) hx hb hr (Or.inl ⟨_, rfl⟩) (va_rf_or _) (fun t9 ht hW => ⟨⟨Option.map b r3, I1, rfl, ⟨r3, rfl, (Option.some.inj h).symm⟩, gEnd ht hP⟩, hS.F ht⟩) hS.2.2 dX4_dropLatest_40 hlk
    · have h := gif_f c4 h
      refine lv_null hx hb dX4_dropLatest_19 ?_
      exact W.aret (v := .null) (rt := (.object "SparrowRace$Race")) hx hb hr (Or.inl ⟨_, rfl⟩) (Or.inl rfl) (fun t9 ht hW => ⟨⟨Option.map b (none : Option Nat), I, rfl, ⟨(none : Option Nat), rfl, (Option.some.inj h).symm⟩, gEnd ht hP⟩, hS.F ht⟩) hS.2.2 dX4_dropLatest_20 hlk
def f_X5_put (a1 : Int32) (a2 : Nat) (I : Nat → Nat → Int32) : Option (Nat → Nat → Int32) :=
  if a1 < 0 then
    some I
  else
    if (2 : Int32) ≤ a1 then
      some I
    else
      if (2 : Int32) ≤ a1 then
        some I
      else
        hg (gin a1 2) <|
        (f_X3_takeFrom (102 + 12 * a1.toNatClampNeg) a2 I).bind fun I2 =>
        hg (gin a1 2) <|
        hlet (gup I2 101 (a1.toNatClampNeg) (1 : Int32)) fun I5 =>
        some I5
set_option maxHeartbeats 8000000 in
set_option maxRecDepth 100000 in
theorem c_X5_put {l : Launch} {dC : Nat → ClassId} {dI : Nat → Nat → Nat} {ca : Nat → ClassId} {b : Nat → Nat} {A : Nat → Prop} {N : Nat} (hN : 129 ≤ N) (hA : gAd A b N) (I : Nat → Nat → Int32) (O : Nat → Nat → Option Nat) (J : Nat → Nat → Int64) (a1 : Int32) (a2 : Nat) (hk_a2 : SHK a2 = 3) (res : Nat → Nat → Int32) (h : f_X5_put a1 a2 I = some res) : Met l yX5_put wsX5_put ({ frames := 2, cells := 0, slots := 0, locals := 45 } : Room) (va_Pc [.ref (b 99), .int a1, .ref (b a2)] (gPre dC dI ca b A N I O J)) (va_Qv (fun (u : Nat → Nat → Int32) => res = u) (fun (u : Nat → Nat → Int32) t => va_P (dC, dI) vwCl (hW N ca b u O J) t.heap) A) 0 0 A := by
  refine Met.ofW (cc := cX5_put) (maxL := 4) (ret := none) (by decide) rfl ?_
  intro p e s m args below meth c s₁ B hml hv
  obtain ⟨rfl, hP, hK, hA2, hth⟩ := hv
  have hx := B.exec
  have hb := B.bytes
  have hr := B.returns
  have hlk := B.notSynchronized
  have X : gCx p s m ([.ref (b 99), .int a1, .ref (b a2)] : List Value).toArray c RX5 cX5_put wsX5_put 4 dC dI ca b A N := ⟨hx, hb, hml, findClass_of_methodNamed B.named, atoms_spec (ws := wsX5_put) B.pre, hK, hA, hA2, hth⟩
  have hi5 : ∀ w ∈ wsX50, w ∈ wsX5_put := (fun w h => List.mem_cons_of_mem _ (List.mem_append_left _ (List.mem_append_left _ (List.mem_append_right _ h))))
  have hS : va_S A s.heap s.heap [] := va_S.rf
  have hl := lv_entry ([.ref (b 99), .int a1, .ref (b a2)] : List Value) (n := 4) (Nat.le_of_ble_eq_true rfl)
  rw [lg_entry_eq]
  generalize (lg_sl ([.ref (b 99), .int a1, .ref (b a2)] : List Value) ++ List.replicate (4 - (lg_sl ([.ref (b 99), .int a1, .ref (b a2)] : List Value)).length) Slot.unset).toArray = ls at hl ⊢
  have hl : lv_has ls 4 [(0, .ref (b 99)), (1, .int a1), (2, .ref (b a2))] := hl
  unfold f_X5_put at h
  refine lv_iload_n hx hb dX5_put_0 rfl (lv_at hl 1 rfl) ?_
  refine lv_if_lt (tgt := 45) hx hb dX5_put_1 (by decide) (fun c8 => ?_) (fun c8 => ?_)
  · have h := gif_t c8 h
    exact W.vret hx hb hr (fun t9 ht hW => ⟨⟨I, rfl, (Option.some.inj h).symm, gEnd ht hP⟩, hS.F ht⟩) hS.2.2 dX5_put_45 hlk
  · have h := gif_f c8 h
    refine lv_iload_n hx hb dX5_put_4 rfl (lv_at hl 1 rfl) ?_
    refine lv_aload_n hx hb dX5_put_5 rfl (lv_at hl 0 rfl) ?_
    refine gg5_0 X hP kc_99 (sk_in hN kc_99 (by decide)) hi5 (List.mem_of_getElem? (i := 1) rfl) dX5_put_6 ?_
    refine gl27 X hP kc_100 (sk_in hN kc_100 (by decide)) dX5_put_9 ?_
    refine lv_icmp_ge (tgt := 45) hx hb dX5_put_10 (by decide) (fun c7 => ?_) (fun c7 => ?_)
    · have h := gif_t c7 h
      exact W.vret hx hb hr (fun t9 ht hW => ⟨⟨I, rfl, (Option.some.inj h).symm, gEnd ht hP⟩, hS.F ht⟩) hS.2.2 dX5_put_45 hlk
    · have h := gif_f c7 h
      refine lv_iload_n hx hb dX5_put_13 rfl (lv_at hl 1 rfl) ?_
      refine lv_aload_n hx hb dX5_put_14 rfl (lv_at hl 0 rfl) ?_
      refine gg5_1 X hP kc_99 (sk_in hN kc_99 (by decide)) hi5 (List.mem_of_getElem? (i := 2) rfl) dX5_put_15 ?_
      refine gl21 X hP kc_101 (sk_in hN kc_101 (by decide)) (L := 2) (by decide) (v := 2) (by decide) dX5_put_18 ?_
      refine lv_icmp_ge (tgt := 45) hx hb dX5_put_19 (by decide) (fun c6 => ?_) (fun c6 => ?_)
      · have h := gif_t c6 h
        exact W.vret hx hb hr (fun t9 ht hW => ⟨⟨I, rfl, (Option.some.inj h).symm, gEnd ht hP⟩, hS.F ht⟩) hS.2.2 dX5_put_45 hlk
      · have h := gif_f c6 h
        refine lv_aload_n hx hb dX5_put_22 rfl (lv_at hl 0 rfl) ?_
        refine gg5_0 X hP kc_99 (sk_in hN kc_99 (by decide)) hi5 (List.mem_of_getElem? (i := 1) rfl) dX5_put_23 ?_
        refine lv_iload_n hx hb dX5_put_26 rfl (lv_at hl 1 rfl) ?_
        obtain ⟨hgi1, h⟩ := hg_some h
        refine ga27 X hP kc_100 (sk_in hN kc_100 (by decide)) hgi1 dX5_put_27 ?_
        refine lv_astore_n (lv' := [(3, .ref (b (102 + 12 * a1.toNatClampNeg))), (0, .ref (b 99)), (1, .int a1), (2, .ref (b a2))]) hx hb dX5_put_28 rfl hl (by decide) rfl (fun ls hl => ?_)
        refine lv_aload_n hx hb dX5_put_29 rfl (lv_at hl 0 rfl) ?_
        refine lv_ifnull hx hb dX5_put_30 ?_
        refine lv_aload_n hx hb dX5_put_33 rfl (lv_at hl 0 rfl) ?_
        refine lv_aload_n hx hb dX5_put_34 rfl (lv_at hl 3 rfl) ?_
        obtain ⟨q3, hcq3, h⟩ := hb_some h
        refine gdV_v (As := [.ref (b a2)]) (rest := []) (BH := (fun (u : Nat → Nat → Int32) H => va_P (dC, dI) vwCl (hW N ca b u O J) H)) X hP hS (c_X3_takeFrom hN hA I O J (102 + 12 * a1.toNatClampNeg) a2 (sk27 (gin_lt hgi1)) hk_a2 q3 hcq3) (cwV 1 X.ts gX5_put_X3_takeFrom rfl rfl rfl (by decide +kernel) ⟨Nat.le_of_ble_eq_true rfl, Nat.le_of_ble_eq_true rfl⟩) (gr3 X hP (sk27 (gin_lt hgi1)) (sk_in hN (sk27 (gin_lt hgi1)) (by decide))) rfl hl.1 rfl (Nat.le_of_ble_eq_true rfl) dX5_put_35 ⟨Nat.le_of_ble_eq_true rfl, Nat.le_of_ble_eq_true rfl⟩ (fun I2 H locs hw hP hS => ?_)
        have hw := hw.symm
        subst hw
        refine lv_aload_n hx hb dX5_put_38 rfl (lv_at hl 1 rfl) ?_
        refine gg5_1 X hP kc_99 (sk_in hN kc_99 (by decide)) hi5 (List.mem_of_getElem? (i := 2) rfl) dX5_put_39 ?_
        refine lv_iload_n hx hb dX5_put_42 rfl (lv_at hl 2 rfl) ?_
        refine lv_iconst (v := 1) hx hb dX5_put_43 (by decide) ?_
        obtain ⟨hgi4, h⟩ := hg_some h
        refine gs21 X hP hS kc_101 (sk_in hN kc_101 (by decide)) (L := 2) (by decide) hgi4 (by decide) dX5_put_44 (fun H locs hP hS => ?_)
        obtain ⟨I5, eI5, h⟩ := hlet_ex h
        rw [← eI5] at hP
        exact W.vret hx hb hr (fun t9 ht hW => ⟨⟨I5, rfl, (Option.some.inj h).symm, gEnd ht hP⟩, hS.F ht⟩) hS.2.2 dX5_put_45 hlk
def f_X5_kept (a1 : Int32) (I : Nat → Nat → Int32) : Option (Option Nat) :=
  if a1 < 0 then
    some (none : Option Nat)
  else
    if (2 : Int32) ≤ a1 then
      some (none : Option Nat)
    else
      if (2 : Int32) ≤ a1 then
        some (none : Option Nat)
      else
        hg (gin a1 2) <|
        if (I 101 (a1.toNatClampNeg)) = 0 then
          some (none : Option Nat)
        else
          hg (gin a1 2) <|
          some (some (102 + 12 * a1.toNatClampNeg))
set_option maxHeartbeats 8000000 in
set_option maxRecDepth 100000 in
theorem c_X5_kept {l : Launch} {dC : Nat → ClassId} {dI : Nat → Nat → Nat} {ca : Nat → ClassId} {b : Nat → Nat} {A : Nat → Prop} {N : Nat} (hN : 129 ≤ N) (hA : gAd A b N) (I : Nat → Nat → Int32) (O : Nat → Nat → Option Nat) (J : Nat → Nat → Int64) (a1 : Int32) (res : Option Nat) (h : f_X5_kept a1 I = some res) : Met l yX5_kept wsX5_kept ({ frames := 0, cells := 0, slots := 0, locals := 0 } : Room) (va_Pc [.ref (b 99), .int a1] (gPre dC dI ca b A N I O J)) (va_Qq (fun (r : Option Nat) (u : Unit) => ∃ v, r = Option.map b v ∧ res = v) (fun (u : Unit) t => va_P (dC, dI) vwCl (hW N ca b I O J) t.heap) A) 0 0 A := by
  refine Met.ofW (cc := cX5_kept) (maxL := 2) (ret := (some (.object "SparrowRace$Race"))) (by decide) rfl ?_
  intro p e s m args below meth c s₁ B hml hv
  obtain ⟨rfl, hP, hK, hA2, hth⟩ := hv
  have hx := B.exec
  have hb := B.bytes
  have hr := B.returns
  have hlk := B.notSynchronized
  have X : gCx p s m ([.ref (b 99), .int a1] : List Value).toArray c RX5 cX5_kept wsX5_kept 2 dC dI ca b A N := ⟨hx, hb, hml, findClass_of_methodNamed B.named, atoms_spec (ws := wsX5_kept) B.pre, hK, hA, hA2, hth⟩
  have hi5 : ∀ w ∈ wsX50, w ∈ wsX5_kept := (fun w h => List.mem_cons_of_mem _ (List.mem_append_right _ h))
  have hS : va_S A s.heap s.heap [] := va_S.rf
  have hl := lv_entry ([.ref (b 99), .int a1] : List Value) (n := 2) (Nat.le_of_ble_eq_true rfl)
  rw [lg_entry_eq]
  generalize (lg_sl ([.ref (b 99), .int a1] : List Value) ++ List.replicate (2 - (lg_sl ([.ref (b 99), .int a1] : List Value)).length) Slot.unset).toArray = ls at hl ⊢
  have hl : lv_has ls 2 [(0, .ref (b 99)), (1, .int a1)] := hl
  unfold f_X5_kept at h
  refine lv_iload_n hx hb dX5_kept_0 rfl (lv_at hl 1 rfl) ?_
  refine lv_if_lt (tgt := 31) hx hb dX5_kept_1 (by decide) (fun c6 => ?_) (fun c6 => ?_)
  · have h := gif_t c6 h
    refine lv_null hx hb dX5_kept_31 ?_
    exact W.aret (v := .null) (rt := (.object "SparrowRace$Race")) hx hb hr (Or.inl ⟨_, rfl⟩) (Or.inl rfl) (fun t9 ht hW => ⟨⟨Option.map b (none : Option Nat), (), rfl, ⟨(none : Option Nat), rfl, (Option.some.inj h).symm⟩, gEnd ht hP⟩, hS.F ht⟩) hS.2.2 dX5_kept_32 hlk
  · have h := gif_f c6 h
    refine lv_iload_n hx hb dX5_kept_4 rfl (lv_at hl 1 rfl) ?_
    refine lv_aload_n hx hb dX5_kept_5 rfl (lv_at hl 0 rfl) ?_
    refine gg5_0 X hP kc_99 (sk_in hN kc_99 (by decide)) hi5 (List.mem_of_getElem? (i := 1) rfl) dX5_kept_6 ?_
    refine gl27 X hP kc_100 (sk_in hN kc_100 (by decide)) dX5_kept_9 ?_
    refine lv_icmp_ge (tgt := 31) hx hb dX5_kept_10 (by decide) (fun c5 => ?_) (fun c5 => ?_)
    · have h := gif_t c5 h
      refine lv_null hx hb dX5_kept_31 ?_
      exact W.aret (v := .null) (rt := (.object "SparrowRace$Race")) hx hb hr (Or.inl ⟨_, rfl⟩) (Or.inl rfl) (fun t9 ht hW => ⟨⟨Option.map b (none : Option Nat), (), rfl, ⟨(none : Option Nat), rfl, (Option.some.inj h).symm⟩, gEnd ht hP⟩, hS.F ht⟩) hS.2.2 dX5_kept_32 hlk
    · have h := gif_f c5 h
      refine lv_iload_n hx hb dX5_kept_13 rfl (lv_at hl 1 rfl) ?_
      refine lv_aload_n hx hb dX5_kept_14 rfl (lv_at hl 0 rfl) ?_
      refine gg5_1 X hP kc_99 (sk_in hN kc_99 (by decide)) hi5 (List.mem_of_getElem? (i := 2) rfl) dX5_kept_15 ?_
      refine gl21 X hP kc_101 (sk_in hN kc_101 (by decide)) (L := 2) (by decide) (v := 2) (by decide) dX5_kept_18 ?_
      refine lv_icmp_ge (tgt := 31) hx hb dX5_kept_19 (by decide) (fun c4 => ?_) (fun c4 => ?_)
      · have h := gif_t c4 h
        refine lv_null hx hb dX5_kept_31 ?_
        exact W.aret (v := .null) (rt := (.object "SparrowRace$Race")) hx hb hr (Or.inl ⟨_, rfl⟩) (Or.inl rfl) (fun t9 ht hW => ⟨⟨Option.map b (none : Option Nat), (), rfl, ⟨(none : Option Nat), rfl, (Option.some.inj h).symm⟩, gEnd ht hP⟩, hS.F ht⟩) hS.2.2 dX5_kept_32 hlk
      · have h := gif_f c4 h
        refine lv_aload_n hx hb dX5_kept_22 rfl (lv_at hl 0 rfl) ?_
        refine gg5_1 X hP kc_99 (sk_in hN kc_99 (by decide)) hi5 (List.mem_of_getElem? (i := 2) rfl) dX5_kept_23 ?_
        refine lv_iload_n hx hb dX5_kept_26 rfl (lv_at hl 1 rfl) ?_
        obtain ⟨hgi1, h⟩ := hg_some h
        refine ga21 X hP kc_101 (sk_in hN kc_101 (by decide)) (L := 2) (by decide) hgi1 dX5_kept_27 ?_
        refine lv_if_ne (tgt := 33) hx hb dX5_kept_28 (by decide) (fun c3 => ?_) (fun c3 => ?_)
        · have h := gif_f c3 h
          refine lv_aload_n hx hb dX5_kept_33 rfl (lv_at hl 0 rfl) ?_
          refine gg5_0 X hP kc_99 (sk_in hN kc_99 (by decide)) hi5 (List.mem_of_getElem? (i := 1) rfl) dX5_kept_34 ?_
          refine lv_iload_n hx hb dX5_kept_37 rfl (lv_at hl 1 rfl) ?_
          obtain ⟨hgi2, h⟩ := hg_some h
          refine ga27 X hP kc_100 (sk_in hN kc_100 (by decide)) hgi2 dX5_kept_38 ?_
          exact W.aret (v := .ref (b (102 + 12 * a1.toNatClampNeg))) (rt := (.object "SparrowRace$Race")) hx hb hr (Or.inl ⟨_, rfl⟩) (Or.inr ⟨_, rfl⟩) (fun t9 ht hW => ⟨⟨Option.map b (some (102 + 12 * a1.toNatClampNeg)), (), rfl, ⟨(some (102 + 12 * a1.toNatClampNeg)), rfl, (Option.some.inj h).symm⟩, gEnd ht hP⟩, hS.F ht⟩) hS.2.2 dX5_kept_39 hlk
        · have h := gif_t c3 h
          refine lv_null hx hb dX5_kept_31 ?_
          exact W.aret (v := .null) (rt := (.object "SparrowRace$Race")) hx hb hr (Or.inl ⟨_, rfl⟩) (Or.inl rfl) (fun t9 ht hW => ⟨⟨Option.map b (none : Option Nat), (), rfl, ⟨(none : Option Nat), rfl, (Option.some.inj h).symm⟩, gEnd ht hP⟩, hS.F ht⟩) hS.2.2 dX5_kept_32 hlk
