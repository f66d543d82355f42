def f_X7_isPace (a0 : Int32) : Option (Int32) :=
  if a0 < (10 : Int32) then
    some (0 : Int32)
  else
    if (40 : Int32) < a0 then
      some (0 : Int32)
    else
      some (1 : Int32)
set_option maxHeartbeats 8000000 in
set_option maxRecDepth 100000 in
theorem c_X7_isPace {l : Launch} {dC : Nat → ClassId} {dI : Nat → Nat → Nat} {ca : Nat → ClassId} {b : Nat → Nat} {A : Nat → Prop} {N : Nat} (hN : 129 ≤ N) (hA : gAd A b N) (I : Nat → Nat → Int32) (O : Nat → Nat → Option Nat) (J : Nat → Nat → Int64) (a0 : Int32) (res : Int32) (h : f_X7_isPace a0 = some res) : Met l yX7_isPace wsX7_isPace ({ frames := 0, cells := 0, slots := 0, locals := 0 } : Room) (va_Pc [.int a0] (gPre dC dI ca b A N I O J)) (va_Qi (fun (r : Int32) (u : Unit) => res = r) (fun (u : Unit) t => va_P (dC, dI) vwCl (hW N ca b I O J) t.heap) A) 0 0 A := by
  refine Met.ofW (cc := cX7_isPace) (maxL := 1) (ret := (some .boolean)) (by decide) rfl ?_
  intro p e s m args below meth c s₁ B hml hv
  obtain ⟨rfl, hP, hK, hA2, hth⟩ := hv
  have hx := B.exec
  have hb := B.bytes
  have hr := B.returns
  have hlk := B.notSynchronized
  have X : gCx p s m ([.int a0] : List Value).toArray c RX7 cX7_isPace wsX7_isPace 1 dC dI ca b A N := ⟨hx, hb, hml, findClass_of_methodNamed B.named, atoms_spec (ws := wsX7_isPace) B.pre, hK, hA, hA2, hth⟩
  have hS : va_S A s.heap s.heap [] := va_S.rf
  have hl := lv_entry ([.int a0] : List Value) (n := 1) (Nat.le_of_ble_eq_true rfl)
  rw [lg_entry_eq]
  generalize (lg_sl ([.int a0] : List Value) ++ List.replicate (1 - (lg_sl ([.int a0] : List Value)).length) Slot.unset).toArray = ls at hl ⊢
  have hl : lv_has ls 1 [(0, .int a0)] := hl
  unfold f_X7_isPace at h
  refine lv_iload_n hx hb dX7_isPace_0 rfl (lv_at hl 0 rfl) ?_
  refine lv_bipush (v := 10) hx hb dX7_isPace_1 (by decide) ?_
  refine lv_icmp_lt (tgt := 16) hx hb dX7_isPace_3 (by decide) (fun c2 => ?_) (fun c2 => ?_)
  · have h := gif_t c2 h
    refine lv_iconst (v := 0) hx hb dX7_isPace_16 (by decide) ?_
    exact W.zret (ty := .boolean) hx hb hr (by decide) (fun t9 ht hW => ⟨⟨(0 : Int32), (), rfl, (Option.some.inj h).symm, gEnd ht hP⟩, hS.F ht⟩) hS.2.2 dX7_isPace_17 hlk
  · have h := gif_f c2 h
    refine lv_iload_n hx hb dX7_isPace_6 rfl (lv_at hl 0 rfl) ?_
    refine lv_bipush (v := 40) hx hb dX7_isPace_7 (by decide) ?_
    refine lv_icmp_gt (tgt := 16) hx hb dX7_isPace_9 (by decide) (fun c1 => ?_) (fun c1 => ?_)
    · have h := gif_t c1 h
      refine lv_iconst (v := 0) hx hb dX7_isPace_16 (by decide) ?_
      exact W.zret (ty := .boolean) hx hb hr (by decide) (fun t9 ht hW => ⟨⟨(0 : Int32), (), rfl, (Option.some.inj h).symm, gEnd ht hP⟩, hS.F ht⟩) hS.2.2 dX7_isPace_17 hlk
    · have h := gif_f c1 h
      refine lv_iconst (v := 1) hx hb dX7_isPace_12 (by decide) ?_
      refine lv_goto (tgt := 17) hx hb dX7_isPace_13 (by decide) ?_
      exact W.zret (ty := .boolean) hx hb hr (by decide) (fun t9 ht hW => ⟨⟨(1 : Int32), (), rfl, (Option.some.inj h).symm, gEnd ht hP⟩, hS.F ht⟩) hS.2.2 dX7_isPace_17 hlk
def f_X7_enter (a1 : Int32) (a2 : Int32) (a3 : Int32) (I : Nat → Nat → Int32) (O : Nat → Nat → Option Nat) : Option (Sum Nat Int32 × (Nat → Nat → Int32) × (Nat → Nat → Option Nat)) :=
  (f_X7_isPace a1).bind fun r1 =>
  if r1 = 0 then
    some ((Sum.inl 1), I, O)
  else
    if a2 < (100 : Int32) then
      some ((Sum.inl 1), I, O)
    else
      if (999 : Int32) < a2 then
        some ((Sum.inl 1), I, O)
      else
        if a3 < 0 then
          some ((Sum.inl 1), I, O)
        else
          if a3 ≤ (1 : Int32) then
            if (8 : Int32) ≤ (I 1 3) then
              some ((Sum.inl 2), I, O)
            else
              if (I 1 5) = 0 then
                (f_X4_save 1 I O).bind fun (I3, O4) =>
                (f_X3_addSparrow 1 a1 a2 a3 I3).bind fun (r7, I6) =>
                some ((Sum.inr r7), I6, O4)
              else
                some ((Sum.inl 2), I, O)
          else
            some ((Sum.inl 1), I, O)
set_option maxHeartbeats 8000000 in
set_option maxRecDepth 100000 in
theorem c_X7_enter {l : Launch} (hlf : l.stackTraces = false) {dC : Nat → ClassId} {dI : Nat → Nat → Nat} {ca : Nat → ClassId} {b : Nat → Nat} {A : Nat → Prop} {N : Nat} (hN : 129 ≤ N) (hA : gAd A b N) (I : Nat → Nat → Int32) (O : Nat → Nat → Option Nat) (J : Nat → Nat → Int64) (a1 : Int32) (a2 : Int32) (a3 : Int32) (res : Sum Nat Int32 × (Nat → Nat → Int32) × (Nat → Nat → Option Nat)) (h : f_X7_enter a1 a2 a3 I O = some res) : vx_Met l yX7_enter wsX7_enter ({ frames := 6, cells := 1, slots := 6, locals := 90 } : Room) (va_Pc [.ref (b 0), .int a1, .int a2, .int a3] (gPre dC dI ca b A N I O J)) (va_Qi (fun (r : Int32) (u : (Nat → Nat → Int32) × (Nat → Nat → Option Nat)) => res = (Sum.inr r, u)) (fun (u : (Nat → Nat → Int32) × (Nat → Nat → Option Nat)) t => va_P (dC, dI) vwCl (hW N ca b u.1 u.2 J) t.heap) A) (vx_X (fun (u : Nat × ((Nat → Nat → Int32) × (Nat → Nat → Option Nat))) => res = (Sum.inl u.1, u.2)) (fun E (u : Nat × ((Nat → Nat → Int32) × (Nat → Nat → Option Nat))) t => E = gEn u.1 ∧ (fun (u : (Nat → Nat → Int32) × (Nat → Nat → Option Nat)) H => va_P (dC, dI) vwCl (hW N ca b u.1 u.2 J) H) u.2 t.heap) A) 1 6 A := by
  refine vx_ofW (cc := cX7_enter) (maxL := 4) (ret := (some .int)) (by decide) rfl ?_
  intro p e s m args below meth c s₁ B hml hout hv
  obtain ⟨rfl, hP, hK, hA2, hth⟩ := hv
  have hx := B.exec
  have hb := B.bytes
  have hr := B.returns
  have hlk := B.notSynchronized
  have X : gCx p s m ([.ref (b 0), .int a1, .int a2, .int a3] : List Value).toArray c RX7 cX7_enter wsX7_enter 4 dC dI ca b A N := ⟨hx, hb, hml, findClass_of_methodNamed B.named, atoms_spec (ws := wsX7_enter) B.pre, hK, hA, hA2, hth⟩
  have hi3 : ∀ w ∈ wsX30, w ∈ wsX7_enter := (fun w h => List.mem_cons_of_mem _ (List.mem_append_left _ (List.mem_append_left _ (List.mem_append_left _ (List.mem_append_left _ (List.mem_append_right _ h))))))
  have hi7 : ∀ w ∈ wsX70, w ∈ wsX7_enter := (fun w h => List.mem_cons_of_mem _ (List.mem_append_left _ (List.mem_append_left _ (List.mem_append_left _ (List.mem_append_left _ (List.mem_append_left _ (List.mem_append_right _ h)))))))
  have hg1 : ∀ w ∈ gWg1, w ∈ wsX7_enter := (fun w h => List.mem_cons_of_mem _ (List.mem_append_left _ (List.mem_append_right _ h)))
  have hg2 : ∀ w ∈ gWg2, w ∈ wsX7_enter := (fun w h => List.mem_cons_of_mem _ (List.mem_append_right _ h))
  have hS : va_S A s.heap s.heap [] := va_S.rf
  have hl := lv_entry ([.ref (b 0), .int a1, .int a2, .int a3] : List Value) (n := 4) (Nat.le_of_ble_eq_true rfl)
  rw [lg_entry_eq]
  generalize (lg_sl ([.ref (b 0), .int a1, .int a2, .int a3] : List Value) ++ List.replicate (4 - (lg_sl ([.ref (b 0), .int a1, .int a2, .int a3] : List Value)).length) Slot.unset).toArray = ls at hl ⊢
  have hl : lv_has ls 4 [(0, .ref (b 0)), (1, .int a1), (2, .int a2), (3, .int a3)] := hl
  unfold f_X7_enter at h
  refine lv_iload_n hx hb dX7_enter_0 rfl (lv_at hl 1 rfl) ?_
  obtain ⟨q2, hcq2, h⟩ := hb_some h
  refine gdS_i (As := [.int a1]) (rest := []) (BH := (fun (u : Unit) H => va_P (dC, dI) vwCl (hW N ca b I O J) H)) X hP hS (c_X7_isPace hN hA I O J a1 q2 hcq2) (va_cwS 1 X.ts gX7_enter_X7_isPace rfl rfl rfl (by decide +kernel) ⟨Nat.le_of_ble_eq_true rfl, Nat.le_of_ble_eq_true rfl⟩) rfl hl.1 rfl (Nat.le_of_ble_eq_true rfl) dX7_enter_1 ⟨Nat.le_of_ble_eq_true rfl, Nat.le_of_ble_eq_true rfl⟩ (fun r1 u9 H locs hw hP hS => ?_)
  have hw := hw.symm
  subst hw
  refine lv_if_eq (tgt := 29) hx hb dX7_enter_4 (by decide) (fun c15 => ?_) (fun c15 => ?_)
  · have h := gif_t c15 h
    exact gt1 (S := (Nat → Nat → Int32) × (Nat → Nat → Option Nat)) (BH := (fun (u : (Nat → Nat → Int32) × (Nat → Nat → Option Nat)) H => va_P (dC, dI) vwCl (hW N ca b u.1 u.2 J) H)) X hlf hlk hout hS hg1 (List.mem_of_getElem? (i := 1) rfl) (List.mem_of_getElem? (i := 2) rfl) (List.mem_of_getElem? (i := 0) rfl) hl.1 dX7_enter_29 dX7_enter_32 dX7_enter_33 dX7_enter_35 dX7_enter_38 (Nat.le_of_ble_eq_true rfl) (Nat.le_of_ble_eq_true rfl) (Nat.le_of_ble_eq_true rfl) (Nat.le_of_ble_eq_true rfl) (I, O) (Option.some.inj h).symm (fun H1 hk1 => hP.kept (fun k q hq => hk1 q.1 (hP k q hq).lt)) (Nat.le_of_ble_eq_true rfl) (Nat.le_of_ble_eq_true rfl)
  · have h := gif_f c15 h
    refine lv_iload_n hx hb dX7_enter_7 rfl (lv_at hl 2 rfl) ?_
    refine lv_bipush (v := 100) hx hb dX7_enter_8 (by decide) ?_
    refine lv_icmp_lt (tgt := 29) hx hb dX7_enter_10 (by decide) (fun c14 => ?_) (fun c14 => ?_)
    · have h := gif_t c14 h
      exact gt1 (S := (Nat → Nat → Int32) × (Nat → Nat → Option Nat)) (BH := (fun (u : (Nat → Nat → Int32) × (Nat → Nat → Option Nat)) H => va_P (dC, dI) vwCl (hW N ca b u.1 u.2 J) H)) X hlf hlk hout hS hg1 (List.mem_of_getElem? (i := 1) rfl) (List.mem_of_getElem? (i := 2) rfl) (List.mem_of_getElem? (i := 0) rfl) hl.1 dX7_enter_29 dX7_enter_32 dX7_enter_33 dX7_enter_35 dX7_enter_38 (Nat.le_of_ble_eq_true rfl) (Nat.le_of_ble_eq_true rfl) (Nat.le_of_ble_eq_true rfl) (Nat.le_of_ble_eq_true rfl) (I, O) (Option.some.inj h).symm (fun H1 hk1 => hP.kept (fun k q hq => hk1 q.1 (hP k q hq).lt)) (Nat.le_of_ble_eq_true rfl) (Nat.le_of_ble_eq_true rfl)
    · have h := gif_f c14 h
      refine lv_iload_n hx hb dX7_enter_13 rfl (lv_at hl 2 rfl) ?_
      refine lv_sipush (v := 999) hx hb dX7_enter_14 (by decide) ?_
      refine lv_icmp_gt (tgt := 29) hx hb dX7_enter_17 (by decide) (fun c13 => ?_) (fun c13 => ?_)
      · have h := gif_t c13 h
        exact gt1 (S := (Nat → Nat → Int32) × (Nat → Nat → Option Nat)) (BH := (fun (u : (Nat → Nat → Int32) × (Nat → Nat → Option Nat)) H => va_P (dC, dI) vwCl (hW N ca b u.1 u.2 J) H)) X hlf hlk hout hS hg1 (List.mem_of_getElem? (i := 1) rfl) (List.mem_of_getElem? (i := 2) rfl) (List.mem_of_getElem? (i := 0) rfl) hl.1 dX7_enter_29 dX7_enter_32 dX7_enter_33 dX7_enter_35 dX7_enter_38 (Nat.le_of_ble_eq_true rfl) (Nat.le_of_ble_eq_true rfl) (Nat.le_of_ble_eq_true rfl) (Nat.le_of_ble_eq_true rfl) (I, O) (Option.some.inj h).symm (fun H1 hk1 => hP.kept (fun k q hq => hk1 q.1 (hP k q hq).lt)) (Nat.le_of_ble_eq_true rfl) (Nat.le_of_ble_eq_true rfl)
      · have h := gif_f c13 h
        refine lv_iload_n hx hb dX7_enter_20 rfl (lv_at hl 3 rfl) ?_
        refine lv_if_lt (tgt := 29) hx hb dX7_enter_21 (by decide) (fun c12 => ?_) (fun c12 => ?_)
        · have h := gif_t c12 h
          exact gt1 (S := (Nat → Nat → Int32) × (Nat → Nat → Option Nat)) (BH := (fun (u : (Nat → Nat → Int32) × (Nat → Nat → Option Nat)) H => va_P (dC, dI) vwCl (hW N ca b u.1 u.2 J) H)) X hlf hlk hout hS hg1 (List.mem_of_getElem? (i := 1) rfl) (List.mem_of_getElem? (i := 2) rfl) (List.mem_of_getElem? (i := 0) rfl) hl.1 dX7_enter_29 dX7_enter_32 dX7_enter_33 dX7_enter_35 dX7_enter_38 (Nat.le_of_ble_eq_true rfl) (Nat.le_of_ble_eq_true rfl) (Nat.le_of_ble_eq_true rfl) (Nat.le_of_ble_eq_true rfl) (I, O) (Option.some.inj h).symm (fun H1 hk1 => hP.kept (fun k q hq => hk1 q.1 (hP k q hq).lt)) (Nat.le_of_ble_eq_true rfl) (Nat.le_of_ble_eq_true rfl)
        · have h := gif_f c12 h
          refine lv_iload_n hx hb dX7_enter_24 rfl (lv_at hl 3 rfl) ?_
          refine lv_iconst (v := 1) hx hb dX7_enter_25 (by decide) ?_
          refine lv_icmp_le (tgt := 39) hx hb dX7_enter_26 (by decide) (fun c11 => ?_) (fun c11 => ?_)
          · have h := gif_t c11 h
            refine lv_aload_n hx hb dX7_enter_39 rfl (lv_at hl 0 rfl) ?_
            refine gg7_0 X hP kc_0 (sk_in hN kc_0 (by decide)) hi7 (List.mem_of_getElem? (i := 5) rfl) dX7_enter_40 ?_
            refine gg3_3 X hP kc_1 (sk_in hN kc_1 (by decide)) hi3 (List.mem_of_getElem? (i := 6) rfl) dX7_enter_43 ?_
            refine lv_bipush (v := 8) hx hb dX7_enter_46 (by decide) ?_
            refine lv_icmp_ge (tgt := 61) hx hb dX7_enter_48 (by decide) (fun c10 => ?_) (fun c10 => ?_)
            · have h := gif_t c10 h
              exact gt2 (S := (Nat → Nat → Int32) × (Nat → Nat → Option Nat)) (BH := (fun (u : (Nat → Nat → Int32) × (Nat → Nat → Option Nat)) H => va_P (dC, dI) vwCl (hW N ca b u.1 u.2 J) H)) X hlf hlk hout hS hg2 (List.mem_of_getElem? (i := 3) rfl) (List.mem_of_getElem? (i := 4) rfl) (List.mem_of_getElem? (i := 1) rfl) hl.1 dX7_enter_61 dX7_enter_64 dX7_enter_65 dX7_enter_67 dX7_enter_70 (Nat.le_of_ble_eq_true rfl) (Nat.le_of_ble_eq_true rfl) (Nat.le_of_ble_eq_true rfl) (Nat.le_of_ble_eq_true rfl) (I, O) (Option.some.inj h).symm (fun H1 hk1 => hP.kept (fun k q hq => hk1 q.1 (hP k q hq).lt)) (Nat.le_of_ble_eq_true rfl) (Nat.le_of_ble_eq_true rfl)
            · have h := gif_f c10 h
              refine lv_aload_n hx hb dX7_enter_51 rfl (lv_at hl 0 rfl) ?_
              refine gg7_0 X hP kc_0 (sk_in hN kc_0 (by decide)) hi7 (List.mem_of_getElem? (i := 5) rfl) dX7_enter_52 ?_
              refine gg3_5 X hP kc_1 (sk_in hN kc_1 (by decide)) hi3 (List.mem_of_getElem? (i := 7) rfl) dX7_enter_55 ?_
              refine lv_if_eq (tgt := 71) hx hb dX7_enter_58 (by decide) (fun c9 => ?_) (fun c9 => ?_)
              · have h := gif_t c9 h
                refine lv_aload_n hx hb dX7_enter_71 rfl (lv_at hl 0 rfl) ?_
                refine gg7_2 X hP kc_0 (sk_in hN kc_0 (by decide)) hi7 (List.mem_of_getElem? (i := 8) rfl) dX7_enter_72 ?_
                refine lv_aload_n hx hb dX7_enter_75 rfl (lv_at hl 0 rfl) ?_
                refine gg7_0 X hP kc_0 (sk_in hN kc_0 (by decide)) hi7 (List.mem_of_getElem? (i := 5) rfl) dX7_enter_76 ?_
                obtain ⟨q5, hcq5, h⟩ := hb_some h
                refine gdV_v (As := [.ref (b 1)]) (rest := []) (BH := (fun (u : (Nat → Nat → Int32) × (Nat → Nat → Option Nat)) H => va_P (dC, dI) vwCl (hW N ca b u.1 u.2 J) H)) X hP hS (c_X4_save hN hA I O J 1 kc_1 q5 hcq5) (cwV 1 X.ts gX7_enter_X4_save rfl rfl rfl (by decide +kernel) ⟨Nat.le_of_ble_eq_true rfl, Nat.le_of_ble_eq_true rfl⟩) (gr4 X hP kc_25 (sk_in hN kc_25 (by decide))) rfl hl.1 rfl (Nat.le_of_ble_eq_true rfl) dX7_enter_79 ⟨Nat.le_of_ble_eq_true rfl, Nat.le_of_ble_eq_true rfl⟩ (fun u9 H locs hw hP hS => ?_)
                obtain ⟨I3, O4⟩ := u9
                subst hw
                refine lv_aload_n hx hb dX7_enter_82 rfl (lv_at hl 0 rfl) ?_
                refine gg7_0 X hP kc_0 (sk_in hN kc_0 (by decide)) hi7 (List.mem_of_getElem? (i := 5) rfl) dX7_enter_83 ?_
                refine lv_iload_n hx hb dX7_enter_86 rfl (lv_at hl 1 rfl) ?_
                refine lv_iload_n hx hb dX7_enter_87 rfl (lv_at hl 2 rfl) ?_
                refine lv_iload_n hx hb dX7_enter_88 rfl (lv_at hl 3 rfl) ?_
                obtain ⟨q8, hcq8, h⟩ := hb_some h
                refine gdV_i (As := [.int a1, .int a2, .int a3]) (rest := []) (BH := (fun (u : Nat → Nat → Int32) H => va_P (dC, dI) vwCl (hW N ca b u O4 J) H)) X hP hS (c_X3_addSparrow hN hA I3 O4 J 1 a1 a2 a3 kc_1 q8 hcq8) (cwV 3 X.ts gX7_enter_X3_addSparrow rfl rfl rfl (by decide +kernel) ⟨Nat.le_of_ble_eq_true rfl, Nat.le_of_ble_eq_true rfl⟩) (gr3 X hP kc_1 (sk_in hN kc_1 (by decide))) rfl hl.1 rfl (Nat.le_of_ble_eq_true rfl) dX7_enter_89 ⟨Nat.le_of_ble_eq_true rfl, Nat.le_of_ble_eq_true rfl⟩ (fun r7 I6 H locs hw hP hS => ?_)
                subst hw
                refine vx_ret ?_
                refine W.widen (k := 1) (n := 6) (Nat.le_of_ble_eq_true rfl) (Nat.le_of_ble_eq_true rfl) ?_
                exact W.iret hx hb hr (fun t9 ht hW => ⟨⟨r7, (I6, O4), rfl, (Option.some.inj h).symm, gEnd ht hP⟩, hS.F ht⟩) hS.2.2 dX7_enter_92 hlk
              · have h := gif_f c9 h
                exact gt2 (S := (Nat → Nat → Int32) × (Nat → Nat → Option Nat)) (BH := (fun (u : (Nat → Nat → Int32) × (Nat → Nat → Option Nat)) H => va_P (dC, dI) vwCl (hW N ca b u.1 u.2 J) H)) X hlf hlk hout hS hg2 (List.mem_of_getElem? (i := 3) rfl) (List.mem_of_getElem? (i := 4) rfl) (List.mem_of_getElem? (i := 1) rfl) hl.1 dX7_enter_61 dX7_enter_64 dX7_enter_65 dX7_enter_67 dX7_enter_70 (Nat.le_of_ble_eq_true rfl) (Nat.le_of_ble_eq_true rfl) (Nat.le_of_ble_eq_true rfl) (Nat.le_of_ble_eq_true rfl) (I, O) (Option.some.inj h).symm (fun H1 hk1 => hP.kept (fun k q hq => hk1 q.1 (hP k q hq).lt)) (Nat.le_of_ble_eq_true rfl) (Nat.le_of_ble_eq_true rfl)
          · have h := gif_f c11 h
            exact gt1 (S := (Nat → Nat → Int32) × (Nat → Nat → Option Nat)) (BH := (fun (u : (Nat → Nat → Int32) × (Nat → Nat → Option Nat)) H => va_P (dC, dI) vwCl (hW N ca b u.1 u.2 J) H)) X hlf hlk hout hS hg1 (List.mem_of_getElem? (i := 1) rfl) (List.mem_of_getElem? (i := 2) rfl) (List.mem_of_getElem? (i := 0) rfl) hl.1 dX7_enter_29 dX7_enter_32 dX7_enter_33 dX7_enter_35 dX7_enter_38 (Nat.le_of_ble_eq_true rfl) (Nat.le_of_ble_eq_true rfl) (Nat.le_of_ble_eq_true rfl) (Nat.le_of_ble_eq_true rfl) (I, O) (Option.some.inj h).symm (fun H1 hk1 => hP.kept (fun k q hq => hk1 q.1 (hP k q hq).lt)) (Nat.le_of_ble_eq_true rfl) (Nat.le_of_ble_eq_true rfl)
def f_X7_known (a1 : Int32) (I : Nat → Nat → Int32) : Option (Sum Nat (Option Nat)) :=
  (f_X3_at 1 a1 I).bind fun r1 =>
  hopt r1 (
    some (Sum.inl 0)) fun n3 => hk n3 6 <|
  some (Sum.inr (some n3))
set_option maxHeartbeats 8000000 in
set_option maxRecDepth 100000 in
theorem c_X7_known {l : Launch} (hlf : l.stackTraces = false) {dC : Nat → ClassId} {dI : Nat → Nat → Nat} {ca : Nat → ClassId} {b : Nat → Nat} {A : Nat → Prop} {N : Nat} (hN : 129 ≤ N) (hA : gAd A b N) (I : Nat → Nat → Int32) (O : Nat → Nat → Option Nat) (J : Nat → Nat → Int64) (a1 : Int32) (res : Sum Nat (Option Nat)) (h : f_X7_known a1 I = some res) : vx_Met l yX7_known wsX7_known ({ frames := 6, cells := 1, slots := 6, locals := 90 } : Room) (va_Pc [.ref (b 0), .int a1] (gPre dC dI ca b A N I O J)) (va_Qq (fun (r : Option Nat) (u : Unit) => ∃ v, r = Option.map b v ∧ res = (Sum.inr v)) (fun (u : Unit) t => va_P (dC, dI) vwCl (hW N ca b I O J) t.heap) A) (vx_X (fun (u : Nat × Unit) => res = Sum.inl u.1) (fun E (u : Nat × Unit) t => E = gEn u.1 ∧ (fun (u : Unit) H => va_P (dC, dI) vwCl (hW N ca b I O J) H) u.2 t.heap) A) 1 6 A := by
  refine vx_ofW (cc := cX7_known) (maxL := 3) (ret := (some (.object "SparrowRace$Sparrow"))) (by decide) rfl ?_
  intro p e s m args below meth c s₁ B hml hout hv
  obtain ⟨rfl, hP, hK, hA2, hth⟩ := hv
  have hx := B.exec
  have hb := B.bytes
  have hr := B.returns
  have hlk := B.notSynchronized
  have X : gCx p s m ([.ref (b 0), .int a1] : List Value).toArray c RX7 cX7_known wsX7_known 3 dC dI ca b A N := ⟨hx, hb, hml, findClass_of_methodNamed B.named, atoms_spec (ws := wsX7_known) B.pre, hK, hA, hA2, hth⟩
  have hi7 : ∀ w ∈ wsX70, w ∈ wsX7_known := (fun w h => List.mem_cons_of_mem _ (List.mem_append_left _ (List.mem_append_left _ (List.mem_append_right _ h))))
  have hg0 : ∀ w ∈ gWg0, w ∈ wsX7_known := (fun w h => List.mem_cons_of_mem _ (List.mem_append_right _ h))
  have hS : va_S A s.heap s.heap [] := va_S.rf
  have hl := lv_entry ([.ref (b 0), .int a1] : List Value) (n := 3) (Nat.le_of_ble_eq_true rfl)
  rw [lg_entry_eq]
  generalize (lg_sl ([.ref (b 0), .int a1] : List Value) ++ List.replicate (3 - (lg_sl ([.ref (b 0), .int a1] : List Value)).length) Slot.unset).toArray = ls at hl ⊢
  have hl : lv_has ls 3 [(0, .ref (b 0)), (1, .int a1)] := hl
  unfold f_X7_known at h
  refine lv_aload_n hx hb dX7_known_0 rfl (lv_at hl 0 rfl) ?_
  refine gg7_0 X hP kc_0 (sk_in hN kc_0 (by decide)) hi7 (List.mem_of_getElem? (i := 3) rfl) dX7_known_1 ?_
  refine lv_iload_n hx hb dX7_known_4 rfl (lv_at hl 1 rfl) ?_
  obtain ⟨q2, hcq2, h⟩ := hb_some h
  refine gdV_q (As := [.int a1]) (rest := []) (BH := (fun (u : Unit) H => va_P (dC, dI) vwCl (hW N ca b I O J) H)) X hP hS (c_X3_at hN hA I O J 1 a1 kc_1 q2 hcq2) (cwV 1 X.ts gX7_known_X3_at rfl rfl rfl (by decide +kernel) ⟨Nat.le_of_ble_eq_true rfl, Nat.le_of_ble_eq_true rfl⟩) (gr3 X hP kc_1 (sk_in hN kc_1 (by decide))) rfl hl.1 rfl (Nat.le_of_ble_eq_true rfl) dX7_known_5 ⟨Nat.le_of_ble_eq_true rfl, Nat.le_of_ble_eq_true rfl⟩ (fun r1 u9 H locs hw hP hS => ?_)
  obtain ⟨r1, rfl, hw⟩ := hw
  have hw := hw.symm
  subst hw
  refine gv_astore_n (r := Option.map b r1) (lv' := [(2, va_rf (Option.map b r1)), (0, .ref (b 0)), (1, .int a1)]) hx hb dX7_known_8 rfl hl (by decide) rfl (fun ls hl => ?_)
  refine gv_aload_n (r := Option.map b r1) hx hb dX7_known_9 rfl (lv_at hl 0 rfl) ?_
  cases r1 with
  | none =>
    have h := hopt_n h
    refine lv_ifnonnullN hx hb dX7_known_10 ?_
    exact gt0w (S := Unit) (BH := (fun (u : Unit) H => va_P (dC, dI) vwCl (hW N ca b I O J) H)) X hlf hlk hout hS hg0 (List.mem_of_getElem? (i := 1) rfl) (List.mem_of_getElem? (i := 2) rfl) (List.mem_of_getElem? (i := 2) rfl) hl.1 dX7_known_13 dX7_known_16 dX7_known_17 dX7_known_20 dX7_known_23 (Nat.le_of_ble_eq_true rfl) (Nat.le_of_ble_eq_true rfl) (Nat.le_of_ble_eq_true rfl) (Nat.le_of_ble_eq_true rfl) () (Option.some.inj h).symm (fun H1 hk1 => hP.kept (fun k q hq => hk1 q.1 (hP k q hq).lt)) (Nat.le_of_ble_eq_true rfl) (Nat.le_of_ble_eq_true rfl)
  | some n3 =>
    obtain ⟨hk_n3, h⟩ := hk_some (hopt_s h)
    refine lv_ifnonnull (tgt := 24) hx hb dX7_known_10 (by decide) ?_
    refine lv_aload_n hx hb dX7_known_24 rfl (lv_at hl 0 rfl) ?_
    refine vx_ret ?_
    refine W.widen (k := 1) (n := 6) (Nat.le_of_ble_eq_true rfl) (Nat.le_of_ble_eq_true rfl) ?_
    exact W.aret (v := .ref (b n3)) (rt := (.object "SparrowRace$Sparrow")) hx hb hr (Or.inl ⟨_, rfl⟩) (Or.inr ⟨_, rfl⟩) (fun t9 ht hW => ⟨⟨Option.map b (some n3), (), rfl, ⟨(some n3), rfl, (Option.some.inj h).symm⟩, gEnd ht hP⟩, hS.F ht⟩) hS.2.2 dX7_known_25 hlk
def f_X7_checkPace (a0 : Int32) : Option (Sum Nat Unit) :=
  (f_X7_isPace a0).bind fun r1 =>
  if r1 = 0 then
    some (Sum.inl 1)
  else
    some (Sum.inr ())
set_option maxHeartbeats 8000000 in
set_option maxRecDepth 100000 in
theorem c_X7_checkPace {l : Launch} (hlf : l.stackTraces = false) {dC : Nat → ClassId} {dI : Nat → Nat → Nat} {ca : Nat → ClassId} {b : Nat → Nat} {A : Nat → Prop} {N : Nat} (hN : 129 ≤ N) (hA : gAd A b N) (I : Nat → Nat → Int32) (O : Nat → Nat → Option Nat) (J : Nat → Nat → Int64) (a0 : Int32) (res : Sum Nat Unit) (h : f_X7_checkPace a0 = some res) : vx_Met l yX7_checkPace wsX7_checkPace ({ frames := 6, cells := 1, slots := 6, locals := 90 } : Room) (va_Pc [.int a0] (gPre dC dI ca b A N I O J)) (va_Qv (fun (u : Unit) => res = (Sum.inr ())) (fun (u : Unit) t => va_P (dC, dI) vwCl (hW N ca b I O J) t.heap) A) (vx_X (fun (u : Nat × Unit) => res = Sum.inl u.1) (fun E (u : Nat × Unit) t => E = gEn u.1 ∧ (fun (u : Unit) H => va_P (dC, dI) vwCl (hW N ca b I O J) H) u.2 t.heap) A) 1 6 A := by
  refine vx_ofW (cc := cX7_checkPace) (maxL := 1) (ret := none) (by decide) rfl ?_
  intro p e s m args below meth c s₁ B hml hout hv
  obtain ⟨rfl, hP, hK, hA2, hth⟩ := hv
  have hx := B.exec
  have hb := B.bytes
  have hr := B.returns
  have hlk := B.notSynchronized
  have X : gCx p s m ([.int a0] : List Value).toArray c RX7 cX7_checkPace wsX7_checkPace 1 dC dI ca b A N := ⟨hx, hb, hml, findClass_of_methodNamed B.named, atoms_spec (ws := wsX7_checkPace) B.pre, hK, hA, hA2, hth⟩
  have hg1 : ∀ w ∈ gWg1, w ∈ wsX7_checkPace := (fun w h => List.mem_cons_of_mem _ (List.mem_append_right _ h))
  have hS : va_S A s.heap s.heap [] := va_S.rf
  have hl := lv_entry ([.int a0] : List Value) (n := 1) (Nat.le_of_ble_eq_true rfl)
  rw [lg_entry_eq]
  generalize (lg_sl ([.int a0] : List Value) ++ List.replicate (1 - (lg_sl ([.int a0] : List Value)).length) Slot.unset).toArray = ls at hl ⊢
  have hl : lv_has ls 1 [(0, .int a0)] := hl
  unfold f_X7_checkPace at h
  refine lv_iload_n hx hb dX7_checkPace_0 rfl (lv_at hl 0 rfl) ?_
  obtain ⟨q2, hcq2, h⟩ := hb_some h
  refine gdS_i (As := [.int a0]) (rest := []) (BH := (fun (u : Unit) H => va_P (dC, dI) vwCl (hW N ca b I O J) H)) X hP hS (c_X7_isPace hN hA I O J a0 q2 hcq2) (va_cwS 1 X.ts gX7_checkPace_X7_isPace rfl rfl rfl (by decide +kernel) ⟨Nat.le_of_ble_eq_true rfl, Nat.le_of_ble_eq_true rfl⟩) rfl hl.1 rfl (Nat.le_of_ble_eq_true rfl) dX7_checkPace_1 ⟨Nat.le_of_ble_eq_true rfl, Nat.le_of_ble_eq_true rfl⟩ (fun r1 u9 H locs hw hP hS => ?_)
  have hw := hw.symm
  subst hw
  refine lv_if_ne (tgt := 18) hx hb dX7_checkPace_4 (by decide) (fun c3 => ?_) (fun c3 => ?_)
  · have h := gif_f c3 h
    refine vx_ret ?_
    refine W.widen (k := 1) (n := 6) (Nat.le_of_ble_eq_true rfl) (Nat.le_of_ble_eq_true rfl) ?_
    exact W.vret hx hb hr (fun t9 ht hW => ⟨⟨(), rfl, (Option.some.inj h).symm, gEnd ht hP⟩, hS.F ht⟩) hS.2.2 dX7_checkPace_18 hlk
  · have h := gif_t c3 h
    exact gt1w (S := Unit) (BH := (fun (u : Unit) H => va_P (dC, dI) vwCl (hW N ca b I O J) H)) X hlf hlk hout hS hg1 (List.mem_of_getElem? (i := 1) rfl) (List.mem_of_getElem? (i := 2) rfl) (List.mem_of_getElem? (i := 3) rfl) hl.1 dX7_checkPace_7 dX7_checkPace_10 dX7_checkPace_11 dX7_checkPace_14 dX7_checkPace_17 (Nat.le_of_ble_eq_true rfl) (Nat.le_of_ble_eq_true rfl) (Nat.le_of_ble_eq_true rfl) (Nat.le_of_ble_eq_true rfl) () (Option.some.inj h).symm (fun H1 hk1 => hP.kept (fun k q hq => hk1 q.1 (hP k q hq).lt)) (Nat.le_of_ble_eq_true rfl) (Nat.le_of_ble_eq_true rfl)
def f_X7_setPace (a1 : Int32) (a2 : Int32) (I : Nat → Nat → Int32) (O : Nat → Nat → Option Nat) : Option (Sum Nat Int32 × (Nat → Nat → Int32) × (Nat → Nat → Option Nat)) :=
  (f_X7_known a1 I).bind fun eq2 => hsum eq2 (fun k9 => some ((Sum.inl k9), I, O)) fun r1 =>
  (f_X7_checkPace a2).bind fun eq3 => hsum eq3 (fun k9 => some ((Sum.inl k9), I, O)) fun _ =>
  (f_X4_save 1 I O).bind fun (I4, O5) =>
  (r1).bind fun n7 => hk n7 6 <|
  hlet (gup I4 n7 1 a2) fun I8 =>
  some ((Sum.inr (I4 n7 1)), I8, O5)
set_option maxHeartbeats 8000000 in
set_option maxRecDepth 100000 in
theorem c_X7_setPace {l : Launch} (hlf : l.stackTraces = false) {dC : Nat → ClassId} {dI : Nat → Nat → Nat} {ca : Nat → ClassId} {b : Nat → Nat} {A : Nat → Prop} {N : Nat} (hN : 129 ≤ N) (hA : gAd A b N) (I : Nat → Nat → Int32) (O : Nat → Nat → Option Nat) (J : Nat → Nat → Int64) (a1 : Int32) (a2 : Int32) (res : Sum Nat Int32 × (Nat → Nat → Int32) × (Nat → Nat → Option Nat)) (h : f_X7_setPace a1 a2 I O = some res) : vx_Met l yX7_setPace wsX7_setPace ({ frames := 7, cells := 2, slots := 12, locals := 112 } : Room) (va_Pc [.ref (b 0), .int a1, .int a2] (gPre dC dI ca b A N I O J)) (va_Qi (fun (r : Int32) (u : (Nat → Nat → Int32) × (Nat → Nat → Option Nat)) => res = (Sum.inr r, u)) (fun (u : (Nat → Nat → Int32) × (Nat → Nat → Option Nat)) t => va_P (dC, dI) vwCl (hW N ca b u.1 u.2 J) t.heap) A) (vx_X (fun (u : Nat × ((Nat → Nat → Int32) × (Nat → Nat → Option Nat))) => res = (Sum.inl u.1, u.2)) (fun E (u : Nat × ((Nat → Nat → Int32) × (Nat → Nat → Option Nat))) t => E = gEn u.1 ∧ (fun (u : (Nat → Nat → Int32) × (Nat → Nat → Option Nat)) H => va_P (dC, dI) vwCl (hW N ca b u.1 u.2 J) H) u.2 t.heap) A) 2 12 A := by
  refine vx_ofW (cc := cX7_setPace) (maxL := 5) (ret := (some .int)) (by decide) rfl ?_
  intro p e s m args below meth c s₁ B hml hout hv
  obtain ⟨rfl, hP, hK, hA2, hth⟩ := hv
  have hx := B.exec
  have hb := B.bytes
  have hr := B.returns
  have hlk := B.notSynchronized
  have X : gCx p s m ([.ref (b 0), .int a1, .int a2] : List Value).toArray c RX7 cX7_setPace wsX7_setPace 5 dC dI ca b A N := ⟨hx, hb, hml, findClass_of_methodNamed B.named, atoms_spec (ws := wsX7_setPace) B.pre, hK, hA, hA2, hth⟩
  have hi6 : ∀ w ∈ wsX60, w ∈ wsX7_setPace := (fun w h => List.mem_cons_of_mem _ (List.mem_append_left _ (List.mem_append_left _ (List.mem_append_left _ (List.mem_append_left _ (List.mem_append_right _ h))))))
  have hi7 : ∀ w ∈ wsX70, w ∈ wsX7_setPace := (fun w h => List.mem_cons_of_mem _ (List.mem_append_left _ (List.mem_append_left _ (List.mem_append_left _ (List.mem_append_left _ (List.mem_append_left _ (List.mem_append_right _ h)))))))
  have hS : va_S A s.heap s.heap [] := va_S.rf
  have hl := lv_entry ([.ref (b 0), .int a1, .int a2] : List Value) (n := 5) (Nat.le_of_ble_eq_true rfl)
  rw [lg_entry_eq]
  generalize (lg_sl ([.ref (b 0), .int a1, .int a2] : List Value) ++ List.replicate (5 - (lg_sl ([.ref (b 0), .int a1, .int a2] : List Value)).length) Slot.unset).toArray = ls at hl ⊢
  have hl : lv_has ls 5 [(0, .ref (b 0)), (1, .int a1), (2, .int a2)] := hl
  unfold f_X7_setPace at h
  refine lv_aload_n hx hb dX7_setPace_0 rfl (lv_at hl 0 rfl) ?_
  refine lv_iload_n hx hb dX7_setPace_1 rfl (lv_at hl 1 rfl) ?_
  obtain ⟨q2, hcq2, h⟩ := hb_some h
  refine gxV_q (As := [.int a1]) (rest := []) (BH := (fun (u : Unit) H => va_P (dC, dI) vwCl (hW N ca b I O J) H)) (BX := (fun (u : Unit) H => va_P (dC, dI) vwCl (hW N ca b I O J) H)) X hP hS (c_X7_known hlf hN hA I O J a1 q2 hcq2) (cwV 1 X.ts gX7_setPace_X7_known rfl rfl rfl (by decide +kernel) ⟨Nat.le_of_ble_eq_true rfl, Nat.le_of_ble_eq_true rfl⟩) (gr7 X hP kc_0 (sk_in hN kc_0 (by decide))) rfl hl.1 rfl (Nat.le_of_ble_eq_true rfl) dX7_setPace_2 ⟨Nat.le_of_ble_eq_true rfl, Nat.le_of_ble_eq_true rfl⟩ (fun k9 u9 H locs ce9 q9 hw hP hS hce hcv hcl => ?_) (fun r1 u9 H locs hw hP hS => ?_)
  · subst hw
    exact gOut (S := (Nat → Nat → Int32) × (Nat → Nat → Option Nat)) (BH := (fun (u : (Nat → Nat → Int32) × (Nat → Nat → Option Nat)) H => va_P (dC, dI) vwCl (hW N ca b u.1 u.2 J) H)) hlk hout hS hce hcv hcl (I, O) (Option.some.inj (show some ((Sum.inl k9), I, O) = some res from h)).symm hP (Nat.le_of_ble_eq_true rfl) (Nat.le_of_ble_eq_true rfl)
  obtain ⟨r1, rfl, hw⟩ := hw
  subst hw
  have h := hsum_r h
  refine gv_astore_n (r := Option.map b r1) (lv' := [(3, va_rf (Option.map b r1)), (0, .ref (b 0)), (1, .int a1), (2, .int a2)]) hx hb dX7_setPace_5 rfl hl (by decide) rfl (fun ls hl => ?_)
  refine lv_iload_n hx hb dX7_setPace_6 rfl (lv_at hl 3 rfl) ?_
  obtain ⟨q3, hcq3, h⟩ := hb_some h
  refine gxS_v (As := [.int a2]) (rest := []) (BH := (fun (u : Unit) H => va_P (dC, dI) vwCl (hW N ca b I O J) H)) (BX := (fun (u : Unit) H => va_P (dC, dI) vwCl (hW N ca b I O J) H)) X hP hS (c_X7_checkPace hlf hN hA I O J a2 q3 hcq3) (va_cwS 1 X.ts gX7_setPace_X7_checkPace rfl rfl rfl (by decide +kernel) ⟨Nat.le_of_ble_eq_true rfl, Nat.le_of_ble_eq_true rfl⟩) rfl hl.1 rfl (Nat.le_of_ble_eq_true rfl) dX7_setPace_7 ⟨Nat.le_of_ble_eq_true rfl, Nat.le_of_ble_eq_true rfl⟩ (fun k9 u9 H locs ce9 q9 hw hP hS hce hcv hcl => ?_) (fun u9 H locs hw hP hS => ?_)
  · subst hw
    exact gOut (S := (Nat → Nat → Int32) × (Nat → Nat → Option Nat)) (BH := (fun (u : (Nat → Nat → Int32) × (Nat → Nat → Option Nat)) H => va_P (dC, dI) vwCl (hW N ca b u.1 u.2 J) H)) hlk hout hS hce hcv hcl (I, O) (Option.some.inj (show some ((Sum.inl k9), I, O) = some res from h)).symm hP (Nat.le_of_ble_eq_true rfl) (Nat.le_of_ble_eq_true rfl)
  subst hw
  have h := hsum_r h
  refine lv_aload_n hx hb dX7_setPace_10 rfl (lv_at hl 1 rfl) ?_
  refine gg7_2 X hP kc_0 (sk_in hN kc_0 (by decide)) hi7 (List.mem_of_getElem? (i := 1) rfl) dX7_setPace_11 ?_
  refine lv_aload_n hx hb dX7_setPace_14 rfl (lv_at hl 1 rfl) ?_
  refine gg7_0 X hP kc_0 (sk_in hN kc_0 (by decide)) hi7 (List.mem_of_getElem? (i := 2) rfl) dX7_setPace_15 ?_
  obtain ⟨q6, hcq6, h⟩ := hb_some h
  refine gdV_v (As := [.ref (b 1)]) (rest := []) (BH := (fun (u : (Nat → Nat → Int32) × (Nat → Nat → Option Nat)) H => va_P (dC, dI) vwCl (hW N ca b u.1 u.2 J) H)) X hP hS (c_X4_save hN hA I O J 1 kc_1 q6 hcq6) (cwV 1 X.ts gX7_setPace_X4_save rfl rfl rfl (by decide +kernel) ⟨Nat.le_of_ble_eq_true rfl, Nat.le_of_ble_eq_true rfl⟩) (gr4 X hP kc_25 (sk_in hN kc_25 (by decide))) rfl hl.1 rfl (Nat.le_of_ble_eq_true rfl) dX7_setPace_18 ⟨Nat.le_of_ble_eq_true rfl, Nat.le_of_ble_eq_true rfl⟩ (fun u9 H locs hw hP hS => ?_)
  obtain ⟨I4, O5⟩ := u9
  subst hw
  refine gv_aload_n (r := Option.map b r1) hx hb dX7_setPace_21 rfl (lv_at hl 0 rfl) ?_
  obtain ⟨n7, rfl, h⟩ := hb_some h
  obtain ⟨hk_n7, h⟩ := hk_some h
  refine gg6_1 X hP hk_n7 (sk_in hN hk_n7 (by decide)) hi6 (List.mem_of_getElem? (i := 3) rfl) dX7_setPace_22 ?_
  refine lv_istore (lv' := [(4, .int (I4 n7 1)), (3, .ref (b n7)), (0, .ref (b 0)), (1, .int a1), (2, .int a2)]) hx hb dX7_setPace_25 hl (by decide) rfl (fun ls hl => ?_)
  refine lv_aload_n hx hb dX7_setPace_27 rfl (lv_at hl 1 rfl) ?_
  refine lv_iload_n hx hb dX7_setPace_28 rfl (lv_at hl 4 rfl) ?_
  refine gp6_1 X hP hS hk_n7 (sk_in hN hk_n7 (by decide)) hi6 (List.mem_of_getElem? (i := 3) rfl) dX7_setPace_29 (fun H locs hP hS => ?_)
  obtain ⟨I8, eI8, h⟩ := hlet_ex h
  rw [← eI8] at hP
  refine lv_iload hx hb dX7_setPace_32 (lv_at hl 0 rfl) ?_
  refine vx_ret ?_
  refine W.widen (k := 2) (n := 12) (Nat.le_of_ble_eq_true rfl) (Nat.le_of_ble_eq_true rfl) ?_
  exact W.iret hx hb hr (fun t9 ht hW => ⟨⟨(I4 n7 1), (I8, O5), rfl, (Option.some.inj h).symm, gEnd ht hP⟩, hS.F ht⟩) hS.2.2 dX7_setPace_34 hlk
def f_X7_callIn (a1 : Int32) (I : Nat → Nat → Int32) (O : Nat → Nat → Option Nat) : Option (Sum Nat Int32 × (Nat → Nat → Int32) × (Nat → Nat → Option Nat)) :=
  (f_X7_known a1 I).bind fun eq2 => hsum eq2 (fun k9 => some ((Sum.inl k9), I, O)) fun r1 =>
  (r1).bind fun n3 => hk n3 6 <|
  if (I n3 9) = (3 : Int32) then
    some ((Sum.inl 2), I, O)
  else
    (f_X4_save 1 I O).bind fun (I4, O5) =>
    (show Option (Int32) from
      if (I4 n3 11) = 0 then
        some (1 : Int32)
      else
        some (0 : Int32)).bind fun p7 =>
    hg (gz p7) <|
    hlet (gup I4 n3 11 p7) fun I8 =>
    hg (gz (I8 n3 11)) <|
    some ((Sum.inr (I8 n3 11)), I8, O5)
set_option maxHeartbeats 8000000 in
set_option maxRecDepth 100000 in
theorem c_X7_callIn {l : Launch} (hlf : l.stackTraces = false) {dC : Nat → ClassId} {dI : Nat → Nat → Nat} {ca : Nat → ClassId} {b : Nat → Nat} {A : Nat → Prop} {N : Nat} (hN : 129 ≤ N) (hA : gAd A b N) (I : Nat → Nat → Int32) (O : Nat → Nat → Option Nat) (J : Nat → Nat → Int64) (a1 : Int32) (res : Sum Nat Int32 × (Nat → Nat → Int32) × (Nat → Nat → Option Nat)) (h : f_X7_callIn a1 I O = some res) : vx_Met l yX7_callIn wsX7_callIn ({ frames := 7, cells := 2, slots := 12, locals := 112 } : Room) (va_Pc [.ref (b 0), .int a1] (gPre dC dI ca b A N I O J)) (va_Qi (fun (r : Int32) (u : (Nat → Nat → Int32) × (Nat → Nat → Option Nat)) => res = (Sum.inr r, u)) (fun (u : (Nat → Nat → Int32) × (Nat → Nat → Option Nat)) t => va_P (dC, dI) vwCl (hW N ca b u.1 u.2 J) t.heap) A) (vx_X (fun (u : Nat × ((Nat → Nat → Int32) × (Nat → Nat → Option Nat))) => res = (Sum.inl u.1, u.2)) (fun E (u : Nat × ((Nat → Nat → Int32) × (Nat → Nat → Option Nat))) t => E = gEn u.1 ∧ (fun (u : (Nat → Nat → Int32) × (Nat → Nat → Option Nat)) H => va_P (dC, dI) vwCl (hW N ca b u.1 u.2 J) H) u.2 t.heap) A) 2 12 A := by
  refine vx_ofW (cc := cX7_callIn) (maxL := 3) (ret := (some .boolean)) (by decide) rfl ?_
  intro p e s m args below meth c s₁ B hml hout hv
  obtain ⟨rfl, hP, hK, hA2, hth⟩ := hv
  have hx := B.exec
  have hb := B.bytes
  have hr := B.returns
  have hlk := B.notSynchronized
  have X : gCx p s m ([.ref (b 0), .int a1] : List Value).toArray c RX7 cX7_callIn wsX7_callIn 3 dC dI ca b A N := ⟨hx, hb, hml, findClass_of_methodNamed B.named, atoms_spec (ws := wsX7_callIn) B.pre, hK, hA, hA2, hth⟩
  have hi6 : ∀ w ∈ wsX60, w ∈ wsX7_callIn := (fun w h => List.mem_cons_of_mem _ (List.mem_append_left _ (List.mem_append_left _ (List.mem_append_left _ (List.mem_append_left _ (List.mem_append_left _ (List.mem_append_right _ h)))))))
  have hi7 : ∀ w ∈ wsX70, w ∈ wsX7_callIn := (fun w h => List.mem_cons_of_mem _ (List.mem_append_left _ (List.mem_append_left _ (List.mem_append_left _ (List.mem_append_left _ (List.mem_append_right _ h))))))
  have hg2 : ∀ w ∈ gWg2, w ∈ wsX7_callIn := (fun w h => List.mem_cons_of_mem _ (List.mem_append_left _ (List.mem_append_right _ h)))
  have hS : va_S A s.heap s.heap [] := va_S.rf
  have hl := lv_entry ([.ref (b 0), .int a1] : List Value) (n := 3) (Nat.le_of_ble_eq_true rfl)
  rw [lg_entry_eq]
  generalize (lg_sl ([.ref (b 0), .int a1] : List Value) ++ List.replicate (3 - (lg_sl ([.ref (b 0), .int a1] : List Value)).length) Slot.unset).toArray = ls at hl ⊢
  have hl : lv_has ls 3 [(0, .ref (b 0)), (1, .int a1)] := hl
  unfold f_X7_callIn at h
  refine lv_aload_n hx hb dX7_callIn_0 rfl (lv_at hl 0 rfl) ?_
  refine lv_iload_n hx hb dX7_callIn_1 rfl (lv_at hl 1 rfl) ?_
  obtain ⟨q2, hcq2, h⟩ := hb_some h
  refine gxV_q (As := [.int a1]) (rest := []) (BH := (fun (u : Unit) H => va_P (dC, dI) vwCl (hW N ca b I O J) H)) (BX := (fun (u : Unit) H => va_P (dC, dI) vwCl (hW N ca b I O J) H)) X hP hS (c_X7_known hlf hN hA I O J a1 q2 hcq2) (cwV 1 X.ts gX7_callIn_X7_known rfl rfl rfl (by decide +kernel) ⟨Nat.le_of_ble_eq_true rfl, Nat.le_of_ble_eq_true rfl⟩) (gr7 X hP kc_0 (sk_in hN kc_0 (by decide))) rfl hl.1 rfl (Nat.le_of_ble_eq_true rfl) dX7_callIn_2 ⟨Nat.le_of_ble_eq_true rfl, Nat.le_of_ble_eq_true rfl⟩ (fun k9 u9 H locs ce9 q9 hw hP hS hce hcv hcl => ?_) (fun r1 u9 H locs hw hP hS => ?_)
  · subst hw
    exact gOut (S := (Nat → Nat → Int32) × (Nat → Nat → Option Nat)) (BH := (fun (u : (Nat → Nat → Int32) × (Nat → Nat → Option Nat)) H => va_P (dC, dI) vwCl (hW N ca b u.1 u.2 J) H)) hlk hout hS hce hcv hcl (I, O) (Option.some.inj (show some ((Sum.inl k9), I, O) = some res from h)).symm hP (Nat.le_of_ble_eq_true rfl) (Nat.le_of_ble_eq_true rfl)
  obtain ⟨r1, rfl, hw⟩ := hw
  subst hw
  have h := hsum_r h
  refine gv_astore_n (r := Option.map b r1) (lv' := [(2, va_rf (Option.map b r1)), (0, .ref (b 0)), (1, .int a1)]) hx hb dX7_callIn_5 rfl hl (by decide) rfl (fun ls hl => ?_)
  refine gv_aload_n (r := Option.map b r1) hx hb dX7_callIn_6 rfl (lv_at hl 0 rfl) ?_
  obtain ⟨n3, rfl, h⟩ := hb_some h
  obtain ⟨hk_n3, h⟩ := hk_some h
  refine gg6_9 X hP hk_n3 (sk_in hN hk_n3 (by decide)) hi6 (List.mem_of_getElem? (i := 3) rfl) dX7_callIn_7 ?_
  refine lv_iconst (v := 3) hx hb dX7_callIn_10 (by decide) ?_
  refine lv_icmp_ne (tgt := 24) hx hb dX7_callIn_11 (by decide) (fun c10 => ?_) (fun c10 => ?_)
  · have h := gif_f c10 h
    refine lv_aload_n hx hb dX7_callIn_24 rfl (lv_at hl 1 rfl) ?_
    refine gg7_2 X hP kc_0 (sk_in hN kc_0 (by decide)) hi7 (List.mem_of_getElem? (i := 4) rfl) dX7_callIn_25 ?_
    refine lv_aload_n hx hb dX7_callIn_28 rfl (lv_at hl 1 rfl) ?_
    refine gg7_0 X hP kc_0 (sk_in hN kc_0 (by decide)) hi7 (List.mem_of_getElem? (i := 5) rfl) dX7_callIn_29 ?_
    obtain ⟨q6, hcq6, h⟩ := hb_some h
    refine gdV_v (As := [.ref (b 1)]) (rest := []) (BH := (fun (u : (Nat → Nat → Int32) × (Nat → Nat → Option Nat)) H => va_P (dC, dI) vwCl (hW N ca b u.1 u.2 J) H)) X hP hS (c_X4_save hN hA I O J 1 kc_1 q6 hcq6) (cwV 1 X.ts gX7_callIn_X4_save rfl rfl rfl (by decide +kernel) ⟨Nat.le_of_ble_eq_true rfl, Nat.le_of_ble_eq_true rfl⟩) (gr4 X hP kc_25 (sk_in hN kc_25 (by decide))) rfl hl.1 rfl (Nat.le_of_ble_eq_true rfl) dX7_callIn_32 ⟨Nat.le_of_ble_eq_true rfl, Nat.le_of_ble_eq_true rfl⟩ (fun u9 H locs hw hP hS => ?_)
    obtain ⟨I4, O5⟩ := u9
    subst hw
    refine lv_aload_n hx hb dX7_callIn_35 rfl (lv_at hl 0 rfl) ?_
    refine lv_aload_n hx hb dX7_callIn_36 rfl (lv_at hl 0 rfl) ?_
    refine gg6_11 X hP hk_n3 (sk_in hN hk_n3 (by decide)) hi6 (List.mem_of_getElem? (i := 6) rfl) dX7_callIn_37 ?_
    obtain ⟨p7, hv, h⟩ := hb_some h
    have K48 : ∀ (H : Heap) (locs : List Loc) (ls : Array Slot), va_P (dC, dI) vwCl (hW N ca b I4 O5 J) H → va_S A s.heap H locs → lv_has ls 3 [(2, .ref (b n3))] → W p l e (headSpec wsX7_callIn ({ frames := 7, cells := 2, slots := 12, locals := 112 } : Room)).room s m ([.ref (b 0), .int a1] : List Value).toArray below meth c H locs 1 6 (vx_MQ below (va_Qi (fun (r : Int32) (u : (Nat → Nat → Int32) × (Nat → Nat → Option Nat)) => res = (Sum.inr r, u)) (fun (u : (Nat → Nat → Int32) × (Nat → Nat → Option Nat)) t => va_P (dC, dI) vwCl (hW N ca b u.1 u.2 J) t.heap) A) (vx_X (fun (u : Nat × ((Nat → Nat → Int32) × (Nat → Nat → Option Nat))) => res = (Sum.inl u.1, u.2)) (fun E (u : Nat × ((Nat → Nat → Int32) × (Nat → Nat → Option Nat))) t => E = gEn u.1 ∧ (fun (u : (Nat → Nat → Int32) × (Nat → Nat → Option Nat)) H => va_P (dC, dI) vwCl (hW N ca b u.1 u.2 J) H) u.2 t.heap) A) ([.ref (b 0), .int a1] : List Value).toArray s 2 12 A) (F0 m 48 ls [.int p7, .ref (b n3)]) := by
      intro H locs ls hP hS hl
      obtain ⟨hgv, h⟩ := hg_some h
      refine gp6_11 X hP hS hk_n3 (sk_in hN hk_n3 (by decide)) hi6 (List.mem_of_getElem? (i := 6) rfl) hgv dX7_callIn_48 (fun H locs hP hS => ?_)
      obtain ⟨I8, eI8, h⟩ := hlet_ex h
      rw [← eI8] at hP
      refine lv_aload_n hx hb dX7_callIn_51 rfl (lv_at hl 0 rfl) ?_
      refine gg6_11 X hP hk_n3 (sk_in hN hk_n3 (by decide)) hi6 (List.mem_of_getElem? (i := 6) rfl) dX7_callIn_52 ?_
      obtain ⟨hgz, h⟩ := hg_some h
      refine vx_ret ?_
      refine W.widen (k := 2) (n := 12) (Nat.le_of_ble_eq_true rfl) (Nat.le_of_ble_eq_true rfl) ?_
      exact W.zret (ty := .boolean) hx hb hr (gz_nar hgz) (fun t9 ht hW => ⟨⟨(I8 n3 11), (I8, O5), rfl, (Option.some.inj h).symm, gEnd ht hP⟩, hS.F ht⟩) hS.2.2 dX7_callIn_55 hlk
    have h := hv
    refine lv_if_ne (tgt := 47) hx hb dX7_callIn_40 (by decide) (fun c9 => ?_) (fun c9 => ?_)
    · have h := gif_f c9 h
      refine lv_iconst (v := 0) hx hb dX7_callIn_47 (by decide) ?_
      cases h
      exact K48 _ _ _ hP hS (lv_sub hl [0] rfl)
    · have h := gif_t c9 h
      refine lv_iconst (v := 1) hx hb dX7_callIn_43 (by decide) ?_
      refine lv_goto (tgt := 48) hx hb dX7_callIn_44 (by decide) ?_
      cases h
      exact K48 _ _ _ hP hS (lv_sub hl [0] rfl)
  · have h := gif_t c10 h
    exact gt2 (S := (Nat → Nat → Int32) × (Nat → Nat → Option Nat)) (BH := (fun (u : (Nat → Nat → Int32) × (Nat → Nat → Option Nat)) H => va_P (dC, dI) vwCl (hW N ca b u.1 u.2 J) H)) X hlf hlk hout hS hg2 (List.mem_of_getElem? (i := 1) rfl) (List.mem_of_getElem? (i := 2) rfl) (List.mem_of_getElem? (i := 4) rfl) hl.1 dX7_callIn_14 dX7_callIn_17 dX7_callIn_18 dX7_callIn_20 dX7_callIn_23 (Nat.le_of_ble_eq_true rfl) (Nat.le_of_ble_eq_true rfl) (Nat.le_of_ble_eq_true rfl) (Nat.le_of_ble_eq_true rfl) (I, O) (Option.some.inj h).symm (fun H1 hk1 => hP.kept (fun k q hq => hk1 q.1 (hP k q hq).lt)) (Nat.le_of_ble_eq_true rfl) (Nat.le_of_ble_eq_true rfl)
def f_X7_pair (a1 : Int32) (a2 : Int32) (I : Nat → Nat → Int32) (O : Nat → Nat → Option Nat) : Option (Sum Nat Int32 × (Nat → Nat → Int32) × (Nat → Nat → Option Nat)) :=
  (f_X7_known a1 I).bind fun eq2 => hsum eq2 (fun k9 => some ((Sum.inl k9), I, O)) fun r1 =>
  (f_X7_known a2 I).bind fun eq4 => hsum eq4 (fun k9 => some ((Sum.inl k9), I, O)) fun r3 =>
  if a1 = a2 then
    some ((Sum.inl 1), I, O)
  else
    (f_X4_save 1 I O).bind fun (I5, O6) =>
    (r1).bind fun n8 => hk n8 6 <|
    (r3).bind fun n9 => hk n9 6 <|
    (f_X3_makePair 1 n8 n9 I5).bind fun I10 =>
    (f_X3_countPairs 1 I10).bind fun r12 =>
    some ((Sum.inr r12), I10, O6)
set_option maxHeartbeats 8000000 in
set_option maxRecDepth 100000 in
theorem c_X7_pair {l : Launch} (hlf : l.stackTraces = false) {dC : Nat → ClassId} {dI : Nat → Nat → Nat} {ca : Nat → ClassId} {b : Nat → Nat} {A : Nat → Prop} {N : Nat} (hN : 129 ≤ N) (hA : gAd A b N) (I : Nat → Nat → Int32) (O : Nat → Nat → Option Nat) (J : Nat → Nat → Int64) (a1 : Int32) (a2 : Int32) (res : Sum Nat Int32 × (Nat → Nat → Int32) × (Nat → Nat → Option Nat)) (h : f_X7_pair a1 a2 I O = some res) : vx_Met l yX7_pair wsX7_pair ({ frames := 7, cells := 3, slots := 18, locals := 112 } : Room) (va_Pc [.ref (b 0), .int a1, .int a2] (gPre dC dI ca b A N I O J)) (va_Qi (fun (r : Int32) (u : (Nat → Nat → Int32) × (Nat → Nat → Option Nat)) => res = (Sum.inr r, u)) (fun (u : (Nat → Nat → Int32) × (Nat → Nat → Option Nat)) t => va_P (dC, dI) vwCl (hW N ca b u.1 u.2 J) t.heap) A) (vx_X (fun (u : Nat × ((Nat → Nat → Int32) × (Nat → Nat → Option Nat))) => res = (Sum.inl u.1, u.2)) (fun E (u : Nat × ((Nat → Nat → Int32) × (Nat → Nat → Option Nat))) t => E = gEn u.1 ∧ (fun (u : (Nat → Nat → Int32) × (Nat → Nat → Option Nat)) H => va_P (dC, dI) vwCl (hW N ca b u.1 u.2 J) H) u.2 t.heap) A) 3 18 A := by
  refine vx_ofW (cc := cX7_pair) (maxL := 5) (ret := (some .int)) (by decide) rfl ?_
  intro p e s m args below meth c s₁ B hml hout hv
  obtain ⟨rfl, hP, hK, hA2, hth⟩ := hv
  have hx := B.exec
  have hb := B.bytes
  have hr := B.returns
  have hlk := B.notSynchronized
  have X : gCx p s m ([.ref (b 0), .int a1, .int a2] : List Value).toArray c RX7 cX7_pair wsX7_pair 5 dC dI ca b A N := ⟨hx, hb, hml, findClass_of_methodNamed B.named, atoms_spec (ws := wsX7_pair) B.pre, hK, hA, hA2, hth⟩
  have hi7 : ∀ w ∈ wsX70, w ∈ wsX7_pair := (fun w h => List.mem_cons_of_mem _ (List.mem_append_left _ (List.mem_append_left _ (List.mem_append_left _ (List.mem_append_left _ (List.mem_append_left _ (List.mem_append_right _ h)))))))
  have hg1 : ∀ w ∈ gWg1, w ∈ wsX7_pair := (fun w h => List.mem_cons_of_mem _ (List.mem_append_left _ (List.mem_append_right _ h)))
  have hS : va_S A s.heap s.heap [] := va_S.rf
  have hl := lv_entry ([.ref (b 0), .int a1, .int a2] : List Value) (n := 5) (Nat.le_of_ble_eq_true rfl)
  rw [lg_entry_eq]
  generalize (lg_sl ([.ref (b 0), .int a1, .int a2] : List Value) ++ List.replicate (5 - (lg_sl ([.ref (b 0), .int a1, .int a2] : List Value)).length) Slot.unset).toArray = ls at hl ⊢
  have hl : lv_has ls 5 [(0, .ref (b 0)), (1, .int a1), (2, .int a2)] := hl
  unfold f_X7_pair at h
  refine lv_aload_n hx hb dX7_pair_0 rfl (lv_at hl 0 rfl) ?_
  refine lv_iload_n hx hb dX7_pair_1 rfl (lv_at hl 1 rfl) ?_
  obtain ⟨q2, hcq2, h⟩ := hb_some h
  refine gxV_q (As := [.int a1]) (rest := []) (BH := (fun (u : Unit) H => va_P (dC, dI) vwCl (hW N ca b I O J) H)) (BX := (fun (u : Unit) H => va_P (dC, dI) vwCl (hW N ca b I O J) H)) X hP hS (c_X7_known hlf hN hA I O J a1 q2 hcq2) (cwV 1 X.ts gX7_pair_X7_known rfl rfl rfl (by decide +kernel) ⟨Nat.le_of_ble_eq_true rfl, Nat.le_of_ble_eq_true rfl⟩) (gr7 X hP kc_0 (sk_in hN kc_0 (by decide))) rfl hl.1 rfl (Nat.le_of_ble_eq_true rfl) dX7_pair_2 ⟨Nat.le_of_ble_eq_true rfl, Nat.le_of_ble_eq_true rfl⟩ (fun k9 u9 H locs ce9 q9 hw hP hS hce hcv hcl => ?_) (fun r1 u9 H locs hw hP hS => ?_)
  · subst hw
    exact gOut (S := (Nat → Nat → Int32) × (Nat → Nat → Option Nat)) (BH := (fun (u : (Nat → Nat → Int32) × (Nat → Nat → Option Nat)) H => va_P (dC, dI) vwCl (hW N ca b u.1 u.2 J) H)) hlk hout hS hce hcv hcl (I, O) (Option.some.inj (show some ((Sum.inl k9), I, O) = some res from h)).symm hP (Nat.le_of_ble_eq_true rfl) (Nat.le_of_ble_eq_true rfl)
  obtain ⟨r1, rfl, hw⟩ := hw
  subst hw
  have h := hsum_r h
  refine gv_astore_n (r := Option.map b r1) (lv' := [(3, va_rf (Option.map b r1)), (0, .ref (b 0)), (1, .int a1), (2, .int a2)]) hx hb dX7_pair_5 rfl hl (by decide) rfl (fun ls hl => ?_)
  refine lv_aload_n hx hb dX7_pair_6 rfl (lv_at hl 1 rfl) ?_
  refine lv_iload_n hx hb dX7_pair_7 rfl (lv_at hl 3 rfl) ?_
  obtain ⟨q4, hcq4, h⟩ := hb_some h
  refine gxV_q (As := [.int a2]) (rest := []) (BH := (fun (u : Unit) H => va_P (dC, dI) vwCl (hW N ca b I O J) H)) (BX := (fun (u : Unit) H => va_P (dC, dI) vwCl (hW N ca b I O J) H)) X hP hS (c_X7_known hlf hN hA I O J a2 q4 hcq4) (cwV 1 X.ts gX7_pair_X7_known rfl rfl rfl (by decide +kernel) ⟨Nat.le_of_ble_eq_true rfl, Nat.le_of_ble_eq_true rfl⟩) (gr7 X hP kc_0 (sk_in hN kc_0 (by decide))) rfl hl.1 rfl (Nat.le_of_ble_eq_true rfl) dX7_pair_8 ⟨Nat.le_of_ble_eq_true rfl, Nat.le_of_ble_eq_true rfl⟩ (fun k9 u9 H locs ce9 q9 hw hP hS hce hcv hcl => ?_) (fun r3 u9 H locs hw hP hS => ?_)
  · subst hw
    exact gOut (S := (Nat → Nat → Int32) × (Nat → Nat → Option Nat)) (BH := (fun (u : (Nat → Nat → Int32) × (Nat → Nat → Option Nat)) H => va_P (dC, dI) vwCl (hW N ca b u.1 u.2 J) H)) hlk hout hS hce hcv hcl (I, O) (Option.some.inj (show some ((Sum.inl k9), I, O) = some res from h)).symm hP (Nat.le_of_ble_eq_true rfl) (Nat.le_of_ble_eq_true rfl)
  obtain ⟨r3, rfl, hw⟩ := hw
  subst hw
  have h := hsum_r h
  refine gv_astore (r := Option.map b r3) (i := 4) (lv' := [(4, va_rf (Option.map b r3)), (3, va_rf (Option.map b r1)), (0, .ref (b 0)), (1, .int a1), (2, .int a2)]) hx hb dX7_pair_11 hl (by decide) (by simp [va_rf_cat, cat_ref, cat_int]) (fun ls hl => ?_)
  refine lv_iload_n hx hb dX7_pair_13 rfl (lv_at hl 3 rfl) ?_
  refine lv_iload_n hx hb dX7_pair_14 rfl (lv_at hl 4 rfl) ?_
  refine lv_icmp_ne (tgt := 28) hx hb dX7_pair_15 (by decide) (fun c14 => ?_) (fun c14 => ?_)
  · have h := gif_f c14 h
    refine lv_aload_n hx hb dX7_pair_28 rfl (lv_at hl 2 rfl) ?_
    refine gg7_2 X hP kc_0 (sk_in hN kc_0 (by decide)) hi7 (List.mem_of_getElem? (i := 3) rfl) dX7_pair_29 ?_
    refine lv_aload_n hx hb dX7_pair_32 rfl (lv_at hl 2 rfl) ?_
    refine gg7_0 X hP kc_0 (sk_in hN kc_0 (by decide)) hi7 (List.mem_of_getElem? (i := 4) rfl) dX7_pair_33 ?_
    obtain ⟨q7, hcq7, h⟩ := hb_some h
    refine gdV_v (As := [.ref (b 1)]) (rest := []) (BH := (fun (u : (Nat → Nat → Int32) × (Nat → Nat → Option Nat)) H => va_P (dC, dI) vwCl (hW N ca b u.1 u.2 J) H)) X hP hS (c_X4_save hN hA I O J 1 kc_1 q7 hcq7) (cwV 1 X.ts gX7_pair_X4_save rfl rfl rfl (by decide +kernel) ⟨Nat.le_of_ble_eq_true rfl, Nat.le_of_ble_eq_true rfl⟩) (gr4 X hP kc_25 (sk_in hN kc_25 (by decide))) rfl hl.1 rfl (Nat.le_of_ble_eq_true rfl) dX7_pair_36 ⟨Nat.le_of_ble_eq_true rfl, Nat.le_of_ble_eq_true rfl⟩ (fun u9 H locs hw hP hS => ?_)
    obtain ⟨I5, O6⟩ := u9
    subst hw
    refine lv_aload_n hx hb dX7_pair_39 rfl (lv_at hl 2 rfl) ?_
    refine gg7_0 X hP kc_0 (sk_in hN kc_0 (by decide)) hi7 (List.mem_of_getElem? (i := 4) rfl) dX7_pair_40 ?_
    refine gv_aload_n (r := Option.map b r1) hx hb dX7_pair_43 rfl (lv_at hl 1 rfl) ?_
    refine gv_aload (r := Option.map b r3) hx hb dX7_pair_44 (lv_at hl 0 rfl) ?_
    obtain ⟨n8, rfl, h⟩ := hb_some h
    obtain ⟨hk_n8, h⟩ := hk_some h
    obtain ⟨n9, rfl, h⟩ := hb_some h
    obtain ⟨hk_n9, h⟩ := hk_some h
    obtain ⟨q11, hcq11, h⟩ := hb_some h
    refine gdV_v (As := [.ref (b n8), .ref (b n9)]) (rest := []) (BH := (fun (u : Nat → Nat → Int32) H => va_P (dC, dI) vwCl (hW N ca b u O6 J) H)) X hP hS (c_X3_makePair hN hA I5 O6 J 1 n8 n9 kc_1 hk_n8 hk_n9 q11 hcq11) (cwV 2 X.ts gX7_pair_X3_makePair rfl rfl rfl (by decide +kernel) ⟨Nat.le_of_ble_eq_true rfl, Nat.le_of_ble_eq_true rfl⟩) (gr3 X hP kc_1 (sk_in hN kc_1 (by decide))) rfl hl.1 rfl (Nat.le_of_ble_eq_true rfl) dX7_pair_46 ⟨Nat.le_of_ble_eq_true rfl, Nat.le_of_ble_eq_true rfl⟩ (fun I10 H locs hw hP hS => ?_)
    have hw := hw.symm
    subst hw
    refine lv_aload_n hx hb dX7_pair_49 rfl (lv_at hl 2 rfl) ?_
    refine gg7_0 X hP kc_0 (sk_in hN kc_0 (by decide)) hi7 (List.mem_of_getElem? (i := 4) rfl) dX7_pair_50 ?_
    obtain ⟨q13, hcq13, h⟩ := hb_some h
    refine gdV_i (As := []) (rest := []) (BH := (fun (u : Unit) H => va_P (dC, dI) vwCl (hW N ca b I10 O6 J) H)) X hP hS (c_X3_countPairs hN hA I10 O6 J 1 kc_1 q13 hcq13) (cwV 0 X.ts gX7_pair_X3_countPairs rfl rfl rfl (by decide +kernel) ⟨Nat.le_of_ble_eq_true rfl, Nat.le_of_ble_eq_true rfl⟩) (gr3 X hP kc_1 (sk_in hN kc_1 (by decide))) rfl hl.1 rfl (Nat.le_of_ble_eq_true rfl) dX7_pair_53 ⟨Nat.le_of_ble_eq_true rfl, Nat.le_of_ble_eq_true rfl⟩ (fun r12 u9 H locs hw hP hS => ?_)
    have hw := hw.symm
    subst hw
    refine vx_ret ?_
    refine W.widen (k := 3) (n := 18) (Nat.le_of_ble_eq_true rfl) (Nat.le_of_ble_eq_true rfl) ?_
    exact W.iret hx hb hr (fun t9 ht hW => ⟨⟨r12, (I10, O6), rfl, (Option.some.inj h).symm, gEnd ht hP⟩, hS.F ht⟩) hS.2.2 dX7_pair_56 hlk
  · have h := gif_t c14 h
    exact gt1 (S := (Nat → Nat → Int32) × (Nat → Nat → Option Nat)) (BH := (fun (u : (Nat → Nat → Int32) × (Nat → Nat → Option Nat)) H => va_P (dC, dI) vwCl (hW N ca b u.1 u.2 J) H)) X hlf hlk hout hS hg1 (List.mem_of_getElem? (i := 1) rfl) (List.mem_of_getElem? (i := 2) rfl) (List.mem_of_getElem? (i := 5) rfl) hl.1 dX7_pair_18 dX7_pair_21 dX7_pair_22 dX7_pair_24 dX7_pair_27 (Nat.le_of_ble_eq_true rfl) (Nat.le_of_ble_eq_true rfl) (Nat.le_of_ble_eq_true rfl) (Nat.le_of_ble_eq_true rfl) (I, O) (Option.some.inj h).symm (fun H1 hk1 => hP.kept (fun k q hq => hk1 q.1 (hP k q hq).lt)) (Nat.le_of_ble_eq_true rfl) (Nat.le_of_ble_eq_true rfl)
def f_X7_checkCorner (a0 : Int32) : Option (Sum Nat Unit) :=
  if a0 < 0 then
    some (Sum.inl 0)
  else
    if a0 < (4 : Int32) then
      some (Sum.inr ())
    else
      some (Sum.inl 0)
set_option maxHeartbeats 8000000 in
set_option maxRecDepth 100000 in
theorem c_X7_checkCorner {l : Launch} (hlf : l.stackTraces = false) {dC : Nat → ClassId} {dI : Nat → Nat → Nat} {ca : Nat → ClassId} {b : Nat → Nat} {A : Nat → Prop} {N : Nat} (hN : 129 ≤ N) (hA : gAd A b N) (I : Nat → Nat → Int32) (O : Nat → Nat → Option Nat) (J : Nat → Nat → Int64) (a0 : Int32) (res : Sum Nat Unit) (h : f_X7_checkCorner a0 = some res) : vx_Met l yX7_checkCorner wsX7_checkCorner ({ frames := 6, cells := 1, slots := 6, locals := 90 } : Room) (va_Pc [.int a0] (gPre dC dI ca b A N I O J)) (va_Qv (fun (u : Unit) => res = (Sum.inr ())) (fun (u : Unit) t => va_P (dC, dI) vwCl (hW N ca b I O J) t.heap) A) (vx_X (fun (u : Nat × Unit) => res = Sum.inl u.1) (fun E (u : Nat × Unit) t => E = gEn u.1 ∧ (fun (u : Unit) H => va_P (dC, dI) vwCl (hW N ca b I O J) H) u.2 t.heap) A) 1 6 A := by
  refine vx_ofW (cc := cX7_checkCorner) (maxL := 1) (ret := none) (by decide) rfl ?_
  intro p e s m args below meth c s₁ B hml hout hv
  obtain ⟨rfl, hP, hK, hA2, hth⟩ := hv
  have hx := B.exec
  have hb := B.bytes
  have hr := B.returns
  have hlk := B.notSynchronized
  have X : gCx p s m ([.int a0] : List Value).toArray c RX7 cX7_checkCorner wsX7_checkCorner 1 dC dI ca b A N := ⟨hx, hb, hml, findClass_of_methodNamed B.named, atoms_spec (ws := wsX7_checkCorner) B.pre, hK, hA, hA2, hth⟩
  have hg0 : ∀ w ∈ gWg0, w ∈ wsX7_checkCorner := (fun w h => List.mem_cons_of_mem _ (List.mem_append_right _ h))
  have hS : va_S A s.heap s.heap [] := va_S.rf
  have hl := lv_entry ([.int a0] : List Value) (n := 1) (Nat.le_of_ble_eq_true rfl)
  rw [lg_entry_eq]
  generalize (lg_sl ([.int a0] : List Value) ++ List.replicate (1 - (lg_sl ([.int a0] : List Value)).length) Slot.unset).toArray = ls at hl ⊢
  have hl : lv_has ls 1 [(0, .int a0)] := hl
  unfold f_X7_checkCorner at h
  refine lv_iload_n hx hb dX7_checkCorner_0 rfl (lv_at hl 0 rfl) ?_
  refine lv_if_lt (tgt := 9) hx hb dX7_checkCorner_1 (by decide) (fun c2 => ?_) (fun c2 => ?_)
  · have h := gif_t c2 h
    exact gt0w (S := Unit) (BH := (fun (u : Unit) H => va_P (dC, dI) vwCl (hW N ca b I O J) H)) X hlf hlk hout hS hg0 (List.mem_of_getElem? (i := 1) rfl) (List.mem_of_getElem? (i := 2) rfl) (List.mem_of_getElem? (i := 6) rfl) hl.1 dX7_checkCorner_9 dX7_checkCorner_12 dX7_checkCorner_13 dX7_checkCorner_16 dX7_checkCorner_19 (Nat.le_of_ble_eq_true rfl) (Nat.le_of_ble_eq_true rfl) (Nat.le_of_ble_eq_true rfl) (Nat.le_of_ble_eq_true rfl) () (Option.some.inj h).symm (fun H1 hk1 => hP.kept (fun k q hq => hk1 q.1 (hP k q hq).lt)) (Nat.le_of_ble_eq_true rfl) (Nat.le_of_ble_eq_true rfl)
  · have h := gif_f c2 h
    refine lv_iload_n hx hb dX7_checkCorner_4 rfl (lv_at hl 0 rfl) ?_
    refine lv_iconst (v := 4) hx hb dX7_checkCorner_5 (by decide) ?_
    refine lv_icmp_lt (tgt := 20) hx hb dX7_checkCorner_6 (by decide) (fun c1 => ?_) (fun c1 => ?_)
    · have h := gif_t c1 h
      refine vx_ret ?_
      refine W.widen (k := 1) (n := 6) (Nat.le_of_ble_eq_true rfl) (Nat.le_of_ble_eq_true rfl) ?_
      exact W.vret hx hb hr (fun t9 ht hW => ⟨⟨(), rfl, (Option.some.inj h).symm, gEnd ht hP⟩, hS.F ht⟩) hS.2.2 dX7_checkCorner_20 hlk
    · have h := gif_f c1 h
      exact gt0w (S := Unit) (BH := (fun (u : Unit) H => va_P (dC, dI) vwCl (hW N ca b I O J) H)) X hlf hlk hout hS hg0 (List.mem_of_getElem? (i := 1) rfl) (List.mem_of_getElem? (i := 2) rfl) (List.mem_of_getElem? (i := 6) rfl) hl.1 dX7_checkCorner_9 dX7_checkCorner_12 dX7_checkCorner_13 dX7_checkCorner_16 dX7_checkCorner_19 (Nat.le_of_ble_eq_true rfl) (Nat.le_of_ble_eq_true rfl) (Nat.le_of_ble_eq_true rfl) (Nat.le_of_ble_eq_true rfl) () (Option.some.inj h).symm (fun H1 hk1 => hP.kept (fun k q hq => hk1 q.1 (hP k q hq).lt)) (Nat.le_of_ble_eq_true rfl) (Nat.le_of_ble_eq_true rfl)
def f_X7_setLimit (a1 : Int32) (a2 : Int32) (I : Nat → Nat → Int32) (O : Nat → Nat → Option Nat) : Option (Sum Nat Int32 × (Nat → Nat → Int32) × (Nat → Nat → Option Nat)) :=
  (f_X7_checkCorner a1).bind fun eq1 => hsum eq1 (fun k9 => some ((Sum.inl k9), I, O)) fun _ =>
  if a2 < (8 : Int32) then
    some ((Sum.inl 1), I, O)
  else
    if a2 ≤ (40 : Int32) then
      (f_X4_save 1 I O).bind fun (I2, O3) =>
      (f_X3_limitAt 1 a1 I2).bind fun r5 =>
      (f_X3_changeLimit 1 a1 a2 I2).bind fun I7 =>
      some ((Sum.inr r5), I7, O3)
    else
      some ((Sum.inl 1), I, O)
set_option maxHeartbeats 8000000 in
set_option maxRecDepth 100000 in
theorem c_X7_setLimit {l : Launch} (hlf : l.stackTraces = false) {dC : Nat → ClassId} {dI : Nat → Nat → Nat} {ca : Nat → ClassId} {b : Nat → Nat} {A : Nat → Prop} {N : Nat} (hN : 129 ≤ N) (hA : gAd A b N) (I : Nat → Nat → Int32) (O : Nat → Nat → Option Nat) (J : Nat → Nat → Int64) (a1 : Int32) (a2 : Int32) (res : Sum Nat Int32 × (Nat → Nat → Int32) × (Nat → Nat → Option Nat)) (h : f_X7_setLimit a1 a2 I O = some res) : vx_Met l yX7_setLimit wsX7_setLimit ({ frames := 7, cells := 2, slots := 12, locals := 110 } : Room) (va_Pc [.ref (b 0), .int a1, .int a2] (gPre dC dI ca b A N I O J)) (va_Qi (fun (r : Int32) (u : (Nat → Nat → Int32) × (Nat → Nat → Option Nat)) => res = (Sum.inr r, u)) (fun (u : (Nat → Nat → Int32) × (Nat → Nat → Option Nat)) t => va_P (dC, dI) vwCl (hW N ca b u.1 u.2 J) t.heap) A) (vx_X (fun (u : Nat × ((Nat → Nat → Int32) × (Nat → Nat → Option Nat))) => res = (Sum.inl u.1, u.2)) (fun E (u : Nat × ((Nat → Nat → Int32) × (Nat → Nat → Option Nat))) t => E = gEn u.1 ∧ (fun (u : (Nat → Nat → Int32) × (Nat → Nat → Option Nat)) H => va_P (dC, dI) vwCl (hW N ca b u.1 u.2 J) H) u.2 t.heap) A) 2 12 A := by
  refine vx_ofW (cc := cX7_setLimit) (maxL := 4) (ret := (some .int)) (by decide) rfl ?_
  intro p e s m args below meth c s₁ B hml hout hv
  obtain ⟨rfl, hP, hK, hA2, hth⟩ := hv
  have hx := B.exec
  have hb := B.bytes
  have hr := B.returns
  have hlk := B.notSynchronized
  have X : gCx p s m ([.ref (b 0), .int a1, .int a2] : List Value).toArray c RX7 cX7_setLimit wsX7_setLimit 4 dC dI ca b A N := ⟨hx, hb, hml, findClass_of_methodNamed B.named, atoms_spec (ws := wsX7_setLimit) B.pre, hK, hA, hA2, hth⟩
  have hi7 : ∀ w ∈ wsX70, w ∈ wsX7_setLimit := (fun w h => List.mem_cons_of_mem _ (List.mem_append_left _ (List.mem_append_left _ (List.mem_append_left _ (List.mem_append_left _ (List.mem_append_left _ (List.mem_append_right _ h)))))))
  have hg1 : ∀ w ∈ gWg1, w ∈ wsX7_setLimit := (fun w h => List.mem_cons_of_mem _ (List.mem_append_left _ (List.mem_append_right _ h)))
  have hS : va_S A s.heap s.heap [] := va_S.rf
  have hl := lv_entry ([.ref (b 0), .int a1, .int a2] : List Value) (n := 4) (Nat.le_of_ble_eq_true rfl)
  rw [lg_entry_eq]
  generalize (lg_sl ([.ref (b 0), .int a1, .int a2] : List Value) ++ List.replicate (4 - (lg_sl ([.ref (b 0), .int a1, .int a2] : List Value)).length) Slot.unset).toArray = ls at hl ⊢
  have hl : lv_has ls 4 [(0, .ref (b 0)), (1, .int a1), (2, .int a2)] := hl
  unfold f_X7_setLimit at h
  refine lv_iload_n hx hb dX7_setLimit_0 rfl (lv_at hl 1 rfl) ?_
  obtain ⟨q1, hcq1, h⟩ := hb_some h
  refine gxS_v (As := [.int a1]) (rest := []) (BH := (fun (u : Unit) H => va_P (dC, dI) vwCl (hW N ca b I O J) H)) (BX := (fun (u : Unit) H => va_P (dC, dI) vwCl (hW N ca b I O J) H)) X hP hS (c_X7_checkCorner hlf hN hA I O J a1 q1 hcq1) (va_cwS 1 X.ts gX7_setLimit_X7_checkCorner rfl rfl rfl (by decide +kernel) ⟨Nat.le_of_ble_eq_true rfl, Nat.le_of_ble_eq_true rfl⟩) rfl hl.1 rfl (Nat.le_of_ble_eq_true rfl) dX7_setLimit_1 ⟨Nat.le_of_ble_eq_true rfl, Nat.le_of_ble_eq_true rfl⟩ (fun k9 u9 H locs ce9 q9 hw hP hS hce hcv hcl => ?_) (fun u9 H locs hw hP hS => ?_)
  · subst hw
    exact gOut (S := (Nat → Nat → Int32) × (Nat → Nat → Option Nat)) (BH := (fun (u : (Nat → Nat → Int32) × (Nat → Nat → Option Nat)) H => va_P (dC, dI) vwCl (hW N ca b u.1 u.2 J) H)) hlk hout hS hce hcv hcl (I, O) (Option.some.inj (show some ((Sum.inl k9), I, O) = some res from h)).symm hP (Nat.le_of_ble_eq_true rfl) (Nat.le_of_ble_eq_true rfl)
  subst hw
  have h := hsum_r h
  refine lv_iload_n hx hb dX7_setLimit_4 rfl (lv_at hl 2 rfl) ?_
  refine lv_bipush (v := 8) hx hb dX7_setLimit_5 (by decide) ?_
  refine lv_icmp_lt (tgt := 16) hx hb dX7_setLimit_7 (by decide) (fun c10 => ?_) (fun c10 => ?_)
  · have h := gif_t c10 h
    exact gt1 (S := (Nat → Nat → Int32) × (Nat → Nat → Option Nat)) (BH := (fun (u : (Nat → Nat → Int32) × (Nat → Nat → Option Nat)) H => va_P (dC, dI) vwCl (hW N ca b u.1 u.2 J) H)) X hlf hlk hout hS hg1 (List.mem_of_getElem? (i := 1) rfl) (List.mem_of_getElem? (i := 2) rfl) (List.mem_of_getElem? (i := 7) rfl) hl.1 dX7_setLimit_16 dX7_setLimit_19 dX7_setLimit_20 dX7_setLimit_22 dX7_setLimit_25 (Nat.le_of_ble_eq_true rfl) (Nat.le_of_ble_eq_true rfl) (Nat.le_of_ble_eq_true rfl) (Nat.le_of_ble_eq_true rfl) (I, O) (Option.some.inj h).symm (fun H1 hk1 => hP.kept (fun k q hq => hk1 q.1 (hP k q hq).lt)) (Nat.le_of_ble_eq_true rfl) (Nat.le_of_ble_eq_true rfl)
  · have h := gif_f c10 h
    refine lv_iload_n hx hb dX7_setLimit_10 rfl (lv_at hl 2 rfl) ?_
    refine lv_bipush (v := 40) hx hb dX7_setLimit_11 (by decide) ?_
    refine lv_icmp_le (tgt := 26) hx hb dX7_setLimit_13 (by decide) (fun c9 => ?_) (fun c9 => ?_)
    · have h := gif_t c9 h
      refine lv_aload_n hx hb dX7_setLimit_26 rfl (lv_at hl 0 rfl) ?_
      refine gg7_2 X hP kc_0 (sk_in hN kc_0 (by decide)) hi7 (List.mem_of_getElem? (i := 3) rfl) dX7_setLimit_27 ?_
      refine lv_aload_n hx hb dX7_setLimit_30 rfl (lv_at hl 0 rfl) ?_
      refine gg7_0 X hP kc_0 (sk_in hN kc_0 (by decide)) hi7 (List.mem_of_getElem? (i := 4) rfl) dX7_setLimit_31 ?_
      obtain ⟨q4, hcq4, h⟩ := hb_some h
      refine gdV_v (As := [.ref (b 1)]) (rest := []) (BH := (fun (u : (Nat → Nat → Int32) × (Nat → Nat → Option Nat)) H => va_P (dC, dI) vwCl (hW N ca b u.1 u.2 J) H)) X hP hS (c_X4_save hN hA I O J 1 kc_1 q4 hcq4) (cwV 1 X.ts gX7_setLimit_X4_save rfl rfl rfl (by decide +kernel) ⟨Nat.le_of_ble_eq_true rfl, Nat.le_of_ble_eq_true rfl⟩) (gr4 X hP kc_25 (sk_in hN kc_25 (by decide))) rfl hl.1 rfl (Nat.le_of_ble_eq_true rfl) dX7_setLimit_34 ⟨Nat.le_of_ble_eq_true rfl, Nat.le_of_ble_eq_true rfl⟩ (fun u9 H locs hw hP hS => ?_)
      obtain ⟨I2, O3⟩ := u9
      subst hw
      refine lv_aload_n hx hb dX7_setLimit_37 rfl (lv_at hl 0 rfl) ?_
      refine gg7_0 X hP kc_0 (sk_in hN kc_0 (by decide)) hi7 (List.mem_of_getElem? (i := 4) rfl) dX7_setLimit_38 ?_
      refine lv_iload_n hx hb dX7_setLimit_41 rfl (lv_at hl 1 rfl) ?_
      obtain ⟨q6, hcq6, h⟩ := hb_some h
      refine gdV_i (As := [.int a1]) (rest := []) (BH := (fun (u : Unit) H => va_P (dC, dI) vwCl (hW N ca b I2 O3 J) H)) X hP hS (c_X3_limitAt hN hA I2 O3 J 1 a1 kc_1 q6 hcq6) (cwV 1 X.ts gX7_setLimit_X3_limitAt rfl rfl rfl (by decide +kernel) ⟨Nat.le_of_ble_eq_true rfl, Nat.le_of_ble_eq_true rfl⟩) (gr3 X hP kc_1 (sk_in hN kc_1 (by decide))) rfl hl.1 rfl (Nat.le_of_ble_eq_true rfl) dX7_setLimit_42 ⟨Nat.le_of_ble_eq_true rfl, Nat.le_of_ble_eq_true rfl⟩ (fun r5 u9 H locs hw hP hS => ?_)
      have hw := hw.symm
      subst hw
      refine lv_istore_n (lv' := [(3, .int r5), (0, .ref (b 0)), (1, .int a1), (2, .int a2)]) hx hb dX7_setLimit_45 rfl hl (by decide) rfl (fun ls hl => ?_)
      refine lv_aload_n hx hb dX7_setLimit_46 rfl (lv_at hl 1 rfl) ?_
      refine gg7_0 X hP kc_0 (sk_in hN kc_0 (by decide)) hi7 (List.mem_of_getElem? (i := 4) rfl) dX7_setLimit_47 ?_
      refine lv_iload_n hx hb dX7_setLimit_50 rfl (lv_at hl 2 rfl) ?_
      refine lv_iload_n hx hb dX7_setLimit_51 rfl (lv_at hl 3 rfl) ?_
      obtain ⟨q8, hcq8, h⟩ := hb_some h
      refine gdV_v (As := [.int a1, .int a2]) (rest := []) (BH := (fun (u : Nat → Nat → Int32) H => va_P (dC, dI) vwCl (hW N ca b u O3 J) H)) X hP hS (c_X3_changeLimit hN hA I2 O3 J 1 a1 a2 kc_1 q8 hcq8) (cwV 2 X.ts gX7_setLimit_X3_changeLimit rfl rfl rfl (by decide +kernel) ⟨Nat.le_of_ble_eq_true rfl, Nat.le_of_ble_eq_true rfl⟩) (gr3 X hP kc_1 (sk_in hN kc_1 (by decide))) rfl hl.1 rfl (Nat.le_of_ble_eq_true rfl) dX7_setLimit_52 ⟨Nat.le_of_ble_eq_true rfl, Nat.le_of_ble_eq_true rfl⟩ (fun I7 H locs hw hP hS => ?_)
      have hw := hw.symm
      subst hw
      refine lv_iload_n hx hb dX7_setLimit_55 rfl (lv_at hl 0 rfl) ?_
      refine vx_ret ?_
      refine W.widen (k := 2) (n := 12) (Nat.le_of_ble_eq_true rfl) (Nat.le_of_ble_eq_true rfl) ?_
      exact W.iret hx hb hr (fun t9 ht hW => ⟨⟨r5, (I7, O3), rfl, (Option.some.inj h).symm, gEnd ht hP⟩, hS.F ht⟩) hS.2.2 dX7_setLimit_56 hlk
    · have h := gif_f c9 h
      exact gt1 (S := (Nat → Nat → Int32) × (Nat → Nat → Option Nat)) (BH := (fun (u : (Nat → Nat → Int32) × (Nat → Nat → Option Nat)) H => va_P (dC, dI) vwCl (hW N ca b u.1 u.2 J) H)) X hlf hlk hout hS hg1 (List.mem_of_getElem? (i := 1) rfl) (List.mem_of_getElem? (i := 2) rfl) (List.mem_of_getElem? (i := 7) rfl) hl.1 dX7_setLimit_16 dX7_setLimit_19 dX7_setLimit_20 dX7_setLimit_22 dX7_setLimit_25 (Nat.le_of_ble_eq_true rfl) (Nat.le_of_ble_eq_true rfl) (Nat.le_of_ble_eq_true rfl) (Nat.le_of_ble_eq_true rfl) (I, O) (Option.some.inj h).symm (fun H1 hk1 => hP.kept (fun k q hq => hk1 q.1 (hP k q hq).lt)) (Nat.le_of_ble_eq_true rfl) (Nat.le_of_ble_eq_true rfl)
def f_X7_setLaps (a1 : Int32) (I : Nat → Nat → Int32) (O : Nat → Nat → Option Nat) : Option (Sum Nat Int32 × (Nat → Nat → Int32) × (Nat → Nat → Option Nat)) :=
  if a1 < (1 : Int32) then
    some ((Sum.inl 1), I, O)
  else
    if a1 ≤ (9 : Int32) then
      if (I 1 5) = 0 then
        (f_X4_save 1 I O).bind fun (I1, O2) =>
        hlet (gup I1 1 4 a1) fun I4 =>
        some ((Sum.inr (I1 1 4)), I4, O2)
      else
        some ((Sum.inl 2), I, O)
    else
      some ((Sum.inl 1), I, O)
set_option maxHeartbeats 8000000 in
set_option maxRecDepth 100000 in
theorem c_X7_setLaps {l : Launch} (hlf : l.stackTraces = false) {dC : Nat → ClassId} {dI : Nat → Nat → Nat} {ca : Nat → ClassId} {b : Nat → Nat} {A : Nat → Prop} {N : Nat} (hN : 129 ≤ N) (hA : gAd A b N) (I : Nat → Nat → Int32) (O : Nat → Nat → Option Nat) (J : Nat → Nat → Int64) (a1 : Int32) (res : Sum Nat Int32 × (Nat → Nat → Int32) × (Nat → Nat → Option Nat)) (h : f_X7_setLaps a1 I O = some res) : vx_Met l yX7_setLaps wsX7_setLaps ({ frames := 6, cells := 1, slots := 6, locals := 90 } : Room) (va_Pc [.ref (b 0), .int a1] (gPre dC dI ca b A N I O J)) (va_Qi (fun (r : Int32) (u : (Nat → Nat → Int32) × (Nat → Nat → Option Nat)) => res = (Sum.inr r, u)) (fun (u : (Nat → Nat → Int32) × (Nat → Nat → Option Nat)) t => va_P (dC, dI) vwCl (hW N ca b u.1 u.2 J) t.heap) A) (vx_X (fun (u : Nat × ((Nat → Nat → Int32) × (Nat → Nat → Option Nat))) => res = (Sum.inl u.1, u.2)) (fun E (u : Nat × ((Nat → Nat → Int32) × (Nat → Nat → Option Nat))) t => E = gEn u.1 ∧ (fun (u : (Nat → Nat → Int32) × (Nat → Nat → Option Nat)) H => va_P (dC, dI) vwCl (hW N ca b u.1 u.2 J) H) u.2 t.heap) A) 1 6 A := by
  refine vx_ofW (cc := cX7_setLaps) (maxL := 3) (ret := (some .int)) (by decide) rfl ?_
  intro p e s m args below meth c s₁ B hml hout hv
  obtain ⟨rfl, hP, hK, hA2, hth⟩ := hv
  have hx := B.exec
  have hb := B.bytes
  have hr := B.returns
  have hlk := B.notSynchronized
  have X : gCx p s m ([.ref (b 0), .int a1] : List Value).toArray c RX7 cX7_setLaps wsX7_setLaps 3 dC dI ca b A N := ⟨hx, hb, hml, findClass_of_methodNamed B.named, atoms_spec (ws := wsX7_setLaps) B.pre, hK, hA, hA2, hth⟩
  have hi3 : ∀ w ∈ wsX30, w ∈ wsX7_setLaps := (fun w h => List.mem_cons_of_mem _ (List.mem_append_left _ (List.mem_append_left _ (List.mem_append_left _ (List.mem_append_left _ (List.mem_append_right _ h))))))
  have hi7 : ∀ w ∈ wsX70, w ∈ wsX7_setLaps := (fun w h => List.mem_cons_of_mem _ (List.mem_append_left _ (List.mem_append_left _ (List.mem_append_left _ (List.mem_append_left _ (List.mem_append_left _ (List.mem_append_right _ h)))))))
  have hg1 : ∀ w ∈ gWg1, w ∈ wsX7_setLaps := (fun w h => List.mem_cons_of_mem _ (List.mem_append_left _ (List.mem_append_right _ h)))
  have hg2 : ∀ w ∈ gWg2, w ∈ wsX7_setLaps := (fun w h => List.mem_cons_of_mem _ (List.mem_append_right _ h))
  have hS : va_S A s.heap s.heap [] := va_S.rf
  have hl := lv_entry ([.ref (b 0), .int a1] : List Value) (n := 3) (Nat.le_of_ble_eq_true rfl)
  rw [lg_entry_eq]
  generalize (lg_sl ([.ref (b 0), .int a1] : List Value) ++ List.replicate (3 - (lg_sl ([.ref (b 0), .int a1] : List Value)).length) Slot.unset).toArray = ls at hl ⊢
  have hl : lv_has ls 3 [(0, .ref (b 0)), (1, .int a1)] := hl
  unfold f_X7_setLaps at h
  refine lv_iload_n hx hb dX7_setLaps_0 rfl (lv_at hl 1 rfl) ?_
  refine lv_iconst (v := 1) hx hb dX7_setLaps_1 (by decide) ?_
  refine lv_icmp_lt (tgt := 11) hx hb dX7_setLaps_2 (by decide) (fun c7 => ?_) (fun c7 => ?_)
  · have h := gif_t c7 h
    exact gt1 (S := (Nat → Nat → Int32) × (Nat → Nat → Option Nat)) (BH := (fun (u : (Nat → Nat → Int32) × (Nat → Nat → Option Nat)) H => va_P (dC, dI) vwCl (hW N ca b u.1 u.2 J) H)) X hlf hlk hout hS hg1 (List.mem_of_getElem? (i := 1) rfl) (List.mem_of_getElem? (i := 2) rfl) (List.mem_of_getElem? (i := 8) rfl) hl.1 dX7_setLaps_11 dX7_setLaps_14 dX7_setLaps_15 dX7_setLaps_17 dX7_setLaps_20 (Nat.le_of_ble_eq_true rfl) (Nat.le_of_ble_eq_true rfl) (Nat.le_of_ble_eq_true rfl) (Nat.le_of_ble_eq_true rfl) (I, O) (Option.some.inj h).symm (fun H1 hk1 => hP.kept (fun k q hq => hk1 q.1 (hP k q hq).lt)) (Nat.le_of_ble_eq_true rfl) (Nat.le_of_ble_eq_true rfl)
  · have h := gif_f c7 h
    refine lv_iload_n hx hb dX7_setLaps_5 rfl (lv_at hl 1 rfl) ?_
    refine lv_bipush (v := 9) hx hb dX7_setLaps_6 (by decide) ?_
    refine lv_icmp_le (tgt := 21) hx hb dX7_setLaps_8 (by decide) (fun c6 => ?_) (fun c6 => ?_)
    · have h := gif_t c6 h
      refine lv_aload_n hx hb dX7_setLaps_21 rfl (lv_at hl 0 rfl) ?_
      refine gg7_0 X hP kc_0 (sk_in hN kc_0 (by decide)) hi7 (List.mem_of_getElem? (i := 5) rfl) dX7_setLaps_22 ?_
      refine gg3_5 X hP kc_1 (sk_in hN kc_1 (by decide)) hi3 (List.mem_of_getElem? (i := 6) rfl) dX7_setLaps_25 ?_
      refine lv_if_eq (tgt := 41) hx hb dX7_setLaps_28 (by decide) (fun c5 => ?_) (fun c5 => ?_)
      · have h := gif_t c5 h
        refine lv_aload_n hx hb dX7_setLaps_41 rfl (lv_at hl 0 rfl) ?_
        refine gg7_2 X hP kc_0 (sk_in hN kc_0 (by decide)) hi7 (List.mem_of_getElem? (i := 7) rfl) dX7_setLaps_42 ?_
        refine lv_aload_n hx hb dX7_setLaps_45 rfl (lv_at hl 0 rfl) ?_
        refine gg7_0 X hP kc_0 (sk_in hN kc_0 (by decide)) hi7 (List.mem_of_getElem? (i := 5) rfl) dX7_setLaps_46 ?_
        obtain ⟨q3, hcq3, h⟩ := hb_some h
        refine gdV_v (As := [.ref (b 1)]) (rest := []) (BH := (fun (u : (Nat → Nat → Int32) × (Nat → Nat → Option Nat)) H => va_P (dC, dI) vwCl (hW N ca b u.1 u.2 J) H)) X hP hS (c_X4_save hN hA I O J 1 kc_1 q3 hcq3) (cwV 1 X.ts gX7_setLaps_X4_save rfl rfl rfl (by decide +kernel) ⟨Nat.le_of_ble_eq_true rfl, Nat.le_of_ble_eq_true rfl⟩) (gr4 X hP kc_25 (sk_in hN kc_25 (by decide))) rfl hl.1 rfl (Nat.le_of_ble_eq_true rfl) dX7_setLaps_49 ⟨Nat.le_of_ble_eq_true rfl, Nat.le_of_ble_eq_true rfl⟩ (fun u9 H locs hw hP hS => ?_)
        obtain ⟨I1, O2⟩ := u9
        subst hw
        refine lv_aload_n hx hb dX7_setLaps_52 rfl (lv_at hl 0 rfl) ?_
        refine gg7_0 X hP kc_0 (sk_in hN kc_0 (by decide)) hi7 (List.mem_of_getElem? (i := 5) rfl) dX7_setLaps_53 ?_
        refine gg3_4 X hP kc_1 (sk_in hN kc_1 (by decide)) hi3 (List.mem_of_getElem? (i := 8) rfl) dX7_setLaps_56 ?_
        refine lv_istore_n (lv' := [(2, .int (I1 1 4)), (0, .ref (b 0)), (1, .int a1)]) hx hb dX7_setLaps_59 rfl hl (by decide) rfl (fun ls hl => ?_)
        refine lv_aload_n hx hb dX7_setLaps_60 rfl (lv_at hl 1 rfl) ?_
        refine gg7_0 X hP kc_0 (sk_in hN kc_0 (by decide)) hi7 (List.mem_of_getElem? (i := 5) rfl) dX7_setLaps_61 ?_
        refine lv_iload_n hx hb dX7_setLaps_64 rfl (lv_at hl 2 rfl) ?_
        refine gp3_4 X hP hS kc_1 (sk_in hN kc_1 (by decide)) hi3 (List.mem_of_getElem? (i := 8) rfl) dX7_setLaps_65 (fun H locs hP hS => ?_)
        obtain ⟨I4, eI4, h⟩ := hlet_ex h
        rw [← eI4] at hP
        refine lv_iload_n hx hb dX7_setLaps_68 rfl (lv_at hl 0 rfl) ?_
        refine vx_ret ?_
        refine W.widen (k := 1) (n := 6) (Nat.le_of_ble_eq_true rfl) (Nat.le_of_ble_eq_true rfl) ?_
        exact W.iret hx hb hr (fun t9 ht hW => ⟨⟨(I1 1 4), (I4, O2), rfl, (Option.some.inj h).symm, gEnd ht hP⟩, hS.F ht⟩) hS.2.2 dX7_setLaps_69 hlk
      · have h := gif_f c5 h
        exact gt2 (S := (Nat → Nat → Int32) × (Nat → Nat → Option Nat)) (BH := (fun (u : (Nat → Nat → Int32) × (Nat → Nat → Option Nat)) H => va_P (dC, dI) vwCl (hW N ca b u.1 u.2 J) H)) X hlf hlk hout hS hg2 (List.mem_of_getElem? (i := 3) rfl) (List.mem_of_getElem? (i := 4) rfl) (List.mem_of_getElem? (i := 9) rfl) hl.1 dX7_setLaps_31 dX7_setLaps_34 dX7_setLaps_35 dX7_setLaps_37 dX7_setLaps_40 (Nat.le_of_ble_eq_true rfl) (Nat.le_of_ble_eq_true rfl) (Nat.le_of_ble_eq_true rfl) (Nat.le_of_ble_eq_true rfl) (I, O) (Option.some.inj h).symm (fun H1 hk1 => hP.kept (fun k q hq => hk1 q.1 (hP k q hq).lt)) (Nat.le_of_ble_eq_true rfl) (Nat.le_of_ble_eq_true rfl)
    · have h := gif_f c6 h
      exact gt1 (S := (Nat → Nat → Int32) × (Nat → Nat → Option Nat)) (BH := (fun (u : (Nat → Nat → Int32) × (Nat → Nat → Option Nat)) H => va_P (dC, dI) vwCl (hW N ca b u.1 u.2 J) H)) X hlf hlk hout hS hg1 (List.mem_of_getElem? (i := 1) rfl) (List.mem_of_getElem? (i := 2) rfl) (List.mem_of_getElem? (i := 8) rfl) hl.1 dX7_setLaps_11 dX7_setLaps_14 dX7_setLaps_15 dX7_setLaps_17 dX7_setLaps_20 (Nat.le_of_ble_eq_true rfl) (Nat.le_of_ble_eq_true rfl) (Nat.le_of_ble_eq_true rfl) (Nat.le_of_ble_eq_true rfl) (I, O) (Option.some.inj h).symm (fun H1 hk1 => hP.kept (fun k q hq => hk1 q.1 (hP k q hq).lt)) (Nat.le_of_ble_eq_true rfl) (Nat.le_of_ble_eq_true rfl)
def f_X7_begin (I : Nat → Nat → Int32) (O : Nat → Nat → Option Nat) : Option (Sum Nat Int32 × (Nat → Nat → Int32) × (Nat → Nat → Option Nat)) :=
  if (I 1 3) = 0 then
    some ((Sum.inl 2), I, O)
  else
    (f_X4_save 1 I O).bind fun (I1, O2) =>
    (f_X3_startRace 1 I1).bind fun I4 =>
    some ((Sum.inr (I4 1 3)), I4, O2)
set_option maxHeartbeats 8000000 in
set_option maxRecDepth 100000 in
theorem c_X7_begin {l : Launch} (hlf : l.stackTraces = false) {dC : Nat → ClassId} {dI : Nat → Nat → Nat} {ca : Nat → ClassId} {b : Nat → Nat} {A : Nat → Prop} {N : Nat} (hN : 129 ≤ N) (hA : gAd A b N) (I : Nat → Nat → Int32) (O : Nat → Nat → Option Nat) (J : Nat → Nat → Int64) (res : Sum Nat Int32 × (Nat → Nat → Int32) × (Nat → Nat → Option Nat)) (h : f_X7_begin I O = some res) : vx_Met l yX7_begin wsX7_begin ({ frames := 6, cells := 1, slots := 6, locals := 90 } : Room) (va_Pc [.ref (b 0)] (gPre dC dI ca b A N I O J)) (va_Qi (fun (r : Int32) (u : (Nat → Nat → Int32) × (Nat → Nat → Option Nat)) => res = (Sum.inr r, u)) (fun (u : (Nat → Nat → Int32) × (Nat → Nat → Option Nat)) t => va_P (dC, dI) vwCl (hW N ca b u.1 u.2 J) t.heap) A) (vx_X (fun (u : Nat × ((Nat → Nat → Int32) × (Nat → Nat → Option Nat))) => res = (Sum.inl u.1, u.2)) (fun E (u : Nat × ((Nat → Nat → Int32) × (Nat → Nat → Option Nat))) t => E = gEn u.1 ∧ (fun (u : (Nat → Nat → Int32) × (Nat → Nat → Option Nat)) H => va_P (dC, dI) vwCl (hW N ca b u.1 u.2 J) H) u.2 t.heap) A) 1 6 A := by
  refine vx_ofW (cc := cX7_begin) (maxL := 1) (ret := (some .int)) (by decide) rfl ?_
  intro p e s m args below meth c s₁ B hml hout hv
  obtain ⟨rfl, hP, hK, hA2, hth⟩ := hv
  have hx := B.exec
  have hb := B.bytes
  have hr := B.returns
  have hlk := B.notSynchronized
  have X : gCx p s m ([.ref (b 0)] : List Value).toArray c RX7 cX7_begin wsX7_begin 1 dC dI ca b A N := ⟨hx, hb, hml, findClass_of_methodNamed B.named, atoms_spec (ws := wsX7_begin) B.pre, hK, hA, hA2, hth⟩
  have hi3 : ∀ w ∈ wsX30, w ∈ wsX7_begin := (fun w h => List.mem_cons_of_mem _ (List.mem_append_left _ (List.mem_append_left _ (List.mem_append_left _ (List.mem_append_right _ h)))))
  have hi7 : ∀ w ∈ wsX70, w ∈ wsX7_begin := (fun w h => List.mem_cons_of_mem _ (List.mem_append_left _ (List.mem_append_left _ (List.mem_append_left _ (List.mem_append_left _ (List.mem_append_right _ h))))))
  have hg2 : ∀ w ∈ gWg2, w ∈ wsX7_begin := (fun w h => List.mem_cons_of_mem _ (List.mem_append_right _ h))
  have hS : va_S A s.heap s.heap [] := va_S.rf
  have hl := lv_entry ([.ref (b 0)] : List Value) (n := 1) (Nat.le_of_ble_eq_true rfl)
  rw [lg_entry_eq]
  generalize (lg_sl ([.ref (b 0)] : List Value) ++ List.replicate (1 - (lg_sl ([.ref (b 0)] : List Value)).length) Slot.unset).toArray = ls at hl ⊢
  have hl : lv_has ls 1 [(0, .ref (b 0))] := hl
  unfold f_X7_begin at h
  refine lv_aload_n hx hb dX7_begin_0 rfl (lv_at hl 0 rfl) ?_
  refine gg7_0 X hP kc_0 (sk_in hN kc_0 (by decide)) hi7 (List.mem_of_getElem? (i := 3) rfl) dX7_begin_1 ?_
  refine gg3_3 X hP kc_1 (sk_in hN kc_1 (by decide)) hi3 (List.mem_of_getElem? (i := 4) rfl) dX7_begin_4 ?_
  refine lv_if_ne (tgt := 20) hx hb dX7_begin_7 (by decide) (fun c6 => ?_) (fun c6 => ?_)
  · have h := gif_f c6 h
    refine lv_aload_n hx hb dX7_begin_20 rfl (lv_at hl 0 rfl) ?_
    refine gg7_2 X hP kc_0 (sk_in hN kc_0 (by decide)) hi7 (List.mem_of_getElem? (i := 5) rfl) dX7_begin_21 ?_
    refine lv_aload_n hx hb dX7_begin_24 rfl (lv_at hl 0 rfl) ?_
    refine gg7_0 X hP kc_0 (sk_in hN kc_0 (by decide)) hi7 (List.mem_of_getElem? (i := 3) rfl) dX7_begin_25 ?_
    obtain ⟨q3, hcq3, h⟩ := hb_some h
    refine gdV_v (As := [.ref (b 1)]) (rest := []) (BH := (fun (u : (Nat → Nat → Int32) × (Nat → Nat → Option Nat)) H => va_P (dC, dI) vwCl (hW N ca b u.1 u.2 J) H)) X hP hS (c_X4_save hN hA I O J 1 kc_1 q3 hcq3) (cwV 1 X.ts gX7_begin_X4_save rfl rfl rfl (by decide +kernel) ⟨Nat.le_of_ble_eq_true rfl, Nat.le_of_ble_eq_true rfl⟩) (gr4 X hP kc_25 (sk_in hN kc_25 (by decide))) rfl hl.1 rfl (Nat.le_of_ble_eq_true rfl) dX7_begin_28 ⟨Nat.le_of_ble_eq_true rfl, Nat.le_of_ble_eq_true rfl⟩ (fun u9 H locs hw hP hS => ?_)
    obtain ⟨I1, O2⟩ := u9
    subst hw
    refine lv_aload_n hx hb dX7_begin_31 rfl (lv_at hl 0 rfl) ?_
    refine gg7_0 X hP kc_0 (sk_in hN kc_0 (by decide)) hi7 (List.mem_of_getElem? (i := 3) rfl) dX7_begin_32 ?_
    obtain ⟨q5, hcq5, h⟩ := hb_some h
    refine gdV_v (As := []) (rest := []) (BH := (fun (u : Nat → Nat → Int32) H => va_P (dC, dI) vwCl (hW N ca b u O2 J) H)) X hP hS (c_X3_startRace hN hA I1 O2 J 1 kc_1 q5 hcq5) (cwV 0 X.ts gX7_begin_X3_startRace rfl rfl rfl (by decide +kernel) ⟨Nat.le_of_ble_eq_true rfl, Nat.le_of_ble_eq_true rfl⟩) (gr3 X hP kc_1 (sk_in hN kc_1 (by decide))) rfl hl.1 rfl (Nat.le_of_ble_eq_true rfl) dX7_begin_35 ⟨Nat.le_of_ble_eq_true rfl, Nat.le_of_ble_eq_true rfl⟩ (fun I4 H locs hw hP hS => ?_)
    have hw := hw.symm
    subst hw
    refine lv_aload_n hx hb dX7_begin_38 rfl (lv_at hl 0 rfl) ?_
    refine gg7_0 X hP kc_0 (sk_in hN kc_0 (by decide)) hi7 (List.mem_of_getElem? (i := 3) rfl) dX7_begin_39 ?_
    refine gg3_3 X hP kc_1 (sk_in hN kc_1 (by decide)) hi3 (List.mem_of_getElem? (i := 4) rfl) dX7_begin_42 ?_
    refine vx_ret ?_
    refine W.widen (k := 1) (n := 6) (Nat.le_of_ble_eq_true rfl) (Nat.le_of_ble_eq_true rfl) ?_
    exact W.iret hx hb hr (fun t9 ht hW => ⟨⟨(I4 1 3), (I4, O2), rfl, (Option.some.inj h).symm, gEnd ht hP⟩, hS.F ht⟩) hS.2.2 dX7_begin_45 hlk
  · have h := gif_t c6 h
    exact gt2 (S := (Nat → Nat → Int32) × (Nat → Nat → Option Nat)) (BH := (fun (u : (Nat → Nat → Int32) × (Nat → Nat → Option Nat)) H => va_P (dC, dI) vwCl (hW N ca b u.1 u.2 J) H)) X hlf hlk hout hS hg2 (List.mem_of_getElem? (i := 1) rfl) (List.mem_of_getElem? (i := 2) rfl) (List.mem_of_getElem? (i := 10) rfl) hl.1 dX7_begin_10 dX7_begin_13 dX7_begin_14 dX7_begin_16 dX7_begin_19 (Nat.le_of_ble_eq_true rfl) (Nat.le_of_ble_eq_true rfl) (Nat.le_of_ble_eq_true rfl) (Nat.le_of_ble_eq_true rfl) (I, O) (Option.some.inj h).symm (fun H1 hk1 => hP.kept (fun k q hq => hk1 q.1 (hP k q hq).lt)) (Nat.le_of_ble_eq_true rfl) (Nat.le_of_ble_eq_true rfl)
def f_X7_checkSeconds (a0 : Int32) : Option (Sum Nat Unit) :=
  if a0 < (1 : Int32) then
    some (Sum.inl 1)
  else
    if a0 ≤ (200 : Int32) then
      some (Sum.inr ())
    else
      some (Sum.inl 1)
set_option maxHeartbeats 8000000 in
set_option maxRecDepth 100000 in
theorem c_X7_checkSeconds {l : Launch} (hlf : l.stackTraces = false) {dC : Nat → ClassId} {dI : Nat → Nat → Nat} {ca : Nat → ClassId} {b : Nat → Nat} {A : Nat → Prop} {N : Nat} (hN : 129 ≤ N) (hA : gAd A b N) (I : Nat → Nat → Int32) (O : Nat → Nat → Option Nat) (J : Nat → Nat → Int64) (a0 : Int32) (res : Sum Nat Unit) (h : f_X7_checkSeconds a0 = some res) : vx_Met l yX7_checkSeconds wsX7_checkSeconds ({ frames := 6, cells := 1, slots := 6, locals := 90 } : Room) (va_Pc [.int a0] (gPre dC dI ca b A N I O J)) (va_Qv (fun (u : Unit) => res = (Sum.inr ())) (fun (u : Unit) t => va_P (dC, dI) vwCl (hW N ca b I O J) t.heap) A) (vx_X (fun (u : Nat × Unit) => res = Sum.inl u.1) (fun E (u : Nat × Unit) t => E = gEn u.1 ∧ (fun (u : Unit) H => va_P (dC, dI) vwCl (hW N ca b I O J) H) u.2 t.heap) A) 1 6 A := by
  refine vx_ofW (cc := cX7_checkSeconds) (maxL := 1) (ret := none) (by decide) rfl ?_
  intro p e s m args below meth c s₁ B hml hout hv
  obtain ⟨rfl, hP, hK, hA2, hth⟩ := hv
  have hx := B.exec
  have hb := B.bytes
  have hr := B.returns
  have hlk := B.notSynchronized
  have X : gCx p s m ([.int a0] : List Value).toArray c RX7 cX7_checkSeconds wsX7_checkSeconds 1 dC dI ca b A N := ⟨hx, hb, hml, findClass_of_methodNamed B.named, atoms_spec (ws := wsX7_checkSeconds) B.pre, hK, hA, hA2, hth⟩
  have hg1 : ∀ w ∈ gWg1, w ∈ wsX7_checkSeconds := (fun w h => List.mem_cons_of_mem _ (List.mem_append_right _ h))
  have hS : va_S A s.heap s.heap [] := va_S.rf
  have hl := lv_entry ([.int a0] : List Value) (n := 1) (Nat.le_of_ble_eq_true rfl)
  rw [lg_entry_eq]
  generalize (lg_sl ([.int a0] : List Value) ++ List.replicate (1 - (lg_sl ([.int a0] : List Value)).length) Slot.unset).toArray = ls at hl ⊢
  have hl : lv_has ls 1 [(0, .int a0)] := hl
  unfold f_X7_checkSeconds at h
  refine lv_iload_n hx hb dX7_checkSeconds_0 rfl (lv_at hl 0 rfl) ?_
  refine lv_iconst (v := 1) hx hb dX7_checkSeconds_1 (by decide) ?_
  refine lv_icmp_lt (tgt := 12) hx hb dX7_checkSeconds_2 (by decide) (fun c2 => ?_) (fun c2 => ?_)
  · have h := gif_t c2 h
    exact gt1w (S := Unit) (BH := (fun (u : Unit) H => va_P (dC, dI) vwCl (hW N ca b I O J) H)) X hlf hlk hout hS hg1 (List.mem_of_getElem? (i := 1) rfl) (List.mem_of_getElem? (i := 2) rfl) (List.mem_of_getElem? (i := 11) rfl) hl.1 dX7_checkSeconds_12 dX7_checkSeconds_15 dX7_checkSeconds_16 dX7_checkSeconds_19 dX7_checkSeconds_22 (Nat.le_of_ble_eq_true rfl) (Nat.le_of_ble_eq_true rfl) (Nat.le_of_ble_eq_true rfl) (Nat.le_of_ble_eq_true rfl) () (Option.some.inj h).symm (fun H1 hk1 => hP.kept (fun k q hq => hk1 q.1 (hP k q hq).lt)) (Nat.le_of_ble_eq_true rfl) (Nat.le_of_ble_eq_true rfl)
  · have h := gif_f c2 h
    refine lv_iload_n hx hb dX7_checkSeconds_5 rfl (lv_at hl 0 rfl) ?_
    refine lv_sipush (v := 200) hx hb dX7_checkSeconds_6 (by decide) ?_
    refine lv_icmp_le (tgt := 23) hx hb dX7_checkSeconds_9 (by decide) (fun c1 => ?_) (fun c1 => ?_)
    · have h := gif_t c1 h
      refine vx_ret ?_
      refine W.widen (k := 1) (n := 6) (Nat.le_of_ble_eq_true rfl) (Nat.le_of_ble_eq_true rfl) ?_
      exact W.vret hx hb hr (fun t9 ht hW => ⟨⟨(), rfl, (Option.some.inj h).symm, gEnd ht hP⟩, hS.F ht⟩) hS.2.2 dX7_checkSeconds_23 hlk
    · have h := gif_f c1 h
      exact gt1w (S := Unit) (BH := (fun (u : Unit) H => va_P (dC, dI) vwCl (hW N ca b I O J) H)) X hlf hlk hout hS hg1 (List.mem_of_getElem? (i := 1) rfl) (List.mem_of_getElem? (i := 2) rfl) (List.mem_of_getElem? (i := 11) rfl) hl.1 dX7_checkSeconds_12 dX7_checkSeconds_15 dX7_checkSeconds_16 dX7_checkSeconds_19 dX7_checkSeconds_22 (Nat.le_of_ble_eq_true rfl) (Nat.le_of_ble_eq_true rfl) (Nat.le_of_ble_eq_true rfl) (Nat.le_of_ble_eq_true rfl) () (Option.some.inj h).symm (fun H1 hk1 => hP.kept (fun k q hq => hk1 q.1 (hP k q hq).lt)) (Nat.le_of_ble_eq_true rfl) (Nat.le_of_ble_eq_true rfl)
def f_X7_checkRacing (I : Nat → Nat → Int32) : Option (Sum Nat Unit) :=
  if (I 1 5) = 0 then
    some (Sum.inl 2)
  else
    some (Sum.inr ())
set_option maxHeartbeats 8000000 in
set_option maxRecDepth 100000 in
theorem c_X7_checkRacing {l : Launch} (hlf : l.stackTraces = false) {dC : Nat → ClassId} {dI : Nat → Nat → Nat} {ca : Nat → ClassId} {b : Nat → Nat} {A : Nat → Prop} {N : Nat} (hN : 129 ≤ N) (hA : gAd A b N) (I : Nat → Nat → Int32) (O : Nat → Nat → Option Nat) (J : Nat → Nat → Int64) (res : Sum Nat Unit) (h : f_X7_checkRacing I = some res) : vx_Met l yX7_checkRacing wsX7_checkRacing ({ frames := 6, cells := 1, slots := 6, locals := 90 } : Room) (va_Pc [.ref (b 0)] (gPre dC dI ca b A N I O J)) (va_Qv (fun (u : Unit) => res = (Sum.inr ())) (fun (u : Unit) t => va_P (dC, dI) vwCl (hW N ca b I O J) t.heap) A) (vx_X (fun (u : Nat × Unit) => res = Sum.inl u.1) (fun E (u : Nat × Unit) t => E = gEn u.1 ∧ (fun (u : Unit) H => va_P (dC, dI) vwCl (hW N ca b I O J) H) u.2 t.heap) A) 1 6 A := by
  refine vx_ofW (cc := cX7_checkRacing) (maxL := 1) (ret := none) (by decide) rfl ?_
  intro p e s m args below meth c s₁ B hml hout hv
  obtain ⟨rfl, hP, hK, hA2, hth⟩ := hv
  have hx := B.exec
  have hb := B.bytes
  have hr := B.returns
  have hlk := B.notSynchronized
  have X : gCx p s m ([.ref (b 0)] : List Value).toArray c RX7 cX7_checkRacing wsX7_checkRacing 1 dC dI ca b A N := ⟨hx, hb, hml, findClass_of_methodNamed B.named, atoms_spec (ws := wsX7_checkRacing) B.pre, hK, hA, hA2, hth⟩
  have hi3 : ∀ w ∈ wsX30, w ∈ wsX7_checkRacing := (fun w h => List.mem_cons_of_mem _ (List.mem_append_left _ (List.mem_append_right _ h)))
  have hi7 : ∀ w ∈ wsX70, w ∈ wsX7_checkRacing := (fun w h => List.mem_cons_of_mem _ (List.mem_append_left _ (List.mem_append_left _ (List.mem_append_right _ h))))
  have hg2 : ∀ w ∈ gWg2, w ∈ wsX7_checkRacing := (fun w h => List.mem_cons_of_mem _ (List.mem_append_right _ h))
  have hS : va_S A s.heap s.heap [] := va_S.rf
  have hl := lv_entry ([.ref (b 0)] : List Value) (n := 1) (Nat.le_of_ble_eq_true rfl)
  rw [lg_entry_eq]
  generalize (lg_sl ([.ref (b 0)] : List Value) ++ List.replicate (1 - (lg_sl ([.ref (b 0)] : List Value)).length) Slot.unset).toArray = ls at hl ⊢
  have hl : lv_has ls 1 [(0, .ref (b 0))] := hl
  unfold f_X7_checkRacing at h
  refine lv_aload_n hx hb dX7_checkRacing_0 rfl (lv_at hl 0 rfl) ?_
  refine gg7_0 X hP kc_0 (sk_in hN kc_0 (by decide)) hi7 (List.mem_of_getElem? (i := 3) rfl) dX7_checkRacing_1 ?_
  refine gg3_5 X hP kc_1 (sk_in hN kc_1 (by decide)) hi3 (List.mem_of_getElem? (i := 4) rfl) dX7_checkRacing_4 ?_
  refine lv_if_ne (tgt := 21) hx hb dX7_checkRacing_7 (by decide) (fun c1 => ?_) (fun c1 => ?_)
  · have h := gif_f c1 h
    refine vx_ret ?_
    refine W.widen (k := 1) (n := 6) (Nat.le_of_ble_eq_true rfl) (Nat.le_of_ble_eq_true rfl) ?_
    exact W.vret hx hb hr (fun t9 ht hW => ⟨⟨(), rfl, (Option.some.inj h).symm, gEnd ht hP⟩, hS.F ht⟩) hS.2.2 dX7_checkRacing_21 hlk
  · have h := gif_t c1 h
    exact gt2w (S := Unit) (BH := (fun (u : Unit) H => va_P (dC, dI) vwCl (hW N ca b I O J) H)) X hlf hlk hout hS hg2 (List.mem_of_getElem? (i := 1) rfl) (List.mem_of_getElem? (i := 2) rfl) (List.mem_of_getElem? (i := 12) rfl) hl.1 dX7_checkRacing_10 dX7_checkRacing_13 dX7_checkRacing_14 dX7_checkRacing_17 dX7_checkRacing_20 (Nat.le_of_ble_eq_true rfl) (Nat.le_of_ble_eq_true rfl) (Nat.le_of_ble_eq_true rfl) (Nat.le_of_ble_eq_true rfl) () (Option.some.inj h).symm (fun H1 hk1 => hP.kept (fun k q hq => hk1 q.1 (hP k q hq).lt)) (Nat.le_of_ble_eq_true rfl) (Nat.le_of_ble_eq_true rfl)
def f_X7_pass (a1 : Int32) (I : Nat → Nat → Int32) (O : Nat → Nat → Option Nat) : Option (Sum Nat Int32 × (Nat → Nat → Int32) × (Nat → Nat → Option Nat)) :=
  (f_X7_checkSeconds a1).bind fun eq1 => hsum eq1 (fun k9 => some ((Sum.inl k9), I, O)) fun _ =>
  (f_X7_checkRacing I).bind fun eq2 => hsum eq2 (fun k9 => some ((Sum.inl k9), I, O)) fun _ =>
  (f_X4_save 1 I O).bind fun (I3, O4) =>
  (f_X3_letGoBy 1 a1 I3 O4).bind fun (I6, O7) =>
  some ((Sum.inr ((I6 1 7) - (I3 1 7))), I6, O7)
set_option maxHeartbeats 8000000 in
set_option maxRecDepth 100000 in
theorem c_X7_pass {l : Launch} (hlf : l.stackTraces = false) {dC : Nat → ClassId} {dI : Nat → Nat → Nat} {ca : Nat → ClassId} {b : Nat → Nat} {A : Nat → Prop} {N : Nat} (hN : 129 ≤ N) (hA : gAd A b N) (I : Nat → Nat → Int32) (O : Nat → Nat → Option Nat) (J : Nat → Nat → Int64) (a1 : Int32) (res : Sum Nat Int32 × (Nat → Nat → Int32) × (Nat → Nat → Option Nat)) (h : f_X7_pass a1 I O = some res) : vx_Met l yX7_pass wsX7_pass ({ frames := 7, cells := 2, slots := 12, locals := 110 } : Room) (va_Pc [.ref (b 0), .int a1] (gPre dC dI ca b A N I O J)) (va_Qi (fun (r : Int32) (u : (Nat → Nat → Int32) × (Nat → Nat → Option Nat)) => res = (Sum.inr r, u)) (fun (u : (Nat → Nat → Int32) × (Nat → Nat → Option Nat)) t => va_P (dC, dI) vwCl (hW N ca b u.1 u.2 J) t.heap) A) (vx_X (fun (u : Nat × ((Nat → Nat → Int32) × (Nat → Nat → Option Nat))) => res = (Sum.inl u.1, u.2)) (fun E (u : Nat × ((Nat → Nat → Int32) × (Nat → Nat → Option Nat))) t => E = gEn u.1 ∧ (fun (u : (Nat → Nat → Int32) × (Nat → Nat → Option Nat)) H => va_P (dC, dI) vwCl (hW N ca b u.1 u.2 J) H) u.2 t.heap) A) 2 12 A := by
  refine vx_ofW (cc := cX7_pass) (maxL := 3) (ret := (some .int)) (by decide) rfl ?_
  intro p e s m args below meth c s₁ B hml hout hv
  obtain ⟨rfl, hP, hK, hA2, hth⟩ := hv
  have hx := B.exec
  have hb := B.bytes
  have hr := B.returns
  have hlk := B.notSynchronized
  have X : gCx p s m ([.ref (b 0), .int a1] : List Value).toArray c RX7 cX7_pass wsX7_pass 3 dC dI ca b A N := ⟨hx, hb, hml, findClass_of_methodNamed B.named, atoms_spec (ws := wsX7_pass) B.pre, hK, hA, hA2, hth⟩
  have hi3 : ∀ w ∈ wsX30, w ∈ wsX7_pass := (fun w h => List.mem_cons_of_mem _ (List.mem_append_left _ (List.mem_append_left _ (List.mem_append_left _ (List.mem_append_left _ (List.mem_append_right _ h))))))
  have hi7 : ∀ w ∈ wsX70, w ∈ wsX7_pass := (fun w h => List.mem_cons_of_mem _ (List.mem_append_left _ (List.mem_append_left _ (List.mem_append_left _ (List.mem_append_left _ (List.mem_append_left _ (List.mem_append_right _ h)))))))
  have hS : va_S A s.heap s.heap [] := va_S.rf
  have hl := lv_entry ([.ref (b 0), .int a1] : List Value) (n := 3) (Nat.le_of_ble_eq_true rfl)
  rw [lg_entry_eq]
  generalize (lg_sl ([.ref (b 0), .int a1] : List Value) ++ List.replicate (3 - (lg_sl ([.ref (b 0), .int a1] : List Value)).length) Slot.unset).toArray = ls at hl ⊢
  have hl : lv_has ls 3 [(0, .ref (b 0)), (1, .int a1)] := hl
  unfold f_X7_pass at h
  refine lv_iload_n hx hb dX7_pass_0 rfl (lv_at hl 1 rfl) ?_
  obtain ⟨q1, hcq1, h⟩ := hb_some h
  refine gxS_v (As := [.int a1]) (rest := []) (BH := (fun (u : Unit) H => va_P (dC, dI) vwCl (hW N ca b I O J) H)) (BX := (fun (u : Unit) H => va_P (dC, dI) vwCl (hW N ca b I O J) H)) X hP hS (c_X7_checkSeconds hlf hN hA I O J a1 q1 hcq1) (va_cwS 1 X.ts gX7_pass_X7_checkSeconds rfl rfl rfl (by decide +kernel) ⟨Nat.le_of_ble_eq_true rfl, Nat.le_of_ble_eq_true rfl⟩) rfl hl.1 rfl (Nat.le_of_ble_eq_true rfl) dX7_pass_1 ⟨Nat.le_of_ble_eq_true rfl, Nat.le_of_ble_eq_true rfl⟩ (fun k9 u9 H locs ce9 q9 hw hP hS hce hcv hcl => ?_) (fun u9 H locs hw hP hS => ?_)
  · subst hw
    exact gOut (S := (Nat → Nat → Int32) × (Nat → Nat → Option Nat)) (BH := (fun (u : (Nat → Nat → Int32) × (Nat → Nat → Option Nat)) H => va_P (dC, dI) vwCl (hW N ca b u.1 u.2 J) H)) hlk hout hS hce hcv hcl (I, O) (Option.some.inj (show some ((Sum.inl k9), I, O) = some res from h)).symm hP (Nat.le_of_ble_eq_true rfl) (Nat.le_of_ble_eq_true rfl)
  subst hw
  have h := hsum_r h
  refine lv_aload_n hx hb dX7_pass_4 rfl (lv_at hl 0 rfl) ?_
  obtain ⟨q2, hcq2, h⟩ := hb_some h
  refine gxV_v (As := []) (rest := []) (BH := (fun (u : Unit) H => va_P (dC, dI) vwCl (hW N ca b I O J) H)) (BX := (fun (u : Unit) H => va_P (dC, dI) vwCl (hW N ca b I O J) H)) X hP hS (c_X7_checkRacing hlf hN hA I O J q2 hcq2) (cwV 0 X.ts gX7_pass_X7_checkRacing rfl rfl rfl (by decide +kernel) ⟨Nat.le_of_ble_eq_true rfl, Nat.le_of_ble_eq_true rfl⟩) (gr7 X hP kc_0 (sk_in hN kc_0 (by decide))) rfl hl.1 rfl (Nat.le_of_ble_eq_true rfl) dX7_pass_5 ⟨Nat.le_of_ble_eq_true rfl, Nat.le_of_ble_eq_true rfl⟩ (fun k9 u9 H locs ce9 q9 hw hP hS hce hcv hcl => ?_) (fun u9 H locs hw hP hS => ?_)
  · subst hw
    exact gOut (S := (Nat → Nat → Int32) × (Nat → Nat → Option Nat)) (BH := (fun (u : (Nat → Nat → Int32) × (Nat → Nat → Option Nat)) H => va_P (dC, dI) vwCl (hW N ca b u.1 u.2 J) H)) hlk hout hS hce hcv hcl (I, O) (Option.some.inj (show some ((Sum.inl k9), I, O) = some res from h)).symm hP (Nat.le_of_ble_eq_true rfl) (Nat.le_of_ble_eq_true rfl)
  subst hw
  have h := hsum_r h
  refine lv_aload_n hx hb dX7_pass_8 rfl (lv_at hl 0 rfl) ?_
  refine gg7_2 X hP kc_0 (sk_in hN kc_0 (by decide)) hi7 (List.mem_of_getElem? (i := 1) rfl) dX7_pass_9 ?_
  refine lv_aload_n hx hb dX7_pass_12 rfl (lv_at hl 0 rfl) ?_
  refine gg7_0 X hP kc_0 (sk_in hN kc_0 (by decide)) hi7 (List.mem_of_getElem? (i := 2) rfl) dX7_pass_13 ?_
  obtain ⟨q5, hcq5, h⟩ := hb_some h
  refine gdV_v (As := [.ref (b 1)]) (rest := []) (BH := (fun (u : (Nat → Nat → Int32) × (Nat → Nat → Option Nat)) H => va_P (dC, dI) vwCl (hW N ca b u.1 u.2 J) H)) X hP hS (c_X4_save hN hA I O J 1 kc_1 q5 hcq5) (cwV 1 X.ts gX7_pass_X4_save rfl rfl rfl (by decide +kernel) ⟨Nat.le_of_ble_eq_true rfl, Nat.le_of_ble_eq_true rfl⟩) (gr4 X hP kc_25 (sk_in hN kc_25 (by decide))) rfl hl.1 rfl (Nat.le_of_ble_eq_true rfl) dX7_pass_16 ⟨Nat.le_of_ble_eq_true rfl, Nat.le_of_ble_eq_true rfl⟩ (fun u9 H locs hw hP hS => ?_)
  obtain ⟨I3, O4⟩ := u9
  subst hw
  refine lv_aload_n hx hb dX7_pass_19 rfl (lv_at hl 0 rfl) ?_
  refine gg7_0 X hP kc_0 (sk_in hN kc_0 (by decide)) hi7 (List.mem_of_getElem? (i := 2) rfl) dX7_pass_20 ?_
  refine gg3_7 X hP kc_1 (sk_in hN kc_1 (by decide)) hi3 (List.mem_of_getElem? (i := 3) rfl) dX7_pass_23 ?_
  refine lv_istore_n (lv' := [(2, .int (I3 1 7)), (0, .ref (b 0)), (1, .int a1)]) hx hb dX7_pass_26 rfl hl (by decide) rfl (fun ls hl => ?_)
  refine lv_aload_n hx hb dX7_pass_27 rfl (lv_at hl 1 rfl) ?_
  refine gg7_0 X hP kc_0 (sk_in hN kc_0 (by decide)) hi7 (List.mem_of_getElem? (i := 2) rfl) dX7_pass_28 ?_
  refine lv_iload_n hx hb dX7_pass_31 rfl (lv_at hl 2 rfl) ?_
  obtain ⟨q8, hcq8, h⟩ := hb_some h
  refine gdV_v (As := [.int a1]) (rest := []) (BH := (fun (u : (Nat → Nat → Int32) × (Nat → Nat → Option Nat)) H => va_P (dC, dI) vwCl (hW N ca b u.1 u.2 J) H)) X hP hS (c_X3_letGoBy hN hA I3 O4 J 1 a1 kc_1 q8 hcq8) (cwV 1 X.ts gX7_pass_X3_letGoBy rfl rfl rfl (by decide +kernel) ⟨Nat.le_of_ble_eq_true rfl, Nat.le_of_ble_eq_true rfl⟩) (gr3 X hP kc_1 (sk_in hN kc_1 (by decide))) rfl hl.1 rfl (Nat.le_of_ble_eq_true rfl) dX7_pass_32 ⟨Nat.le_of_ble_eq_true rfl, Nat.le_of_ble_eq_true rfl⟩ (fun u9 H locs hw hP hS => ?_)
  obtain ⟨I6, O7⟩ := u9
  subst hw
  refine lv_aload_n hx hb dX7_pass_35 rfl (lv_at hl 1 rfl) ?_
  refine gg7_0 X hP kc_0 (sk_in hN kc_0 (by decide)) hi7 (List.mem_of_getElem? (i := 2) rfl) dX7_pass_36 ?_
  refine gg3_7 X hP kc_1 (sk_in hN kc_1 (by decide)) hi3 (List.mem_of_getElem? (i := 3) rfl) dX7_pass_39 ?_
  refine lv_iload_n hx hb dX7_pass_42 rfl (lv_at hl 0 rfl) ?_
  refine lv_isub hx hb dX7_pass_43 ?_
  refine vx_ret ?_
  refine W.widen (k := 2) (n := 12) (Nat.le_of_ble_eq_true rfl) (Nat.le_of_ble_eq_true rfl) ?_
  exact W.iret hx hb hr (fun t9 ht hW => ⟨⟨((I6 1 7) - (I3 1 7)), (I6, O7), rfl, (Option.some.inj h).symm, gEnd ht hP⟩, hS.F ht⟩) hS.2.2 dX7_pass_44 hlk
def f_X7_append (a1 : Int32) (I : Nat → Nat → Int32) : Option (Sum Nat Int32 × (Nat → Nat → Int32)) :=
  if a1 < (33 : Int32) then
    some ((Sum.inl 1), I)
  else
    if a1 ≤ (126 : Int32) then
      (f_X2_isFull I).bind fun r1 =>
      if r1 = 0 then
        (f_X2_add (((a1).toUInt32 % 65536).toInt32) I).bind fun I3 =>
        some ((Sum.inr (I3 126 1)), I3)
      else
        some ((Sum.inl 2), I)
    else
      some ((Sum.inl 1), I)
set_option maxHeartbeats 8000000 in
set_option maxRecDepth 100000 in
theorem c_X7_append {l : Launch} (hlf : l.stackTraces = false) {dC : Nat → ClassId} {dI : Nat → Nat → Nat} {ca : Nat → ClassId} {b : Nat → Nat} {A : Nat → Prop} {N : Nat} (hN : 129 ≤ N) (hA : gAd A b N) (I : Nat → Nat → Int32) (O : Nat → Nat → Option Nat) (J : Nat → Nat → Int64) (a1 : Int32) (res : Sum Nat Int32 × (Nat → Nat → Int32)) (h : f_X7_append a1 I = some res) : vx_Met l yX7_append wsX7_append ({ frames := 6, cells := 1, slots := 6, locals := 90 } : Room) (va_Pc [.ref (b 0), .int a1] (gPre dC dI ca b A N I O J)) (va_Qi (fun (r : Int32) (u : Nat → Nat → Int32) => res = (Sum.inr r, u)) (fun (u : Nat → Nat → Int32) t => va_P (dC, dI) vwCl (hW N ca b u O J) t.heap) A) (vx_X (fun (u : Nat × (Nat → Nat → Int32)) => res = (Sum.inl u.1, u.2)) (fun E (u : Nat × (Nat → Nat → Int32)) t => E = gEn u.1 ∧ (fun (u : Nat → Nat → Int32) H => va_P (dC, dI) vwCl (hW N ca b u O J) H) u.2 t.heap) A) 1 6 A := by
  refine vx_ofW (cc := cX7_append) (maxL := 2) (ret := (some .int)) (by decide) rfl ?_
  intro p e s m args below meth c s₁ B hml hout hv
  obtain ⟨rfl, hP, hK, hA2, hth⟩ := hv
  have hx := B.exec
  have hb := B.bytes
  have hr := B.returns
  have hlk := B.notSynchronized
  have X : gCx p s m ([.ref (b 0), .int a1] : List Value).toArray c RX7 cX7_append wsX7_append 2 dC dI ca b A N := ⟨hx, hb, hml, findClass_of_methodNamed B.named, atoms_spec (ws := wsX7_append) B.pre, hK, hA, hA2, hth⟩
  have hi2 : ∀ w ∈ wsX20, w ∈ wsX7_append := (fun w h => List.mem_cons_of_mem _ (List.mem_append_left _ (List.mem_append_left _ (List.mem_append_right _ h))))
  have hi7 : ∀ w ∈ wsX70, w ∈ wsX7_append := (fun w h => List.mem_cons_of_mem _ (List.mem_append_left _ (List.mem_append_left _ (List.mem_append_left _ (List.mem_append_right _ h)))))
  have hg1 : ∀ w ∈ gWg1, w ∈ wsX7_append := (fun w h => List.mem_cons_of_mem _ (List.mem_append_left _ (List.mem_append_right _ h)))
  have hg2 : ∀ w ∈ gWg2, w ∈ wsX7_append := (fun w h => List.mem_cons_of_mem _ (List.mem_append_right _ h))
  have hS : va_S A s.heap s.heap [] := va_S.rf
  have hl := lv_entry ([.ref (b 0), .int a1] : List Value) (n := 2) (Nat.le_of_ble_eq_true rfl)
  rw [lg_entry_eq]
  generalize (lg_sl ([.ref (b 0), .int a1] : List Value) ++ List.replicate (2 - (lg_sl ([.ref (b 0), .int a1] : List Value)).length) Slot.unset).toArray = ls at hl ⊢
  have hl : lv_has ls 2 [(0, .ref (b 0)), (1, .int a1)] := hl
  unfold f_X7_append at h
  refine lv_iload_n hx hb dX7_append_0 rfl (lv_at hl 1 rfl) ?_
  refine lv_bipush (v := 33) hx hb dX7_append_1 (by decide) ?_
  refine lv_icmp_lt (tgt := 12) hx hb dX7_append_3 (by decide) (fun c7 => ?_) (fun c7 => ?_)
  · have h := gif_t c7 h
    exact gt1 (S := Nat → Nat → Int32) (BH := (fun (u : Nat → Nat → Int32) H => va_P (dC, dI) vwCl (hW N ca b u O J) H)) X hlf hlk hout hS hg1 (List.mem_of_getElem? (i := 1) rfl) (List.mem_of_getElem? (i := 2) rfl) (List.mem_of_getElem? (i := 13) rfl) hl.1 dX7_append_12 dX7_append_15 dX7_append_16 dX7_append_18 dX7_append_21 (Nat.le_of_ble_eq_true rfl) (Nat.le_of_ble_eq_true rfl) (Nat.le_of_ble_eq_true rfl) (Nat.le_of_ble_eq_true rfl) I (Option.some.inj h).symm (fun H1 hk1 => hP.kept (fun k q hq => hk1 q.1 (hP k q hq).lt)) (Nat.le_of_ble_eq_true rfl) (Nat.le_of_ble_eq_true rfl)
  · have h := gif_f c7 h
    refine lv_iload_n hx hb dX7_append_6 rfl (lv_at hl 1 rfl) ?_
    refine lv_bipush (v := 126) hx hb dX7_append_7 (by decide) ?_
    refine lv_icmp_le (tgt := 22) hx hb dX7_append_9 (by decide) (fun c6 => ?_) (fun c6 => ?_)
    · have h := gif_t c6 h
      refine lv_aload_n hx hb dX7_append_22 rfl (lv_at hl 0 rfl) ?_
      refine gg7_4 X hP kc_0 (sk_in hN kc_0 (by decide)) hi7 (List.mem_of_getElem? (i := 5) rfl) dX7_append_23 ?_
      obtain ⟨q2, hcq2, h⟩ := hb_some h
      refine gdV_i (As := []) (rest := []) (BH := (fun (u : Unit) H => va_P (dC, dI) vwCl (hW N ca b I O J) H)) X hP hS (c_X2_isFull hN hA I O J q2 hcq2) (cwV 0 X.ts gX7_append_X2_isFull rfl rfl rfl (by decide +kernel) ⟨Nat.le_of_ble_eq_true rfl, Nat.le_of_ble_eq_true rfl⟩) (gr2 X hP kc_126 (sk_in hN kc_126 (by decide))) rfl hl.1 rfl (Nat.le_of_ble_eq_true rfl) dX7_append_26 ⟨Nat.le_of_ble_eq_true rfl, Nat.le_of_ble_eq_true rfl⟩ (fun r1 u9 H locs hw hP hS => ?_)
      have hw := hw.symm
      subst hw
      refine lv_if_eq (tgt := 42) hx hb dX7_append_29 (by decide) (fun c5 => ?_) (fun c5 => ?_)
      · have h := gif_t c5 h
        refine lv_aload_n hx hb dX7_append_42 rfl (lv_at hl 0 rfl) ?_
        refine gg7_4 X hP kc_0 (sk_in hN kc_0 (by decide)) hi7 (List.mem_of_getElem? (i := 5) rfl) dX7_append_43 ?_
        refine lv_iload_n hx hb dX7_append_46 rfl (lv_at hl 1 rfl) ?_
        refine lv_i2c (v := ((a1).toUInt32 % 65536).toInt32) hx hb dX7_append_47 rfl ?_
        obtain ⟨q4, hcq4, h⟩ := hb_some h
        refine gdV_v (As := [.int (((a1).toUInt32 % 65536).toInt32)]) (rest := []) (BH := (fun (u : Nat → Nat → Int32) H => va_P (dC, dI) vwCl (hW N ca b u O J) H)) X hP hS (c_X2_add hN hA I O J (((a1).toUInt32 % 65536).toInt32) q4 hcq4) (cwV 1 X.ts gX7_append_X2_add rfl rfl rfl (by decide +kernel) ⟨Nat.le_of_ble_eq_true rfl, Nat.le_of_ble_eq_true rfl⟩) (gr2 X hP kc_126 (sk_in hN kc_126 (by decide))) rfl hl.1 rfl (Nat.le_of_ble_eq_true rfl) dX7_append_48 ⟨Nat.le_of_ble_eq_true rfl, Nat.le_of_ble_eq_true rfl⟩ (fun I3 H locs hw hP hS => ?_)
        have hw := hw.symm
        subst hw
        refine lv_aload_n hx hb dX7_append_51 rfl (lv_at hl 0 rfl) ?_
        refine gg7_4 X hP kc_0 (sk_in hN kc_0 (by decide)) hi7 (List.mem_of_getElem? (i := 5) rfl) dX7_append_52 ?_
        refine gg2_1 X hP kc_126 (sk_in hN kc_126 (by decide)) hi2 (List.mem_of_getElem? (i := 6) rfl) dX7_append_55 ?_
        refine vx_ret ?_
        refine W.widen (k := 1) (n := 6) (Nat.le_of_ble_eq_true rfl) (Nat.le_of_ble_eq_true rfl) ?_
        exact W.iret hx hb hr (fun t9 ht hW => ⟨⟨(I3 126 1), I3, rfl, (Option.some.inj h).symm, gEnd ht hP⟩, hS.F ht⟩) hS.2.2 dX7_append_58 hlk
      · have h := gif_f c5 h
        exact gt2 (S := Nat → Nat → Int32) (BH := (fun (u : Nat → Nat → Int32) H => va_P (dC, dI) vwCl (hW N ca b u O J) H)) X hlf hlk hout hS hg2 (List.mem_of_getElem? (i := 3) rfl) (List.mem_of_getElem? (i := 4) rfl) (List.mem_of_getElem? (i := 14) rfl) hl.1 dX7_append_32 dX7_append_35 dX7_append_36 dX7_append_38 dX7_append_41 (Nat.le_of_ble_eq_true rfl) (Nat.le_of_ble_eq_true rfl) (Nat.le_of_ble_eq_true rfl) (Nat.le_of_ble_eq_true rfl) I (Option.some.inj h).symm (fun H1 hk1 => hP.kept (fun k q hq => hk1 q.1 (hP k q hq).lt)) (Nat.le_of_ble_eq_true rfl) (Nat.le_of_ble_eq_true rfl)
    · have h := gif_f c6 h
      exact gt1 (S := Nat → Nat → Int32) (BH := (fun (u : Nat → Nat → Int32) H => va_P (dC, dI) vwCl (hW N ca b u O J) H)) X hlf hlk hout hS hg1 (List.mem_of_getElem? (i := 1) rfl) (List.mem_of_getElem? (i := 2) rfl) (List.mem_of_getElem? (i := 13) rfl) hl.1 dX7_append_12 dX7_append_15 dX7_append_16 dX7_append_18 dX7_append_21 (Nat.le_of_ble_eq_true rfl) (Nat.le_of_ble_eq_true rfl) (Nat.le_of_ble_eq_true rfl) (Nat.le_of_ble_eq_true rfl) I (Option.some.inj h).symm (fun H1 hk1 => hP.kept (fun k q hq => hk1 q.1 (hP k q hq).lt)) (Nat.le_of_ble_eq_true rfl) (Nat.le_of_ble_eq_true rfl)
def f_X7_clearBuffer (I : Nat → Nat → Int32) : Option (Int32 × (Nat → Nat → Int32)) :=
  hlet (gup I 126 1 (0 : Int32)) fun I1 =>
  some ((I 126 1), I1)
set_option maxHeartbeats 8000000 in
set_option maxRecDepth 100000 in
theorem c_X7_clearBuffer {l : Launch} {dC : Nat → ClassId} {dI : Nat → Nat → Nat} {ca : Nat → ClassId} {b : Nat → Nat} {A : Nat → Prop} {N : Nat} (hN : 129 ≤ N) (hA : gAd A b N) (I : Nat → Nat → Int32) (O : Nat → Nat → Option Nat) (J : Nat → Nat → Int64) (res : Int32 × (Nat → Nat → Int32)) (h : f_X7_clearBuffer I = some res) : Met l yX7_clearBuffer wsX7_clearBuffer ({ frames := 0, cells := 0, slots := 0, locals := 0 } : Room) (va_Pc [.ref (b 0)] (gPre dC dI ca b A N I O J)) (va_Qi (fun (r : Int32) (u : Nat → Nat → Int32) => res = (r, u)) (fun (u : Nat → Nat → Int32) t => va_P (dC, dI) vwCl (hW N ca b u O J) t.heap) A) 0 0 A := by
  refine Met.ofW (cc := cX7_clearBuffer) (maxL := 2) (ret := (some .int)) (by decide) rfl ?_
  intro p e s m args below meth c s₁ B hml hv
  obtain ⟨rfl, hP, hK, hA2, hth⟩ := hv
  have hx := B.exec
  have hb := B.bytes
  have hr := B.returns
  have hlk := B.notSynchronized
  have X : gCx p s m ([.ref (b 0)] : List Value).toArray c RX7 cX7_clearBuffer wsX7_clearBuffer 2 dC dI ca b A N := ⟨hx, hb, hml, findClass_of_methodNamed B.named, atoms_spec (ws := wsX7_clearBuffer) B.pre, hK, hA, hA2, hth⟩
  have hi2 : ∀ w ∈ wsX20, w ∈ wsX7_clearBuffer := (fun w h => List.mem_cons_of_mem _ (List.mem_append_right _ h))
  have hi7 : ∀ w ∈ wsX70, w ∈ wsX7_clearBuffer := (fun w h => List.mem_cons_of_mem _ (List.mem_append_left _ (List.mem_append_right _ h)))
  have hS : va_S A s.heap s.heap [] := va_S.rf
  have hl := lv_entry ([.ref (b 0)] : List Value) (n := 2) (Nat.le_of_ble_eq_true rfl)
  rw [lg_entry_eq]
  generalize (lg_sl ([.ref (b 0)] : List Value) ++ List.replicate (2 - (lg_sl ([.ref (b 0)] : List Value)).length) Slot.unset).toArray = ls at hl ⊢
  have hl : lv_has ls 2 [(0, .ref (b 0))] := hl
  unfold f_X7_clearBuffer at h
  refine lv_aload_n hx hb dX7_clearBuffer_0 rfl (lv_at hl 0 rfl) ?_
  refine gg7_4 X hP kc_0 (sk_in hN kc_0 (by decide)) hi7 (List.mem_of_getElem? (i := 1) rfl) dX7_clearBuffer_1 ?_
  refine gg2_1 X hP kc_126 (sk_in hN kc_126 (by decide)) hi2 (List.mem_of_getElem? (i := 2) rfl) dX7_clearBuffer_4 ?_
  refine lv_istore_n (lv' := [(1, .int (I 126 1)), (0, .ref (b 0))]) hx hb dX7_clearBuffer_7 rfl hl (by decide) rfl (fun ls hl => ?_)
  refine lv_aload_n hx hb dX7_clearBuffer_8 rfl (lv_at hl 1 rfl) ?_
  refine gg7_4 X hP kc_0 (sk_in hN kc_0 (by decide)) hi7 (List.mem_of_getElem? (i := 1) rfl) dX7_clearBuffer_9 ?_
  refine lv_iconst (v := 0) hx hb dX7_clearBuffer_12 (by decide) ?_
  refine gp2_1 X hP hS kc_126 (sk_in hN kc_126 (by decide)) hi2 (List.mem_of_getElem? (i := 2) rfl) dX7_clearBuffer_13 (fun H locs hP hS => ?_)
  obtain ⟨I1, eI1, h⟩ := hlet_ex h
  rw [← eI1] at hP
  refine lv_iload_n hx hb dX7_clearBuffer_16 rfl (lv_at hl 0 rfl) ?_
  exact W.iret hx hb hr (fun t9 ht hW => ⟨⟨(I 126 1), I1, rfl, (Option.some.inj h).symm, gEnd ht hP⟩, hS.F ht⟩) hS.2.2 dX7_clearBuffer_17 hlk
def f_X7_readText_L9 : Nat → Int32 → (Nat → Nat → Int32) → Option (Int32 × (Nat → Nat → Int32))
  | 0, _, _ => none
  | fuel + 1, p3, I4 =>
    if (I4 126 1) ≤ p3 then
      some ((I4 126 1), I4)
    else
      (f_X2_at p3 I4).bind fun r5 =>
      (f_X1_accepts r5 I4).bind fun (r8, I7) =>
      if r8 = 0 then
        some (p3, I7)
      else
        hlet (p3 + 1) fun x10 =>
        f_X7_readText_L9 fuel x10 I7
def f_X7_readText (I : Nat → Nat → Int32) : Option (Int32 × (Nat → Nat → Int32)) :=
  (f_X1_start I).bind fun I1 =>
  f_X7_readText_L9  FU (0 : Int32) I1
set_option maxHeartbeats 8000000 in
set_option maxRecDepth 100000 in
theorem c_X7_readText {l : Launch} {dC : Nat → ClassId} {dI : Nat → Nat → Nat} {ca : Nat → ClassId} {b : Nat → Nat} {A : Nat → Prop} {N : Nat} (hN : 129 ≤ N) (hA : gAd A b N) (I : Nat → Nat → Int32) (O : Nat → Nat → Option Nat) (J : Nat → Nat → Int64) (res : Int32 × (Nat → Nat → Int32)) (h : f_X7_readText I = some res) : Met l yX7_readText wsX7_readText ({ frames := 4, cells := 0, slots := 0, locals := 85 } : Room) (va_Pc [.ref (b 0)] (gPre dC dI ca b A N I O J)) (va_Qi (fun (r : Int32) (u : Nat → Nat → Int32) => res = (r, u)) (fun (u : Nat → Nat → Int32) t => va_P (dC, dI) vwCl (hW N ca b u O J) t.heap) A) 0 0 A := by
  refine Met.ofW (cc := cX7_readText) (maxL := 2) (ret := (some .int)) (by decide) rfl ?_
  intro p e s m args below meth c s₁ B hml hv
  obtain ⟨rfl, hP, hK, hA2, hth⟩ := hv
  have hx := B.exec
  have hb := B.bytes
  have hr := B.returns
  have hlk := B.notSynchronized
  have X : gCx p s m ([.ref (b 0)] : List Value).toArray c RX7 cX7_readText wsX7_readText 2 dC dI ca b A N := ⟨hx, hb, hml, findClass_of_methodNamed B.named, atoms_spec (ws := wsX7_readText) B.pre, hK, hA, hA2, hth⟩
  have hi2 : ∀ w ∈ wsX20, w ∈ wsX7_readText := (fun w h => List.mem_cons_of_mem _ (List.mem_append_left _ (List.mem_append_right _ h)))
  have hi7 : ∀ w ∈ wsX70, w ∈ wsX7_readText := (fun w h => List.mem_cons_of_mem _ (List.mem_append_left _ (List.mem_append_left _ (List.mem_append_right _ h))))
  have hS : va_S A s.heap s.heap [] := va_S.rf
  have hl := lv_entry ([.ref (b 0)] : List Value) (n := 2) (Nat.le_of_ble_eq_true rfl)
  rw [lg_entry_eq]
  generalize (lg_sl ([.ref (b 0)] : List Value) ++ List.replicate (2 - (lg_sl ([.ref (b 0)] : List Value)).length) Slot.unset).toArray = ls at hl ⊢
  have hl : lv_has ls 2 [(0, .ref (b 0))] := hl
  unfold f_X7_readText at h
  refine lv_aload_n hx hb dX7_readText_0 rfl (lv_at hl 0 rfl) ?_
  refine gg7_5 X hP kc_0 (sk_in hN kc_0 (by decide)) hi7 (List.mem_of_getElem? (i := 1) rfl) dX7_readText_1 ?_
  obtain ⟨q2, hcq2, h⟩ := hb_some h
  refine gdV_v (As := []) (rest := []) (BH := (fun (u : Nat → Nat → Int32) H => va_P (dC, dI) vwCl (hW N ca b u O J) H)) X hP hS (c_X1_start hN hA I O J q2 hcq2) (cwV 0 X.ts gX7_readText_X1_start rfl rfl rfl (by decide +kernel) ⟨Nat.le_of_ble_eq_true rfl, Nat.le_of_ble_eq_true rfl⟩) (gr1 X hP kc_128 (sk_in hN kc_128 (by decide))) rfl hl.1 rfl (Nat.le_of_ble_eq_true rfl) dX7_readText_4 ⟨Nat.le_of_ble_eq_true rfl, Nat.le_of_ble_eq_true rfl⟩ (fun I1 H locs hw hP hS => ?_)
  have hw := hw.symm
  subst hw
  refine lv_iconst (v := 0) hx hb dX7_readText_7 (by decide) ?_
  refine lv_istore_n (lv' := [(1, .int (0 : Int32)), (0, .ref (b 0))]) hx hb dX7_readText_8 rfl hl (by decide) rfl (fun ls hl => ?_)
  have hL9 : ∀ (fuel : Nat) (p3 : Int32) (I4 : Nat → Nat → Int32) (H : Heap) (locs : List Loc) (ls : Array Slot), f_X7_readText_L9  fuel p3 I4 = some res → va_P (dC, dI) vwCl (hW N ca b I4 O J) H → va_S A s.heap H locs → lv_has ls 2 [(0, .ref (b 0)), (1, .int p3)] → W p l e (headSpec wsX7_readText ({ frames := 4, cells := 0, slots := 0, locals := 85 } : Room)).room s m ([.ref (b 0)] : List Value).toArray below meth c H locs 0 0 (MQ below (va_Qi (fun (r : Int32) (u : Nat → Nat → Int32) => res = (r, u)) (fun (u : Nat → Nat → Int32) t => va_P (dC, dI) vwCl (hW N ca b u O J) t.heap) A) ([.ref (b 0)] : List Value).toArray s 0 0 A) (F0 m 9 ls []) := by
    intro fuel
    induction fuel with
    | zero =>
      intro p3 I4 H locs ls h hP hS hl
      rw [f_X7_readText_L9] at h
      cases h
    | succ fuel ih =>
      intro p3 I4 H locs ls h hP hS hl
      rw [f_X7_readText_L9] at h
      refine lv_iload_n hx hb dX7_readText_9 rfl (lv_at hl 1 rfl) ?_
      refine lv_aload_n hx hb dX7_readText_10 rfl (lv_at hl 0 rfl) ?_
      refine gg7_4 X hP kc_0 (sk_in hN kc_0 (by decide)) hi7 (List.mem_of_getElem? (i := 2) rfl) dX7_readText_11 ?_
      refine gg2_1 X hP kc_126 (sk_in hN kc_126 (by decide)) hi2 (List.mem_of_getElem? (i := 3) rfl) dX7_readText_14 ?_
      refine lv_icmp_ge (tgt := 46) hx hb dX7_readText_17 (by decide) (fun c12 => ?_) (fun c12 => ?_)
      · have h := gif_t c12 h
        refine lv_aload_n hx hb dX7_readText_46 rfl (lv_at hl 0 rfl) ?_
        refine gg7_4 X hP kc_0 (sk_in hN kc_0 (by decide)) hi7 (List.mem_of_getElem? (i := 2) rfl) dX7_readText_47 ?_
        refine gg2_1 X hP kc_126 (sk_in hN kc_126 (by decide)) hi2 (List.mem_of_getElem? (i := 3) rfl) dX7_readText_50 ?_
        exact W.iret hx hb hr (fun t9 ht hW => ⟨⟨(I4 126 1), I4, rfl, (Option.some.inj h).symm, gEnd ht hP⟩, hS.F ht⟩) hS.2.2 dX7_readText_53 hlk
      · have h := gif_f c12 h
        refine lv_aload_n hx hb dX7_readText_20 rfl (lv_at hl 0 rfl) ?_
        refine gg7_5 X hP kc_0 (sk_in hN kc_0 (by decide)) hi7 (List.mem_of_getElem? (i := 1) rfl) dX7_readText_21 ?_
        refine lv_aload_n hx hb dX7_readText_24 rfl (lv_at hl 0 rfl) ?_
        refine gg7_4 X hP kc_0 (sk_in hN kc_0 (by decide)) hi7 (List.mem_of_getElem? (i := 2) rfl) dX7_readText_25 ?_
        refine lv_iload_n hx hb dX7_readText_28 rfl (lv_at hl 1 rfl) ?_
        obtain ⟨q6, hcq6, h⟩ := hb_some h
        refine gdV_i (As := [.int p3]) (rest := [.ref (b 128)]) (BH := (fun (u : Unit) H => va_P (dC, dI) vwCl (hW N ca b I4 O J) H)) X hP hS (c_X2_at hN hA I4 O J p3 q6 hcq6) (cwV 1 X.ts gX7_readText_X2_at rfl rfl rfl (by decide +kernel) ⟨Nat.le_of_ble_eq_true rfl, Nat.le_of_ble_eq_true rfl⟩) (gr2 X hP kc_126 (sk_in hN kc_126 (by decide))) rfl hl.1 rfl (Nat.le_of_ble_eq_true rfl) dX7_readText_29 ⟨Nat.le_of_ble_eq_true rfl, Nat.le_of_ble_eq_true rfl⟩ (fun r5 u9 H locs hw hP hS => ?_)
        have hw := hw.symm
        subst hw
        obtain ⟨q9, hcq9, h⟩ := hb_some h
        refine gdV_i (As := [.int r5]) (rest := []) (BH := (fun (u : Nat → Nat → Int32) H => va_P (dC, dI) vwCl (hW N ca b u O J) H)) X hP hS (c_X1_accepts hN hA I4 O J r5 q9 hcq9) (cwV 1 X.ts gX7_readText_X1_accepts rfl rfl rfl (by decide +kernel) ⟨Nat.le_of_ble_eq_true rfl, Nat.le_of_ble_eq_true rfl⟩) (gr1 X hP kc_128 (sk_in hN kc_128 (by decide))) rfl hl.1 rfl (Nat.le_of_ble_eq_true rfl) dX7_readText_32 ⟨Nat.le_of_ble_eq_true rfl, Nat.le_of_ble_eq_true rfl⟩ (fun r8 I7 H locs hw hP hS => ?_)
        subst hw
        refine lv_if_ne (tgt := 40) hx hb dX7_readText_35 (by decide) (fun c11 => ?_) (fun c11 => ?_)
        · have h := gif_f c11 h
          obtain ⟨x10, ex10, h⟩ := hlet_ex h
          refine lv_iinc (v := x10) (lv' := [(1, .int x10), (0, .ref (b 0))]) hx hb dX7_readText_40 hl (k := 1) rfl (by rw [ex10]; rfl) (by decide) rfl (fun ls hl => ?_)
          refine lv_goto (tgt := 9) hx hb dX7_readText_43 (by decide) ?_
          exact ih _ _ _ _ _ h hP hS (lv_sub hl [1, 0] rfl)
        · have h := gif_t c11 h
          refine lv_iload_n hx hb dX7_readText_38 rfl (lv_at hl 1 rfl) ?_
          exact W.iret hx hb hr (fun t9 ht hW => ⟨⟨p3, I7, rfl, (Option.some.inj h).symm, gEnd ht hP⟩, hS.F ht⟩) hS.2.2 dX7_readText_39 hlk
  exact hL9 FU _ _ _ _ _ h hP hS (lv_sub hl [1, 0] rfl)
def f_X7_firstError (I : Nat → Nat → Int32) : Option (Int32 × (Nat → Nat → Int32)) :=
  (f_X7_readText I).bind fun (r2, I1) =>
  some (r2, I1)
set_option maxHeartbeats 8000000 in
set_option maxRecDepth 100000 in
theorem c_X7_firstError {l : Launch} {dC : Nat → ClassId} {dI : Nat → Nat → Nat} {ca : Nat → ClassId} {b : Nat → Nat} {A : Nat → Prop} {N : Nat} (hN : 129 ≤ N) (hA : gAd A b N) (I : Nat → Nat → Int32) (O : Nat → Nat → Option Nat) (J : Nat → Nat → Int64) (res : Int32 × (Nat → Nat → Int32)) (h : f_X7_firstError I = some res) : Met l yX7_firstError wsX7_firstError ({ frames := 5, cells := 0, slots := 0, locals := 106 } : Room) (va_Pc [.ref (b 0)] (gPre dC dI ca b A N I O J)) (va_Qi (fun (r : Int32) (u : Nat → Nat → Int32) => res = (r, u)) (fun (u : Nat → Nat → Int32) t => va_P (dC, dI) vwCl (hW N ca b u O J) t.heap) A) 0 0 A := by
  refine Met.ofW (cc := cX7_firstError) (maxL := 1) (ret := (some .int)) (by decide) rfl ?_
  intro p e s m args below meth c s₁ B hml hv
  obtain ⟨rfl, hP, hK, hA2, hth⟩ := hv
  have hx := B.exec
  have hb := B.bytes
  have hr := B.returns
  have hlk := B.notSynchronized
  have X : gCx p s m ([.ref (b 0)] : List Value).toArray c RX7 cX7_firstError wsX7_firstError 1 dC dI ca b A N := ⟨hx, hb, hml, findClass_of_methodNamed B.named, atoms_spec (ws := wsX7_firstError) B.pre, hK, hA, hA2, hth⟩
  have hS : va_S A s.heap s.heap [] := va_S.rf
  have hl := lv_entry ([.ref (b 0)] : List Value) (n := 1) (Nat.le_of_ble_eq_true rfl)
  rw [lg_entry_eq]
  generalize (lg_sl ([.ref (b 0)] : List Value) ++ List.replicate (1 - (lg_sl ([.ref (b 0)] : List Value)).length) Slot.unset).toArray = ls at hl ⊢
  have hl : lv_has ls 1 [(0, .ref (b 0))] := hl
  unfold f_X7_firstError at h
  refine lv_aload_n hx hb dX7_firstError_0 rfl (lv_at hl 0 rfl) ?_
  obtain ⟨q3, hcq3, h⟩ := hb_some h
  refine gdV_i (As := []) (rest := []) (BH := (fun (u : Nat → Nat → Int32) H => va_P (dC, dI) vwCl (hW N ca b u O J) H)) X hP hS (c_X7_readText hN hA I O J q3 hcq3) (cwV 0 X.ts gX7_firstError_X7_readText rfl rfl rfl (by decide +kernel) ⟨Nat.le_of_ble_eq_true rfl, Nat.le_of_ble_eq_true rfl⟩) (gr7 X hP kc_0 (sk_in hN kc_0 (by decide))) rfl hl.1 rfl (Nat.le_of_ble_eq_true rfl) dX7_firstError_1 ⟨Nat.le_of_ble_eq_true rfl, Nat.le_of_ble_eq_true rfl⟩ (fun r2 I1 H locs hw hP hS => ?_)
  subst hw
  exact W.iret hx hb hr (fun t9 ht hW => ⟨⟨r2, I1, rfl, (Option.some.inj h).symm, gEnd ht hP⟩, hS.F ht⟩) hS.2.2 dX7_firstError_4 hlk
def f_X7_followOneOnTrial (I : Nat → Nat → Int32) (O : Nat → Nat → Option Nat) : Option (Int32 × (Nat → Nat → Int32) × (Nat → Nat → Option Nat)) :=
  (f_X3_at 13 (I 128 2) I).bind fun r1 =>
  if (I 128 1) = 99 then
    (f_X3_changeLimit 13 (I 128 2) (I 128 3) I).bind fun I3 =>
    some ((1 : Int32), I3, O)
  else
  if (I 128 1) = 110 then
    hopt r1 (
      some ((0 : Int32), I, O)) fun n6 => hk n6 6 <|
    if (I n6 9) = (3 : Int32) then
      some ((0 : Int32), I, O)
    else
      if (I n6 11) = 0 then
        hlet (gup I n6 11 (1 : Int32)) fun I8 =>
        some ((1 : Int32), I8, O)
      else
        hlet (gup I n6 11 (0 : Int32)) fun I7 =>
        some ((1 : Int32), I7, O)
  else
  if (I 128 1) = 112 then
    hopt r1 (
      some ((0 : Int32), I, O)) fun n12 => hk n12 6 <|
    hlet (gup I n12 1 (I 128 3)) fun I13 =>
    some ((1 : Int32), I13, O)
  else
  if (I 13 5) = 0 then
    some ((0 : Int32), I, O)
  else
    (f_X3_letGoBy 13 (I 128 3) I O).bind fun (I15, O16) =>
    some ((1 : Int32), I15, O16)
set_option maxHeartbeats 8000000 in
set_option maxRecDepth 100000 in
theorem c_X7_followOneOnTrial {l : Launch} {dC : Nat → ClassId} {dI : Nat → Nat → Nat} {ca : Nat → ClassId} {b : Nat → Nat} {A : Nat → Prop} {N : Nat} (hN : 129 ≤ N) (hA : gAd A b N) (I : Nat → Nat → Int32) (O : Nat → Nat → Option Nat) (J : Nat → Nat → Int64) (res : Int32 × (Nat → Nat → Int32) × (Nat → Nat → Option Nat)) (h : f_X7_followOneOnTrial I O = some res) : Met l yX7_followOneOnTrial wsX7_followOneOnTrial ({ frames := 4, cells := 0, slots := 0, locals := 100 } : Room) (va_Pc [.ref (b 0)] (gPre dC dI ca b A N I O J)) (va_Qi (fun (r : Int32) (u : (Nat → Nat → Int32) × (Nat → Nat → Option Nat)) => res = (r, u)) (fun (u : (Nat → Nat → Int32) × (Nat → Nat → Option Nat)) t => va_P (dC, dI) vwCl (hW N ca b u.1 u.2 J) t.heap) A) 0 0 A := by
  refine Met.ofW (cc := cX7_followOneOnTrial) (maxL := 2) (ret := (some .boolean)) (by decide) rfl ?_
  intro p e s m args below meth c s₁ B hml hv
  obtain ⟨rfl, hP, hK, hA2, hth⟩ := hv
  have hx := B.exec
  have hb := B.bytes
  have hr := B.returns
  have hlk := B.notSynchronized
  have X : gCx p s m ([.ref (b 0)] : List Value).toArray c RX7 cX7_followOneOnTrial wsX7_followOneOnTrial 2 dC dI ca b A N := ⟨hx, hb, hml, findClass_of_methodNamed B.named, atoms_spec (ws := wsX7_followOneOnTrial) B.pre, hK, hA, hA2, hth⟩
  have hi1 : ∀ w ∈ wsX10, w ∈ wsX7_followOneOnTrial := (fun w h => List.mem_cons_of_mem _ (List.mem_append_left _ (List.mem_append_left _ (List.mem_append_right _ h))))
  have hi3 : ∀ w ∈ wsX30, w ∈ wsX7_followOneOnTrial := (fun w h => List.mem_cons_of_mem _ (List.mem_append_right _ h))
  have hi6 : ∀ w ∈ wsX60, w ∈ wsX7_followOneOnTrial := (fun w h => List.mem_cons_of_mem _ (List.mem_append_left _ (List.mem_append_right _ h)))
  have hi7 : ∀ w ∈ wsX70, w ∈ wsX7_followOneOnTrial := (fun w h => List.mem_cons_of_mem _ (List.mem_append_left _ (List.mem_append_left _ (List.mem_append_left _ (List.mem_append_right _ h)))))
  have hS : va_S A s.heap s.heap [] := va_S.rf
  have hl := lv_entry ([.ref (b 0)] : List Value) (n := 2) (Nat.le_of_ble_eq_true rfl)
  rw [lg_entry_eq]
  generalize (lg_sl ([.ref (b 0)] : List Value) ++ List.replicate (2 - (lg_sl ([.ref (b 0)] : List Value)).length) Slot.unset).toArray = ls at hl ⊢
  have hl : lv_has ls 2 [(0, .ref (b 0))] := hl
  unfold f_X7_followOneOnTrial at h
  refine lv_aload_n hx hb dX7_followOneOnTrial_0 rfl (lv_at hl 0 rfl) ?_
  refine gg7_1 X hP kc_0 (sk_in hN kc_0 (by decide)) hi7 (List.mem_of_getElem? (i := 1) rfl) dX7_followOneOnTrial_1 ?_
  refine lv_aload_n hx hb dX7_followOneOnTrial_4 rfl (lv_at hl 0 rfl) ?_
  refine gg7_5 X hP kc_0 (sk_in hN kc_0 (by decide)) hi7 (List.mem_of_getElem? (i := 2) rfl) dX7_followOneOnTrial_5 ?_
  refine gg1_2 X hP kc_128 (sk_in hN kc_128 (by decide)) hi1 (List.mem_of_getElem? (i := 3) rfl) dX7_followOneOnTrial_8 ?_
  obtain ⟨q2, hcq2, h⟩ := hb_some h
  refine gdV_q (As := [.int (I 128 2)]) (rest := []) (BH := (fun (u : Unit) H => va_P (dC, dI) vwCl (hW N ca b I O J) H)) X hP hS (c_X3_at hN hA I O J 13 (I 128 2) kc_13 q2 hcq2) (cwV 1 X.ts gX7_followOneOnTrial_X3_at rfl rfl rfl (by decide +kernel) ⟨Nat.le_of_ble_eq_true rfl, Nat.le_of_ble_eq_true rfl⟩) (gr3 X hP kc_13 (sk_in hN kc_13 (by decide))) rfl hl.1 rfl (Nat.le_of_ble_eq_true rfl) dX7_followOneOnTrial_11 ⟨Nat.le_of_ble_eq_true rfl, Nat.le_of_ble_eq_true rfl⟩ (fun r1 u9 H locs hw hP hS => ?_)
  obtain ⟨r1, rfl, hw⟩ := hw
  have hw := hw.symm
  subst hw
  refine gv_astore_n (r := Option.map b r1) (lv' := [(1, va_rf (Option.map b r1)), (0, .ref (b 0))]) hx hb dX7_followOneOnTrial_14 rfl hl (by decide) rfl (fun ls hl => ?_)
  refine lv_aload_n hx hb dX7_followOneOnTrial_15 rfl (lv_at hl 1 rfl) ?_
  refine gg7_5 X hP kc_0 (sk_in hN kc_0 (by decide)) hi7 (List.mem_of_getElem? (i := 2) rfl) dX7_followOneOnTrial_16 ?_
  refine gg1_1 X hP kc_128 (sk_in hN kc_128 (by decide)) hi1 (List.mem_of_getElem? (i := 4) rfl) dX7_followOneOnTrial_19 ?_
  by_cases c5 : (I 128 1) = 99
  · have h := gif_t c5 h
    refine lv_lookup (tgt := 107) hx hb dX7_followOneOnTrial_22 (by decide) (by rw [c5] <;> rfl) (by decide) ?_
    refine lv_aload_n hx hb dX7_followOneOnTrial_107 rfl (lv_at hl 1 rfl) ?_
    refine gg7_1 X hP kc_0 (sk_in hN kc_0 (by decide)) hi7 (List.mem_of_getElem? (i := 1) rfl) dX7_followOneOnTrial_108 ?_
    refine lv_aload_n hx hb dX7_followOneOnTrial_111 rfl (lv_at hl 1 rfl) ?_
    refine gg7_5 X hP kc_0 (sk_in hN kc_0 (by decide)) hi7 (List.mem_of_getElem? (i := 2) rfl) dX7_followOneOnTrial_112 ?_
    refine gg1_2 X hP kc_128 (sk_in hN kc_128 (by decide)) hi1 (List.mem_of_getElem? (i := 3) rfl) dX7_followOneOnTrial_115 ?_
    refine lv_aload_n hx hb dX7_followOneOnTrial_118 rfl (lv_at hl 1 rfl) ?_
    refine gg7_5 X hP kc_0 (sk_in hN kc_0 (by decide)) hi7 (List.mem_of_getElem? (i := 2) rfl) dX7_followOneOnTrial_119 ?_
    refine gg1_3 X hP kc_128 (sk_in hN kc_128 (by decide)) hi1 (List.mem_of_getElem? (i := 5) rfl) dX7_followOneOnTrial_122 ?_
    obtain ⟨q4, hcq4, h⟩ := hb_some h
    refine gdV_v (As := [.int (I 128 2), .int (I 128 3)]) (rest := []) (BH := (fun (u : Nat → Nat → Int32) H => va_P (dC, dI) vwCl (hW N ca b u O J) H)) X hP hS (c_X3_changeLimit hN hA I O J 13 (I 128 2) (I 128 3) kc_13 q4 hcq4) (cwV 2 X.ts gX7_followOneOnTrial_X3_changeLimit rfl rfl rfl (by decide +kernel) ⟨Nat.le_of_ble_eq_true rfl, Nat.le_of_ble_eq_true rfl⟩) (gr3 X hP kc_13 (sk_in hN kc_13 (by decide))) rfl hl.1 rfl (Nat.le_of_ble_eq_true rfl) dX7_followOneOnTrial_125 ⟨Nat.le_of_ble_eq_true rfl, Nat.le_of_ble_eq_true rfl⟩ (fun I3 H locs hw hP hS => ?_)
    have hw := hw.symm
    subst hw
    refine lv_iconst (v := 1) hx hb dX7_followOneOnTrial_128 (by decide) ?_
    exact W.zret (ty := .boolean) hx hb hr (by decide) (fun t9 ht hW => ⟨⟨(1 : Int32), (I3, O), rfl, (Option.some.inj h).symm, gEnd ht hP⟩, hS.F ht⟩) hS.2.2 dX7_followOneOnTrial_129 hlk
  have h := gif_f c5 h
  by_cases c11 : (I 128 1) = 110
  · have h := gif_t c11 h
    refine lv_lookup (tgt := 75) hx hb dX7_followOneOnTrial_22 (by decide) (by rw [c11] <;> rfl) (by decide) ?_
    refine gv_aload_n (r := Option.map b r1) hx hb dX7_followOneOnTrial_75 rfl (lv_at hl 0 rfl) ?_
    cases r1 with
    | none =>
      have h := hopt_n h
      refine lv_ifnullN (tgt := 87) hx hb dX7_followOneOnTrial_76 (by decide) ?_
      refine lv_iconst (v := 0) hx hb dX7_followOneOnTrial_87 (by decide) ?_
      exact W.zret (ty := .boolean) hx hb hr (by decide) (fun t9 ht hW => ⟨⟨(0 : Int32), (I, O), rfl, (Option.some.inj h).symm, gEnd ht hP⟩, hS.F ht⟩) hS.2.2 dX7_followOneOnTrial_88 hlk
    | some n6 =>
      obtain ⟨hk_n6, h⟩ := hk_some (hopt_s h)
      refine lv_ifnull hx hb dX7_followOneOnTrial_76 ?_
      refine lv_aload_n hx hb dX7_followOneOnTrial_79 rfl (lv_at hl 0 rfl) ?_
      refine gg6_9 X hP hk_n6 (sk_in hN hk_n6 (by decide)) hi6 (List.mem_of_getElem? (i := 7) rfl) dX7_followOneOnTrial_80 ?_
      refine lv_iconst (v := 3) hx hb dX7_followOneOnTrial_83 (by decide) ?_
      refine lv_icmp_ne (tgt := 89) hx hb dX7_followOneOnTrial_84 (by decide) (fun c10 => ?_) (fun c10 => ?_)
      · have h := gif_f c10 h
        refine lv_aload_n hx hb dX7_followOneOnTrial_89 rfl (lv_at hl 0 rfl) ?_
        refine lv_aload_n hx hb dX7_followOneOnTrial_90 rfl (lv_at hl 0 rfl) ?_
        refine gg6_11 X hP hk_n6 (sk_in hN hk_n6 (by decide)) hi6 (List.mem_of_getElem? (i := 8) rfl) dX7_followOneOnTrial_91 ?_
        refine lv_if_ne (tgt := 101) hx hb dX7_followOneOnTrial_94 (by decide) (fun c9 => ?_) (fun c9 => ?_)
        · have h := gif_f c9 h
          refine lv_iconst (v := 0) hx hb dX7_followOneOnTrial_101 (by decide) ?_
          refine gp6_11 X hP hS hk_n6 (sk_in hN hk_n6 (by decide)) hi6 (List.mem_of_getElem? (i := 8) rfl) (by decide) dX7_followOneOnTrial_102 (fun H locs hP hS => ?_)
          obtain ⟨I7, eI7, h⟩ := hlet_ex h
          rw [← eI7] at hP
          refine lv_iconst (v := 1) hx hb dX7_followOneOnTrial_105 (by decide) ?_
          exact W.zret (ty := .boolean) hx hb hr (by decide) (fun t9 ht hW => ⟨⟨(1 : Int32), (I7, O), rfl, (Option.some.inj h).symm, gEnd ht hP⟩, hS.F ht⟩) hS.2.2 dX7_followOneOnTrial_106 hlk
        · have h := gif_t c9 h
          refine lv_iconst (v := 1) hx hb dX7_followOneOnTrial_97 (by decide) ?_
          refine lv_goto (tgt := 102) hx hb dX7_followOneOnTrial_98 (by decide) ?_
          refine gp6_11 X hP hS hk_n6 (sk_in hN hk_n6 (by decide)) hi6 (List.mem_of_getElem? (i := 8) rfl) (by decide) dX7_followOneOnTrial_102 (fun H locs hP hS => ?_)
          obtain ⟨I8, eI8, h⟩ := hlet_ex h
          rw [← eI8] at hP
          refine lv_iconst (v := 1) hx hb dX7_followOneOnTrial_105 (by decide) ?_
          exact W.zret (ty := .boolean) hx hb hr (by decide) (fun t9 ht hW => ⟨⟨(1 : Int32), (I8, O), rfl, (Option.some.inj h).symm, gEnd ht hP⟩, hS.F ht⟩) hS.2.2 dX7_followOneOnTrial_106 hlk
      · have h := gif_t c10 h
        refine lv_iconst (v := 0) hx hb dX7_followOneOnTrial_87 (by decide) ?_
        exact W.zret (ty := .boolean) hx hb hr (by decide) (fun t9 ht hW => ⟨⟨(0 : Int32), (I, O), rfl, (Option.some.inj h).symm, gEnd ht hP⟩, hS.F ht⟩) hS.2.2 dX7_followOneOnTrial_88 hlk
  have h := gif_f c11 h
  by_cases c14 : (I 128 1) = 112
  · have h := gif_t c14 h
    refine lv_lookup (tgt := 56) hx hb dX7_followOneOnTrial_22 (by decide) (by rw [c14] <;> rfl) (by decide) ?_
    refine gv_aload_n (r := Option.map b r1) hx hb dX7_followOneOnTrial_56 rfl (lv_at hl 0 rfl) ?_
    cases r1 with
    | none =>
      have h := hopt_n h
      refine lv_ifnonnullN hx hb dX7_followOneOnTrial_57 ?_
      refine lv_iconst (v := 0) hx hb dX7_followOneOnTrial_60 (by decide) ?_
      exact W.zret (ty := .boolean) hx hb hr (by decide) (fun t9 ht hW => ⟨⟨(0 : Int32), (I, O), rfl, (Option.some.inj h).symm, gEnd ht hP⟩, hS.F ht⟩) hS.2.2 dX7_followOneOnTrial_61 hlk
    | some n12 =>
      obtain ⟨hk_n12, h⟩ := hk_some (hopt_s h)
      refine lv_ifnonnull (tgt := 62) hx hb dX7_followOneOnTrial_57 (by decide) ?_
      refine lv_aload_n hx hb dX7_followOneOnTrial_62 rfl (lv_at hl 0 rfl) ?_
      refine lv_aload_n hx hb dX7_followOneOnTrial_63 rfl (lv_at hl 1 rfl) ?_
      refine gg7_5 X hP kc_0 (sk_in hN kc_0 (by decide)) hi7 (List.mem_of_getElem? (i := 2) rfl) dX7_followOneOnTrial_64 ?_
      refine gg1_3 X hP kc_128 (sk_in hN kc_128 (by decide)) hi1 (List.mem_of_getElem? (i := 5) rfl) dX7_followOneOnTrial_67 ?_
      refine gp6_1 X hP hS hk_n12 (sk_in hN hk_n12 (by decide)) hi6 (List.mem_of_getElem? (i := 6) rfl) dX7_followOneOnTrial_70 (fun H locs hP hS => ?_)
      obtain ⟨I13, eI13, h⟩ := hlet_ex h
      rw [← eI13] at hP
      refine lv_iconst (v := 1) hx hb dX7_followOneOnTrial_73 (by decide) ?_
      exact W.zret (ty := .boolean) hx hb hr (by decide) (fun t9 ht hW => ⟨⟨(1 : Int32), (I13, O), rfl, (Option.some.inj h).symm, gEnd ht hP⟩, hS.F ht⟩) hS.2.2 dX7_followOneOnTrial_74 hlk
  have h := gif_f c14 h
  refine lv_lookup (tgt := 130) (off := 108) hx hb dX7_followOneOnTrial_22 (by decide) (by show Op.lookupswitch.offset [(99, 85), (110, 53), (112, 34)] 108 _ = _; rw [lv_osw (a := 99) c5 rfl, lv_osw (a := 110) c11 rfl, lv_osw (a := 112) c14 rfl] <;> rfl) (by decide) ?_
  refine lv_aload_n hx hb dX7_followOneOnTrial_130 rfl (lv_at hl 1 rfl) ?_
  refine gg7_1 X hP kc_0 (sk_in hN kc_0 (by decide)) hi7 (List.mem_of_getElem? (i := 1) rfl) dX7_followOneOnTrial_131 ?_
  refine gg3_5 X hP kc_13 (sk_in hN kc_13 (by decide)) hi3 (List.mem_of_getElem? (i := 9) rfl) dX7_followOneOnTrial_134 ?_
  refine lv_if_ne (tgt := 142) hx hb dX7_followOneOnTrial_137 (by decide) (fun c18 => ?_) (fun c18 => ?_)
  · have h := gif_f c18 h
    refine lv_aload_n hx hb dX7_followOneOnTrial_142 rfl (lv_at hl 1 rfl) ?_
    refine gg7_1 X hP kc_0 (sk_in hN kc_0 (by decide)) hi7 (List.mem_of_getElem? (i := 1) rfl) dX7_followOneOnTrial_143 ?_
    refine lv_aload_n hx hb dX7_followOneOnTrial_146 rfl (lv_at hl 1 rfl) ?_
    refine gg7_5 X hP kc_0 (sk_in hN kc_0 (by decide)) hi7 (List.mem_of_getElem? (i := 2) rfl) dX7_followOneOnTrial_147 ?_
    refine gg1_3 X hP kc_128 (sk_in hN kc_128 (by decide)) hi1 (List.mem_of_getElem? (i := 5) rfl) dX7_followOneOnTrial_150 ?_
    obtain ⟨q17, hcq17, h⟩ := hb_some h
    refine gdV_v (As := [.int (I 128 3)]) (rest := []) (BH := (fun (u : (Nat → Nat → Int32) × (Nat → Nat → Option Nat)) H => va_P (dC, dI) vwCl (hW N ca b u.1 u.2 J) H)) X hP hS (c_X3_letGoBy hN hA I O J 13 (I 128 3) kc_13 q17 hcq17) (cwV 1 X.ts gX7_followOneOnTrial_X3_letGoBy rfl rfl rfl (by decide +kernel) ⟨Nat.le_of_ble_eq_true rfl, Nat.le_of_ble_eq_true rfl⟩) (gr3 X hP kc_13 (sk_in hN kc_13 (by decide))) rfl hl.1 rfl (Nat.le_of_ble_eq_true rfl) dX7_followOneOnTrial_153 ⟨Nat.le_of_ble_eq_true rfl, Nat.le_of_ble_eq_true rfl⟩ (fun u9 H locs hw hP hS => ?_)
    obtain ⟨I15, O16⟩ := u9
    subst hw
    refine lv_iconst (v := 1) hx hb dX7_followOneOnTrial_156 (by decide) ?_
    exact W.zret (ty := .boolean) hx hb hr (by decide) (fun t9 ht hW => ⟨⟨(1 : Int32), (I15, O16), rfl, (Option.some.inj h).symm, gEnd ht hP⟩, hS.F ht⟩) hS.2.2 dX7_followOneOnTrial_157 hlk
  · have h := gif_t c18 h
    refine lv_iconst (v := 0) hx hb dX7_followOneOnTrial_140 (by decide) ?_
    exact W.zret (ty := .boolean) hx hb hr (by decide) (fun t9 ht hW => ⟨⟨(0 : Int32), (I, O), rfl, (Option.some.inj h).symm, gEnd ht hP⟩, hS.F ht⟩) hS.2.2 dX7_followOneOnTrial_141 hlk
def f_X7_followOnTrial_L22 : Nat → Int32 → Int32 → (Nat → Nat → Int32) → (Nat → Nat → Option Nat) → Option (Int32 × (Nat → Nat → Int32) × (Nat → Nat → Option Nat))
  | 0, _, _, _, _ => none
  | fuel + 1, p5, p6, I7, O8 =>
    if (I7 126 1) ≤ p6 then
      (f_X7_followOneOnTrial I7 O8).bind fun (r11, I9, O10) =>
      if r11 = 0 then
        some ((-1 : Int32), I9, O10)
      else
        some ((p5 + (1 : Int32)), I9, O10)
    else
      (f_X2_at p6 I7).bind fun r14 =>
      hlet (fun (p16 : Int32) (I17 : Nat → Nat → Int32) (O18 : Nat → Nat → Option Nat) => show Option (Int32 × (Nat → Nat → Int32) × (Nat → Nat → Option Nat)) from
        (f_X1_accepts r14 I17).bind fun (r21, I20) =>
        hlet (p6 + 1) fun x23 =>
        f_X7_followOnTrial_L22 fuel p16 x23 I20 O18) fun j19 =>
      if r14 = (59 : Int32) then
        (f_X7_followOneOnTrial I7 O8).bind fun (r26, I24, O25) =>
        if r26 = 0 then
          some ((-1 : Int32), I24, O25)
        else
          hlet (p5 + 1) fun x28 =>
          j19 x28 I24 O25
      else
        j19 p5 I7 O8
def f_X7_followOnTrial (I : Nat → Nat → Int32) (O : Nat → Nat → Option Nat) : Option (Int32 × (Nat → Nat → Int32) × (Nat → Nat → Option Nat)) :=
  (f_X3_takeFrom 13 1 I).bind fun I1 =>
  (f_X1_start I1).bind fun I3 =>
  f_X7_followOnTrial_L22  FU (0 : Int32) (0 : Int32) I3 O
set_option maxHeartbeats 8000000 in
set_option maxRecDepth 100000 in
theorem c_X7_followOnTrial {l : Launch} {dC : Nat → ClassId} {dI : Nat → Nat → Nat} {ca : Nat → ClassId} {b : Nat → Nat} {A : Nat → Prop} {N : Nat} (hN : 129 ≤ N) (hA : gAd A b N) (I : Nat → Nat → Int32) (O : Nat → Nat → Option Nat) (J : Nat → Nat → Int64) (res : Int32 × (Nat → Nat → Int32) × (Nat → Nat → Option Nat)) (h : f_X7_followOnTrial I O = some res) : Met l yX7_followOnTrial wsX7_followOnTrial ({ frames := 5, cells := 0, slots := 0, locals := 121 } : Room) (va_Pc [.ref (b 0)] (gPre dC dI ca b A N I O J)) (va_Qi (fun (r : Int32) (u : (Nat → Nat → Int32) × (Nat → Nat → Option Nat)) => res = (r, u)) (fun (u : (Nat → Nat → Int32) × (Nat → Nat → Option Nat)) t => va_P (dC, dI) vwCl (hW N ca b u.1 u.2 J) t.heap) A) 0 0 A := by
  refine Met.ofW (cc := cX7_followOnTrial) (maxL := 4) (ret := (some .int)) (by decide) rfl ?_
  intro p e s m args below meth c s₁ B hml hv
  obtain ⟨rfl, hP, hK, hA2, hth⟩ := hv
  have hx := B.exec
  have hb := B.bytes
  have hr := B.returns
  have hlk := B.notSynchronized
  have X : gCx p s m ([.ref (b 0)] : List Value).toArray c RX7 cX7_followOnTrial wsX7_followOnTrial 4 dC dI ca b A N := ⟨hx, hb, hml, findClass_of_methodNamed B.named, atoms_spec (ws := wsX7_followOnTrial) B.pre, hK, hA, hA2, hth⟩
  have hi2 : ∀ w ∈ wsX20, w ∈ wsX7_followOnTrial := (fun w h => List.mem_cons_of_mem _ (List.mem_append_left _ (List.mem_append_left _ (List.mem_append_left _ (List.mem_append_right _ h)))))
  have hi7 : ∀ w ∈ wsX70, w ∈ wsX7_followOnTrial := (fun w h => List.mem_cons_of_mem _ (List.mem_append_left _ (List.mem_append_left _ (List.mem_append_left _ (List.mem_append_left _ (List.mem_append_right _ h))))))
  have hS : va_S A s.heap s.heap [] := va_S.rf
  have hl := lv_entry ([.ref (b 0)] : List Value) (n := 4) (Nat.le_of_ble_eq_true rfl)
  rw [lg_entry_eq]
  generalize (lg_sl ([.ref (b 0)] : List Value) ++ List.replicate (4 - (lg_sl ([.ref (b 0)] : List Value)).length) Slot.unset).toArray = ls at hl ⊢
  have hl : lv_has ls 4 [(0, .ref (b 0))] := hl
  unfold f_X7_followOnTrial at h
  refine lv_aload_n hx hb dX7_followOnTrial_0 rfl (lv_at hl 0 rfl) ?_
  refine gg7_1 X hP kc_0 (sk_in hN kc_0 (by decide)) hi7 (List.mem_of_getElem? (i := 1) rfl) dX7_followOnTrial_1 ?_
  refine lv_aload_n hx hb dX7_followOnTrial_4 rfl (lv_at hl 0 rfl) ?_
  refine gg7_0 X hP kc_0 (sk_in hN kc_0 (by decide)) hi7 (List.mem_of_getElem? (i := 2) rfl) dX7_followOnTrial_5 ?_
  obtain ⟨q2, hcq2, h⟩ := hb_some h
  refine gdV_v (As := [.ref (b 1)]) (rest := []) (BH := (fun (u : Nat → Nat → Int32) H => va_P (dC, dI) vwCl (hW N ca b u O J) H)) X hP hS (c_X3_takeFrom hN hA I O J 13 1 kc_13 kc_1 q2 hcq2) (cwV 1 X.ts gX7_followOnTrial_X3_takeFrom rfl rfl rfl (by decide +kernel) ⟨Nat.le_of_ble_eq_true rfl, Nat.le_of_ble_eq_true rfl⟩) (gr3 X hP kc_13 (sk_in hN kc_13 (by decide))) rfl hl.1 rfl (Nat.le_of_ble_eq_true rfl) dX7_followOnTrial_8 ⟨Nat.le_of_ble_eq_true rfl, Nat.le_of_ble_eq_true rfl⟩ (fun I1 H locs hw hP hS => ?_)
  have hw := hw.symm
  subst hw
  refine lv_aload_n hx hb dX7_followOnTrial_11 rfl (lv_at hl 0 rfl) ?_
  refine gg7_5 X hP kc_0 (sk_in hN kc_0 (by decide)) hi7 (List.mem_of_getElem? (i := 3) rfl) dX7_followOnTrial_12 ?_
  obtain ⟨q4, hcq4, h⟩ := hb_some h
  refine gdV_v (As := []) (rest := []) (BH := (fun (u : Nat → Nat → Int32) H => va_P (dC, dI) vwCl (hW N ca b u O J) H)) X hP hS (c_X1_start hN hA I1 O J q4 hcq4) (cwV 0 X.ts gX7_followOnTrial_X1_start rfl rfl rfl (by decide +kernel) ⟨Nat.le_of_ble_eq_true rfl, Nat.le_of_ble_eq_true rfl⟩) (gr1 X hP kc_128 (sk_in hN kc_128 (by decide))) rfl hl.1 rfl (Nat.le_of_ble_eq_true rfl) dX7_followOnTrial_15 ⟨Nat.le_of_ble_eq_true rfl, Nat.le_of_ble_eq_true rfl⟩ (fun I3 H locs hw hP hS => ?_)
  have hw := hw.symm
  subst hw
  refine lv_iconst (v := 0) hx hb dX7_followOnTrial_18 (by decide) ?_
  refine lv_istore_n (lv' := [(1, .int (0 : Int32)), (0, .ref (b 0))]) hx hb dX7_followOnTrial_19 rfl hl (by decide) rfl (fun ls hl => ?_)
  refine lv_iconst (v := 0) hx hb dX7_followOnTrial_20 (by decide) ?_
  refine lv_istore_n (lv' := [(2, .int (0 : Int32)), (1, .int (0 : Int32)), (0, .ref (b 0))]) hx hb dX7_followOnTrial_21 rfl hl (by decide) rfl (fun ls hl => ?_)
  have hL22 : ∀ (fuel : Nat) (p5 : Int32) (p6 : Int32) (I7 : Nat → Nat → Int32) (O8 : Nat → Nat → Option Nat) (H : Heap) (locs : List Loc) (ls : Array Slot), f_X7_followOnTrial_L22  fuel p5 p6 I7 O8 = some res → va_P (dC, dI) vwCl (hW N ca b I7 O8 J) H → va_S A s.heap H locs → lv_has ls 4 [(0, .ref (b 0)), (1, .int p5), (2, .int p6)] → W p l e (headSpec wsX7_followOnTrial ({ frames := 5, cells := 0, slots := 0, locals := 121 } : Room)).room s m ([.ref (b 0)] : List Value).toArray below meth c H locs 0 0 (MQ below (va_Qi (fun (r : Int32) (u : (Nat → Nat → Int32) × (Nat → Nat → Option Nat)) => res = (r, u)) (fun (u : (Nat → Nat → Int32) × (Nat → Nat → Option Nat)) t => va_P (dC, dI) vwCl (hW N ca b u.1 u.2 J) t.heap) A) ([.ref (b 0)] : List Value).toArray s 0 0 A) (F0 m 22 ls []) := by
    intro fuel
    induction fuel with
    | zero =>
      intro p5 p6 I7 O8 H locs ls h hP hS hl
      rw [f_X7_followOnTrial_L22] at h
      cases h
    | succ fuel ih =>
      intro p5 p6 I7 O8 H locs ls h hP hS hl
      rw [f_X7_followOnTrial_L22] at h
      refine lv_iload_n hx hb dX7_followOnTrial_22 rfl (lv_at hl 2 rfl) ?_
      refine lv_aload_n hx hb dX7_followOnTrial_23 rfl (lv_at hl 0 rfl) ?_
      refine gg7_4 X hP kc_0 (sk_in hN kc_0 (by decide)) hi7 (List.mem_of_getElem? (i := 4) rfl) dX7_followOnTrial_24 ?_
      refine gg2_1 X hP kc_126 (sk_in hN kc_126 (by decide)) hi2 (List.mem_of_getElem? (i := 5) rfl) dX7_followOnTrial_27 ?_
      refine lv_icmp_ge (tgt := 75) hx hb dX7_followOnTrial_30 (by decide) (fun c31 => ?_) (fun c31 => ?_)
      · have h := gif_t c31 h
        refine lv_aload_n hx hb dX7_followOnTrial_75 rfl (lv_at hl 0 rfl) ?_
        obtain ⟨q12, hcq12, h⟩ := hb_some h
        refine gdV_i (As := []) (rest := []) (BH := (fun (u : (Nat → Nat → Int32) × (Nat → Nat → Option Nat)) H => va_P (dC, dI) vwCl (hW N ca b u.1 u.2 J) H)) X hP hS (c_X7_followOneOnTrial hN hA I7 O8 J q12 hcq12) (cwV 0 X.ts gX7_followOnTrial_X7_followOneOnTrial rfl rfl rfl (by decide +kernel) ⟨Nat.le_of_ble_eq_true rfl, Nat.le_of_ble_eq_true rfl⟩) (gr7 X hP kc_0 (sk_in hN kc_0 (by decide))) rfl hl.1 rfl (Nat.le_of_ble_eq_true rfl) dX7_followOnTrial_76 ⟨Nat.le_of_ble_eq_true rfl, Nat.le_of_ble_eq_true rfl⟩ (fun r11 u9 H locs hw hP hS => ?_)
        obtain ⟨I9, O10⟩ := u9
        subst hw
        refine lv_if_eq (tgt := 88) hx hb dX7_followOnTrial_79 (by decide) (fun c13 => ?_) (fun c13 => ?_)
        · have h := gif_t c13 h
          refine lv_iconst (v := (-1)) hx hb dX7_followOnTrial_88 (by decide) ?_
          exact W.iret hx hb hr (fun t9 ht hW => ⟨⟨(-1 : Int32), (I9, O10), rfl, (Option.some.inj h).symm, gEnd ht hP⟩, hS.F ht⟩) hS.2.2 dX7_followOnTrial_89 hlk
        · have h := gif_f c13 h
          refine lv_iload_n hx hb dX7_followOnTrial_82 rfl (lv_at hl 1 rfl) ?_
          refine lv_iconst (v := 1) hx hb dX7_followOnTrial_83 (by decide) ?_
          refine lv_iadd hx hb dX7_followOnTrial_84 ?_
          refine lv_goto (tgt := 89) hx hb dX7_followOnTrial_85 (by decide) ?_
          exact W.iret hx hb hr (fun t9 ht hW => ⟨⟨(p5 + (1 : Int32)), (I9, O10), rfl, (Option.some.inj h).symm, gEnd ht hP⟩, hS.F ht⟩) hS.2.2 dX7_followOnTrial_89 hlk
      · have h := gif_f c31 h
        refine lv_aload_n hx hb dX7_followOnTrial_33 rfl (lv_at hl 0 rfl) ?_
        refine gg7_4 X hP kc_0 (sk_in hN kc_0 (by decide)) hi7 (List.mem_of_getElem? (i := 4) rfl) dX7_followOnTrial_34 ?_
        refine lv_iload_n hx hb dX7_followOnTrial_37 rfl (lv_at hl 2 rfl) ?_
        obtain ⟨q15, hcq15, h⟩ := hb_some h
        refine gdV_i (As := [.int p6]) (rest := []) (BH := (fun (u : Unit) H => va_P (dC, dI) vwCl (hW N ca b I7 O8 J) H)) X hP hS (c_X2_at hN hA I7 O8 J p6 q15 hcq15) (cwV 1 X.ts gX7_followOnTrial_X2_at rfl rfl rfl (by decide +kernel) ⟨Nat.le_of_ble_eq_true rfl, Nat.le_of_ble_eq_true rfl⟩) (gr2 X hP kc_126 (sk_in hN kc_126 (by decide))) rfl hl.1 rfl (Nat.le_of_ble_eq_true rfl) dX7_followOnTrial_38 ⟨Nat.le_of_ble_eq_true rfl, Nat.le_of_ble_eq_true rfl⟩ (fun r14 u9 H locs hw hP hS => ?_)
        have hw := hw.symm
        subst hw
        refine lv_istore_n (lv' := [(3, .int r14), (0, .ref (b 0)), (1, .int p5), (2, .int p6)]) hx hb dX7_followOnTrial_41 rfl hl (by decide) rfl (fun ls hl => ?_)
        refine lv_iload_n hx hb dX7_followOnTrial_42 rfl (lv_at hl 0 rfl) ?_
        refine lv_bipush (v := 59) hx hb dX7_followOnTrial_43 (by decide) ?_
        obtain ⟨j19, ej19, h⟩ := hlet_ex h
        have K60 : ∀ (p16 : Int32) (I17 : Nat → Nat → Int32) (O18 : Nat → Nat → Option Nat) (H : Heap) (locs : List Loc) (ls : Array Slot), j19 p16 I17 O18 = some res → va_P (dC, dI) vwCl (hW N ca b I17 O18 J) H → va_S A s.heap H locs → lv_has ls 4 [(0, .ref (b 0)), (1, .int p16), (2, .int p6), (3, .int r14)] → W p l e (headSpec wsX7_followOnTrial ({ frames := 5, cells := 0, slots := 0, locals := 121 } : Room)).room s m ([.ref (b 0)] : List Value).toArray below meth c H locs 0 0 (MQ below (va_Qi (fun (r : Int32) (u : (Nat → Nat → Int32) × (Nat → Nat → Option Nat)) => res = (r, u)) (fun (u : (Nat → Nat → Int32) × (Nat → Nat → Option Nat)) t => va_P (dC, dI) vwCl (hW N ca b u.1 u.2 J) t.heap) A) ([.ref (b 0)] : List Value).toArray s 0 0 A) (F0 m 60 ls []) := by
          intro p16 I17 O18 H locs ls h hP hS hl
          rw [ej19] at h
          refine lv_aload_n hx hb dX7_followOnTrial_60 rfl (lv_at hl 0 rfl) ?_
          refine gg7_5 X hP kc_0 (sk_in hN kc_0 (by decide)) hi7 (List.mem_of_getElem? (i := 3) rfl) dX7_followOnTrial_61 ?_
          refine lv_iload_n hx hb dX7_followOnTrial_64 rfl (lv_at hl 3 rfl) ?_
          obtain ⟨q22, hcq22, h⟩ := hb_some h
          refine gdV_i (As := [.int r14]) (rest := []) (BH := (fun (u : Nat → Nat → Int32) H => va_P (dC, dI) vwCl (hW N ca b u O18 J) H)) X hP hS (c_X1_accepts hN hA I17 O18 J r14 q22 hcq22) (cwV 1 X.ts gX7_followOnTrial_X1_accepts rfl rfl rfl (by decide +kernel) ⟨Nat.le_of_ble_eq_true rfl, Nat.le_of_ble_eq_true rfl⟩) (gr1 X hP kc_128 (sk_in hN kc_128 (by decide))) rfl hl.1 rfl (Nat.le_of_ble_eq_true rfl) dX7_followOnTrial_65 ⟨Nat.le_of_ble_eq_true rfl, Nat.le_of_ble_eq_true rfl⟩ (fun r21 I20 H locs hw hP hS => ?_)
          subst hw
          refine lv_pop hx hb dX7_followOnTrial_68 rfl ?_
          obtain ⟨x23, ex23, h⟩ := hlet_ex h
          refine lv_iinc (v := x23) (lv' := [(2, .int x23), (0, .ref (b 0)), (1, .int p16), (3, .int r14)]) hx hb dX7_followOnTrial_69 hl (k := 2) rfl (by rw [ex23]; rfl) (by decide) rfl (fun ls hl => ?_)
          refine lv_goto (tgt := 22) hx hb dX7_followOnTrial_72 (by decide) ?_
          exact ih _ _ _ _ _ _ _ h hP hS (lv_sub hl [1, 2, 0] rfl)
        refine lv_icmp_ne (tgt := 60) hx hb dX7_followOnTrial_45 (by decide) (fun c30 => ?_) (fun c30 => ?_)
        · have h := gif_f c30 h
          exact K60 _ _ _ _ _ _ h hP hS (lv_sub hl [1, 2, 3, 0] rfl)
        · have h := gif_t c30 h
          refine lv_aload_n hx hb dX7_followOnTrial_48 rfl (lv_at hl 1 rfl) ?_
          obtain ⟨q27, hcq27, h⟩ := hb_some h
          refine gdV_i (As := []) (rest := []) (BH := (fun (u : (Nat → Nat → Int32) × (Nat → Nat → Option Nat)) H => va_P (dC, dI) vwCl (hW N ca b u.1 u.2 J) H)) X hP hS (c_X7_followOneOnTrial hN hA I7 O8 J q27 hcq27) (cwV 0 X.ts gX7_followOnTrial_X7_followOneOnTrial rfl rfl rfl (by decide +kernel) ⟨Nat.le_of_ble_eq_true rfl, Nat.le_of_ble_eq_true rfl⟩) (gr7 X hP kc_0 (sk_in hN kc_0 (by decide))) rfl hl.1 rfl (Nat.le_of_ble_eq_true rfl) dX7_followOnTrial_49 ⟨Nat.le_of_ble_eq_true rfl, Nat.le_of_ble_eq_true rfl⟩ (fun r26 u9 H locs hw hP hS => ?_)
          obtain ⟨I24, O25⟩ := u9
          subst hw
          refine lv_if_ne (tgt := 57) hx hb dX7_followOnTrial_52 (by decide) (fun c29 => ?_) (fun c29 => ?_)
          · have h := gif_f c29 h
            obtain ⟨x28, ex28, h⟩ := hlet_ex h
            refine lv_iinc (v := x28) (lv' := [(1, .int x28), (3, .int r14), (0, .ref (b 0)), (2, .int p6)]) hx hb dX7_followOnTrial_57 hl (k := 2) rfl (by rw [ex28]; rfl) (by decide) rfl (fun ls hl => ?_)
            exact K60 _ _ _ _ _ _ h hP hS (lv_sub hl [2, 0, 3, 1] rfl)
          · have h := gif_t c29 h
            refine lv_iconst (v := (-1)) hx hb dX7_followOnTrial_55 (by decide) ?_
            exact W.iret hx hb hr (fun t9 ht hW => ⟨⟨(-1 : Int32), (I24, O25), rfl, (Option.some.inj h).symm, gEnd ht hP⟩, hS.F ht⟩) hS.2.2 dX7_followOnTrial_56 hlk
  exact hL22 FU _ _ _ _ _ _ _ h hP hS (lv_sub hl [2, 1, 0] rfl)
def f_X7_follow (I : Nat → Nat → Int32) (O : Nat → Nat → Option Nat) : Option (Sum Nat Int32 × (Nat → Nat → Int32) × (Nat → Nat → Option Nat)) :=
  (f_X7_readText I).bind fun (r2, I1) =>
  if r2 < (I1 126 1) then
    some ((Sum.inl 1), I1, O)
  else
    (f_X1_isWhole I1).bind fun r4 =>
    if r4 = 0 then
      some ((Sum.inl 1), I1, O)
    else
      (f_X7_followOnTrial I1 O).bind fun (r8, I6, O7) =>
      if r8 = (-1 : Int32) then
        some ((Sum.inl 2), I6, O7)
      else
        (f_X4_save 1 I6 O7).bind fun (I10, O11) =>
        (f_X3_takeFrom 1 13 I10).bind fun I13 =>
        hlet (gup I13 126 1 (0 : Int32)) fun I15 =>
        some ((Sum.inr r8), I15, O11)
set_option maxHeartbeats 8000000 in
set_option maxRecDepth 100000 in
theorem c_X7_follow {l : Launch} (hlf : l.stackTraces = false) {dC : Nat → ClassId} {dI : Nat → Nat → Nat} {ca : Nat → ClassId} {b : Nat → Nat} {A : Nat → Prop} {N : Nat} (hN : 129 ≤ N) (hA : gAd A b N) (I : Nat → Nat → Int32) (O : Nat → Nat → Option Nat) (J : Nat → Nat → Int64) (res : Sum Nat Int32 × (Nat → Nat → Int32) × (Nat → Nat → Option Nat)) (h : f_X7_follow I O = some res) : vx_Met l yX7_follow wsX7_follow ({ frames := 6, cells := 1, slots := 6, locals := 144 } : Room) (va_Pc [.ref (b 0)] (gPre dC dI ca b A N I O J)) (va_Qi (fun (r : Int32) (u : (Nat → Nat → Int32) × (Nat → Nat → Option Nat)) => res = (Sum.inr r, u)) (fun (u : (Nat → Nat → Int32) × (Nat → Nat → Option Nat)) t => va_P (dC, dI) vwCl (hW N ca b u.1 u.2 J) t.heap) A) (vx_X (fun (u : Nat × ((Nat → Nat → Int32) × (Nat → Nat → Option Nat))) => res = (Sum.inl u.1, u.2)) (fun E (u : Nat × ((Nat → Nat → Int32) × (Nat → Nat → Option Nat))) t => E = gEn u.1 ∧ (fun (u : (Nat → Nat → Int32) × (Nat → Nat → Option Nat)) H => va_P (dC, dI) vwCl (hW N ca b u.1 u.2 J) H) u.2 t.heap) A) 1 6 A := by
  refine vx_ofW (cc := cX7_follow) (maxL := 2) (ret := (some .int)) (by decide) rfl ?_
  intro p e s m args below meth c s₁ B hml hout hv
  obtain ⟨rfl, hP, hK, hA2, hth⟩ := hv
  have hx := B.exec
  have hb := B.bytes
  have hr := B.returns
  have hlk := B.notSynchronized
  have X : gCx p s m ([.ref (b 0)] : List Value).toArray c RX7 cX7_follow wsX7_follow 2 dC dI ca b A N := ⟨hx, hb, hml, findClass_of_methodNamed B.named, atoms_spec (ws := wsX7_follow) B.pre, hK, hA, hA2, hth⟩
  have hi2 : ∀ w ∈ wsX20, w ∈ wsX7_follow := (fun w h => List.mem_cons_of_mem _ (List.mem_append_left _ (List.mem_append_left _ (List.mem_append_left _ (List.mem_append_left _ (List.mem_append_left _ (List.mem_append_left _ (List.mem_append_right _ h))))))))
  have hi7 : ∀ w ∈ wsX70, w ∈ wsX7_follow := (fun w h => List.mem_cons_of_mem _ (List.mem_append_left _ (List.mem_append_left _ (List.mem_append_left _ (List.mem_append_left _ (List.mem_append_left _ (List.mem_append_left _ (List.mem_append_left _ (List.mem_append_right _ h)))))))))
  have hg1 : ∀ w ∈ gWg1, w ∈ wsX7_follow := (fun w h => List.mem_cons_of_mem _ (List.mem_append_left _ (List.mem_append_right _ h)))
  have hg2 : ∀ w ∈ gWg2, w ∈ wsX7_follow := (fun w h => List.mem_cons_of_mem _ (List.mem_append_right _ h))
  have hS : va_S A s.heap s.heap [] := va_S.rf
  have hl := lv_entry ([.ref (b 0)] : List Value) (n := 2) (Nat.le_of_ble_eq_true rfl)
  rw [lg_entry_eq]
  generalize (lg_sl ([.ref (b 0)] : List Value) ++ List.replicate (2 - (lg_sl ([.ref (b 0)] : List Value)).length) Slot.unset).toArray = ls at hl ⊢
  have hl : lv_has ls 2 [(0, .ref (b 0))] := hl
  unfold f_X7_follow at h
  refine lv_aload_n hx hb dX7_follow_0 rfl (lv_at hl 0 rfl) ?_
  obtain ⟨q3, hcq3, h⟩ := hb_some h
  refine gdV_i (As := []) (rest := []) (BH := (fun (u : Nat → Nat → Int32) H => va_P (dC, dI) vwCl (hW N ca b u O J) H)) X hP hS (c_X7_readText hN hA I O J q3 hcq3) (cwV 0 X.ts gX7_follow_X7_readText rfl rfl rfl (by decide +kernel) ⟨Nat.le_of_ble_eq_true rfl, Nat.le_of_ble_eq_true rfl⟩) (gr7 X hP kc_0 (sk_in hN kc_0 (by decide))) rfl hl.1 rfl (Nat.le_of_ble_eq_true rfl) dX7_follow_1 ⟨Nat.le_of_ble_eq_true rfl, Nat.le_of_ble_eq_true rfl⟩ (fun r2 I1 H locs hw hP hS => ?_)
  subst hw
  refine lv_aload_n hx hb dX7_follow_4 rfl (lv_at hl 0 rfl) ?_
  refine gg7_4 X hP kc_0 (sk_in hN kc_0 (by decide)) hi7 (List.mem_of_getElem? (i := 5) rfl) dX7_follow_5 ?_
  refine gg2_1 X hP kc_126 (sk_in hN kc_126 (by decide)) hi2 (List.mem_of_getElem? (i := 6) rfl) dX7_follow_8 ?_
  refine lv_icmp_lt (tgt := 24) hx hb dX7_follow_11 (by decide) (fun c18 => ?_) (fun c18 => ?_)
  · have h := gif_t c18 h
    exact gt1 (S := (Nat → Nat → Int32) × (Nat → Nat → Option Nat)) (BH := (fun (u : (Nat → Nat → Int32) × (Nat → Nat → Option Nat)) H => va_P (dC, dI) vwCl (hW N ca b u.1 u.2 J) H)) X hlf hlk hout hS hg1 (List.mem_of_getElem? (i := 1) rfl) (List.mem_of_getElem? (i := 2) rfl) (List.mem_of_getElem? (i := 15) rfl) hl.1 dX7_follow_24 dX7_follow_27 dX7_follow_28 dX7_follow_30 dX7_follow_33 (Nat.le_of_ble_eq_true rfl) (Nat.le_of_ble_eq_true rfl) (Nat.le_of_ble_eq_true rfl) (Nat.le_of_ble_eq_true rfl) (I1, O) (Option.some.inj h).symm (fun H1 hk1 => hP.kept (fun k q hq => hk1 q.1 (hP k q hq).lt)) (Nat.le_of_ble_eq_true rfl) (Nat.le_of_ble_eq_true rfl)
  · have h := gif_f c18 h
    refine lv_aload_n hx hb dX7_follow_14 rfl (lv_at hl 0 rfl) ?_
    refine gg7_5 X hP kc_0 (sk_in hN kc_0 (by decide)) hi7 (List.mem_of_getElem? (i := 7) rfl) dX7_follow_15 ?_
    obtain ⟨q5, hcq5, h⟩ := hb_some h
    refine gdV_i (As := []) (rest := []) (BH := (fun (u : Unit) H => va_P (dC, dI) vwCl (hW N ca b I1 O J) H)) X hP hS (c_X1_isWhole hN hA I1 O J q5 hcq5) (cwV 0 X.ts gX7_follow_X1_isWhole rfl rfl rfl (by decide +kernel) ⟨Nat.le_of_ble_eq_true rfl, Nat.le_of_ble_eq_true rfl⟩) (gr1 X hP kc_128 (sk_in hN kc_128 (by decide))) rfl hl.1 rfl (Nat.le_of_ble_eq_true rfl) dX7_follow_18 ⟨Nat.le_of_ble_eq_true rfl, Nat.le_of_ble_eq_true rfl⟩ (fun r4 u9 H locs hw hP hS => ?_)
    have hw := hw.symm
    subst hw
    refine lv_if_ne (tgt := 34) hx hb dX7_follow_21 (by decide) (fun c17 => ?_) (fun c17 => ?_)
    · have h := gif_f c17 h
      refine lv_aload_n hx hb dX7_follow_34 rfl (lv_at hl 0 rfl) ?_
      obtain ⟨q9, hcq9, h⟩ := hb_some h
      refine gdV_i (As := []) (rest := []) (BH := (fun (u : (Nat → Nat → Int32) × (Nat → Nat → Option Nat)) H => va_P (dC, dI) vwCl (hW N ca b u.1 u.2 J) H)) X hP hS (c_X7_followOnTrial hN hA I1 O J q9 hcq9) (cwV 0 X.ts gX7_follow_X7_followOnTrial rfl rfl rfl (by decide +kernel) ⟨Nat.le_of_ble_eq_true rfl, Nat.le_of_ble_eq_true rfl⟩) (gr7 X hP kc_0 (sk_in hN kc_0 (by decide))) rfl hl.1 rfl (Nat.le_of_ble_eq_true rfl) dX7_follow_35 ⟨Nat.le_of_ble_eq_true rfl, Nat.le_of_ble_eq_true rfl⟩ (fun r8 u9 H locs hw hP hS => ?_)
      obtain ⟨I6, O7⟩ := u9
      subst hw
      refine lv_istore_n (lv' := [(1, .int r8), (0, .ref (b 0))]) hx hb dX7_follow_38 rfl hl (by decide) rfl (fun ls hl => ?_)
      refine lv_iload_n hx hb dX7_follow_39 rfl (lv_at hl 0 rfl) ?_
      refine lv_iconst (v := (-1)) hx hb dX7_follow_40 (by decide) ?_
      refine lv_icmp_ne (tgt := 54) hx hb dX7_follow_41 (by decide) (fun c16 => ?_) (fun c16 => ?_)
      · have h := gif_f c16 h
        refine lv_aload_n hx hb dX7_follow_54 rfl (lv_at hl 1 rfl) ?_
        refine gg7_2 X hP kc_0 (sk_in hN kc_0 (by decide)) hi7 (List.mem_of_getElem? (i := 8) rfl) dX7_follow_55 ?_
        refine lv_aload_n hx hb dX7_follow_58 rfl (lv_at hl 1 rfl) ?_
        refine gg7_0 X hP kc_0 (sk_in hN kc_0 (by decide)) hi7 (List.mem_of_getElem? (i := 9) rfl) dX7_follow_59 ?_
        obtain ⟨q12, hcq12, h⟩ := hb_some h
        refine gdV_v (As := [.ref (b 1)]) (rest := []) (BH := (fun (u : (Nat → Nat → Int32) × (Nat → Nat → Option Nat)) H => va_P (dC, dI) vwCl (hW N ca b u.1 u.2 J) H)) X hP hS (c_X4_save hN hA I6 O7 J 1 kc_1 q12 hcq12) (cwV 1 X.ts gX7_follow_X4_save rfl rfl rfl (by decide +kernel) ⟨Nat.le_of_ble_eq_true rfl, Nat.le_of_ble_eq_true rfl⟩) (gr4 X hP kc_25 (sk_in hN kc_25 (by decide))) rfl hl.1 rfl (Nat.le_of_ble_eq_true rfl) dX7_follow_62 ⟨Nat.le_of_ble_eq_true rfl, Nat.le_of_ble_eq_true rfl⟩ (fun u9 H locs hw hP hS => ?_)
        obtain ⟨I10, O11⟩ := u9
        subst hw
        refine lv_aload_n hx hb dX7_follow_65 rfl (lv_at hl 1 rfl) ?_
        refine gg7_0 X hP kc_0 (sk_in hN kc_0 (by decide)) hi7 (List.mem_of_getElem? (i := 9) rfl) dX7_follow_66 ?_
        refine lv_aload_n hx hb dX7_follow_69 rfl (lv_at hl 1 rfl) ?_
        refine gg7_1 X hP kc_0 (sk_in hN kc_0 (by decide)) hi7 (List.mem_of_getElem? (i := 10) rfl) dX7_follow_70 ?_
        obtain ⟨q14, hcq14, h⟩ := hb_some h
        refine gdV_v (As := [.ref (b 13)]) (rest := []) (BH := (fun (u : Nat → Nat → Int32) H => va_P (dC, dI) vwCl (hW N ca b u O11 J) H)) X hP hS (c_X3_takeFrom hN hA I10 O11 J 1 13 kc_1 kc_13 q14 hcq14) (cwV 1 X.ts gX7_follow_X3_takeFrom rfl rfl rfl (by decide +kernel) ⟨Nat.le_of_ble_eq_true rfl, Nat.le_of_ble_eq_true rfl⟩) (gr3 X hP kc_1 (sk_in hN kc_1 (by decide))) rfl hl.1 rfl (Nat.le_of_ble_eq_true rfl) dX7_follow_73 ⟨Nat.le_of_ble_eq_true rfl, Nat.le_of_ble_eq_true rfl⟩ (fun I13 H locs hw hP hS => ?_)
        have hw := hw.symm
        subst hw
        refine lv_aload_n hx hb dX7_follow_76 rfl (lv_at hl 1 rfl) ?_
        refine gg7_4 X hP kc_0 (sk_in hN kc_0 (by decide)) hi7 (List.mem_of_getElem? (i := 5) rfl) dX7_follow_77 ?_
        refine lv_iconst (v := 0) hx hb dX7_follow_80 (by decide) ?_
        refine gp2_1 X hP hS kc_126 (sk_in hN kc_126 (by decide)) hi2 (List.mem_of_getElem? (i := 6) rfl) dX7_follow_81 (fun H locs hP hS => ?_)
        obtain ⟨I15, eI15, h⟩ := hlet_ex h
        rw [← eI15] at hP
        refine lv_iload_n hx hb dX7_follow_84 rfl (lv_at hl 0 rfl) ?_
        refine vx_ret ?_
        refine W.widen (k := 1) (n := 6) (Nat.le_of_ble_eq_true rfl) (Nat.le_of_ble_eq_true rfl) ?_
        exact W.iret hx hb hr (fun t9 ht hW => ⟨⟨r8, (I15, O11), rfl, (Option.some.inj h).symm, gEnd ht hP⟩, hS.F ht⟩) hS.2.2 dX7_follow_85 hlk
      · have h := gif_t c16 h
        exact gt2 (S := (Nat → Nat → Int32) × (Nat → Nat → Option Nat)) (BH := (fun (u : (Nat → Nat → Int32) × (Nat → Nat → Option Nat)) H => va_P (dC, dI) vwCl (hW N ca b u.1 u.2 J) H)) X hlf hlk hout hS hg2 (List.mem_of_getElem? (i := 3) rfl) (List.mem_of_getElem? (i := 4) rfl) (List.mem_of_getElem? (i := 16) rfl) hl.1 dX7_follow_44 dX7_follow_47 dX7_follow_48 dX7_follow_50 dX7_follow_53 (Nat.le_of_ble_eq_true rfl) (Nat.le_of_ble_eq_true rfl) (Nat.le_of_ble_eq_true rfl) (Nat.le_of_ble_eq_true rfl) (I6, O7) (Option.some.inj h).symm (fun H1 hk1 => hP.kept (fun k q hq => hk1 q.1 (hP k q hq).lt)) (Nat.le_of_ble_eq_true rfl) (Nat.le_of_ble_eq_true rfl)
    · have h := gif_t c17 h
      exact gt1 (S := (Nat → Nat → Int32) × (Nat → Nat → Option Nat)) (BH := (fun (u : (Nat → Nat → Int32) × (Nat → Nat → Option Nat)) H => va_P (dC, dI) vwCl (hW N ca b u.1 u.2 J) H)) X hlf hlk hout hS hg1 (List.mem_of_getElem? (i := 1) rfl) (List.mem_of_getElem? (i := 2) rfl) (List.mem_of_getElem? (i := 15) rfl) hl.1 dX7_follow_24 dX7_follow_27 dX7_follow_28 dX7_follow_30 dX7_follow_33 (Nat.le_of_ble_eq_true rfl) (Nat.le_of_ble_eq_true rfl) (Nat.le_of_ble_eq_true rfl) (Nat.le_of_ble_eq_true rfl) (I1, O) (Option.some.inj h).symm (fun H1 hk1 => hP.kept (fun k q hq => hk1 q.1 (hP k q hq).lt)) (Nat.le_of_ble_eq_true rfl) (Nat.le_of_ble_eq_true rfl)
def f_X7_checkSlot (a0 : Int32) : Option (Sum Nat Unit) :=
  if a0 < 0 then
    some (Sum.inl 1)
  else
    if a0 < (2 : Int32) then
      some (Sum.inr ())
    else
      some (Sum.inl 1)
set_option maxHeartbeats 8000000 in
set_option maxRecDepth 100000 in
theorem c_X7_checkSlot {l : Launch} (hlf : l.stackTraces = false) {dC : Nat → ClassId} {dI : Nat → Nat → Nat} {ca : Nat → ClassId} {b : Nat → Nat} {A : Nat → Prop} {N : Nat} (hN : 129 ≤ N) (hA : gAd A b N) (I : Nat → Nat → Int32) (O : Nat → Nat → Option Nat) (J : Nat → Nat → Int64) (a0 : Int32) (res : Sum Nat Unit) (h : f_X7_checkSlot a0 = some res) : vx_Met l yX7_checkSlot wsX7_checkSlot ({ frames := 6, cells := 1, slots := 6, locals := 90 } : Room) (va_Pc [.int a0] (gPre dC dI ca b A N I O J)) (va_Qv (fun (u : Unit) => res = (Sum.inr ())) (fun (u : Unit) t => va_P (dC, dI) vwCl (hW N ca b I O J) t.heap) A) (vx_X (fun (u : Nat × Unit) => res = Sum.inl u.1) (fun E (u : Nat × Unit) t => E = gEn u.1 ∧ (fun (u : Unit) H => va_P (dC, dI) vwCl (hW N ca b I O J) H) u.2 t.heap) A) 1 6 A := by
  refine vx_ofW (cc := cX7_checkSlot) (maxL := 1) (ret := none) (by decide) rfl ?_
  intro p e s m args below meth c s₁ B hml hout hv
  obtain ⟨rfl, hP, hK, hA2, hth⟩ := hv
  have hx := B.exec
  have hb := B.bytes
  have hr := B.returns
  have hlk := B.notSynchronized
  have X : gCx p s m ([.int a0] : List Value).toArray c RX7 cX7_checkSlot wsX7_checkSlot 1 dC dI ca b A N := ⟨hx, hb, hml, findClass_of_methodNamed B.named, atoms_spec (ws := wsX7_checkSlot) B.pre, hK, hA, hA2, hth⟩
  have hg1 : ∀ w ∈ gWg1, w ∈ wsX7_checkSlot := (fun w h => List.mem_cons_of_mem _ (List.mem_append_right _ h))
  have hS : va_S A s.heap s.heap [] := va_S.rf
  have hl := lv_entry ([.int a0] : List Value) (n := 1) (Nat.le_of_ble_eq_true rfl)
  rw [lg_entry_eq]
  generalize (lg_sl ([.int a0] : List Value) ++ List.replicate (1 - (lg_sl ([.int a0] : List Value)).length) Slot.unset).toArray = ls at hl ⊢
  have hl : lv_has ls 1 [(0, .int a0)] := hl
  unfold f_X7_checkSlot at h
  refine lv_iload_n hx hb dX7_checkSlot_0 rfl (lv_at hl 0 rfl) ?_
  refine lv_if_lt (tgt := 9) hx hb dX7_checkSlot_1 (by decide) (fun c2 => ?_) (fun c2 => ?_)
  · have h := gif_t c2 h
    exact gt1w (S := Unit) (BH := (fun (u : Unit) H => va_P (dC, dI) vwCl (hW N ca b I O J) H)) X hlf hlk hout hS hg1 (List.mem_of_getElem? (i := 1) rfl) (List.mem_of_getElem? (i := 2) rfl) (List.mem_of_getElem? (i := 17) rfl) hl.1 dX7_checkSlot_9 dX7_checkSlot_12 dX7_checkSlot_13 dX7_checkSlot_16 dX7_checkSlot_19 (Nat.le_of_ble_eq_true rfl) (Nat.le_of_ble_eq_true rfl) (Nat.le_of_ble_eq_true rfl) (Nat.le_of_ble_eq_true rfl) () (Option.some.inj h).symm (fun H1 hk1 => hP.kept (fun k q hq => hk1 q.1 (hP k q hq).lt)) (Nat.le_of_ble_eq_true rfl) (Nat.le_of_ble_eq_true rfl)
  · have h := gif_f c2 h
    refine lv_iload_n hx hb dX7_checkSlot_4 rfl (lv_at hl 0 rfl) ?_
    refine lv_iconst (v := 2) hx hb dX7_checkSlot_5 (by decide) ?_
    refine lv_icmp_lt (tgt := 20) hx hb dX7_checkSlot_6 (by decide) (fun c1 => ?_) (fun c1 => ?_)
    · have h := gif_t c1 h
      refine vx_ret ?_
      refine W.widen (k := 1) (n := 6) (Nat.le_of_ble_eq_true rfl) (Nat.le_of_ble_eq_true rfl) ?_
      exact W.vret hx hb hr (fun t9 ht hW => ⟨⟨(), rfl, (Option.some.inj h).symm, gEnd ht hP⟩, hS.F ht⟩) hS.2.2 dX7_checkSlot_20 hlk
    · have h := gif_f c1 h
      exact gt1w (S := Unit) (BH := (fun (u : Unit) H => va_P (dC, dI) vwCl (hW N ca b I O J) H)) X hlf hlk hout hS hg1 (List.mem_of_getElem? (i := 1) rfl) (List.mem_of_getElem? (i := 2) rfl) (List.mem_of_getElem? (i := 17) rfl) hl.1 dX7_checkSlot_9 dX7_checkSlot_12 dX7_checkSlot_13 dX7_checkSlot_16 dX7_checkSlot_19 (Nat.le_of_ble_eq_true rfl) (Nat.le_of_ble_eq_true rfl) (Nat.le_of_ble_eq_true rfl) (Nat.le_of_ble_eq_true rfl) () (Option.some.inj h).symm (fun H1 hk1 => hP.kept (fun k q hq => hk1 q.1 (hP k q hq).lt)) (Nat.le_of_ble_eq_true rfl) (Nat.le_of_ble_eq_true rfl)
def f_X7_keep (a1 : Int32) (I : Nat → Nat → Int32) : Option (Sum Nat Unit × (Nat → Nat → Int32)) :=
  (f_X7_checkSlot a1).bind fun eq1 => hsum eq1 (fun k9 => some ((Sum.inl k9), I)) fun _ =>
  (f_X5_put a1 1 I).bind fun I2 =>
  some ((Sum.inr ()), I2)
set_option maxHeartbeats 8000000 in
set_option maxRecDepth 100000 in
theorem c_X7_keep {l : Launch} (hlf : l.stackTraces = false) {dC : Nat → ClassId} {dI : Nat → Nat → Nat} {ca : Nat → ClassId} {b : Nat → Nat} {A : Nat → Prop} {N : Nat} (hN : 129 ≤ N) (hA : gAd A b N) (I : Nat → Nat → Int32) (O : Nat → Nat → Option Nat) (J : Nat → Nat → Int64) (a1 : Int32) (res : Sum Nat Unit × (Nat → Nat → Int32)) (h : f_X7_keep a1 I = some res) : vx_Met l yX7_keep wsX7_keep ({ frames := 7, cells := 1, slots := 6, locals := 110 } : Room) (va_Pc [.ref (b 0), .int a1] (gPre dC dI ca b A N I O J)) (va_Qv (fun (u : Nat → Nat → Int32) => res = (Sum.inr (), u)) (fun (u : Nat → Nat → Int32) t => va_P (dC, dI) vwCl (hW N ca b u O J) t.heap) A) (vx_X (fun (u : Nat × (Nat → Nat → Int32)) => res = (Sum.inl u.1, u.2)) (fun E (u : Nat × (Nat → Nat → Int32)) t => E = gEn u.1 ∧ (fun (u : Nat → Nat → Int32) H => va_P (dC, dI) vwCl (hW N ca b u O J) H) u.2 t.heap) A) 1 6 A := by
  refine vx_ofW (cc := cX7_keep) (maxL := 2) (ret := none) (by decide) rfl ?_
  intro p e s m args below meth c s₁ B hml hout hv
  obtain ⟨rfl, hP, hK, hA2, hth⟩ := hv
  have hx := B.exec
  have hb := B.bytes
  have hr := B.returns
  have hlk := B.notSynchronized
  have X : gCx p s m ([.ref (b 0), .int a1] : List Value).toArray c RX7 cX7_keep wsX7_keep 2 dC dI ca b A N := ⟨hx, hb, hml, findClass_of_methodNamed B.named, atoms_spec (ws := wsX7_keep) B.pre, hK, hA, hA2, hth⟩
  have hi7 : ∀ w ∈ wsX70, w ∈ wsX7_keep := (fun w h => List.mem_cons_of_mem _ (List.mem_append_left _ (List.mem_append_left _ (List.mem_append_left _ (List.mem_append_left _ (List.mem_append_right _ h))))))
  have hS : va_S A s.heap s.heap [] := va_S.rf
  have hl := lv_entry ([.ref (b 0), .int a1] : List Value) (n := 2) (Nat.le_of_ble_eq_true rfl)
  rw [lg_entry_eq]
  generalize (lg_sl ([.ref (b 0), .int a1] : List Value) ++ List.replicate (2 - (lg_sl ([.ref (b 0), .int a1] : List Value)).length) Slot.unset).toArray = ls at hl ⊢
  have hl : lv_has ls 2 [(0, .ref (b 0)), (1, .int a1)] := hl
  unfold f_X7_keep at h
  refine lv_iload_n hx hb dX7_keep_0 rfl (lv_at hl 1 rfl) ?_
  obtain ⟨q1, hcq1, h⟩ := hb_some h
  refine gxS_v (As := [.int a1]) (rest := []) (BH := (fun (u : Unit) H => va_P (dC, dI) vwCl (hW N ca b I O J) H)) (BX := (fun (u : Unit) H => va_P (dC, dI) vwCl (hW N ca b I O J) H)) X hP hS (c_X7_checkSlot hlf hN hA I O J a1 q1 hcq1) (va_cwS 1 X.ts gX7_keep_X7_checkSlot rfl rfl rfl (by decide +kernel) ⟨Nat.le_of_ble_eq_true rfl, Nat.le_of_ble_eq_true rfl⟩) rfl hl.1 rfl (Nat.le_of_ble_eq_true rfl) dX7_keep_1 ⟨Nat.le_of_ble_eq_true rfl, Nat.le_of_ble_eq_true rfl⟩ (fun k9 u9 H locs ce9 q9 hw hP hS hce hcv hcl => ?_) (fun u9 H locs hw hP hS => ?_)
  · subst hw
    exact gOut (S := Nat → Nat → Int32) (BH := (fun (u : Nat → Nat → Int32) H => va_P (dC, dI) vwCl (hW N ca b u O J) H)) hlk hout hS hce hcv hcl I (Option.some.inj (show some ((Sum.inl k9), I) = some res from h)).symm hP (Nat.le_of_ble_eq_true rfl) (Nat.le_of_ble_eq_true rfl)
  subst hw
  have h := hsum_r h
  refine lv_aload_n hx hb dX7_keep_4 rfl (lv_at hl 0 rfl) ?_
  refine gg7_3 X hP kc_0 (sk_in hN kc_0 (by decide)) hi7 (List.mem_of_getElem? (i := 1) rfl) dX7_keep_5 ?_
  refine lv_iload_n hx hb dX7_keep_8 rfl (lv_at hl 1 rfl) ?_
  refine lv_aload_n hx hb dX7_keep_9 rfl (lv_at hl 0 rfl) ?_
  refine gg7_0 X hP kc_0 (sk_in hN kc_0 (by decide)) hi7 (List.mem_of_getElem? (i := 2) rfl) dX7_keep_10 ?_
  obtain ⟨q3, hcq3, h⟩ := hb_some h
  refine gdV_v (As := [.int a1, .ref (b 1)]) (rest := []) (BH := (fun (u : Nat → Nat → Int32) H => va_P (dC, dI) vwCl (hW N ca b u O J) H)) X hP hS (c_X5_put hN hA I O J a1 1 kc_1 q3 hcq3) (cwV 2 X.ts gX7_keep_X5_put rfl rfl rfl (by decide +kernel) ⟨Nat.le_of_ble_eq_true rfl, Nat.le_of_ble_eq_true rfl⟩) (gr5 X hP kc_99 (sk_in hN kc_99 (by decide))) rfl hl.1 rfl (Nat.le_of_ble_eq_true rfl) dX7_keep_13 ⟨Nat.le_of_ble_eq_true rfl, Nat.le_of_ble_eq_true rfl⟩ (fun I2 H locs hw hP hS => ?_)
  have hw := hw.symm
  subst hw
  refine vx_ret ?_
  refine W.widen (k := 1) (n := 6) (Nat.le_of_ble_eq_true rfl) (Nat.le_of_ble_eq_true rfl) ?_
  exact W.vret hx hb hr (fun t9 ht hW => ⟨⟨I2, rfl, (Option.some.inj h).symm, gEnd ht hP⟩, hS.F ht⟩) hS.2.2 dX7_keep_16 hlk
def f_X7_goBack (a1 : Int32) (I : Nat → Nat → Int32) (O : Nat → Nat → Option Nat) : Option (Sum Nat Unit × (Nat → Nat → Int32) × (Nat → Nat → Option Nat)) :=
  (f_X7_checkSlot a1).bind fun eq1 => hsum eq1 (fun k9 => some ((Sum.inl k9), I, O)) fun _ =>
  (f_X5_kept a1 I).bind fun r2 =>
  hopt r2 (
    some ((Sum.inl 2), I, O)) fun n4 => hk n4 3 <|
  (f_X4_save 1 I O).bind fun (I5, O6) =>
  (f_X3_takeFrom 1 n4 I5).bind fun I8 =>
  some ((Sum.inr ()), I8, O6)
set_option maxHeartbeats 8000000 in
set_option maxRecDepth 100000 in
theorem c_X7_goBack {l : Launch} (hlf : l.stackTraces = false) {dC : Nat → ClassId} {dI : Nat → Nat → Nat} {ca : Nat → ClassId} {b : Nat → Nat} {A : Nat → Prop} {N : Nat} (hN : 129 ≤ N) (hA : gAd A b N) (I : Nat → Nat → Int32) (O : Nat → Nat → Option Nat) (J : Nat → Nat → Int64) (a1 : Int32) (res : Sum Nat Unit × (Nat → Nat → Int32) × (Nat → Nat → Option Nat)) (h : f_X7_goBack a1 I O = some res) : vx_Met l yX7_goBack wsX7_goBack ({ frames := 7, cells := 2, slots := 12, locals := 110 } : Room) (va_Pc [.ref (b 0), .int a1] (gPre dC dI ca b A N I O J)) (va_Qv (fun (u : (Nat → Nat → Int32) × (Nat → Nat → Option Nat)) => res = (Sum.inr (), u)) (fun (u : (Nat → Nat → Int32) × (Nat → Nat → Option Nat)) t => va_P (dC, dI) vwCl (hW N ca b u.1 u.2 J) t.heap) A) (vx_X (fun (u : Nat × ((Nat → Nat → Int32) × (Nat → Nat → Option Nat))) => res = (Sum.inl u.1, u.2)) (fun E (u : Nat × ((Nat → Nat → Int32) × (Nat → Nat → Option Nat))) t => E = gEn u.1 ∧ (fun (u : (Nat → Nat → Int32) × (Nat → Nat → Option Nat)) H => va_P (dC, dI) vwCl (hW N ca b u.1 u.2 J) H) u.2 t.heap) A) 2 12 A := by
  refine vx_ofW (cc := cX7_goBack) (maxL := 3) (ret := none) (by decide) rfl ?_
  intro p e s m args below meth c s₁ B hml hout hv
  obtain ⟨rfl, hP, hK, hA2, hth⟩ := hv
  have hx := B.exec
  have hb := B.bytes
  have hr := B.returns
  have hlk := B.notSynchronized
  have X : gCx p s m ([.ref (b 0), .int a1] : List Value).toArray c RX7 cX7_goBack wsX7_goBack 3 dC dI ca b A N := ⟨hx, hb, hml, findClass_of_methodNamed B.named, atoms_spec (ws := wsX7_goBack) B.pre, hK, hA, hA2, hth⟩
  have hi7 : ∀ w ∈ wsX70, w ∈ wsX7_goBack := (fun w h => List.mem_cons_of_mem _ (List.mem_append_left _ (List.mem_append_left _ (List.mem_append_left _ (List.mem_append_left _ (List.mem_append_left _ (List.mem_append_left _ (List.mem_append_right _ h))))))))
  have hg2 : ∀ w ∈ gWg2, w ∈ wsX7_goBack := (fun w h => List.mem_cons_of_mem _ (List.mem_append_left _ (List.mem_append_right _ h)))
  have hS : va_S A s.heap s.heap [] := va_S.rf
  have hl := lv_entry ([.ref (b 0), .int a1] : List Value) (n := 3) (Nat.le_of_ble_eq_true rfl)
  rw [lg_entry_eq]
  generalize (lg_sl ([.ref (b 0), .int a1] : List Value) ++ List.replicate (3 - (lg_sl ([.ref (b 0), .int a1] : List Value)).length) Slot.unset).toArray = ls at hl ⊢
  have hl : lv_has ls 3 [(0, .ref (b 0)), (1, .int a1)] := hl
  unfold f_X7_goBack at h
  refine lv_iload_n hx hb dX7_goBack_0 rfl (lv_at hl 1 rfl) ?_
  obtain ⟨q1, hcq1, h⟩ := hb_some h
  refine gxS_v (As := [.int a1]) (rest := []) (BH := (fun (u : Unit) H => va_P (dC, dI) vwCl (hW N ca b I O J) H)) (BX := (fun (u : Unit) H => va_P (dC, dI) vwCl (hW N ca b I O J) H)) X hP hS (c_X7_checkSlot hlf hN hA I O J a1 q1 hcq1) (va_cwS 1 X.ts gX7_goBack_X7_checkSlot rfl rfl rfl (by decide +kernel) ⟨Nat.le_of_ble_eq_true rfl, Nat.le_of_ble_eq_true rfl⟩) rfl hl.1 rfl (Nat.le_of_ble_eq_true rfl) dX7_goBack_1 ⟨Nat.le_of_ble_eq_true rfl, Nat.le_of_ble_eq_true rfl⟩ (fun k9 u9 H locs ce9 q9 hw hP hS hce hcv hcl => ?_) (fun u9 H locs hw hP hS => ?_)
  · subst hw
    exact gOut (S := (Nat → Nat → Int32) × (Nat → Nat → Option Nat)) (BH := (fun (u : (Nat → Nat → Int32) × (Nat → Nat → Option Nat)) H => va_P (dC, dI) vwCl (hW N ca b u.1 u.2 J) H)) hlk hout hS hce hcv hcl (I, O) (Option.some.inj (show some ((Sum.inl k9), I, O) = some res from h)).symm hP (Nat.le_of_ble_eq_true rfl) (Nat.le_of_ble_eq_true rfl)
  subst hw
  have h := hsum_r h
  refine lv_aload_n hx hb dX7_goBack_4 rfl (lv_at hl 0 rfl) ?_
  refine gg7_3 X hP kc_0 (sk_in hN kc_0 (by decide)) hi7 (List.mem_of_getElem? (i := 3) rfl) dX7_goBack_5 ?_
  refine lv_iload_n hx hb dX7_goBack_8 rfl (lv_at hl 1 rfl) ?_
  obtain ⟨q3, hcq3, h⟩ := hb_some h
  refine gdV_q (As := [.int a1]) (rest := []) (BH := (fun (u : Unit) H => va_P (dC, dI) vwCl (hW N ca b I O J) H)) X hP hS (c_X5_kept hN hA I O J a1 q3 hcq3) (cwV 1 X.ts gX7_goBack_X5_kept rfl rfl rfl (by decide +kernel) ⟨Nat.le_of_ble_eq_true rfl, Nat.le_of_ble_eq_true rfl⟩) (gr5 X hP kc_99 (sk_in hN kc_99 (by decide))) rfl hl.1 rfl (Nat.le_of_ble_eq_true rfl) dX7_goBack_9 ⟨Nat.le_of_ble_eq_true rfl, Nat.le_of_ble_eq_true rfl⟩ (fun r2 u9 H locs hw hP hS => ?_)
  obtain ⟨r2, rfl, hw⟩ := hw
  have hw := hw.symm
  subst hw
  refine gv_astore_n (r := Option.map b r2) (lv' := [(2, va_rf (Option.map b r2)), (0, .ref (b 0)), (1, .int a1)]) hx hb dX7_goBack_12 rfl hl (by decide) rfl (fun ls hl => ?_)
  refine gv_aload_n (r := Option.map b r2) hx hb dX7_goBack_13 rfl (lv_at hl 0 rfl) ?_
  cases r2 with
  | none =>
    have h := hopt_n h
    refine lv_ifnonnullN hx hb dX7_goBack_14 ?_
    exact gt2 (S := (Nat → Nat → Int32) × (Nat → Nat → Option Nat)) (BH := (fun (u : (Nat → Nat → Int32) × (Nat → Nat → Option Nat)) H => va_P (dC, dI) vwCl (hW N ca b u.1 u.2 J) H)) X hlf hlk hout hS hg2 (List.mem_of_getElem? (i := 1) rfl) (List.mem_of_getElem? (i := 2) rfl) (List.mem_of_getElem? (i := 18) rfl) hl.1 dX7_goBack_17 dX7_goBack_20 dX7_goBack_21 dX7_goBack_23 dX7_goBack_26 (Nat.le_of_ble_eq_true rfl) (Nat.le_of_ble_eq_true rfl) (Nat.le_of_ble_eq_true rfl) (Nat.le_of_ble_eq_true rfl) (I, O) (Option.some.inj h).symm (fun H1 hk1 => hP.kept (fun k q hq => hk1 q.1 (hP k q hq).lt)) (Nat.le_of_ble_eq_true rfl) (Nat.le_of_ble_eq_true rfl)
  | some n4 =>
    obtain ⟨hk_n4, h⟩ := hk_some (hopt_s h)
    refine lv_ifnonnull (tgt := 27) hx hb dX7_goBack_14 (by decide) ?_
    refine lv_aload_n hx hb dX7_goBack_27 rfl (lv_at hl 1 rfl) ?_
    refine gg7_2 X hP kc_0 (sk_in hN kc_0 (by decide)) hi7 (List.mem_of_getElem? (i := 4) rfl) dX7_goBack_28 ?_
    refine lv_aload_n hx hb dX7_goBack_31 rfl (lv_at hl 1 rfl) ?_
    refine gg7_0 X hP kc_0 (sk_in hN kc_0 (by decide)) hi7 (List.mem_of_getElem? (i := 5) rfl) dX7_goBack_32 ?_
    obtain ⟨q7, hcq7, h⟩ := hb_some h
    refine gdV_v (As := [.ref (b 1)]) (rest := []) (BH := (fun (u : (Nat → Nat → Int32) × (Nat → Nat → Option Nat)) H => va_P (dC, dI) vwCl (hW N ca b u.1 u.2 J) H)) X hP hS (c_X4_save hN hA I O J 1 kc_1 q7 hcq7) (cwV 1 X.ts gX7_goBack_X4_save rfl rfl rfl (by decide +kernel) ⟨Nat.le_of_ble_eq_true rfl, Nat.le_of_ble_eq_true rfl⟩) (gr4 X hP kc_25 (sk_in hN kc_25 (by decide))) rfl hl.1 rfl (Nat.le_of_ble_eq_true rfl) dX7_goBack_35 ⟨Nat.le_of_ble_eq_true rfl, Nat.le_of_ble_eq_true rfl⟩ (fun u9 H locs hw hP hS => ?_)
    obtain ⟨I5, O6⟩ := u9
    subst hw
    refine lv_aload_n hx hb dX7_goBack_38 rfl (lv_at hl 1 rfl) ?_
    refine gg7_0 X hP kc_0 (sk_in hN kc_0 (by decide)) hi7 (List.mem_of_getElem? (i := 5) rfl) dX7_goBack_39 ?_
    refine lv_aload_n hx hb dX7_goBack_42 rfl (lv_at hl 0 rfl) ?_
    obtain ⟨q9, hcq9, h⟩ := hb_some h
    refine gdV_v (As := [.ref (b n4)]) (rest := []) (BH := (fun (u : Nat → Nat → Int32) H => va_P (dC, dI) vwCl (hW N ca b u O6 J) H)) X hP hS (c_X3_takeFrom hN hA I5 O6 J 1 n4 kc_1 hk_n4 q9 hcq9) (cwV 1 X.ts gX7_goBack_X3_takeFrom rfl rfl rfl (by decide +kernel) ⟨Nat.le_of_ble_eq_true rfl, Nat.le_of_ble_eq_true rfl⟩) (gr3 X hP kc_1 (sk_in hN kc_1 (by decide))) rfl hl.1 rfl (Nat.le_of_ble_eq_true rfl) dX7_goBack_43 ⟨Nat.le_of_ble_eq_true rfl, Nat.le_of_ble_eq_true rfl⟩ (fun I8 H locs hw hP hS => ?_)
    have hw := hw.symm
    subst hw
    refine vx_ret ?_
    refine W.widen (k := 2) (n := 12) (Nat.le_of_ble_eq_true rfl) (Nat.le_of_ble_eq_true rfl) ?_
    exact W.vret hx hb hr (fun t9 ht hW => ⟨⟨(I8, O6), rfl, (Option.some.inj h).symm, gEnd ht hP⟩, hS.F ht⟩) hS.2.2 dX7_goBack_46 hlk
def f_X7_undo (I : Nat → Nat → Int32) (O : Nat → Nat → Option Nat) : Option (Sum Nat Unit × (Nat → Nat → Int32)) :=
  (f_X4_dropLatest I O).bind fun (r2, I1) =>
  hopt r2 (
    some ((Sum.inl 2), I1)) fun n4 => hk n4 3 <|
  (f_X3_takeFrom 1 n4 I1).bind fun I5 =>
  some ((Sum.inr ()), I5)
set_option maxHeartbeats 8000000 in
set_option maxRecDepth 100000 in
theorem c_X7_undo {l : Launch} (hlf : l.stackTraces = false) {dC : Nat → ClassId} {dI : Nat → Nat → Nat} {ca : Nat → ClassId} {b : Nat → Nat} {A : Nat → Prop} {N : Nat} (hN : 129 ≤ N) (hA : gAd A b N) (I : Nat → Nat → Int32) (O : Nat → Nat → Option Nat) (J : Nat → Nat → Int64) (res : Sum Nat Unit × (Nat → Nat → Int32)) (h : f_X7_undo I O = some res) : vx_Met l yX7_undo wsX7_undo ({ frames := 6, cells := 1, slots := 6, locals := 90 } : Room) (va_Pc [.ref (b 0)] (gPre dC dI ca b A N I O J)) (va_Qv (fun (u : Nat → Nat → Int32) => res = (Sum.inr (), u)) (fun (u : Nat → Nat → Int32) t => va_P (dC, dI) vwCl (hW N ca b u O J) t.heap) A) (vx_X (fun (u : Nat × (Nat → Nat → Int32)) => res = (Sum.inl u.1, u.2)) (fun E (u : Nat × (Nat → Nat → Int32)) t => E = gEn u.1 ∧ (fun (u : Nat → Nat → Int32) H => va_P (dC, dI) vwCl (hW N ca b u O J) H) u.2 t.heap) A) 1 6 A := by
  refine vx_ofW (cc := cX7_undo) (maxL := 2) (ret := none) (by decide) rfl ?_
  intro p e s m args below meth c s₁ B hml hout hv
  obtain ⟨rfl, hP, hK, hA2, hth⟩ := hv
  have hx := B.exec
  have hb := B.bytes
  have hr := B.returns
  have hlk := B.notSynchronized
  have X : gCx p s m ([.ref (b 0)] : List Value).toArray c RX7 cX7_undo wsX7_undo 2 dC dI ca b A N := ⟨hx, hb, hml, findClass_of_methodNamed B.named, atoms_spec (ws := wsX7_undo) B.pre, hK, hA, hA2, hth⟩
  have hi7 : ∀ w ∈ wsX70, w ∈ wsX7_undo := (fun w h => List.mem_cons_of_mem _ (List.mem_append_left _ (List.mem_append_left _ (List.mem_append_left _ (List.mem_append_left _ (List.mem_append_right _ h))))))
  have hg2 : ∀ w ∈ gWg2, w ∈ wsX7_undo := (fun w h => List.mem_cons_of_mem _ (List.mem_append_right _ h))
  have hS : va_S A s.heap s.heap [] := va_S.rf
  have hl := lv_entry ([.ref (b 0)] : List Value) (n := 2) (Nat.le_of_ble_eq_true rfl)
  rw [lg_entry_eq]
  generalize (lg_sl ([.ref (b 0)] : List Value) ++ List.replicate (2 - (lg_sl ([.ref (b 0)] : List Value)).length) Slot.unset).toArray = ls at hl ⊢
  have hl : lv_has ls 2 [(0, .ref (b 0))] := hl
  unfold f_X7_undo at h
  refine lv_aload_n hx hb dX7_undo_0 rfl (lv_at hl 0 rfl) ?_
  refine gg7_2 X hP kc_0 (sk_in hN kc_0 (by decide)) hi7 (List.mem_of_getElem? (i := 3) rfl) dX7_undo_1 ?_
  obtain ⟨q3, hcq3, h⟩ := hb_some h
  refine gdV_q (As := []) (rest := []) (BH := (fun (u : Nat → Nat → Int32) H => va_P (dC, dI) vwCl (hW N ca b u O J) H)) X hP hS (c_X4_dropLatest hN hA I O J q3 hcq3) (cwV 0 X.ts gX7_undo_X4_dropLatest rfl rfl rfl (by decide +kernel) ⟨Nat.le_of_ble_eq_true rfl, Nat.le_of_ble_eq_true rfl⟩) (gr4 X hP kc_25 (sk_in hN kc_25 (by decide))) rfl hl.1 rfl (Nat.le_of_ble_eq_true rfl) dX7_undo_4 ⟨Nat.le_of_ble_eq_true rfl, Nat.le_of_ble_eq_true rfl⟩ (fun r2 I1 H locs hw hP hS => ?_)
  obtain ⟨r2, rfl, hw⟩ := hw
  subst hw
  refine gv_astore_n (r := Option.map b r2) (lv' := [(1, va_rf (Option.map b r2)), (0, .ref (b 0))]) hx hb dX7_undo_7 rfl hl (by decide) rfl (fun ls hl => ?_)
  refine gv_aload_n (r := Option.map b r2) hx hb dX7_undo_8 rfl (lv_at hl 0 rfl) ?_
  cases r2 with
  | none =>
    have h := hopt_n h
    refine lv_ifnonnullN hx hb dX7_undo_9 ?_
    exact gt2 (S := Nat → Nat → Int32) (BH := (fun (u : Nat → Nat → Int32) H => va_P (dC, dI) vwCl (hW N ca b u O J) H)) X hlf hlk hout hS hg2 (List.mem_of_getElem? (i := 1) rfl) (List.mem_of_getElem? (i := 2) rfl) (List.mem_of_getElem? (i := 19) rfl) hl.1 dX7_undo_12 dX7_undo_15 dX7_undo_16 dX7_undo_18 dX7_undo_21 (Nat.le_of_ble_eq_true rfl) (Nat.le_of_ble_eq_true rfl) (Nat.le_of_ble_eq_true rfl) (Nat.le_of_ble_eq_true rfl) I1 (Option.some.inj h).symm (fun H1 hk1 => hP.kept (fun k q hq => hk1 q.1 (hP k q hq).lt)) (Nat.le_of_ble_eq_true rfl) (Nat.le_of_ble_eq_true rfl)
  | some n4 =>
    obtain ⟨hk_n4, h⟩ := hk_some (hopt_s h)
    refine lv_ifnonnull (tgt := 22) hx hb dX7_undo_9 (by decide) ?_
    refine lv_aload_n hx hb dX7_undo_22 rfl (lv_at hl 1 rfl) ?_
    refine gg7_0 X hP kc_0 (sk_in hN kc_0 (by decide)) hi7 (List.mem_of_getElem? (i := 4) rfl) dX7_undo_23 ?_
    refine lv_aload_n hx hb dX7_undo_26 rfl (lv_at hl 0 rfl) ?_
    obtain ⟨q6, hcq6, h⟩ := hb_some h
    refine gdV_v (As := [.ref (b n4)]) (rest := []) (BH := (fun (u : Nat → Nat → Int32) H => va_P (dC, dI) vwCl (hW N ca b u O J) H)) X hP hS (c_X3_takeFrom hN hA I1 O J 1 n4 kc_1 hk_n4 q6 hcq6) (cwV 1 X.ts gX7_undo_X3_takeFrom rfl rfl rfl (by decide +kernel) ⟨Nat.le_of_ble_eq_true rfl, Nat.le_of_ble_eq_true rfl⟩) (gr3 X hP kc_1 (sk_in hN kc_1 (by decide))) rfl hl.1 rfl (Nat.le_of_ble_eq_true rfl) dX7_undo_27 ⟨Nat.le_of_ble_eq_true rfl, Nat.le_of_ble_eq_true rfl⟩ (fun I5 H locs hw hP hS => ?_)
    have hw := hw.symm
    subst hw
    refine vx_ret ?_
    refine W.widen (k := 1) (n := 6) (Nat.le_of_ble_eq_true rfl) (Nat.le_of_ble_eq_true rfl) ?_
    exact W.vret hx hb hr (fun t9 ht hW => ⟨⟨I5, rfl, (Option.some.inj h).symm, gEnd ht hP⟩, hS.F ht⟩) hS.2.2 dX7_undo_30 hlk
def f_X7_savedStates (I : Nat → Nat → Int32) : Option (Int32) :=
  some (I 25 1)
set_option maxHeartbeats 8000000 in
set_option maxRecDepth 100000 in
theorem c_X7_savedStates {l : Launch} {dC : Nat → ClassId} {dI : Nat → Nat → Nat} {ca : Nat → ClassId} {b : Nat → Nat} {A : Nat → Prop} {N : Nat} (hN : 129 ≤ N) (hA : gAd A b N) (I : Nat → Nat → Int32) (O : Nat → Nat → Option Nat) (J : Nat → Nat → Int64) (res : Int32) (h : f_X7_savedStates I = some res) : Met l yX7_savedStates wsX7_savedStates ({ frames := 0, cells := 0, slots := 0, locals := 0 } : Room) (va_Pc [.ref (b 0)] (gPre dC dI ca b A N I O J)) (va_Qi (fun (r : Int32) (u : Unit) => res = r) (fun (u : Unit) t => va_P (dC, dI) vwCl (hW N ca b I O J) t.heap) A) 0 0 A := by
  refine Met.ofW (cc := cX7_savedStates) (maxL := 1) (ret := (some .int)) (by decide) rfl ?_
  intro p e s m args below meth c s₁ B hml hv
  obtain ⟨rfl, hP, hK, hA2, hth⟩ := hv
  have hx := B.exec
  have hb := B.bytes
  have hr := B.returns
  have hlk := B.notSynchronized
  have X : gCx p s m ([.ref (b 0)] : List Value).toArray c RX7 cX7_savedStates wsX7_savedStates 1 dC dI ca b A N := ⟨hx, hb, hml, findClass_of_methodNamed B.named, atoms_spec (ws := wsX7_savedStates) B.pre, hK, hA, hA2, hth⟩
  have hi4 : ∀ w ∈ wsX40, w ∈ wsX7_savedStates := (fun w h => List.mem_cons_of_mem _ (List.mem_append_right _ h))
  have hi7 : ∀ w ∈ wsX70, w ∈ wsX7_savedStates := (fun w h => List.mem_cons_of_mem _ (List.mem_append_left _ (List.mem_append_right _ h)))
  have hS : va_S A s.heap s.heap [] := va_S.rf
  have hl := lv_entry ([.ref (b 0)] : List Value) (n := 1) (Nat.le_of_ble_eq_true rfl)
  rw [lg_entry_eq]
  generalize (lg_sl ([.ref (b 0)] : List Value) ++ List.replicate (1 - (lg_sl ([.ref (b 0)] : List Value)).length) Slot.unset).toArray = ls at hl ⊢
  have hl : lv_has ls 1 [(0, .ref (b 0))] := hl
  unfold f_X7_savedStates at h
  refine lv_aload_n hx hb dX7_savedStates_0 rfl (lv_at hl 0 rfl) ?_
  refine gg7_2 X hP kc_0 (sk_in hN kc_0 (by decide)) hi7 (List.mem_of_getElem? (i := 1) rfl) dX7_savedStates_1 ?_
  refine gg4_1 X hP kc_25 (sk_in hN kc_25 (by decide)) hi4 (List.mem_of_getElem? (i := 2) rfl) dX7_savedStates_4 ?_
  exact W.iret hx hb hr (fun t9 ht hW => ⟨⟨(I 25 1), (), rfl, (Option.some.inj h).symm, gEnd ht hP⟩, hS.F ht⟩) hS.2.2 dX7_savedStates_7 hlk
def f_X7_sparrows (I : Nat → Nat → Int32) : Option (Int32) :=
  some (I 1 3)
set_option maxHeartbeats 8000000 in
set_option maxRecDepth 100000 in
theorem c_X7_sparrows {l : Launch} {dC : Nat → ClassId} {dI : Nat → Nat → Nat} {ca : Nat → ClassId} {b : Nat → Nat} {A : Nat → Prop} {N : Nat} (hN : 129 ≤ N) (hA : gAd A b N) (I : Nat → Nat → Int32) (O : Nat → Nat → Option Nat) (J : Nat → Nat → Int64) (res : Int32) (h : f_X7_sparrows I = some res) : Met l yX7_sparrows wsX7_sparrows ({ frames := 0, cells := 0, slots := 0, locals := 0 } : Room) (va_Pc [.ref (b 0)] (gPre dC dI ca b A N I O J)) (va_Qi (fun (r : Int32) (u : Unit) => res = r) (fun (u : Unit) t => va_P (dC, dI) vwCl (hW N ca b I O J) t.heap) A) 0 0 A := by
  refine Met.ofW (cc := cX7_sparrows) (maxL := 1) (ret := (some .int)) (by decide) rfl ?_
  intro p e s m args below meth c s₁ B hml hv
  obtain ⟨rfl, hP, hK, hA2, hth⟩ := hv
  have hx := B.exec
  have hb := B.bytes
  have hr := B.returns
  have hlk := B.notSynchronized
  have X : gCx p s m ([.ref (b 0)] : List Value).toArray c RX7 cX7_sparrows wsX7_sparrows 1 dC dI ca b A N := ⟨hx, hb, hml, findClass_of_methodNamed B.named, atoms_spec (ws := wsX7_sparrows) B.pre, hK, hA, hA2, hth⟩
  have hi3 : ∀ w ∈ wsX30, w ∈ wsX7_sparrows := (fun w h => List.mem_cons_of_mem _ (List.mem_append_right _ h))
  have hi7 : ∀ w ∈ wsX70, w ∈ wsX7_sparrows := (fun w h => List.mem_cons_of_mem _ (List.mem_append_left _ (List.mem_append_right _ h)))
  have hS : va_S A s.heap s.heap [] := va_S.rf
  have hl := lv_entry ([.ref (b 0)] : List Value) (n := 1) (Nat.le_of_ble_eq_true rfl)
  rw [lg_entry_eq]
  generalize (lg_sl ([.ref (b 0)] : List Value) ++ List.replicate (1 - (lg_sl ([.ref (b 0)] : List Value)).length) Slot.unset).toArray = ls at hl ⊢
  have hl : lv_has ls 1 [(0, .ref (b 0))] := hl
  unfold f_X7_sparrows at h
  refine lv_aload_n hx hb dX7_sparrows_0 rfl (lv_at hl 0 rfl) ?_
  refine gg7_0 X hP kc_0 (sk_in hN kc_0 (by decide)) hi7 (List.mem_of_getElem? (i := 1) rfl) dX7_sparrows_1 ?_
  refine gg3_3 X hP kc_1 (sk_in hN kc_1 (by decide)) hi3 (List.mem_of_getElem? (i := 2) rfl) dX7_sparrows_4 ?_
  exact W.iret hx hb hr (fun t9 ht hW => ⟨⟨(I 1 3), (), rfl, (Option.some.inj h).symm, gEnd ht hP⟩, hS.F ht⟩) hS.2.2 dX7_sparrows_7 hlk
def f_X7_flown (a1 : Int32) (I : Nat → Nat → Int32) : Option (Sum Nat Int32) :=
  (f_X7_known a1 I).bind fun eq2 => hsum eq2 (fun k9 => some (Sum.inl k9)) fun r1 =>
  (r1).bind fun n3 => hk n3 6 <|
  some (Sum.inr (I n3 4))
set_option maxHeartbeats 8000000 in
set_option maxRecDepth 100000 in
theorem c_X7_flown {l : Launch} (hlf : l.stackTraces = false) {dC : Nat → ClassId} {dI : Nat → Nat → Nat} {ca : Nat → ClassId} {b : Nat → Nat} {A : Nat → Prop} {N : Nat} (hN : 129 ≤ N) (hA : gAd A b N) (I : Nat → Nat → Int32) (O : Nat → Nat → Option Nat) (J : Nat → Nat → Int64) (a1 : Int32) (res : Sum Nat Int32) (h : f_X7_flown a1 I = some res) : vx_Met l yX7_flown wsX7_flown ({ frames := 7, cells := 1, slots := 6, locals := 112 } : Room) (va_Pc [.ref (b 0), .int a1] (gPre dC dI ca b A N I O J)) (va_Qi (fun (r : Int32) (u : Unit) => res = (Sum.inr r)) (fun (u : Unit) t => va_P (dC, dI) vwCl (hW N ca b I O J) t.heap) A) (vx_X (fun (u : Nat × Unit) => res = Sum.inl u.1) (fun E (u : Nat × Unit) t => E = gEn u.1 ∧ (fun (u : Unit) H => va_P (dC, dI) vwCl (hW N ca b I O J) H) u.2 t.heap) A) 1 6 A := by
  refine vx_ofW (cc := cX7_flown) (maxL := 2) (ret := (some .int)) (by decide) rfl ?_
  intro p e s m args below meth c s₁ B hml hout hv
  obtain ⟨rfl, hP, hK, hA2, hth⟩ := hv
  have hx := B.exec
  have hb := B.bytes
  have hr := B.returns
  have hlk := B.notSynchronized
  have X : gCx p s m ([.ref (b 0), .int a1] : List Value).toArray c RX7 cX7_flown wsX7_flown 2 dC dI ca b A N := ⟨hx, hb, hml, findClass_of_methodNamed B.named, atoms_spec (ws := wsX7_flown) B.pre, hK, hA, hA2, hth⟩
  have hi6 : ∀ w ∈ wsX60, w ∈ wsX7_flown := (fun w h => List.mem_cons_of_mem _ (List.mem_append_left _ (List.mem_append_left _ (List.mem_append_left _ (List.mem_append_right _ h)))))
  have hS : va_S A s.heap s.heap [] := va_S.rf
  have hl := lv_entry ([.ref (b 0), .int a1] : List Value) (n := 2) (Nat.le_of_ble_eq_true rfl)
  rw [lg_entry_eq]
  generalize (lg_sl ([.ref (b 0), .int a1] : List Value) ++ List.replicate (2 - (lg_sl ([.ref (b 0), .int a1] : List Value)).length) Slot.unset).toArray = ls at hl ⊢
  have hl : lv_has ls 2 [(0, .ref (b 0)), (1, .int a1)] := hl
  unfold f_X7_flown at h
  refine lv_aload_n hx hb dX7_flown_0 rfl (lv_at hl 0 rfl) ?_
  refine lv_iload_n hx hb dX7_flown_1 rfl (lv_at hl 1 rfl) ?_
  obtain ⟨q2, hcq2, h⟩ := hb_some h
  refine gxV_q (As := [.int a1]) (rest := []) (BH := (fun (u : Unit) H => va_P (dC, dI) vwCl (hW N ca b I O J) H)) (BX := (fun (u : Unit) H => va_P (dC, dI) vwCl (hW N ca b I O J) H)) X hP hS (c_X7_known hlf hN hA I O J a1 q2 hcq2) (cwV 1 X.ts gX7_flown_X7_known rfl rfl rfl (by decide +kernel) ⟨Nat.le_of_ble_eq_true rfl, Nat.le_of_ble_eq_true rfl⟩) (gr7 X hP kc_0 (sk_in hN kc_0 (by decide))) rfl hl.1 rfl (Nat.le_of_ble_eq_true rfl) dX7_flown_2 ⟨Nat.le_of_ble_eq_true rfl, Nat.le_of_ble_eq_true rfl⟩ (fun k9 u9 H locs ce9 q9 hw hP hS hce hcv hcl => ?_) (fun r1 u9 H locs hw hP hS => ?_)
  · subst hw
    exact gOut (S := Unit) (BH := (fun (u : Unit) H => va_P (dC, dI) vwCl (hW N ca b I O J) H)) hlk hout hS hce hcv hcl () (Option.some.inj (show some (Sum.inl k9) = some res from h)).symm hP (Nat.le_of_ble_eq_true rfl) (Nat.le_of_ble_eq_true rfl)
  obtain ⟨r1, rfl, hw⟩ := hw
  subst hw
  have h := hsum_r h
  obtain ⟨n3, rfl, h⟩ := hb_some h
  obtain ⟨hk_n3, h⟩ := hk_some h
  refine gg6_4 X hP hk_n3 (sk_in hN hk_n3 (by decide)) hi6 (List.mem_of_getElem? (i := 1) rfl) dX7_flown_5 ?_
  refine vx_ret ?_
  refine W.widen (k := 1) (n := 6) (Nat.le_of_ble_eq_true rfl) (Nat.le_of_ble_eq_true rfl) ?_
  exact W.iret hx hb hr (fun t9 ht hW => ⟨⟨(I n3 4), (), rfl, (Option.some.inj h).symm, gEnd ht hP⟩, hS.F ht⟩) hS.2.2 dX7_flown_8 hlk
def f_X7_lapsOf (a1 : Int32) (I : Nat → Nat → Int32) : Option (Sum Nat Int32) :=
  (f_X7_known a1 I).bind fun eq2 => hsum eq2 (fun k9 => some (Sum.inl k9)) fun r1 =>
  (r1).bind fun n3 => hk n3 6 <|
  (f_X6_lapsOver n3 I).bind fun r4 =>
  some (Sum.inr r4)
set_option maxHeartbeats 8000000 in
set_option maxRecDepth 100000 in
theorem c_X7_lapsOf {l : Launch} (hlf : l.stackTraces = false) {dC : Nat → ClassId} {dI : Nat → Nat → Nat} {ca : Nat → ClassId} {b : Nat → Nat} {A : Nat → Prop} {N : Nat} (hN : 129 ≤ N) (hA : gAd A b N) (I : Nat → Nat → Int32) (O : Nat → Nat → Option Nat) (J : Nat → Nat → Int64) (a1 : Int32) (res : Sum Nat Int32) (h : f_X7_lapsOf a1 I = some res) : vx_Met l yX7_lapsOf wsX7_lapsOf ({ frames := 7, cells := 1, slots := 6, locals := 112 } : Room) (va_Pc [.ref (b 0), .int a1] (gPre dC dI ca b A N I O J)) (va_Qi (fun (r : Int32) (u : Unit) => res = (Sum.inr r)) (fun (u : Unit) t => va_P (dC, dI) vwCl (hW N ca b I O J) t.heap) A) (vx_X (fun (u : Nat × Unit) => res = Sum.inl u.1) (fun E (u : Nat × Unit) t => E = gEn u.1 ∧ (fun (u : Unit) H => va_P (dC, dI) vwCl (hW N ca b I O J) H) u.2 t.heap) A) 1 6 A := by
  refine vx_ofW (cc := cX7_lapsOf) (maxL := 2) (ret := (some .int)) (by decide) rfl ?_
  intro p e s m args below meth c s₁ B hml hout hv
  obtain ⟨rfl, hP, hK, hA2, hth⟩ := hv
  have hx := B.exec
  have hb := B.bytes
  have hr := B.returns
  have hlk := B.notSynchronized
  have X : gCx p s m ([.ref (b 0), .int a1] : List Value).toArray c RX7 cX7_lapsOf wsX7_lapsOf 2 dC dI ca b A N := ⟨hx, hb, hml, findClass_of_methodNamed B.named, atoms_spec (ws := wsX7_lapsOf) B.pre, hK, hA, hA2, hth⟩
  have hS : va_S A s.heap s.heap [] := va_S.rf
  have hl := lv_entry ([.ref (b 0), .int a1] : List Value) (n := 2) (Nat.le_of_ble_eq_true rfl)
  rw [lg_entry_eq]
  generalize (lg_sl ([.ref (b 0), .int a1] : List Value) ++ List.replicate (2 - (lg_sl ([.ref (b 0), .int a1] : List Value)).length) Slot.unset).toArray = ls at hl ⊢
  have hl : lv_has ls 2 [(0, .ref (b 0)), (1, .int a1)] := hl
  unfold f_X7_lapsOf at h
  refine lv_aload_n hx hb dX7_lapsOf_0 rfl (lv_at hl 0 rfl) ?_
  refine lv_iload_n hx hb dX7_lapsOf_1 rfl (lv_at hl 1 rfl) ?_
  obtain ⟨q2, hcq2, h⟩ := hb_some h
  refine gxV_q (As := [.int a1]) (rest := []) (BH := (fun (u : Unit) H => va_P (dC, dI) vwCl (hW N ca b I O J) H)) (BX := (fun (u : Unit) H => va_P (dC, dI) vwCl (hW N ca b I O J) H)) X hP hS (c_X7_known hlf hN hA I O J a1 q2 hcq2) (cwV 1 X.ts gX7_lapsOf_X7_known rfl rfl rfl (by decide +kernel) ⟨Nat.le_of_ble_eq_true rfl, Nat.le_of_ble_eq_true rfl⟩) (gr7 X hP kc_0 (sk_in hN kc_0 (by decide))) rfl hl.1 rfl (Nat.le_of_ble_eq_true rfl) dX7_lapsOf_2 ⟨Nat.le_of_ble_eq_true rfl, Nat.le_of_ble_eq_true rfl⟩ (fun k9 u9 H locs ce9 q9 hw hP hS hce hcv hcl => ?_) (fun r1 u9 H locs hw hP hS => ?_)
  · subst hw
    exact gOut (S := Unit) (BH := (fun (u : Unit) H => va_P (dC, dI) vwCl (hW N ca b I O J) H)) hlk hout hS hce hcv hcl () (Option.some.inj (show some (Sum.inl k9) = some res from h)).symm hP (Nat.le_of_ble_eq_true rfl) (Nat.le_of_ble_eq_true rfl)
  obtain ⟨r1, rfl, hw⟩ := hw
  subst hw
  have h := hsum_r h
  obtain ⟨n3, rfl, h⟩ := hb_some h
  obtain ⟨hk_n3, h⟩ := hk_some h
  obtain ⟨q5, hcq5, h⟩ := hb_some h
  refine gdV_i (As := []) (rest := []) (BH := (fun (u : Unit) H => va_P (dC, dI) vwCl (hW N ca b I O J) H)) X hP hS (c_X6_lapsOver hN hA I O J n3 hk_n3 q5 hcq5) (cwV 0 X.ts gX7_lapsOf_X6_lapsOver rfl rfl rfl (by decide +kernel) ⟨Nat.le_of_ble_eq_true rfl, Nat.le_of_ble_eq_true rfl⟩) (gr6 X hP hk_n3 (sk_in hN hk_n3 (by decide))) rfl hl.1 rfl (Nat.le_of_ble_eq_true rfl) dX7_lapsOf_5 ⟨Nat.le_of_ble_eq_true rfl, Nat.le_of_ble_eq_true rfl⟩ (fun r4 u9 H locs hw hP hS => ?_)
  have hw := hw.symm
  subst hw
  refine vx_ret ?_
  refine W.widen (k := 1) (n := 6) (Nat.le_of_ble_eq_true rfl) (Nat.le_of_ble_eq_true rfl) ?_
  exact W.iret hx hb hr (fun t9 ht hW => ⟨⟨r4, (), rfl, (Option.some.inj h).symm, gEnd ht hP⟩, hS.F ht⟩) hS.2.2 dX7_lapsOf_8 hlk
def f_X7_speedOf (a1 : Int32) (I : Nat → Nat → Int32) : Option (Sum Nat Int32) :=
  (f_X7_known a1 I).bind fun eq2 => hsum eq2 (fun k9 => some (Sum.inl k9)) fun r1 =>
  (r1).bind fun n3 => hk n3 6 <|
  some (Sum.inr (I n3 5))
set_option maxHeartbeats 8000000 in
set_option maxRecDepth 100000 in
theorem c_X7_speedOf {l : Launch} (hlf : l.stackTraces = false) {dC : Nat → ClassId} {dI : Nat → Nat → Nat} {ca : Nat → ClassId} {b : Nat → Nat} {A : Nat → Prop} {N : Nat} (hN : 129 ≤ N) (hA : gAd A b N) (I : Nat → Nat → Int32) (O : Nat → Nat → Option Nat) (J : Nat → Nat → Int64) (a1 : Int32) (res : Sum Nat Int32) (h : f_X7_speedOf a1 I = some res) : vx_Met l yX7_speedOf wsX7_speedOf ({ frames := 7, cells := 1, slots := 6, locals := 112 } : Room) (va_Pc [.ref (b 0), .int a1] (gPre dC dI ca b A N I O J)) (va_Qi (fun (r : Int32) (u : Unit) => res = (Sum.inr r)) (fun (u : Unit) t => va_P (dC, dI) vwCl (hW N ca b I O J) t.heap) A) (vx_X (fun (u : Nat × Unit) => res = Sum.inl u.1) (fun E (u : Nat × Unit) t => E = gEn u.1 ∧ (fun (u : Unit) H => va_P (dC, dI) vwCl (hW N ca b I O J) H) u.2 t.heap) A) 1 6 A := by
  refine vx_ofW (cc := cX7_speedOf) (maxL := 2) (ret := (some .int)) (by decide) rfl ?_
  intro p e s m args below meth c s₁ B hml hout hv
  obtain ⟨rfl, hP, hK, hA2, hth⟩ := hv
  have hx := B.exec
  have hb := B.bytes
  have hr := B.returns
  have hlk := B.notSynchronized
  have X : gCx p s m ([.ref (b 0), .int a1] : List Value).toArray c RX7 cX7_speedOf wsX7_speedOf 2 dC dI ca b A N := ⟨hx, hb, hml, findClass_of_methodNamed B.named, atoms_spec (ws := wsX7_speedOf) B.pre, hK, hA, hA2, hth⟩
  have hi6 : ∀ w ∈ wsX60, w ∈ wsX7_speedOf := (fun w h => List.mem_cons_of_mem _ (List.mem_append_left _ (List.mem_append_left _ (List.mem_append_left _ (List.mem_append_right _ h)))))
  have hS : va_S A s.heap s.heap [] := va_S.rf
  have hl := lv_entry ([.ref (b 0), .int a1] : List Value) (n := 2) (Nat.le_of_ble_eq_true rfl)
  rw [lg_entry_eq]
  generalize (lg_sl ([.ref (b 0), .int a1] : List Value) ++ List.replicate (2 - (lg_sl ([.ref (b 0), .int a1] : List Value)).length) Slot.unset).toArray = ls at hl ⊢
  have hl : lv_has ls 2 [(0, .ref (b 0)), (1, .int a1)] := hl
  unfold f_X7_speedOf at h
  refine lv_aload_n hx hb dX7_speedOf_0 rfl (lv_at hl 0 rfl) ?_
  refine lv_iload_n hx hb dX7_speedOf_1 rfl (lv_at hl 1 rfl) ?_
  obtain ⟨q2, hcq2, h⟩ := hb_some h
  refine gxV_q (As := [.int a1]) (rest := []) (BH := (fun (u : Unit) H => va_P (dC, dI) vwCl (hW N ca b I O J) H)) (BX := (fun (u : Unit) H => va_P (dC, dI) vwCl (hW N ca b I O J) H)) X hP hS (c_X7_known hlf hN hA I O J a1 q2 hcq2) (cwV 1 X.ts gX7_speedOf_X7_known rfl rfl rfl (by decide +kernel) ⟨Nat.le_of_ble_eq_true rfl, Nat.le_of_ble_eq_true rfl⟩) (gr7 X hP kc_0 (sk_in hN kc_0 (by decide))) rfl hl.1 rfl (Nat.le_of_ble_eq_true rfl) dX7_speedOf_2 ⟨Nat.le_of_ble_eq_true rfl, Nat.le_of_ble_eq_true rfl⟩ (fun k9 u9 H locs ce9 q9 hw hP hS hce hcv hcl => ?_) (fun r1 u9 H locs hw hP hS => ?_)
  · subst hw
    exact gOut (S := Unit) (BH := (fun (u : Unit) H => va_P (dC, dI) vwCl (hW N ca b I O J) H)) hlk hout hS hce hcv hcl () (Option.some.inj (show some (Sum.inl k9) = some res from h)).symm hP (Nat.le_of_ble_eq_true rfl) (Nat.le_of_ble_eq_true rfl)
  obtain ⟨r1, rfl, hw⟩ := hw
  subst hw
  have h := hsum_r h
  obtain ⟨n3, rfl, h⟩ := hb_some h
  obtain ⟨hk_n3, h⟩ := hk_some h
  refine gg6_5 X hP hk_n3 (sk_in hN hk_n3 (by decide)) hi6 (List.mem_of_getElem? (i := 1) rfl) dX7_speedOf_5 ?_
  refine vx_ret ?_
  refine W.widen (k := 1) (n := 6) (Nat.le_of_ble_eq_true rfl) (Nat.le_of_ble_eq_true rfl) ?_
  exact W.iret hx hb hr (fun t9 ht hW => ⟨⟨(I n3 5), (), rfl, (Option.some.inj h).symm, gEnd ht hP⟩, hS.F ht⟩) hS.2.2 dX7_speedOf_8 hlk
def f_X7_strengthOf (a1 : Int32) (I : Nat → Nat → Int32) : Option (Sum Nat Int32) :=
  (f_X7_known a1 I).bind fun eq2 => hsum eq2 (fun k9 => some (Sum.inl k9)) fun r1 =>
  (r1).bind fun n3 => hk n3 6 <|
  some (Sum.inr (I n3 6))
set_option maxHeartbeats 8000000 in
set_option maxRecDepth 100000 in
theorem c_X7_strengthOf {l : Launch} (hlf : l.stackTraces = false) {dC : Nat → ClassId} {dI : Nat → Nat → Nat} {ca : Nat → ClassId} {b : Nat → Nat} {A : Nat → Prop} {N : Nat} (hN : 129 ≤ N) (hA : gAd A b N) (I : Nat → Nat → Int32) (O : Nat → Nat → Option Nat) (J : Nat → Nat → Int64) (a1 : Int32) (res : Sum Nat Int32) (h : f_X7_strengthOf a1 I = some res) : vx_Met l yX7_strengthOf wsX7_strengthOf ({ frames := 7, cells := 1, slots := 6, locals := 112 } : Room) (va_Pc [.ref (b 0), .int a1] (gPre dC dI ca b A N I O J)) (va_Qi (fun (r : Int32) (u : Unit) => res = (Sum.inr r)) (fun (u : Unit) t => va_P (dC, dI) vwCl (hW N ca b I O J) t.heap) A) (vx_X (fun (u : Nat × Unit) => res = Sum.inl u.1) (fun E (u : Nat × Unit) t => E = gEn u.1 ∧ (fun (u : Unit) H => va_P (dC, dI) vwCl (hW N ca b I O J) H) u.2 t.heap) A) 1 6 A := by
  refine vx_ofW (cc := cX7_strengthOf) (maxL := 2) (ret := (some .int)) (by decide) rfl ?_
  intro p e s m args below meth c s₁ B hml hout hv
  obtain ⟨rfl, hP, hK, hA2, hth⟩ := hv
  have hx := B.exec
  have hb := B.bytes
  have hr := B.returns
  have hlk := B.notSynchronized
  have X : gCx p s m ([.ref (b 0), .int a1] : List Value).toArray c RX7 cX7_strengthOf wsX7_strengthOf 2 dC dI ca b A N := ⟨hx, hb, hml, findClass_of_methodNamed B.named, atoms_spec (ws := wsX7_strengthOf) B.pre, hK, hA, hA2, hth⟩
  have hi6 : ∀ w ∈ wsX60, w ∈ wsX7_strengthOf := (fun w h => List.mem_cons_of_mem _ (List.mem_append_left _ (List.mem_append_left _ (List.mem_append_left _ (List.mem_append_right _ h)))))
  have hS : va_S A s.heap s.heap [] := va_S.rf
  have hl := lv_entry ([.ref (b 0), .int a1] : List Value) (n := 2) (Nat.le_of_ble_eq_true rfl)
  rw [lg_entry_eq]
  generalize (lg_sl ([.ref (b 0), .int a1] : List Value) ++ List.replicate (2 - (lg_sl ([.ref (b 0), .int a1] : List Value)).length) Slot.unset).toArray = ls at hl ⊢
  have hl : lv_has ls 2 [(0, .ref (b 0)), (1, .int a1)] := hl
  unfold f_X7_strengthOf at h
  refine lv_aload_n hx hb dX7_strengthOf_0 rfl (lv_at hl 0 rfl) ?_
  refine lv_iload_n hx hb dX7_strengthOf_1 rfl (lv_at hl 1 rfl) ?_
  obtain ⟨q2, hcq2, h⟩ := hb_some h
  refine gxV_q (As := [.int a1]) (rest := []) (BH := (fun (u : Unit) H => va_P (dC, dI) vwCl (hW N ca b I O J) H)) (BX := (fun (u : Unit) H => va_P (dC, dI) vwCl (hW N ca b I O J) H)) X hP hS (c_X7_known hlf hN hA I O J a1 q2 hcq2) (cwV 1 X.ts gX7_strengthOf_X7_known rfl rfl rfl (by decide +kernel) ⟨Nat.le_of_ble_eq_true rfl, Nat.le_of_ble_eq_true rfl⟩) (gr7 X hP kc_0 (sk_in hN kc_0 (by decide))) rfl hl.1 rfl (Nat.le_of_ble_eq_true rfl) dX7_strengthOf_2 ⟨Nat.le_of_ble_eq_true rfl, Nat.le_of_ble_eq_true rfl⟩ (fun k9 u9 H locs ce9 q9 hw hP hS hce hcv hcl => ?_) (fun r1 u9 H locs hw hP hS => ?_)
  · subst hw
    exact gOut (S := Unit) (BH := (fun (u : Unit) H => va_P (dC, dI) vwCl (hW N ca b I O J) H)) hlk hout hS hce hcv hcl () (Option.some.inj (show some (Sum.inl k9) = some res from h)).symm hP (Nat.le_of_ble_eq_true rfl) (Nat.le_of_ble_eq_true rfl)
  obtain ⟨r1, rfl, hw⟩ := hw
  subst hw
  have h := hsum_r h
  obtain ⟨n3, rfl, h⟩ := hb_some h
  obtain ⟨hk_n3, h⟩ := hk_some h
  refine gg6_6 X hP hk_n3 (sk_in hN hk_n3 (by decide)) hi6 (List.mem_of_getElem? (i := 1) rfl) dX7_strengthOf_5 ?_
  refine vx_ret ?_
  refine W.widen (k := 1) (n := 6) (Nat.le_of_ble_eq_true rfl) (Nat.le_of_ble_eq_true rfl) ?_
  exact W.iret hx hb hr (fun t9 ht hW => ⟨⟨(I n3 6), (), rfl, (Option.some.inj h).symm, gEnd ht hP⟩, hS.F ht⟩) hS.2.2 dX7_strengthOf_8 hlk
def f_X7_wearOf (a1 : Int32) (I : Nat → Nat → Int32) : Option (Sum Nat Int32) :=
  (f_X7_known a1 I).bind fun eq2 => hsum eq2 (fun k9 => some (Sum.inl k9)) fun r1 =>
  (r1).bind fun n3 => hk n3 6 <|
  some (Sum.inr (I n3 7))
set_option maxHeartbeats 8000000 in
set_option maxRecDepth 100000 in
theorem c_X7_wearOf {l : Launch} (hlf : l.stackTraces = false) {dC : Nat → ClassId} {dI : Nat → Nat → Nat} {ca : Nat → ClassId} {b : Nat → Nat} {A : Nat → Prop} {N : Nat} (hN : 129 ≤ N) (hA : gAd A b N) (I : Nat → Nat → Int32) (O : Nat → Nat → Option Nat) (J : Nat → Nat → Int64) (a1 : Int32) (res : Sum Nat Int32) (h : f_X7_wearOf a1 I = some res) : vx_Met l yX7_wearOf wsX7_wearOf ({ frames := 7, cells := 1, slots := 6, locals := 112 } : Room) (va_Pc [.ref (b 0), .int a1] (gPre dC dI ca b A N I O J)) (va_Qi (fun (r : Int32) (u : Unit) => res = (Sum.inr r)) (fun (u : Unit) t => va_P (dC, dI) vwCl (hW N ca b I O J) t.heap) A) (vx_X (fun (u : Nat × Unit) => res = Sum.inl u.1) (fun E (u : Nat × Unit) t => E = gEn u.1 ∧ (fun (u : Unit) H => va_P (dC, dI) vwCl (hW N ca b I O J) H) u.2 t.heap) A) 1 6 A := by
  refine vx_ofW (cc := cX7_wearOf) (maxL := 2) (ret := (some .int)) (by decide) rfl ?_
  intro p e s m args below meth c s₁ B hml hout hv
  obtain ⟨rfl, hP, hK, hA2, hth⟩ := hv
  have hx := B.exec
  have hb := B.bytes
  have hr := B.returns
  have hlk := B.notSynchronized
  have X : gCx p s m ([.ref (b 0), .int a1] : List Value).toArray c RX7 cX7_wearOf wsX7_wearOf 2 dC dI ca b A N := ⟨hx, hb, hml, findClass_of_methodNamed B.named, atoms_spec (ws := wsX7_wearOf) B.pre, hK, hA, hA2, hth⟩
  have hi6 : ∀ w ∈ wsX60, w ∈ wsX7_wearOf := (fun w h => List.mem_cons_of_mem _ (List.mem_append_left _ (List.mem_append_left _ (List.mem_append_left _ (List.mem_append_right _ h)))))
  have hS : va_S A s.heap s.heap [] := va_S.rf
  have hl := lv_entry ([.ref (b 0), .int a1] : List Value) (n := 2) (Nat.le_of_ble_eq_true rfl)
  rw [lg_entry_eq]
  generalize (lg_sl ([.ref (b 0), .int a1] : List Value) ++ List.replicate (2 - (lg_sl ([.ref (b 0), .int a1] : List Value)).length) Slot.unset).toArray = ls at hl ⊢
  have hl : lv_has ls 2 [(0, .ref (b 0)), (1, .int a1)] := hl
  unfold f_X7_wearOf at h
  refine lv_aload_n hx hb dX7_wearOf_0 rfl (lv_at hl 0 rfl) ?_
  refine lv_iload_n hx hb dX7_wearOf_1 rfl (lv_at hl 1 rfl) ?_
  obtain ⟨q2, hcq2, h⟩ := hb_some h
  refine gxV_q (As := [.int a1]) (rest := []) (BH := (fun (u : Unit) H => va_P (dC, dI) vwCl (hW N ca b I O J) H)) (BX := (fun (u : Unit) H => va_P (dC, dI) vwCl (hW N ca b I O J) H)) X hP hS (c_X7_known hlf hN hA I O J a1 q2 hcq2) (cwV 1 X.ts gX7_wearOf_X7_known rfl rfl rfl (by decide +kernel) ⟨Nat.le_of_ble_eq_true rfl, Nat.le_of_ble_eq_true rfl⟩) (gr7 X hP kc_0 (sk_in hN kc_0 (by decide))) rfl hl.1 rfl (Nat.le_of_ble_eq_true rfl) dX7_wearOf_2 ⟨Nat.le_of_ble_eq_true rfl, Nat.le_of_ble_eq_true rfl⟩ (fun k9 u9 H locs ce9 q9 hw hP hS hce hcv hcl => ?_) (fun r1 u9 H locs hw hP hS => ?_)
  · subst hw
    exact gOut (S := Unit) (BH := (fun (u : Unit) H => va_P (dC, dI) vwCl (hW N ca b I O J) H)) hlk hout hS hce hcv hcl () (Option.some.inj (show some (Sum.inl k9) = some res from h)).symm hP (Nat.le_of_ble_eq_true rfl) (Nat.le_of_ble_eq_true rfl)
  obtain ⟨r1, rfl, hw⟩ := hw
  subst hw
  have h := hsum_r h
  obtain ⟨n3, rfl, h⟩ := hb_some h
  obtain ⟨hk_n3, h⟩ := hk_some h
  refine gg6_7 X hP hk_n3 (sk_in hN hk_n3 (by decide)) hi6 (List.mem_of_getElem? (i := 1) rfl) dX7_wearOf_5 ?_
  refine vx_ret ?_
  refine W.widen (k := 1) (n := 6) (Nat.le_of_ble_eq_true rfl) (Nat.le_of_ble_eq_true rfl) ?_
  exact W.iret hx hb hr (fun t9 ht hW => ⟨⟨(I n3 7), (), rfl, (Option.some.inj h).symm, gEnd ht hP⟩, hS.F ht⟩) hS.2.2 dX7_wearOf_8 hlk
def f_X7_laneOf (a1 : Int32) (I : Nat → Nat → Int32) : Option (Sum Nat Int32) :=
  (f_X7_known a1 I).bind fun eq2 => hsum eq2 (fun k9 => some (Sum.inl k9)) fun r1 =>
  (r1).bind fun n3 => hk n3 6 <|
  some (Sum.inr (I n3 8))
set_option maxHeartbeats 8000000 in
set_option maxRecDepth 100000 in
theorem c_X7_laneOf {l : Launch} (hlf : l.stackTraces = false) {dC : Nat → ClassId} {dI : Nat → Nat → Nat} {ca : Nat → ClassId} {b : Nat → Nat} {A : Nat → Prop} {N : Nat} (hN : 129 ≤ N) (hA : gAd A b N) (I : Nat → Nat → Int32) (O : Nat → Nat → Option Nat) (J : Nat → Nat → Int64) (a1 : Int32) (res : Sum Nat Int32) (h : f_X7_laneOf a1 I = some res) : vx_Met l yX7_laneOf wsX7_laneOf ({ frames := 7, cells := 1, slots := 6, locals := 112 } : Room) (va_Pc [.ref (b 0), .int a1] (gPre dC dI ca b A N I O J)) (va_Qi (fun (r : Int32) (u : Unit) => res = (Sum.inr r)) (fun (u : Unit) t => va_P (dC, dI) vwCl (hW N ca b I O J) t.heap) A) (vx_X (fun (u : Nat × Unit) => res = Sum.inl u.1) (fun E (u : Nat × Unit) t => E = gEn u.1 ∧ (fun (u : Unit) H => va_P (dC, dI) vwCl (hW N ca b I O J) H) u.2 t.heap) A) 1 6 A := by
  refine vx_ofW (cc := cX7_laneOf) (maxL := 2) (ret := (some .int)) (by decide) rfl ?_
  intro p e s m args below meth c s₁ B hml hout hv
  obtain ⟨rfl, hP, hK, hA2, hth⟩ := hv
  have hx := B.exec
  have hb := B.bytes
  have hr := B.returns
  have hlk := B.notSynchronized
  have X : gCx p s m ([.ref (b 0), .int a1] : List Value).toArray c RX7 cX7_laneOf wsX7_laneOf 2 dC dI ca b A N := ⟨hx, hb, hml, findClass_of_methodNamed B.named, atoms_spec (ws := wsX7_laneOf) B.pre, hK, hA, hA2, hth⟩
  have hi6 : ∀ w ∈ wsX60, w ∈ wsX7_laneOf := (fun w h => List.mem_cons_of_mem _ (List.mem_append_left _ (List.mem_append_left _ (List.mem_append_left _ (List.mem_append_right _ h)))))
  have hS : va_S A s.heap s.heap [] := va_S.rf
  have hl := lv_entry ([.ref (b 0), .int a1] : List Value) (n := 2) (Nat.le_of_ble_eq_true rfl)
  rw [lg_entry_eq]
  generalize (lg_sl ([.ref (b 0), .int a1] : List Value) ++ List.replicate (2 - (lg_sl ([.ref (b 0), .int a1] : List Value)).length) Slot.unset).toArray = ls at hl ⊢
  have hl : lv_has ls 2 [(0, .ref (b 0)), (1, .int a1)] := hl
  unfold f_X7_laneOf at h
  refine lv_aload_n hx hb dX7_laneOf_0 rfl (lv_at hl 0 rfl) ?_
  refine lv_iload_n hx hb dX7_laneOf_1 rfl (lv_at hl 1 rfl) ?_
  obtain ⟨q2, hcq2, h⟩ := hb_some h
  refine gxV_q (As := [.int a1]) (rest := []) (BH := (fun (u : Unit) H => va_P (dC, dI) vwCl (hW N ca b I O J) H)) (BX := (fun (u : Unit) H => va_P (dC, dI) vwCl (hW N ca b I O J) H)) X hP hS (c_X7_known hlf hN hA I O J a1 q2 hcq2) (cwV 1 X.ts gX7_laneOf_X7_known rfl rfl rfl (by decide +kernel) ⟨Nat.le_of_ble_eq_true rfl, Nat.le_of_ble_eq_true rfl⟩) (gr7 X hP kc_0 (sk_in hN kc_0 (by decide))) rfl hl.1 rfl (Nat.le_of_ble_eq_true rfl) dX7_laneOf_2 ⟨Nat.le_of_ble_eq_true rfl, Nat.le_of_ble_eq_true rfl⟩ (fun k9 u9 H locs ce9 q9 hw hP hS hce hcv hcl => ?_) (fun r1 u9 H locs hw hP hS => ?_)
  · subst hw
    exact gOut (S := Unit) (BH := (fun (u : Unit) H => va_P (dC, dI) vwCl (hW N ca b I O J) H)) hlk hout hS hce hcv hcl () (Option.some.inj (show some (Sum.inl k9) = some res from h)).symm hP (Nat.le_of_ble_eq_true rfl) (Nat.le_of_ble_eq_true rfl)
  obtain ⟨r1, rfl, hw⟩ := hw
  subst hw
  have h := hsum_r h
  obtain ⟨n3, rfl, h⟩ := hb_some h
  obtain ⟨hk_n3, h⟩ := hk_some h
  refine gg6_8 X hP hk_n3 (sk_in hN hk_n3 (by decide)) hi6 (List.mem_of_getElem? (i := 1) rfl) dX7_laneOf_5 ?_
  refine vx_ret ?_
  refine W.widen (k := 1) (n := 6) (Nat.le_of_ble_eq_true rfl) (Nat.le_of_ble_eq_true rfl) ?_
  exact W.iret hx hb hr (fun t9 ht hW => ⟨⟨(I n3 8), (), rfl, (Option.some.inj h).symm, gEnd ht hP⟩, hS.F ht⟩) hS.2.2 dX7_laneOf_8 hlk
def f_X7_stateOf (a1 : Int32) (I : Nat → Nat → Int32) : Option (Sum Nat Int32) :=
  (f_X7_known a1 I).bind fun eq2 => hsum eq2 (fun k9 => some (Sum.inl k9)) fun r1 =>
  (r1).bind fun n3 => hk n3 6 <|
  some (Sum.inr (I n3 9))
set_option maxHeartbeats 8000000 in
set_option maxRecDepth 100000 in
theorem c_X7_stateOf {l : Launch} (hlf : l.stackTraces = false) {dC : Nat → ClassId} {dI : Nat → Nat → Nat} {ca : Nat → ClassId} {b : Nat → Nat} {A : Nat → Prop} {N : Nat} (hN : 129 ≤ N) (hA : gAd A b N) (I : Nat → Nat → Int32) (O : Nat → Nat → Option Nat) (J : Nat → Nat → Int64) (a1 : Int32) (res : Sum Nat Int32) (h : f_X7_stateOf a1 I = some res) : vx_Met l yX7_stateOf wsX7_stateOf ({ frames := 7, cells := 1, slots := 6, locals := 112 } : Room) (va_Pc [.ref (b 0), .int a1] (gPre dC dI ca b A N I O J)) (va_Qi (fun (r : Int32) (u : Unit) => res = (Sum.inr r)) (fun (u : Unit) t => va_P (dC, dI) vwCl (hW N ca b I O J) t.heap) A) (vx_X (fun (u : Nat × Unit) => res = Sum.inl u.1) (fun E (u : Nat × Unit) t => E = gEn u.1 ∧ (fun (u : Unit) H => va_P (dC, dI) vwCl (hW N ca b I O J) H) u.2 t.heap) A) 1 6 A := by
  refine vx_ofW (cc := cX7_stateOf) (maxL := 2) (ret := (some .int)) (by decide) rfl ?_
  intro p e s m args below meth c s₁ B hml hout hv
  obtain ⟨rfl, hP, hK, hA2, hth⟩ := hv
  have hx := B.exec
  have hb := B.bytes
  have hr := B.returns
  have hlk := B.notSynchronized
  have X : gCx p s m ([.ref (b 0), .int a1] : List Value).toArray c RX7 cX7_stateOf wsX7_stateOf 2 dC dI ca b A N := ⟨hx, hb, hml, findClass_of_methodNamed B.named, atoms_spec (ws := wsX7_stateOf) B.pre, hK, hA, hA2, hth⟩
  have hi6 : ∀ w ∈ wsX60, w ∈ wsX7_stateOf := (fun w h => List.mem_cons_of_mem _ (List.mem_append_left _ (List.mem_append_left _ (List.mem_append_left _ (List.mem_append_right _ h)))))
  have hS : va_S A s.heap s.heap [] := va_S.rf
  have hl := lv_entry ([.ref (b 0), .int a1] : List Value) (n := 2) (Nat.le_of_ble_eq_true rfl)
  rw [lg_entry_eq]
  generalize (lg_sl ([.ref (b 0), .int a1] : List Value) ++ List.replicate (2 - (lg_sl ([.ref (b 0), .int a1] : List Value)).length) Slot.unset).toArray = ls at hl ⊢
  have hl : lv_has ls 2 [(0, .ref (b 0)), (1, .int a1)] := hl
  unfold f_X7_stateOf at h
  refine lv_aload_n hx hb dX7_stateOf_0 rfl (lv_at hl 0 rfl) ?_
  refine lv_iload_n hx hb dX7_stateOf_1 rfl (lv_at hl 1 rfl) ?_
  obtain ⟨q2, hcq2, h⟩ := hb_some h
  refine gxV_q (As := [.int a1]) (rest := []) (BH := (fun (u : Unit) H => va_P (dC, dI) vwCl (hW N ca b I O J) H)) (BX := (fun (u : Unit) H => va_P (dC, dI) vwCl (hW N ca b I O J) H)) X hP hS (c_X7_known hlf hN hA I O J a1 q2 hcq2) (cwV 1 X.ts gX7_stateOf_X7_known rfl rfl rfl (by decide +kernel) ⟨Nat.le_of_ble_eq_true rfl, Nat.le_of_ble_eq_true rfl⟩) (gr7 X hP kc_0 (sk_in hN kc_0 (by decide))) rfl hl.1 rfl (Nat.le_of_ble_eq_true rfl) dX7_stateOf_2 ⟨Nat.le_of_ble_eq_true rfl, Nat.le_of_ble_eq_true rfl⟩ (fun k9 u9 H locs ce9 q9 hw hP hS hce hcv hcl => ?_) (fun r1 u9 H locs hw hP hS => ?_)
  · subst hw
    exact gOut (S := Unit) (BH := (fun (u : Unit) H => va_P (dC, dI) vwCl (hW N ca b I O J) H)) hlk hout hS hce hcv hcl () (Option.some.inj (show some (Sum.inl k9) = some res from h)).symm hP (Nat.le_of_ble_eq_true rfl) (Nat.le_of_ble_eq_true rfl)
  obtain ⟨r1, rfl, hw⟩ := hw
  subst hw
  have h := hsum_r h
  obtain ⟨n3, rfl, h⟩ := hb_some h
  obtain ⟨hk_n3, h⟩ := hk_some h
  refine gg6_9 X hP hk_n3 (sk_in hN hk_n3 (by decide)) hi6 (List.mem_of_getElem? (i := 1) rfl) dX7_stateOf_5 ?_
  refine vx_ret ?_
  refine W.widen (k := 1) (n := 6) (Nat.le_of_ble_eq_true rfl) (Nat.le_of_ble_eq_true rfl) ?_
  exact W.iret hx hb hr (fun t9 ht hW => ⟨⟨(I n3 9), (), rfl, (Option.some.inj h).symm, gEnd ht hP⟩, hS.F ht⟩) hS.2.2 dX7_stateOf_8 hlk
def f_X7_paceOf (a1 : Int32) (I : Nat → Nat → Int32) : Option (Sum Nat Int32) :=
  (f_X7_known a1 I).bind fun eq2 => hsum eq2 (fun k9 => some (Sum.inl k9)) fun r1 =>
  (r1).bind fun n3 => hk n3 6 <|
  some (Sum.inr (I n3 1))
set_option maxHeartbeats 8000000 in
set_option maxRecDepth 100000 in
theorem c_X7_paceOf {l : Launch} (hlf : l.stackTraces = false) {dC : Nat → ClassId} {dI : Nat → Nat → Nat} {ca : Nat → ClassId} {b : Nat → Nat} {A : Nat → Prop} {N : Nat} (hN : 129 ≤ N) (hA : gAd A b N) (I : Nat → Nat → Int32) (O : Nat → Nat → Option Nat) (J : Nat → Nat → Int64) (a1 : Int32) (res : Sum Nat Int32) (h : f_X7_paceOf a1 I = some res) : vx_Met l yX7_paceOf wsX7_paceOf ({ frames := 7, cells := 1, slots := 6, locals := 112 } : Room) (va_Pc [.ref (b 0), .int a1] (gPre dC dI ca b A N I O J)) (va_Qi (fun (r : Int32) (u : Unit) => res = (Sum.inr r)) (fun (u : Unit) t => va_P (dC, dI) vwCl (hW N ca b I O J) t.heap) A) (vx_X (fun (u : Nat × Unit) => res = Sum.inl u.1) (fun E (u : Nat × Unit) t => E = gEn u.1 ∧ (fun (u : Unit) H => va_P (dC, dI) vwCl (hW N ca b I O J) H) u.2 t.heap) A) 1 6 A := by
  refine vx_ofW (cc := cX7_paceOf) (maxL := 2) (ret := (some .int)) (by decide) rfl ?_
  intro p e s m args below meth c s₁ B hml hout hv
  obtain ⟨rfl, hP, hK, hA2, hth⟩ := hv
  have hx := B.exec
  have hb := B.bytes
  have hr := B.returns
  have hlk := B.notSynchronized
  have X : gCx p s m ([.ref (b 0), .int a1] : List Value).toArray c RX7 cX7_paceOf wsX7_paceOf 2 dC dI ca b A N := ⟨hx, hb, hml, findClass_of_methodNamed B.named, atoms_spec (ws := wsX7_paceOf) B.pre, hK, hA, hA2, hth⟩
  have hi6 : ∀ w ∈ wsX60, w ∈ wsX7_paceOf := (fun w h => List.mem_cons_of_mem _ (List.mem_append_left _ (List.mem_append_left _ (List.mem_append_left _ (List.mem_append_right _ h)))))
  have hS : va_S A s.heap s.heap [] := va_S.rf
  have hl := lv_entry ([.ref (b 0), .int a1] : List Value) (n := 2) (Nat.le_of_ble_eq_true rfl)
  rw [lg_entry_eq]
  generalize (lg_sl ([.ref (b 0), .int a1] : List Value) ++ List.replicate (2 - (lg_sl ([.ref (b 0), .int a1] : List Value)).length) Slot.unset).toArray = ls at hl ⊢
  have hl : lv_has ls 2 [(0, .ref (b 0)), (1, .int a1)] := hl
  unfold f_X7_paceOf at h
  refine lv_aload_n hx hb dX7_paceOf_0 rfl (lv_at hl 0 rfl) ?_
  refine lv_iload_n hx hb dX7_paceOf_1 rfl (lv_at hl 1 rfl) ?_
  obtain ⟨q2, hcq2, h⟩ := hb_some h
  refine gxV_q (As := [.int a1]) (rest := []) (BH := (fun (u : Unit) H => va_P (dC, dI) vwCl (hW N ca b I O J) H)) (BX := (fun (u : Unit) H => va_P (dC, dI) vwCl (hW N ca b I O J) H)) X hP hS (c_X7_known hlf hN hA I O J a1 q2 hcq2) (cwV 1 X.ts gX7_paceOf_X7_known rfl rfl rfl (by decide +kernel) ⟨Nat.le_of_ble_eq_true rfl, Nat.le_of_ble_eq_true rfl⟩) (gr7 X hP kc_0 (sk_in hN kc_0 (by decide))) rfl hl.1 rfl (Nat.le_of_ble_eq_true rfl) dX7_paceOf_2 ⟨Nat.le_of_ble_eq_true rfl, Nat.le_of_ble_eq_true rfl⟩ (fun k9 u9 H locs ce9 q9 hw hP hS hce hcv hcl => ?_) (fun r1 u9 H locs hw hP hS => ?_)
  · subst hw
    exact gOut (S := Unit) (BH := (fun (u : Unit) H => va_P (dC, dI) vwCl (hW N ca b I O J) H)) hlk hout hS hce hcv hcl () (Option.some.inj (show some (Sum.inl k9) = some res from h)).symm hP (Nat.le_of_ble_eq_true rfl) (Nat.le_of_ble_eq_true rfl)
  obtain ⟨r1, rfl, hw⟩ := hw
  subst hw
  have h := hsum_r h
  obtain ⟨n3, rfl, h⟩ := hb_some h
  obtain ⟨hk_n3, h⟩ := hk_some h
  refine gg6_1 X hP hk_n3 (sk_in hN hk_n3 (by decide)) hi6 (List.mem_of_getElem? (i := 1) rfl) dX7_paceOf_5 ?_
  refine vx_ret ?_
  refine W.widen (k := 1) (n := 6) (Nat.le_of_ble_eq_true rfl) (Nat.le_of_ble_eq_true rfl) ?_
  exact W.iret hx hb hr (fun t9 ht hW => ⟨⟨(I n3 1), (), rfl, (Option.some.inj h).symm, gEnd ht hP⟩, hS.F ht⟩) hS.2.2 dX7_paceOf_8 hlk
def f_X7_partnerOf (a1 : Int32) (I : Nat → Nat → Int32) : Option (Sum Nat Int32) :=
  (f_X7_known a1 I).bind fun eq2 => hsum eq2 (fun k9 => some (Sum.inl k9)) fun r1 =>
  (r1).bind fun n3 => hk n3 6 <|
  if (I n3 12) = (-1 : Int32) then
    some (Sum.inl 2)
  else
    some (Sum.inr (I n3 12))
set_option maxHeartbeats 8000000 in
set_option maxRecDepth 100000 in
theorem c_X7_partnerOf {l : Launch} (hlf : l.stackTraces = false) {dC : Nat → ClassId} {dI : Nat → Nat → Nat} {ca : Nat → ClassId} {b : Nat → Nat} {A : Nat → Prop} {N : Nat} (hN : 129 ≤ N) (hA : gAd A b N) (I : Nat → Nat → Int32) (O : Nat → Nat → Option Nat) (J : Nat → Nat → Int64) (a1 : Int32) (res : Sum Nat Int32) (h : f_X7_partnerOf a1 I = some res) : vx_Met l yX7_partnerOf wsX7_partnerOf ({ frames := 7, cells := 2, slots := 12, locals := 112 } : Room) (va_Pc [.ref (b 0), .int a1] (gPre dC dI ca b A N I O J)) (va_Qi (fun (r : Int32) (u : Unit) => res = (Sum.inr r)) (fun (u : Unit) t => va_P (dC, dI) vwCl (hW N ca b I O J) t.heap) A) (vx_X (fun (u : Nat × Unit) => res = Sum.inl u.1) (fun E (u : Nat × Unit) t => E = gEn u.1 ∧ (fun (u : Unit) H => va_P (dC, dI) vwCl (hW N ca b I O J) H) u.2 t.heap) A) 2 12 A := by
  refine vx_ofW (cc := cX7_partnerOf) (maxL := 3) (ret := (some .int)) (by decide) rfl ?_
  intro p e s m args below meth c s₁ B hml hout hv
  obtain ⟨rfl, hP, hK, hA2, hth⟩ := hv
  have hx := B.exec
  have hb := B.bytes
  have hr := B.returns
  have hlk := B.notSynchronized
  have X : gCx p s m ([.ref (b 0), .int a1] : List Value).toArray c RX7 cX7_partnerOf wsX7_partnerOf 3 dC dI ca b A N := ⟨hx, hb, hml, findClass_of_methodNamed B.named, atoms_spec (ws := wsX7_partnerOf) B.pre, hK, hA, hA2, hth⟩
  have hi6 : ∀ w ∈ wsX60, w ∈ wsX7_partnerOf := (fun w h => List.mem_cons_of_mem _ (List.mem_append_left _ (List.mem_append_left _ (List.mem_append_left _ (List.mem_append_left _ (List.mem_append_right _ h))))))
  have hg2 : ∀ w ∈ gWg2, w ∈ wsX7_partnerOf := (fun w h => List.mem_cons_of_mem _ (List.mem_append_left _ (List.mem_append_right _ h)))
  have hS : va_S A s.heap s.heap [] := va_S.rf
  have hl := lv_entry ([.ref (b 0), .int a1] : List Value) (n := 3) (Nat.le_of_ble_eq_true rfl)
  rw [lg_entry_eq]
  generalize (lg_sl ([.ref (b 0), .int a1] : List Value) ++ List.replicate (3 - (lg_sl ([.ref (b 0), .int a1] : List Value)).length) Slot.unset).toArray = ls at hl ⊢
  have hl : lv_has ls 3 [(0, .ref (b 0)), (1, .int a1)] := hl
  unfold f_X7_partnerOf at h
  refine lv_aload_n hx hb dX7_partnerOf_0 rfl (lv_at hl 0 rfl) ?_
  refine lv_iload_n hx hb dX7_partnerOf_1 rfl (lv_at hl 1 rfl) ?_
  obtain ⟨q2, hcq2, h⟩ := hb_some h
  refine gxV_q (As := [.int a1]) (rest := []) (BH := (fun (u : Unit) H => va_P (dC, dI) vwCl (hW N ca b I O J) H)) (BX := (fun (u : Unit) H => va_P (dC, dI) vwCl (hW N ca b I O J) H)) X hP hS (c_X7_known hlf hN hA I O J a1 q2 hcq2) (cwV 1 X.ts gX7_partnerOf_X7_known rfl rfl rfl (by decide +kernel) ⟨Nat.le_of_ble_eq_true rfl, Nat.le_of_ble_eq_true rfl⟩) (gr7 X hP kc_0 (sk_in hN kc_0 (by decide))) rfl hl.1 rfl (Nat.le_of_ble_eq_true rfl) dX7_partnerOf_2 ⟨Nat.le_of_ble_eq_true rfl, Nat.le_of_ble_eq_true rfl⟩ (fun k9 u9 H locs ce9 q9 hw hP hS hce hcv hcl => ?_) (fun r1 u9 H locs hw hP hS => ?_)
  · subst hw
    exact gOut (S := Unit) (BH := (fun (u : Unit) H => va_P (dC, dI) vwCl (hW N ca b I O J) H)) hlk hout hS hce hcv hcl () (Option.some.inj (show some (Sum.inl k9) = some res from h)).symm hP (Nat.le_of_ble_eq_true rfl) (Nat.le_of_ble_eq_true rfl)
  obtain ⟨r1, rfl, hw⟩ := hw
  subst hw
  have h := hsum_r h
  refine gv_astore_n (r := Option.map b r1) (lv' := [(2, va_rf (Option.map b r1)), (0, .ref (b 0)), (1, .int a1)]) hx hb dX7_partnerOf_5 rfl hl (by decide) rfl (fun ls hl => ?_)
  refine gv_aload_n (r := Option.map b r1) hx hb dX7_partnerOf_6 rfl (lv_at hl 0 rfl) ?_
  obtain ⟨n3, rfl, h⟩ := hb_some h
  obtain ⟨hk_n3, h⟩ := hk_some h
  refine gg6_12 X hP hk_n3 (sk_in hN hk_n3 (by decide)) hi6 (List.mem_of_getElem? (i := 3) rfl) dX7_partnerOf_7 ?_
  refine lv_iconst (v := (-1)) hx hb dX7_partnerOf_10 (by decide) ?_
  refine lv_icmp_ne (tgt := 24) hx hb dX7_partnerOf_11 (by decide) (fun c4 => ?_) (fun c4 => ?_)
  · have h := gif_f c4 h
    refine lv_aload_n hx hb dX7_partnerOf_24 rfl (lv_at hl 0 rfl) ?_
    refine gg6_12 X hP hk_n3 (sk_in hN hk_n3 (by decide)) hi6 (List.mem_of_getElem? (i := 3) rfl) dX7_partnerOf_25 ?_
    refine vx_ret ?_
    refine W.widen (k := 2) (n := 12) (Nat.le_of_ble_eq_true rfl) (Nat.le_of_ble_eq_true rfl) ?_
    exact W.iret hx hb hr (fun t9 ht hW => ⟨⟨(I n3 12), (), rfl, (Option.some.inj h).symm, gEnd ht hP⟩, hS.F ht⟩) hS.2.2 dX7_partnerOf_28 hlk
  · have h := gif_t c4 h
    exact gt2 (S := Unit) (BH := (fun (u : Unit) H => va_P (dC, dI) vwCl (hW N ca b I O J) H)) X hlf hlk hout hS hg2 (List.mem_of_getElem? (i := 1) rfl) (List.mem_of_getElem? (i := 2) rfl) (List.mem_of_getElem? (i := 20) rfl) hl.1 dX7_partnerOf_14 dX7_partnerOf_17 dX7_partnerOf_18 dX7_partnerOf_20 dX7_partnerOf_23 (Nat.le_of_ble_eq_true rfl) (Nat.le_of_ble_eq_true rfl) (Nat.le_of_ble_eq_true rfl) (Nat.le_of_ble_eq_true rfl) () (Option.some.inj h).symm (fun H1 hk1 => hP.kept (fun k q hq => hk1 q.1 (hP k q hq).lt)) (Nat.le_of_ble_eq_true rfl) (Nat.le_of_ble_eq_true rfl)
def f_X7_isCalledIn (a1 : Int32) (I : Nat → Nat → Int32) : Option (Sum Nat Int32) :=
  (f_X7_known a1 I).bind fun eq2 => hsum eq2 (fun k9 => some (Sum.inl k9)) fun r1 =>
  (r1).bind fun n3 => hk n3 6 <|
  hg (gz (I n3 11)) <|
  some (Sum.inr (I n3 11))
set_option maxHeartbeats 8000000 in
set_option maxRecDepth 100000 in
theorem c_X7_isCalledIn {l : Launch} (hlf : l.stackTraces = false) {dC : Nat → ClassId} {dI : Nat → Nat → Nat} {ca : Nat → ClassId} {b : Nat → Nat} {A : Nat → Prop} {N : Nat} (hN : 129 ≤ N) (hA : gAd A b N) (I : Nat → Nat → Int32) (O : Nat → Nat → Option Nat) (J : Nat → Nat → Int64) (a1 : Int32) (res : Sum Nat Int32) (h : f_X7_isCalledIn a1 I = some res) : vx_Met l yX7_isCalledIn wsX7_isCalledIn ({ frames := 7, cells := 1, slots := 6, locals := 112 } : Room) (va_Pc [.ref (b 0), .int a1] (gPre dC dI ca b A N I O J)) (va_Qi (fun (r : Int32) (u : Unit) => res = (Sum.inr r)) (fun (u : Unit) t => va_P (dC, dI) vwCl (hW N ca b I O J) t.heap) A) (vx_X (fun (u : Nat × Unit) => res = Sum.inl u.1) (fun E (u : Nat × Unit) t => E = gEn u.1 ∧ (fun (u : Unit) H => va_P (dC, dI) vwCl (hW N ca b I O J) H) u.2 t.heap) A) 1 6 A := by
  refine vx_ofW (cc := cX7_isCalledIn) (maxL := 2) (ret := (some .boolean)) (by decide) rfl ?_
  intro p e s m args below meth c s₁ B hml hout hv
  obtain ⟨rfl, hP, hK, hA2, hth⟩ := hv
  have hx := B.exec
  have hb := B.bytes
  have hr := B.returns
  have hlk := B.notSynchronized
  have X : gCx p s m ([.ref (b 0), .int a1] : List Value).toArray c RX7 cX7_isCalledIn wsX7_isCalledIn 2 dC dI ca b A N := ⟨hx, hb, hml, findClass_of_methodNamed B.named, atoms_spec (ws := wsX7_isCalledIn) B.pre, hK, hA, hA2, hth⟩
  have hi6 : ∀ w ∈ wsX60, w ∈ wsX7_isCalledIn := (fun w h => List.mem_cons_of_mem _ (List.mem_append_left _ (List.mem_append_left _ (List.mem_append_left _ (List.mem_append_right _ h)))))
  have hS : va_S A s.heap s.heap [] := va_S.rf
  have hl := lv_entry ([.ref (b 0), .int a1] : List Value) (n := 2) (Nat.le_of_ble_eq_true rfl)
  rw [lg_entry_eq]
  generalize (lg_sl ([.ref (b 0), .int a1] : List Value) ++ List.replicate (2 - (lg_sl ([.ref (b 0), .int a1] : List Value)).length) Slot.unset).toArray = ls at hl ⊢
  have hl : lv_has ls 2 [(0, .ref (b 0)), (1, .int a1)] := hl
  unfold f_X7_isCalledIn at h
  refine lv_aload_n hx hb dX7_isCalledIn_0 rfl (lv_at hl 0 rfl) ?_
  refine lv_iload_n hx hb dX7_isCalledIn_1 rfl (lv_at hl 1 rfl) ?_
  obtain ⟨q2, hcq2, h⟩ := hb_some h
  refine gxV_q (As := [.int a1]) (rest := []) (BH := (fun (u : Unit) H => va_P (dC, dI) vwCl (hW N ca b I O J) H)) (BX := (fun (u : Unit) H => va_P (dC, dI) vwCl (hW N ca b I O J) H)) X hP hS (c_X7_known hlf hN hA I O J a1 q2 hcq2) (cwV 1 X.ts gX7_isCalledIn_X7_known rfl rfl rfl (by decide +kernel) ⟨Nat.le_of_ble_eq_true rfl, Nat.le_of_ble_eq_true rfl⟩) (gr7 X hP kc_0 (sk_in hN kc_0 (by decide))) rfl hl.1 rfl (Nat.le_of_ble_eq_true rfl) dX7_isCalledIn_2 ⟨Nat.le_of_ble_eq_true rfl, Nat.le_of_ble_eq_true rfl⟩ (fun k9 u9 H locs ce9 q9 hw hP hS hce hcv hcl => ?_) (fun r1 u9 H locs hw hP hS => ?_)
  · subst hw
    exact gOut (S := Unit) (BH := (fun (u : Unit) H => va_P (dC, dI) vwCl (hW N ca b I O J) H)) hlk hout hS hce hcv hcl () (Option.some.inj (show some (Sum.inl k9) = some res from h)).symm hP (Nat.le_of_ble_eq_true rfl) (Nat.le_of_ble_eq_true rfl)
  obtain ⟨r1, rfl, hw⟩ := hw
  subst hw
  have h := hsum_r h
  obtain ⟨n3, rfl, h⟩ := hb_some h
  obtain ⟨hk_n3, h⟩ := hk_some h
  refine gg6_11 X hP hk_n3 (sk_in hN hk_n3 (by decide)) hi6 (List.mem_of_getElem? (i := 1) rfl) dX7_isCalledIn_5 ?_
  obtain ⟨hgz, h⟩ := hg_some h
  refine vx_ret ?_
  refine W.widen (k := 1) (n := 6) (Nat.le_of_ble_eq_true rfl) (Nat.le_of_ble_eq_true rfl) ?_
  exact W.zret (ty := .boolean) hx hb hr (gz_nar hgz) (fun t9 ht hW => ⟨⟨(I n3 11), (), rfl, (Option.some.inj h).symm, gEnd ht hP⟩, hS.F ht⟩) hS.2.2 dX7_isCalledIn_8 hlk
def f_X7_limitOf (a1 : Int32) (I : Nat → Nat → Int32) : Option (Sum Nat Int32) :=
  (f_X7_checkCorner a1).bind fun eq1 => hsum eq1 (fun k9 => some (Sum.inl k9)) fun _ =>
  (f_X3_limitAt 1 a1 I).bind fun r2 =>
  some (Sum.inr r2)
set_option maxHeartbeats 8000000 in
set_option maxRecDepth 100000 in
theorem c_X7_limitOf {l : Launch} (hlf : l.stackTraces = false) {dC : Nat → ClassId} {dI : Nat → Nat → Nat} {ca : Nat → ClassId} {b : Nat → Nat} {A : Nat → Prop} {N : Nat} (hN : 129 ≤ N) (hA : gAd A b N) (I : Nat → Nat → Int32) (O : Nat → Nat → Option Nat) (J : Nat → Nat → Int64) (a1 : Int32) (res : Sum Nat Int32) (h : f_X7_limitOf a1 I = some res) : vx_Met l yX7_limitOf wsX7_limitOf ({ frames := 7, cells := 1, slots := 6, locals := 110 } : Room) (va_Pc [.ref (b 0), .int a1] (gPre dC dI ca b A N I O J)) (va_Qi (fun (r : Int32) (u : Unit) => res = (Sum.inr r)) (fun (u : Unit) t => va_P (dC, dI) vwCl (hW N ca b I O J) t.heap) A) (vx_X (fun (u : Nat × Unit) => res = Sum.inl u.1) (fun E (u : Nat × Unit) t => E = gEn u.1 ∧ (fun (u : Unit) H => va_P (dC, dI) vwCl (hW N ca b I O J) H) u.2 t.heap) A) 1 6 A := by
  refine vx_ofW (cc := cX7_limitOf) (maxL := 2) (ret := (some .int)) (by decide) rfl ?_
  intro p e s m args below meth c s₁ B hml hout hv
  obtain ⟨rfl, hP, hK, hA2, hth⟩ := hv
  have hx := B.exec
  have hb := B.bytes
  have hr := B.returns
  have hlk := B.notSynchronized
  have X : gCx p s m ([.ref (b 0), .int a1] : List Value).toArray c RX7 cX7_limitOf wsX7_limitOf 2 dC dI ca b A N := ⟨hx, hb, hml, findClass_of_methodNamed B.named, atoms_spec (ws := wsX7_limitOf) B.pre, hK, hA, hA2, hth⟩
  have hi7 : ∀ w ∈ wsX70, w ∈ wsX7_limitOf := (fun w h => List.mem_cons_of_mem _ (List.mem_append_left _ (List.mem_append_left _ (List.mem_append_right _ h))))
  have hS : va_S A s.heap s.heap [] := va_S.rf
  have hl := lv_entry ([.ref (b 0), .int a1] : List Value) (n := 2) (Nat.le_of_ble_eq_true rfl)
  rw [lg_entry_eq]
  generalize (lg_sl ([.ref (b 0), .int a1] : List Value) ++ List.replicate (2 - (lg_sl ([.ref (b 0), .int a1] : List Value)).length) Slot.unset).toArray = ls at hl ⊢
  have hl : lv_has ls 2 [(0, .ref (b 0)), (1, .int a1)] := hl
  unfold f_X7_limitOf at h
  refine lv_iload_n hx hb dX7_limitOf_0 rfl (lv_at hl 1 rfl) ?_
  obtain ⟨q1, hcq1, h⟩ := hb_some h
  refine gxS_v (As := [.int a1]) (rest := []) (BH := (fun (u : Unit) H => va_P (dC, dI) vwCl (hW N ca b I O J) H)) (BX := (fun (u : Unit) H => va_P (dC, dI) vwCl (hW N ca b I O J) H)) X hP hS (c_X7_checkCorner hlf hN hA I O J a1 q1 hcq1) (va_cwS 1 X.ts gX7_limitOf_X7_checkCorner rfl rfl rfl (by decide +kernel) ⟨Nat.le_of_ble_eq_true rfl, Nat.le_of_ble_eq_true rfl⟩) rfl hl.1 rfl (Nat.le_of_ble_eq_true rfl) dX7_limitOf_1 ⟨Nat.le_of_ble_eq_true rfl, Nat.le_of_ble_eq_true rfl⟩ (fun k9 u9 H locs ce9 q9 hw hP hS hce hcv hcl => ?_) (fun u9 H locs hw hP hS => ?_)
  · subst hw
    exact gOut (S := Unit) (BH := (fun (u : Unit) H => va_P (dC, dI) vwCl (hW N ca b I O J) H)) hlk hout hS hce hcv hcl () (Option.some.inj (show some (Sum.inl k9) = some res from h)).symm hP (Nat.le_of_ble_eq_true rfl) (Nat.le_of_ble_eq_true rfl)
  subst hw
  have h := hsum_r h
  refine lv_aload_n hx hb dX7_limitOf_4 rfl (lv_at hl 0 rfl) ?_
  refine gg7_0 X hP kc_0 (sk_in hN kc_0 (by decide)) hi7 (List.mem_of_getElem? (i := 1) rfl) dX7_limitOf_5 ?_
  refine lv_iload_n hx hb dX7_limitOf_8 rfl (lv_at hl 1 rfl) ?_
  obtain ⟨q3, hcq3, h⟩ := hb_some h
  refine gdV_i (As := [.int a1]) (rest := []) (BH := (fun (u : Unit) H => va_P (dC, dI) vwCl (hW N ca b I O J) H)) X hP hS (c_X3_limitAt hN hA I O J 1 a1 kc_1 q3 hcq3) (cwV 1 X.ts gX7_limitOf_X3_limitAt rfl rfl rfl (by decide +kernel) ⟨Nat.le_of_ble_eq_true rfl, Nat.le_of_ble_eq_true rfl⟩) (gr3 X hP kc_1 (sk_in hN kc_1 (by decide))) rfl hl.1 rfl (Nat.le_of_ble_eq_true rfl) dX7_limitOf_9 ⟨Nat.le_of_ble_eq_true rfl, Nat.le_of_ble_eq_true rfl⟩ (fun r2 u9 H locs hw hP hS => ?_)
  have hw := hw.symm
  subst hw
  refine vx_ret ?_
  refine W.widen (k := 1) (n := 6) (Nat.le_of_ble_eq_true rfl) (Nat.le_of_ble_eq_true rfl) ?_
  exact W.iret hx hb hr (fun t9 ht hW => ⟨⟨r2, (), rfl, (Option.some.inj h).symm, gEnd ht hP⟩, hS.F ht⟩) hS.2.2 dX7_limitOf_12 hlk
def f_X7_placeByCounting (a1 : Int32) (I : Nat → Nat → Int32) : Option (Sum Nat Int32) :=
  (f_X7_known a1 I).bind fun eq2 => hsum eq2 (fun k9 => some (Sum.inl k9)) fun r1 =>
  (r1).bind fun n3 => hk n3 6 <|
  (f_X3_countAheadOf 1 n3 I).bind fun r4 =>
  some (Sum.inr r4)
set_option maxHeartbeats 8000000 in
set_option maxRecDepth 100000 in
theorem c_X7_placeByCounting {l : Launch} (hlf : l.stackTraces = false) {dC : Nat → ClassId} {dI : Nat → Nat → Nat} {ca : Nat → ClassId} {b : Nat → Nat} {A : Nat → Prop} {N : Nat} (hN : 129 ≤ N) (hA : gAd A b N) (I : Nat → Nat → Int32) (O : Nat → Nat → Option Nat) (J : Nat → Nat → Int64) (a1 : Int32) (res : Sum Nat Int32) (h : f_X7_placeByCounting a1 I = some res) : vx_Met l yX7_placeByCounting wsX7_placeByCounting ({ frames := 7, cells := 1, slots := 6, locals := 112 } : Room) (va_Pc [.ref (b 0), .int a1] (gPre dC dI ca b A N I O J)) (va_Qi (fun (r : Int32) (u : Unit) => res = (Sum.inr r)) (fun (u : Unit) t => va_P (dC, dI) vwCl (hW N ca b I O J) t.heap) A) (vx_X (fun (u : Nat × Unit) => res = Sum.inl u.1) (fun E (u : Nat × Unit) t => E = gEn u.1 ∧ (fun (u : Unit) H => va_P (dC, dI) vwCl (hW N ca b I O J) H) u.2 t.heap) A) 1 6 A := by
  refine vx_ofW (cc := cX7_placeByCounting) (maxL := 2) (ret := (some .int)) (by decide) rfl ?_
  intro p e s m args below meth c s₁ B hml hout hv
  obtain ⟨rfl, hP, hK, hA2, hth⟩ := hv
  have hx := B.exec
  have hb := B.bytes
  have hr := B.returns
  have hlk := B.notSynchronized
  have X : gCx p s m ([.ref (b 0), .int a1] : List Value).toArray c RX7 cX7_placeByCounting wsX7_placeByCounting 2 dC dI ca b A N := ⟨hx, hb, hml, findClass_of_methodNamed B.named, atoms_spec (ws := wsX7_placeByCounting) B.pre, hK, hA, hA2, hth⟩
  have hi7 : ∀ w ∈ wsX70, w ∈ wsX7_placeByCounting := (fun w h => List.mem_cons_of_mem _ (List.mem_append_left _ (List.mem_append_left _ (List.mem_append_left _ (List.mem_append_right _ h)))))
  have hS : va_S A s.heap s.heap [] := va_S.rf
  have hl := lv_entry ([.ref (b 0), .int a1] : List Value) (n := 2) (Nat.le_of_ble_eq_true rfl)
  rw [lg_entry_eq]
  generalize (lg_sl ([.ref (b 0), .int a1] : List Value) ++ List.replicate (2 - (lg_sl ([.ref (b 0), .int a1] : List Value)).length) Slot.unset).toArray = ls at hl ⊢
  have hl : lv_has ls 2 [(0, .ref (b 0)), (1, .int a1)] := hl
  unfold f_X7_placeByCounting at h
  refine lv_aload_n hx hb dX7_placeByCounting_0 rfl (lv_at hl 0 rfl) ?_
  refine gg7_0 X hP kc_0 (sk_in hN kc_0 (by decide)) hi7 (List.mem_of_getElem? (i := 1) rfl) dX7_placeByCounting_1 ?_
  refine lv_aload_n hx hb dX7_placeByCounting_4 rfl (lv_at hl 0 rfl) ?_
  refine lv_iload_n hx hb dX7_placeByCounting_5 rfl (lv_at hl 1 rfl) ?_
  obtain ⟨q2, hcq2, h⟩ := hb_some h
  refine gxV_q (As := [.int a1]) (rest := [.ref (b 1)]) (BH := (fun (u : Unit) H => va_P (dC, dI) vwCl (hW N ca b I O J) H)) (BX := (fun (u : Unit) H => va_P (dC, dI) vwCl (hW N ca b I O J) H)) X hP hS (c_X7_known hlf hN hA I O J a1 q2 hcq2) (cwV 1 X.ts gX7_placeByCounting_X7_known rfl rfl rfl (by decide +kernel) ⟨Nat.le_of_ble_eq_true rfl, Nat.le_of_ble_eq_true rfl⟩) (gr7 X hP kc_0 (sk_in hN kc_0 (by decide))) rfl hl.1 rfl (Nat.le_of_ble_eq_true rfl) dX7_placeByCounting_6 ⟨Nat.le_of_ble_eq_true rfl, Nat.le_of_ble_eq_true rfl⟩ (fun k9 u9 H locs ce9 q9 hw hP hS hce hcv hcl => ?_) (fun r1 u9 H locs hw hP hS => ?_)
  · subst hw
    exact gOut (S := Unit) (BH := (fun (u : Unit) H => va_P (dC, dI) vwCl (hW N ca b I O J) H)) hlk hout hS hce hcv hcl () (Option.some.inj (show some (Sum.inl k9) = some res from h)).symm hP (Nat.le_of_ble_eq_true rfl) (Nat.le_of_ble_eq_true rfl)
  obtain ⟨r1, rfl, hw⟩ := hw
  subst hw
  have h := hsum_r h
  obtain ⟨n3, rfl, h⟩ := hb_some h
  obtain ⟨hk_n3, h⟩ := hk_some h
  obtain ⟨q5, hcq5, h⟩ := hb_some h
  refine gdV_i (As := [.ref (b n3)]) (rest := []) (BH := (fun (u : Unit) H => va_P (dC, dI) vwCl (hW N ca b I O J) H)) X hP hS (c_X3_countAheadOf hN hA I O J 1 n3 kc_1 hk_n3 q5 hcq5) (cwV 1 X.ts gX7_placeByCounting_X3_countAheadOf rfl rfl rfl (by decide +kernel) ⟨Nat.le_of_ble_eq_true rfl, Nat.le_of_ble_eq_true rfl⟩) (gr3 X hP kc_1 (sk_in hN kc_1 (by decide))) rfl hl.1 rfl (Nat.le_of_ble_eq_true rfl) dX7_placeByCounting_9 ⟨Nat.le_of_ble_eq_true rfl, Nat.le_of_ble_eq_true rfl⟩ (fun r4 u9 H locs hw hP hS => ?_)
  have hw := hw.symm
  subst hw
  refine vx_ret ?_
  refine W.widen (k := 1) (n := 6) (Nat.le_of_ble_eq_true rfl) (Nat.le_of_ble_eq_true rfl) ?_
  exact W.iret hx hb hr (fun t9 ht hW => ⟨⟨r4, (), rfl, (Option.some.inj h).symm, gEnd ht hP⟩, hS.F ht⟩) hS.2.2 dX7_placeByCounting_12 hlk
def f_X7_birdByOrder (a1 : Int32) (I : Nat → Nat → Int32) (O : Nat → Nat → Option Nat) : Option (Sum Nat Int32 × (Nat → Nat → Option Nat)) :=
  (f_X3_putInOrder 1 I O).bind fun O1 =>
  (f_X3_inOrder 1 a1 I O1).bind fun r3 =>
  hopt r3 (
    some ((Sum.inl 0), O1)) fun n5 => hk n5 6 <|
  some ((Sum.inr (I n5 0)), O1)
set_option maxHeartbeats 8000000 in
set_option maxRecDepth 100000 in
theorem c_X7_birdByOrder {l : Launch} (hlf : l.stackTraces = false) {dC : Nat → ClassId} {dI : Nat → Nat → Nat} {ca : Nat → ClassId} {b : Nat → Nat} {A : Nat → Prop} {N : Nat} (hN : 129 ≤ N) (hA : gAd A b N) (I : Nat → Nat → Int32) (O : Nat → Nat → Option Nat) (J : Nat → Nat → Int64) (a1 : Int32) (res : Sum Nat Int32 × (Nat → Nat → Option Nat)) (h : f_X7_birdByOrder a1 I O = some res) : vx_Met l yX7_birdByOrder wsX7_birdByOrder ({ frames := 6, cells := 1, slots := 6, locals := 90 } : Room) (va_Pc [.ref (b 0), .int a1] (gPre dC dI ca b A N I O J)) (va_Qi (fun (r : Int32) (u : Nat → Nat → Option Nat) => res = (Sum.inr r, u)) (fun (u : Nat → Nat → Option Nat) t => va_P (dC, dI) vwCl (hW N ca b I u J) t.heap) A) (vx_X (fun (u : Nat × (Nat → Nat → Option Nat)) => res = (Sum.inl u.1, u.2)) (fun E (u : Nat × (Nat → Nat → Option Nat)) t => E = gEn u.1 ∧ (fun (u : Nat → Nat → Option Nat) H => va_P (dC, dI) vwCl (hW N ca b I u J) H) u.2 t.heap) A) 1 6 A := by
  refine vx_ofW (cc := cX7_birdByOrder) (maxL := 3) (ret := (some .int)) (by decide) rfl ?_
  intro p e s m args below meth c s₁ B hml hout hv
  obtain ⟨rfl, hP, hK, hA2, hth⟩ := hv
  have hx := B.exec
  have hb := B.bytes
  have hr := B.returns
  have hlk := B.notSynchronized
  have X : gCx p s m ([.ref (b 0), .int a1] : List Value).toArray c RX7 cX7_birdByOrder wsX7_birdByOrder 3 dC dI ca b A N := ⟨hx, hb, hml, findClass_of_methodNamed B.named, atoms_spec (ws := wsX7_birdByOrder) B.pre, hK, hA, hA2, hth⟩
  have hi6 : ∀ w ∈ wsX60, w ∈ wsX7_birdByOrder := (fun w h => List.mem_cons_of_mem _ (List.mem_append_left _ (List.mem_append_left _ (List.mem_append_right _ h))))
  have hi7 : ∀ w ∈ wsX70, w ∈ wsX7_birdByOrder := (fun w h => List.mem_cons_of_mem _ (List.mem_append_left _ (List.mem_append_left _ (List.mem_append_left _ (List.mem_append_right _ h)))))
  have hg0 : ∀ w ∈ gWg0, w ∈ wsX7_birdByOrder := (fun w h => List.mem_cons_of_mem _ (List.mem_append_right _ h))
  have hS : va_S A s.heap s.heap [] := va_S.rf
  have hl := lv_entry ([.ref (b 0), .int a1] : List Value) (n := 3) (Nat.le_of_ble_eq_true rfl)
  rw [lg_entry_eq]
  generalize (lg_sl ([.ref (b 0), .int a1] : List Value) ++ List.replicate (3 - (lg_sl ([.ref (b 0), .int a1] : List Value)).length) Slot.unset).toArray = ls at hl ⊢
  have hl : lv_has ls 3 [(0, .ref (b 0)), (1, .int a1)] := hl
  unfold f_X7_birdByOrder at h
  refine lv_aload_n hx hb dX7_birdByOrder_0 rfl (lv_at hl 0 rfl) ?_
  refine gg7_0 X hP kc_0 (sk_in hN kc_0 (by decide)) hi7 (List.mem_of_getElem? (i := 3) rfl) dX7_birdByOrder_1 ?_
  obtain ⟨q2, hcq2, h⟩ := hb_some h
  refine gdV_v (As := []) (rest := []) (BH := (fun (u : Nat → Nat → Option Nat) H => va_P (dC, dI) vwCl (hW N ca b I u J) H)) X hP hS (c_X3_putInOrder hN hA I O J 1 kc_1 q2 hcq2) (cwV 0 X.ts gX7_birdByOrder_X3_putInOrder rfl rfl rfl (by decide +kernel) ⟨Nat.le_of_ble_eq_true rfl, Nat.le_of_ble_eq_true rfl⟩) (gr3 X hP kc_1 (sk_in hN kc_1 (by decide))) rfl hl.1 rfl (Nat.le_of_ble_eq_true rfl) dX7_birdByOrder_4 ⟨Nat.le_of_ble_eq_true rfl, Nat.le_of_ble_eq_true rfl⟩ (fun O1 H locs hw hP hS => ?_)
  have hw := hw.symm
  subst hw
  refine lv_aload_n hx hb dX7_birdByOrder_7 rfl (lv_at hl 0 rfl) ?_
  refine gg7_0 X hP kc_0 (sk_in hN kc_0 (by decide)) hi7 (List.mem_of_getElem? (i := 3) rfl) dX7_birdByOrder_8 ?_
  refine lv_iload_n hx hb dX7_birdByOrder_11 rfl (lv_at hl 1 rfl) ?_
  obtain ⟨q4, hcq4, h⟩ := hb_some h
  refine gdV_q (As := [.int a1]) (rest := []) (BH := (fun (u : Unit) H => va_P (dC, dI) vwCl (hW N ca b I O1 J) H)) X hP hS (c_X3_inOrder hN hA I O1 J 1 a1 kc_1 q4 hcq4) (cwV 1 X.ts gX7_birdByOrder_X3_inOrder rfl rfl rfl (by decide +kernel) ⟨Nat.le_of_ble_eq_true rfl, Nat.le_of_ble_eq_true rfl⟩) (gr3 X hP kc_1 (sk_in hN kc_1 (by decide))) rfl hl.1 rfl (Nat.le_of_ble_eq_true rfl) dX7_birdByOrder_12 ⟨Nat.le_of_ble_eq_true rfl, Nat.le_of_ble_eq_true rfl⟩ (fun r3 u9 H locs hw hP hS => ?_)
  obtain ⟨r3, rfl, hw⟩ := hw
  have hw := hw.symm
  subst hw
  refine gv_astore_n (r := Option.map b r3) (lv' := [(2, va_rf (Option.map b r3)), (0, .ref (b 0)), (1, .int a1)]) hx hb dX7_birdByOrder_15 rfl hl (by decide) rfl (fun ls hl => ?_)
  refine gv_aload_n (r := Option.map b r3) hx hb dX7_birdByOrder_16 rfl (lv_at hl 0 rfl) ?_
  cases r3 with
  | none =>
    have h := hopt_n h
    refine lv_ifnonnullN hx hb dX7_birdByOrder_17 ?_
    exact gt0 (S := Nat → Nat → Option Nat) (BH := (fun (u : Nat → Nat → Option Nat) H => va_P (dC, dI) vwCl (hW N ca b I u J) H)) X hlf hlk hout hS hg0 (List.mem_of_getElem? (i := 1) rfl) (List.mem_of_getElem? (i := 2) rfl) (List.mem_of_getElem? (i := 21) rfl) hl.1 dX7_birdByOrder_20 dX7_birdByOrder_23 dX7_birdByOrder_24 dX7_birdByOrder_26 dX7_birdByOrder_29 (Nat.le_of_ble_eq_true rfl) (Nat.le_of_ble_eq_true rfl) (Nat.le_of_ble_eq_true rfl) (Nat.le_of_ble_eq_true rfl) O1 (Option.some.inj h).symm (fun H1 hk1 => hP.kept (fun k q hq => hk1 q.1 (hP k q hq).lt)) (Nat.le_of_ble_eq_true rfl) (Nat.le_of_ble_eq_true rfl)
  | some n5 =>
    obtain ⟨hk_n5, h⟩ := hk_some (hopt_s h)
    refine lv_ifnonnull (tgt := 30) hx hb dX7_birdByOrder_17 (by decide) ?_
    refine lv_aload_n hx hb dX7_birdByOrder_30 rfl (lv_at hl 0 rfl) ?_
    refine gg6_0 X hP hk_n5 (sk_in hN hk_n5 (by decide)) hi6 (List.mem_of_getElem? (i := 4) rfl) dX7_birdByOrder_31 ?_
    refine vx_ret ?_
    refine W.widen (k := 1) (n := 6) (Nat.le_of_ble_eq_true rfl) (Nat.le_of_ble_eq_true rfl) ?_
    exact W.iret hx hb hr (fun t9 ht hW => ⟨⟨(I n5 0), O1, rfl, (Option.some.inj h).symm, gEnd ht hP⟩, hS.F ht⟩) hS.2.2 dX7_birdByOrder_34 hlk
def f_X7_gapAhead (a1 : Int32) (I : Nat → Nat → Int32) : Option (Sum Nat Int32) :=
  (f_X7_known a1 I).bind fun eq2 => hsum eq2 (fun k9 => some (Sum.inl k9)) fun r1 =>
  (r1).bind fun n3 => hk n3 6 <|
  (f_X3_gapOf 1 n3 I).bind fun r4 =>
  some (Sum.inr r4)
set_option maxHeartbeats 8000000 in
set_option maxRecDepth 100000 in
theorem c_X7_gapAhead {l : Launch} (hlf : l.stackTraces = false) {dC : Nat → ClassId} {dI : Nat → Nat → Nat} {ca : Nat → ClassId} {b : Nat → Nat} {A : Nat → Prop} {N : Nat} (hN : 129 ≤ N) (hA : gAd A b N) (I : Nat → Nat → Int32) (O : Nat → Nat → Option Nat) (J : Nat → Nat → Int64) (a1 : Int32) (res : Sum Nat Int32) (h : f_X7_gapAhead a1 I = some res) : vx_Met l yX7_gapAhead wsX7_gapAhead ({ frames := 7, cells := 1, slots := 6, locals := 112 } : Room) (va_Pc [.ref (b 0), .int a1] (gPre dC dI ca b A N I O J)) (va_Qi (fun (r : Int32) (u : Unit) => res = (Sum.inr r)) (fun (u : Unit) t => va_P (dC, dI) vwCl (hW N ca b I O J) t.heap) A) (vx_X (fun (u : Nat × Unit) => res = Sum.inl u.1) (fun E (u : Nat × Unit) t => E = gEn u.1 ∧ (fun (u : Unit) H => va_P (dC, dI) vwCl (hW N ca b I O J) H) u.2 t.heap) A) 1 6 A := by
  refine vx_ofW (cc := cX7_gapAhead) (maxL := 2) (ret := (some .int)) (by decide) rfl ?_
  intro p e s m args below meth c s₁ B hml hout hv
  obtain ⟨rfl, hP, hK, hA2, hth⟩ := hv
  have hx := B.exec
  have hb := B.bytes
  have hr := B.returns
  have hlk := B.notSynchronized
  have X : gCx p s m ([.ref (b 0), .int a1] : List Value).toArray c RX7 cX7_gapAhead wsX7_gapAhead 2 dC dI ca b A N := ⟨hx, hb, hml, findClass_of_methodNamed B.named, atoms_spec (ws := wsX7_gapAhead) B.pre, hK, hA, hA2, hth⟩
  have hi7 : ∀ w ∈ wsX70, w ∈ wsX7_gapAhead := (fun w h => List.mem_cons_of_mem _ (List.mem_append_left _ (List.mem_append_left _ (List.mem_append_left _ (List.mem_append_right _ h)))))
  have hS : va_S A s.heap s.heap [] := va_S.rf
  have hl := lv_entry ([.ref (b 0), .int a1] : List Value) (n := 2) (Nat.le_of_ble_eq_true rfl)
  rw [lg_entry_eq]
  generalize (lg_sl ([.ref (b 0), .int a1] : List Value) ++ List.replicate (2 - (lg_sl ([.ref (b 0), .int a1] : List Value)).length) Slot.unset).toArray = ls at hl ⊢
  have hl : lv_has ls 2 [(0, .ref (b 0)), (1, .int a1)] := hl
  unfold f_X7_gapAhead at h
  refine lv_aload_n hx hb dX7_gapAhead_0 rfl (lv_at hl 0 rfl) ?_
  refine gg7_0 X hP kc_0 (sk_in hN kc_0 (by decide)) hi7 (List.mem_of_getElem? (i := 1) rfl) dX7_gapAhead_1 ?_
  refine lv_aload_n hx hb dX7_gapAhead_4 rfl (lv_at hl 0 rfl) ?_
  refine lv_iload_n hx hb dX7_gapAhead_5 rfl (lv_at hl 1 rfl) ?_
  obtain ⟨q2, hcq2, h⟩ := hb_some h
  refine gxV_q (As := [.int a1]) (rest := [.ref (b 1)]) (BH := (fun (u : Unit) H => va_P (dC, dI) vwCl (hW N ca b I O J) H)) (BX := (fun (u : Unit) H => va_P (dC, dI) vwCl (hW N ca b I O J) H)) X hP hS (c_X7_known hlf hN hA I O J a1 q2 hcq2) (cwV 1 X.ts gX7_gapAhead_X7_known rfl rfl rfl (by decide +kernel) ⟨Nat.le_of_ble_eq_true rfl, Nat.le_of_ble_eq_true rfl⟩) (gr7 X hP kc_0 (sk_in hN kc_0 (by decide))) rfl hl.1 rfl (Nat.le_of_ble_eq_true rfl) dX7_gapAhead_6 ⟨Nat.le_of_ble_eq_true rfl, Nat.le_of_ble_eq_true rfl⟩ (fun k9 u9 H locs ce9 q9 hw hP hS hce hcv hcl => ?_) (fun r1 u9 H locs hw hP hS => ?_)
  · subst hw
    exact gOut (S := Unit) (BH := (fun (u : Unit) H => va_P (dC, dI) vwCl (hW N ca b I O J) H)) hlk hout hS hce hcv hcl () (Option.some.inj (show some (Sum.inl k9) = some res from h)).symm hP (Nat.le_of_ble_eq_true rfl) (Nat.le_of_ble_eq_true rfl)
  obtain ⟨r1, rfl, hw⟩ := hw
  subst hw
  have h := hsum_r h
  obtain ⟨n3, rfl, h⟩ := hb_some h
  obtain ⟨hk_n3, h⟩ := hk_some h
  obtain ⟨q5, hcq5, h⟩ := hb_some h
  refine gdV_i (As := [.ref (b n3)]) (rest := []) (BH := (fun (u : Unit) H => va_P (dC, dI) vwCl (hW N ca b I O J) H)) X hP hS (c_X3_gapOf hN hA I O J 1 n3 kc_1 hk_n3 q5 hcq5) (cwV 1 X.ts gX7_gapAhead_X3_gapOf rfl rfl rfl (by decide +kernel) ⟨Nat.le_of_ble_eq_true rfl, Nat.le_of_ble_eq_true rfl⟩) (gr3 X hP kc_1 (sk_in hN kc_1 (by decide))) rfl hl.1 rfl (Nat.le_of_ble_eq_true rfl) dX7_gapAhead_9 ⟨Nat.le_of_ble_eq_true rfl, Nat.le_of_ble_eq_true rfl⟩ (fun r4 u9 H locs hw hP hS => ?_)
  have hw := hw.symm
  subst hw
  refine vx_ret ?_
  refine W.widen (k := 1) (n := 6) (Nat.le_of_ble_eq_true rfl) (Nat.le_of_ble_eq_true rfl) ?_
  exact W.iret hx hb hr (fun t9 ht hW => ⟨⟨r4, (), rfl, (Option.some.inj h).symm, gEnd ht hP⟩, hS.F ht⟩) hS.2.2 dX7_gapAhead_12 hlk
def f_X7_knownToFly (a1 : Int32) (I : Nat → Nat → Int32) : Option (Sum Nat (Option Nat)) :=
  (f_X7_known a1 I).bind fun eq2 => hsum eq2 (fun k9 => some (Sum.inl k9)) fun r1 =>
  (r1).bind fun n3 => hk n3 6 <|
  if (I n3 9) = (1 : Int32) then
    some (Sum.inr (some n3))
  else
    some (Sum.inl 2)
set_option maxHeartbeats 8000000 in
set_option maxRecDepth 100000 in
theorem c_X7_knownToFly {l : Launch} (hlf : l.stackTraces = false) {dC : Nat → ClassId} {dI : Nat → Nat → Nat} {ca : Nat → ClassId} {b : Nat → Nat} {A : Nat → Prop} {N : Nat} (hN : 129 ≤ N) (hA : gAd A b N) (I : Nat → Nat → Int32) (O : Nat → Nat → Option Nat) (J : Nat → Nat → Int64) (a1 : Int32) (res : Sum Nat (Option Nat)) (h : f_X7_knownToFly a1 I = some res) : vx_Met l yX7_knownToFly wsX7_knownToFly ({ frames := 7, cells := 2, slots := 12, locals := 112 } : Room) (va_Pc [.ref (b 0), .int a1] (gPre dC dI ca b A N I O J)) (va_Qq (fun (r : Option Nat) (u : Unit) => ∃ v, r = Option.map b v ∧ res = (Sum.inr v)) (fun (u : Unit) t => va_P (dC, dI) vwCl (hW N ca b I O J) t.heap) A) (vx_X (fun (u : Nat × Unit) => res = Sum.inl u.1) (fun E (u : Nat × Unit) t => E = gEn u.1 ∧ (fun (u : Unit) H => va_P (dC, dI) vwCl (hW N ca b I O J) H) u.2 t.heap) A) 2 12 A := by
  refine vx_ofW (cc := cX7_knownToFly) (maxL := 3) (ret := (some (.object "SparrowRace$Sparrow"))) (by decide) rfl ?_
  intro p e s m args below meth c s₁ B hml hout hv
  obtain ⟨rfl, hP, hK, hA2, hth⟩ := hv
  have hx := B.exec
  have hb := B.bytes
  have hr := B.returns
  have hlk := B.notSynchronized
  have X : gCx p s m ([.ref (b 0), .int a1] : List Value).toArray c RX7 cX7_knownToFly wsX7_knownToFly 3 dC dI ca b A N := ⟨hx, hb, hml, findClass_of_methodNamed B.named, atoms_spec (ws := wsX7_knownToFly) B.pre, hK, hA, hA2, hth⟩
  have hi6 : ∀ w ∈ wsX60, w ∈ wsX7_knownToFly := (fun w h => List.mem_cons_of_mem _ (List.mem_append_left _ (List.mem_append_left _ (List.mem_append_left _ (List.mem_append_left _ (List.mem_append_right _ h))))))
  have hg2 : ∀ w ∈ gWg2, w ∈ wsX7_knownToFly := (fun w h => List.mem_cons_of_mem _ (List.mem_append_left _ (List.mem_append_right _ h)))
  have hS : va_S A s.heap s.heap [] := va_S.rf
  have hl := lv_entry ([.ref (b 0), .int a1] : List Value) (n := 3) (Nat.le_of_ble_eq_true rfl)
  rw [lg_entry_eq]
  generalize (lg_sl ([.ref (b 0), .int a1] : List Value) ++ List.replicate (3 - (lg_sl ([.ref (b 0), .int a1] : List Value)).length) Slot.unset).toArray = ls at hl ⊢
  have hl : lv_has ls 3 [(0, .ref (b 0)), (1, .int a1)] := hl
  unfold f_X7_knownToFly at h
  refine lv_aload_n hx hb dX7_knownToFly_0 rfl (lv_at hl 0 rfl) ?_
  refine lv_iload_n hx hb dX7_knownToFly_1 rfl (lv_at hl 1 rfl) ?_
  obtain ⟨q2, hcq2, h⟩ := hb_some h
  refine gxV_q (As := [.int a1]) (rest := []) (BH := (fun (u : Unit) H => va_P (dC, dI) vwCl (hW N ca b I O J) H)) (BX := (fun (u : Unit) H => va_P (dC, dI) vwCl (hW N ca b I O J) H)) X hP hS (c_X7_known hlf hN hA I O J a1 q2 hcq2) (cwV 1 X.ts gX7_knownToFly_X7_known rfl rfl rfl (by decide +kernel) ⟨Nat.le_of_ble_eq_true rfl, Nat.le_of_ble_eq_true rfl⟩) (gr7 X hP kc_0 (sk_in hN kc_0 (by decide))) rfl hl.1 rfl (Nat.le_of_ble_eq_true rfl) dX7_knownToFly_2 ⟨Nat.le_of_ble_eq_true rfl, Nat.le_of_ble_eq_true rfl⟩ (fun k9 u9 H locs ce9 q9 hw hP hS hce hcv hcl => ?_) (fun r1 u9 H locs hw hP hS => ?_)
  · subst hw
    exact gOut (S := Unit) (BH := (fun (u : Unit) H => va_P (dC, dI) vwCl (hW N ca b I O J) H)) hlk hout hS hce hcv hcl () (Option.some.inj (show some (Sum.inl k9) = some res from h)).symm hP (Nat.le_of_ble_eq_true rfl) (Nat.le_of_ble_eq_true rfl)
  obtain ⟨r1, rfl, hw⟩ := hw
  subst hw
  have h := hsum_r h
  refine gv_astore_n (r := Option.map b r1) (lv' := [(2, va_rf (Option.map b r1)), (0, .ref (b 0)), (1, .int a1)]) hx hb dX7_knownToFly_5 rfl hl (by decide) rfl (fun ls hl => ?_)
  refine gv_aload_n (r := Option.map b r1) hx hb dX7_knownToFly_6 rfl (lv_at hl 0 rfl) ?_
  obtain ⟨n3, rfl, h⟩ := hb_some h
  obtain ⟨hk_n3, h⟩ := hk_some h
  refine gg6_9 X hP hk_n3 (sk_in hN hk_n3 (by decide)) hi6 (List.mem_of_getElem? (i := 3) rfl) dX7_knownToFly_7 ?_
  refine lv_iconst (v := 1) hx hb dX7_knownToFly_10 (by decide) ?_
  refine lv_icmp_eq (tgt := 25) hx hb dX7_knownToFly_11 (by decide) (fun c4 => ?_) (fun c4 => ?_)
  · have h := gif_t c4 h
    refine lv_aload_n hx hb dX7_knownToFly_25 rfl (lv_at hl 0 rfl) ?_
    refine vx_ret ?_
    refine W.widen (k := 2) (n := 12) (Nat.le_of_ble_eq_true rfl) (Nat.le_of_ble_eq_true rfl) ?_
    exact W.aret (v := .ref (b n3)) (rt := (.object "SparrowRace$Sparrow")) hx hb hr (Or.inl ⟨_, rfl⟩) (Or.inr ⟨_, rfl⟩) (fun t9 ht hW => ⟨⟨Option.map b (some n3), (), rfl, ⟨(some n3), rfl, (Option.some.inj h).symm⟩, gEnd ht hP⟩, hS.F ht⟩) hS.2.2 dX7_knownToFly_26 hlk
  · have h := gif_f c4 h
    exact gt2w (S := Unit) (BH := (fun (u : Unit) H => va_P (dC, dI) vwCl (hW N ca b I O J) H)) X hlf hlk hout hS hg2 (List.mem_of_getElem? (i := 1) rfl) (List.mem_of_getElem? (i := 2) rfl) (List.mem_of_getElem? (i := 22) rfl) hl.1 dX7_knownToFly_14 dX7_knownToFly_17 dX7_knownToFly_18 dX7_knownToFly_21 dX7_knownToFly_24 (Nat.le_of_ble_eq_true rfl) (Nat.le_of_ble_eq_true rfl) (Nat.le_of_ble_eq_true rfl) (Nat.le_of_ble_eq_true rfl) () (Option.some.inj h).symm (fun H1 hk1 => hP.kept (fun k q hq => hk1 q.1 (hP k q hq).lt)) (Nat.le_of_ble_eq_true rfl) (Nat.le_of_ble_eq_true rfl)
def f_X7_isDrafting (a1 : Int32) (I : Nat → Nat → Int32) : Option (Sum Nat Int32) :=
  (f_X7_knownToFly a1 I).bind fun eq2 => hsum eq2 (fun k9 => some (Sum.inl k9)) fun r1 =>
  (r1).bind fun n3 => hk n3 6 <|
  (f_X3_nextAhead 1 n3 I).bind fun r4 =>
  (f_X3_draftFeet 1 n3 r4 I).bind fun r6 =>
  if r6 ≤ 0 then
    some (Sum.inr (0 : Int32))
  else
    some (Sum.inr (1 : Int32))
set_option maxHeartbeats 8000000 in
set_option maxRecDepth 100000 in
theorem c_X7_isDrafting {l : Launch} (hlf : l.stackTraces = false) {dC : Nat → ClassId} {dI : Nat → Nat → Nat} {ca : Nat → ClassId} {b : Nat → Nat} {A : Nat → Prop} {N : Nat} (hN : 129 ≤ N) (hA : gAd A b N) (I : Nat → Nat → Int32) (O : Nat → Nat → Option Nat) (J : Nat → Nat → Int64) (a1 : Int32) (res : Sum Nat Int32) (h : f_X7_isDrafting a1 I = some res) : vx_Met l yX7_isDrafting wsX7_isDrafting ({ frames := 8, cells := 2, slots := 12, locals := 134 } : Room) (va_Pc [.ref (b 0), .int a1] (gPre dC dI ca b A N I O J)) (va_Qi (fun (r : Int32) (u : Unit) => res = (Sum.inr r)) (fun (u : Unit) t => va_P (dC, dI) vwCl (hW N ca b I O J) t.heap) A) (vx_X (fun (u : Nat × Unit) => res = Sum.inl u.1) (fun E (u : Nat × Unit) t => E = gEn u.1 ∧ (fun (u : Unit) H => va_P (dC, dI) vwCl (hW N ca b I O J) H) u.2 t.heap) A) 2 12 A := by
  refine vx_ofW (cc := cX7_isDrafting) (maxL := 3) (ret := (some .boolean)) (by decide) rfl ?_
  intro p e s m args below meth c s₁ B hml hout hv
  obtain ⟨rfl, hP, hK, hA2, hth⟩ := hv
  have hx := B.exec
  have hb := B.bytes
  have hr := B.returns
  have hlk := B.notSynchronized
  have X : gCx p s m ([.ref (b 0), .int a1] : List Value).toArray c RX7 cX7_isDrafting wsX7_isDrafting 3 dC dI ca b A N := ⟨hx, hb, hml, findClass_of_methodNamed B.named, atoms_spec (ws := wsX7_isDrafting) B.pre, hK, hA, hA2, hth⟩
  have hi7 : ∀ w ∈ wsX70, w ∈ wsX7_isDrafting := (fun w h => List.mem_cons_of_mem _ (List.mem_append_left _ (List.mem_append_left _ (List.mem_append_left _ (List.mem_append_left _ (List.mem_append_right _ h))))))
  have hS : va_S A s.heap s.heap [] := va_S.rf
  have hl := lv_entry ([.ref (b 0), .int a1] : List Value) (n := 3) (Nat.le_of_ble_eq_true rfl)
  rw [lg_entry_eq]
  generalize (lg_sl ([.ref (b 0), .int a1] : List Value) ++ List.replicate (3 - (lg_sl ([.ref (b 0), .int a1] : List Value)).length) Slot.unset).toArray = ls at hl ⊢
  have hl : lv_has ls 3 [(0, .ref (b 0)), (1, .int a1)] := hl
  unfold f_X7_isDrafting at h
  refine lv_aload_n hx hb dX7_isDrafting_0 rfl (lv_at hl 0 rfl) ?_
  refine lv_iload_n hx hb dX7_isDrafting_1 rfl (lv_at hl 1 rfl) ?_
  obtain ⟨q2, hcq2, h⟩ := hb_some h
  refine gxV_q (As := [.int a1]) (rest := []) (BH := (fun (u : Unit) H => va_P (dC, dI) vwCl (hW N ca b I O J) H)) (BX := (fun (u : Unit) H => va_P (dC, dI) vwCl (hW N ca b I O J) H)) X hP hS (c_X7_knownToFly hlf hN hA I O J a1 q2 hcq2) (cwV 1 X.ts gX7_isDrafting_X7_knownToFly rfl rfl rfl (by decide +kernel) ⟨Nat.le_of_ble_eq_true rfl, Nat.le_of_ble_eq_true rfl⟩) (gr7 X hP kc_0 (sk_in hN kc_0 (by decide))) rfl hl.1 rfl (Nat.le_of_ble_eq_true rfl) dX7_isDrafting_2 ⟨Nat.le_of_ble_eq_true rfl, Nat.le_of_ble_eq_true rfl⟩ (fun k9 u9 H locs ce9 q9 hw hP hS hce hcv hcl => ?_) (fun r1 u9 H locs hw hP hS => ?_)
  · subst hw
    exact gOut (S := Unit) (BH := (fun (u : Unit) H => va_P (dC, dI) vwCl (hW N ca b I O J) H)) hlk hout hS hce hcv hcl () (Option.some.inj (show some (Sum.inl k9) = some res from h)).symm hP (Nat.le_of_ble_eq_true rfl) (Nat.le_of_ble_eq_true rfl)
  obtain ⟨r1, rfl, hw⟩ := hw
  subst hw
  have h := hsum_r h
  refine gv_astore_n (r := Option.map b r1) (lv' := [(2, va_rf (Option.map b r1)), (0, .ref (b 0)), (1, .int a1)]) hx hb dX7_isDrafting_5 rfl hl (by decide) rfl (fun ls hl => ?_)
  refine lv_aload_n hx hb dX7_isDrafting_6 rfl (lv_at hl 1 rfl) ?_
  refine gg7_0 X hP kc_0 (sk_in hN kc_0 (by decide)) hi7 (List.mem_of_getElem? (i := 1) rfl) dX7_isDrafting_7 ?_
  refine gv_aload_n (r := Option.map b r1) hx hb dX7_isDrafting_10 rfl (lv_at hl 0 rfl) ?_
  refine lv_aload_n hx hb dX7_isDrafting_11 rfl (lv_at hl 1 rfl) ?_
  refine gg7_0 X hP kc_0 (sk_in hN kc_0 (by decide)) hi7 (List.mem_of_getElem? (i := 1) rfl) dX7_isDrafting_12 ?_
  refine gv_aload_n (r := Option.map b r1) hx hb dX7_isDrafting_15 rfl (lv_at hl 0 rfl) ?_
  obtain ⟨n3, rfl, h⟩ := hb_some h
  obtain ⟨hk_n3, h⟩ := hk_some h
  obtain ⟨q5, hcq5, h⟩ := hb_some h
  refine gdV_q (As := [.ref (b n3)]) (rest := [.ref (b n3), .ref (b 1)]) (BH := (fun (u : Unit) H => va_P (dC, dI) vwCl (hW N ca b I O J) H)) X hP hS (c_X3_nextAhead hN hA I O J 1 n3 kc_1 hk_n3 q5 hcq5) (cwV 1 X.ts gX7_isDrafting_X3_nextAhead rfl rfl rfl (by decide +kernel) ⟨Nat.le_of_ble_eq_true rfl, Nat.le_of_ble_eq_true rfl⟩) (gr3 X hP kc_1 (sk_in hN kc_1 (by decide))) rfl hl.1 rfl (Nat.le_of_ble_eq_true rfl) dX7_isDrafting_16 ⟨Nat.le_of_ble_eq_true rfl, Nat.le_of_ble_eq_true rfl⟩ (fun r4 u9 H locs hw hP hS => ?_)
  obtain ⟨r4, rfl, hw⟩ := hw
  have hw := hw.symm
  subst hw
  obtain ⟨q7, hcq7, h⟩ := hb_some h
  refine gdV_i (As := [.ref (b n3), va_rf (Option.map b r4)]) (rest := []) (BH := (fun (u : Unit) H => va_P (dC, dI) vwCl (hW N ca b I O J) H)) X hP hS (c_X3_draftFeet hN hA I O J 1 n3 r4 kc_1 hk_n3 q7 hcq7) (cwV 2 X.ts gX7_isDrafting_X3_draftFeet rfl rfl rfl (by decide +kernel) ⟨Nat.le_of_ble_eq_true rfl, Nat.le_of_ble_eq_true rfl⟩) (gr3 X hP kc_1 (sk_in hN kc_1 (by decide))) rfl hl.1 rfl (Nat.le_of_ble_eq_true rfl) dX7_isDrafting_19 ⟨Nat.le_of_ble_eq_true rfl, Nat.le_of_ble_eq_true rfl⟩ (fun r6 u9 H locs hw hP hS => ?_)
  have hw := hw.symm
  subst hw
  refine lv_if_le (tgt := 29) hx hb dX7_isDrafting_22 (by decide) (fun c8 => ?_) (fun c8 => ?_)
  · have h := gif_t c8 h
    refine lv_iconst (v := 0) hx hb dX7_isDrafting_29 (by decide) ?_
    refine vx_ret ?_
    refine W.widen (k := 2) (n := 12) (Nat.le_of_ble_eq_true rfl) (Nat.le_of_ble_eq_true rfl) ?_
    exact W.zret (ty := .boolean) hx hb hr (by decide) (fun t9 ht hW => ⟨⟨(0 : Int32), (), rfl, (Option.some.inj h).symm, gEnd ht hP⟩, hS.F ht⟩) hS.2.2 dX7_isDrafting_30 hlk
  · have h := gif_f c8 h
    refine lv_iconst (v := 1) hx hb dX7_isDrafting_25 (by decide) ?_
    refine lv_goto (tgt := 30) hx hb dX7_isDrafting_26 (by decide) ?_
    refine vx_ret ?_
    refine W.widen (k := 2) (n := 12) (Nat.le_of_ble_eq_true rfl) (Nat.le_of_ble_eq_true rfl) ?_
    exact W.zret (ty := .boolean) hx hb hr (by decide) (fun t9 ht hW => ⟨⟨(1 : Int32), (), rfl, (Option.some.inj h).symm, gEnd ht hP⟩, hS.F ht⟩) hS.2.2 dX7_isDrafting_30 hlk
def f_X7_whereIs (a1 : Int32) (I : Nat → Nat → Int32) : Option (Sum Nat Int32) :=
  (f_X7_known a1 I).bind fun eq2 => hsum eq2 (fun k9 => some (Sum.inl k9)) fun r1 =>
  (r1).bind fun n3 => hk n3 6 <|
  (f_X6_partOfCourse n3 I).bind fun r4 =>
  some (Sum.inr r4)
set_option maxHeartbeats 8000000 in
set_option maxRecDepth 100000 in
theorem c_X7_whereIs {l : Launch} (hlf : l.stackTraces = false) {dC : Nat → ClassId} {dI : Nat → Nat → Nat} {ca : Nat → ClassId} {b : Nat → Nat} {A : Nat → Prop} {N : Nat} (hN : 129 ≤ N) (hA : gAd A b N) (I : Nat → Nat → Int32) (O : Nat → Nat → Option Nat) (J : Nat → Nat → Int64) (a1 : Int32) (res : Sum Nat Int32) (h : f_X7_whereIs a1 I = some res) : vx_Met l yX7_whereIs wsX7_whereIs ({ frames := 7, cells := 1, slots := 6, locals := 112 } : Room) (va_Pc [.ref (b 0), .int a1] (gPre dC dI ca b A N I O J)) (va_Qi (fun (r : Int32) (u : Unit) => res = (Sum.inr r)) (fun (u : Unit) t => va_P (dC, dI) vwCl (hW N ca b I O J) t.heap) A) (vx_X (fun (u : Nat × Unit) => res = Sum.inl u.1) (fun E (u : Nat × Unit) t => E = gEn u.1 ∧ (fun (u : Unit) H => va_P (dC, dI) vwCl (hW N ca b I O J) H) u.2 t.heap) A) 1 6 A := by
  refine vx_ofW (cc := cX7_whereIs) (maxL := 2) (ret := (some .int)) (by decide) rfl ?_
  intro p e s m args below meth c s₁ B hml hout hv
  obtain ⟨rfl, hP, hK, hA2, hth⟩ := hv
  have hx := B.exec
  have hb := B.bytes
  have hr := B.returns
  have hlk := B.notSynchronized
  have X : gCx p s m ([.ref (b 0), .int a1] : List Value).toArray c RX7 cX7_whereIs wsX7_whereIs 2 dC dI ca b A N := ⟨hx, hb, hml, findClass_of_methodNamed B.named, atoms_spec (ws := wsX7_whereIs) B.pre, hK, hA, hA2, hth⟩
  have hS : va_S A s.heap s.heap [] := va_S.rf
  have hl := lv_entry ([.ref (b 0), .int a1] : List Value) (n := 2) (Nat.le_of_ble_eq_true rfl)
  rw [lg_entry_eq]
  generalize (lg_sl ([.ref (b 0), .int a1] : List Value) ++ List.replicate (2 - (lg_sl ([.ref (b 0), .int a1] : List Value)).length) Slot.unset).toArray = ls at hl ⊢
  have hl : lv_has ls 2 [(0, .ref (b 0)), (1, .int a1)] := hl
  unfold f_X7_whereIs at h
  refine lv_aload_n hx hb dX7_whereIs_0 rfl (lv_at hl 0 rfl) ?_
  refine lv_iload_n hx hb dX7_whereIs_1 rfl (lv_at hl 1 rfl) ?_
  obtain ⟨q2, hcq2, h⟩ := hb_some h
  refine gxV_q (As := [.int a1]) (rest := []) (BH := (fun (u : Unit) H => va_P (dC, dI) vwCl (hW N ca b I O J) H)) (BX := (fun (u : Unit) H => va_P (dC, dI) vwCl (hW N ca b I O J) H)) X hP hS (c_X7_known hlf hN hA I O J a1 q2 hcq2) (cwV 1 X.ts gX7_whereIs_X7_known rfl rfl rfl (by decide +kernel) ⟨Nat.le_of_ble_eq_true rfl, Nat.le_of_ble_eq_true rfl⟩) (gr7 X hP kc_0 (sk_in hN kc_0 (by decide))) rfl hl.1 rfl (Nat.le_of_ble_eq_true rfl) dX7_whereIs_2 ⟨Nat.le_of_ble_eq_true rfl, Nat.le_of_ble_eq_true rfl⟩ (fun k9 u9 H locs ce9 q9 hw hP hS hce hcv hcl => ?_) (fun r1 u9 H locs hw hP hS => ?_)
  · subst hw
    exact gOut (S := Unit) (BH := (fun (u : Unit) H => va_P (dC, dI) vwCl (hW N ca b I O J) H)) hlk hout hS hce hcv hcl () (Option.some.inj (show some (Sum.inl k9) = some res from h)).symm hP (Nat.le_of_ble_eq_true rfl) (Nat.le_of_ble_eq_true rfl)
  obtain ⟨r1, rfl, hw⟩ := hw
  subst hw
  have h := hsum_r h
  obtain ⟨n3, rfl, h⟩ := hb_some h
  obtain ⟨hk_n3, h⟩ := hk_some h
  obtain ⟨q5, hcq5, h⟩ := hb_some h
  refine gdV_i (As := []) (rest := []) (BH := (fun (u : Unit) H => va_P (dC, dI) vwCl (hW N ca b I O J) H)) X hP hS (c_X6_partOfCourse hN hA I O J n3 hk_n3 q5 hcq5) (cwV 0 X.ts gX7_whereIs_X6_partOfCourse rfl rfl rfl (by decide +kernel) ⟨Nat.le_of_ble_eq_true rfl, Nat.le_of_ble_eq_true rfl⟩) (gr6 X hP hk_n3 (sk_in hN hk_n3 (by decide))) rfl hl.1 rfl (Nat.le_of_ble_eq_true rfl) dX7_whereIs_5 ⟨Nat.le_of_ble_eq_true rfl, Nat.le_of_ble_eq_true rfl⟩ (fun r4 u9 H locs hw hP hS => ?_)
  have hw := hw.symm
  subst hw
  refine vx_ret ?_
  refine W.widen (k := 1) (n := 6) (Nat.le_of_ble_eq_true rfl) (Nat.le_of_ble_eq_true rfl) ?_
  exact W.iret hx hb hr (fun t9 ht hW => ⟨⟨r4, (), rfl, (Option.some.inj h).symm, gEnd ht hP⟩, hS.F ht⟩) hS.2.2 dX7_whereIs_8 hlk
def f_X7_allowance (a1 : Int32) (I : Nat → Nat → Int32) : Option (Sum Nat Int32) :=
  (f_X7_knownToFly a1 I).bind fun eq2 => hsum eq2 (fun k9 => some (Sum.inl k9)) fun r1 =>
  (r1).bind fun n3 => hk n3 6 <|
  (f_X3_allowedFeet 1 n3 I).bind fun r4 =>
  some (Sum.inr r4)
set_option maxHeartbeats 8000000 in
set_option maxRecDepth 100000 in
theorem c_X7_allowance {l : Launch} (hlf : l.stackTraces = false) {dC : Nat → ClassId} {dI : Nat → Nat → Nat} {ca : Nat → ClassId} {b : Nat → Nat} {A : Nat → Prop} {N : Nat} (hN : 129 ≤ N) (hA : gAd A b N) (I : Nat → Nat → Int32) (O : Nat → Nat → Option Nat) (J : Nat → Nat → Int64) (a1 : Int32) (res : Sum Nat Int32) (h : f_X7_allowance a1 I = some res) : vx_Met l yX7_allowance wsX7_allowance ({ frames := 8, cells := 2, slots := 12, locals := 134 } : Room) (va_Pc [.ref (b 0), .int a1] (gPre dC dI ca b A N I O J)) (va_Qi (fun (r : Int32) (u : Unit) => res = (Sum.inr r)) (fun (u : Unit) t => va_P (dC, dI) vwCl (hW N ca b I O J) t.heap) A) (vx_X (fun (u : Nat × Unit) => res = Sum.inl u.1) (fun E (u : Nat × Unit) t => E = gEn u.1 ∧ (fun (u : Unit) H => va_P (dC, dI) vwCl (hW N ca b I O J) H) u.2 t.heap) A) 2 12 A := by
  refine vx_ofW (cc := cX7_allowance) (maxL := 2) (ret := (some .int)) (by decide) rfl ?_
  intro p e s m args below meth c s₁ B hml hout hv
  obtain ⟨rfl, hP, hK, hA2, hth⟩ := hv
  have hx := B.exec
  have hb := B.bytes
  have hr := B.returns
  have hlk := B.notSynchronized
  have X : gCx p s m ([.ref (b 0), .int a1] : List Value).toArray c RX7 cX7_allowance wsX7_allowance 2 dC dI ca b A N := ⟨hx, hb, hml, findClass_of_methodNamed B.named, atoms_spec (ws := wsX7_allowance) B.pre, hK, hA, hA2, hth⟩
  have hi7 : ∀ w ∈ wsX70, w ∈ wsX7_allowance := (fun w h => List.mem_cons_of_mem _ (List.mem_append_left _ (List.mem_append_left _ (List.mem_append_left _ (List.mem_append_left _ (List.mem_append_right _ h))))))
  have hS : va_S A s.heap s.heap [] := va_S.rf
  have hl := lv_entry ([.ref (b 0), .int a1] : List Value) (n := 2) (Nat.le_of_ble_eq_true rfl)
  rw [lg_entry_eq]
  generalize (lg_sl ([.ref (b 0), .int a1] : List Value) ++ List.replicate (2 - (lg_sl ([.ref (b 0), .int a1] : List Value)).length) Slot.unset).toArray = ls at hl ⊢
  have hl : lv_has ls 2 [(0, .ref (b 0)), (1, .int a1)] := hl
  unfold f_X7_allowance at h
  refine lv_aload_n hx hb dX7_allowance_0 rfl (lv_at hl 0 rfl) ?_
  refine gg7_0 X hP kc_0 (sk_in hN kc_0 (by decide)) hi7 (List.mem_of_getElem? (i := 1) rfl) dX7_allowance_1 ?_
  refine lv_aload_n hx hb dX7_allowance_4 rfl (lv_at hl 0 rfl) ?_
  refine lv_iload_n hx hb dX7_allowance_5 rfl (lv_at hl 1 rfl) ?_
  obtain ⟨q2, hcq2, h⟩ := hb_some h
  refine gxV_q (As := [.int a1]) (rest := [.ref (b 1)]) (BH := (fun (u : Unit) H => va_P (dC, dI) vwCl (hW N ca b I O J) H)) (BX := (fun (u : Unit) H => va_P (dC, dI) vwCl (hW N ca b I O J) H)) X hP hS (c_X7_knownToFly hlf hN hA I O J a1 q2 hcq2) (cwV 1 X.ts gX7_allowance_X7_knownToFly rfl rfl rfl (by decide +kernel) ⟨Nat.le_of_ble_eq_true rfl, Nat.le_of_ble_eq_true rfl⟩) (gr7 X hP kc_0 (sk_in hN kc_0 (by decide))) rfl hl.1 rfl (Nat.le_of_ble_eq_true rfl) dX7_allowance_6 ⟨Nat.le_of_ble_eq_true rfl, Nat.le_of_ble_eq_true rfl⟩ (fun k9 u9 H locs ce9 q9 hw hP hS hce hcv hcl => ?_) (fun r1 u9 H locs hw hP hS => ?_)
  · subst hw
    exact gOut (S := Unit) (BH := (fun (u : Unit) H => va_P (dC, dI) vwCl (hW N ca b I O J) H)) hlk hout hS hce hcv hcl () (Option.some.inj (show some (Sum.inl k9) = some res from h)).symm hP (Nat.le_of_ble_eq_true rfl) (Nat.le_of_ble_eq_true rfl)
  obtain ⟨r1, rfl, hw⟩ := hw
  subst hw
  have h := hsum_r h
  obtain ⟨n3, rfl, h⟩ := hb_some h
  obtain ⟨hk_n3, h⟩ := hk_some h
  obtain ⟨q5, hcq5, h⟩ := hb_some h
  refine gdV_i (As := [.ref (b n3)]) (rest := []) (BH := (fun (u : Unit) H => va_P (dC, dI) vwCl (hW N ca b I O J) H)) X hP hS (c_X3_allowedFeet hN hA I O J 1 n3 kc_1 hk_n3 q5 hcq5) (cwV 1 X.ts gX7_allowance_X3_allowedFeet rfl rfl rfl (by decide +kernel) ⟨Nat.le_of_ble_eq_true rfl, Nat.le_of_ble_eq_true rfl⟩) (gr3 X hP kc_1 (sk_in hN kc_1 (by decide))) rfl hl.1 rfl (Nat.le_of_ble_eq_true rfl) dX7_allowance_9 ⟨Nat.le_of_ble_eq_true rfl, Nat.le_of_ble_eq_true rfl⟩ (fun r4 u9 H locs hw hP hS => ?_)
  have hw := hw.symm
  subst hw
  refine vx_ret ?_
  refine W.widen (k := 2) (n := 12) (Nat.le_of_ble_eq_true rfl) (Nat.le_of_ble_eq_true rfl) ?_
  exact W.iret hx hb hr (fun t9 ht hW => ⟨⟨r4, (), rfl, (Option.some.inj h).symm, gEnd ht hP⟩, hS.F ht⟩) hS.2.2 dX7_allowance_12 hlk
def f_X7_foretell (a1 : Nat) (a2 : Int32) (a3 : Int32) (I : Nat → Nat → Int32) (O : Nat → Nat → Option Nat) : Option (Int32 × (Nat → Nat → Int32) × (Nat → Nat → Option Nat)) :=
  (f_X3_takeFrom 13 1 I).bind fun I1 =>
  (f_X3_at 13 (I1 a1 0) I1).bind fun r3 =>
  hopt r3 (
    some ((0 : Int32), I1, O)) fun n5 => hk n5 6 <|
  hlet (gup I1 n5 1 a2) fun I6 =>
  (f_X3_letGoBy 13 a3 I6 O).bind fun (I7, O8) =>
  some ((I7 n5 4), I7, O8)
set_option maxHeartbeats 8000000 in
set_option maxRecDepth 100000 in
theorem c_X7_foretell {l : Launch} {dC : Nat → ClassId} {dI : Nat → Nat → Nat} {ca : Nat → ClassId} {b : Nat → Nat} {A : Nat → Prop} {N : Nat} (hN : 129 ≤ N) (hA : gAd A b N) (I : Nat → Nat → Int32) (O : Nat → Nat → Option Nat) (J : Nat → Nat → Int64) (a1 : Nat) (a2 : Int32) (a3 : Int32) (hk_a1 : SHK a1 = 6) (res : Int32 × (Nat → Nat → Int32) × (Nat → Nat → Option Nat)) (h : f_X7_foretell a1 a2 a3 I O = some res) : Met l yX7_foretell wsX7_foretell ({ frames := 4, cells := 0, slots := 0, locals := 100 } : Room) (va_Pc [.ref (b 0), .ref (b a1), .int a2, .int a3] (gPre dC dI ca b A N I O J)) (va_Qi (fun (r : Int32) (u : (Nat → Nat → Int32) × (Nat → Nat → Option Nat)) => res = (r, u)) (fun (u : (Nat → Nat → Int32) × (Nat → Nat → Option Nat)) t => va_P (dC, dI) vwCl (hW N ca b u.1 u.2 J) t.heap) A) 0 0 A := by
  refine Met.ofW (cc := cX7_foretell) (maxL := 5) (ret := (some .int)) (by decide) rfl ?_
  intro p e s m args below meth c s₁ B hml hv
  obtain ⟨rfl, hP, hK, hA2, hth⟩ := hv
  have hx := B.exec
  have hb := B.bytes
  have hr := B.returns
  have hlk := B.notSynchronized
  have X : gCx p s m ([.ref (b 0), .ref (b a1), .int a2, .int a3] : List Value).toArray c RX7 cX7_foretell wsX7_foretell 5 dC dI ca b A N := ⟨hx, hb, hml, findClass_of_methodNamed B.named, atoms_spec (ws := wsX7_foretell) B.pre, hK, hA, hA2, hth⟩
  have hi6 : ∀ w ∈ wsX60, w ∈ wsX7_foretell := (fun w h => List.mem_cons_of_mem _ (List.mem_append_left _ (List.mem_append_right _ h)))
  have hi7 : ∀ w ∈ wsX70, w ∈ wsX7_foretell := (fun w h => List.mem_cons_of_mem _ (List.mem_append_left _ (List.mem_append_left _ (List.mem_append_right _ h))))
  have hS : va_S A s.heap s.heap [] := va_S.rf
  have hl := lv_entry ([.ref (b 0), .ref (b a1), .int a2, .int a3] : List Value) (n := 5) (Nat.le_of_ble_eq_true rfl)
  rw [lg_entry_eq]
  generalize (lg_sl ([.ref (b 0), .ref (b a1), .int a2, .int a3] : List Value) ++ List.replicate (5 - (lg_sl ([.ref (b 0), .ref (b a1), .int a2, .int a3] : List Value)).length) Slot.unset).toArray = ls at hl ⊢
  have hl : lv_has ls 5 [(0, .ref (b 0)), (1, .ref (b a1)), (2, .int a2), (3, .int a3)] := hl
  unfold f_X7_foretell at h
  refine lv_aload_n hx hb dX7_foretell_0 rfl (lv_at hl 0 rfl) ?_
  refine gg7_1 X hP kc_0 (sk_in hN kc_0 (by decide)) hi7 (List.mem_of_getElem? (i := 1) rfl) dX7_foretell_1 ?_
  refine lv_aload_n hx hb dX7_foretell_4 rfl (lv_at hl 0 rfl) ?_
  refine gg7_0 X hP kc_0 (sk_in hN kc_0 (by decide)) hi7 (List.mem_of_getElem? (i := 2) rfl) dX7_foretell_5 ?_
  obtain ⟨q2, hcq2, h⟩ := hb_some h
  refine gdV_v (As := [.ref (b 1)]) (rest := []) (BH := (fun (u : Nat → Nat → Int32) H => va_P (dC, dI) vwCl (hW N ca b u O J) H)) X hP hS (c_X3_takeFrom hN hA I O J 13 1 kc_13 kc_1 q2 hcq2) (cwV 1 X.ts gX7_foretell_X3_takeFrom rfl rfl rfl (by decide +kernel) ⟨Nat.le_of_ble_eq_true rfl, Nat.le_of_ble_eq_true rfl⟩) (gr3 X hP kc_13 (sk_in hN kc_13 (by decide))) rfl hl.1 rfl (Nat.le_of_ble_eq_true rfl) dX7_foretell_8 ⟨Nat.le_of_ble_eq_true rfl, Nat.le_of_ble_eq_true rfl⟩ (fun I1 H locs hw hP hS => ?_)
  have hw := hw.symm
  subst hw
  refine lv_aload_n hx hb dX7_foretell_11 rfl (lv_at hl 0 rfl) ?_
  refine gg7_1 X hP kc_0 (sk_in hN kc_0 (by decide)) hi7 (List.mem_of_getElem? (i := 1) rfl) dX7_foretell_12 ?_
  refine lv_aload_n hx hb dX7_foretell_15 rfl (lv_at hl 1 rfl) ?_
  refine gg6_0 X hP hk_a1 (sk_in hN hk_a1 (by decide)) hi6 (List.mem_of_getElem? (i := 3) rfl) dX7_foretell_16 ?_
  obtain ⟨q4, hcq4, h⟩ := hb_some h
  refine gdV_q (As := [.int (I1 a1 0)]) (rest := []) (BH := (fun (u : Unit) H => va_P (dC, dI) vwCl (hW N ca b I1 O J) H)) X hP hS (c_X3_at hN hA I1 O J 13 (I1 a1 0) kc_13 q4 hcq4) (cwV 1 X.ts gX7_foretell_X3_at rfl rfl rfl (by decide +kernel) ⟨Nat.le_of_ble_eq_true rfl, Nat.le_of_ble_eq_true rfl⟩) (gr3 X hP kc_13 (sk_in hN kc_13 (by decide))) rfl hl.1 rfl (Nat.le_of_ble_eq_true rfl) dX7_foretell_19 ⟨Nat.le_of_ble_eq_true rfl, Nat.le_of_ble_eq_true rfl⟩ (fun r3 u9 H locs hw hP hS => ?_)
  obtain ⟨r3, rfl, hw⟩ := hw
  have hw := hw.symm
  subst hw
  refine gv_astore (r := Option.map b r3) (lv' := [(4, va_rf (Option.map b r3)), (0, .ref (b 0)), (1, .ref (b a1)), (2, .int a2), (3, .int a3)]) hx hb dX7_foretell_22 hl (by decide) rfl (fun ls hl => ?_)
  refine gv_aload (r := Option.map b r3) hx hb dX7_foretell_24 (lv_at hl 0 rfl) ?_
  cases r3 with
  | none =>
    have h := hopt_n h
    refine lv_ifnonnullN hx hb dX7_foretell_26 ?_
    refine lv_iconst (v := 0) hx hb dX7_foretell_29 (by decide) ?_
    exact W.iret hx hb hr (fun t9 ht hW => ⟨⟨(0 : Int32), (I1, O), rfl, (Option.some.inj h).symm, gEnd ht hP⟩, hS.F ht⟩) hS.2.2 dX7_foretell_30 hlk
  | some n5 =>
    obtain ⟨hk_n5, h⟩ := hk_some (hopt_s h)
    refine lv_ifnonnull (tgt := 31) hx hb dX7_foretell_26 (by decide) ?_
    refine lv_aload hx hb dX7_foretell_31 (lv_at hl 0 rfl) ?_
    refine lv_iload_n hx hb dX7_foretell_33 rfl (lv_at hl 3 rfl) ?_
    refine gp6_1 X hP hS hk_n5 (sk_in hN hk_n5 (by decide)) hi6 (List.mem_of_getElem? (i := 4) rfl) dX7_foretell_34 (fun H locs hP hS => ?_)
    obtain ⟨I6, eI6, h⟩ := hlet_ex h
    rw [← eI6] at hP
    refine lv_aload_n hx hb dX7_foretell_37 rfl (lv_at hl 1 rfl) ?_
    refine gg7_1 X hP kc_0 (sk_in hN kc_0 (by decide)) hi7 (List.mem_of_getElem? (i := 1) rfl) dX7_foretell_38 ?_
    refine lv_iload_n hx hb dX7_foretell_41 rfl (lv_at hl 4 rfl) ?_
    obtain ⟨q9, hcq9, h⟩ := hb_some h
    refine gdV_v (As := [.int a3]) (rest := []) (BH := (fun (u : (Nat → Nat → Int32) × (Nat → Nat → Option Nat)) H => va_P (dC, dI) vwCl (hW N ca b u.1 u.2 J) H)) X hP hS (c_X3_letGoBy hN hA I6 O J 13 a3 kc_13 q9 hcq9) (cwV 1 X.ts gX7_foretell_X3_letGoBy rfl rfl rfl (by decide +kernel) ⟨Nat.le_of_ble_eq_true rfl, Nat.le_of_ble_eq_true rfl⟩) (gr3 X hP kc_13 (sk_in hN kc_13 (by decide))) rfl hl.1 rfl (Nat.le_of_ble_eq_true rfl) dX7_foretell_42 ⟨Nat.le_of_ble_eq_true rfl, Nat.le_of_ble_eq_true rfl⟩ (fun u9 H locs hw hP hS => ?_)
    obtain ⟨I7, O8⟩ := u9
    subst hw
    refine lv_aload hx hb dX7_foretell_45 (lv_at hl 0 rfl) ?_
    refine gg6_4 X hP hk_n5 (sk_in hN hk_n5 (by decide)) hi6 (List.mem_of_getElem? (i := 5) rfl) dX7_foretell_47 ?_
    exact W.iret hx hb hr (fun t9 ht hW => ⟨⟨(I7 n5 4), (I7, O8), rfl, (Option.some.inj h).symm, gEnd ht hP⟩, hS.F ht⟩) hS.2.2 dX7_foretell_50 hlk
def f_X7_wouldFly (a1 : Int32) (a2 : Int32) (I : Nat → Nat → Int32) (O : Nat → Nat → Option Nat) : Option (Sum Nat Int32 × (Nat → Nat → Int32) × (Nat → Nat → Option Nat)) :=
  (f_X7_known a1 I).bind fun eq2 => hsum eq2 (fun k9 => some ((Sum.inl k9), I, O)) fun r1 =>
  (f_X7_checkSeconds a2).bind fun eq3 => hsum eq3 (fun k9 => some ((Sum.inl k9), I, O)) fun _ =>
  (f_X7_checkRacing I).bind fun eq4 => hsum eq4 (fun k9 => some ((Sum.inl k9), I, O)) fun _ =>
  (r1).bind fun n5 => hk n5 6 <|
  (f_X7_foretell n5 (I n5 1) a2 I O).bind fun (r8, I6, O7) =>
  some ((Sum.inr r8), I6, O7)
set_option maxHeartbeats 8000000 in
set_option maxRecDepth 100000 in
theorem c_X7_wouldFly {l : Launch} (hlf : l.stackTraces = false) {dC : Nat → ClassId} {dI : Nat → Nat → Nat} {ca : Nat → ClassId} {b : Nat → Nat} {A : Nat → Prop} {N : Nat} (hN : 129 ≤ N) (hA : gAd A b N) (I : Nat → Nat → Int32) (O : Nat → Nat → Option Nat) (J : Nat → Nat → Int64) (a1 : Int32) (a2 : Int32) (res : Sum Nat Int32 × (Nat → Nat → Int32) × (Nat → Nat → Option Nat)) (h : f_X7_wouldFly a1 a2 I O = some res) : vx_Met l yX7_wouldFly wsX7_wouldFly ({ frames := 7, cells := 3, slots := 18, locals := 124 } : Room) (va_Pc [.ref (b 0), .int a1, .int a2] (gPre dC dI ca b A N I O J)) (va_Qi (fun (r : Int32) (u : (Nat → Nat → Int32) × (Nat → Nat → Option Nat)) => res = (Sum.inr r, u)) (fun (u : (Nat → Nat → Int32) × (Nat → Nat → Option Nat)) t => va_P (dC, dI) vwCl (hW N ca b u.1 u.2 J) t.heap) A) (vx_X (fun (u : Nat × ((Nat → Nat → Int32) × (Nat → Nat → Option Nat))) => res = (Sum.inl u.1, u.2)) (fun E (u : Nat × ((Nat → Nat → Int32) × (Nat → Nat → Option Nat))) t => E = gEn u.1 ∧ (fun (u : (Nat → Nat → Int32) × (Nat → Nat → Option Nat)) H => va_P (dC, dI) vwCl (hW N ca b u.1 u.2 J) H) u.2 t.heap) A) 3 18 A := by
  refine vx_ofW (cc := cX7_wouldFly) (maxL := 4) (ret := (some .int)) (by decide) rfl ?_
  intro p e s m args below meth c s₁ B hml hout hv
  obtain ⟨rfl, hP, hK, hA2, hth⟩ := hv
  have hx := B.exec
  have hb := B.bytes
  have hr := B.returns
  have hlk := B.notSynchronized
  have X : gCx p s m ([.ref (b 0), .int a1, .int a2] : List Value).toArray c RX7 cX7_wouldFly wsX7_wouldFly 4 dC dI ca b A N := ⟨hx, hb, hml, findClass_of_methodNamed B.named, atoms_spec (ws := wsX7_wouldFly) B.pre, hK, hA, hA2, hth⟩
  have hi6 : ∀ w ∈ wsX60, w ∈ wsX7_wouldFly := (fun w h => List.mem_cons_of_mem _ (List.mem_append_left _ (List.mem_append_left _ (List.mem_append_left _ (List.mem_append_left _ (List.mem_append_left _ (List.mem_append_right _ h)))))))
  have hS : va_S A s.heap s.heap [] := va_S.rf
  have hl := lv_entry ([.ref (b 0), .int a1, .int a2] : List Value) (n := 4) (Nat.le_of_ble_eq_true rfl)
  rw [lg_entry_eq]
  generalize (lg_sl ([.ref (b 0), .int a1, .int a2] : List Value) ++ List.replicate (4 - (lg_sl ([.ref (b 0), .int a1, .int a2] : List Value)).length) Slot.unset).toArray = ls at hl ⊢
  have hl : lv_has ls 4 [(0, .ref (b 0)), (1, .int a1), (2, .int a2)] := hl
  unfold f_X7_wouldFly at h
  refine lv_aload_n hx hb dX7_wouldFly_0 rfl (lv_at hl 0 rfl) ?_
  refine lv_iload_n hx hb dX7_wouldFly_1 rfl (lv_at hl 1 rfl) ?_
  obtain ⟨q2, hcq2, h⟩ := hb_some h
  refine gxV_q (As := [.int a1]) (rest := []) (BH := (fun (u : Unit) H => va_P (dC, dI) vwCl (hW N ca b I O J) H)) (BX := (fun (u : Unit) H => va_P (dC, dI) vwCl (hW N ca b I O J) H)) X hP hS (c_X7_known hlf hN hA I O J a1 q2 hcq2) (cwV 1 X.ts gX7_wouldFly_X7_known rfl rfl rfl (by decide +kernel) ⟨Nat.le_of_ble_eq_true rfl, Nat.le_of_ble_eq_true rfl⟩) (gr7 X hP kc_0 (sk_in hN kc_0 (by decide))) rfl hl.1 rfl (Nat.le_of_ble_eq_true rfl) dX7_wouldFly_2 ⟨Nat.le_of_ble_eq_true rfl, Nat.le_of_ble_eq_true rfl⟩ (fun k9 u9 H locs ce9 q9 hw hP hS hce hcv hcl => ?_) (fun r1 u9 H locs hw hP hS => ?_)
  · subst hw
    exact gOut (S := (Nat → Nat → Int32) × (Nat → Nat → Option Nat)) (BH := (fun (u : (Nat → Nat → Int32) × (Nat → Nat → Option Nat)) H => va_P (dC, dI) vwCl (hW N ca b u.1 u.2 J) H)) hlk hout hS hce hcv hcl (I, O) (Option.some.inj (show some ((Sum.inl k9), I, O) = some res from h)).symm hP (Nat.le_of_ble_eq_true rfl) (Nat.le_of_ble_eq_true rfl)
  obtain ⟨r1, rfl, hw⟩ := hw
  subst hw
  have h := hsum_r h
  refine gv_astore_n (r := Option.map b r1) (lv' := [(3, va_rf (Option.map b r1)), (0, .ref (b 0)), (1, .int a1), (2, .int a2)]) hx hb dX7_wouldFly_5 rfl hl (by decide) rfl (fun ls hl => ?_)
  refine lv_iload_n hx hb dX7_wouldFly_6 rfl (lv_at hl 3 rfl) ?_
  obtain ⟨q3, hcq3, h⟩ := hb_some h
  refine gxS_v (As := [.int a2]) (rest := []) (BH := (fun (u : Unit) H => va_P (dC, dI) vwCl (hW N ca b I O J) H)) (BX := (fun (u : Unit) H => va_P (dC, dI) vwCl (hW N ca b I O J) H)) X hP hS (c_X7_checkSeconds hlf hN hA I O J a2 q3 hcq3) (va_cwS 1 X.ts gX7_wouldFly_X7_checkSeconds rfl rfl rfl (by decide +kernel) ⟨Nat.le_of_ble_eq_true rfl, Nat.le_of_ble_eq_true rfl⟩) rfl hl.1 rfl (Nat.le_of_ble_eq_true rfl) dX7_wouldFly_7 ⟨Nat.le_of_ble_eq_true rfl, Nat.le_of_ble_eq_true rfl⟩ (fun k9 u9 H locs ce9 q9 hw hP hS hce hcv hcl => ?_) (fun u9 H locs hw hP hS => ?_)
  · subst hw
    exact gOut (S := (Nat → Nat → Int32) × (Nat → Nat → Option Nat)) (BH := (fun (u : (Nat → Nat → Int32) × (Nat → Nat → Option Nat)) H => va_P (dC, dI) vwCl (hW N ca b u.1 u.2 J) H)) hlk hout hS hce hcv hcl (I, O) (Option.some.inj (show some ((Sum.inl k9), I, O) = some res from h)).symm hP (Nat.le_of_ble_eq_true rfl) (Nat.le_of_ble_eq_true rfl)
  subst hw
  have h := hsum_r h
  refine lv_aload_n hx hb dX7_wouldFly_10 rfl (lv_at hl 1 rfl) ?_
  obtain ⟨q4, hcq4, h⟩ := hb_some h
  refine gxV_v (As := []) (rest := []) (BH := (fun (u : Unit) H => va_P (dC, dI) vwCl (hW N ca b I O J) H)) (BX := (fun (u : Unit) H => va_P (dC, dI) vwCl (hW N ca b I O J) H)) X hP hS (c_X7_checkRacing hlf hN hA I O J q4 hcq4) (cwV 0 X.ts gX7_wouldFly_X7_checkRacing rfl rfl rfl (by decide +kernel) ⟨Nat.le_of_ble_eq_true rfl, Nat.le_of_ble_eq_true rfl⟩) (gr7 X hP kc_0 (sk_in hN kc_0 (by decide))) rfl hl.1 rfl (Nat.le_of_ble_eq_true rfl) dX7_wouldFly_11 ⟨Nat.le_of_ble_eq_true rfl, Nat.le_of_ble_eq_true rfl⟩ (fun k9 u9 H locs ce9 q9 hw hP hS hce hcv hcl => ?_) (fun u9 H locs hw hP hS => ?_)
  · subst hw
    exact gOut (S := (Nat → Nat → Int32) × (Nat → Nat → Option Nat)) (BH := (fun (u : (Nat → Nat → Int32) × (Nat → Nat → Option Nat)) H => va_P (dC, dI) vwCl (hW N ca b u.1 u.2 J) H)) hlk hout hS hce hcv hcl (I, O) (Option.some.inj (show some ((Sum.inl k9), I, O) = some res from h)).symm hP (Nat.le_of_ble_eq_true rfl) (Nat.le_of_ble_eq_true rfl)
  subst hw
  have h := hsum_r h
  refine lv_aload_n hx hb dX7_wouldFly_14 rfl (lv_at hl 1 rfl) ?_
  refine gv_aload_n (r := Option.map b r1) hx hb dX7_wouldFly_15 rfl (lv_at hl 0 rfl) ?_
  refine gv_aload_n (r := Option.map b r1) hx hb dX7_wouldFly_16 rfl (lv_at hl 0 rfl) ?_
  obtain ⟨n5, rfl, h⟩ := hb_some h
  obtain ⟨hk_n5, h⟩ := hk_some h
  refine gg6_1 X hP hk_n5 (sk_in hN hk_n5 (by decide)) hi6 (List.mem_of_getElem? (i := 1) rfl) dX7_wouldFly_17 ?_
  refine lv_iload_n hx hb dX7_wouldFly_20 rfl (lv_at hl 3 rfl) ?_
  obtain ⟨q9, hcq9, h⟩ := hb_some h
  refine gdV_i (As := [.ref (b n5), .int (I n5 1), .int a2]) (rest := []) (BH := (fun (u : (Nat → Nat → Int32) × (Nat → Nat → Option Nat)) H => va_P (dC, dI) vwCl (hW N ca b u.1 u.2 J) H)) X hP hS (c_X7_foretell hN hA I O J n5 (I n5 1) a2 hk_n5 q9 hcq9) (cwV 3 X.ts gX7_wouldFly_X7_foretell rfl rfl rfl (by decide +kernel) ⟨Nat.le_of_ble_eq_true rfl, Nat.le_of_ble_eq_true rfl⟩) (gr7 X hP kc_0 (sk_in hN kc_0 (by decide))) rfl hl.1 rfl (Nat.le_of_ble_eq_true rfl) dX7_wouldFly_21 ⟨Nat.le_of_ble_eq_true rfl, Nat.le_of_ble_eq_true rfl⟩ (fun r8 u9 H locs hw hP hS => ?_)
  obtain ⟨I6, O7⟩ := u9
  subst hw
  refine vx_ret ?_
  refine W.widen (k := 3) (n := 18) (Nat.le_of_ble_eq_true rfl) (Nat.le_of_ble_eq_true rfl) ?_
  exact W.iret hx hb hr (fun t9 ht hW => ⟨⟨r8, (I6, O7), rfl, (Option.some.inj h).symm, gEnd ht hP⟩, hS.F ht⟩) hS.2.2 dX7_wouldFly_24 hlk
def f_X7_foretellSeconds_L13 : Nat → Int32 → (Nat → Nat → Int32) → (Nat → Nat → Option Nat) → Option (Int32 × (Nat → Nat → Int32) × (Nat → Nat → Option Nat))
  | 0, _, _, _ => none
  | fuel + 1, p3, I4, O5 =>
    if (2000 : Int32) < p3 then
      some ((-1 : Int32), I4, O5)
    else
      if (I4 13 5) = 0 then
        some ((-1 : Int32), I4, O5)
      else
        (f_X3_letGoBy 13 (1 : Int32) I4 O5).bind fun (I6, O7) =>
        if (I6 13 7) ≤ (I6 1 7) then
          hlet (p3 + 1) fun x9 =>
          f_X7_foretellSeconds_L13 fuel x9 I6 O7
        else
          some (p3, I6, O7)
def f_X7_foretellSeconds (I : Nat → Nat → Int32) (O : Nat → Nat → Option Nat) : Option (Int32 × (Nat → Nat → Int32) × (Nat → Nat → Option Nat)) :=
  (f_X3_takeFrom 13 1 I).bind fun I1 =>
  f_X7_foretellSeconds_L13  FU (1 : Int32) I1 O
set_option maxHeartbeats 8000000 in
set_option maxRecDepth 100000 in
theorem c_X7_foretellSeconds {l : Launch} {dC : Nat → ClassId} {dI : Nat → Nat → Nat} {ca : Nat → ClassId} {b : Nat → Nat} {A : Nat → Prop} {N : Nat} (hN : 129 ≤ N) (hA : gAd A b N) (I : Nat → Nat → Int32) (O : Nat → Nat → Option Nat) (J : Nat → Nat → Int64) (res : Int32 × (Nat → Nat → Int32) × (Nat → Nat → Option Nat)) (h : f_X7_foretellSeconds I O = some res) : Met l yX7_foretellSeconds wsX7_foretellSeconds ({ frames := 4, cells := 0, slots := 0, locals := 100 } : Room) (va_Pc [.ref (b 0)] (gPre dC dI ca b A N I O J)) (va_Qi (fun (r : Int32) (u : (Nat → Nat → Int32) × (Nat → Nat → Option Nat)) => res = (r, u)) (fun (u : (Nat → Nat → Int32) × (Nat → Nat → Option Nat)) t => va_P (dC, dI) vwCl (hW N ca b u.1 u.2 J) t.heap) A) 0 0 A := by
  refine Met.ofW (cc := cX7_foretellSeconds) (maxL := 2) (ret := (some .int)) (by decide) rfl ?_
  intro p e s m args below meth c s₁ B hml hv
  obtain ⟨rfl, hP, hK, hA2, hth⟩ := hv
  have hx := B.exec
  have hb := B.bytes
  have hr := B.returns
  have hlk := B.notSynchronized
  have X : gCx p s m ([.ref (b 0)] : List Value).toArray c RX7 cX7_foretellSeconds wsX7_foretellSeconds 2 dC dI ca b A N := ⟨hx, hb, hml, findClass_of_methodNamed B.named, atoms_spec (ws := wsX7_foretellSeconds) B.pre, hK, hA, hA2, hth⟩
  have hi3 : ∀ w ∈ wsX30, w ∈ wsX7_foretellSeconds := (fun w h => List.mem_cons_of_mem _ (List.mem_append_left _ (List.mem_append_right _ h)))
  have hi7 : ∀ w ∈ wsX70, w ∈ wsX7_foretellSeconds := (fun w h => List.mem_cons_of_mem _ (List.mem_append_left _ (List.mem_append_left _ (List.mem_append_right _ h))))
  have hS : va_S A s.heap s.heap [] := va_S.rf
  have hl := lv_entry ([.ref (b 0)] : List Value) (n := 2) (Nat.le_of_ble_eq_true rfl)
  rw [lg_entry_eq]
  generalize (lg_sl ([.ref (b 0)] : List Value) ++ List.replicate (2 - (lg_sl ([.ref (b 0)] : List Value)).length) Slot.unset).toArray = ls at hl ⊢
  have hl : lv_has ls 2 [(0, .ref (b 0))] := hl
  unfold f_X7_foretellSeconds at h
  refine lv_aload_n hx hb dX7_foretellSeconds_0 rfl (lv_at hl 0 rfl) ?_
  refine gg7_1 X hP kc_0 (sk_in hN kc_0 (by decide)) hi7 (List.mem_of_getElem? (i := 1) rfl) dX7_foretellSeconds_1 ?_
  refine lv_aload_n hx hb dX7_foretellSeconds_4 rfl (lv_at hl 0 rfl) ?_
  refine gg7_0 X hP kc_0 (sk_in hN kc_0 (by decide)) hi7 (List.mem_of_getElem? (i := 2) rfl) dX7_foretellSeconds_5 ?_
  obtain ⟨q2, hcq2, h⟩ := hb_some h
  refine gdV_v (As := [.ref (b 1)]) (rest := []) (BH := (fun (u : Nat → Nat → Int32) H => va_P (dC, dI) vwCl (hW N ca b u O J) H)) X hP hS (c_X3_takeFrom hN hA I O J 13 1 kc_13 kc_1 q2 hcq2) (cwV 1 X.ts gX7_foretellSeconds_X3_takeFrom rfl rfl rfl (by decide +kernel) ⟨Nat.le_of_ble_eq_true rfl, Nat.le_of_ble_eq_true rfl⟩) (gr3 X hP kc_13 (sk_in hN kc_13 (by decide))) rfl hl.1 rfl (Nat.le_of_ble_eq_true rfl) dX7_foretellSeconds_8 ⟨Nat.le_of_ble_eq_true rfl, Nat.le_of_ble_eq_true rfl⟩ (fun I1 H locs hw hP hS => ?_)
  have hw := hw.symm
  subst hw
  refine lv_iconst (v := 1) hx hb dX7_foretellSeconds_11 (by decide) ?_
  refine lv_istore_n (lv' := [(1, .int (1 : Int32)), (0, .ref (b 0))]) hx hb dX7_foretellSeconds_12 rfl hl (by decide) rfl (fun ls hl => ?_)
  have hL13 : ∀ (fuel : Nat) (p3 : Int32) (I4 : Nat → Nat → Int32) (O5 : Nat → Nat → Option Nat) (H : Heap) (locs : List Loc) (ls : Array Slot), f_X7_foretellSeconds_L13  fuel p3 I4 O5 = some res → va_P (dC, dI) vwCl (hW N ca b I4 O5 J) H → va_S A s.heap H locs → lv_has ls 2 [(0, .ref (b 0)), (1, .int p3)] → W p l e (headSpec wsX7_foretellSeconds ({ frames := 4, cells := 0, slots := 0, locals := 100 } : Room)).room s m ([.ref (b 0)] : List Value).toArray below meth c H locs 0 0 (MQ below (va_Qi (fun (r : Int32) (u : (Nat → Nat → Int32) × (Nat → Nat → Option Nat)) => res = (r, u)) (fun (u : (Nat → Nat → Int32) × (Nat → Nat → Option Nat)) t => va_P (dC, dI) vwCl (hW N ca b u.1 u.2 J) t.heap) A) ([.ref (b 0)] : List Value).toArray s 0 0 A) (F0 m 13 ls []) := by
    intro fuel
    induction fuel with
    | zero =>
      intro p3 I4 O5 H locs ls h hP hS hl
      rw [f_X7_foretellSeconds_L13] at h
      cases h
    | succ fuel ih =>
      intro p3 I4 O5 H locs ls h hP hS hl
      rw [f_X7_foretellSeconds_L13] at h
      refine lv_iload_n hx hb dX7_foretellSeconds_13 rfl (lv_at hl 1 rfl) ?_
      refine lv_sipush (v := 2000) hx hb dX7_foretellSeconds_14 (by decide) ?_
      refine lv_icmp_gt (tgt := 63) hx hb dX7_foretellSeconds_17 (by decide) (fun c12 => ?_) (fun c12 => ?_)
      · have h := gif_t c12 h
        refine lv_iconst (v := (-1)) hx hb dX7_foretellSeconds_63 (by decide) ?_
        exact W.iret hx hb hr (fun t9 ht hW => ⟨⟨(-1 : Int32), (I4, O5), rfl, (Option.some.inj h).symm, gEnd ht hP⟩, hS.F ht⟩) hS.2.2 dX7_foretellSeconds_64 hlk
      · have h := gif_f c12 h
        refine lv_aload_n hx hb dX7_foretellSeconds_20 rfl (lv_at hl 0 rfl) ?_
        refine gg7_1 X hP kc_0 (sk_in hN kc_0 (by decide)) hi7 (List.mem_of_getElem? (i := 1) rfl) dX7_foretellSeconds_21 ?_
        refine gg3_5 X hP kc_13 (sk_in hN kc_13 (by decide)) hi3 (List.mem_of_getElem? (i := 3) rfl) dX7_foretellSeconds_24 ?_
        refine lv_if_eq (tgt := 63) hx hb dX7_foretellSeconds_27 (by decide) (fun c11 => ?_) (fun c11 => ?_)
        · have h := gif_t c11 h
          refine lv_iconst (v := (-1)) hx hb dX7_foretellSeconds_63 (by decide) ?_
          exact W.iret hx hb hr (fun t9 ht hW => ⟨⟨(-1 : Int32), (I4, O5), rfl, (Option.some.inj h).symm, gEnd ht hP⟩, hS.F ht⟩) hS.2.2 dX7_foretellSeconds_64 hlk
        · have h := gif_f c11 h
          refine lv_aload_n hx hb dX7_foretellSeconds_30 rfl (lv_at hl 0 rfl) ?_
          refine gg7_1 X hP kc_0 (sk_in hN kc_0 (by decide)) hi7 (List.mem_of_getElem? (i := 1) rfl) dX7_foretellSeconds_31 ?_
          refine lv_iconst (v := 1) hx hb dX7_foretellSeconds_34 (by decide) ?_
          obtain ⟨q8, hcq8, h⟩ := hb_some h
          refine gdV_v (As := [.int (1 : Int32)]) (rest := []) (BH := (fun (u : (Nat → Nat → Int32) × (Nat → Nat → Option Nat)) H => va_P (dC, dI) vwCl (hW N ca b u.1 u.2 J) H)) X hP hS (c_X3_letGoBy hN hA I4 O5 J 13 (1 : Int32) kc_13 q8 hcq8) (cwV 1 X.ts gX7_foretellSeconds_X3_letGoBy rfl rfl rfl (by decide +kernel) ⟨Nat.le_of_ble_eq_true rfl, Nat.le_of_ble_eq_true rfl⟩) (gr3 X hP kc_13 (sk_in hN kc_13 (by decide))) rfl hl.1 rfl (Nat.le_of_ble_eq_true rfl) dX7_foretellSeconds_35 ⟨Nat.le_of_ble_eq_true rfl, Nat.le_of_ble_eq_true rfl⟩ (fun u9 H locs hw hP hS => ?_)
          obtain ⟨I6, O7⟩ := u9
          subst hw
          refine lv_aload_n hx hb dX7_foretellSeconds_38 rfl (lv_at hl 0 rfl) ?_
          refine gg7_1 X hP kc_0 (sk_in hN kc_0 (by decide)) hi7 (List.mem_of_getElem? (i := 1) rfl) dX7_foretellSeconds_39 ?_
          refine gg3_7 X hP kc_13 (sk_in hN kc_13 (by decide)) hi3 (List.mem_of_getElem? (i := 4) rfl) dX7_foretellSeconds_42 ?_
          refine lv_aload_n hx hb dX7_foretellSeconds_45 rfl (lv_at hl 0 rfl) ?_
          refine gg7_0 X hP kc_0 (sk_in hN kc_0 (by decide)) hi7 (List.mem_of_getElem? (i := 2) rfl) dX7_foretellSeconds_46 ?_
          refine gg3_7 X hP kc_1 (sk_in hN kc_1 (by decide)) hi3 (List.mem_of_getElem? (i := 4) rfl) dX7_foretellSeconds_49 ?_
          refine lv_icmp_le (tgt := 57) hx hb dX7_foretellSeconds_52 (by decide) (fun c10 => ?_) (fun c10 => ?_)
          · have h := gif_t c10 h
            obtain ⟨x9, ex9, h⟩ := hlet_ex h
            refine lv_iinc (v := x9) (lv' := [(1, .int x9), (0, .ref (b 0))]) hx hb dX7_foretellSeconds_57 hl (k := 1) rfl (by rw [ex9]; rfl) (by decide) rfl (fun ls hl => ?_)
            refine lv_goto (tgt := 13) hx hb dX7_foretellSeconds_60 (by decide) ?_
            exact ih _ _ _ _ _ _ h hP hS (lv_sub hl [1, 0] rfl)
          · have h := gif_f c10 h
            refine lv_iload_n hx hb dX7_foretellSeconds_55 rfl (lv_at hl 1 rfl) ?_
            exact W.iret hx hb hr (fun t9 ht hW => ⟨⟨p3, (I6, O7), rfl, (Option.some.inj h).symm, gEnd ht hP⟩, hS.F ht⟩) hS.2.2 dX7_foretellSeconds_56 hlk
  exact hL13 FU _ _ _ _ _ _ h hP hS (lv_sub hl [1, 0] rfl)
def f_X7_foretellWinner (I : Nat → Nat → Int32) (O : Nat → Nat → Option Nat) : Option (Int32 × (Nat → Nat → Int32) × (Nat → Nat → Option Nat)) :=
  if 0 < (I 1 7) then
    some ((-1 : Int32), I, O)
  else
    (f_X7_foretellSeconds I O).bind fun (r3, I1, O2) =>
    if r3 = (-1 : Int32) then
      some ((-1 : Int32), I1, O2)
    else
      (f_X3_arrivedAs 13 (0 : Int32) I1).bind fun r5 =>
      hopt r5 (
        some ((-1 : Int32), I1, O2)) fun n7 => hk n7 6 <|
      some ((I1 n7 0), I1, O2)
set_option maxHeartbeats 8000000 in
set_option maxRecDepth 100000 in
theorem c_X7_foretellWinner {l : Launch} {dC : Nat → ClassId} {dI : Nat → Nat → Nat} {ca : Nat → ClassId} {b : Nat → Nat} {A : Nat → Prop} {N : Nat} (hN : 129 ≤ N) (hA : gAd A b N) (I : Nat → Nat → Int32) (O : Nat → Nat → Option Nat) (J : Nat → Nat → Int64) (res : Int32 × (Nat → Nat → Int32) × (Nat → Nat → Option Nat)) (h : f_X7_foretellWinner I O = some res) : Met l yX7_foretellWinner wsX7_foretellWinner ({ frames := 5, cells := 0, slots := 0, locals := 121 } : Room) (va_Pc [.ref (b 0)] (gPre dC dI ca b A N I O J)) (va_Qi (fun (r : Int32) (u : (Nat → Nat → Int32) × (Nat → Nat → Option Nat)) => res = (r, u)) (fun (u : (Nat → Nat → Int32) × (Nat → Nat → Option Nat)) t => va_P (dC, dI) vwCl (hW N ca b u.1 u.2 J) t.heap) A) 0 0 A := by
  refine Met.ofW (cc := cX7_foretellWinner) (maxL := 2) (ret := (some .int)) (by decide) rfl ?_
  intro p e s m args below meth c s₁ B hml hv
  obtain ⟨rfl, hP, hK, hA2, hth⟩ := hv
  have hx := B.exec
  have hb := B.bytes
  have hr := B.returns
  have hlk := B.notSynchronized
  have X : gCx p s m ([.ref (b 0)] : List Value).toArray c RX7 cX7_foretellWinner wsX7_foretellWinner 2 dC dI ca b A N := ⟨hx, hb, hml, findClass_of_methodNamed B.named, atoms_spec (ws := wsX7_foretellWinner) B.pre, hK, hA, hA2, hth⟩
  have hi3 : ∀ w ∈ wsX30, w ∈ wsX7_foretellWinner := (fun w h => List.mem_cons_of_mem _ (List.mem_append_left _ (List.mem_append_right _ h)))
  have hi6 : ∀ w ∈ wsX60, w ∈ wsX7_foretellWinner := (fun w h => List.mem_cons_of_mem _ (List.mem_append_right _ h))
  have hi7 : ∀ w ∈ wsX70, w ∈ wsX7_foretellWinner := (fun w h => List.mem_cons_of_mem _ (List.mem_append_left _ (List.mem_append_left _ (List.mem_append_right _ h))))
  have hS : va_S A s.heap s.heap [] := va_S.rf
  have hl := lv_entry ([.ref (b 0)] : List Value) (n := 2) (Nat.le_of_ble_eq_true rfl)
  rw [lg_entry_eq]
  generalize (lg_sl ([.ref (b 0)] : List Value) ++ List.replicate (2 - (lg_sl ([.ref (b 0)] : List Value)).length) Slot.unset).toArray = ls at hl ⊢
  have hl : lv_has ls 2 [(0, .ref (b 0))] := hl
  unfold f_X7_foretellWinner at h
  refine lv_aload_n hx hb dX7_foretellWinner_0 rfl (lv_at hl 0 rfl) ?_
  refine gg7_0 X hP kc_0 (sk_in hN kc_0 (by decide)) hi7 (List.mem_of_getElem? (i := 1) rfl) dX7_foretellWinner_1 ?_
  refine gg3_7 X hP kc_1 (sk_in hN kc_1 (by decide)) hi3 (List.mem_of_getElem? (i := 2) rfl) dX7_foretellWinner_4 ?_
  refine lv_if_gt (tgt := 18) hx hb dX7_foretellWinner_7 (by decide) (fun c9 => ?_) (fun c9 => ?_)
  · have h := gif_t c9 h
    refine lv_iconst (v := (-1)) hx hb dX7_foretellWinner_18 (by decide) ?_
    exact W.iret hx hb hr (fun t9 ht hW => ⟨⟨(-1 : Int32), (I, O), rfl, (Option.some.inj h).symm, gEnd ht hP⟩, hS.F ht⟩) hS.2.2 dX7_foretellWinner_19 hlk
  · have h := gif_f c9 h
    refine lv_aload_n hx hb dX7_foretellWinner_10 rfl (lv_at hl 0 rfl) ?_
    obtain ⟨q4, hcq4, h⟩ := hb_some h
    refine gdV_i (As := []) (rest := []) (BH := (fun (u : (Nat → Nat → Int32) × (Nat → Nat → Option Nat)) H => va_P (dC, dI) vwCl (hW N ca b u.1 u.2 J) H)) X hP hS (c_X7_foretellSeconds hN hA I O J q4 hcq4) (cwV 0 X.ts gX7_foretellWinner_X7_foretellSeconds rfl rfl rfl (by decide +kernel) ⟨Nat.le_of_ble_eq_true rfl, Nat.le_of_ble_eq_true rfl⟩) (gr7 X hP kc_0 (sk_in hN kc_0 (by decide))) rfl hl.1 rfl (Nat.le_of_ble_eq_true rfl) dX7_foretellWinner_11 ⟨Nat.le_of_ble_eq_true rfl, Nat.le_of_ble_eq_true rfl⟩ (fun r3 u9 H locs hw hP hS => ?_)
    obtain ⟨I1, O2⟩ := u9
    subst hw
    refine lv_iconst (v := (-1)) hx hb dX7_foretellWinner_14 (by decide) ?_
    refine lv_icmp_ne (tgt := 20) hx hb dX7_foretellWinner_15 (by decide) (fun c8 => ?_) (fun c8 => ?_)
    · have h := gif_f c8 h
      refine lv_aload_n hx hb dX7_foretellWinner_20 rfl (lv_at hl 0 rfl) ?_
      refine gg7_1 X hP kc_0 (sk_in hN kc_0 (by decide)) hi7 (List.mem_of_getElem? (i := 3) rfl) dX7_foretellWinner_21 ?_
      refine lv_iconst (v := 0) hx hb dX7_foretellWinner_24 (by decide) ?_
      obtain ⟨q6, hcq6, h⟩ := hb_some h
      refine gdV_q (As := [.int (0 : Int32)]) (rest := []) (BH := (fun (u : Unit) H => va_P (dC, dI) vwCl (hW N ca b I1 O2 J) H)) X hP hS (c_X3_arrivedAs hN hA I1 O2 J 13 (0 : Int32) kc_13 q6 hcq6) (cwV 1 X.ts gX7_foretellWinner_X3_arrivedAs rfl rfl rfl (by decide +kernel) ⟨Nat.le_of_ble_eq_true rfl, Nat.le_of_ble_eq_true rfl⟩) (gr3 X hP kc_13 (sk_in hN kc_13 (by decide))) rfl hl.1 rfl (Nat.le_of_ble_eq_true rfl) dX7_foretellWinner_25 ⟨Nat.le_of_ble_eq_true rfl, Nat.le_of_ble_eq_true rfl⟩ (fun r5 u9 H locs hw hP hS => ?_)
      obtain ⟨r5, rfl, hw⟩ := hw
      have hw := hw.symm
      subst hw
      refine gv_astore_n (r := Option.map b r5) (lv' := [(1, va_rf (Option.map b r5)), (0, .ref (b 0))]) hx hb dX7_foretellWinner_28 rfl hl (by decide) rfl (fun ls hl => ?_)
      refine gv_aload_n (r := Option.map b r5) hx hb dX7_foretellWinner_29 rfl (lv_at hl 0 rfl) ?_
      cases r5 with
      | none =>
        have h := hopt_n h
        refine lv_ifnonnullN hx hb dX7_foretellWinner_30 ?_
        refine lv_iconst (v := (-1)) hx hb dX7_foretellWinner_33 (by decide) ?_
        refine lv_goto (tgt := 41) hx hb dX7_foretellWinner_34 (by decide) ?_
        exact W.iret hx hb hr (fun t9 ht hW => ⟨⟨(-1 : Int32), (I1, O2), rfl, (Option.some.inj h).symm, gEnd ht hP⟩, hS.F ht⟩) hS.2.2 dX7_foretellWinner_41 hlk
      | some n7 =>
        obtain ⟨hk_n7, h⟩ := hk_some (hopt_s h)
        refine lv_ifnonnull (tgt := 37) hx hb dX7_foretellWinner_30 (by decide) ?_
        refine lv_aload_n hx hb dX7_foretellWinner_37 rfl (lv_at hl 0 rfl) ?_
        refine gg6_0 X hP hk_n7 (sk_in hN hk_n7 (by decide)) hi6 (List.mem_of_getElem? (i := 4) rfl) dX7_foretellWinner_38 ?_
        exact W.iret hx hb hr (fun t9 ht hW => ⟨⟨(I1 n7 0), (I1, O2), rfl, (Option.some.inj h).symm, gEnd ht hP⟩, hS.F ht⟩) hS.2.2 dX7_foretellWinner_41 hlk
    · have h := gif_t c8 h
      refine lv_iconst (v := (-1)) hx hb dX7_foretellWinner_18 (by decide) ?_
      exact W.iret hx hb hr (fun t9 ht hW => ⟨⟨(-1 : Int32), (I1, O2), rfl, (Option.some.inj h).symm, gEnd ht hP⟩, hS.F ht⟩) hS.2.2 dX7_foretellWinner_19 hlk
def f_X7_wouldWin (I : Nat → Nat → Int32) (O : Nat → Nat → Option Nat) : Option (Sum Nat Int32 × (Nat → Nat → Int32) × (Nat → Nat → Option Nat)) :=
  (f_X7_foretellWinner I O).bind fun (r3, I1, O2) =>
  if r3 = (-1 : Int32) then
    some ((Sum.inl 2), I1, O2)
  else
    some ((Sum.inr r3), I1, O2)
set_option maxHeartbeats 8000000 in
set_option maxRecDepth 100000 in
theorem c_X7_wouldWin {l : Launch} (hlf : l.stackTraces = false) {dC : Nat → ClassId} {dI : Nat → Nat → Nat} {ca : Nat → ClassId} {b : Nat → Nat} {A : Nat → Prop} {N : Nat} (hN : 129 ≤ N) (hA : gAd A b N) (I : Nat → Nat → Int32) (O : Nat → Nat → Option Nat) (J : Nat → Nat → Int64) (res : Sum Nat Int32 × (Nat → Nat → Int32) × (Nat → Nat → Option Nat)) (h : f_X7_wouldWin I O = some res) : vx_Met l yX7_wouldWin wsX7_wouldWin ({ frames := 6, cells := 1, slots := 6, locals := 142 } : Room) (va_Pc [.ref (b 0)] (gPre dC dI ca b A N I O J)) (va_Qi (fun (r : Int32) (u : (Nat → Nat → Int32) × (Nat → Nat → Option Nat)) => res = (Sum.inr r, u)) (fun (u : (Nat → Nat → Int32) × (Nat → Nat → Option Nat)) t => va_P (dC, dI) vwCl (hW N ca b u.1 u.2 J) t.heap) A) (vx_X (fun (u : Nat × ((Nat → Nat → Int32) × (Nat → Nat → Option Nat))) => res = (Sum.inl u.1, u.2)) (fun E (u : Nat × ((Nat → Nat → Int32) × (Nat → Nat → Option Nat))) t => E = gEn u.1 ∧ (fun (u : (Nat → Nat → Int32) × (Nat → Nat → Option Nat)) H => va_P (dC, dI) vwCl (hW N ca b u.1 u.2 J) H) u.2 t.heap) A) 1 6 A := by
  refine vx_ofW (cc := cX7_wouldWin) (maxL := 2) (ret := (some .int)) (by decide) rfl ?_
  intro p e s m args below meth c s₁ B hml hout hv
  obtain ⟨rfl, hP, hK, hA2, hth⟩ := hv
  have hx := B.exec
  have hb := B.bytes
  have hr := B.returns
  have hlk := B.notSynchronized
  have X : gCx p s m ([.ref (b 0)] : List Value).toArray c RX7 cX7_wouldWin wsX7_wouldWin 2 dC dI ca b A N := ⟨hx, hb, hml, findClass_of_methodNamed B.named, atoms_spec (ws := wsX7_wouldWin) B.pre, hK, hA, hA2, hth⟩
  have hg2 : ∀ w ∈ gWg2, w ∈ wsX7_wouldWin := (fun w h => List.mem_cons_of_mem _ (List.mem_append_right _ h))
  have hS : va_S A s.heap s.heap [] := va_S.rf
  have hl := lv_entry ([.ref (b 0)] : List Value) (n := 2) (Nat.le_of_ble_eq_true rfl)
  rw [lg_entry_eq]
  generalize (lg_sl ([.ref (b 0)] : List Value) ++ List.replicate (2 - (lg_sl ([.ref (b 0)] : List Value)).length) Slot.unset).toArray = ls at hl ⊢
  have hl : lv_has ls 2 [(0, .ref (b 0))] := hl
  unfold f_X7_wouldWin at h
  refine lv_aload_n hx hb dX7_wouldWin_0 rfl (lv_at hl 0 rfl) ?_
  obtain ⟨q4, hcq4, h⟩ := hb_some h
  refine gdV_i (As := []) (rest := []) (BH := (fun (u : (Nat → Nat → Int32) × (Nat → Nat → Option Nat)) H => va_P (dC, dI) vwCl (hW N ca b u.1 u.2 J) H)) X hP hS (c_X7_foretellWinner hN hA I O J q4 hcq4) (cwV 0 X.ts gX7_wouldWin_X7_foretellWinner rfl rfl rfl (by decide +kernel) ⟨Nat.le_of_ble_eq_true rfl, Nat.le_of_ble_eq_true rfl⟩) (gr7 X hP kc_0 (sk_in hN kc_0 (by decide))) rfl hl.1 rfl (Nat.le_of_ble_eq_true rfl) dX7_wouldWin_1 ⟨Nat.le_of_ble_eq_true rfl, Nat.le_of_ble_eq_true rfl⟩ (fun r3 u9 H locs hw hP hS => ?_)
  obtain ⟨I1, O2⟩ := u9
  subst hw
  refine lv_istore_n (lv' := [(1, .int r3), (0, .ref (b 0))]) hx hb dX7_wouldWin_4 rfl hl (by decide) rfl (fun ls hl => ?_)
  refine lv_iload_n hx hb dX7_wouldWin_5 rfl (lv_at hl 0 rfl) ?_
  refine lv_iconst (v := (-1)) hx hb dX7_wouldWin_6 (by decide) ?_
  refine lv_icmp_ne (tgt := 21) hx hb dX7_wouldWin_7 (by decide) (fun c5 => ?_) (fun c5 => ?_)
  · have h := gif_f c5 h
    refine lv_iload_n hx hb dX7_wouldWin_21 rfl (lv_at hl 0 rfl) ?_
    refine vx_ret ?_
    refine W.widen (k := 1) (n := 6) (Nat.le_of_ble_eq_true rfl) (Nat.le_of_ble_eq_true rfl) ?_
    exact W.iret hx hb hr (fun t9 ht hW => ⟨⟨r3, (I1, O2), rfl, (Option.some.inj h).symm, gEnd ht hP⟩, hS.F ht⟩) hS.2.2 dX7_wouldWin_22 hlk
  · have h := gif_t c5 h
    exact gt2w (S := (Nat → Nat → Int32) × (Nat → Nat → Option Nat)) (BH := (fun (u : (Nat → Nat → Int32) × (Nat → Nat → Option Nat)) H => va_P (dC, dI) vwCl (hW N ca b u.1 u.2 J) H)) X hlf hlk hout hS hg2 (List.mem_of_getElem? (i := 1) rfl) (List.mem_of_getElem? (i := 2) rfl) (List.mem_of_getElem? (i := 23) rfl) hl.1 dX7_wouldWin_10 dX7_wouldWin_13 dX7_wouldWin_14 dX7_wouldWin_17 dX7_wouldWin_20 (Nat.le_of_ble_eq_true rfl) (Nat.le_of_ble_eq_true rfl) (Nat.le_of_ble_eq_true rfl) (Nat.le_of_ble_eq_true rfl) (I1, O2) (Option.some.inj h).symm (fun H1 hk1 => hP.kept (fun k q hq => hk1 q.1 (hP k q hq).lt)) (Nat.le_of_ble_eq_true rfl) (Nat.le_of_ble_eq_true rfl)
def f_X7_secondsToNext (I : Nat → Nat → Int32) (O : Nat → Nat → Option Nat) : Option (Sum Nat Int32 × (Nat → Nat → Int32) × (Nat → Nat → Option Nat)) :=
  (f_X7_foretellSeconds I O).bind fun (r3, I1, O2) =>
  if r3 = (-1 : Int32) then
    some ((Sum.inl 2), I1, O2)
  else
    some ((Sum.inr r3), I1, O2)
set_option maxHeartbeats 8000000 in
set_option maxRecDepth 100000 in
theorem c_X7_secondsToNext {l : Launch} (hlf : l.stackTraces = false) {dC : Nat → ClassId} {dI : Nat → Nat → Nat} {ca : Nat → ClassId} {b : Nat → Nat} {A : Nat → Prop} {N : Nat} (hN : 129 ≤ N) (hA : gAd A b N) (I : Nat → Nat → Int32) (O : Nat → Nat → Option Nat) (J : Nat → Nat → Int64) (res : Sum Nat Int32 × (Nat → Nat → Int32) × (Nat → Nat → Option Nat)) (h : f_X7_secondsToNext I O = some res) : vx_Met l yX7_secondsToNext wsX7_secondsToNext ({ frames := 6, cells := 1, slots := 6, locals := 121 } : Room) (va_Pc [.ref (b 0)] (gPre dC dI ca b A N I O J)) (va_Qi (fun (r : Int32) (u : (Nat → Nat → Int32) × (Nat → Nat → Option Nat)) => res = (Sum.inr r, u)) (fun (u : (Nat → Nat → Int32) × (Nat → Nat → Option Nat)) t => va_P (dC, dI) vwCl (hW N ca b u.1 u.2 J) t.heap) A) (vx_X (fun (u : Nat × ((Nat → Nat → Int32) × (Nat → Nat → Option Nat))) => res = (Sum.inl u.1, u.2)) (fun E (u : Nat × ((Nat → Nat → Int32) × (Nat → Nat → Option Nat))) t => E = gEn u.1 ∧ (fun (u : (Nat → Nat → Int32) × (Nat → Nat → Option Nat)) H => va_P (dC, dI) vwCl (hW N ca b u.1 u.2 J) H) u.2 t.heap) A) 1 6 A := by
  refine vx_ofW (cc := cX7_secondsToNext) (maxL := 2) (ret := (some .int)) (by decide) rfl ?_
  intro p e s m args below meth c s₁ B hml hout hv
  obtain ⟨rfl, hP, hK, hA2, hth⟩ := hv
  have hx := B.exec
  have hb := B.bytes
  have hr := B.returns
  have hlk := B.notSynchronized
  have X : gCx p s m ([.ref (b 0)] : List Value).toArray c RX7 cX7_secondsToNext wsX7_secondsToNext 2 dC dI ca b A N := ⟨hx, hb, hml, findClass_of_methodNamed B.named, atoms_spec (ws := wsX7_secondsToNext) B.pre, hK, hA, hA2, hth⟩
  have hg2 : ∀ w ∈ gWg2, w ∈ wsX7_secondsToNext := (fun w h => List.mem_cons_of_mem _ (List.mem_append_right _ h))
  have hS : va_S A s.heap s.heap [] := va_S.rf
  have hl := lv_entry ([.ref (b 0)] : List Value) (n := 2) (Nat.le_of_ble_eq_true rfl)
  rw [lg_entry_eq]
  generalize (lg_sl ([.ref (b 0)] : List Value) ++ List.replicate (2 - (lg_sl ([.ref (b 0)] : List Value)).length) Slot.unset).toArray = ls at hl ⊢
  have hl : lv_has ls 2 [(0, .ref (b 0))] := hl
  unfold f_X7_secondsToNext at h
  refine lv_aload_n hx hb dX7_secondsToNext_0 rfl (lv_at hl 0 rfl) ?_
  obtain ⟨q4, hcq4, h⟩ := hb_some h
  refine gdV_i (As := []) (rest := []) (BH := (fun (u : (Nat → Nat → Int32) × (Nat → Nat → Option Nat)) H => va_P (dC, dI) vwCl (hW N ca b u.1 u.2 J) H)) X hP hS (c_X7_foretellSeconds hN hA I O J q4 hcq4) (cwV 0 X.ts gX7_secondsToNext_X7_foretellSeconds rfl rfl rfl (by decide +kernel) ⟨Nat.le_of_ble_eq_true rfl, Nat.le_of_ble_eq_true rfl⟩) (gr7 X hP kc_0 (sk_in hN kc_0 (by decide))) rfl hl.1 rfl (Nat.le_of_ble_eq_true rfl) dX7_secondsToNext_1 ⟨Nat.le_of_ble_eq_true rfl, Nat.le_of_ble_eq_true rfl⟩ (fun r3 u9 H locs hw hP hS => ?_)
  obtain ⟨I1, O2⟩ := u9
  subst hw
  refine lv_istore_n (lv' := [(1, .int r3), (0, .ref (b 0))]) hx hb dX7_secondsToNext_4 rfl hl (by decide) rfl (fun ls hl => ?_)
  refine lv_iload_n hx hb dX7_secondsToNext_5 rfl (lv_at hl 0 rfl) ?_
  refine lv_iconst (v := (-1)) hx hb dX7_secondsToNext_6 (by decide) ?_
  refine lv_icmp_ne (tgt := 21) hx hb dX7_secondsToNext_7 (by decide) (fun c5 => ?_) (fun c5 => ?_)
  · have h := gif_f c5 h
    refine lv_iload_n hx hb dX7_secondsToNext_21 rfl (lv_at hl 0 rfl) ?_
    refine vx_ret ?_
    refine W.widen (k := 1) (n := 6) (Nat.le_of_ble_eq_true rfl) (Nat.le_of_ble_eq_true rfl) ?_
    exact W.iret hx hb hr (fun t9 ht hW => ⟨⟨r3, (I1, O2), rfl, (Option.some.inj h).symm, gEnd ht hP⟩, hS.F ht⟩) hS.2.2 dX7_secondsToNext_22 hlk
  · have h := gif_t c5 h
    exact gt2w (S := (Nat → Nat → Int32) × (Nat → Nat → Option Nat)) (BH := (fun (u : (Nat → Nat → Int32) × (Nat → Nat → Option Nat)) H => va_P (dC, dI) vwCl (hW N ca b u.1 u.2 J) H)) X hlf hlk hout hS hg2 (List.mem_of_getElem? (i := 1) rfl) (List.mem_of_getElem? (i := 2) rfl) (List.mem_of_getElem? (i := 24) rfl) hl.1 dX7_secondsToNext_10 dX7_secondsToNext_13 dX7_secondsToNext_14 dX7_secondsToNext_17 dX7_secondsToNext_20 (Nat.le_of_ble_eq_true rfl) (Nat.le_of_ble_eq_true rfl) (Nat.le_of_ble_eq_true rfl) (Nat.le_of_ble_eq_true rfl) (I1, O2) (Option.some.inj h).symm (fun H1 hk1 => hP.kept (fun k q hq => hk1 q.1 (hP k q hq).lt)) (Nat.le_of_ble_eq_true rfl) (Nat.le_of_ble_eq_true rfl)
def f_X7_flownWithPace (a1 : Int32) (a2 : Int32) (I : Nat → Nat → Int32) (O : Nat → Nat → Option Nat) : Option (Sum Nat Int32 × (Nat → Nat → Int32) × (Nat → Nat → Option Nat)) :=
  (f_X7_known a1 I).bind fun eq2 => hsum eq2 (fun k9 => some ((Sum.inl k9), I, O)) fun r1 =>
  (f_X7_checkPace a2).bind fun eq3 => hsum eq3 (fun k9 => some ((Sum.inl k9), I, O)) fun _ =>
  (f_X7_checkRacing I).bind fun eq4 => hsum eq4 (fun k9 => some ((Sum.inl k9), I, O)) fun _ =>
  (r1).bind fun n5 => hk n5 6 <|
  (f_X7_foretell n5 a2 (50 : Int32) I O).bind fun (r8, I6, O7) =>
  some ((Sum.inr r8), I6, O7)
set_option maxHeartbeats 8000000 in
set_option maxRecDepth 100000 in
theorem c_X7_flownWithPace {l : Launch} (hlf : l.stackTraces = false) {dC : Nat → ClassId} {dI : Nat → Nat → Nat} {ca : Nat → ClassId} {b : Nat → Nat} {A : Nat → Prop} {N : Nat} (hN : 129 ≤ N) (hA : gAd A b N) (I : Nat → Nat → Int32) (O : Nat → Nat → Option Nat) (J : Nat → Nat → Int64) (a1 : Int32) (a2 : Int32) (res : Sum Nat Int32 × (Nat → Nat → Int32) × (Nat → Nat → Option Nat)) (h : f_X7_flownWithPace a1 a2 I O = some res) : vx_Met l yX7_flownWithPace wsX7_flownWithPace ({ frames := 7, cells := 3, slots := 18, locals := 124 } : Room) (va_Pc [.ref (b 0), .int a1, .int a2] (gPre dC dI ca b A N I O J)) (va_Qi (fun (r : Int32) (u : (Nat → Nat → Int32) × (Nat → Nat → Option Nat)) => res = (Sum.inr r, u)) (fun (u : (Nat → Nat → Int32) × (Nat → Nat → Option Nat)) t => va_P (dC, dI) vwCl (hW N ca b u.1 u.2 J) t.heap) A) (vx_X (fun (u : Nat × ((Nat → Nat → Int32) × (Nat → Nat → Option Nat))) => res = (Sum.inl u.1, u.2)) (fun E (u : Nat × ((Nat → Nat → Int32) × (Nat → Nat → Option Nat))) t => E = gEn u.1 ∧ (fun (u : (Nat → Nat → Int32) × (Nat → Nat → Option Nat)) H => va_P (dC, dI) vwCl (hW N ca b u.1 u.2 J) H) u.2 t.heap) A) 3 18 A := by
  refine vx_ofW (cc := cX7_flownWithPace) (maxL := 4) (ret := (some .int)) (by decide) rfl ?_
  intro p e s m args below meth c s₁ B hml hout hv
  obtain ⟨rfl, hP, hK, hA2, hth⟩ := hv
  have hx := B.exec
  have hb := B.bytes
  have hr := B.returns
  have hlk := B.notSynchronized
  have X : gCx p s m ([.ref (b 0), .int a1, .int a2] : List Value).toArray c RX7 cX7_flownWithPace wsX7_flownWithPace 4 dC dI ca b A N := ⟨hx, hb, hml, findClass_of_methodNamed B.named, atoms_spec (ws := wsX7_flownWithPace) B.pre, hK, hA, hA2, hth⟩
  have hS : va_S A s.heap s.heap [] := va_S.rf
  have hl := lv_entry ([.ref (b 0), .int a1, .int a2] : List Value) (n := 4) (Nat.le_of_ble_eq_true rfl)
  rw [lg_entry_eq]
  generalize (lg_sl ([.ref (b 0), .int a1, .int a2] : List Value) ++ List.replicate (4 - (lg_sl ([.ref (b 0), .int a1, .int a2] : List Value)).length) Slot.unset).toArray = ls at hl ⊢
  have hl : lv_has ls 4 [(0, .ref (b 0)), (1, .int a1), (2, .int a2)] := hl
  unfold f_X7_flownWithPace at h
  refine lv_aload_n hx hb dX7_flownWithPace_0 rfl (lv_at hl 0 rfl) ?_
  refine lv_iload_n hx hb dX7_flownWithPace_1 rfl (lv_at hl 1 rfl) ?_
  obtain ⟨q2, hcq2, h⟩ := hb_some h
  refine gxV_q (As := [.int a1]) (rest := []) (BH := (fun (u : Unit) H => va_P (dC, dI) vwCl (hW N ca b I O J) H)) (BX := (fun (u : Unit) H => va_P (dC, dI) vwCl (hW N ca b I O J) H)) X hP hS (c_X7_known hlf hN hA I O J a1 q2 hcq2) (cwV 1 X.ts gX7_flownWithPace_X7_known rfl rfl rfl (by decide +kernel) ⟨Nat.le_of_ble_eq_true rfl, Nat.le_of_ble_eq_true rfl⟩) (gr7 X hP kc_0 (sk_in hN kc_0 (by decide))) rfl hl.1 rfl (Nat.le_of_ble_eq_true rfl) dX7_flownWithPace_2 ⟨Nat.le_of_ble_eq_true rfl, Nat.le_of_ble_eq_true rfl⟩ (fun k9 u9 H locs ce9 q9 hw hP hS hce hcv hcl => ?_) (fun r1 u9 H locs hw hP hS => ?_)
  · subst hw
    exact gOut (S := (Nat → Nat → Int32) × (Nat → Nat → Option Nat)) (BH := (fun (u : (Nat → Nat → Int32) × (Nat → Nat → Option Nat)) H => va_P (dC, dI) vwCl (hW N ca b u.1 u.2 J) H)) hlk hout hS hce hcv hcl (I, O) (Option.some.inj (show some ((Sum.inl k9), I, O) = some res from h)).symm hP (Nat.le_of_ble_eq_true rfl) (Nat.le_of_ble_eq_true rfl)
  obtain ⟨r1, rfl, hw⟩ := hw
  subst hw
  have h := hsum_r h
  refine gv_astore_n (r := Option.map b r1) (lv' := [(3, va_rf (Option.map b r1)), (0, .ref (b 0)), (1, .int a1), (2, .int a2)]) hx hb dX7_flownWithPace_5 rfl hl (by decide) rfl (fun ls hl => ?_)
  refine lv_iload_n hx hb dX7_flownWithPace_6 rfl (lv_at hl 3 rfl) ?_
  obtain ⟨q3, hcq3, h⟩ := hb_some h
  refine gxS_v (As := [.int a2]) (rest := []) (BH := (fun (u : Unit) H => va_P (dC, dI) vwCl (hW N ca b I O J) H)) (BX := (fun (u : Unit) H => va_P (dC, dI) vwCl (hW N ca b I O J) H)) X hP hS (c_X7_checkPace hlf hN hA I O J a2 q3 hcq3) (va_cwS 1 X.ts gX7_flownWithPace_X7_checkPace rfl rfl rfl (by decide +kernel) ⟨Nat.le_of_ble_eq_true rfl, Nat.le_of_ble_eq_true rfl⟩) rfl hl.1 rfl (Nat.le_of_ble_eq_true rfl) dX7_flownWithPace_7 ⟨Nat.le_of_ble_eq_true rfl, Nat.le_of_ble_eq_true rfl⟩ (fun k9 u9 H locs ce9 q9 hw hP hS hce hcv hcl => ?_) (fun u9 H locs hw hP hS => ?_)
  · subst hw
    exact gOut (S := (Nat → Nat → Int32) × (Nat → Nat → Option Nat)) (BH := (fun (u : (Nat → Nat → Int32) × (Nat → Nat → Option Nat)) H => va_P (dC, dI) vwCl (hW N ca b u.1 u.2 J) H)) hlk hout hS hce hcv hcl (I, O) (Option.some.inj (show some ((Sum.inl k9), I, O) = some res from h)).symm hP (Nat.le_of_ble_eq_true rfl) (Nat.le_of_ble_eq_true rfl)
  subst hw
  have h := hsum_r h
  refine lv_aload_n hx hb dX7_flownWithPace_10 rfl (lv_at hl 1 rfl) ?_
  obtain ⟨q4, hcq4, h⟩ := hb_some h
  refine gxV_v (As := []) (rest := []) (BH := (fun (u : Unit) H => va_P (dC, dI) vwCl (hW N ca b I O J) H)) (BX := (fun (u : Unit) H => va_P (dC, dI) vwCl (hW N ca b I O J) H)) X hP hS (c_X7_checkRacing hlf hN hA I O J q4 hcq4) (cwV 0 X.ts gX7_flownWithPace_X7_checkRacing rfl rfl rfl (by decide +kernel) ⟨Nat.le_of_ble_eq_true rfl, Nat.le_of_ble_eq_true rfl⟩) (gr7 X hP kc_0 (sk_in hN kc_0 (by decide))) rfl hl.1 rfl (Nat.le_of_ble_eq_true rfl) dX7_flownWithPace_11 ⟨Nat.le_of_ble_eq_true rfl, Nat.le_of_ble_eq_true rfl⟩ (fun k9 u9 H locs ce9 q9 hw hP hS hce hcv hcl => ?_) (fun u9 H locs hw hP hS => ?_)
  · subst hw
    exact gOut (S := (Nat → Nat → Int32) × (Nat → Nat → Option Nat)) (BH := (fun (u : (Nat → Nat → Int32) × (Nat → Nat → Option Nat)) H => va_P (dC, dI) vwCl (hW N ca b u.1 u.2 J) H)) hlk hout hS hce hcv hcl (I, O) (Option.some.inj (show some ((Sum.inl k9), I, O) = some res from h)).symm hP (Nat.le_of_ble_eq_true rfl) (Nat.le_of_ble_eq_true rfl)
  subst hw
  have h := hsum_r h
  refine lv_aload_n hx hb dX7_flownWithPace_14 rfl (lv_at hl 1 rfl) ?_
  refine gv_aload_n (r := Option.map b r1) hx hb dX7_flownWithPace_15 rfl (lv_at hl 0 rfl) ?_
  refine lv_iload_n hx hb dX7_flownWithPace_16 rfl (lv_at hl 3 rfl) ?_
  refine lv_bipush (v := 50) hx hb dX7_flownWithPace_17 (by decide) ?_
  obtain ⟨n5, rfl, h⟩ := hb_some h
  obtain ⟨hk_n5, h⟩ := hk_some h
  obtain ⟨q9, hcq9, h⟩ := hb_some h
  refine gdV_i (As := [.ref (b n5), .int a2, .int (50 : Int32)]) (rest := []) (BH := (fun (u : (Nat → Nat → Int32) × (Nat → Nat → Option Nat)) H => va_P (dC, dI) vwCl (hW N ca b u.1 u.2 J) H)) X hP hS (c_X7_foretell hN hA I O J n5 a2 (50 : Int32) hk_n5 q9 hcq9) (cwV 3 X.ts gX7_flownWithPace_X7_foretell rfl rfl rfl (by decide +kernel) ⟨Nat.le_of_ble_eq_true rfl, Nat.le_of_ble_eq_true rfl⟩) (gr7 X hP kc_0 (sk_in hN kc_0 (by decide))) rfl hl.1 rfl (Nat.le_of_ble_eq_true rfl) dX7_flownWithPace_19 ⟨Nat.le_of_ble_eq_true rfl, Nat.le_of_ble_eq_true rfl⟩ (fun r8 u9 H locs hw hP hS => ?_)
  obtain ⟨I6, O7⟩ := u9
  subst hw
  refine vx_ret ?_
  refine W.widen (k := 3) (n := 18) (Nat.le_of_ble_eq_true rfl) (Nat.le_of_ble_eq_true rfl) ?_
  exact W.iret hx hb hr (fun t9 ht hW => ⟨⟨r8, (I6, O7), rfl, (Option.some.inj h).symm, gEnd ht hP⟩, hS.F ht⟩) hS.2.2 dX7_flownWithPace_22 hlk
def f_X7_foretellBestPace_L9 (a1 : Nat) : Nat → Int32 → Int32 → Int32 → (Nat → Nat → Int32) → (Nat → Nat → Option Nat) → Option (Int32 × (Nat → Nat → Int32) × (Nat → Nat → Option Nat))
  | 0, _, _, _, _, _ => none
  | fuel + 1, p1, p2, p3, I4, O5 =>
    if (40 : Int32) < p3 then
      some (p1, I4, O5)
    else
      (f_X7_foretell a1 p3 (50 : Int32) I4 O5).bind fun (r11, I9, O10) =>
      (show Option (Int32 × Int32) from
        if r11 ≤ p2 then
          some (p1, p2)
        else
          some (p3, r11)).bind fun (p13, p14) =>
      hlet (p3 + 1) fun x15 =>
      f_X7_foretellBestPace_L9 a1 fuel p13 p14 x15 I9 O10
def f_X7_foretellBestPace (a1 : Nat) (I : Nat → Nat → Int32) (O : Nat → Nat → Option Nat) : Option (Int32 × (Nat → Nat → Int32) × (Nat → Nat → Option Nat)) :=
  (f_X7_foretellBestPace_L9 a1 FU (10 : Int32) (-1 : Int32) (10 : Int32) I O).bind fun (p6, I7, O8) =>
  some (p6, I7, O8)
set_option maxHeartbeats 8000000 in
set_option maxRecDepth 100000 in
theorem c_X7_foretellBestPace {l : Launch} {dC : Nat → ClassId} {dI : Nat → Nat → Nat} {ca : Nat → ClassId} {b : Nat → Nat} {A : Nat → Prop} {N : Nat} (hN : 129 ≤ N) (hA : gAd A b N) (I : Nat → Nat → Int32) (O : Nat → Nat → Option Nat) (J : Nat → Nat → Int64) (a1 : Nat) (hk_a1 : SHK a1 = 6) (res : Int32 × (Nat → Nat → Int32) × (Nat → Nat → Option Nat)) (h : f_X7_foretellBestPace a1 I O = some res) : Met l yX7_foretellBestPace wsX7_foretellBestPace ({ frames := 5, cells := 0, slots := 0, locals := 124 } : Room) (va_Pc [.ref (b 0), .ref (b a1)] (gPre dC dI ca b A N I O J)) (va_Qi (fun (r : Int32) (u : (Nat → Nat → Int32) × (Nat → Nat → Option Nat)) => res = (r, u)) (fun (u : (Nat → Nat → Int32) × (Nat → Nat → Option Nat)) t => va_P (dC, dI) vwCl (hW N ca b u.1 u.2 J) t.heap) A) 0 0 A := by
  refine Met.ofW (cc := cX7_foretellBestPace) (maxL := 6) (ret := (some .int)) (by decide) rfl ?_
  intro p e s m args below meth c s₁ B hml hv
  obtain ⟨rfl, hP, hK, hA2, hth⟩ := hv
  have hx := B.exec
  have hb := B.bytes
  have hr := B.returns
  have hlk := B.notSynchronized
  have X : gCx p s m ([.ref (b 0), .ref (b a1)] : List Value).toArray c RX7 cX7_foretellBestPace wsX7_foretellBestPace 6 dC dI ca b A N := ⟨hx, hb, hml, findClass_of_methodNamed B.named, atoms_spec (ws := wsX7_foretellBestPace) B.pre, hK, hA, hA2, hth⟩
  have hS : va_S A s.heap s.heap [] := va_S.rf
  have hl := lv_entry ([.ref (b 0), .ref (b a1)] : List Value) (n := 6) (Nat.le_of_ble_eq_true rfl)
  rw [lg_entry_eq]
  generalize (lg_sl ([.ref (b 0), .ref (b a1)] : List Value) ++ List.replicate (6 - (lg_sl ([.ref (b 0), .ref (b a1)] : List Value)).length) Slot.unset).toArray = ls at hl ⊢
  have hl : lv_has ls 6 [(0, .ref (b 0)), (1, .ref (b a1))] := hl
  unfold f_X7_foretellBestPace at h
  refine lv_bipush (v := 10) hx hb dX7_foretellBestPace_0 (by decide) ?_
  refine lv_istore_n (lv' := [(2, .int (10 : Int32)), (0, .ref (b 0)), (1, .ref (b a1))]) hx hb dX7_foretellBestPace_2 rfl hl (by decide) rfl (fun ls hl => ?_)
  refine lv_iconst (v := (-1)) hx hb dX7_foretellBestPace_3 (by decide) ?_
  refine lv_istore_n (lv' := [(3, .int (-1 : Int32)), (2, .int (10 : Int32)), (0, .ref (b 0)), (1, .ref (b a1))]) hx hb dX7_foretellBestPace_4 rfl hl (by decide) rfl (fun ls hl => ?_)
  refine lv_bipush (v := 10) hx hb dX7_foretellBestPace_5 (by decide) ?_
  refine lv_istore (lv' := [(4, .int (10 : Int32)), (3, .int (-1 : Int32)), (2, .int (10 : Int32)), (0, .ref (b 0)), (1, .ref (b a1))]) hx hb dX7_foretellBestPace_7 hl (by decide) rfl (fun ls hl => ?_)
  obtain ⟨⟨p6, I7, O8⟩, hv, h⟩ := hb_some h
  have K45 : ∀ (H : Heap) (locs : List Loc) (ls : Array Slot), va_P (dC, dI) vwCl (hW N ca b I7 O8 J) H → va_S A s.heap H locs → lv_has ls 6 [(2, .int p6)] → W p l e (headSpec wsX7_foretellBestPace ({ frames := 5, cells := 0, slots := 0, locals := 124 } : Room)).room s m ([.ref (b 0), .ref (b a1)] : List Value).toArray below meth c H locs 0 0 (MQ below (va_Qi (fun (r : Int32) (u : (Nat → Nat → Int32) × (Nat → Nat → Option Nat)) => res = (r, u)) (fun (u : (Nat → Nat → Int32) × (Nat → Nat → Option Nat)) t => va_P (dC, dI) vwCl (hW N ca b u.1 u.2 J) t.heap) A) ([.ref (b 0), .ref (b a1)] : List Value).toArray s 0 0 A) (F0 m 45 ls []) := by
    intro H locs ls hP hS hl
    refine lv_iload_n hx hb dX7_foretellBestPace_45 rfl (lv_at hl 0 rfl) ?_
    exact W.iret hx hb hr (fun t9 ht hW => ⟨⟨p6, (I7, O8), rfl, (Option.some.inj h).symm, gEnd ht hP⟩, hS.F ht⟩) hS.2.2 dX7_foretellBestPace_46 hlk
  have hL9 : ∀ (fuel : Nat) (p1 : Int32) (p2 : Int32) (p3 : Int32) (I4 : Nat → Nat → Int32) (O5 : Nat → Nat → Option Nat) (H : Heap) (locs : List Loc) (ls : Array Slot), f_X7_foretellBestPace_L9 a1 fuel p1 p2 p3 I4 O5 = some (p6, I7, O8) → va_P (dC, dI) vwCl (hW N ca b I4 O5 J) H → va_S A s.heap H locs → lv_has ls 6 [(0, .ref (b 0)), (1, .ref (b a1)), (2, .int p1), (3, .int p2), (4, .int p3)] → W p l e (headSpec wsX7_foretellBestPace ({ frames := 5, cells := 0, slots := 0, locals := 124 } : Room)).room s m ([.ref (b 0), .ref (b a1)] : List Value).toArray below meth c H locs 0 0 (MQ below (va_Qi (fun (r : Int32) (u : (Nat → Nat → Int32) × (Nat → Nat → Option Nat)) => res = (r, u)) (fun (u : (Nat → Nat → Int32) × (Nat → Nat → Option Nat)) t => va_P (dC, dI) vwCl (hW N ca b u.1 u.2 J) t.heap) A) ([.ref (b 0), .ref (b a1)] : List Value).toArray s 0 0 A) (F0 m 9 ls []) := by
    intro fuel
    induction fuel with
    | zero =>
      intro p1 p2 p3 I4 O5 H locs ls h hP hS hl
      rw [f_X7_foretellBestPace_L9] at h
      cases h
    | succ fuel ih =>
      intro p1 p2 p3 I4 O5 H locs ls h hP hS hl
      rw [f_X7_foretellBestPace_L9] at h
      refine lv_iload hx hb dX7_foretellBestPace_9 (lv_at hl 4 rfl) ?_
      refine lv_bipush (v := 40) hx hb dX7_foretellBestPace_11 (by decide) ?_
      refine lv_icmp_gt (tgt := 45) hx hb dX7_foretellBestPace_13 (by decide) (fun c17 => ?_) (fun c17 => ?_)
      · have h := gif_t c17 h
        cases h
        exact K45 _ _ _ hP hS (lv_sub hl [2] rfl)
      · have h := gif_f c17 h
        refine lv_aload_n hx hb dX7_foretellBestPace_16 rfl (lv_at hl 0 rfl) ?_
        refine lv_aload_n hx hb dX7_foretellBestPace_17 rfl (lv_at hl 1 rfl) ?_
        refine lv_iload hx hb dX7_foretellBestPace_18 (lv_at hl 4 rfl) ?_
        refine lv_bipush (v := 50) hx hb dX7_foretellBestPace_20 (by decide) ?_
        obtain ⟨q12, hcq12, h⟩ := hb_some h
        refine gdV_i (As := [.ref (b a1), .int p3, .int (50 : Int32)]) (rest := []) (BH := (fun (u : (Nat → Nat → Int32) × (Nat → Nat → Option Nat)) H => va_P (dC, dI) vwCl (hW N ca b u.1 u.2 J) H)) X hP hS (c_X7_foretell hN hA I4 O5 J a1 p3 (50 : Int32) hk_a1 q12 hcq12) (cwV 3 X.ts gX7_foretellBestPace_X7_foretell rfl rfl rfl (by decide +kernel) ⟨Nat.le_of_ble_eq_true rfl, Nat.le_of_ble_eq_true rfl⟩) (gr7 X hP kc_0 (sk_in hN kc_0 (by decide))) rfl hl.1 rfl (Nat.le_of_ble_eq_true rfl) dX7_foretellBestPace_22 ⟨Nat.le_of_ble_eq_true rfl, Nat.le_of_ble_eq_true rfl⟩ (fun r11 u9 H locs hw hP hS => ?_)
        obtain ⟨I9, O10⟩ := u9
        subst hw
        refine lv_istore (lv' := [(5, .int r11), (0, .ref (b 0)), (1, .ref (b a1)), (2, .int p1), (3, .int p2), (4, .int p3)]) hx hb dX7_foretellBestPace_25 hl (by decide) rfl (fun ls hl => ?_)
        refine lv_iload hx hb dX7_foretellBestPace_27 (lv_at hl 0 rfl) ?_
        refine lv_iload_n hx hb dX7_foretellBestPace_29 rfl (lv_at hl 4 rfl) ?_
        obtain ⟨⟨p13, p14⟩, hv, h⟩ := hb_some h
        have K39 : ∀ (H : Heap) (locs : List Loc) (ls : Array Slot), va_P (dC, dI) vwCl (hW N ca b I9 O10 J) H → va_S A s.heap H locs → lv_has ls 6 [(0, .ref (b 0)), (1, .ref (b a1)), (2, .int p13), (3, .int p14), (4, .int p3)] → W p l e (headSpec wsX7_foretellBestPace ({ frames := 5, cells := 0, slots := 0, locals := 124 } : Room)).room s m ([.ref (b 0), .ref (b a1)] : List Value).toArray below meth c H locs 0 0 (MQ below (va_Qi (fun (r : Int32) (u : (Nat → Nat → Int32) × (Nat → Nat → Option Nat)) => res = (r, u)) (fun (u : (Nat → Nat → Int32) × (Nat → Nat → Option Nat)) t => va_P (dC, dI) vwCl (hW N ca b u.1 u.2 J) t.heap) A) ([.ref (b 0), .ref (b a1)] : List Value).toArray s 0 0 A) (F0 m 39 ls []) := by
          intro H locs ls hP hS hl
          obtain ⟨x15, ex15, h⟩ := hlet_ex h
          refine lv_iinc (v := x15) (lv' := [(4, .int x15), (0, .ref (b 0)), (1, .ref (b a1)), (2, .int p13), (3, .int p14)]) hx hb dX7_foretellBestPace_39 hl (k := 4) rfl (by rw [ex15]; rfl) (by decide) rfl (fun ls hl => ?_)
          refine lv_goto (tgt := 9) hx hb dX7_foretellBestPace_42 (by decide) ?_
          exact ih _ _ _ _ _ _ _ _ h hP hS (lv_sub hl [1, 2, 3, 4, 0] rfl)
        have h := hv
        refine lv_icmp_le (tgt := 39) hx hb dX7_foretellBestPace_30 (by decide) (fun c16 => ?_) (fun c16 => ?_)
        · have h := gif_t c16 h
          cases h
          exact K39 _ _ _ hP hS (lv_sub hl [1, 2, 3, 4, 5] rfl)
        · have h := gif_f c16 h
          refine lv_iload hx hb dX7_foretellBestPace_33 (lv_at hl 0 rfl) ?_
          refine lv_istore_n (lv' := [(3, .int r11), (5, .int r11), (0, .ref (b 0)), (1, .ref (b a1)), (2, .int p1), (4, .int p3)]) hx hb dX7_foretellBestPace_35 rfl hl (by decide) rfl (fun ls hl => ?_)
          refine lv_iload hx hb dX7_foretellBestPace_36 (lv_at hl 5 rfl) ?_
          refine lv_istore_n (lv' := [(2, .int p3), (3, .int r11), (5, .int r11), (0, .ref (b 0)), (1, .ref (b a1)), (4, .int p3)]) hx hb dX7_foretellBestPace_38 rfl hl (by decide) rfl (fun ls hl => ?_)
          cases h
          exact K39 _ _ _ hP hS (lv_sub hl [3, 4, 0, 1, 5] rfl)
  exact hL9 FU _ _ _ _ _ _ _ _ hv hP hS (lv_sub hl [3, 4, 2, 1, 0] rfl)
def f_X7_bestPace (a1 : Int32) (I : Nat → Nat → Int32) (O : Nat → Nat → Option Nat) : Option (Sum Nat Int32 × (Nat → Nat → Int32) × (Nat → Nat → Option Nat)) :=
  (f_X7_known a1 I).bind fun eq2 => hsum eq2 (fun k9 => some ((Sum.inl k9), I, O)) fun r1 =>
  (f_X7_checkRacing I).bind fun eq3 => hsum eq3 (fun k9 => some ((Sum.inl k9), I, O)) fun _ =>
  (r1).bind fun n4 => hk n4 6 <|
  (f_X7_foretellBestPace n4 I O).bind fun (r7, I5, O6) =>
  some ((Sum.inr r7), I5, O6)
set_option maxHeartbeats 8000000 in
set_option maxRecDepth 100000 in
theorem c_X7_bestPace {l : Launch} (hlf : l.stackTraces = false) {dC : Nat → ClassId} {dI : Nat → Nat → Nat} {ca : Nat → ClassId} {b : Nat → Nat} {A : Nat → Prop} {N : Nat} (hN : 129 ≤ N) (hA : gAd A b N) (I : Nat → Nat → Int32) (O : Nat → Nat → Option Nat) (J : Nat → Nat → Int64) (a1 : Int32) (res : Sum Nat Int32 × (Nat → Nat → Int32) × (Nat → Nat → Option Nat)) (h : f_X7_bestPace a1 I O = some res) : vx_Met l yX7_bestPace wsX7_bestPace ({ frames := 7, cells := 2, slots := 12, locals := 149 } : Room) (va_Pc [.ref (b 0), .int a1] (gPre dC dI ca b A N I O J)) (va_Qi (fun (r : Int32) (u : (Nat → Nat → Int32) × (Nat → Nat → Option Nat)) => res = (Sum.inr r, u)) (fun (u : (Nat → Nat → Int32) × (Nat → Nat → Option Nat)) t => va_P (dC, dI) vwCl (hW N ca b u.1 u.2 J) t.heap) A) (vx_X (fun (u : Nat × ((Nat → Nat → Int32) × (Nat → Nat → Option Nat))) => res = (Sum.inl u.1, u.2)) (fun E (u : Nat × ((Nat → Nat → Int32) × (Nat → Nat → Option Nat))) t => E = gEn u.1 ∧ (fun (u : (Nat → Nat → Int32) × (Nat → Nat → Option Nat)) H => va_P (dC, dI) vwCl (hW N ca b u.1 u.2 J) H) u.2 t.heap) A) 2 12 A := by
  refine vx_ofW (cc := cX7_bestPace) (maxL := 3) (ret := (some .int)) (by decide) rfl ?_
  intro p e s m args below meth c s₁ B hml hout hv
  obtain ⟨rfl, hP, hK, hA2, hth⟩ := hv
  have hx := B.exec
  have hb := B.bytes
  have hr := B.returns
  have hlk := B.notSynchronized
  have X : gCx p s m ([.ref (b 0), .int a1] : List Value).toArray c RX7 cX7_bestPace wsX7_bestPace 3 dC dI ca b A N := ⟨hx, hb, hml, findClass_of_methodNamed B.named, atoms_spec (ws := wsX7_bestPace) B.pre, hK, hA, hA2, hth⟩
  have hS : va_S A s.heap s.heap [] := va_S.rf
  have hl := lv_entry ([.ref (b 0), .int a1] : List Value) (n := 3) (Nat.le_of_ble_eq_true rfl)
  rw [lg_entry_eq]
  generalize (lg_sl ([.ref (b 0), .int a1] : List Value) ++ List.replicate (3 - (lg_sl ([.ref (b 0), .int a1] : List Value)).length) Slot.unset).toArray = ls at hl ⊢
  have hl : lv_has ls 3 [(0, .ref (b 0)), (1, .int a1)] := hl
  unfold f_X7_bestPace at h
  refine lv_aload_n hx hb dX7_bestPace_0 rfl (lv_at hl 0 rfl) ?_
  refine lv_iload_n hx hb dX7_bestPace_1 rfl (lv_at hl 1 rfl) ?_
  obtain ⟨q2, hcq2, h⟩ := hb_some h
  refine gxV_q (As := [.int a1]) (rest := []) (BH := (fun (u : Unit) H => va_P (dC, dI) vwCl (hW N ca b I O J) H)) (BX := (fun (u : Unit) H => va_P (dC, dI) vwCl (hW N ca b I O J) H)) X hP hS (c_X7_known hlf hN hA I O J a1 q2 hcq2) (cwV 1 X.ts gX7_bestPace_X7_known rfl rfl rfl (by decide +kernel) ⟨Nat.le_of_ble_eq_true rfl, Nat.le_of_ble_eq_true rfl⟩) (gr7 X hP kc_0 (sk_in hN kc_0 (by decide))) rfl hl.1 rfl (Nat.le_of_ble_eq_true rfl) dX7_bestPace_2 ⟨Nat.le_of_ble_eq_true rfl, Nat.le_of_ble_eq_true rfl⟩ (fun k9 u9 H locs ce9 q9 hw hP hS hce hcv hcl => ?_) (fun r1 u9 H locs hw hP hS => ?_)
  · subst hw
    exact gOut (S := (Nat → Nat → Int32) × (Nat → Nat → Option Nat)) (BH := (fun (u : (Nat → Nat → Int32) × (Nat → Nat → Option Nat)) H => va_P (dC, dI) vwCl (hW N ca b u.1 u.2 J) H)) hlk hout hS hce hcv hcl (I, O) (Option.some.inj (show some ((Sum.inl k9), I, O) = some res from h)).symm hP (Nat.le_of_ble_eq_true rfl) (Nat.le_of_ble_eq_true rfl)
  obtain ⟨r1, rfl, hw⟩ := hw
  subst hw
  have h := hsum_r h
  refine gv_astore_n (r := Option.map b r1) (lv' := [(2, va_rf (Option.map b r1)), (0, .ref (b 0)), (1, .int a1)]) hx hb dX7_bestPace_5 rfl hl (by decide) rfl (fun ls hl => ?_)
  refine lv_aload_n hx hb dX7_bestPace_6 rfl (lv_at hl 1 rfl) ?_
  obtain ⟨q3, hcq3, h⟩ := hb_some h
  refine gxV_v (As := []) (rest := []) (BH := (fun (u : Unit) H => va_P (dC, dI) vwCl (hW N ca b I O J) H)) (BX := (fun (u : Unit) H => va_P (dC, dI) vwCl (hW N ca b I O J) H)) X hP hS (c_X7_checkRacing hlf hN hA I O J q3 hcq3) (cwV 0 X.ts gX7_bestPace_X7_checkRacing rfl rfl rfl (by decide +kernel) ⟨Nat.le_of_ble_eq_true rfl, Nat.le_of_ble_eq_true rfl⟩) (gr7 X hP kc_0 (sk_in hN kc_0 (by decide))) rfl hl.1 rfl (Nat.le_of_ble_eq_true rfl) dX7_bestPace_7 ⟨Nat.le_of_ble_eq_true rfl, Nat.le_of_ble_eq_true rfl⟩ (fun k9 u9 H locs ce9 q9 hw hP hS hce hcv hcl => ?_) (fun u9 H locs hw hP hS => ?_)
  · subst hw
    exact gOut (S := (Nat → Nat → Int32) × (Nat → Nat → Option Nat)) (BH := (fun (u : (Nat → Nat → Int32) × (Nat → Nat → Option Nat)) H => va_P (dC, dI) vwCl (hW N ca b u.1 u.2 J) H)) hlk hout hS hce hcv hcl (I, O) (Option.some.inj (show some ((Sum.inl k9), I, O) = some res from h)).symm hP (Nat.le_of_ble_eq_true rfl) (Nat.le_of_ble_eq_true rfl)
  subst hw
  have h := hsum_r h
  refine lv_aload_n hx hb dX7_bestPace_10 rfl (lv_at hl 1 rfl) ?_
  refine gv_aload_n (r := Option.map b r1) hx hb dX7_bestPace_11 rfl (lv_at hl 0 rfl) ?_
  obtain ⟨n4, rfl, h⟩ := hb_some h
  obtain ⟨hk_n4, h⟩ := hk_some h
  obtain ⟨q8, hcq8, h⟩ := hb_some h
  refine gdV_i (As := [.ref (b n4)]) (rest := []) (BH := (fun (u : (Nat → Nat → Int32) × (Nat → Nat → Option Nat)) H => va_P (dC, dI) vwCl (hW N ca b u.1 u.2 J) H)) X hP hS (c_X7_foretellBestPace hN hA I O J n4 hk_n4 q8 hcq8) (cwV 1 X.ts gX7_bestPace_X7_foretellBestPace rfl rfl rfl (by decide +kernel) ⟨Nat.le_of_ble_eq_true rfl, Nat.le_of_ble_eq_true rfl⟩) (gr7 X hP kc_0 (sk_in hN kc_0 (by decide))) rfl hl.1 rfl (Nat.le_of_ble_eq_true rfl) dX7_bestPace_12 ⟨Nat.le_of_ble_eq_true rfl, Nat.le_of_ble_eq_true rfl⟩ (fun r7 u9 H locs hw hP hS => ?_)
  obtain ⟨I5, O6⟩ := u9
  subst hw
  refine vx_ret ?_
  refine W.widen (k := 2) (n := 12) (Nat.le_of_ble_eq_true rfl) (Nat.le_of_ble_eq_true rfl) ?_
  exact W.iret hx hb hr (fun t9 ht hW => ⟨⟨r7, (I5, O6), rfl, (Option.some.inj h).symm, gEnd ht hP⟩, hS.F ht⟩) hS.2.2 dX7_bestPace_15 hlk
def f_X7_isRacing (I : Nat → Nat → Int32) : Option (Int32) :=
  hg (gz (I 1 5)) <|
  some (I 1 5)
set_option maxHeartbeats 8000000 in
set_option maxRecDepth 100000 in
theorem c_X7_isRacing {l : Launch} {dC : Nat → ClassId} {dI : Nat → Nat → Nat} {ca : Nat → ClassId} {b : Nat → Nat} {A : Nat → Prop} {N : Nat} (hN : 129 ≤ N) (hA : gAd A b N) (I : Nat → Nat → Int32) (O : Nat → Nat → Option Nat) (J : Nat → Nat → Int64) (res : Int32) (h : f_X7_isRacing I = some res) : Met l yX7_isRacing wsX7_isRacing ({ frames := 0, cells := 0, slots := 0, locals := 0 } : Room) (va_Pc [.ref (b 0)] (gPre dC dI ca b A N I O J)) (va_Qi (fun (r : Int32) (u : Unit) => res = r) (fun (u : Unit) t => va_P (dC, dI) vwCl (hW N ca b I O J) t.heap) A) 0 0 A := by
  refine Met.ofW (cc := cX7_isRacing) (maxL := 1) (ret := (some .boolean)) (by decide) rfl ?_
  intro p e s m args below meth c s₁ B hml hv
  obtain ⟨rfl, hP, hK, hA2, hth⟩ := hv
  have hx := B.exec
  have hb := B.bytes
  have hr := B.returns
  have hlk := B.notSynchronized
  have X : gCx p s m ([.ref (b 0)] : List Value).toArray c RX7 cX7_isRacing wsX7_isRacing 1 dC dI ca b A N := ⟨hx, hb, hml, findClass_of_methodNamed B.named, atoms_spec (ws := wsX7_isRacing) B.pre, hK, hA, hA2, hth⟩
  have hi3 : ∀ w ∈ wsX30, w ∈ wsX7_isRacing := (fun w h => List.mem_cons_of_mem _ (List.mem_append_right _ h))
  have hi7 : ∀ w ∈ wsX70, w ∈ wsX7_isRacing := (fun w h => List.mem_cons_of_mem _ (List.mem_append_left _ (List.mem_append_right _ h)))
  have hS : va_S A s.heap s.heap [] := va_S.rf
  have hl := lv_entry ([.ref (b 0)] : List Value) (n := 1) (Nat.le_of_ble_eq_true rfl)
  rw [lg_entry_eq]
  generalize (lg_sl ([.ref (b 0)] : List Value) ++ List.replicate (1 - (lg_sl ([.ref (b 0)] : List Value)).length) Slot.unset).toArray = ls at hl ⊢
  have hl : lv_has ls 1 [(0, .ref (b 0))] := hl
  unfold f_X7_isRacing at h
  refine lv_aload_n hx hb dX7_isRacing_0 rfl (lv_at hl 0 rfl) ?_
  refine gg7_0 X hP kc_0 (sk_in hN kc_0 (by decide)) hi7 (List.mem_of_getElem? (i := 1) rfl) dX7_isRacing_1 ?_
  refine gg3_5 X hP kc_1 (sk_in hN kc_1 (by decide)) hi3 (List.mem_of_getElem? (i := 2) rfl) dX7_isRacing_4 ?_
  obtain ⟨hgz, h⟩ := hg_some h
  exact W.zret (ty := .boolean) hx hb hr (gz_nar hgz) (fun t9 ht hW => ⟨⟨(I 1 5), (), rfl, (Option.some.inj h).symm, gEnd ht hP⟩, hS.F ht⟩) hS.2.2 dX7_isRacing_7 hlk
def f_X7_seconds (I : Nat → Nat → Int32) : Option (Int32) :=
  some (I 1 6)
set_option maxHeartbeats 8000000 in
set_option maxRecDepth 100000 in
theorem c_X7_seconds {l : Launch} {dC : Nat → ClassId} {dI : Nat → Nat → Nat} {ca : Nat → ClassId} {b : Nat → Nat} {A : Nat → Prop} {N : Nat} (hN : 129 ≤ N) (hA : gAd A b N) (I : Nat → Nat → Int32) (O : Nat → Nat → Option Nat) (J : Nat → Nat → Int64) (res : Int32) (h : f_X7_seconds I = some res) : Met l yX7_seconds wsX7_seconds ({ frames := 0, cells := 0, slots := 0, locals := 0 } : Room) (va_Pc [.ref (b 0)] (gPre dC dI ca b A N I O J)) (va_Qi (fun (r : Int32) (u : Unit) => res = r) (fun (u : Unit) t => va_P (dC, dI) vwCl (hW N ca b I O J) t.heap) A) 0 0 A := by
  refine Met.ofW (cc := cX7_seconds) (maxL := 1) (ret := (some .int)) (by decide) rfl ?_
  intro p e s m args below meth c s₁ B hml hv
  obtain ⟨rfl, hP, hK, hA2, hth⟩ := hv
  have hx := B.exec
  have hb := B.bytes
  have hr := B.returns
  have hlk := B.notSynchronized
  have X : gCx p s m ([.ref (b 0)] : List Value).toArray c RX7 cX7_seconds wsX7_seconds 1 dC dI ca b A N := ⟨hx, hb, hml, findClass_of_methodNamed B.named, atoms_spec (ws := wsX7_seconds) B.pre, hK, hA, hA2, hth⟩
  have hi3 : ∀ w ∈ wsX30, w ∈ wsX7_seconds := (fun w h => List.mem_cons_of_mem _ (List.mem_append_right _ h))
  have hi7 : ∀ w ∈ wsX70, w ∈ wsX7_seconds := (fun w h => List.mem_cons_of_mem _ (List.mem_append_left _ (List.mem_append_right _ h)))
  have hS : va_S A s.heap s.heap [] := va_S.rf
  have hl := lv_entry ([.ref (b 0)] : List Value) (n := 1) (Nat.le_of_ble_eq_true rfl)
  rw [lg_entry_eq]
  generalize (lg_sl ([.ref (b 0)] : List Value) ++ List.replicate (1 - (lg_sl ([.ref (b 0)] : List Value)).length) Slot.unset).toArray = ls at hl ⊢
  have hl : lv_has ls 1 [(0, .ref (b 0))] := hl
  unfold f_X7_seconds at h
  refine lv_aload_n hx hb dX7_seconds_0 rfl (lv_at hl 0 rfl) ?_
  refine gg7_0 X hP kc_0 (sk_in hN kc_0 (by decide)) hi7 (List.mem_of_getElem? (i := 1) rfl) dX7_seconds_1 ?_
  refine gg3_6 X hP kc_1 (sk_in hN kc_1 (by decide)) hi3 (List.mem_of_getElem? (i := 2) rfl) dX7_seconds_4 ?_
  exact W.iret hx hb hr (fun t9 ht hW => ⟨⟨(I 1 6), (), rfl, (Option.some.inj h).symm, gEnd ht hP⟩, hS.F ht⟩) hS.2.2 dX7_seconds_7 hlk
def f_X7_arrived (I : Nat → Nat → Int32) : Option (Int32) :=
  some (I 1 7)
set_option maxHeartbeats 8000000 in
set_option maxRecDepth 100000 in
theorem c_X7_arrived {l : Launch} {dC : Nat → ClassId} {dI : Nat → Nat → Nat} {ca : Nat → ClassId} {b : Nat → Nat} {A : Nat → Prop} {N : Nat} (hN : 129 ≤ N) (hA : gAd A b N) (I : Nat → Nat → Int32) (O : Nat → Nat → Option Nat) (J : Nat → Nat → Int64) (res : Int32) (h : f_X7_arrived I = some res) : Met l yX7_arrived wsX7_arrived ({ frames := 0, cells := 0, slots := 0, locals := 0 } : Room) (va_Pc [.ref (b 0)] (gPre dC dI ca b A N I O J)) (va_Qi (fun (r : Int32) (u : Unit) => res = r) (fun (u : Unit) t => va_P (dC, dI) vwCl (hW N ca b I O J) t.heap) A) 0 0 A := by
  refine Met.ofW (cc := cX7_arrived) (maxL := 1) (ret := (some .int)) (by decide) rfl ?_
  intro p e s m args below meth c s₁ B hml hv
  obtain ⟨rfl, hP, hK, hA2, hth⟩ := hv
  have hx := B.exec
  have hb := B.bytes
  have hr := B.returns
  have hlk := B.notSynchronized
  have X : gCx p s m ([.ref (b 0)] : List Value).toArray c RX7 cX7_arrived wsX7_arrived 1 dC dI ca b A N := ⟨hx, hb, hml, findClass_of_methodNamed B.named, atoms_spec (ws := wsX7_arrived) B.pre, hK, hA, hA2, hth⟩
  have hi3 : ∀ w ∈ wsX30, w ∈ wsX7_arrived := (fun w h => List.mem_cons_of_mem _ (List.mem_append_right _ h))
  have hi7 : ∀ w ∈ wsX70, w ∈ wsX7_arrived := (fun w h => List.mem_cons_of_mem _ (List.mem_append_left _ (List.mem_append_right _ h)))
  have hS : va_S A s.heap s.heap [] := va_S.rf
  have hl := lv_entry ([.ref (b 0)] : List Value) (n := 1) (Nat.le_of_ble_eq_true rfl)
  rw [lg_entry_eq]
  generalize (lg_sl ([.ref (b 0)] : List Value) ++ List.replicate (1 - (lg_sl ([.ref (b 0)] : List Value)).length) Slot.unset).toArray = ls at hl ⊢
  have hl : lv_has ls 1 [(0, .ref (b 0))] := hl
  unfold f_X7_arrived at h
  refine lv_aload_n hx hb dX7_arrived_0 rfl (lv_at hl 0 rfl) ?_
  refine gg7_0 X hP kc_0 (sk_in hN kc_0 (by decide)) hi7 (List.mem_of_getElem? (i := 1) rfl) dX7_arrived_1 ?_
  refine gg3_7 X hP kc_1 (sk_in hN kc_1 (by decide)) hi3 (List.mem_of_getElem? (i := 2) rfl) dX7_arrived_4 ?_
  exact W.iret hx hb hr (fun t9 ht hW => ⟨⟨(I 1 7), (), rfl, (Option.some.inj h).symm, gEnd ht hP⟩, hS.F ht⟩) hS.2.2 dX7_arrived_7 hlk
def f_X7_arrivedAt (a1 : Int32) (I : Nat → Nat → Int32) : Option (Sum Nat Int32) :=
  (f_X3_arrivedAs 1 a1 I).bind fun r1 =>
  hopt r1 (
    some (Sum.inl 0)) fun n3 => hk n3 6 <|
  some (Sum.inr (I n3 0))
set_option maxHeartbeats 8000000 in
set_option maxRecDepth 100000 in
theorem c_X7_arrivedAt {l : Launch} (hlf : l.stackTraces = false) {dC : Nat → ClassId} {dI : Nat → Nat → Nat} {ca : Nat → ClassId} {b : Nat → Nat} {A : Nat → Prop} {N : Nat} (hN : 129 ≤ N) (hA : gAd A b N) (I : Nat → Nat → Int32) (O : Nat → Nat → Option Nat) (J : Nat → Nat → Int64) (a1 : Int32) (res : Sum Nat Int32) (h : f_X7_arrivedAt a1 I = some res) : vx_Met l yX7_arrivedAt wsX7_arrivedAt ({ frames := 6, cells := 1, slots := 6, locals := 90 } : Room) (va_Pc [.ref (b 0), .int a1] (gPre dC dI ca b A N I O J)) (va_Qi (fun (r : Int32) (u : Unit) => res = (Sum.inr r)) (fun (u : Unit) t => va_P (dC, dI) vwCl (hW N ca b I O J) t.heap) A) (vx_X (fun (u : Nat × Unit) => res = Sum.inl u.1) (fun E (u : Nat × Unit) t => E = gEn u.1 ∧ (fun (u : Unit) H => va_P (dC, dI) vwCl (hW N ca b I O J) H) u.2 t.heap) A) 1 6 A := by
  refine vx_ofW (cc := cX7_arrivedAt) (maxL := 3) (ret := (some .int)) (by decide) rfl ?_
  intro p e s m args below meth c s₁ B hml hout hv
  obtain ⟨rfl, hP, hK, hA2, hth⟩ := hv
  have hx := B.exec
  have hb := B.bytes
  have hr := B.returns
  have hlk := B.notSynchronized
  have X : gCx p s m ([.ref (b 0), .int a1] : List Value).toArray c RX7 cX7_arrivedAt wsX7_arrivedAt 3 dC dI ca b A N := ⟨hx, hb, hml, findClass_of_methodNamed B.named, atoms_spec (ws := wsX7_arrivedAt) B.pre, hK, hA, hA2, hth⟩
  have hi6 : ∀ w ∈ wsX60, w ∈ wsX7_arrivedAt := (fun w h => List.mem_cons_of_mem _ (List.mem_append_left _ (List.mem_append_left _ (List.mem_append_right _ h))))
  have hi7 : ∀ w ∈ wsX70, w ∈ wsX7_arrivedAt := (fun w h => List.mem_cons_of_mem _ (List.mem_append_left _ (List.mem_append_left _ (List.mem_append_left _ (List.mem_append_right _ h)))))
  have hg0 : ∀ w ∈ gWg0, w ∈ wsX7_arrivedAt := (fun w h => List.mem_cons_of_mem _ (List.mem_append_right _ h))
  have hS : va_S A s.heap s.heap [] := va_S.rf
  have hl := lv_entry ([.ref (b 0), .int a1] : List Value) (n := 3) (Nat.le_of_ble_eq_true rfl)
  rw [lg_entry_eq]
  generalize (lg_sl ([.ref (b 0), .int a1] : List Value) ++ List.replicate (3 - (lg_sl ([.ref (b 0), .int a1] : List Value)).length) Slot.unset).toArray = ls at hl ⊢
  have hl : lv_has ls 3 [(0, .ref (b 0)), (1, .int a1)] := hl
  unfold f_X7_arrivedAt at h
  refine lv_aload_n hx hb dX7_arrivedAt_0 rfl (lv_at hl 0 rfl) ?_
  refine gg7_0 X hP kc_0 (sk_in hN kc_0 (by decide)) hi7 (List.mem_of_getElem? (i := 3) rfl) dX7_arrivedAt_1 ?_
  refine lv_iload_n hx hb dX7_arrivedAt_4 rfl (lv_at hl 1 rfl) ?_
  obtain ⟨q2, hcq2, h⟩ := hb_some h
  refine gdV_q (As := [.int a1]) (rest := []) (BH := (fun (u : Unit) H => va_P (dC, dI) vwCl (hW N ca b I O J) H)) X hP hS (c_X3_arrivedAs hN hA I O J 1 a1 kc_1 q2 hcq2) (cwV 1 X.ts gX7_arrivedAt_X3_arrivedAs rfl rfl rfl (by decide +kernel) ⟨Nat.le_of_ble_eq_true rfl, Nat.le_of_ble_eq_true rfl⟩) (gr3 X hP kc_1 (sk_in hN kc_1 (by decide))) rfl hl.1 rfl (Nat.le_of_ble_eq_true rfl) dX7_arrivedAt_5 ⟨Nat.le_of_ble_eq_true rfl, Nat.le_of_ble_eq_true rfl⟩ (fun r1 u9 H locs hw hP hS => ?_)
  obtain ⟨r1, rfl, hw⟩ := hw
  have hw := hw.symm
  subst hw
  refine gv_astore_n (r := Option.map b r1) (lv' := [(2, va_rf (Option.map b r1)), (0, .ref (b 0)), (1, .int a1)]) hx hb dX7_arrivedAt_8 rfl hl (by decide) rfl (fun ls hl => ?_)
  refine gv_aload_n (r := Option.map b r1) hx hb dX7_arrivedAt_9 rfl (lv_at hl 0 rfl) ?_
  cases r1 with
  | none =>
    have h := hopt_n h
    refine lv_ifnonnullN hx hb dX7_arrivedAt_10 ?_
    exact gt0w (S := Unit) (BH := (fun (u : Unit) H => va_P (dC, dI) vwCl (hW N ca b I O J) H)) X hlf hlk hout hS hg0 (List.mem_of_getElem? (i := 1) rfl) (List.mem_of_getElem? (i := 2) rfl) (List.mem_of_getElem? (i := 25) rfl) hl.1 dX7_arrivedAt_13 dX7_arrivedAt_16 dX7_arrivedAt_17 dX7_arrivedAt_20 dX7_arrivedAt_23 (Nat.le_of_ble_eq_true rfl) (Nat.le_of_ble_eq_true rfl) (Nat.le_of_ble_eq_true rfl) (Nat.le_of_ble_eq_true rfl) () (Option.some.inj h).symm (fun H1 hk1 => hP.kept (fun k q hq => hk1 q.1 (hP k q hq).lt)) (Nat.le_of_ble_eq_true rfl) (Nat.le_of_ble_eq_true rfl)
  | some n3 =>
    obtain ⟨hk_n3, h⟩ := hk_some (hopt_s h)
    refine lv_ifnonnull (tgt := 24) hx hb dX7_arrivedAt_10 (by decide) ?_
    refine lv_aload_n hx hb dX7_arrivedAt_24 rfl (lv_at hl 0 rfl) ?_
    refine gg6_0 X hP hk_n3 (sk_in hN hk_n3 (by decide)) hi6 (List.mem_of_getElem? (i := 4) rfl) dX7_arrivedAt_25 ?_
    refine vx_ret ?_
    refine W.widen (k := 1) (n := 6) (Nat.le_of_ble_eq_true rfl) (Nat.le_of_ble_eq_true rfl) ?_
    exact W.iret hx hb hr (fun t9 ht hW => ⟨⟨(I n3 0), (), rfl, (Option.some.inj h).symm, gEnd ht hP⟩, hS.F ht⟩) hS.2.2 dX7_arrivedAt_28 hlk
def f_X7_timeOf (a1 : Int32) (I : Nat → Nat → Int32) : Option (Sum Nat Int32) :=
  (f_X7_known a1 I).bind fun eq2 => hsum eq2 (fun k9 => some (Sum.inl k9)) fun r1 =>
  (r1).bind fun n3 => hk n3 6 <|
  if (I n3 9) = (3 : Int32) then
    some (Sum.inr (I n3 14))
  else
    some (Sum.inl 2)
set_option maxHeartbeats 8000000 in
set_option maxRecDepth 100000 in
theorem c_X7_timeOf {l : Launch} (hlf : l.stackTraces = false) {dC : Nat → ClassId} {dI : Nat → Nat → Nat} {ca : Nat → ClassId} {b : Nat → Nat} {A : Nat → Prop} {N : Nat} (hN : 129 ≤ N) (hA : gAd A b N) (I : Nat → Nat → Int32) (O : Nat → Nat → Option Nat) (J : Nat → Nat → Int64) (a1 : Int32) (res : Sum Nat Int32) (h : f_X7_timeOf a1 I = some res) : vx_Met l yX7_timeOf wsX7_timeOf ({ frames := 7, cells := 2, slots := 12, locals := 112 } : Room) (va_Pc [.ref (b 0), .int a1] (gPre dC dI ca b A N I O J)) (va_Qi (fun (r : Int32) (u : Unit) => res = (Sum.inr r)) (fun (u : Unit) t => va_P (dC, dI) vwCl (hW N ca b I O J) t.heap) A) (vx_X (fun (u : Nat × Unit) => res = Sum.inl u.1) (fun E (u : Nat × Unit) t => E = gEn u.1 ∧ (fun (u : Unit) H => va_P (dC, dI) vwCl (hW N ca b I O J) H) u.2 t.heap) A) 2 12 A := by
  refine vx_ofW (cc := cX7_timeOf) (maxL := 3) (ret := (some .int)) (by decide) rfl ?_
  intro p e s m args below meth c s₁ B hml hout hv
  obtain ⟨rfl, hP, hK, hA2, hth⟩ := hv
  have hx := B.exec
  have hb := B.bytes
  have hr := B.returns
  have hlk := B.notSynchronized
  have X : gCx p s m ([.ref (b 0), .int a1] : List Value).toArray c RX7 cX7_timeOf wsX7_timeOf 3 dC dI ca b A N := ⟨hx, hb, hml, findClass_of_methodNamed B.named, atoms_spec (ws := wsX7_timeOf) B.pre, hK, hA, hA2, hth⟩
  have hi6 : ∀ w ∈ wsX60, w ∈ wsX7_timeOf := (fun w h => List.mem_cons_of_mem _ (List.mem_append_left _ (List.mem_append_left _ (List.mem_append_left _ (List.mem_append_left _ (List.mem_append_right _ h))))))
  have hg2 : ∀ w ∈ gWg2, w ∈ wsX7_timeOf := (fun w h => List.mem_cons_of_mem _ (List.mem_append_left _ (List.mem_append_right _ h)))
  have hS : va_S A s.heap s.heap [] := va_S.rf
  have hl := lv_entry ([.ref (b 0), .int a1] : List Value) (n := 3) (Nat.le_of_ble_eq_true rfl)
  rw [lg_entry_eq]
  generalize (lg_sl ([.ref (b 0), .int a1] : List Value) ++ List.replicate (3 - (lg_sl ([.ref (b 0), .int a1] : List Value)).length) Slot.unset).toArray = ls at hl ⊢
  have hl : lv_has ls 3 [(0, .ref (b 0)), (1, .int a1)] := hl
  unfold f_X7_timeOf at h
  refine lv_aload_n hx hb dX7_timeOf_0 rfl (lv_at hl 0 rfl) ?_
  refine lv_iload_n hx hb dX7_timeOf_1 rfl (lv_at hl 1 rfl) ?_
  obtain ⟨q2, hcq2, h⟩ := hb_some h
  refine gxV_q (As := [.int a1]) (rest := []) (BH := (fun (u : Unit) H => va_P (dC, dI) vwCl (hW N ca b I O J) H)) (BX := (fun (u : Unit) H => va_P (dC, dI) vwCl (hW N ca b I O J) H)) X hP hS (c_X7_known hlf hN hA I O J a1 q2 hcq2) (cwV 1 X.ts gX7_timeOf_X7_known rfl rfl rfl (by decide +kernel) ⟨Nat.le_of_ble_eq_true rfl, Nat.le_of_ble_eq_true rfl⟩) (gr7 X hP kc_0 (sk_in hN kc_0 (by decide))) rfl hl.1 rfl (Nat.le_of_ble_eq_true rfl) dX7_timeOf_2 ⟨Nat.le_of_ble_eq_true rfl, Nat.le_of_ble_eq_true rfl⟩ (fun k9 u9 H locs ce9 q9 hw hP hS hce hcv hcl => ?_) (fun r1 u9 H locs hw hP hS => ?_)
  · subst hw
    exact gOut (S := Unit) (BH := (fun (u : Unit) H => va_P (dC, dI) vwCl (hW N ca b I O J) H)) hlk hout hS hce hcv hcl () (Option.some.inj (show some (Sum.inl k9) = some res from h)).symm hP (Nat.le_of_ble_eq_true rfl) (Nat.le_of_ble_eq_true rfl)
  obtain ⟨r1, rfl, hw⟩ := hw
  subst hw
  have h := hsum_r h
  refine gv_astore_n (r := Option.map b r1) (lv' := [(2, va_rf (Option.map b r1)), (0, .ref (b 0)), (1, .int a1)]) hx hb dX7_timeOf_5 rfl hl (by decide) rfl (fun ls hl => ?_)
  refine gv_aload_n (r := Option.map b r1) hx hb dX7_timeOf_6 rfl (lv_at hl 0 rfl) ?_
  obtain ⟨n3, rfl, h⟩ := hb_some h
  obtain ⟨hk_n3, h⟩ := hk_some h
  refine gg6_9 X hP hk_n3 (sk_in hN hk_n3 (by decide)) hi6 (List.mem_of_getElem? (i := 3) rfl) dX7_timeOf_7 ?_
  refine lv_iconst (v := 3) hx hb dX7_timeOf_10 (by decide) ?_
  refine lv_icmp_eq (tgt := 25) hx hb dX7_timeOf_11 (by decide) (fun c4 => ?_) (fun c4 => ?_)
  · have h := gif_t c4 h
    refine lv_aload_n hx hb dX7_timeOf_25 rfl (lv_at hl 0 rfl) ?_
    refine gg6_14 X hP hk_n3 (sk_in hN hk_n3 (by decide)) hi6 (List.mem_of_getElem? (i := 4) rfl) dX7_timeOf_26 ?_
    refine vx_ret ?_
    refine W.widen (k := 2) (n := 12) (Nat.le_of_ble_eq_true rfl) (Nat.le_of_ble_eq_true rfl) ?_
    exact W.iret hx hb hr (fun t9 ht hW => ⟨⟨(I n3 14), (), rfl, (Option.some.inj h).symm, gEnd ht hP⟩, hS.F ht⟩) hS.2.2 dX7_timeOf_29 hlk
  · have h := gif_f c4 h
    exact gt2w (S := Unit) (BH := (fun (u : Unit) H => va_P (dC, dI) vwCl (hW N ca b I O J) H)) X hlf hlk hout hS hg2 (List.mem_of_getElem? (i := 1) rfl) (List.mem_of_getElem? (i := 2) rfl) (List.mem_of_getElem? (i := 26) rfl) hl.1 dX7_timeOf_14 dX7_timeOf_17 dX7_timeOf_18 dX7_timeOf_21 dX7_timeOf_24 (Nat.le_of_ble_eq_true rfl) (Nat.le_of_ble_eq_true rfl) (Nat.le_of_ble_eq_true rfl) (Nat.le_of_ble_eq_true rfl) () (Option.some.inj h).symm (fun H1 hk1 => hP.kept (fun k q hq => hk1 q.1 (hP k q hq).lt)) (Nat.le_of_ble_eq_true rfl) (Nat.le_of_ble_eq_true rfl)
def f_X7_flownByBirds (I : Nat → Nat → Int32) : Option (Int32) :=
  (f_X3_sumFlown 1 I).bind fun r1 =>
  some r1
set_option maxHeartbeats 8000000 in
set_option maxRecDepth 100000 in
theorem c_X7_flownByBirds {l : Launch} {dC : Nat → ClassId} {dI : Nat → Nat → Nat} {ca : Nat → ClassId} {b : Nat → Nat} {A : Nat → Prop} {N : Nat} (hN : 129 ≤ N) (hA : gAd A b N) (I : Nat → Nat → Int32) (O : Nat → Nat → Option Nat) (J : Nat → Nat → Int64) (res : Int32) (h : f_X7_flownByBirds I = some res) : Met l yX7_flownByBirds wsX7_flownByBirds ({ frames := 2, cells := 0, slots := 0, locals := 46 } : Room) (va_Pc [.ref (b 0)] (gPre dC dI ca b A N I O J)) (va_Qi (fun (r : Int32) (u : Unit) => res = r) (fun (u : Unit) t => va_P (dC, dI) vwCl (hW N ca b I O J) t.heap) A) 0 0 A := by
  refine Met.ofW (cc := cX7_flownByBirds) (maxL := 1) (ret := (some .int)) (by decide) rfl ?_
  intro p e s m args below meth c s₁ B hml hv
  obtain ⟨rfl, hP, hK, hA2, hth⟩ := hv
  have hx := B.exec
  have hb := B.bytes
  have hr := B.returns
  have hlk := B.notSynchronized
  have X : gCx p s m ([.ref (b 0)] : List Value).toArray c RX7 cX7_flownByBirds wsX7_flownByBirds 1 dC dI ca b A N := ⟨hx, hb, hml, findClass_of_methodNamed B.named, atoms_spec (ws := wsX7_flownByBirds) B.pre, hK, hA, hA2, hth⟩
  have hi7 : ∀ w ∈ wsX70, w ∈ wsX7_flownByBirds := (fun w h => List.mem_cons_of_mem _ (List.mem_append_left _ (List.mem_append_left _ (List.mem_append_right _ h))))
  have hS : va_S A s.heap s.heap [] := va_S.rf
  have hl := lv_entry ([.ref (b 0)] : List Value) (n := 1) (Nat.le_of_ble_eq_true rfl)
  rw [lg_entry_eq]
  generalize (lg_sl ([.ref (b 0)] : List Value) ++ List.replicate (1 - (lg_sl ([.ref (b 0)] : List Value)).length) Slot.unset).toArray = ls at hl ⊢
  have hl : lv_has ls 1 [(0, .ref (b 0))] := hl
  unfold f_X7_flownByBirds at h
  refine lv_aload_n hx hb dX7_flownByBirds_0 rfl (lv_at hl 0 rfl) ?_
  refine gg7_0 X hP kc_0 (sk_in hN kc_0 (by decide)) hi7 (List.mem_of_getElem? (i := 1) rfl) dX7_flownByBirds_1 ?_
  obtain ⟨q2, hcq2, h⟩ := hb_some h
  refine gdV_i (As := []) (rest := []) (BH := (fun (u : Unit) H => va_P (dC, dI) vwCl (hW N ca b I O J) H)) X hP hS (c_X3_sumFlown hN hA I O J 1 kc_1 q2 hcq2) (cwV 0 X.ts gX7_flownByBirds_X3_sumFlown rfl rfl rfl (by decide +kernel) ⟨Nat.le_of_ble_eq_true rfl, Nat.le_of_ble_eq_true rfl⟩) (gr3 X hP kc_1 (sk_in hN kc_1 (by decide))) rfl hl.1 rfl (Nat.le_of_ble_eq_true rfl) dX7_flownByBirds_4 ⟨Nat.le_of_ble_eq_true rfl, Nat.le_of_ble_eq_true rfl⟩ (fun r1 u9 H locs hw hP hS => ?_)
  have hw := hw.symm
  subst hw
  exact W.iret hx hb hr (fun t9 ht hW => ⟨⟨r1, (), rfl, (Option.some.inj h).symm, gEnd ht hP⟩, hS.F ht⟩) hS.2.2 dX7_flownByBirds_7 hlk
def f_X7_flownByAccount (I : Nat → Nat → Int32) : Option (Int32) :=
  some (I 1 8)
set_option maxHeartbeats 8000000 in
set_option maxRecDepth 100000 in
theorem c_X7_flownByAccount {l : Launch} {dC : Nat → ClassId} {dI : Nat → Nat → Nat} {ca : Nat → ClassId} {b : Nat → Nat} {A : Nat → Prop} {N : Nat} (hN : 129 ≤ N) (hA : gAd A b N) (I : Nat → Nat → Int32) (O : Nat → Nat → Option Nat) (J : Nat → Nat → Int64) (res : Int32) (h : f_X7_flownByAccount I = some res) : Met l yX7_flownByAccount wsX7_flownByAccount ({ frames := 0, cells := 0, slots := 0, locals := 0 } : Room) (va_Pc [.ref (b 0)] (gPre dC dI ca b A N I O J)) (va_Qi (fun (r : Int32) (u : Unit) => res = r) (fun (u : Unit) t => va_P (dC, dI) vwCl (hW N ca b I O J) t.heap) A) 0 0 A := by
  refine Met.ofW (cc := cX7_flownByAccount) (maxL := 1) (ret := (some .int)) (by decide) rfl ?_
  intro p e s m args below meth c s₁ B hml hv
  obtain ⟨rfl, hP, hK, hA2, hth⟩ := hv
  have hx := B.exec
  have hb := B.bytes
  have hr := B.returns
  have hlk := B.notSynchronized
  have X : gCx p s m ([.ref (b 0)] : List Value).toArray c RX7 cX7_flownByAccount wsX7_flownByAccount 1 dC dI ca b A N := ⟨hx, hb, hml, findClass_of_methodNamed B.named, atoms_spec (ws := wsX7_flownByAccount) B.pre, hK, hA, hA2, hth⟩
  have hi3 : ∀ w ∈ wsX30, w ∈ wsX7_flownByAccount := (fun w h => List.mem_cons_of_mem _ (List.mem_append_right _ h))
  have hi7 : ∀ w ∈ wsX70, w ∈ wsX7_flownByAccount := (fun w h => List.mem_cons_of_mem _ (List.mem_append_left _ (List.mem_append_right _ h)))
  have hS : va_S A s.heap s.heap [] := va_S.rf
  have hl := lv_entry ([.ref (b 0)] : List Value) (n := 1) (Nat.le_of_ble_eq_true rfl)
  rw [lg_entry_eq]
  generalize (lg_sl ([.ref (b 0)] : List Value) ++ List.replicate (1 - (lg_sl ([.ref (b 0)] : List Value)).length) Slot.unset).toArray = ls at hl ⊢
  have hl : lv_has ls 1 [(0, .ref (b 0))] := hl
  unfold f_X7_flownByAccount at h
  refine lv_aload_n hx hb dX7_flownByAccount_0 rfl (lv_at hl 0 rfl) ?_
  refine gg7_0 X hP kc_0 (sk_in hN kc_0 (by decide)) hi7 (List.mem_of_getElem? (i := 1) rfl) dX7_flownByAccount_1 ?_
  refine gg3_8 X hP kc_1 (sk_in hN kc_1 (by decide)) hi3 (List.mem_of_getElem? (i := 2) rfl) dX7_flownByAccount_4 ?_
  exact W.iret hx hb hr (fun t9 ht hW => ⟨⟨(I 1 8), (), rfl, (Option.some.inj h).symm, gEnd ht hP⟩, hS.F ht⟩) hS.2.2 dX7_flownByAccount_7 hlk
def f_X7_drafts (I : Nat → Nat → Int32) : Option (Int32) :=
  some (I 1 9)
set_option maxHeartbeats 8000000 in
set_option maxRecDepth 100000 in
theorem c_X7_drafts {l : Launch} {dC : Nat → ClassId} {dI : Nat → Nat → Nat} {ca : Nat → ClassId} {b : Nat → Nat} {A : Nat → Prop} {N : Nat} (hN : 129 ≤ N) (hA : gAd A b N) (I : Nat → Nat → Int32) (O : Nat → Nat → Option Nat) (J : Nat → Nat → Int64) (res : Int32) (h : f_X7_drafts I = some res) : Met l yX7_drafts wsX7_drafts ({ frames := 0, cells := 0, slots := 0, locals := 0 } : Room) (va_Pc [.ref (b 0)] (gPre dC dI ca b A N I O J)) (va_Qi (fun (r : Int32) (u : Unit) => res = r) (fun (u : Unit) t => va_P (dC, dI) vwCl (hW N ca b I O J) t.heap) A) 0 0 A := by
  refine Met.ofW (cc := cX7_drafts) (maxL := 1) (ret := (some .int)) (by decide) rfl ?_
  intro p e s m args below meth c s₁ B hml hv
  obtain ⟨rfl, hP, hK, hA2, hth⟩ := hv
  have hx := B.exec
  have hb := B.bytes
  have hr := B.returns
  have hlk := B.notSynchronized
  have X : gCx p s m ([.ref (b 0)] : List Value).toArray c RX7 cX7_drafts wsX7_drafts 1 dC dI ca b A N := ⟨hx, hb, hml, findClass_of_methodNamed B.named, atoms_spec (ws := wsX7_drafts) B.pre, hK, hA, hA2, hth⟩
  have hi3 : ∀ w ∈ wsX30, w ∈ wsX7_drafts := (fun w h => List.mem_cons_of_mem _ (List.mem_append_right _ h))
  have hi7 : ∀ w ∈ wsX70, w ∈ wsX7_drafts := (fun w h => List.mem_cons_of_mem _ (List.mem_append_left _ (List.mem_append_right _ h)))
  have hS : va_S A s.heap s.heap [] := va_S.rf
  have hl := lv_entry ([.ref (b 0)] : List Value) (n := 1) (Nat.le_of_ble_eq_true rfl)
  rw [lg_entry_eq]
  generalize (lg_sl ([.ref (b 0)] : List Value) ++ List.replicate (1 - (lg_sl ([.ref (b 0)] : List Value)).length) Slot.unset).toArray = ls at hl ⊢
  have hl : lv_has ls 1 [(0, .ref (b 0))] := hl
  unfold f_X7_drafts at h
  refine lv_aload_n hx hb dX7_drafts_0 rfl (lv_at hl 0 rfl) ?_
  refine gg7_0 X hP kc_0 (sk_in hN kc_0 (by decide)) hi7 (List.mem_of_getElem? (i := 1) rfl) dX7_drafts_1 ?_
  refine gg3_9 X hP kc_1 (sk_in hN kc_1 (by decide)) hi3 (List.mem_of_getElem? (i := 2) rfl) dX7_drafts_4 ?_
  exact W.iret hx hb hr (fun t9 ht hW => ⟨⟨(I 1 9), (), rfl, (Option.some.inj h).symm, gEnd ht hP⟩, hS.F ht⟩) hS.2.2 dX7_drafts_7 hlk
def f_X7_changes (I : Nat → Nat → Int32) : Option (Int32) :=
  some (I 1 10)
set_option maxHeartbeats 8000000 in
set_option maxRecDepth 100000 in
theorem c_X7_changes {l : Launch} {dC : Nat → ClassId} {dI : Nat → Nat → Nat} {ca : Nat → ClassId} {b : Nat → Nat} {A : Nat → Prop} {N : Nat} (hN : 129 ≤ N) (hA : gAd A b N) (I : Nat → Nat → Int32) (O : Nat → Nat → Option Nat) (J : Nat → Nat → Int64) (res : Int32) (h : f_X7_changes I = some res) : Met l yX7_changes wsX7_changes ({ frames := 0, cells := 0, slots := 0, locals := 0 } : Room) (va_Pc [.ref (b 0)] (gPre dC dI ca b A N I O J)) (va_Qi (fun (r : Int32) (u : Unit) => res = r) (fun (u : Unit) t => va_P (dC, dI) vwCl (hW N ca b I O J) t.heap) A) 0 0 A := by
  refine Met.ofW (cc := cX7_changes) (maxL := 1) (ret := (some .int)) (by decide) rfl ?_
  intro p e s m args below meth c s₁ B hml hv
  obtain ⟨rfl, hP, hK, hA2, hth⟩ := hv
  have hx := B.exec
  have hb := B.bytes
  have hr := B.returns
  have hlk := B.notSynchronized
  have X : gCx p s m ([.ref (b 0)] : List Value).toArray c RX7 cX7_changes wsX7_changes 1 dC dI ca b A N := ⟨hx, hb, hml, findClass_of_methodNamed B.named, atoms_spec (ws := wsX7_changes) B.pre, hK, hA, hA2, hth⟩
  have hi3 : ∀ w ∈ wsX30, w ∈ wsX7_changes := (fun w h => List.mem_cons_of_mem _ (List.mem_append_right _ h))
  have hi7 : ∀ w ∈ wsX70, w ∈ wsX7_changes := (fun w h => List.mem_cons_of_mem _ (List.mem_append_left _ (List.mem_append_right _ h)))
  have hS : va_S A s.heap s.heap [] := va_S.rf
  have hl := lv_entry ([.ref (b 0)] : List Value) (n := 1) (Nat.le_of_ble_eq_true rfl)
  rw [lg_entry_eq]
  generalize (lg_sl ([.ref (b 0)] : List Value) ++ List.replicate (1 - (lg_sl ([.ref (b 0)] : List Value)).length) Slot.unset).toArray = ls at hl ⊢
  have hl : lv_has ls 1 [(0, .ref (b 0))] := hl
  unfold f_X7_changes at h
  refine lv_aload_n hx hb dX7_changes_0 rfl (lv_at hl 0 rfl) ?_
  refine gg7_0 X hP kc_0 (sk_in hN kc_0 (by decide)) hi7 (List.mem_of_getElem? (i := 1) rfl) dX7_changes_1 ?_
  refine gg3_10 X hP kc_1 (sk_in hN kc_1 (by decide)) hi3 (List.mem_of_getElem? (i := 2) rfl) dX7_changes_4 ?_
  exact W.iret hx hb hr (fun t9 ht hW => ⟨⟨(I 1 10), (), rfl, (Option.some.inj h).symm, gEnd ht hP⟩, hS.F ht⟩) hS.2.2 dX7_changes_7 hlk
def f_X7_rests (I : Nat → Nat → Int32) : Option (Int32) :=
  some (I 1 11)
set_option maxHeartbeats 8000000 in
set_option maxRecDepth 100000 in
theorem c_X7_rests {l : Launch} {dC : Nat → ClassId} {dI : Nat → Nat → Nat} {ca : Nat → ClassId} {b : Nat → Nat} {A : Nat → Prop} {N : Nat} (hN : 129 ≤ N) (hA : gAd A b N) (I : Nat → Nat → Int32) (O : Nat → Nat → Option Nat) (J : Nat → Nat → Int64) (res : Int32) (h : f_X7_rests I = some res) : Met l yX7_rests wsX7_rests ({ frames := 0, cells := 0, slots := 0, locals := 0 } : Room) (va_Pc [.ref (b 0)] (gPre dC dI ca b A N I O J)) (va_Qi (fun (r : Int32) (u : Unit) => res = r) (fun (u : Unit) t => va_P (dC, dI) vwCl (hW N ca b I O J) t.heap) A) 0 0 A := by
  refine Met.ofW (cc := cX7_rests) (maxL := 1) (ret := (some .int)) (by decide) rfl ?_
  intro p e s m args below meth c s₁ B hml hv
  obtain ⟨rfl, hP, hK, hA2, hth⟩ := hv
  have hx := B.exec
  have hb := B.bytes
  have hr := B.returns
  have hlk := B.notSynchronized
  have X : gCx p s m ([.ref (b 0)] : List Value).toArray c RX7 cX7_rests wsX7_rests 1 dC dI ca b A N := ⟨hx, hb, hml, findClass_of_methodNamed B.named, atoms_spec (ws := wsX7_rests) B.pre, hK, hA, hA2, hth⟩
  have hi3 : ∀ w ∈ wsX30, w ∈ wsX7_rests := (fun w h => List.mem_cons_of_mem _ (List.mem_append_right _ h))
  have hi7 : ∀ w ∈ wsX70, w ∈ wsX7_rests := (fun w h => List.mem_cons_of_mem _ (List.mem_append_left _ (List.mem_append_right _ h)))
  have hS : va_S A s.heap s.heap [] := va_S.rf
  have hl := lv_entry ([.ref (b 0)] : List Value) (n := 1) (Nat.le_of_ble_eq_true rfl)
  rw [lg_entry_eq]
  generalize (lg_sl ([.ref (b 0)] : List Value) ++ List.replicate (1 - (lg_sl ([.ref (b 0)] : List Value)).length) Slot.unset).toArray = ls at hl ⊢
  have hl : lv_has ls 1 [(0, .ref (b 0))] := hl
  unfold f_X7_rests at h
  refine lv_aload_n hx hb dX7_rests_0 rfl (lv_at hl 0 rfl) ?_
  refine gg7_0 X hP kc_0 (sk_in hN kc_0 (by decide)) hi7 (List.mem_of_getElem? (i := 1) rfl) dX7_rests_1 ?_
  refine gg3_11 X hP kc_1 (sk_in hN kc_1 (by decide)) hi3 (List.mem_of_getElem? (i := 2) rfl) dX7_rests_4 ?_
  exact W.iret hx hb hr (fun t9 ht hW => ⟨⟨(I 1 11), (), rfl, (Option.some.inj h).symm, gEnd ht hP⟩, hS.F ht⟩) hS.2.2 dX7_rests_7 hlk
def f_X7_races (I : Nat → Nat → Int32) : Option (Int32) :=
  some (I 1 12)
set_option maxHeartbeats 8000000 in
set_option maxRecDepth 100000 in
theorem c_X7_races {l : Launch} {dC : Nat → ClassId} {dI : Nat → Nat → Nat} {ca : Nat → ClassId} {b : Nat → Nat} {A : Nat → Prop} {N : Nat} (hN : 129 ≤ N) (hA : gAd A b N) (I : Nat → Nat → Int32) (O : Nat → Nat → Option Nat) (J : Nat → Nat → Int64) (res : Int32) (h : f_X7_races I = some res) : Met l yX7_races wsX7_races ({ frames := 0, cells := 0, slots := 0, locals := 0 } : Room) (va_Pc [.ref (b 0)] (gPre dC dI ca b A N I O J)) (va_Qi (fun (r : Int32) (u : Unit) => res = r) (fun (u : Unit) t => va_P (dC, dI) vwCl (hW N ca b I O J) t.heap) A) 0 0 A := by
  refine Met.ofW (cc := cX7_races) (maxL := 1) (ret := (some .int)) (by decide) rfl ?_
  intro p e s m args below meth c s₁ B hml hv
  obtain ⟨rfl, hP, hK, hA2, hth⟩ := hv
  have hx := B.exec
  have hb := B.bytes
  have hr := B.returns
  have hlk := B.notSynchronized
  have X : gCx p s m ([.ref (b 0)] : List Value).toArray c RX7 cX7_races wsX7_races 1 dC dI ca b A N := ⟨hx, hb, hml, findClass_of_methodNamed B.named, atoms_spec (ws := wsX7_races) B.pre, hK, hA, hA2, hth⟩
  have hi3 : ∀ w ∈ wsX30, w ∈ wsX7_races := (fun w h => List.mem_cons_of_mem _ (List.mem_append_right _ h))
  have hi7 : ∀ w ∈ wsX70, w ∈ wsX7_races := (fun w h => List.mem_cons_of_mem _ (List.mem_append_left _ (List.mem_append_right _ h)))
  have hS : va_S A s.heap s.heap [] := va_S.rf
  have hl := lv_entry ([.ref (b 0)] : List Value) (n := 1) (Nat.le_of_ble_eq_true rfl)
  rw [lg_entry_eq]
  generalize (lg_sl ([.ref (b 0)] : List Value) ++ List.replicate (1 - (lg_sl ([.ref (b 0)] : List Value)).length) Slot.unset).toArray = ls at hl ⊢
  have hl : lv_has ls 1 [(0, .ref (b 0))] := hl
  unfold f_X7_races at h
  refine lv_aload_n hx hb dX7_races_0 rfl (lv_at hl 0 rfl) ?_
  refine gg7_0 X hP kc_0 (sk_in hN kc_0 (by decide)) hi7 (List.mem_of_getElem? (i := 1) rfl) dX7_races_1 ?_
  refine gg3_12 X hP kc_1 (sk_in hN kc_1 (by decide)) hi3 (List.mem_of_getElem? (i := 2) rfl) dX7_races_4 ?_
  exact W.iret hx hb hr (fun t9 ht hW => ⟨⟨(I 1 12), (), rfl, (Option.some.inj h).symm, gEnd ht hP⟩, hS.F ht⟩) hS.2.2 dX7_races_7 hlk
def f_X7_winsInPairs (I : Nat → Nat → Int32) : Option (Int32) :=
  some (I 1 13)
set_option maxHeartbeats 8000000 in
set_option maxRecDepth 100000 in
theorem c_X7_winsInPairs {l : Launch} {dC : Nat → ClassId} {dI : Nat → Nat → Nat} {ca : Nat → ClassId} {b : Nat → Nat} {A : Nat → Prop} {N : Nat} (hN : 129 ≤ N) (hA : gAd A b N) (I : Nat → Nat → Int32) (O : Nat → Nat → Option Nat) (J : Nat → Nat → Int64) (res : Int32) (h : f_X7_winsInPairs I = some res) : Met l yX7_winsInPairs wsX7_winsInPairs ({ frames := 0, cells := 0, slots := 0, locals := 0 } : Room) (va_Pc [.ref (b 0)] (gPre dC dI ca b A N I O J)) (va_Qi (fun (r : Int32) (u : Unit) => res = r) (fun (u : Unit) t => va_P (dC, dI) vwCl (hW N ca b I O J) t.heap) A) 0 0 A := by
  refine Met.ofW (cc := cX7_winsInPairs) (maxL := 1) (ret := (some .int)) (by decide) rfl ?_
  intro p e s m args below meth c s₁ B hml hv
  obtain ⟨rfl, hP, hK, hA2, hth⟩ := hv
  have hx := B.exec
  have hb := B.bytes
  have hr := B.returns
  have hlk := B.notSynchronized
  have X : gCx p s m ([.ref (b 0)] : List Value).toArray c RX7 cX7_winsInPairs wsX7_winsInPairs 1 dC dI ca b A N := ⟨hx, hb, hml, findClass_of_methodNamed B.named, atoms_spec (ws := wsX7_winsInPairs) B.pre, hK, hA, hA2, hth⟩
  have hi3 : ∀ w ∈ wsX30, w ∈ wsX7_winsInPairs := (fun w h => List.mem_cons_of_mem _ (List.mem_append_right _ h))
  have hi7 : ∀ w ∈ wsX70, w ∈ wsX7_winsInPairs := (fun w h => List.mem_cons_of_mem _ (List.mem_append_left _ (List.mem_append_right _ h)))
  have hS : va_S A s.heap s.heap [] := va_S.rf
  have hl := lv_entry ([.ref (b 0)] : List Value) (n := 1) (Nat.le_of_ble_eq_true rfl)
  rw [lg_entry_eq]
  generalize (lg_sl ([.ref (b 0)] : List Value) ++ List.replicate (1 - (lg_sl ([.ref (b 0)] : List Value)).length) Slot.unset).toArray = ls at hl ⊢
  have hl : lv_has ls 1 [(0, .ref (b 0))] := hl
  unfold f_X7_winsInPairs at h
  refine lv_aload_n hx hb dX7_winsInPairs_0 rfl (lv_at hl 0 rfl) ?_
  refine gg7_0 X hP kc_0 (sk_in hN kc_0 (by decide)) hi7 (List.mem_of_getElem? (i := 1) rfl) dX7_winsInPairs_1 ?_
  refine gg3_13 X hP kc_1 (sk_in hN kc_1 (by decide)) hi3 (List.mem_of_getElem? (i := 2) rfl) dX7_winsInPairs_4 ?_
  exact W.iret hx hb hr (fun t9 ht hW => ⟨⟨(I 1 13), (), rfl, (Option.some.inj h).symm, gEnd ht hP⟩, hS.F ht⟩) hS.2.2 dX7_winsInPairs_7 hlk
def f_X7_meanFlown (I : Nat → Nat → Int32) : Option (UInt64) :=
  if (I 1 3) ≤ 0 then
    some FP.dconst0
  else
    (f_X3_sumFlown 1 I).bind fun r1 =>
    hg (gnn (FP.ddiv (FP.i2d r1) (FP.i2d (I 1 3)))) <|
    some (FP.ddiv (FP.i2d r1) (FP.i2d (I 1 3)))
set_option maxHeartbeats 8000000 in
set_option maxRecDepth 100000 in
theorem c_X7_meanFlown {l : Launch} {dC : Nat → ClassId} {dI : Nat → Nat → Nat} {ca : Nat → ClassId} {b : Nat → Nat} {A : Nat → Prop} {N : Nat} (hN : 129 ≤ N) (hA : gAd A b N) (I : Nat → Nat → Int32) (O : Nat → Nat → Option Nat) (J : Nat → Nat → Int64) (res : UInt64) (h : f_X7_meanFlown I = some res) : Met l yX7_meanFlown wsX7_meanFlown ({ frames := 2, cells := 0, slots := 0, locals := 46 } : Room) (va_Pc [.ref (b 0)] (gPre dC dI ca b A N I O J)) (va_Qd (fun (r : UInt64) (u : Unit) => res = r) (fun (u : Unit) t => va_P (dC, dI) vwCl (hW N ca b I O J) t.heap) A) 0 0 A := by
  refine Met.ofW (cc := cX7_meanFlown) (maxL := 1) (ret := (some .double)) (by decide) rfl ?_
  intro p e s m args below meth c s₁ B hml hv
  obtain ⟨rfl, hP, hK, hA2, hth⟩ := hv
  have hx := B.exec
  have hb := B.bytes
  have hr := B.returns
  have hlk := B.notSynchronized
  have X : gCx p s m ([.ref (b 0)] : List Value).toArray c RX7 cX7_meanFlown wsX7_meanFlown 1 dC dI ca b A N := ⟨hx, hb, hml, findClass_of_methodNamed B.named, atoms_spec (ws := wsX7_meanFlown) B.pre, hK, hA, hA2, hth⟩
  have hi3 : ∀ w ∈ wsX30, w ∈ wsX7_meanFlown := (fun w h => List.mem_cons_of_mem _ (List.mem_append_left _ (List.mem_append_right _ h)))
  have hi7 : ∀ w ∈ wsX70, w ∈ wsX7_meanFlown := (fun w h => List.mem_cons_of_mem _ (List.mem_append_left _ (List.mem_append_left _ (List.mem_append_right _ h))))
  have hS : va_S A s.heap s.heap [] := va_S.rf
  have hl := lv_entry ([.ref (b 0)] : List Value) (n := 1) (Nat.le_of_ble_eq_true rfl)
  rw [lg_entry_eq]
  generalize (lg_sl ([.ref (b 0)] : List Value) ++ List.replicate (1 - (lg_sl ([.ref (b 0)] : List Value)).length) Slot.unset).toArray = ls at hl ⊢
  have hl : lv_has ls 1 [(0, .ref (b 0))] := hl
  unfold f_X7_meanFlown at h
  refine lv_aload_n hx hb dX7_meanFlown_0 rfl (lv_at hl 0 rfl) ?_
  refine gg7_0 X hP kc_0 (sk_in hN kc_0 (by decide)) hi7 (List.mem_of_getElem? (i := 1) rfl) dX7_meanFlown_1 ?_
  refine gg3_3 X hP kc_1 (sk_in hN kc_1 (by decide)) hi3 (List.mem_of_getElem? (i := 2) rfl) dX7_meanFlown_4 ?_
  refine lv_if_le (tgt := 30) hx hb dX7_meanFlown_7 (by decide) (fun c3 => ?_) (fun c3 => ?_)
  · have h := gif_t c3 h
    refine lv_dconst0 hx hb dX7_meanFlown_30 ?_
    exact W.dret hx hb hr (fun t9 ht hW => ⟨⟨FP.dconst0, (), rfl, (Option.some.inj h).symm, gEnd ht hP⟩, hS.F ht⟩) hS.2.2 dX7_meanFlown_31 hlk
  · have h := gif_f c3 h
    refine lv_aload_n hx hb dX7_meanFlown_10 rfl (lv_at hl 0 rfl) ?_
    refine gg7_0 X hP kc_0 (sk_in hN kc_0 (by decide)) hi7 (List.mem_of_getElem? (i := 1) rfl) dX7_meanFlown_11 ?_
    obtain ⟨q2, hcq2, h⟩ := hb_some h
    refine gdV_i (As := []) (rest := []) (BH := (fun (u : Unit) H => va_P (dC, dI) vwCl (hW N ca b I O J) H)) X hP hS (c_X3_sumFlown hN hA I O J 1 kc_1 q2 hcq2) (cwV 0 X.ts gX7_meanFlown_X3_sumFlown rfl rfl rfl (by decide +kernel) ⟨Nat.le_of_ble_eq_true rfl, Nat.le_of_ble_eq_true rfl⟩) (gr3 X hP kc_1 (sk_in hN kc_1 (by decide))) rfl hl.1 rfl (Nat.le_of_ble_eq_true rfl) dX7_meanFlown_14 ⟨Nat.le_of_ble_eq_true rfl, Nat.le_of_ble_eq_true rfl⟩ (fun r1 u9 H locs hw hP hS => ?_)
    have hw := hw.symm
    subst hw
    refine lv_i2d hx hb dX7_meanFlown_17 ?_
    refine lv_aload_n hx hb dX7_meanFlown_18 rfl (lv_at hl 0 rfl) ?_
    refine gg7_0 X hP kc_0 (sk_in hN kc_0 (by decide)) hi7 (List.mem_of_getElem? (i := 1) rfl) dX7_meanFlown_19 ?_
    refine gg3_3 X hP kc_1 (sk_in hN kc_1 (by decide)) hi3 (List.mem_of_getElem? (i := 2) rfl) dX7_meanFlown_22 ?_
    refine lv_i2d hx hb dX7_meanFlown_25 ?_
    obtain ⟨hgn, h⟩ := hg_some h
    refine lv_ddiv hx hb dX7_meanFlown_26 (gnn_of hgn) ?_
    refine lv_goto (tgt := 31) hx hb dX7_meanFlown_27 (by decide) ?_
    exact W.dret hx hb hr (fun t9 ht hW => ⟨⟨(FP.ddiv (FP.i2d r1) (FP.i2d (I 1 3))), (), rfl, (Option.some.inj h).symm, gEnd ht hP⟩, hS.F ht⟩) hS.2.2 dX7_meanFlown_31 hlk
def f_X7_hashSparrow (a1 : Nat) (a2 : Nat) (I : Nat → Nat → Int32) (J : Nat → Nat → Int64) : Option (Nat → Nat → Int64) :=
  (show Option (Int32) from
    if (I a2 9) = (1 : Int32) then
      some (1 : Int32)
    else
      some (0 : Int32)).bind fun p1 =>
  (f_X0_add a1 (((I a2 4)).toInt64) J).bind fun J2 =>
  (f_X6_lapsOver a2 I).bind fun r4 =>
  (f_X0_add a1 ((r4).toInt64) J2).bind fun J6 =>
  (f_X0_add a1 (((I a2 5)).toInt64) J6).bind fun J8 =>
  (f_X0_add a1 (((I a2 6)).toInt64) J8).bind fun J10 =>
  (f_X0_add a1 (((I a2 7)).toInt64) J10).bind fun J12 =>
  (f_X0_add a1 (((I a2 8)).toInt64) J12).bind fun J14 =>
  (f_X0_add a1 (((I a2 9)).toInt64) J14).bind fun J16 =>
  (f_X0_add a1 (((I a2 1)).toInt64) J16).bind fun J18 =>
  (f_X0_add a1 ((((I a2 12) + (1 : Int32))).toInt64) J18).bind fun J20 =>
  (show Option (Int64) from
    if (I a2 11) = 0 then
      some (0 : Int64)
    else
      some (1 : Int64)).bind fun p22 =>
  (f_X0_add a1 p22 J20).bind fun J23 =>
  (f_X3_countAheadOf 1 a2 I).bind fun r25 =>
  (f_X0_add a1 ((r25).toInt64) J23).bind fun J27 =>
  (f_X3_gapOf 1 a2 I).bind fun r29 =>
  (f_X0_add a1 ((r29).toInt64) J27).bind fun J31 =>
  (show Option (Int64) from
    if p1 = 0 then
      some (0 : Int64)
    else
      (f_X3_nextAhead 1 a2 I).bind fun r50 =>
      (f_X3_draftFeet 1 a2 r50 I).bind fun r52 =>
      if r52 ≤ 0 then
        some (0 : Int64)
      else
        some (1 : Int64)).bind fun p33 =>
  (f_X0_add a1 p33 J31).bind fun J34 =>
  (f_X6_partOfCourse a2 I).bind fun r36 =>
  (f_X0_add a1 ((r36).toInt64) J34).bind fun J38 =>
  (show Option (Int64) from
    if p1 = 0 then
      some (0 : Int64)
    else
      (f_X3_allowedFeet 1 a2 I).bind fun r47 =>
      some ((r47).toInt64)).bind fun p40 =>
  (f_X0_add a1 p40 J38).bind fun J41 =>
  (show Option (Int64) from
    if (I a2 9) = (3 : Int32) then
      some (((I a2 14)).toInt64)
    else
      some (0 : Int64)).bind fun p43 =>
  (f_X0_add a1 p43 J41).bind fun J44 =>
  some J44
set_option maxHeartbeats 8000000 in
set_option maxRecDepth 100000 in
theorem c_X7_hashSparrow {l : Launch} {dC : Nat → ClassId} {dI : Nat → Nat → Nat} {ca : Nat → ClassId} {b : Nat → Nat} {A : Nat → Prop} {N : Nat} (hN : 129 ≤ N) (hA : gAd A b N) (I : Nat → Nat → Int32) (O : Nat → Nat → Option Nat) (J : Nat → Nat → Int64) (a1 : Nat) (a2 : Nat) (hk_a1 : SHK a1 = 0) (hn_a1 : a1 < N) (hk_a2 : SHK a2 = 6) (res : Nat → Nat → Int64) (h : f_X7_hashSparrow a1 a2 I J = some res) : Met l yX7_hashSparrow wsX7_hashSparrow ({ frames := 3, cells := 0, slots := 0, locals := 73 } : Room) (va_Pc [.ref (b 0), .ref (b a1), .ref (b a2)] (gPre dC dI ca b A N I O J)) (va_Qv (fun (u : Nat → Nat → Int64) => res = u) (fun (u : Nat → Nat → Int64) t => va_P (dC, dI) vwCl (hW N ca b I O u) t.heap) A) 0 0 A := by
  refine Met.ofW (cc := cX7_hashSparrow) (maxL := 4) (ret := none) (by decide) rfl ?_
  intro p e s m args below meth c s₁ B hml hv
  obtain ⟨rfl, hP, hK, hA2, hth⟩ := hv
  have hx := B.exec
  have hb := B.bytes
  have hr := B.returns
  have hlk := B.notSynchronized
  have X : gCx p s m ([.ref (b 0), .ref (b a1), .ref (b a2)] : List Value).toArray c RX7 cX7_hashSparrow wsX7_hashSparrow 4 dC dI ca b A N := ⟨hx, hb, hml, findClass_of_methodNamed B.named, atoms_spec (ws := wsX7_hashSparrow) B.pre, hK, hA, hA2, hth⟩
  have hi6 : ∀ w ∈ wsX60, w ∈ wsX7_hashSparrow := (fun w h => List.mem_cons_of_mem _ (List.mem_append_left _ (List.mem_append_left _ (List.mem_append_left _ (List.mem_append_right _ h)))))
  have hi7 : ∀ w ∈ wsX70, w ∈ wsX7_hashSparrow := (fun w h => List.mem_cons_of_mem _ (List.mem_append_left _ (List.mem_append_left _ (List.mem_append_right _ h))))
  have hS : va_S A s.heap s.heap [] := va_S.rf
  have hl := lv_entry ([.ref (b 0), .ref (b a1), .ref (b a2)] : List Value) (n := 4) (Nat.le_of_ble_eq_true rfl)
  rw [lg_entry_eq]
  generalize (lg_sl ([.ref (b 0), .ref (b a1), .ref (b a2)] : List Value) ++ List.replicate (4 - (lg_sl ([.ref (b 0), .ref (b a1), .ref (b a2)] : List Value)).length) Slot.unset).toArray = ls at hl ⊢
  have hl : lv_has ls 4 [(0, .ref (b 0)), (1, .ref (b a1)), (2, .ref (b a2))] := hl
  unfold f_X7_hashSparrow at h
  refine lv_aload_n hx hb dX7_hashSparrow_0 rfl (lv_at hl 2 rfl) ?_
  refine gg6_9 X hP hk_a2 (sk_in hN hk_a2 (by decide)) hi6 (List.mem_of_getElem? (i := 1) rfl) dX7_hashSparrow_1 ?_
  refine lv_iconst (v := 1) hx hb dX7_hashSparrow_4 (by decide) ?_
  obtain ⟨p1, hv, h⟩ := hb_some h
  have K13 : ∀ (H : Heap) (locs : List Loc) (ls : Array Slot), va_P (dC, dI) vwCl (hW N ca b I O J) H → va_S A s.heap H locs → lv_has ls 4 [(0, .ref (b 0)), (1, .ref (b a1)), (2, .ref (b a2))] → W p l e (headSpec wsX7_hashSparrow ({ frames := 3, cells := 0, slots := 0, locals := 73 } : Room)).room s m ([.ref (b 0), .ref (b a1), .ref (b a2)] : List Value).toArray below meth c H locs 0 0 (MQ below (va_Qv (fun (u : Nat → Nat → Int64) => res = u) (fun (u : Nat → Nat → Int64) t => va_P (dC, dI) vwCl (hW N ca b I O u) t.heap) A) ([.ref (b 0), .ref (b a1), .ref (b a2)] : List Value).toArray s 0 0 A) (F0 m 13 ls [.int p1]) := by
    intro H locs ls hP hS hl
    refine lv_istore_n (lv' := [(3, .int p1), (0, .ref (b 0)), (1, .ref (b a1)), (2, .ref (b a2))]) hx hb dX7_hashSparrow_13 rfl hl (by decide) rfl (fun ls hl => ?_)
    refine lv_aload_n hx hb dX7_hashSparrow_14 rfl (lv_at hl 2 rfl) ?_
    refine lv_aload_n hx hb dX7_hashSparrow_15 rfl (lv_at hl 3 rfl) ?_
    refine gg6_4 X hP hk_a2 (sk_in hN hk_a2 (by decide)) hi6 (List.mem_of_getElem? (i := 2) rfl) dX7_hashSparrow_16 ?_
    refine lv_i2l (v := ((I a2 4)).toInt64) hx hb dX7_hashSparrow_19 rfl ?_
    obtain ⟨q3, hcq3, h⟩ := hb_some h
    refine gdV_v (As := [.long (((I a2 4)).toInt64)]) (rest := []) (BH := (fun (u : Nat → Nat → Int64) H => va_P (dC, dI) vwCl (hW N ca b I O u) H)) X hP hS (c_X0_add hN hA I O J a1 (((I a2 4)).toInt64) hk_a1 hn_a1 q3 hcq3) (cwV 1 X.ts gX7_hashSparrow_X0_add rfl rfl rfl (by decide +kernel) ⟨Nat.le_of_ble_eq_true rfl, Nat.le_of_ble_eq_true rfl⟩) (gr0 X hP hk_a1 hn_a1) rfl hl.1 rfl (Nat.le_of_ble_eq_true rfl) dX7_hashSparrow_20 ⟨Nat.le_of_ble_eq_true rfl, Nat.le_of_ble_eq_true rfl⟩ (fun J2 H locs hw hP hS => ?_)
    have hw := hw.symm
    subst hw
    refine lv_aload_n hx hb dX7_hashSparrow_23 rfl (lv_at hl 2 rfl) ?_
    refine lv_aload_n hx hb dX7_hashSparrow_24 rfl (lv_at hl 3 rfl) ?_
    obtain ⟨q5, hcq5, h⟩ := hb_some h
    refine gdV_i (As := []) (rest := [.ref (b a1)]) (BH := (fun (u : Unit) H => va_P (dC, dI) vwCl (hW N ca b I O J2) H)) X hP hS (c_X6_lapsOver hN hA I O J2 a2 hk_a2 q5 hcq5) (cwV 0 X.ts gX7_hashSparrow_X6_lapsOver rfl rfl rfl (by decide +kernel) ⟨Nat.le_of_ble_eq_true rfl, Nat.le_of_ble_eq_true rfl⟩) (gr6 X hP hk_a2 (sk_in hN hk_a2 (by decide))) rfl hl.1 rfl (Nat.le_of_ble_eq_true rfl) dX7_hashSparrow_25 ⟨Nat.le_of_ble_eq_true rfl, Nat.le_of_ble_eq_true rfl⟩ (fun r4 u9 H locs hw hP hS => ?_)
    have hw := hw.symm
    subst hw
    refine lv_i2l (v := (r4).toInt64) hx hb dX7_hashSparrow_28 rfl ?_
    obtain ⟨q7, hcq7, h⟩ := hb_some h
    refine gdV_v (As := [.long ((r4).toInt64)]) (rest := []) (BH := (fun (u : Nat → Nat → Int64) H => va_P (dC, dI) vwCl (hW N ca b I O u) H)) X hP hS (c_X0_add hN hA I O J2 a1 ((r4).toInt64) hk_a1 hn_a1 q7 hcq7) (cwV 1 X.ts gX7_hashSparrow_X0_add rfl rfl rfl (by decide +kernel) ⟨Nat.le_of_ble_eq_true rfl, Nat.le_of_ble_eq_true rfl⟩) (gr0 X hP hk_a1 hn_a1) rfl hl.1 rfl (Nat.le_of_ble_eq_true rfl) dX7_hashSparrow_29 ⟨Nat.le_of_ble_eq_true rfl, Nat.le_of_ble_eq_true rfl⟩ (fun J6 H locs hw hP hS => ?_)
    have hw := hw.symm
    subst hw
    refine lv_aload_n hx hb dX7_hashSparrow_32 rfl (lv_at hl 2 rfl) ?_
    refine lv_aload_n hx hb dX7_hashSparrow_33 rfl (lv_at hl 3 rfl) ?_
    refine gg6_5 X hP hk_a2 (sk_in hN hk_a2 (by decide)) hi6 (List.mem_of_getElem? (i := 3) rfl) dX7_hashSparrow_34 ?_
    refine lv_i2l (v := ((I a2 5)).toInt64) hx hb dX7_hashSparrow_37 rfl ?_
    obtain ⟨q9, hcq9, h⟩ := hb_some h
    refine gdV_v (As := [.long (((I a2 5)).toInt64)]) (rest := []) (BH := (fun (u : Nat → Nat → Int64) H => va_P (dC, dI) vwCl (hW N ca b I O u) H)) X hP hS (c_X0_add hN hA I O J6 a1 (((I a2 5)).toInt64) hk_a1 hn_a1 q9 hcq9) (cwV 1 X.ts gX7_hashSparrow_X0_add rfl rfl rfl (by decide +kernel) ⟨Nat.le_of_ble_eq_true rfl, Nat.le_of_ble_eq_true rfl⟩) (gr0 X hP hk_a1 hn_a1) rfl hl.1 rfl (Nat.le_of_ble_eq_true rfl) dX7_hashSparrow_38 ⟨Nat.le_of_ble_eq_true rfl, Nat.le_of_ble_eq_true rfl⟩ (fun J8 H locs hw hP hS => ?_)
    have hw := hw.symm
    subst hw
    refine lv_aload_n hx hb dX7_hashSparrow_41 rfl (lv_at hl 2 rfl) ?_
    refine lv_aload_n hx hb dX7_hashSparrow_42 rfl (lv_at hl 3 rfl) ?_
    refine gg6_6 X hP hk_a2 (sk_in hN hk_a2 (by decide)) hi6 (List.mem_of_getElem? (i := 4) rfl) dX7_hashSparrow_43 ?_
    refine lv_i2l (v := ((I a2 6)).toInt64) hx hb dX7_hashSparrow_46 rfl ?_
    obtain ⟨q11, hcq11, h⟩ := hb_some h
    refine gdV_v (As := [.long (((I a2 6)).toInt64)]) (rest := []) (BH := (fun (u : Nat → Nat → Int64) H => va_P (dC, dI) vwCl (hW N ca b I O u) H)) X hP hS (c_X0_add hN hA I O J8 a1 (((I a2 6)).toInt64) hk_a1 hn_a1 q11 hcq11) (cwV 1 X.ts gX7_hashSparrow_X0_add rfl rfl rfl (by decide +kernel) ⟨Nat.le_of_ble_eq_true rfl, Nat.le_of_ble_eq_true rfl⟩) (gr0 X hP hk_a1 hn_a1) rfl hl.1 rfl (Nat.le_of_ble_eq_true rfl) dX7_hashSparrow_47 ⟨Nat.le_of_ble_eq_true rfl, Nat.le_of_ble_eq_true rfl⟩ (fun J10 H locs hw hP hS => ?_)
    have hw := hw.symm
    subst hw
    refine lv_aload_n hx hb dX7_hashSparrow_50 rfl (lv_at hl 2 rfl) ?_
    refine lv_aload_n hx hb dX7_hashSparrow_51 rfl (lv_at hl 3 rfl) ?_
    refine gg6_7 X hP hk_a2 (sk_in hN hk_a2 (by decide)) hi6 (List.mem_of_getElem? (i := 5) rfl) dX7_hashSparrow_52 ?_
    refine lv_i2l (v := ((I a2 7)).toInt64) hx hb dX7_hashSparrow_55 rfl ?_
    obtain ⟨q13, hcq13, h⟩ := hb_some h
    refine gdV_v (As := [.long (((I a2 7)).toInt64)]) (rest := []) (BH := (fun (u : Nat → Nat → Int64) H => va_P (dC, dI) vwCl (hW N ca b I O u) H)) X hP hS (c_X0_add hN hA I O J10 a1 (((I a2 7)).toInt64) hk_a1 hn_a1 q13 hcq13) (cwV 1 X.ts gX7_hashSparrow_X0_add rfl rfl rfl (by decide +kernel) ⟨Nat.le_of_ble_eq_true rfl, Nat.le_of_ble_eq_true rfl⟩) (gr0 X hP hk_a1 hn_a1) rfl hl.1 rfl (Nat.le_of_ble_eq_true rfl) dX7_hashSparrow_56 ⟨Nat.le_of_ble_eq_true rfl, Nat.le_of_ble_eq_true rfl⟩ (fun J12 H locs hw hP hS => ?_)
    have hw := hw.symm
    subst hw
    refine lv_aload_n hx hb dX7_hashSparrow_59 rfl (lv_at hl 2 rfl) ?_
    refine lv_aload_n hx hb dX7_hashSparrow_60 rfl (lv_at hl 3 rfl) ?_
    refine gg6_8 X hP hk_a2 (sk_in hN hk_a2 (by decide)) hi6 (List.mem_of_getElem? (i := 6) rfl) dX7_hashSparrow_61 ?_
    refine lv_i2l (v := ((I a2 8)).toInt64) hx hb dX7_hashSparrow_64 rfl ?_
    obtain ⟨q15, hcq15, h⟩ := hb_some h
    refine gdV_v (As := [.long (((I a2 8)).toInt64)]) (rest := []) (BH := (fun (u : Nat → Nat → Int64) H => va_P (dC, dI) vwCl (hW N ca b I O u) H)) X hP hS (c_X0_add hN hA I O J12 a1 (((I a2 8)).toInt64) hk_a1 hn_a1 q15 hcq15) (cwV 1 X.ts gX7_hashSparrow_X0_add rfl rfl rfl (by decide +kernel) ⟨Nat.le_of_ble_eq_true rfl, Nat.le_of_ble_eq_true rfl⟩) (gr0 X hP hk_a1 hn_a1) rfl hl.1 rfl (Nat.le_of_ble_eq_true rfl) dX7_hashSparrow_65 ⟨Nat.le_of_ble_eq_true rfl, Nat.le_of_ble_eq_true rfl⟩ (fun J14 H locs hw hP hS => ?_)
    have hw := hw.symm
    subst hw
    refine lv_aload_n hx hb dX7_hashSparrow_68 rfl (lv_at hl 2 rfl) ?_
    refine lv_aload_n hx hb dX7_hashSparrow_69 rfl (lv_at hl 3 rfl) ?_
    refine gg6_9 X hP hk_a2 (sk_in hN hk_a2 (by decide)) hi6 (List.mem_of_getElem? (i := 1) rfl) dX7_hashSparrow_70 ?_
    refine lv_i2l (v := ((I a2 9)).toInt64) hx hb dX7_hashSparrow_73 rfl ?_
    obtain ⟨q17, hcq17, h⟩ := hb_some h
    refine gdV_v (As := [.long (((I a2 9)).toInt64)]) (rest := []) (BH := (fun (u : Nat → Nat → Int64) H => va_P (dC, dI) vwCl (hW N ca b I O u) H)) X hP hS (c_X0_add hN hA I O J14 a1 (((I a2 9)).toInt64) hk_a1 hn_a1 q17 hcq17) (cwV 1 X.ts gX7_hashSparrow_X0_add rfl rfl rfl (by decide +kernel) ⟨Nat.le_of_ble_eq_true rfl, Nat.le_of_ble_eq_true rfl⟩) (gr0 X hP hk_a1 hn_a1) rfl hl.1 rfl (Nat.le_of_ble_eq_true rfl) dX7_hashSparrow_74 ⟨Nat.le_of_ble_eq_true rfl, Nat.le_of_ble_eq_true rfl⟩ (fun J16 H locs hw hP hS => ?_)
    have hw := hw.symm
    subst hw
    refine lv_aload_n hx hb dX7_hashSparrow_77 rfl (lv_at hl 2 rfl) ?_
    refine lv_aload_n hx hb dX7_hashSparrow_78 rfl (lv_at hl 3 rfl) ?_
    refine gg6_1 X hP hk_a2 (sk_in hN hk_a2 (by decide)) hi6 (List.mem_of_getElem? (i := 7) rfl) dX7_hashSparrow_79 ?_
    refine lv_i2l (v := ((I a2 1)).toInt64) hx hb dX7_hashSparrow_82 rfl ?_
    obtain ⟨q19, hcq19, h⟩ := hb_some h
    refine gdV_v (As := [.long (((I a2 1)).toInt64)]) (rest := []) (BH := (fun (u : Nat → Nat → Int64) H => va_P (dC, dI) vwCl (hW N ca b I O u) H)) X hP hS (c_X0_add hN hA I O J16 a1 (((I a2 1)).toInt64) hk_a1 hn_a1 q19 hcq19) (cwV 1 X.ts gX7_hashSparrow_X0_add rfl rfl rfl (by decide +kernel) ⟨Nat.le_of_ble_eq_true rfl, Nat.le_of_ble_eq_true rfl⟩) (gr0 X hP hk_a1 hn_a1) rfl hl.1 rfl (Nat.le_of_ble_eq_true rfl) dX7_hashSparrow_83 ⟨Nat.le_of_ble_eq_true rfl, Nat.le_of_ble_eq_true rfl⟩ (fun J18 H locs hw hP hS => ?_)
    have hw := hw.symm
    subst hw
    refine lv_aload_n hx hb dX7_hashSparrow_86 rfl (lv_at hl 2 rfl) ?_
    refine lv_aload_n hx hb dX7_hashSparrow_87 rfl (lv_at hl 3 rfl) ?_
    refine gg6_12 X hP hk_a2 (sk_in hN hk_a2 (by decide)) hi6 (List.mem_of_getElem? (i := 8) rfl) dX7_hashSparrow_88 ?_
    refine lv_iconst (v := 1) hx hb dX7_hashSparrow_91 (by decide) ?_
    refine lv_iadd hx hb dX7_hashSparrow_92 ?_
    refine lv_i2l (v := (((I a2 12) + (1 : Int32))).toInt64) hx hb dX7_hashSparrow_93 rfl ?_
    obtain ⟨q21, hcq21, h⟩ := hb_some h
    refine gdV_v (As := [.long ((((I a2 12) + (1 : Int32))).toInt64)]) (rest := []) (BH := (fun (u : Nat → Nat → Int64) H => va_P (dC, dI) vwCl (hW N ca b I O u) H)) X hP hS (c_X0_add hN hA I O J18 a1 ((((I a2 12) + (1 : Int32))).toInt64) hk_a1 hn_a1 q21 hcq21) (cwV 1 X.ts gX7_hashSparrow_X0_add rfl rfl rfl (by decide +kernel) ⟨Nat.le_of_ble_eq_true rfl, Nat.le_of_ble_eq_true rfl⟩) (gr0 X hP hk_a1 hn_a1) rfl hl.1 rfl (Nat.le_of_ble_eq_true rfl) dX7_hashSparrow_94 ⟨Nat.le_of_ble_eq_true rfl, Nat.le_of_ble_eq_true rfl⟩ (fun J20 H locs hw hP hS => ?_)
    have hw := hw.symm
    subst hw
    refine lv_aload_n hx hb dX7_hashSparrow_97 rfl (lv_at hl 2 rfl) ?_
    refine lv_aload_n hx hb dX7_hashSparrow_98 rfl (lv_at hl 3 rfl) ?_
    refine gg6_11 X hP hk_a2 (sk_in hN hk_a2 (by decide)) hi6 (List.mem_of_getElem? (i := 9) rfl) dX7_hashSparrow_99 ?_
    obtain ⟨p22, hv, h⟩ := hb_some h
    have K110 : ∀ (H : Heap) (locs : List Loc) (ls : Array Slot), va_P (dC, dI) vwCl (hW N ca b I O J20) H → va_S A s.heap H locs → lv_has ls 4 [(0, .ref (b 0)), (1, .ref (b a1)), (2, .ref (b a2)), (3, .int p1)] → W p l e (headSpec wsX7_hashSparrow ({ frames := 3, cells := 0, slots := 0, locals := 73 } : Room)).room s m ([.ref (b 0), .ref (b a1), .ref (b a2)] : List Value).toArray below meth c H locs 0 0 (MQ below (va_Qv (fun (u : Nat → Nat → Int64) => res = u) (fun (u : Nat → Nat → Int64) t => va_P (dC, dI) vwCl (hW N ca b I O u) t.heap) A) ([.ref (b 0), .ref (b a1), .ref (b a2)] : List Value).toArray s 0 0 A) (F0 m 110 ls [.long p22, .ref (b a1)]) := by
      intro H locs ls hP hS hl
      obtain ⟨q24, hcq24, h⟩ := hb_some h
      refine gdV_v (As := [.long p22]) (rest := []) (BH := (fun (u : Nat → Nat → Int64) H => va_P (dC, dI) vwCl (hW N ca b I O u) H)) X hP hS (c_X0_add hN hA I O J20 a1 p22 hk_a1 hn_a1 q24 hcq24) (cwV 1 X.ts gX7_hashSparrow_X0_add rfl rfl rfl (by decide +kernel) ⟨Nat.le_of_ble_eq_true rfl, Nat.le_of_ble_eq_true rfl⟩) (gr0 X hP hk_a1 hn_a1) rfl hl.1 rfl (Nat.le_of_ble_eq_true rfl) dX7_hashSparrow_110 ⟨Nat.le_of_ble_eq_true rfl, Nat.le_of_ble_eq_true rfl⟩ (fun J23 H locs hw hP hS => ?_)
      have hw := hw.symm
      subst hw
      refine lv_aload_n hx hb dX7_hashSparrow_113 rfl (lv_at hl 1 rfl) ?_
      refine lv_aload_n hx hb dX7_hashSparrow_114 rfl (lv_at hl 0 rfl) ?_
      refine gg7_0 X hP kc_0 (sk_in hN kc_0 (by decide)) hi7 (List.mem_of_getElem? (i := 10) rfl) dX7_hashSparrow_115 ?_
      refine lv_aload_n hx hb dX7_hashSparrow_118 rfl (lv_at hl 2 rfl) ?_
      obtain ⟨q26, hcq26, h⟩ := hb_some h
      refine gdV_i (As := [.ref (b a2)]) (rest := [.ref (b a1)]) (BH := (fun (u : Unit) H => va_P (dC, dI) vwCl (hW N ca b I O J23) H)) X hP hS (c_X3_countAheadOf hN hA I O J23 1 a2 kc_1 hk_a2 q26 hcq26) (cwV 1 X.ts gX7_hashSparrow_X3_countAheadOf rfl rfl rfl (by decide +kernel) ⟨Nat.le_of_ble_eq_true rfl, Nat.le_of_ble_eq_true rfl⟩) (gr3 X hP kc_1 (sk_in hN kc_1 (by decide))) rfl hl.1 rfl (Nat.le_of_ble_eq_true rfl) dX7_hashSparrow_119 ⟨Nat.le_of_ble_eq_true rfl, Nat.le_of_ble_eq_true rfl⟩ (fun r25 u9 H locs hw hP hS => ?_)
      have hw := hw.symm
      subst hw
      refine lv_i2l (v := (r25).toInt64) hx hb dX7_hashSparrow_122 rfl ?_
      obtain ⟨q28, hcq28, h⟩ := hb_some h
      refine gdV_v (As := [.long ((r25).toInt64)]) (rest := []) (BH := (fun (u : Nat → Nat → Int64) H => va_P (dC, dI) vwCl (hW N ca b I O u) H)) X hP hS (c_X0_add hN hA I O J23 a1 ((r25).toInt64) hk_a1 hn_a1 q28 hcq28) (cwV 1 X.ts gX7_hashSparrow_X0_add rfl rfl rfl (by decide +kernel) ⟨Nat.le_of_ble_eq_true rfl, Nat.le_of_ble_eq_true rfl⟩) (gr0 X hP hk_a1 hn_a1) rfl hl.1 rfl (Nat.le_of_ble_eq_true rfl) dX7_hashSparrow_123 ⟨Nat.le_of_ble_eq_true rfl, Nat.le_of_ble_eq_true rfl⟩ (fun J27 H locs hw hP hS => ?_)
      have hw := hw.symm
      subst hw
      refine lv_aload_n hx hb dX7_hashSparrow_126 rfl (lv_at hl 1 rfl) ?_
      refine lv_aload_n hx hb dX7_hashSparrow_127 rfl (lv_at hl 0 rfl) ?_
      refine gg7_0 X hP kc_0 (sk_in hN kc_0 (by decide)) hi7 (List.mem_of_getElem? (i := 10) rfl) dX7_hashSparrow_128 ?_
      refine lv_aload_n hx hb dX7_hashSparrow_131 rfl (lv_at hl 2 rfl) ?_
      obtain ⟨q30, hcq30, h⟩ := hb_some h
      refine gdV_i (As := [.ref (b a2)]) (rest := [.ref (b a1)]) (BH := (fun (u : Unit) H => va_P (dC, dI) vwCl (hW N ca b I O J27) H)) X hP hS (c_X3_gapOf hN hA I O J27 1 a2 kc_1 hk_a2 q30 hcq30) (cwV 1 X.ts gX7_hashSparrow_X3_gapOf rfl rfl rfl (by decide +kernel) ⟨Nat.le_of_ble_eq_true rfl, Nat.le_of_ble_eq_true rfl⟩) (gr3 X hP kc_1 (sk_in hN kc_1 (by decide))) rfl hl.1 rfl (Nat.le_of_ble_eq_true rfl) dX7_hashSparrow_132 ⟨Nat.le_of_ble_eq_true rfl, Nat.le_of_ble_eq_true rfl⟩ (fun r29 u9 H locs hw hP hS => ?_)
      have hw := hw.symm
      subst hw
      refine lv_i2l (v := (r29).toInt64) hx hb dX7_hashSparrow_135 rfl ?_
      obtain ⟨q32, hcq32, h⟩ := hb_some h
      refine gdV_v (As := [.long ((r29).toInt64)]) (rest := []) (BH := (fun (u : Nat → Nat → Int64) H => va_P (dC, dI) vwCl (hW N ca b I O u) H)) X hP hS (c_X0_add hN hA I O J27 a1 ((r29).toInt64) hk_a1 hn_a1 q32 hcq32) (cwV 1 X.ts gX7_hashSparrow_X0_add rfl rfl rfl (by decide +kernel) ⟨Nat.le_of_ble_eq_true rfl, Nat.le_of_ble_eq_true rfl⟩) (gr0 X hP hk_a1 hn_a1) rfl hl.1 rfl (Nat.le_of_ble_eq_true rfl) dX7_hashSparrow_136 ⟨Nat.le_of_ble_eq_true rfl, Nat.le_of_ble_eq_true rfl⟩ (fun J31 H locs hw hP hS => ?_)
      have hw := hw.symm
      subst hw
      refine lv_aload_n hx hb dX7_hashSparrow_139 rfl (lv_at hl 1 rfl) ?_
      refine lv_iload_n hx hb dX7_hashSparrow_140 rfl (lv_at hl 3 rfl) ?_
      obtain ⟨p33, hv, h⟩ := hb_some h
      have K168 : ∀ (H : Heap) (locs : List Loc) (ls : Array Slot), va_P (dC, dI) vwCl (hW N ca b I O J31) H → va_S A s.heap H locs → lv_has ls 4 [(0, .ref (b 0)), (1, .ref (b a1)), (2, .ref (b a2)), (3, .int p1)] → W p l e (headSpec wsX7_hashSparrow ({ frames := 3, cells := 0, slots := 0, locals := 73 } : Room)).room s m ([.ref (b 0), .ref (b a1), .ref (b a2)] : List Value).toArray below meth c H locs 0 0 (MQ below (va_Qv (fun (u : Nat → Nat → Int64) => res = u) (fun (u : Nat → Nat → Int64) t => va_P (dC, dI) vwCl (hW N ca b I O u) t.heap) A) ([.ref (b 0), .ref (b a1), .ref (b a2)] : List Value).toArray s 0 0 A) (F0 m 168 ls [.long p33, .ref (b a1)]) := by
        intro H locs ls hP hS hl
        obtain ⟨q35, hcq35, h⟩ := hb_some h
        refine gdV_v (As := [.long p33]) (rest := []) (BH := (fun (u : Nat → Nat → Int64) H => va_P (dC, dI) vwCl (hW N ca b I O u) H)) X hP hS (c_X0_add hN hA I O J31 a1 p33 hk_a1 hn_a1 q35 hcq35) (cwV 1 X.ts gX7_hashSparrow_X0_add rfl rfl rfl (by decide +kernel) ⟨Nat.le_of_ble_eq_true rfl, Nat.le_of_ble_eq_true rfl⟩) (gr0 X hP hk_a1 hn_a1) rfl hl.1 rfl (Nat.le_of_ble_eq_true rfl) dX7_hashSparrow_168 ⟨Nat.le_of_ble_eq_true rfl, Nat.le_of_ble_eq_true rfl⟩ (fun J34 H locs hw hP hS => ?_)
        have hw := hw.symm
        subst hw
        refine lv_aload_n hx hb dX7_hashSparrow_171 rfl (lv_at hl 1 rfl) ?_
        refine lv_aload_n hx hb dX7_hashSparrow_172 rfl (lv_at hl 2 rfl) ?_
        obtain ⟨q37, hcq37, h⟩ := hb_some h
        refine gdV_i (As := []) (rest := [.ref (b a1)]) (BH := (fun (u : Unit) H => va_P (dC, dI) vwCl (hW N ca b I O J34) H)) X hP hS (c_X6_partOfCourse hN hA I O J34 a2 hk_a2 q37 hcq37) (cwV 0 X.ts gX7_hashSparrow_X6_partOfCourse rfl rfl rfl (by decide +kernel) ⟨Nat.le_of_ble_eq_true rfl, Nat.le_of_ble_eq_true rfl⟩) (gr6 X hP hk_a2 (sk_in hN hk_a2 (by decide))) rfl hl.1 rfl (Nat.le_of_ble_eq_true rfl) dX7_hashSparrow_173 ⟨Nat.le_of_ble_eq_true rfl, Nat.le_of_ble_eq_true rfl⟩ (fun r36 u9 H locs hw hP hS => ?_)
        have hw := hw.symm
        subst hw
        refine lv_i2l (v := (r36).toInt64) hx hb dX7_hashSparrow_176 rfl ?_
        obtain ⟨q39, hcq39, h⟩ := hb_some h
        refine gdV_v (As := [.long ((r36).toInt64)]) (rest := []) (BH := (fun (u : Nat → Nat → Int64) H => va_P (dC, dI) vwCl (hW N ca b I O u) H)) X hP hS (c_X0_add hN hA I O J34 a1 ((r36).toInt64) hk_a1 hn_a1 q39 hcq39) (cwV 1 X.ts gX7_hashSparrow_X0_add rfl rfl rfl (by decide +kernel) ⟨Nat.le_of_ble_eq_true rfl, Nat.le_of_ble_eq_true rfl⟩) (gr0 X hP hk_a1 hn_a1) rfl hl.1 rfl (Nat.le_of_ble_eq_true rfl) dX7_hashSparrow_177 ⟨Nat.le_of_ble_eq_true rfl, Nat.le_of_ble_eq_true rfl⟩ (fun J38 H locs hw hP hS => ?_)
        have hw := hw.symm
        subst hw
        refine lv_aload_n hx hb dX7_hashSparrow_180 rfl (lv_at hl 1 rfl) ?_
        refine lv_iload_n hx hb dX7_hashSparrow_181 rfl (lv_at hl 3 rfl) ?_
        obtain ⟨p40, hv, h⟩ := hb_some h
        have K198 : ∀ (H : Heap) (locs : List Loc) (ls : Array Slot), va_P (dC, dI) vwCl (hW N ca b I O J38) H → va_S A s.heap H locs → lv_has ls 4 [(1, .ref (b a1)), (2, .ref (b a2))] → W p l e (headSpec wsX7_hashSparrow ({ frames := 3, cells := 0, slots := 0, locals := 73 } : Room)).room s m ([.ref (b 0), .ref (b a1), .ref (b a2)] : List Value).toArray below meth c H locs 0 0 (MQ below (va_Qv (fun (u : Nat → Nat → Int64) => res = u) (fun (u : Nat → Nat → Int64) t => va_P (dC, dI) vwCl (hW N ca b I O u) t.heap) A) ([.ref (b 0), .ref (b a1), .ref (b a2)] : List Value).toArray s 0 0 A) (F0 m 198 ls [.long p40, .ref (b a1)]) := by
          intro H locs ls hP hS hl
          obtain ⟨q42, hcq42, h⟩ := hb_some h
          refine gdV_v (As := [.long p40]) (rest := []) (BH := (fun (u : Nat → Nat → Int64) H => va_P (dC, dI) vwCl (hW N ca b I O u) H)) X hP hS (c_X0_add hN hA I O J38 a1 p40 hk_a1 hn_a1 q42 hcq42) (cwV 1 X.ts gX7_hashSparrow_X0_add rfl rfl rfl (by decide +kernel) ⟨Nat.le_of_ble_eq_true rfl, Nat.le_of_ble_eq_true rfl⟩) (gr0 X hP hk_a1 hn_a1) rfl hl.1 rfl (Nat.le_of_ble_eq_true rfl) dX7_hashSparrow_198 ⟨Nat.le_of_ble_eq_true rfl, Nat.le_of_ble_eq_true rfl⟩ (fun J41 H locs hw hP hS => ?_)
          have hw := hw.symm
          subst hw
          refine lv_aload_n hx hb dX7_hashSparrow_201 rfl (lv_at hl 0 rfl) ?_
          refine lv_aload_n hx hb dX7_hashSparrow_202 rfl (lv_at hl 1 rfl) ?_
          refine gg6_9 X hP hk_a2 (sk_in hN hk_a2 (by decide)) hi6 (List.mem_of_getElem? (i := 1) rfl) dX7_hashSparrow_203 ?_
          refine lv_iconst (v := 3) hx hb dX7_hashSparrow_206 (by decide) ?_
          obtain ⟨p43, hv, h⟩ := hb_some h
          have K219 : ∀ (H : Heap) (locs : List Loc) (ls : Array Slot), va_P (dC, dI) vwCl (hW N ca b I O J41) H → va_S A s.heap H locs → lv_has ls 4 [] → W p l e (headSpec wsX7_hashSparrow ({ frames := 3, cells := 0, slots := 0, locals := 73 } : Room)).room s m ([.ref (b 0), .ref (b a1), .ref (b a2)] : List Value).toArray below meth c H locs 0 0 (MQ below (va_Qv (fun (u : Nat → Nat → Int64) => res = u) (fun (u : Nat → Nat → Int64) t => va_P (dC, dI) vwCl (hW N ca b I O u) t.heap) A) ([.ref (b 0), .ref (b a1), .ref (b a2)] : List Value).toArray s 0 0 A) (F0 m 219 ls [.long p43, .ref (b a1)]) := by
            intro H locs ls hP hS hl
            obtain ⟨q45, hcq45, h⟩ := hb_some h
            refine gdV_v (As := [.long p43]) (rest := []) (BH := (fun (u : Nat → Nat → Int64) H => va_P (dC, dI) vwCl (hW N ca b I O u) H)) X hP hS (c_X0_add hN hA I O J41 a1 p43 hk_a1 hn_a1 q45 hcq45) (cwV 1 X.ts gX7_hashSparrow_X0_add rfl rfl rfl (by decide +kernel) ⟨Nat.le_of_ble_eq_true rfl, Nat.le_of_ble_eq_true rfl⟩) (gr0 X hP hk_a1 hn_a1) rfl hl.1 rfl (Nat.le_of_ble_eq_true rfl) dX7_hashSparrow_219 ⟨Nat.le_of_ble_eq_true rfl, Nat.le_of_ble_eq_true rfl⟩ (fun J44 H locs hw hP hS => ?_)
            have hw := hw.symm
            subst hw
            exact W.vret hx hb hr (fun t9 ht hW => ⟨⟨J44, rfl, (Option.some.inj h).symm, gEnd ht hP⟩, hS.F ht⟩) hS.2.2 dX7_hashSparrow_222 hlk
          have h := hv
          refine lv_icmp_ne (tgt := 218) hx hb dX7_hashSparrow_207 (by decide) (fun c46 => ?_) (fun c46 => ?_)
          · have h := gif_f c46 h
            refine lv_lconst (v := 0) hx hb dX7_hashSparrow_218 (by decide) ?_
            cases h
            exact K219 _ _ _ hP hS (lv_sub hl [] rfl)
          · have h := gif_t c46 h
            refine lv_aload_n hx hb dX7_hashSparrow_210 rfl (lv_at hl 1 rfl) ?_
            refine gg6_14 X hP hk_a2 (sk_in hN hk_a2 (by decide)) hi6 (List.mem_of_getElem? (i := 11) rfl) dX7_hashSparrow_211 ?_
            refine lv_i2l (v := ((I a2 14)).toInt64) hx hb dX7_hashSparrow_214 rfl ?_
            refine lv_goto (tgt := 219) hx hb dX7_hashSparrow_215 (by decide) ?_
            cases h
            exact K219 _ _ _ hP hS (lv_sub hl [] rfl)
        have h := hv
        refine lv_if_eq (tgt := 197) hx hb dX7_hashSparrow_182 (by decide) (fun c49 => ?_) (fun c49 => ?_)
        · have h := gif_t c49 h
          refine lv_lconst (v := 0) hx hb dX7_hashSparrow_197 (by decide) ?_
          cases h
          exact K198 _ _ _ hP hS (lv_sub hl [1, 2] rfl)
        · have h := gif_f c49 h
          refine lv_aload_n hx hb dX7_hashSparrow_185 rfl (lv_at hl 0 rfl) ?_
          refine gg7_0 X hP kc_0 (sk_in hN kc_0 (by decide)) hi7 (List.mem_of_getElem? (i := 10) rfl) dX7_hashSparrow_186 ?_
          refine lv_aload_n hx hb dX7_hashSparrow_189 rfl (lv_at hl 2 rfl) ?_
          obtain ⟨q48, hcq48, h⟩ := hb_some h
          refine gdV_i (As := [.ref (b a2)]) (rest := [.ref (b a1)]) (BH := (fun (u : Unit) H => va_P (dC, dI) vwCl (hW N ca b I O J38) H)) X hP hS (c_X3_allowedFeet hN hA I O J38 1 a2 kc_1 hk_a2 q48 hcq48) (cwV 1 X.ts gX7_hashSparrow_X3_allowedFeet rfl rfl rfl (by decide +kernel) ⟨Nat.le_of_ble_eq_true rfl, Nat.le_of_ble_eq_true rfl⟩) (gr3 X hP kc_1 (sk_in hN kc_1 (by decide))) rfl hl.1 rfl (Nat.le_of_ble_eq_true rfl) dX7_hashSparrow_190 ⟨Nat.le_of_ble_eq_true rfl, Nat.le_of_ble_eq_true rfl⟩ (fun r47 u9 H locs hw hP hS => ?_)
          have hw := hw.symm
          subst hw
          refine lv_i2l (v := (r47).toInt64) hx hb dX7_hashSparrow_193 rfl ?_
          refine lv_goto (tgt := 198) hx hb dX7_hashSparrow_194 (by decide) ?_
          cases h
          exact K198 _ _ _ hP hS (lv_sub hl [1, 2] rfl)
      have h := hv
      refine lv_if_eq (tgt := 167) hx hb dX7_hashSparrow_141 (by decide) (fun c55 => ?_) (fun c55 => ?_)
      · have h := gif_t c55 h
        refine lv_lconst (v := 0) hx hb dX7_hashSparrow_167 (by decide) ?_
        cases h
        exact K168 _ _ _ hP hS (lv_sub hl [0, 1, 2, 3] rfl)
      · have h := gif_f c55 h
        refine lv_aload_n hx hb dX7_hashSparrow_144 rfl (lv_at hl 0 rfl) ?_
        refine gg7_0 X hP kc_0 (sk_in hN kc_0 (by decide)) hi7 (List.mem_of_getElem? (i := 10) rfl) dX7_hashSparrow_145 ?_
        refine lv_aload_n hx hb dX7_hashSparrow_148 rfl (lv_at hl 2 rfl) ?_
        refine lv_aload_n hx hb dX7_hashSparrow_149 rfl (lv_at hl 0 rfl) ?_
        refine gg7_0 X hP kc_0 (sk_in hN kc_0 (by decide)) hi7 (List.mem_of_getElem? (i := 10) rfl) dX7_hashSparrow_150 ?_
        refine lv_aload_n hx hb dX7_hashSparrow_153 rfl (lv_at hl 2 rfl) ?_
        obtain ⟨q51, hcq51, h⟩ := hb_some h
        refine gdV_q (As := [.ref (b a2)]) (rest := [.ref (b a2), .ref (b 1), .ref (b a1)]) (BH := (fun (u : Unit) H => va_P (dC, dI) vwCl (hW N ca b I O J31) H)) X hP hS (c_X3_nextAhead hN hA I O J31 1 a2 kc_1 hk_a2 q51 hcq51) (cwV 1 X.ts gX7_hashSparrow_X3_nextAhead rfl rfl rfl (by decide +kernel) ⟨Nat.le_of_ble_eq_true rfl, Nat.le_of_ble_eq_true rfl⟩) (gr3 X hP kc_1 (sk_in hN kc_1 (by decide))) rfl hl.1 rfl (Nat.le_of_ble_eq_true rfl) dX7_hashSparrow_154 ⟨Nat.le_of_ble_eq_true rfl, Nat.le_of_ble_eq_true rfl⟩ (fun r50 u9 H locs hw hP hS => ?_)
        obtain ⟨r50, rfl, hw⟩ := hw
        have hw := hw.symm
        subst hw
        obtain ⟨q53, hcq53, h⟩ := hb_some h
        refine gdV_i (As := [.ref (b a2), va_rf (Option.map b r50)]) (rest := [.ref (b a1)]) (BH := (fun (u : Unit) H => va_P (dC, dI) vwCl (hW N ca b I O J31) H)) X hP hS (c_X3_draftFeet hN hA I O J31 1 a2 r50 kc_1 hk_a2 q53 hcq53) (cwV 2 X.ts gX7_hashSparrow_X3_draftFeet rfl rfl rfl (by decide +kernel) ⟨Nat.le_of_ble_eq_true rfl, Nat.le_of_ble_eq_true rfl⟩) (gr3 X hP kc_1 (sk_in hN kc_1 (by decide))) rfl hl.1 rfl (Nat.le_of_ble_eq_true rfl) dX7_hashSparrow_157 ⟨Nat.le_of_ble_eq_true rfl, Nat.le_of_ble_eq_true rfl⟩ (fun r52 u9 H locs hw hP hS => ?_)
        have hw := hw.symm
        subst hw
        refine lv_if_le (tgt := 167) hx hb dX7_hashSparrow_160 (by decide) (fun c54 => ?_) (fun c54 => ?_)
        · have h := gif_t c54 h
          refine lv_lconst (v := 0) hx hb dX7_hashSparrow_167 (by decide) ?_
          cases h
          exact K168 _ _ _ hP hS (lv_sub hl [0, 1, 2, 3] rfl)
        · have h := gif_f c54 h
          refine lv_lconst (v := 1) hx hb dX7_hashSparrow_163 (by decide) ?_
          refine lv_goto (tgt := 168) hx hb dX7_hashSparrow_164 (by decide) ?_
          cases h
          exact K168 _ _ _ hP hS (lv_sub hl [0, 1, 2, 3] rfl)
    have h := hv
    refine lv_if_eq (tgt := 109) hx hb dX7_hashSparrow_102 (by decide) (fun c56 => ?_) (fun c56 => ?_)
    · have h := gif_t c56 h
      refine lv_lconst (v := 0) hx hb dX7_hashSparrow_109 (by decide) ?_
      cases h
      exact K110 _ _ _ hP hS (lv_sub hl [1, 2, 3, 0] rfl)
    · have h := gif_f c56 h
      refine lv_lconst (v := 1) hx hb dX7_hashSparrow_105 (by decide) ?_
      refine lv_goto (tgt := 110) hx hb dX7_hashSparrow_106 (by decide) ?_
      cases h
      exact K110 _ _ _ hP hS (lv_sub hl [1, 2, 3, 0] rfl)
  have h := hv
  refine lv_icmp_ne (tgt := 12) hx hb dX7_hashSparrow_5 (by decide) (fun c57 => ?_) (fun c57 => ?_)
  · have h := gif_f c57 h
    refine lv_iconst (v := 0) hx hb dX7_hashSparrow_12 (by decide) ?_
    cases h
    exact K13 _ _ _ hP hS (lv_sub hl [0, 1, 2] rfl)
  · have h := gif_t c57 h
    refine lv_iconst (v := 1) hx hb dX7_hashSparrow_8 (by decide) ?_
    refine lv_goto (tgt := 13) hx hb dX7_hashSparrow_9 (by decide) ?_
    cases h
    exact K13 _ _ _ hP hS (lv_sub hl [0, 1, 2] rfl)
def f_X7_hashOrder_L9 (a1 : Nat) (I : Nat → Nat → Int32) (O1 : Nat → Nat → Option Nat) : Nat → Int32 → (Nat → Nat → Int64) → Option (Nat → Nat → Int64)
  | 0, _, _ => none
  | fuel + 1, p3, J4 =>
    if (I 1 3) ≤ p3 then
      some J4
    else
      (f_X3_inOrder 1 p3 I O1).bind fun r6 =>
      (show Option (Nat → Nat → Int64) from
        hopt r6 (
          some J4) fun n10 => hk n10 6 <|
        (f_X0_add a1 (((I n10 0)).toInt64) J4).bind fun J11 =>
        some J11).bind fun J8 =>
      hlet (p3 + 1) fun x9 =>
      f_X7_hashOrder_L9 a1 I O1 fuel x9 J8
def f_X7_hashOrder (a1 : Nat) (I : Nat → Nat → Int32) (O : Nat → Nat → Option Nat) (J : Nat → Nat → Int64) : Option ((Nat → Nat → Option Nat) × (Nat → Nat → Int64)) :=
  (f_X3_putInOrder 1 I O).bind fun O1 =>
  (f_X7_hashOrder_L9 a1 I O1 FU (0 : Int32) J).bind fun J5 =>
  some (O1, J5)
set_option maxHeartbeats 8000000 in
set_option maxRecDepth 100000 in
theorem c_X7_hashOrder {l : Launch} {dC : Nat → ClassId} {dI : Nat → Nat → Nat} {ca : Nat → ClassId} {b : Nat → Nat} {A : Nat → Prop} {N : Nat} (hN : 129 ≤ N) (hA : gAd A b N) (I : Nat → Nat → Int32) (O : Nat → Nat → Option Nat) (J : Nat → Nat → Int64) (a1 : Nat) (hk_a1 : SHK a1 = 0) (hn_a1 : a1 < N) (res : (Nat → Nat → Option Nat) × (Nat → Nat → Int64)) (h : f_X7_hashOrder a1 I O J = some res) : Met l yX7_hashOrder wsX7_hashOrder ({ frames := 3, cells := 0, slots := 0, locals := 72 } : Room) (va_Pc [.ref (b 0), .ref (b a1)] (gPre dC dI ca b A N I O J)) (va_Qv (fun (u : (Nat → Nat → Option Nat) × (Nat → Nat → Int64)) => res = u) (fun (u : (Nat → Nat → Option Nat) × (Nat → Nat → Int64)) t => va_P (dC, dI) vwCl (hW N ca b I u.1 u.2) t.heap) A) 0 0 A := by
  refine Met.ofW (cc := cX7_hashOrder) (maxL := 4) (ret := none) (by decide) rfl ?_
  intro p e s m args below meth c s₁ B hml hv
  obtain ⟨rfl, hP, hK, hA2, hth⟩ := hv
  have hx := B.exec
  have hb := B.bytes
  have hr := B.returns
  have hlk := B.notSynchronized
  have X : gCx p s m ([.ref (b 0), .ref (b a1)] : List Value).toArray c RX7 cX7_hashOrder wsX7_hashOrder 4 dC dI ca b A N := ⟨hx, hb, hml, findClass_of_methodNamed B.named, atoms_spec (ws := wsX7_hashOrder) B.pre, hK, hA, hA2, hth⟩
  have hi3 : ∀ w ∈ wsX30, w ∈ wsX7_hashOrder := (fun w h => List.mem_cons_of_mem _ (List.mem_append_left _ (List.mem_append_left _ (List.mem_append_right _ h))))
  have hi6 : ∀ w ∈ wsX60, w ∈ wsX7_hashOrder := (fun w h => List.mem_cons_of_mem _ (List.mem_append_left _ (List.mem_append_right _ h)))
  have hi7 : ∀ w ∈ wsX70, w ∈ wsX7_hashOrder := (fun w h => List.mem_cons_of_mem _ (List.mem_append_left _ (List.mem_append_left _ (List.mem_append_left _ (List.mem_append_right _ h)))))
  have hS : va_S A s.heap s.heap [] := va_S.rf
  have hl := lv_entry ([.ref (b 0), .ref (b a1)] : List Value) (n := 4) (Nat.le_of_ble_eq_true rfl)
  rw [lg_entry_eq]
  generalize (lg_sl ([.ref (b 0), .ref (b a1)] : List Value) ++ List.replicate (4 - (lg_sl ([.ref (b 0), .ref (b a1)] : List Value)).length) Slot.unset).toArray = ls at hl ⊢
  have hl : lv_has ls 4 [(0, .ref (b 0)), (1, .ref (b a1))] := hl
  unfold f_X7_hashOrder at h
  refine lv_aload_n hx hb dX7_hashOrder_0 rfl (lv_at hl 0 rfl) ?_
  refine gg7_0 X hP kc_0 (sk_in hN kc_0 (by decide)) hi7 (List.mem_of_getElem? (i := 1) rfl) dX7_hashOrder_1 ?_
  obtain ⟨q2, hcq2, h⟩ := hb_some h
  refine gdV_v (As := []) (rest := []) (BH := (fun (u : Nat → Nat → Option Nat) H => va_P (dC, dI) vwCl (hW N ca b I u J) H)) X hP hS (c_X3_putInOrder hN hA I O J 1 kc_1 q2 hcq2) (cwV 0 X.ts gX7_hashOrder_X3_putInOrder rfl rfl rfl (by decide +kernel) ⟨Nat.le_of_ble_eq_true rfl, Nat.le_of_ble_eq_true rfl⟩) (gr3 X hP kc_1 (sk_in hN kc_1 (by decide))) rfl hl.1 rfl (Nat.le_of_ble_eq_true rfl) dX7_hashOrder_4 ⟨Nat.le_of_ble_eq_true rfl, Nat.le_of_ble_eq_true rfl⟩ (fun O1 H locs hw hP hS => ?_)
  have hw := hw.symm
  subst hw
  refine lv_iconst (v := 0) hx hb dX7_hashOrder_7 (by decide) ?_
  refine lv_istore_n (lv' := [(2, .int (0 : Int32)), (0, .ref (b 0)), (1, .ref (b a1))]) hx hb dX7_hashOrder_8 rfl hl (by decide) rfl (fun ls hl => ?_)
  obtain ⟨J5, hv, h⟩ := hb_some h
  have K48 : ∀ (H : Heap) (locs : List Loc) (ls : Array Slot), va_P (dC, dI) vwCl (hW N ca b I O1 J5) H → va_S A s.heap H locs → lv_has ls 4 [] → W p l e (headSpec wsX7_hashOrder ({ frames := 3, cells := 0, slots := 0, locals := 72 } : Room)).room s m ([.ref (b 0), .ref (b a1)] : List Value).toArray below meth c H locs 0 0 (MQ below (va_Qv (fun (u : (Nat → Nat → Option Nat) × (Nat → Nat → Int64)) => res = u) (fun (u : (Nat → Nat → Option Nat) × (Nat → Nat → Int64)) t => va_P (dC, dI) vwCl (hW N ca b I u.1 u.2) t.heap) A) ([.ref (b 0), .ref (b a1)] : List Value).toArray s 0 0 A) (F0 m 48 ls []) := by
    intro H locs ls hP hS hl
    exact W.vret hx hb hr (fun t9 ht hW => ⟨⟨(O1, J5), rfl, (Option.some.inj h).symm, gEnd ht hP⟩, hS.F ht⟩) hS.2.2 dX7_hashOrder_48 hlk
  have hL9 : ∀ (fuel : Nat) (p3 : Int32) (J4 : Nat → Nat → Int64) (H : Heap) (locs : List Loc) (ls : Array Slot), f_X7_hashOrder_L9 a1 I O1 fuel p3 J4 = some J5 → va_P (dC, dI) vwCl (hW N ca b I O1 J4) H → va_S A s.heap H locs → lv_has ls 4 [(0, .ref (b 0)), (1, .ref (b a1)), (2, .int p3)] → W p l e (headSpec wsX7_hashOrder ({ frames := 3, cells := 0, slots := 0, locals := 72 } : Room)).room s m ([.ref (b 0), .ref (b a1)] : List Value).toArray below meth c H locs 0 0 (MQ below (va_Qv (fun (u : (Nat → Nat → Option Nat) × (Nat → Nat → Int64)) => res = u) (fun (u : (Nat → Nat → Option Nat) × (Nat → Nat → Int64)) t => va_P (dC, dI) vwCl (hW N ca b I u.1 u.2) t.heap) A) ([.ref (b 0), .ref (b a1)] : List Value).toArray s 0 0 A) (F0 m 9 ls []) := by
    intro fuel
    induction fuel with
    | zero =>
      intro p3 J4 H locs ls h hP hS hl
      rw [f_X7_hashOrder_L9] at h
      cases h
    | succ fuel ih =>
      intro p3 J4 H locs ls h hP hS hl
      rw [f_X7_hashOrder_L9] at h
      refine lv_iload_n hx hb dX7_hashOrder_9 rfl (lv_at hl 2 rfl) ?_
      refine lv_aload_n hx hb dX7_hashOrder_10 rfl (lv_at hl 0 rfl) ?_
      refine gg7_0 X hP kc_0 (sk_in hN kc_0 (by decide)) hi7 (List.mem_of_getElem? (i := 1) rfl) dX7_hashOrder_11 ?_
      refine gg3_3 X hP kc_1 (sk_in hN kc_1 (by decide)) hi3 (List.mem_of_getElem? (i := 2) rfl) dX7_hashOrder_14 ?_
      refine lv_icmp_ge (tgt := 48) hx hb dX7_hashOrder_17 (by decide) (fun c13 => ?_) (fun c13 => ?_)
      · have h := gif_t c13 h
        cases h
        exact K48 _ _ _ hP hS (lv_sub hl [] rfl)
      · have h := gif_f c13 h
        refine lv_aload_n hx hb dX7_hashOrder_20 rfl (lv_at hl 0 rfl) ?_
        refine gg7_0 X hP kc_0 (sk_in hN kc_0 (by decide)) hi7 (List.mem_of_getElem? (i := 1) rfl) dX7_hashOrder_21 ?_
        refine lv_iload_n hx hb dX7_hashOrder_24 rfl (lv_at hl 2 rfl) ?_
        obtain ⟨q7, hcq7, h⟩ := hb_some h
        refine gdV_q (As := [.int p3]) (rest := []) (BH := (fun (u : Unit) H => va_P (dC, dI) vwCl (hW N ca b I O1 J4) H)) X hP hS (c_X3_inOrder hN hA I O1 J4 1 p3 kc_1 q7 hcq7) (cwV 1 X.ts gX7_hashOrder_X3_inOrder rfl rfl rfl (by decide +kernel) ⟨Nat.le_of_ble_eq_true rfl, Nat.le_of_ble_eq_true rfl⟩) (gr3 X hP kc_1 (sk_in hN kc_1 (by decide))) rfl hl.1 rfl (Nat.le_of_ble_eq_true rfl) dX7_hashOrder_25 ⟨Nat.le_of_ble_eq_true rfl, Nat.le_of_ble_eq_true rfl⟩ (fun r6 u9 H locs hw hP hS => ?_)
        obtain ⟨r6, rfl, hw⟩ := hw
        have hw := hw.symm
        subst hw
        refine gv_astore_n (r := Option.map b r6) (lv' := [(3, va_rf (Option.map b r6)), (0, .ref (b 0)), (1, .ref (b a1)), (2, .int p3)]) hx hb dX7_hashOrder_28 rfl hl (by decide) rfl (fun ls hl => ?_)
        refine gv_aload_n (r := Option.map b r6) hx hb dX7_hashOrder_29 rfl (lv_at hl 0 rfl) ?_
        obtain ⟨J8, hv, h⟩ := hb_some h
        have K42 : ∀ (H : Heap) (locs : List Loc) (ls : Array Slot), va_P (dC, dI) vwCl (hW N ca b I O1 J8) H → va_S A s.heap H locs → lv_has ls 4 [(0, .ref (b 0)), (1, .ref (b a1)), (2, .int p3)] → W p l e (headSpec wsX7_hashOrder ({ frames := 3, cells := 0, slots := 0, locals := 72 } : Room)).room s m ([.ref (b 0), .ref (b a1)] : List Value).toArray below meth c H locs 0 0 (MQ below (va_Qv (fun (u : (Nat → Nat → Option Nat) × (Nat → Nat → Int64)) => res = u) (fun (u : (Nat → Nat → Option Nat) × (Nat → Nat → Int64)) t => va_P (dC, dI) vwCl (hW N ca b I u.1 u.2) t.heap) A) ([.ref (b 0), .ref (b a1)] : List Value).toArray s 0 0 A) (F0 m 42 ls []) := by
          intro H locs ls hP hS hl
          obtain ⟨x9, ex9, h⟩ := hlet_ex h
          refine lv_iinc (v := x9) (lv' := [(2, .int x9), (0, .ref (b 0)), (1, .ref (b a1))]) hx hb dX7_hashOrder_42 hl (k := 2) rfl (by rw [ex9]; rfl) (by decide) rfl (fun ls hl => ?_)
          refine lv_goto (tgt := 9) hx hb dX7_hashOrder_45 (by decide) ?_
          exact ih _ _ _ _ _ h hP hS (lv_sub hl [1, 2, 0] rfl)
        have h := hv
        cases r6 with
        | none =>
          have h := hopt_n h
          refine lv_ifnullN (tgt := 42) hx hb dX7_hashOrder_30 (by decide) ?_
          cases h
          exact K42 _ _ _ hP hS (lv_sub hl [1, 2, 3] rfl)
        | some n10 =>
          obtain ⟨hk_n10, h⟩ := hk_some (hopt_s h)
          refine lv_ifnull hx hb dX7_hashOrder_30 ?_
          refine lv_aload_n hx hb dX7_hashOrder_33 rfl (lv_at hl 2 rfl) ?_
          refine lv_aload_n hx hb dX7_hashOrder_34 rfl (lv_at hl 0 rfl) ?_
          refine gg6_0 X hP hk_n10 (sk_in hN hk_n10 (by decide)) hi6 (List.mem_of_getElem? (i := 3) rfl) dX7_hashOrder_35 ?_
          refine lv_i2l (v := ((I n10 0)).toInt64) hx hb dX7_hashOrder_38 rfl ?_
          obtain ⟨q12, hcq12, h⟩ := hb_some h
          refine gdV_v (As := [.long (((I n10 0)).toInt64)]) (rest := []) (BH := (fun (u : Nat → Nat → Int64) H => va_P (dC, dI) vwCl (hW N ca b I O1 u) H)) X hP hS (c_X0_add hN hA I O1 J4 a1 (((I n10 0)).toInt64) hk_a1 hn_a1 q12 hcq12) (cwV 1 X.ts gX7_hashOrder_X0_add rfl rfl rfl (by decide +kernel) ⟨Nat.le_of_ble_eq_true rfl, Nat.le_of_ble_eq_true rfl⟩) (gr0 X hP hk_a1 hn_a1) rfl hl.1 rfl (Nat.le_of_ble_eq_true rfl) dX7_hashOrder_39 ⟨Nat.le_of_ble_eq_true rfl, Nat.le_of_ble_eq_true rfl⟩ (fun J11 H locs hw hP hS => ?_)
          have hw := hw.symm
          subst hw
          cases h
          exact K42 _ _ _ hP hS (lv_sub hl [1, 2, 3] rfl)
  exact hL9 FU _ _ _ _ _ hv hP hS (lv_sub hl [1, 2, 0] rfl)
def f_X7_bitsOf_L54 : Nat → UInt64 → Int64 → Int32 → Option (UInt64 × Int64)
  | 0, _, _, _ => none
  | fuel + 1, p6, p7, p8 =>
    if (64 : Int32) ≤ p8 then
      some (p6, p7)
    else
      if 0 ≤ (Op.cmpValue (FP.dcmp p6 FP.dconst1) .g) then
        some (p6, p7)
      else
        hg (gnn (FP.dmul p6 (4611686018427387904 : UInt64))) <|
        hlet (p8 + 1) fun x11 =>
        f_X7_bitsOf_L54 fuel (FP.dmul p6 (4611686018427387904 : UInt64)) (p7 - (1 : Int64)) x11
def f_X7_bitsOf_L18 : Nat → UInt64 → Int64 → Int32 → Option (UInt64 × Int64)
  | 0, _, _, _ => none
  | fuel + 1, p1, p2, p3 =>
    if (64 : Int32) ≤ p3 then
      some (p1, p2)
    else
      if (Op.cmpValue (FP.dcmp p1 (4611686018427387904 : UInt64)) .l) < 0 then
        some (p1, p2)
      else
        hg (gnn (FP.ddiv p1 (4611686018427387904 : UInt64))) <|
        hlet (p3 + 1) fun x14 =>
        f_X7_bitsOf_L18 fuel (FP.ddiv p1 (4611686018427387904 : UInt64)) (p2 + (1 : Int64)) x14
def f_X7_bitsOf (a0 : UInt64) : Option (Int64) :=
  if 0 < (Op.cmpValue (FP.dcmp a0 FP.dconst0) .g) then
    (f_X7_bitsOf_L18  FU a0 (1023 : Int64) (0 : Int32)).bind fun (p4, p5) =>
    (f_X7_bitsOf_L54  FU p4 p5 (0 : Int32)).bind fun (p9, p10) =>
    hg (gnn (FP.dsub p9 FP.dconst1)) <|
    hg (gnn (FP.dmul (FP.dsub p9 FP.dconst1) (4841369599423283200 : UInt64))) <|
    some ((p10 <<< ((52 : Int32).toInt64 &&& 63)) + (FP.d2l (FP.dmul (FP.dsub p9 FP.dconst1) (4841369599423283200 : UInt64))))
  else
    some (0 : Int64)
set_option maxHeartbeats 8000000 in
set_option maxRecDepth 100000 in
theorem c_X7_bitsOf {l : Launch} {dC : Nat → ClassId} {dI : Nat → Nat → Nat} {ca : Nat → ClassId} {b : Nat → Nat} {A : Nat → Prop} {N : Nat} (hN : 129 ≤ N) (hA : gAd A b N) (I : Nat → Nat → Int32) (O : Nat → Nat → Option Nat) (J : Nat → Nat → Int64) (a0 : UInt64) (res : Int64) (h : f_X7_bitsOf a0 = some res) : Met l yX7_bitsOf wsX7_bitsOf ({ frames := 0, cells := 0, slots := 0, locals := 0 } : Room) (va_Pc [.double a0] (gPre dC dI ca b A N I O J)) (va_Ql (fun (r : Int64) (u : Unit) => res = r) (fun (u : Unit) t => va_P (dC, dI) vwCl (hW N ca b I O J) t.heap) A) 0 0 A := by
  refine Met.ofW (cc := cX7_bitsOf) (maxL := 7) (ret := (some .long)) (by decide) rfl ?_
  intro p e s m args below meth c s₁ B hml hv
  obtain ⟨rfl, hP, hK, hA2, hth⟩ := hv
  have hx := B.exec
  have hb := B.bytes
  have hr := B.returns
  have hlk := B.notSynchronized
  have X : gCx p s m ([.double a0] : List Value).toArray c RX7 cX7_bitsOf wsX7_bitsOf 7 dC dI ca b A N := ⟨hx, hb, hml, findClass_of_methodNamed B.named, atoms_spec (ws := wsX7_bitsOf) B.pre, hK, hA, hA2, hth⟩
  have hS : va_S A s.heap s.heap [] := va_S.rf
  have hl := lv_entry ([.double a0] : List Value) (n := 7) (Nat.le_of_ble_eq_true rfl)
  rw [lg_entry_eq]
  generalize (lg_sl ([.double a0] : List Value) ++ List.replicate (7 - (lg_sl ([.double a0] : List Value)).length) Slot.unset).toArray = ls at hl ⊢
  have hl : lv_has ls 7 [(0, .double a0)] := hl
  unfold f_X7_bitsOf at h
  refine lv_dload_n hx hb dX7_bitsOf_0 rfl (lv_at hl 0 rfl) ?_
  refine lv_dconst0 hx hb dX7_bitsOf_1 ?_
  refine lv_dcmp hx hb dX7_bitsOf_2 ?_
  refine lv_if_gt (tgt := 8) hx hb dX7_bitsOf_3 (by decide) (fun c17 => ?_) (fun c17 => ?_)
  · have h := gif_t c17 h
    refine lv_dload_n hx hb dX7_bitsOf_8 rfl (lv_at hl 0 rfl) ?_
    refine lv_dstore_n (lv' := [(2, .double a0), (0, .double a0)]) hx hb dX7_bitsOf_9 rfl hl (by decide) rfl (fun ls hl => ?_)
    refine lv_ldc2 (v := 1023) hx hb X.ow (X.ts _ (List.mem_of_getElem? (i := 1) rfl)) dX7_bitsOf_10 ?_
    refine lv_lstore (lv' := [(4, .long (1023 : Int64)), (2, .double a0), (0, .double a0)]) hx hb dX7_bitsOf_13 hl (by decide) rfl (fun ls hl => ?_)
    refine lv_iconst (v := 0) hx hb dX7_bitsOf_15 (by decide) ?_
    refine lv_istore (lv' := [(6, .int (0 : Int32)), (4, .long (1023 : Int64)), (2, .double a0), (0, .double a0)]) hx hb dX7_bitsOf_16 hl (by decide) rfl (fun ls hl => ?_)
    obtain ⟨⟨p4, p5⟩, hv, h⟩ := hb_some h
    have K51 : ∀ (H : Heap) (locs : List Loc) (ls : Array Slot), va_P (dC, dI) vwCl (hW N ca b I O J) H → va_S A s.heap H locs → lv_has ls 7 [(2, .double p4), (4, .long p5)] → W p l e (headSpec wsX7_bitsOf ({ frames := 0, cells := 0, slots := 0, locals := 0 } : Room)).room s m ([.double a0] : List Value).toArray below meth c H locs 0 0 (MQ below (va_Ql (fun (r : Int64) (u : Unit) => res = r) (fun (u : Unit) t => va_P (dC, dI) vwCl (hW N ca b I O J) t.heap) A) ([.double a0] : List Value).toArray s 0 0 A) (F0 m 51 ls []) := by
      intro H locs ls hP hS hl
      refine lv_iconst (v := 0) hx hb dX7_bitsOf_51 (by decide) ?_
      refine lv_istore (lv' := [(6, .int (0 : Int32)), (2, .double p4), (4, .long p5)]) hx hb dX7_bitsOf_52 hl (by decide) rfl (fun ls hl => ?_)
      obtain ⟨⟨p9, p10⟩, hv, h⟩ := hb_some h
      have K85 : ∀ (H : Heap) (locs : List Loc) (ls : Array Slot), va_P (dC, dI) vwCl (hW N ca b I O J) H → va_S A s.heap H locs → lv_has ls 7 [(2, .double p9), (4, .long p10)] → W p l e (headSpec wsX7_bitsOf ({ frames := 0, cells := 0, slots := 0, locals := 0 } : Room)).room s m ([.double a0] : List Value).toArray below meth c H locs 0 0 (MQ below (va_Ql (fun (r : Int64) (u : Unit) => res = r) (fun (u : Unit) t => va_P (dC, dI) vwCl (hW N ca b I O J) t.heap) A) ([.double a0] : List Value).toArray s 0 0 A) (F0 m 85 ls []) := by
        intro H locs ls hP hS hl
        refine lv_lload hx hb dX7_bitsOf_85 (lv_at hl 1 rfl) ?_
        refine lv_bipush (v := 52) hx hb dX7_bitsOf_87 (by decide) ?_
        refine lv_lshl (v := (p10 <<< ((52 : Int32).toInt64 &&& 63))) hx hb dX7_bitsOf_89 rfl ?_
        refine lv_dload_n hx hb dX7_bitsOf_90 rfl (lv_at hl 0 rfl) ?_
        refine lv_dconst1 hx hb dX7_bitsOf_91 ?_
        obtain ⟨hgn, h⟩ := hg_some h
        refine lv_dsub hx hb dX7_bitsOf_92 (gnn_of hgn) ?_
        refine lv_ldc2d (v := 4841369599423283200) hx hb X.ow (X.ts _ (List.mem_of_getElem? (i := 3) rfl)) dX7_bitsOf_93 ?_
        obtain ⟨hgn, h⟩ := hg_some h
        refine lv_dmul hx hb dX7_bitsOf_96 (gnn_of hgn) ?_
        refine lv_d2l hx hb dX7_bitsOf_97 ?_
        refine lv_ladd hx hb dX7_bitsOf_98 ?_
        exact W.lret hx hb hr (fun t9 ht hW => ⟨⟨((p10 <<< ((52 : Int32).toInt64 &&& 63)) + (FP.d2l (FP.dmul (FP.dsub p9 FP.dconst1) (4841369599423283200 : UInt64)))), (), rfl, (Option.some.inj h).symm, gEnd ht hP⟩, hS.F ht⟩) hS.2.2 dX7_bitsOf_99 hlk
      have hL54 : ∀ (fuel : Nat) (p6 : UInt64) (p7 : Int64) (p8 : Int32) (H : Heap) (locs : List Loc) (ls : Array Slot), f_X7_bitsOf_L54  fuel p6 p7 p8 = some (p9, p10) → va_P (dC, dI) vwCl (hW N ca b I O J) H → va_S A s.heap H locs → lv_has ls 7 [(2, .double p6), (4, .long p7), (6, .int p8)] → W p l e (headSpec wsX7_bitsOf ({ frames := 0, cells := 0, slots := 0, locals := 0 } : Room)).room s m ([.double a0] : List Value).toArray below meth c H locs 0 0 (MQ below (va_Ql (fun (r : Int64) (u : Unit) => res = r) (fun (u : Unit) t => va_P (dC, dI) vwCl (hW N ca b I O J) t.heap) A) ([.double a0] : List Value).toArray s 0 0 A) (F0 m 54 ls []) := by
        intro fuel
        induction fuel with
        | zero =>
          intro p6 p7 p8 H locs ls h hP hS hl
          rw [f_X7_bitsOf_L54] at h
          cases h
        | succ fuel ih =>
          intro p6 p7 p8 H locs ls h hP hS hl
          rw [f_X7_bitsOf_L54] at h
          refine lv_iload hx hb dX7_bitsOf_54 (lv_at hl 2 rfl) ?_
          refine lv_bipush (v := 64) hx hb dX7_bitsOf_56 (by decide) ?_
          refine lv_icmp_ge (tgt := 85) hx hb dX7_bitsOf_58 (by decide) (fun c13 => ?_) (fun c13 => ?_)
          · have h := gif_t c13 h
            cases h
            exact K85 _ _ _ hP hS (lv_sub hl [0, 1] rfl)
          · have h := gif_f c13 h
            refine lv_dload_n hx hb dX7_bitsOf_61 rfl (lv_at hl 0 rfl) ?_
            refine lv_dconst1 hx hb dX7_bitsOf_62 ?_
            refine lv_dcmp hx hb dX7_bitsOf_63 ?_
            refine lv_if_ge (tgt := 85) hx hb dX7_bitsOf_64 (by decide) (fun c12 => ?_) (fun c12 => ?_)
            · have h := gif_t c12 h
              cases h
              exact K85 _ _ _ hP hS (lv_sub hl [0, 1] rfl)
            · have h := gif_f c12 h
              refine lv_dload_n hx hb dX7_bitsOf_67 rfl (lv_at hl 0 rfl) ?_
              refine lv_ldc2d (v := 4611686018427387904) hx hb X.ow (X.ts _ (List.mem_of_getElem? (i := 2) rfl)) dX7_bitsOf_68 ?_
              obtain ⟨hgn, h⟩ := hg_some h
              refine lv_dmul hx hb dX7_bitsOf_71 (gnn_of hgn) ?_
              refine lv_dstore_n (lv' := [(2, .double (FP.dmul p6 (4611686018427387904 : UInt64))), (4, .long p7), (6, .int p8)]) hx hb dX7_bitsOf_72 rfl hl (by decide) rfl (fun ls hl => ?_)
              refine lv_lload hx hb dX7_bitsOf_73 (lv_at hl 1 rfl) ?_
              refine lv_lconst (v := 1) hx hb dX7_bitsOf_75 (by decide) ?_
              refine lv_lsub hx hb dX7_bitsOf_76 ?_
              refine lv_lstore (lv' := [(4, .long (p7 - (1 : Int64))), (2, .double (FP.dmul p6 (4611686018427387904 : UInt64))), (6, .int p8)]) hx hb dX7_bitsOf_77 hl (by decide) rfl (fun ls hl => ?_)
              obtain ⟨x11, ex11, h⟩ := hlet_ex h
              refine lv_iinc (v := x11) (lv' := [(6, .int x11), (4, .long (p7 - (1 : Int64))), (2, .double (FP.dmul p6 (4611686018427387904 : UInt64)))]) hx hb dX7_bitsOf_79 hl (k := 2) rfl (by rw [ex11]; rfl) (by decide) rfl (fun ls hl => ?_)
              refine lv_goto (tgt := 54) hx hb dX7_bitsOf_82 (by decide) ?_
              exact ih _ _ _ _ _ _ h hP hS (lv_sub hl [2, 1, 0] rfl)
      exact hL54 FU _ _ _ _ _ _ hv hP hS (lv_sub hl [1, 2, 0] rfl)
    have hL18 : ∀ (fuel : Nat) (p1 : UInt64) (p2 : Int64) (p3 : Int32) (H : Heap) (locs : List Loc) (ls : Array Slot), f_X7_bitsOf_L18  fuel p1 p2 p3 = some (p4, p5) → va_P (dC, dI) vwCl (hW N ca b I O J) H → va_S A s.heap H locs → lv_has ls 7 [(2, .double p1), (4, .long p2), (6, .int p3)] → W p l e (headSpec wsX7_bitsOf ({ frames := 0, cells := 0, slots := 0, locals := 0 } : Room)).room s m ([.double a0] : List Value).toArray below meth c H locs 0 0 (MQ below (va_Ql (fun (r : Int64) (u : Unit) => res = r) (fun (u : Unit) t => va_P (dC, dI) vwCl (hW N ca b I O J) t.heap) A) ([.double a0] : List Value).toArray s 0 0 A) (F0 m 18 ls []) := by
      intro fuel
      induction fuel with
      | zero =>
        intro p1 p2 p3 H locs ls h hP hS hl
        rw [f_X7_bitsOf_L18] at h
        cases h
      | succ fuel ih =>
        intro p1 p2 p3 H locs ls h hP hS hl
        rw [f_X7_bitsOf_L18] at h
        refine lv_iload hx hb dX7_bitsOf_18 (lv_at hl 2 rfl) ?_
        refine lv_bipush (v := 64) hx hb dX7_bitsOf_20 (by decide) ?_
        refine lv_icmp_ge (tgt := 51) hx hb dX7_bitsOf_22 (by decide) (fun c16 => ?_) (fun c16 => ?_)
        · have h := gif_t c16 h
          cases h
          exact K51 _ _ _ hP hS (lv_sub hl [0, 1] rfl)
        · have h := gif_f c16 h
          refine lv_dload_n hx hb dX7_bitsOf_25 rfl (lv_at hl 0 rfl) ?_
          refine lv_ldc2d (v := 4611686018427387904) hx hb X.ow (X.ts _ (List.mem_of_getElem? (i := 2) rfl)) dX7_bitsOf_26 ?_
          refine lv_dcmp hx hb dX7_bitsOf_29 ?_
          refine lv_if_lt (tgt := 51) hx hb dX7_bitsOf_30 (by decide) (fun c15 => ?_) (fun c15 => ?_)
          · have h := gif_t c15 h
            cases h
            exact K51 _ _ _ hP hS (lv_sub hl [0, 1] rfl)
          · have h := gif_f c15 h
            refine lv_dload_n hx hb dX7_bitsOf_33 rfl (lv_at hl 0 rfl) ?_
            refine lv_ldc2d (v := 4611686018427387904) hx hb X.ow (X.ts _ (List.mem_of_getElem? (i := 2) rfl)) dX7_bitsOf_34 ?_
            obtain ⟨hgn, h⟩ := hg_some h
            refine lv_ddiv hx hb dX7_bitsOf_37 (gnn_of hgn) ?_
            refine lv_dstore_n (lv' := [(2, .double (FP.ddiv p1 (4611686018427387904 : UInt64))), (4, .long p2), (6, .int p3)]) hx hb dX7_bitsOf_38 rfl hl (by decide) rfl (fun ls hl => ?_)
            refine lv_lload hx hb dX7_bitsOf_39 (lv_at hl 1 rfl) ?_
            refine lv_lconst (v := 1) hx hb dX7_bitsOf_41 (by decide) ?_
            refine lv_ladd hx hb dX7_bitsOf_42 ?_
            refine lv_lstore (lv' := [(4, .long (p2 + (1 : Int64))), (2, .double (FP.ddiv p1 (4611686018427387904 : UInt64))), (6, .int p3)]) hx hb dX7_bitsOf_43 hl (by decide) rfl (fun ls hl => ?_)
            obtain ⟨x14, ex14, h⟩ := hlet_ex h
            refine lv_iinc (v := x14) (lv' := [(6, .int x14), (4, .long (p2 + (1 : Int64))), (2, .double (FP.ddiv p1 (4611686018427387904 : UInt64)))]) hx hb dX7_bitsOf_45 hl (k := 2) rfl (by rw [ex14]; rfl) (by decide) rfl (fun ls hl => ?_)
            refine lv_goto (tgt := 18) hx hb dX7_bitsOf_48 (by decide) ?_
            exact ih _ _ _ _ _ _ h hP hS (lv_sub hl [2, 1, 0] rfl)
    exact hL18 FU _ _ _ _ _ _ hv hP hS (lv_sub hl [2, 1, 0] rfl)
  · have h := gif_f c17 h
    refine lv_lconst (v := 0) hx hb dX7_bitsOf_6 (by decide) ?_
    exact W.lret hx hb hr (fun t9 ht hW => ⟨⟨(0 : Int64), (), rfl, (Option.some.inj h).symm, gEnd ht hP⟩, hS.F ht⟩) hS.2.2 dX7_bitsOf_7 hlk
def f_X7_hashAccounts_L45 (a1 : Nat) (I : Nat → Nat → Int32) : Nat → Int32 → (Nat → Nat → Int64) → Option (Nat → Nat → Int64)
  | 0, _, _ => none
  | fuel + 1, p8, J9 =>
    if (I 1 7) ≤ p8 then
      some J9
    else
      (f_X3_arrivedAs 1 p8 I).bind fun r35 =>
      (show Option (Nat → Nat → Int64) from
        hopt r35 (
          some J9) fun n39 => hk n39 6 <|
        (f_X0_add a1 (((I n39 0)).toInt64) J9).bind fun J40 =>
        some J40).bind fun J37 =>
      hlet (p8 + 1) fun x38 =>
      f_X7_hashAccounts_L45 a1 I fuel x38 J37
def f_X7_hashAccounts (a1 : Nat) (I : Nat → Nat → Int32) (J : Nat → Nat → Int64) : Option (Nat → Nat → Int64) :=
  (show Option (Int64) from
    if (I 1 5) = 0 then
      some (0 : Int64)
    else
      some (1 : Int64)).bind fun p1 =>
  (f_X0_add a1 p1 J).bind fun J2 =>
  (f_X0_add a1 (((I 1 6)).toInt64) J2).bind fun J4 =>
  (f_X0_add a1 (((I 1 7)).toInt64) J4).bind fun J6 =>
  (f_X7_hashAccounts_L45 a1 I FU (0 : Int32) J6).bind fun J10 =>
  (f_X3_sumFlown 1 I).bind fun r11 =>
  (f_X0_add a1 ((r11).toInt64) J10).bind fun J13 =>
  (f_X0_add a1 (((I 1 8)).toInt64) J13).bind fun J15 =>
  (f_X0_add a1 (((I 1 9)).toInt64) J15).bind fun J17 =>
  (f_X0_add a1 (((I 1 10)).toInt64) J17).bind fun J19 =>
  (f_X0_add a1 (((I 1 11)).toInt64) J19).bind fun J21 =>
  (f_X0_add a1 (((I 1 12)).toInt64) J21).bind fun J23 =>
  (f_X0_add a1 (((I 1 13)).toInt64) J23).bind fun J25 =>
  (f_X0_add a1 (((I 25 1)).toInt64) J25).bind fun J27 =>
  (f_X7_meanFlown I).bind fun r29 =>
  (f_X7_bitsOf r29).bind fun r31 =>
  (f_X0_add a1 r31 J27).bind fun J33 =>
  some J33
set_option maxHeartbeats 8000000 in
set_option maxRecDepth 100000 in
theorem c_X7_hashAccounts {l : Launch} {dC : Nat → ClassId} {dI : Nat → Nat → Nat} {ca : Nat → ClassId} {b : Nat → Nat} {A : Nat → Prop} {N : Nat} (hN : 129 ≤ N) (hA : gAd A b N) (I : Nat → Nat → Int32) (O : Nat → Nat → Option Nat) (J : Nat → Nat → Int64) (a1 : Nat) (hk_a1 : SHK a1 = 0) (hn_a1 : a1 < N) (res : Nat → Nat → Int64) (h : f_X7_hashAccounts a1 I J = some res) : Met l yX7_hashAccounts wsX7_hashAccounts ({ frames := 3, cells := 0, slots := 0, locals := 66 } : Room) (va_Pc [.ref (b 0), .ref (b a1)] (gPre dC dI ca b A N I O J)) (va_Qv (fun (u : Nat → Nat → Int64) => res = u) (fun (u : Nat → Nat → Int64) t => va_P (dC, dI) vwCl (hW N ca b I O u) t.heap) A) 0 0 A := by
  refine Met.ofW (cc := cX7_hashAccounts) (maxL := 4) (ret := none) (by decide) rfl ?_
  intro p e s m args below meth c s₁ B hml hv
  obtain ⟨rfl, hP, hK, hA2, hth⟩ := hv
  have hx := B.exec
  have hb := B.bytes
  have hr := B.returns
  have hlk := B.notSynchronized
  have X : gCx p s m ([.ref (b 0), .ref (b a1)] : List Value).toArray c RX7 cX7_hashAccounts wsX7_hashAccounts 4 dC dI ca b A N := ⟨hx, hb, hml, findClass_of_methodNamed B.named, atoms_spec (ws := wsX7_hashAccounts) B.pre, hK, hA, hA2, hth⟩
  have hi3 : ∀ w ∈ wsX30, w ∈ wsX7_hashAccounts := (fun w h => List.mem_cons_of_mem _ (List.mem_append_left _ (List.mem_append_left _ (List.mem_append_left _ (List.mem_append_right _ h)))))
  have hi4 : ∀ w ∈ wsX40, w ∈ wsX7_hashAccounts := (fun w h => List.mem_cons_of_mem _ (List.mem_append_left _ (List.mem_append_right _ h)))
  have hi6 : ∀ w ∈ wsX60, w ∈ wsX7_hashAccounts := (fun w h => List.mem_cons_of_mem _ (List.mem_append_left _ (List.mem_append_left _ (List.mem_append_right _ h))))
  have hi7 : ∀ w ∈ wsX70, w ∈ wsX7_hashAccounts := (fun w h => List.mem_cons_of_mem _ (List.mem_append_left _ (List.mem_append_left _ (List.mem_append_left _ (List.mem_append_left _ (List.mem_append_right _ h))))))
  have hS : va_S A s.heap s.heap [] := va_S.rf
  have hl := lv_entry ([.ref (b 0), .ref (b a1)] : List Value) (n := 4) (Nat.le_of_ble_eq_true rfl)
  rw [lg_entry_eq]
  generalize (lg_sl ([.ref (b 0), .ref (b a1)] : List Value) ++ List.replicate (4 - (lg_sl ([.ref (b 0), .ref (b a1)] : List Value)).length) Slot.unset).toArray = ls at hl ⊢
  have hl : lv_has ls 4 [(0, .ref (b 0)), (1, .ref (b a1))] := hl
  unfold f_X7_hashAccounts at h
  refine lv_aload_n hx hb dX7_hashAccounts_0 rfl (lv_at hl 1 rfl) ?_
  refine lv_aload_n hx hb dX7_hashAccounts_1 rfl (lv_at hl 0 rfl) ?_
  refine gg7_0 X hP kc_0 (sk_in hN kc_0 (by decide)) hi7 (List.mem_of_getElem? (i := 1) rfl) dX7_hashAccounts_2 ?_
  refine gg3_5 X hP kc_1 (sk_in hN kc_1 (by decide)) hi3 (List.mem_of_getElem? (i := 2) rfl) dX7_hashAccounts_5 ?_
  obtain ⟨p1, hv, h⟩ := hb_some h
  have K16 : ∀ (H : Heap) (locs : List Loc) (ls : Array Slot), va_P (dC, dI) vwCl (hW N ca b I O J) H → va_S A s.heap H locs → lv_has ls 4 [(0, .ref (b 0)), (1, .ref (b a1))] → W p l e (headSpec wsX7_hashAccounts ({ frames := 3, cells := 0, slots := 0, locals := 66 } : Room)).room s m ([.ref (b 0), .ref (b a1)] : List Value).toArray below meth c H locs 0 0 (MQ below (va_Qv (fun (u : Nat → Nat → Int64) => res = u) (fun (u : Nat → Nat → Int64) t => va_P (dC, dI) vwCl (hW N ca b I O u) t.heap) A) ([.ref (b 0), .ref (b a1)] : List Value).toArray s 0 0 A) (F0 m 16 ls [.long p1, .ref (b a1)]) := by
    intro H locs ls hP hS hl
    obtain ⟨q3, hcq3, h⟩ := hb_some h
    refine gdV_v (As := [.long p1]) (rest := []) (BH := (fun (u : Nat → Nat → Int64) H => va_P (dC, dI) vwCl (hW N ca b I O u) H)) X hP hS (c_X0_add hN hA I O J a1 p1 hk_a1 hn_a1 q3 hcq3) (cwV 1 X.ts gX7_hashAccounts_X0_add rfl rfl rfl (by decide +kernel) ⟨Nat.le_of_ble_eq_true rfl, Nat.le_of_ble_eq_true rfl⟩) (gr0 X hP hk_a1 hn_a1) rfl hl.1 rfl (Nat.le_of_ble_eq_true rfl) dX7_hashAccounts_16 ⟨Nat.le_of_ble_eq_true rfl, Nat.le_of_ble_eq_true rfl⟩ (fun J2 H locs hw hP hS => ?_)
    have hw := hw.symm
    subst hw
    refine lv_aload_n hx hb dX7_hashAccounts_19 rfl (lv_at hl 1 rfl) ?_
    refine lv_aload_n hx hb dX7_hashAccounts_20 rfl (lv_at hl 0 rfl) ?_
    refine gg7_0 X hP kc_0 (sk_in hN kc_0 (by decide)) hi7 (List.mem_of_getElem? (i := 1) rfl) dX7_hashAccounts_21 ?_
    refine gg3_6 X hP kc_1 (sk_in hN kc_1 (by decide)) hi3 (List.mem_of_getElem? (i := 3) rfl) dX7_hashAccounts_24 ?_
    refine lv_i2l (v := ((I 1 6)).toInt64) hx hb dX7_hashAccounts_27 rfl ?_
    obtain ⟨q5, hcq5, h⟩ := hb_some h
    refine gdV_v (As := [.long (((I 1 6)).toInt64)]) (rest := []) (BH := (fun (u : Nat → Nat → Int64) H => va_P (dC, dI) vwCl (hW N ca b I O u) H)) X hP hS (c_X0_add hN hA I O J2 a1 (((I 1 6)).toInt64) hk_a1 hn_a1 q5 hcq5) (cwV 1 X.ts gX7_hashAccounts_X0_add rfl rfl rfl (by decide +kernel) ⟨Nat.le_of_ble_eq_true rfl, Nat.le_of_ble_eq_true rfl⟩) (gr0 X hP hk_a1 hn_a1) rfl hl.1 rfl (Nat.le_of_ble_eq_true rfl) dX7_hashAccounts_28 ⟨Nat.le_of_ble_eq_true rfl, Nat.le_of_ble_eq_true rfl⟩ (fun J4 H locs hw hP hS => ?_)
    have hw := hw.symm
    subst hw
    refine lv_aload_n hx hb dX7_hashAccounts_31 rfl (lv_at hl 1 rfl) ?_
    refine lv_aload_n hx hb dX7_hashAccounts_32 rfl (lv_at hl 0 rfl) ?_
    refine gg7_0 X hP kc_0 (sk_in hN kc_0 (by decide)) hi7 (List.mem_of_getElem? (i := 1) rfl) dX7_hashAccounts_33 ?_
    refine gg3_7 X hP kc_1 (sk_in hN kc_1 (by decide)) hi3 (List.mem_of_getElem? (i := 4) rfl) dX7_hashAccounts_36 ?_
    refine lv_i2l (v := ((I 1 7)).toInt64) hx hb dX7_hashAccounts_39 rfl ?_
    obtain ⟨q7, hcq7, h⟩ := hb_some h
    refine gdV_v (As := [.long (((I 1 7)).toInt64)]) (rest := []) (BH := (fun (u : Nat → Nat → Int64) H => va_P (dC, dI) vwCl (hW N ca b I O u) H)) X hP hS (c_X0_add hN hA I O J4 a1 (((I 1 7)).toInt64) hk_a1 hn_a1 q7 hcq7) (cwV 1 X.ts gX7_hashAccounts_X0_add rfl rfl rfl (by decide +kernel) ⟨Nat.le_of_ble_eq_true rfl, Nat.le_of_ble_eq_true rfl⟩) (gr0 X hP hk_a1 hn_a1) rfl hl.1 rfl (Nat.le_of_ble_eq_true rfl) dX7_hashAccounts_40 ⟨Nat.le_of_ble_eq_true rfl, Nat.le_of_ble_eq_true rfl⟩ (fun J6 H locs hw hP hS => ?_)
    have hw := hw.symm
    subst hw
    refine lv_iconst (v := 0) hx hb dX7_hashAccounts_43 (by decide) ?_
    refine lv_istore_n (lv' := [(2, .int (0 : Int32)), (0, .ref (b 0)), (1, .ref (b a1))]) hx hb dX7_hashAccounts_44 rfl hl (by decide) rfl (fun ls hl => ?_)
    obtain ⟨J10, hv, h⟩ := hb_some h
    have K84 : ∀ (H : Heap) (locs : List Loc) (ls : Array Slot), va_P (dC, dI) vwCl (hW N ca b I O J10) H → va_S A s.heap H locs → lv_has ls 4 [(0, .ref (b 0)), (1, .ref (b a1))] → W p l e (headSpec wsX7_hashAccounts ({ frames := 3, cells := 0, slots := 0, locals := 66 } : Room)).room s m ([.ref (b 0), .ref (b a1)] : List Value).toArray below meth c H locs 0 0 (MQ below (va_Qv (fun (u : Nat → Nat → Int64) => res = u) (fun (u : Nat → Nat → Int64) t => va_P (dC, dI) vwCl (hW N ca b I O u) t.heap) A) ([.ref (b 0), .ref (b a1)] : List Value).toArray s 0 0 A) (F0 m 84 ls []) := by
      intro H locs ls hP hS hl
      refine lv_aload_n hx hb dX7_hashAccounts_84 rfl (lv_at hl 1 rfl) ?_
      refine lv_aload_n hx hb dX7_hashAccounts_85 rfl (lv_at hl 0 rfl) ?_
      refine gg7_0 X hP kc_0 (sk_in hN kc_0 (by decide)) hi7 (List.mem_of_getElem? (i := 1) rfl) dX7_hashAccounts_86 ?_
      obtain ⟨q12, hcq12, h⟩ := hb_some h
      refine gdV_i (As := []) (rest := [.ref (b a1)]) (BH := (fun (u : Unit) H => va_P (dC, dI) vwCl (hW N ca b I O J10) H)) X hP hS (c_X3_sumFlown hN hA I O J10 1 kc_1 q12 hcq12) (cwV 0 X.ts gX7_hashAccounts_X3_sumFlown rfl rfl rfl (by decide +kernel) ⟨Nat.le_of_ble_eq_true rfl, Nat.le_of_ble_eq_true rfl⟩) (gr3 X hP kc_1 (sk_in hN kc_1 (by decide))) rfl hl.1 rfl (Nat.le_of_ble_eq_true rfl) dX7_hashAccounts_89 ⟨Nat.le_of_ble_eq_true rfl, Nat.le_of_ble_eq_true rfl⟩ (fun r11 u9 H locs hw hP hS => ?_)
      have hw := hw.symm
      subst hw
      refine lv_i2l (v := (r11).toInt64) hx hb dX7_hashAccounts_92 rfl ?_
      obtain ⟨q14, hcq14, h⟩ := hb_some h
      refine gdV_v (As := [.long ((r11).toInt64)]) (rest := []) (BH := (fun (u : Nat → Nat → Int64) H => va_P (dC, dI) vwCl (hW N ca b I O u) H)) X hP hS (c_X0_add hN hA I O J10 a1 ((r11).toInt64) hk_a1 hn_a1 q14 hcq14) (cwV 1 X.ts gX7_hashAccounts_X0_add rfl rfl rfl (by decide +kernel) ⟨Nat.le_of_ble_eq_true rfl, Nat.le_of_ble_eq_true rfl⟩) (gr0 X hP hk_a1 hn_a1) rfl hl.1 rfl (Nat.le_of_ble_eq_true rfl) dX7_hashAccounts_93 ⟨Nat.le_of_ble_eq_true rfl, Nat.le_of_ble_eq_true rfl⟩ (fun J13 H locs hw hP hS => ?_)
      have hw := hw.symm
      subst hw
      refine lv_aload_n hx hb dX7_hashAccounts_96 rfl (lv_at hl 1 rfl) ?_
      refine lv_aload_n hx hb dX7_hashAccounts_97 rfl (lv_at hl 0 rfl) ?_
      refine gg7_0 X hP kc_0 (sk_in hN kc_0 (by decide)) hi7 (List.mem_of_getElem? (i := 1) rfl) dX7_hashAccounts_98 ?_
      refine gg3_8 X hP kc_1 (sk_in hN kc_1 (by decide)) hi3 (List.mem_of_getElem? (i := 6) rfl) dX7_hashAccounts_101 ?_
      refine lv_i2l (v := ((I 1 8)).toInt64) hx hb dX7_hashAccounts_104 rfl ?_
      obtain ⟨q16, hcq16, h⟩ := hb_some h
      refine gdV_v (As := [.long (((I 1 8)).toInt64)]) (rest := []) (BH := (fun (u : Nat → Nat → Int64) H => va_P (dC, dI) vwCl (hW N ca b I O u) H)) X hP hS (c_X0_add hN hA I O J13 a1 (((I 1 8)).toInt64) hk_a1 hn_a1 q16 hcq16) (cwV 1 X.ts gX7_hashAccounts_X0_add rfl rfl rfl (by decide +kernel) ⟨Nat.le_of_ble_eq_true rfl, Nat.le_of_ble_eq_true rfl⟩) (gr0 X hP hk_a1 hn_a1) rfl hl.1 rfl (Nat.le_of_ble_eq_true rfl) dX7_hashAccounts_105 ⟨Nat.le_of_ble_eq_true rfl, Nat.le_of_ble_eq_true rfl⟩ (fun J15 H locs hw hP hS => ?_)
      have hw := hw.symm
      subst hw
      refine lv_aload_n hx hb dX7_hashAccounts_108 rfl (lv_at hl 1 rfl) ?_
      refine lv_aload_n hx hb dX7_hashAccounts_109 rfl (lv_at hl 0 rfl) ?_
      refine gg7_0 X hP kc_0 (sk_in hN kc_0 (by decide)) hi7 (List.mem_of_getElem? (i := 1) rfl) dX7_hashAccounts_110 ?_
      refine gg3_9 X hP kc_1 (sk_in hN kc_1 (by decide)) hi3 (List.mem_of_getElem? (i := 7) rfl) dX7_hashAccounts_113 ?_
      refine lv_i2l (v := ((I 1 9)).toInt64) hx hb dX7_hashAccounts_116 rfl ?_
      obtain ⟨q18, hcq18, h⟩ := hb_some h
      refine gdV_v (As := [.long (((I 1 9)).toInt64)]) (rest := []) (BH := (fun (u : Nat → Nat → Int64) H => va_P (dC, dI) vwCl (hW N ca b I O u) H)) X hP hS (c_X0_add hN hA I O J15 a1 (((I 1 9)).toInt64) hk_a1 hn_a1 q18 hcq18) (cwV 1 X.ts gX7_hashAccounts_X0_add rfl rfl rfl (by decide +kernel) ⟨Nat.le_of_ble_eq_true rfl, Nat.le_of_ble_eq_true rfl⟩) (gr0 X hP hk_a1 hn_a1) rfl hl.1 rfl (Nat.le_of_ble_eq_true rfl) dX7_hashAccounts_117 ⟨Nat.le_of_ble_eq_true rfl, Nat.le_of_ble_eq_true rfl⟩ (fun J17 H locs hw hP hS => ?_)
      have hw := hw.symm
      subst hw
      refine lv_aload_n hx hb dX7_hashAccounts_120 rfl (lv_at hl 1 rfl) ?_
      refine lv_aload_n hx hb dX7_hashAccounts_121 rfl (lv_at hl 0 rfl) ?_
      refine gg7_0 X hP kc_0 (sk_in hN kc_0 (by decide)) hi7 (List.mem_of_getElem? (i := 1) rfl) dX7_hashAccounts_122 ?_
      refine gg3_10 X hP kc_1 (sk_in hN kc_1 (by decide)) hi3 (List.mem_of_getElem? (i := 8) rfl) dX7_hashAccounts_125 ?_
      refine lv_i2l (v := ((I 1 10)).toInt64) hx hb dX7_hashAccounts_128 rfl ?_
      obtain ⟨q20, hcq20, h⟩ := hb_some h
      refine gdV_v (As := [.long (((I 1 10)).toInt64)]) (rest := []) (BH := (fun (u : Nat → Nat → Int64) H => va_P (dC, dI) vwCl (hW N ca b I O u) H)) X hP hS (c_X0_add hN hA I O J17 a1 (((I 1 10)).toInt64) hk_a1 hn_a1 q20 hcq20) (cwV 1 X.ts gX7_hashAccounts_X0_add rfl rfl rfl (by decide +kernel) ⟨Nat.le_of_ble_eq_true rfl, Nat.le_of_ble_eq_true rfl⟩) (gr0 X hP hk_a1 hn_a1) rfl hl.1 rfl (Nat.le_of_ble_eq_true rfl) dX7_hashAccounts_129 ⟨Nat.le_of_ble_eq_true rfl, Nat.le_of_ble_eq_true rfl⟩ (fun J19 H locs hw hP hS => ?_)
      have hw := hw.symm
      subst hw
      refine lv_aload_n hx hb dX7_hashAccounts_132 rfl (lv_at hl 1 rfl) ?_
      refine lv_aload_n hx hb dX7_hashAccounts_133 rfl (lv_at hl 0 rfl) ?_
      refine gg7_0 X hP kc_0 (sk_in hN kc_0 (by decide)) hi7 (List.mem_of_getElem? (i := 1) rfl) dX7_hashAccounts_134 ?_
      refine gg3_11 X hP kc_1 (sk_in hN kc_1 (by decide)) hi3 (List.mem_of_getElem? (i := 9) rfl) dX7_hashAccounts_137 ?_
      refine lv_i2l (v := ((I 1 11)).toInt64) hx hb dX7_hashAccounts_140 rfl ?_
      obtain ⟨q22, hcq22, h⟩ := hb_some h
      refine gdV_v (As := [.long (((I 1 11)).toInt64)]) (rest := []) (BH := (fun (u : Nat → Nat → Int64) H => va_P (dC, dI) vwCl (hW N ca b I O u) H)) X hP hS (c_X0_add hN hA I O J19 a1 (((I 1 11)).toInt64) hk_a1 hn_a1 q22 hcq22) (cwV 1 X.ts gX7_hashAccounts_X0_add rfl rfl rfl (by decide +kernel) ⟨Nat.le_of_ble_eq_true rfl, Nat.le_of_ble_eq_true rfl⟩) (gr0 X hP hk_a1 hn_a1) rfl hl.1 rfl (Nat.le_of_ble_eq_true rfl) dX7_hashAccounts_141 ⟨Nat.le_of_ble_eq_true rfl, Nat.le_of_ble_eq_true rfl⟩ (fun J21 H locs hw hP hS => ?_)
      have hw := hw.symm
      subst hw
      refine lv_aload_n hx hb dX7_hashAccounts_144 rfl (lv_at hl 1 rfl) ?_
      refine lv_aload_n hx hb dX7_hashAccounts_145 rfl (lv_at hl 0 rfl) ?_
      refine gg7_0 X hP kc_0 (sk_in hN kc_0 (by decide)) hi7 (List.mem_of_getElem? (i := 1) rfl) dX7_hashAccounts_146 ?_
      refine gg3_12 X hP kc_1 (sk_in hN kc_1 (by decide)) hi3 (List.mem_of_getElem? (i := 10) rfl) dX7_hashAccounts_149 ?_
      refine lv_i2l (v := ((I 1 12)).toInt64) hx hb dX7_hashAccounts_152 rfl ?_
      obtain ⟨q24, hcq24, h⟩ := hb_some h
      refine gdV_v (As := [.long (((I 1 12)).toInt64)]) (rest := []) (BH := (fun (u : Nat → Nat → Int64) H => va_P (dC, dI) vwCl (hW N ca b I O u) H)) X hP hS (c_X0_add hN hA I O J21 a1 (((I 1 12)).toInt64) hk_a1 hn_a1 q24 hcq24) (cwV 1 X.ts gX7_hashAccounts_X0_add rfl rfl rfl (by decide +kernel) ⟨Nat.le_of_ble_eq_true rfl, Nat.le_of_ble_eq_true rfl⟩) (gr0 X hP hk_a1 hn_a1) rfl hl.1 rfl (Nat.le_of_ble_eq_true rfl) dX7_hashAccounts_153 ⟨Nat.le_of_ble_eq_true rfl, Nat.le_of_ble_eq_true rfl⟩ (fun J23 H locs hw hP hS => ?_)
      have hw := hw.symm
      subst hw
      refine lv_aload_n hx hb dX7_hashAccounts_156 rfl (lv_at hl 1 rfl) ?_
      refine lv_aload_n hx hb dX7_hashAccounts_157 rfl (lv_at hl 0 rfl) ?_
      refine gg7_0 X hP kc_0 (sk_in hN kc_0 (by decide)) hi7 (List.mem_of_getElem? (i := 1) rfl) dX7_hashAccounts_158 ?_
      refine gg3_13 X hP kc_1 (sk_in hN kc_1 (by decide)) hi3 (List.mem_of_getElem? (i := 11) rfl) dX7_hashAccounts_161 ?_
      refine lv_i2l (v := ((I 1 13)).toInt64) hx hb dX7_hashAccounts_164 rfl ?_
      obtain ⟨q26, hcq26, h⟩ := hb_some h
      refine gdV_v (As := [.long (((I 1 13)).toInt64)]) (rest := []) (BH := (fun (u : Nat → Nat → Int64) H => va_P (dC, dI) vwCl (hW N ca b I O u) H)) X hP hS (c_X0_add hN hA I O J23 a1 (((I 1 13)).toInt64) hk_a1 hn_a1 q26 hcq26) (cwV 1 X.ts gX7_hashAccounts_X0_add rfl rfl rfl (by decide +kernel) ⟨Nat.le_of_ble_eq_true rfl, Nat.le_of_ble_eq_true rfl⟩) (gr0 X hP hk_a1 hn_a1) rfl hl.1 rfl (Nat.le_of_ble_eq_true rfl) dX7_hashAccounts_165 ⟨Nat.le_of_ble_eq_true rfl, Nat.le_of_ble_eq_true rfl⟩ (fun J25 H locs hw hP hS => ?_)
      have hw := hw.symm
      subst hw
      refine lv_aload_n hx hb dX7_hashAccounts_168 rfl (lv_at hl 1 rfl) ?_
      refine lv_aload_n hx hb dX7_hashAccounts_169 rfl (lv_at hl 0 rfl) ?_
      refine gg7_2 X hP kc_0 (sk_in hN kc_0 (by decide)) hi7 (List.mem_of_getElem? (i := 12) rfl) dX7_hashAccounts_170 ?_
      refine gg4_1 X hP kc_25 (sk_in hN kc_25 (by decide)) hi4 (List.mem_of_getElem? (i := 13) rfl) dX7_hashAccounts_173 ?_
      refine lv_i2l (v := ((I 25 1)).toInt64) hx hb dX7_hashAccounts_176 rfl ?_
      obtain ⟨q28, hcq28, h⟩ := hb_some h
      refine gdV_v (As := [.long (((I 25 1)).toInt64)]) (rest := []) (BH := (fun (u : Nat → Nat → Int64) H => va_P (dC, dI) vwCl (hW N ca b I O u) H)) X hP hS (c_X0_add hN hA I O J25 a1 (((I 25 1)).toInt64) hk_a1 hn_a1 q28 hcq28) (cwV 1 X.ts gX7_hashAccounts_X0_add rfl rfl rfl (by decide +kernel) ⟨Nat.le_of_ble_eq_true rfl, Nat.le_of_ble_eq_true rfl⟩) (gr0 X hP hk_a1 hn_a1) rfl hl.1 rfl (Nat.le_of_ble_eq_true rfl) dX7_hashAccounts_177 ⟨Nat.le_of_ble_eq_true rfl, Nat.le_of_ble_eq_true rfl⟩ (fun J27 H locs hw hP hS => ?_)
      have hw := hw.symm
      subst hw
      refine lv_aload_n hx hb dX7_hashAccounts_180 rfl (lv_at hl 1 rfl) ?_
      refine lv_aload_n hx hb dX7_hashAccounts_181 rfl (lv_at hl 0 rfl) ?_
      obtain ⟨q30, hcq30, h⟩ := hb_some h
      refine gdV_d (As := []) (rest := [.ref (b a1)]) (BH := (fun (u : Unit) H => va_P (dC, dI) vwCl (hW N ca b I O J27) H)) X hP hS (c_X7_meanFlown hN hA I O J27 q30 hcq30) (cwV 0 X.ts gX7_hashAccounts_X7_meanFlown rfl rfl rfl (by decide +kernel) ⟨Nat.le_of_ble_eq_true rfl, Nat.le_of_ble_eq_true rfl⟩) (gr7 X hP kc_0 (sk_in hN kc_0 (by decide))) rfl hl.1 rfl (Nat.le_of_ble_eq_true rfl) dX7_hashAccounts_182 ⟨Nat.le_of_ble_eq_true rfl, Nat.le_of_ble_eq_true rfl⟩ (fun r29 u9 H locs hw hP hS => ?_)
      have hw := hw.symm
      subst hw
      obtain ⟨q32, hcq32, h⟩ := hb_some h
      refine gdS_l (As := [.double r29]) (rest := [.ref (b a1)]) (BH := (fun (u : Unit) H => va_P (dC, dI) vwCl (hW N ca b I O J27) H)) X hP hS (c_X7_bitsOf hN hA I O J27 r29 q32 hcq32) (va_cwS 1 X.ts gX7_hashAccounts_X7_bitsOf rfl rfl rfl (by decide +kernel) ⟨Nat.le_of_ble_eq_true rfl, Nat.le_of_ble_eq_true rfl⟩) rfl hl.1 rfl (Nat.le_of_ble_eq_true rfl) dX7_hashAccounts_185 ⟨Nat.le_of_ble_eq_true rfl, Nat.le_of_ble_eq_true rfl⟩ (fun r31 u9 H locs hw hP hS => ?_)
      have hw := hw.symm
      subst hw
      obtain ⟨q34, hcq34, h⟩ := hb_some h
      refine gdV_v (As := [.long r31]) (rest := []) (BH := (fun (u : Nat → Nat → Int64) H => va_P (dC, dI) vwCl (hW N ca b I O u) H)) X hP hS (c_X0_add hN hA I O J27 a1 r31 hk_a1 hn_a1 q34 hcq34) (cwV 1 X.ts gX7_hashAccounts_X0_add rfl rfl rfl (by decide +kernel) ⟨Nat.le_of_ble_eq_true rfl, Nat.le_of_ble_eq_true rfl⟩) (gr0 X hP hk_a1 hn_a1) rfl hl.1 rfl (Nat.le_of_ble_eq_true rfl) dX7_hashAccounts_188 ⟨Nat.le_of_ble_eq_true rfl, Nat.le_of_ble_eq_true rfl⟩ (fun J33 H locs hw hP hS => ?_)
      have hw := hw.symm
      subst hw
      exact W.vret hx hb hr (fun t9 ht hW => ⟨⟨J33, rfl, (Option.some.inj h).symm, gEnd ht hP⟩, hS.F ht⟩) hS.2.2 dX7_hashAccounts_191 hlk
    have hL45 : ∀ (fuel : Nat) (p8 : Int32) (J9 : Nat → Nat → Int64) (H : Heap) (locs : List Loc) (ls : Array Slot), f_X7_hashAccounts_L45 a1 I fuel p8 J9 = some J10 → va_P (dC, dI) vwCl (hW N ca b I O J9) H → va_S A s.heap H locs → lv_has ls 4 [(0, .ref (b 0)), (1, .ref (b a1)), (2, .int p8)] → W p l e (headSpec wsX7_hashAccounts ({ frames := 3, cells := 0, slots := 0, locals := 66 } : Room)).room s m ([.ref (b 0), .ref (b a1)] : List Value).toArray below meth c H locs 0 0 (MQ below (va_Qv (fun (u : Nat → Nat → Int64) => res = u) (fun (u : Nat → Nat → Int64) t => va_P (dC, dI) vwCl (hW N ca b I O u) t.heap) A) ([.ref (b 0), .ref (b a1)] : List Value).toArray s 0 0 A) (F0 m 45 ls []) := by
      intro fuel
      induction fuel with
      | zero =>
        intro p8 J9 H locs ls h hP hS hl
        rw [f_X7_hashAccounts_L45] at h
        cases h
      | succ fuel ih =>
        intro p8 J9 H locs ls h hP hS hl
        rw [f_X7_hashAccounts_L45] at h
        refine lv_iload_n hx hb dX7_hashAccounts_45 rfl (lv_at hl 2 rfl) ?_
        refine lv_aload_n hx hb dX7_hashAccounts_46 rfl (lv_at hl 0 rfl) ?_
        refine gg7_0 X hP kc_0 (sk_in hN kc_0 (by decide)) hi7 (List.mem_of_getElem? (i := 1) rfl) dX7_hashAccounts_47 ?_
        refine gg3_7 X hP kc_1 (sk_in hN kc_1 (by decide)) hi3 (List.mem_of_getElem? (i := 4) rfl) dX7_hashAccounts_50 ?_
        refine lv_icmp_ge (tgt := 84) hx hb dX7_hashAccounts_53 (by decide) (fun c42 => ?_) (fun c42 => ?_)
        · have h := gif_t c42 h
          cases h
          exact K84 _ _ _ hP hS (lv_sub hl [0, 1] rfl)
        · have h := gif_f c42 h
          refine lv_aload_n hx hb dX7_hashAccounts_56 rfl (lv_at hl 0 rfl) ?_
          refine gg7_0 X hP kc_0 (sk_in hN kc_0 (by decide)) hi7 (List.mem_of_getElem? (i := 1) rfl) dX7_hashAccounts_57 ?_
          refine lv_iload_n hx hb dX7_hashAccounts_60 rfl (lv_at hl 2 rfl) ?_
          obtain ⟨q36, hcq36, h⟩ := hb_some h
          refine gdV_q (As := [.int p8]) (rest := []) (BH := (fun (u : Unit) H => va_P (dC, dI) vwCl (hW N ca b I O J9) H)) X hP hS (c_X3_arrivedAs hN hA I O J9 1 p8 kc_1 q36 hcq36) (cwV 1 X.ts gX7_hashAccounts_X3_arrivedAs rfl rfl rfl (by decide +kernel) ⟨Nat.le_of_ble_eq_true rfl, Nat.le_of_ble_eq_true rfl⟩) (gr3 X hP kc_1 (sk_in hN kc_1 (by decide))) rfl hl.1 rfl (Nat.le_of_ble_eq_true rfl) dX7_hashAccounts_61 ⟨Nat.le_of_ble_eq_true rfl, Nat.le_of_ble_eq_true rfl⟩ (fun r35 u9 H locs hw hP hS => ?_)
          obtain ⟨r35, rfl, hw⟩ := hw
          have hw := hw.symm
          subst hw
          refine gv_astore_n (r := Option.map b r35) (lv' := [(3, va_rf (Option.map b r35)), (0, .ref (b 0)), (1, .ref (b a1)), (2, .int p8)]) hx hb dX7_hashAccounts_64 rfl hl (by decide) rfl (fun ls hl => ?_)
          refine gv_aload_n (r := Option.map b r35) hx hb dX7_hashAccounts_65 rfl (lv_at hl 0 rfl) ?_
          obtain ⟨J37, hv, h⟩ := hb_some h
          have K78 : ∀ (H : Heap) (locs : List Loc) (ls : Array Slot), va_P (dC, dI) vwCl (hW N ca b I O J37) H → va_S A s.heap H locs → lv_has ls 4 [(0, .ref (b 0)), (1, .ref (b a1)), (2, .int p8)] → W p l e (headSpec wsX7_hashAccounts ({ frames := 3, cells := 0, slots := 0, locals := 66 } : Room)).room s m ([.ref (b 0), .ref (b a1)] : List Value).toArray below meth c H locs 0 0 (MQ below (va_Qv (fun (u : Nat → Nat → Int64) => res = u) (fun (u : Nat → Nat → Int64) t => va_P (dC, dI) vwCl (hW N ca b I O u) t.heap) A) ([.ref (b 0), .ref (b a1)] : List Value).toArray s 0 0 A) (F0 m 78 ls []) := by
            intro H locs ls hP hS hl
            obtain ⟨x38, ex38, h⟩ := hlet_ex h
            refine lv_iinc (v := x38) (lv' := [(2, .int x38), (0, .ref (b 0)), (1, .ref (b a1))]) hx hb dX7_hashAccounts_78 hl (k := 2) rfl (by rw [ex38]; rfl) (by decide) rfl (fun ls hl => ?_)
            refine lv_goto (tgt := 45) hx hb dX7_hashAccounts_81 (by decide) ?_
            exact ih _ _ _ _ _ h hP hS (lv_sub hl [1, 2, 0] rfl)
          have h := hv
          cases r35 with
          | none =>
            have h := hopt_n h
            refine lv_ifnullN (tgt := 78) hx hb dX7_hashAccounts_66 (by decide) ?_
            cases h
            exact K78 _ _ _ hP hS (lv_sub hl [1, 2, 3] rfl)
          | some n39 =>
            obtain ⟨hk_n39, h⟩ := hk_some (hopt_s h)
            refine lv_ifnull hx hb dX7_hashAccounts_66 ?_
            refine lv_aload_n hx hb dX7_hashAccounts_69 rfl (lv_at hl 2 rfl) ?_
            refine lv_aload_n hx hb dX7_hashAccounts_70 rfl (lv_at hl 0 rfl) ?_
            refine gg6_0 X hP hk_n39 (sk_in hN hk_n39 (by decide)) hi6 (List.mem_of_getElem? (i := 5) rfl) dX7_hashAccounts_71 ?_
            refine lv_i2l (v := ((I n39 0)).toInt64) hx hb dX7_hashAccounts_74 rfl ?_
            obtain ⟨q41, hcq41, h⟩ := hb_some h
            refine gdV_v (As := [.long (((I n39 0)).toInt64)]) (rest := []) (BH := (fun (u : Nat → Nat → Int64) H => va_P (dC, dI) vwCl (hW N ca b I O u) H)) X hP hS (c_X0_add hN hA I O J9 a1 (((I n39 0)).toInt64) hk_a1 hn_a1 q41 hcq41) (cwV 1 X.ts gX7_hashAccounts_X0_add rfl rfl rfl (by decide +kernel) ⟨Nat.le_of_ble_eq_true rfl, Nat.le_of_ble_eq_true rfl⟩) (gr0 X hP hk_a1 hn_a1) rfl hl.1 rfl (Nat.le_of_ble_eq_true rfl) dX7_hashAccounts_75 ⟨Nat.le_of_ble_eq_true rfl, Nat.le_of_ble_eq_true rfl⟩ (fun J40 H locs hw hP hS => ?_)
            have hw := hw.symm
            subst hw
            cases h
            exact K78 _ _ _ hP hS (lv_sub hl [1, 2, 3] rfl)
    exact hL45 FU _ _ _ _ _ hv hP hS (lv_sub hl [1, 2, 0] rfl)
  have h := hv
  refine lv_if_eq (tgt := 15) hx hb dX7_hashAccounts_8 (by decide) (fun c43 => ?_) (fun c43 => ?_)
  · have h := gif_t c43 h
    refine lv_lconst (v := 0) hx hb dX7_hashAccounts_15 (by decide) ?_
    cases h
    exact K16 _ _ _ hP hS (lv_sub hl [0, 1] rfl)
  · have h := gif_f c43 h
    refine lv_lconst (v := 1) hx hb dX7_hashAccounts_11 (by decide) ?_
    refine lv_goto (tgt := 16) hx hb dX7_hashAccounts_12 (by decide) ?_
    cases h
    exact K16 _ _ _ hP hS (lv_sub hl [0, 1] rfl)
def f_X7_digest_L243 (N0 : Nat) (I35 : Nat → Nat → Int32) : Nat → Int32 → (Nat → Nat → Int64) → Option (Nat → Nat → Int64)
  | 0, _, _ => none
  | fuel + 1, p46, J47 =>
    if (I35 126 1) ≤ p46 then
      some J47
    else
      (f_X2_at p46 I35).bind fun r49 =>
      (f_X0_add N0 ((r49).toInt64) J47).bind fun J51 =>
      hlet (p46 + 1) fun x53 =>
      f_X7_digest_L243 N0 I35 fuel x53 J51
def f_X7_digest_L195 (N0 : Nat) (I35 : Nat → Nat → Int32) : Nat → Int32 → (Nat → Nat → Int64) → Option (Nat → Nat → Int64)
  | 0, _, _ => none
  | fuel + 1, p41, J42 =>
    if (2 : Int32) ≤ p41 then
      some J42
    else
      (f_X5_kept p41 I35).bind fun r55 =>
      (show Option (Int64) from
        hopt r55 (
          some (0 : Int64)) fun n61 => hk n61 3 <|
        some (1 : Int64)).bind fun p57 =>
      (f_X0_add N0 p57 J42).bind fun J58 =>
      hlet (p41 + 1) fun x60 =>
      f_X7_digest_L195 N0 I35 fuel x60 J58
def f_X7_digest_L95 (N0 : Nat) (I10 : Nat → Nat → Int32) : Nat → Int32 → (Nat → Nat → Int64) → Option (Nat → Nat → Int64)
  | 0, _, _ => none
  | fuel + 1, p16, J17 =>
    if (4 : Int32) ≤ p16 then
      some J17
    else
      (f_X3_limitAt 1 p16 I10).bind fun r70 =>
      (f_X0_add N0 ((r70).toInt64) J17).bind fun J72 =>
      hlet (p16 + 1) fun x74 =>
      f_X7_digest_L95 N0 I10 fuel x74 J72
def f_X7_digest_L22 (N0 : Nat) : Nat → Int32 → (Nat → Nat → Int32) → (Nat → Nat → Option Nat) → (Nat → Nat → Int64) → Option ((Nat → Nat → Int32) × (Nat → Nat → Option Nat) × (Nat → Nat → Int64))
  | 0, _, _, _, _ => none
  | fuel + 1, p6, I7, O8, J9 =>
    if (I7 1 3) ≤ p6 then
      some (I7, O8, J9)
    else
      (f_X3_at 1 p6 I7).bind fun r76 =>
      (show Option ((Nat → Nat → Int32) × (Nat → Nat → Option Nat) × (Nat → Nat → Int64)) from
        hopt r76 (
          some (I7, O8, J9)) fun n82 => hk n82 6 <|
        (f_X7_hashSparrow N0 n82 I7 J9).bind fun J83 =>
        (show Option (Int64 × (Nat → Nat → Int32) × (Nat → Nat → Option Nat)) from
          if (I7 1 5) = 0 then
            some ((0 : Int64), I7, O8)
          else
            (f_X7_foretell n82 (I7 n82 1) (30 : Int32) I7 O8).bind fun (r92, I90, O91) =>
            some (((r92).toInt64), I90, O91)).bind fun (p85, I86, O87) =>
        (f_X0_add N0 p85 J83).bind fun J88 =>
        some (I86, O87, J88)).bind fun (I78, O79, J80) =>
      hlet (p6 + 1) fun x81 =>
      f_X7_digest_L22 N0 fuel x81 I78 O79 J80
def f_X7_digest (N0 : Nat) (I : Nat → Nat → Int32) (O : Nat → Nat → Option Nat) (J : Nat → Nat → Int64) : Option (Int64 × (Nat → Nat → Int32) × (Nat → Nat → Option Nat) × (Nat → Nat → Int64)) :=
  hlet (gup J N0 0 0) fun J1 =>
  (f_X0_init N0 J1).bind fun J2 =>
  (f_X0_add N0 (((I 1 3)).toInt64) J2).bind fun J4 =>
  (f_X7_digest_L22 N0 FU (0 : Int32) I O J4).bind fun (I10, O11, J12) =>
  (f_X7_hashOrder N0 I10 O11 J12).bind fun (O13, J14) =>
  (f_X7_digest_L95 N0 I10 FU (0 : Int32) J14).bind fun J18 =>
  (f_X7_foretellSeconds I10 O13).bind fun (r21, I19, O20) =>
  (f_X7_foretellWinner I19 O20).bind fun (r25, I23, O24) =>
  (f_X0_add N0 (((r25 + (1 : Int32))).toInt64) J18).bind fun J27 =>
  (show Option (Int64) from
    if r21 = (-1 : Int32) then
      some (0 : Int64)
    else
      some ((r21).toInt64)).bind fun p29 =>
  (f_X0_add N0 p29 J27).bind fun J30 =>
  (f_X3_at 1 (0 : Int32) I23).bind fun r32 =>
  (show Option (Int64 × (Nat → Nat → Int32) × (Nat → Nat → Option Nat)) from
    hopt r32 (
      some ((0 : Int64), I23, O24)) fun n63 => hk n63 6 <|
    if (I23 1 5) = 0 then
      some ((0 : Int64), I23, O24)
    else
      (f_X7_foretellBestPace n63 I23 O24).bind fun (r66, I64, O65) =>
      some (((r66).toInt64), I64, O65)).bind fun (p34, I35, O36) =>
  (f_X0_add N0 p34 J30).bind fun J37 =>
  (f_X7_hashAccounts N0 I35 J37).bind fun J39 =>
  (f_X7_digest_L195 N0 I35 FU (0 : Int32) J39).bind fun J43 =>
  (f_X0_add N0 (((I35 126 1)).toInt64) J43).bind fun J44 =>
  (f_X7_digest_L243 N0 I35 FU (0 : Int32) J44).bind fun J48 =>
  some ((J48 N0 0), I35, O36, J48)
set_option maxHeartbeats 8000000 in
set_option maxRecDepth 100000 in
theorem c_X7_digest {l : Launch} {dC : Nat → ClassId} {dI : Nat → Nat → Nat} {ca : Nat → ClassId} {b0 : Nat → Nat} {A : Nat → Prop} {N0 : Nat} (hN0 : 129 ≤ N0) (hA0 : gAd A b0 N0) (I : Nat → Nat → Int32) (O : Nat → Nat → Option Nat) (J : Nat → Nat → Int64) (res : Int64 × (Nat → Nat → Int32) × (Nat → Nat → Option Nat) × (Nat → Nat → Int64)) (h : f_X7_digest N0 I O J = some res) : Met l yX7_digest wsX7_digest ({ frames := 6, cells := 1, slots := 1, locals := 149 } : Room) (va_Pc [.ref (b0 0)] (gPre dC dI ca b0 A N0 I O J)) (va_Ql (fun (r : Int64) (u : (Nat → Nat → Int32) × (Nat → Nat → Option Nat) × (Nat → Nat → Int64)) => res = (r, u)) (fun (u : (Nat → Nat → Int32) × (Nat → Nat → Option Nat) × (Nat → Nat → Int64)) t => va_P (dC, dI) vwCl (hW N0 ca b0 u.1 u.2.1 u.2.2) t.heap) A) 1 1 A := by
  refine Met.ofW (cc := cX7_digest) (maxL := 5) (ret := (some .long)) (by decide) rfl ?_
  intro p e s m args below meth c s₁ B hml hv
  obtain ⟨rfl, hP, hK, hA2, hth⟩ := hv
  have hx := B.exec
  have hb := B.bytes
  have hr := B.returns
  have hlk := B.notSynchronized
  have hown : s.vm.findClass RX7 = some m.cls := findClass_of_methodNamed B.named
  have hts := atoms_spec (ws := wsX7_digest) B.pre
  have hlt0 : ∀ n, n < N0 → b0 n < s.heap.size := fun n hn => (hP n _ (hW_at hn rfl)).lt
  obtain ⟨b, hbd⟩ : ∃ b, b = va_up b0 N0 s.heap.size := ⟨_, rfl⟩
  have hbe : ∀ n, n < N0 → b n = b0 n := fun n hn => by rw [hbd]; simp [va_up, Nat.ne_of_lt hn]
  have hbN : b N0 = s.heap.size := by rw [hbd]; simp [va_up]
  obtain ⟨N, hNd⟩ : ∃ N, N = N0 + 1 := ⟨_, rfl⟩
  have hN : 129 ≤ N := by omega
  have hltN0 : N0 < N := by omega
  have hkN0 : SHK N0 = 0 := by
    by_cases h0 : SHK N0 = 0
    · exact h0
    · exact absurd (sk_lt h0) (by omega)
  have hA : gAd A b N := by
    refine ⟨fun n hn => ?_, fun i j hi hj hij => ?_⟩
    · by_cases h0 : n < N0
      · rw [hbe n h0]; exact hA0.1 n h0
      · rw [show n = N0 by omega, hbN]; exact hA2 _ (Nat.le_refl _)
    · by_cases h0 : i < N0 <;> by_cases h1 : j < N0
      · rw [hbe i h0, hbe j h1] at hij; exact hA0.2 i j h0 h1 hij
      · rw [hbe i h0, show j = N0 by omega, hbN] at hij; exact absurd (hlt0 i h0) (by omega)
      · rw [hbe j h1, show i = N0 by omega, hbN] at hij; exact absurd (hlt0 j h1) (by omega)
      · omega
  have hP0 : va_P (dC, dI) vwCl (hW N0 ca b I O J) s.heap := by rw [hW_congr hN0 hbe]; exact hP
  have hback : ∀ (I : Nat → Nat → Int32) (O : Nat → Nat → Option Nat) (J : Nat → Nat → Int64) (H : Heap), va_P (dC, dI) vwCl (hW N ca b I O J) H → va_P (dC, dI) vwCl (hW N0 ca b0 I O J) H := fun I O J H h => by subst hNd; rw [← hW_congr hN0 hbe]; exact hW_less h
  have hb00 : b 0 = b0 0 := hbe 0 (by omega)
  have X : gCx p s m ([.ref (b0 0)] : List Value).toArray c RX7 cX7_digest wsX7_digest 5 dC dI ca b A N := ⟨hx, hb, hml, findClass_of_methodNamed B.named, atoms_spec (ws := wsX7_digest) B.pre, hK, hA, hA2, hth⟩
  have hi2 : ∀ w ∈ wsX20, w ∈ wsX7_digest := (fun w h => List.mem_cons_of_mem _ (List.mem_append_left _ (List.mem_append_left _ (List.mem_append_right _ h))))
  have hi3 : ∀ w ∈ wsX30, w ∈ wsX7_digest := (fun w h => List.mem_cons_of_mem _ (List.mem_append_left _ (List.mem_append_left _ (List.mem_append_left _ (List.mem_append_left _ (List.mem_append_right _ h))))))
  have hi6 : ∀ w ∈ wsX60, w ∈ wsX7_digest := (fun w h => List.mem_cons_of_mem _ (List.mem_append_left _ (List.mem_append_left _ (List.mem_append_left _ (List.mem_append_right _ h)))))
  have hi7 : ∀ w ∈ wsX70, w ∈ wsX7_digest := (fun w h => List.mem_cons_of_mem _ (List.mem_append_left _ (List.mem_append_left _ (List.mem_append_left _ (List.mem_append_left _ (List.mem_append_left _ (List.mem_append_right _ h)))))))
  have hS : va_S A s.heap s.heap [] := va_S.rf
  have hl := lv_entry ([.ref (b0 0)] : List Value) (n := 5) (Nat.le_of_ble_eq_true rfl)
  rw [lg_entry_eq]
  generalize (lg_sl ([.ref (b0 0)] : List Value) ++ List.replicate (5 - (lg_sl ([.ref (b0 0)] : List Value)).length) Slot.unset).toArray = ls at hl ⊢
  have hl : lv_has ls 5 [(0, .ref (b 0))] := by rw [hb00]; exact hl
  have hi0 : ∀ w ∈ wsX00, w ∈ wsX7_digest := (fun w h => List.mem_cons_of_mem _ (List.mem_append_left _ (List.mem_append_left _ (List.mem_append_left _ (List.mem_append_left _ (List.mem_append_left _ (List.mem_append_left _ (List.mem_append_right _ h))))))))
  unfold f_X7_digest at h
  refine g_newHash (N := N0) hx hb hown hts hK hN0 hP0 hS hA2 hbN hi0 (List.mem_of_getElem? (i := 1) rfl) (List.mem_of_getElem? (i := 2) rfl) (List.mem_of_getElem? (i := 3) rfl) (Nat.le_of_ble_eq_true rfl) (Nat.le_of_ble_eq_true rfl) dX7_digest_0 (fun H hP hS => ?_)
  rw [← hNd] at hP
  obtain ⟨J1, eJ1, h⟩ := hlet_ex h
  rw [← eJ1] at hP
  refine lv_dup hx hb dX7_digest_3 rfl ?_
  obtain ⟨q3, hcq3, h⟩ := hb_some h
  refine gdN_v (As := []) (rest := [.ref (b N0)]) (BH := (fun (u : Nat → Nat → Int64) H => va_P (dC, dI) vwCl (hW N ca b I O u) H)) X hP hS (c_X0_init hN hA I O J1 N0 hkN0 hltN0 q3 hcq3) ⟨va_cnB 0 X.ts gX7_digest_X0_init_n312 rfl rfl rfl (X.th.2.1.2.2.1 (312, yX0_init) (by decide)) (X.ts _ (List.mem_of_getElem? (i := 3) rfl)) (by decide +kernel) ⟨Nat.le_of_ble_eq_true rfl, Nat.le_of_ble_eq_true rfl⟩, rfl, X.ts _ (List.mem_of_getElem? (i := 12) rfl)⟩ rfl hl.1 rfl (Nat.le_of_ble_eq_true rfl) dX7_digest_4 ⟨Nat.le_of_ble_eq_true rfl, Nat.le_of_ble_eq_true rfl⟩ (fun J2 H locs hw hP hS => ?_)
  have hw := hw.symm
  subst hw
  refine lv_astore_n (lv' := [(1, .ref (b N0)), (0, .ref (b 0))]) hx hb dX7_digest_7 rfl hl (by decide) rfl (fun ls hl => ?_)
  refine lv_aload_n hx hb dX7_digest_8 rfl (lv_at hl 0 rfl) ?_
  refine lv_aload_n hx hb dX7_digest_9 rfl (lv_at hl 1 rfl) ?_
  refine gg7_0 X hP kc_0 (sk_in hN kc_0 (by decide)) hi7 (List.mem_of_getElem? (i := 4) rfl) dX7_digest_10 ?_
  refine gg3_3 X hP kc_1 (sk_in hN kc_1 (by decide)) hi3 (List.mem_of_getElem? (i := 5) rfl) dX7_digest_13 ?_
  refine lv_i2l (v := ((I 1 3)).toInt64) hx hb dX7_digest_16 rfl ?_
  obtain ⟨q5, hcq5, h⟩ := hb_some h
  refine gdV_v (As := [.long (((I 1 3)).toInt64)]) (rest := []) (BH := (fun (u : Nat → Nat → Int64) H => va_P (dC, dI) vwCl (hW N ca b I O u) H)) X hP hS (c_X0_add hN hA I O J2 N0 (((I 1 3)).toInt64) hkN0 hltN0 q5 hcq5) (cwV 1 X.ts gX7_digest_X0_add rfl rfl rfl (by decide +kernel) ⟨Nat.le_of_ble_eq_true rfl, Nat.le_of_ble_eq_true rfl⟩) (gr0 X hP hkN0 hltN0) rfl hl.1 rfl (Nat.le_of_ble_eq_true rfl) dX7_digest_17 ⟨Nat.le_of_ble_eq_true rfl, Nat.le_of_ble_eq_true rfl⟩ (fun J4 H locs hw hP hS => ?_)
  have hw := hw.symm
  subst hw
  refine lv_iconst (v := 0) hx hb dX7_digest_20 (by decide) ?_
  refine lv_istore_n (lv' := [(2, .int (0 : Int32)), (1, .ref (b N0)), (0, .ref (b 0))]) hx hb dX7_digest_21 rfl hl (by decide) rfl (fun ls hl => ?_)
  obtain ⟨⟨I10, O11, J12⟩, hv, h⟩ := hb_some h
  have K88 : ∀ (H : Heap) (locs : List Loc) (ls : Array Slot), va_P (dC, dI) vwCl (hW N ca b I10 O11 J12) H → va_S A s.heap H locs → lv_has ls 5 [(0, .ref (b 0)), (1, .ref (b N0))] → W p l e (headSpec wsX7_digest ({ frames := 6, cells := 1, slots := 1, locals := 149 } : Room)).room s m ([.ref (b0 0)] : List Value).toArray below meth c H locs 1 1 (MQ below (va_Ql (fun (r : Int64) (u : (Nat → Nat → Int32) × (Nat → Nat → Option Nat) × (Nat → Nat → Int64)) => res = (r, u)) (fun (u : (Nat → Nat → Int32) × (Nat → Nat → Option Nat) × (Nat → Nat → Int64)) t => va_P (dC, dI) vwCl (hW N0 ca b0 u.1 u.2.1 u.2.2) t.heap) A) ([.ref (b0 0)] : List Value).toArray s 1 1 A) (F0 m 88 ls []) := by
    intro H locs ls hP hS hl
    refine lv_aload_n hx hb dX7_digest_88 rfl (lv_at hl 0 rfl) ?_
    refine lv_aload_n hx hb dX7_digest_89 rfl (lv_at hl 1 rfl) ?_
    obtain ⟨q15, hcq15, h⟩ := hb_some h
    refine gdV_v (As := [.ref (b N0)]) (rest := []) (BH := (fun (u : (Nat → Nat → Option Nat) × (Nat → Nat → Int64)) H => va_P (dC, dI) vwCl (hW N ca b I10 u.1 u.2) H)) X hP hS (c_X7_hashOrder hN hA I10 O11 J12 N0 hkN0 hltN0 q15 hcq15) (cwV 1 X.ts gX7_digest_X7_hashOrder rfl rfl rfl (by decide +kernel) ⟨Nat.le_of_ble_eq_true rfl, Nat.le_of_ble_eq_true rfl⟩) (gr7 X hP kc_0 (sk_in hN kc_0 (by decide))) rfl hl.1 rfl (Nat.le_of_ble_eq_true rfl) dX7_digest_90 ⟨Nat.le_of_ble_eq_true rfl, Nat.le_of_ble_eq_true rfl⟩ (fun u9 H locs hw hP hS => ?_)
    obtain ⟨O13, J14⟩ := u9
    subst hw
    refine lv_iconst (v := 0) hx hb dX7_digest_93 (by decide) ?_
    refine lv_istore_n (lv' := [(2, .int (0 : Int32)), (0, .ref (b 0)), (1, .ref (b N0))]) hx hb dX7_digest_94 rfl hl (by decide) rfl (fun ls hl => ?_)
    obtain ⟨J18, hv, h⟩ := hb_some h
    have K119 : ∀ (H : Heap) (locs : List Loc) (ls : Array Slot), va_P (dC, dI) vwCl (hW N ca b I10 O13 J18) H → va_S A s.heap H locs → lv_has ls 5 [(0, .ref (b 0)), (1, .ref (b N0))] → W p l e (headSpec wsX7_digest ({ frames := 6, cells := 1, slots := 1, locals := 149 } : Room)).room s m ([.ref (b0 0)] : List Value).toArray below meth c H locs 1 1 (MQ below (va_Ql (fun (r : Int64) (u : (Nat → Nat → Int32) × (Nat → Nat → Option Nat) × (Nat → Nat → Int64)) => res = (r, u)) (fun (u : (Nat → Nat → Int32) × (Nat → Nat → Option Nat) × (Nat → Nat → Int64)) t => va_P (dC, dI) vwCl (hW N0 ca b0 u.1 u.2.1 u.2.2) t.heap) A) ([.ref (b0 0)] : List Value).toArray s 1 1 A) (F0 m 119 ls []) := by
      intro H locs ls hP hS hl
      refine lv_aload_n hx hb dX7_digest_119 rfl (lv_at hl 0 rfl) ?_
      obtain ⟨q22, hcq22, h⟩ := hb_some h
      refine gdV_i (As := []) (rest := []) (BH := (fun (u : (Nat → Nat → Int32) × (Nat → Nat → Option Nat)) H => va_P (dC, dI) vwCl (hW N ca b u.1 u.2 J18) H)) X hP hS (c_X7_foretellSeconds hN hA I10 O13 J18 q22 hcq22) (cwV 0 X.ts gX7_digest_X7_foretellSeconds rfl rfl rfl (by decide +kernel) ⟨Nat.le_of_ble_eq_true rfl, Nat.le_of_ble_eq_true rfl⟩) (gr7 X hP kc_0 (sk_in hN kc_0 (by decide))) rfl hl.1 rfl (Nat.le_of_ble_eq_true rfl) dX7_digest_120 ⟨Nat.le_of_ble_eq_true rfl, Nat.le_of_ble_eq_true rfl⟩ (fun r21 u9 H locs hw hP hS => ?_)
      obtain ⟨I19, O20⟩ := u9
      subst hw
      refine lv_istore_n (lv' := [(2, .int r21), (0, .ref (b 0)), (1, .ref (b N0))]) hx hb dX7_digest_123 rfl hl (by decide) rfl (fun ls hl => ?_)
      refine lv_aload_n hx hb dX7_digest_124 rfl (lv_at hl 2 rfl) ?_
      refine lv_aload_n hx hb dX7_digest_125 rfl (lv_at hl 1 rfl) ?_
      obtain ⟨q26, hcq26, h⟩ := hb_some h
      refine gdV_i (As := []) (rest := [.ref (b N0)]) (BH := (fun (u : (Nat → Nat → Int32) × (Nat → Nat → Option Nat)) H => va_P (dC, dI) vwCl (hW N ca b u.1 u.2 J18) H)) X hP hS (c_X7_foretellWinner hN hA I19 O20 J18 q26 hcq26) (cwV 0 X.ts gX7_digest_X7_foretellWinner rfl rfl rfl (by decide +kernel) ⟨Nat.le_of_ble_eq_true rfl, Nat.le_of_ble_eq_true rfl⟩) (gr7 X hP kc_0 (sk_in hN kc_0 (by decide))) rfl hl.1 rfl (Nat.le_of_ble_eq_true rfl) dX7_digest_126 ⟨Nat.le_of_ble_eq_true rfl, Nat.le_of_ble_eq_true rfl⟩ (fun r25 u9 H locs hw hP hS => ?_)
      obtain ⟨I23, O24⟩ := u9
      subst hw
      refine lv_iconst (v := 1) hx hb dX7_digest_129 (by decide) ?_
      refine lv_iadd hx hb dX7_digest_130 ?_
      refine lv_i2l (v := ((r25 + (1 : Int32))).toInt64) hx hb dX7_digest_131 rfl ?_
      obtain ⟨q28, hcq28, h⟩ := hb_some h
      refine gdV_v (As := [.long (((r25 + (1 : Int32))).toInt64)]) (rest := []) (BH := (fun (u : Nat → Nat → Int64) H => va_P (dC, dI) vwCl (hW N ca b I23 O24 u) H)) X hP hS (c_X0_add hN hA I23 O24 J18 N0 (((r25 + (1 : Int32))).toInt64) hkN0 hltN0 q28 hcq28) (cwV 1 X.ts gX7_digest_X0_add rfl rfl rfl (by decide +kernel) ⟨Nat.le_of_ble_eq_true rfl, Nat.le_of_ble_eq_true rfl⟩) (gr0 X hP hkN0 hltN0) rfl hl.1 rfl (Nat.le_of_ble_eq_true rfl) dX7_digest_132 ⟨Nat.le_of_ble_eq_true rfl, Nat.le_of_ble_eq_true rfl⟩ (fun J27 H locs hw hP hS => ?_)
      have hw := hw.symm
      subst hw
      refine lv_aload_n hx hb dX7_digest_135 rfl (lv_at hl 2 rfl) ?_
      refine lv_iload_n hx hb dX7_digest_136 rfl (lv_at hl 0 rfl) ?_
      refine lv_iconst (v := (-1)) hx hb dX7_digest_137 (by decide) ?_
      obtain ⟨p29, hv, h⟩ := hb_some h
      have K147 : ∀ (H : Heap) (locs : List Loc) (ls : Array Slot), va_P (dC, dI) vwCl (hW N ca b I23 O24 J27) H → va_S A s.heap H locs → lv_has ls 5 [(0, .ref (b 0)), (1, .ref (b N0))] → W p l e (headSpec wsX7_digest ({ frames := 6, cells := 1, slots := 1, locals := 149 } : Room)).room s m ([.ref (b0 0)] : List Value).toArray below meth c H locs 1 1 (MQ below (va_Ql (fun (r : Int64) (u : (Nat → Nat → Int32) × (Nat → Nat → Option Nat) × (Nat → Nat → Int64)) => res = (r, u)) (fun (u : (Nat → Nat → Int32) × (Nat → Nat → Option Nat) × (Nat → Nat → Int64)) t => va_P (dC, dI) vwCl (hW N0 ca b0 u.1 u.2.1 u.2.2) t.heap) A) ([.ref (b0 0)] : List Value).toArray s 1 1 A) (F0 m 147 ls [.long p29, .ref (b N0)]) := by
        intro H locs ls hP hS hl
        obtain ⟨q31, hcq31, h⟩ := hb_some h
        refine gdV_v (As := [.long p29]) (rest := []) (BH := (fun (u : Nat → Nat → Int64) H => va_P (dC, dI) vwCl (hW N ca b I23 O24 u) H)) X hP hS (c_X0_add hN hA I23 O24 J27 N0 p29 hkN0 hltN0 q31 hcq31) (cwV 1 X.ts gX7_digest_X0_add rfl rfl rfl (by decide +kernel) ⟨Nat.le_of_ble_eq_true rfl, Nat.le_of_ble_eq_true rfl⟩) (gr0 X hP hkN0 hltN0) rfl hl.1 rfl (Nat.le_of_ble_eq_true rfl) dX7_digest_147 ⟨Nat.le_of_ble_eq_true rfl, Nat.le_of_ble_eq_true rfl⟩ (fun J30 H locs hw hP hS => ?_)
        have hw := hw.symm
        subst hw
        refine lv_aload_n hx hb dX7_digest_150 rfl (lv_at hl 0 rfl) ?_
        refine gg7_0 X hP kc_0 (sk_in hN kc_0 (by decide)) hi7 (List.mem_of_getElem? (i := 4) rfl) dX7_digest_151 ?_
        refine lv_iconst (v := 0) hx hb dX7_digest_154 (by decide) ?_
        obtain ⟨q33, hcq33, h⟩ := hb_some h
        refine gdV_q (As := [.int (0 : Int32)]) (rest := []) (BH := (fun (u : Unit) H => va_P (dC, dI) vwCl (hW N ca b I23 O24 J30) H)) X hP hS (c_X3_at hN hA I23 O24 J30 1 (0 : Int32) kc_1 q33 hcq33) (cwV 1 X.ts gX7_digest_X3_at rfl rfl rfl (by decide +kernel) ⟨Nat.le_of_ble_eq_true rfl, Nat.le_of_ble_eq_true rfl⟩) (gr3 X hP kc_1 (sk_in hN kc_1 (by decide))) rfl hl.1 rfl (Nat.le_of_ble_eq_true rfl) dX7_digest_155 ⟨Nat.le_of_ble_eq_true rfl, Nat.le_of_ble_eq_true rfl⟩ (fun r32 u9 H locs hw hP hS => ?_)
        obtain ⟨r32, rfl, hw⟩ := hw
        have hw := hw.symm
        subst hw
        refine gv_astore_n (r := Option.map b r32) (lv' := [(3, va_rf (Option.map b r32)), (0, .ref (b 0)), (1, .ref (b N0))]) hx hb dX7_digest_158 rfl hl (by decide) rfl (fun ls hl => ?_)
        refine lv_aload_n hx hb dX7_digest_159 rfl (lv_at hl 2 rfl) ?_
        refine gv_aload_n (r := Option.map b r32) hx hb dX7_digest_160 rfl (lv_at hl 0 rfl) ?_
        obtain ⟨⟨p34, I35, O36⟩, hv, h⟩ := hb_some h
        have K184 : ∀ (H : Heap) (locs : List Loc) (ls : Array Slot), va_P (dC, dI) vwCl (hW N ca b I35 O36 J30) H → va_S A s.heap H locs → lv_has ls 5 [(0, .ref (b 0)), (1, .ref (b N0))] → W p l e (headSpec wsX7_digest ({ frames := 6, cells := 1, slots := 1, locals := 149 } : Room)).room s m ([.ref (b0 0)] : List Value).toArray below meth c H locs 1 1 (MQ below (va_Ql (fun (r : Int64) (u : (Nat → Nat → Int32) × (Nat → Nat → Option Nat) × (Nat → Nat → Int64)) => res = (r, u)) (fun (u : (Nat → Nat → Int32) × (Nat → Nat → Option Nat) × (Nat → Nat → Int64)) t => va_P (dC, dI) vwCl (hW N0 ca b0 u.1 u.2.1 u.2.2) t.heap) A) ([.ref (b0 0)] : List Value).toArray s 1 1 A) (F0 m 184 ls [.long p34, .ref (b N0)]) := by
          intro H locs ls hP hS hl
          obtain ⟨q38, hcq38, h⟩ := hb_some h
          refine gdV_v (As := [.long p34]) (rest := []) (BH := (fun (u : Nat → Nat → Int64) H => va_P (dC, dI) vwCl (hW N ca b I35 O36 u) H)) X hP hS (c_X0_add hN hA I35 O36 J30 N0 p34 hkN0 hltN0 q38 hcq38) (cwV 1 X.ts gX7_digest_X0_add rfl rfl rfl (by decide +kernel) ⟨Nat.le_of_ble_eq_true rfl, Nat.le_of_ble_eq_true rfl⟩) (gr0 X hP hkN0 hltN0) rfl hl.1 rfl (Nat.le_of_ble_eq_true rfl) dX7_digest_184 ⟨Nat.le_of_ble_eq_true rfl, Nat.le_of_ble_eq_true rfl⟩ (fun J37 H locs hw hP hS => ?_)
          have hw := hw.symm
          subst hw
          refine lv_aload_n hx hb dX7_digest_187 rfl (lv_at hl 0 rfl) ?_
          refine lv_aload_n hx hb dX7_digest_188 rfl (lv_at hl 1 rfl) ?_
          obtain ⟨q40, hcq40, h⟩ := hb_some h
          refine gdV_v (As := [.ref (b N0)]) (rest := []) (BH := (fun (u : Nat → Nat → Int64) H => va_P (dC, dI) vwCl (hW N ca b I35 O36 u) H)) X hP hS (c_X7_hashAccounts hN hA I35 O36 J37 N0 hkN0 hltN0 q40 hcq40) (cwV 1 X.ts gX7_digest_X7_hashAccounts rfl rfl rfl (by decide +kernel) ⟨Nat.le_of_ble_eq_true rfl, Nat.le_of_ble_eq_true rfl⟩) (gr7 X hP kc_0 (sk_in hN kc_0 (by decide))) rfl hl.1 rfl (Nat.le_of_ble_eq_true rfl) dX7_digest_189 ⟨Nat.le_of_ble_eq_true rfl, Nat.le_of_ble_eq_true rfl⟩ (fun J39 H locs hw hP hS => ?_)
          have hw := hw.symm
          subst hw
          refine lv_iconst (v := 0) hx hb dX7_digest_192 (by decide) ?_
          refine lv_istore (lv' := [(4, .int (0 : Int32)), (0, .ref (b 0)), (1, .ref (b N0))]) hx hb dX7_digest_193 hl (by decide) rfl (fun ls hl => ?_)
          obtain ⟨J43, hv, h⟩ := hb_some h
          have K228 : ∀ (H : Heap) (locs : List Loc) (ls : Array Slot), va_P (dC, dI) vwCl (hW N ca b I35 O36 J43) H → va_S A s.heap H locs → lv_has ls 5 [(0, .ref (b 0)), (1, .ref (b N0))] → W p l e (headSpec wsX7_digest ({ frames := 6, cells := 1, slots := 1, locals := 149 } : Room)).room s m ([.ref (b0 0)] : List Value).toArray below meth c H locs 1 1 (MQ below (va_Ql (fun (r : Int64) (u : (Nat → Nat → Int32) × (Nat → Nat → Option Nat) × (Nat → Nat → Int64)) => res = (r, u)) (fun (u : (Nat → Nat → Int32) × (Nat → Nat → Option Nat) × (Nat → Nat → Int64)) t => va_P (dC, dI) vwCl (hW N0 ca b0 u.1 u.2.1 u.2.2) t.heap) A) ([.ref (b0 0)] : List Value).toArray s 1 1 A) (F0 m 228 ls []) := by
            intro H locs ls hP hS hl
            refine lv_aload_n hx hb dX7_digest_228 rfl (lv_at hl 1 rfl) ?_
            refine lv_aload_n hx hb dX7_digest_229 rfl (lv_at hl 0 rfl) ?_
            refine gg7_4 X hP kc_0 (sk_in hN kc_0 (by decide)) hi7 (List.mem_of_getElem? (i := 9) rfl) dX7_digest_230 ?_
            refine gg2_1 X hP kc_126 (sk_in hN kc_126 (by decide)) hi2 (List.mem_of_getElem? (i := 10) rfl) dX7_digest_233 ?_
            refine lv_i2l (v := ((I35 126 1)).toInt64) hx hb dX7_digest_236 rfl ?_
            obtain ⟨q45, hcq45, h⟩ := hb_some h
            refine gdV_v (As := [.long (((I35 126 1)).toInt64)]) (rest := []) (BH := (fun (u : Nat → Nat → Int64) H => va_P (dC, dI) vwCl (hW N ca b I35 O36 u) H)) X hP hS (c_X0_add hN hA I35 O36 J43 N0 (((I35 126 1)).toInt64) hkN0 hltN0 q45 hcq45) (cwV 1 X.ts gX7_digest_X0_add rfl rfl rfl (by decide +kernel) ⟨Nat.le_of_ble_eq_true rfl, Nat.le_of_ble_eq_true rfl⟩) (gr0 X hP hkN0 hltN0) rfl hl.1 rfl (Nat.le_of_ble_eq_true rfl) dX7_digest_237 ⟨Nat.le_of_ble_eq_true rfl, Nat.le_of_ble_eq_true rfl⟩ (fun J44 H locs hw hP hS => ?_)
            have hw := hw.symm
            subst hw
            refine lv_iconst (v := 0) hx hb dX7_digest_240 (by decide) ?_
            refine lv_istore (lv' := [(4, .int (0 : Int32)), (0, .ref (b 0)), (1, .ref (b N0))]) hx hb dX7_digest_241 hl (by decide) rfl (fun ls hl => ?_)
            obtain ⟨J48, hv, h⟩ := hb_some h
            have K275 : ∀ (H : Heap) (locs : List Loc) (ls : Array Slot), va_P (dC, dI) vwCl (hW N ca b I35 O36 J48) H → va_S A s.heap H locs → lv_has ls 5 [(1, .ref (b N0))] → W p l e (headSpec wsX7_digest ({ frames := 6, cells := 1, slots := 1, locals := 149 } : Room)).room s m ([.ref (b0 0)] : List Value).toArray below meth c H locs 1 1 (MQ below (va_Ql (fun (r : Int64) (u : (Nat → Nat → Int32) × (Nat → Nat → Option Nat) × (Nat → Nat → Int64)) => res = (r, u)) (fun (u : (Nat → Nat → Int32) × (Nat → Nat → Option Nat) × (Nat → Nat → Int64)) t => va_P (dC, dI) vwCl (hW N0 ca b0 u.1 u.2.1 u.2.2) t.heap) A) ([.ref (b0 0)] : List Value).toArray s 1 1 A) (F0 m 275 ls []) := by
              intro H locs ls hP hS hl
              refine lv_aload_n hx hb dX7_digest_275 rfl (lv_at hl 0 rfl) ?_
              refine gg0_0 X hP hkN0 hltN0 hi0 (List.mem_of_getElem? (i := 11) rfl) dX7_digest_276 ?_
              refine W.widen (k := 1) (n := 1) (Nat.le_of_ble_eq_true rfl) (Nat.le_of_ble_eq_true rfl) ?_
              exact W.lret hx hb hr (fun t9 ht hW => ⟨⟨(J48 N0 0), (I35, O36, J48), rfl, (Option.some.inj h).symm, gEnd ht (hback _ _ _ _ hP)⟩, hS.F ht⟩) hS.2.2 dX7_digest_279 hlk
            have hL243 : ∀ (fuel : Nat) (p46 : Int32) (J47 : Nat → Nat → Int64) (H : Heap) (locs : List Loc) (ls : Array Slot), f_X7_digest_L243 N0 I35 fuel p46 J47 = some J48 → va_P (dC, dI) vwCl (hW N ca b I35 O36 J47) H → va_S A s.heap H locs → lv_has ls 5 [(0, .ref (b 0)), (1, .ref (b N0)), (4, .int p46)] → W p l e (headSpec wsX7_digest ({ frames := 6, cells := 1, slots := 1, locals := 149 } : Room)).room s m ([.ref (b0 0)] : List Value).toArray below meth c H locs 1 1 (MQ below (va_Ql (fun (r : Int64) (u : (Nat → Nat → Int32) × (Nat → Nat → Option Nat) × (Nat → Nat → Int64)) => res = (r, u)) (fun (u : (Nat → Nat → Int32) × (Nat → Nat → Option Nat) × (Nat → Nat → Int64)) t => va_P (dC, dI) vwCl (hW N0 ca b0 u.1 u.2.1 u.2.2) t.heap) A) ([.ref (b0 0)] : List Value).toArray s 1 1 A) (F0 m 243 ls []) := by
              intro fuel
              induction fuel with
              | zero =>
                intro p46 J47 H locs ls h hP hS hl
                rw [f_X7_digest_L243] at h
                cases h
              | succ fuel ih =>
                intro p46 J47 H locs ls h hP hS hl
                rw [f_X7_digest_L243] at h
                refine lv_iload hx hb dX7_digest_243 (lv_at hl 2 rfl) ?_
                refine lv_aload_n hx hb dX7_digest_245 rfl (lv_at hl 0 rfl) ?_
                refine gg7_4 X hP kc_0 (sk_in hN kc_0 (by decide)) hi7 (List.mem_of_getElem? (i := 9) rfl) dX7_digest_246 ?_
                refine gg2_1 X hP kc_126 (sk_in hN kc_126 (by decide)) hi2 (List.mem_of_getElem? (i := 10) rfl) dX7_digest_249 ?_
                refine lv_icmp_ge (tgt := 275) hx hb dX7_digest_252 (by decide) (fun c54 => ?_) (fun c54 => ?_)
                · have h := gif_t c54 h
                  cases h
                  exact K275 _ _ _ hP hS (lv_sub hl [1] rfl)
                · have h := gif_f c54 h
                  refine lv_aload_n hx hb dX7_digest_255 rfl (lv_at hl 1 rfl) ?_
                  refine lv_aload_n hx hb dX7_digest_256 rfl (lv_at hl 0 rfl) ?_
                  refine gg7_4 X hP kc_0 (sk_in hN kc_0 (by decide)) hi7 (List.mem_of_getElem? (i := 9) rfl) dX7_digest_257 ?_
                  refine lv_iload hx hb dX7_digest_260 (lv_at hl 2 rfl) ?_
                  obtain ⟨q50, hcq50, h⟩ := hb_some h
                  refine gdV_i (As := [.int p46]) (rest := [.ref (b N0)]) (BH := (fun (u : Unit) H => va_P (dC, dI) vwCl (hW N ca b I35 O36 J47) H)) X hP hS (c_X2_at hN hA I35 O36 J47 p46 q50 hcq50) (cwV 1 X.ts gX7_digest_X2_at rfl rfl rfl (by decide +kernel) ⟨Nat.le_of_ble_eq_true rfl, Nat.le_of_ble_eq_true rfl⟩) (gr2 X hP kc_126 (sk_in hN kc_126 (by decide))) rfl hl.1 rfl (Nat.le_of_ble_eq_true rfl) dX7_digest_262 ⟨Nat.le_of_ble_eq_true rfl, Nat.le_of_ble_eq_true rfl⟩ (fun r49 u9 H locs hw hP hS => ?_)
                  have hw := hw.symm
                  subst hw
                  refine lv_i2l (v := (r49).toInt64) hx hb dX7_digest_265 rfl ?_
                  obtain ⟨q52, hcq52, h⟩ := hb_some h
                  refine gdV_v (As := [.long ((r49).toInt64)]) (rest := []) (BH := (fun (u : Nat → Nat → Int64) H => va_P (dC, dI) vwCl (hW N ca b I35 O36 u) H)) X hP hS (c_X0_add hN hA I35 O36 J47 N0 ((r49).toInt64) hkN0 hltN0 q52 hcq52) (cwV 1 X.ts gX7_digest_X0_add rfl rfl rfl (by decide +kernel) ⟨Nat.le_of_ble_eq_true rfl, Nat.le_of_ble_eq_true rfl⟩) (gr0 X hP hkN0 hltN0) rfl hl.1 rfl (Nat.le_of_ble_eq_true rfl) dX7_digest_266 ⟨Nat.le_of_ble_eq_true rfl, Nat.le_of_ble_eq_true rfl⟩ (fun J51 H locs hw hP hS => ?_)
                  have hw := hw.symm
                  subst hw
                  obtain ⟨x53, ex53, h⟩ := hlet_ex h
                  refine lv_iinc (v := x53) (lv' := [(4, .int x53), (0, .ref (b 0)), (1, .ref (b N0))]) hx hb dX7_digest_269 hl (k := 2) rfl (by rw [ex53]; rfl) (by decide) rfl (fun ls hl => ?_)
                  refine lv_goto (tgt := 243) hx hb dX7_digest_272 (by decide) ?_
                  exact ih _ _ _ _ _ h hP hS (lv_sub hl [1, 2, 0] rfl)
            exact hL243 FU _ _ _ _ _ hv hP hS (lv_sub hl [1, 2, 0] rfl)
          have hL195 : ∀ (fuel : Nat) (p41 : Int32) (J42 : Nat → Nat → Int64) (H : Heap) (locs : List Loc) (ls : Array Slot), f_X7_digest_L195 N0 I35 fuel p41 J42 = some J43 → va_P (dC, dI) vwCl (hW N ca b I35 O36 J42) H → va_S A s.heap H locs → lv_has ls 5 [(0, .ref (b 0)), (1, .ref (b N0)), (4, .int p41)] → W p l e (headSpec wsX7_digest ({ frames := 6, cells := 1, slots := 1, locals := 149 } : Room)).room s m ([.ref (b0 0)] : List Value).toArray below meth c H locs 1 1 (MQ below (va_Ql (fun (r : Int64) (u : (Nat → Nat → Int32) × (Nat → Nat → Option Nat) × (Nat → Nat → Int64)) => res = (r, u)) (fun (u : (Nat → Nat → Int32) × (Nat → Nat → Option Nat) × (Nat → Nat → Int64)) t => va_P (dC, dI) vwCl (hW N0 ca b0 u.1 u.2.1 u.2.2) t.heap) A) ([.ref (b0 0)] : List Value).toArray s 1 1 A) (F0 m 195 ls []) := by
            intro fuel
            induction fuel with
            | zero =>
              intro p41 J42 H locs ls h hP hS hl
              rw [f_X7_digest_L195] at h
              cases h
            | succ fuel ih =>
              intro p41 J42 H locs ls h hP hS hl
              rw [f_X7_digest_L195] at h
              refine lv_iload hx hb dX7_digest_195 (lv_at hl 2 rfl) ?_
              refine lv_iconst (v := 2) hx hb dX7_digest_197 (by decide) ?_
              refine lv_icmp_ge (tgt := 228) hx hb dX7_digest_198 (by decide) (fun c62 => ?_) (fun c62 => ?_)
              · have h := gif_t c62 h
                cases h
                exact K228 _ _ _ hP hS (lv_sub hl [0, 1] rfl)
              · have h := gif_f c62 h
                refine lv_aload_n hx hb dX7_digest_201 rfl (lv_at hl 1 rfl) ?_
                refine lv_aload_n hx hb dX7_digest_202 rfl (lv_at hl 0 rfl) ?_
                refine gg7_3 X hP kc_0 (sk_in hN kc_0 (by decide)) hi7 (List.mem_of_getElem? (i := 8) rfl) dX7_digest_203 ?_
                refine lv_iload hx hb dX7_digest_206 (lv_at hl 2 rfl) ?_
                obtain ⟨q56, hcq56, h⟩ := hb_some h
                refine gdV_q (As := [.int p41]) (rest := [.ref (b N0)]) (BH := (fun (u : Unit) H => va_P (dC, dI) vwCl (hW N ca b I35 O36 J42) H)) X hP hS (c_X5_kept hN hA I35 O36 J42 p41 q56 hcq56) (cwV 1 X.ts gX7_digest_X5_kept rfl rfl rfl (by decide +kernel) ⟨Nat.le_of_ble_eq_true rfl, Nat.le_of_ble_eq_true rfl⟩) (gr5 X hP kc_99 (sk_in hN kc_99 (by decide))) rfl hl.1 rfl (Nat.le_of_ble_eq_true rfl) dX7_digest_208 ⟨Nat.le_of_ble_eq_true rfl, Nat.le_of_ble_eq_true rfl⟩ (fun r55 u9 H locs hw hP hS => ?_)
                obtain ⟨r55, rfl, hw⟩ := hw
                have hw := hw.symm
                subst hw
                obtain ⟨p57, hv, h⟩ := hb_some h
                have K219 : ∀ (H : Heap) (locs : List Loc) (ls : Array Slot), va_P (dC, dI) vwCl (hW N ca b I35 O36 J42) H → va_S A s.heap H locs → lv_has ls 5 [(0, .ref (b 0)), (1, .ref (b N0)), (4, .int p41)] → W p l e (headSpec wsX7_digest ({ frames := 6, cells := 1, slots := 1, locals := 149 } : Room)).room s m ([.ref (b0 0)] : List Value).toArray below meth c H locs 1 1 (MQ below (va_Ql (fun (r : Int64) (u : (Nat → Nat → Int32) × (Nat → Nat → Option Nat) × (Nat → Nat → Int64)) => res = (r, u)) (fun (u : (Nat → Nat → Int32) × (Nat → Nat → Option Nat) × (Nat → Nat → Int64)) t => va_P (dC, dI) vwCl (hW N0 ca b0 u.1 u.2.1 u.2.2) t.heap) A) ([.ref (b0 0)] : List Value).toArray s 1 1 A) (F0 m 219 ls [.long p57, .ref (b N0)]) := by
                  intro H locs ls hP hS hl
                  obtain ⟨q59, hcq59, h⟩ := hb_some h
                  refine gdV_v (As := [.long p57]) (rest := []) (BH := (fun (u : Nat → Nat → Int64) H => va_P (dC, dI) vwCl (hW N ca b I35 O36 u) H)) X hP hS (c_X0_add hN hA I35 O36 J42 N0 p57 hkN0 hltN0 q59 hcq59) (cwV 1 X.ts gX7_digest_X0_add rfl rfl rfl (by decide +kernel) ⟨Nat.le_of_ble_eq_true rfl, Nat.le_of_ble_eq_true rfl⟩) (gr0 X hP hkN0 hltN0) rfl hl.1 rfl (Nat.le_of_ble_eq_true rfl) dX7_digest_219 ⟨Nat.le_of_ble_eq_true rfl, Nat.le_of_ble_eq_true rfl⟩ (fun J58 H locs hw hP hS => ?_)
                  have hw := hw.symm
                  subst hw
                  obtain ⟨x60, ex60, h⟩ := hlet_ex h
                  refine lv_iinc (v := x60) (lv' := [(4, .int x60), (0, .ref (b 0)), (1, .ref (b N0))]) hx hb dX7_digest_222 hl (k := 2) rfl (by rw [ex60]; rfl) (by decide) rfl (fun ls hl => ?_)
                  refine lv_goto (tgt := 195) hx hb dX7_digest_225 (by decide) ?_
                  exact ih _ _ _ _ _ h hP hS (lv_sub hl [1, 2, 0] rfl)
                have h := hv
                cases r55 with
                | none =>
                  have h := hopt_n h
                  refine lv_ifnonnullN hx hb dX7_digest_211 ?_
                  refine lv_lconst (v := 0) hx hb dX7_digest_214 (by decide) ?_
                  refine lv_goto (tgt := 219) hx hb dX7_digest_215 (by decide) ?_
                  cases h
                  exact K219 _ _ _ hP hS (lv_sub hl [0, 1, 2] rfl)
                | some n61 =>
                  obtain ⟨hk_n61, h⟩ := hk_some (hopt_s h)
                  refine lv_ifnonnull (tgt := 218) hx hb dX7_digest_211 (by decide) ?_
                  refine lv_lconst (v := 1) hx hb dX7_digest_218 (by decide) ?_
                  cases h
                  exact K219 _ _ _ hP hS (lv_sub hl [0, 1, 2] rfl)
          exact hL195 FU _ _ _ _ _ hv hP hS (lv_sub hl [1, 2, 0] rfl)
        have h := hv
        cases r32 with
        | none =>
          have h := hopt_n h
          refine lv_ifnullN (tgt := 183) hx hb dX7_digest_161 (by decide) ?_
          refine lv_lconst (v := 0) hx hb dX7_digest_183 (by decide) ?_
          cases h
          exact K184 _ _ _ hP hS (lv_sub hl [1, 2] rfl)
        | some n63 =>
          obtain ⟨hk_n63, h⟩ := hk_some (hopt_s h)
          refine lv_ifnull hx hb dX7_digest_161 ?_
          refine lv_aload_n hx hb dX7_digest_164 rfl (lv_at hl 1 rfl) ?_
          refine gg7_0 X hP kc_0 (sk_in hN kc_0 (by decide)) hi7 (List.mem_of_getElem? (i := 4) rfl) dX7_digest_165 ?_
          refine gg3_5 X hP kc_1 (sk_in hN kc_1 (by decide)) hi3 (List.mem_of_getElem? (i := 6) rfl) dX7_digest_168 ?_
          refine lv_if_eq (tgt := 183) hx hb dX7_digest_171 (by decide) (fun c68 => ?_) (fun c68 => ?_)
          · have h := gif_t c68 h
            refine lv_lconst (v := 0) hx hb dX7_digest_183 (by decide) ?_
            cases h
            exact K184 _ _ _ hP hS (lv_sub hl [1, 2] rfl)
          · have h := gif_f c68 h
            refine lv_aload_n hx hb dX7_digest_174 rfl (lv_at hl 1 rfl) ?_
            refine lv_aload_n hx hb dX7_digest_175 rfl (lv_at hl 0 rfl) ?_
            obtain ⟨q67, hcq67, h⟩ := hb_some h
            refine gdV_i (As := [.ref (b n63)]) (rest := [.ref (b N0)]) (BH := (fun (u : (Nat → Nat → Int32) × (Nat → Nat → Option Nat)) H => va_P (dC, dI) vwCl (hW N ca b u.1 u.2 J30) H)) X hP hS (c_X7_foretellBestPace hN hA I23 O24 J30 n63 hk_n63 q67 hcq67) (cwV 1 X.ts gX7_digest_X7_foretellBestPace rfl rfl rfl (by decide +kernel) ⟨Nat.le_of_ble_eq_true rfl, Nat.le_of_ble_eq_true rfl⟩) (gr7 X hP kc_0 (sk_in hN kc_0 (by decide))) rfl hl.1 rfl (Nat.le_of_ble_eq_true rfl) dX7_digest_176 ⟨Nat.le_of_ble_eq_true rfl, Nat.le_of_ble_eq_true rfl⟩ (fun r66 u9 H locs hw hP hS => ?_)
            obtain ⟨I64, O65⟩ := u9
            subst hw
            refine lv_i2l (v := (r66).toInt64) hx hb dX7_digest_179 rfl ?_
            refine lv_goto (tgt := 184) hx hb dX7_digest_180 (by decide) ?_
            cases h
            exact K184 _ _ _ hP hS (lv_sub hl [1, 2] rfl)
      have h := hv
      refine lv_icmp_ne (tgt := 145) hx hb dX7_digest_138 (by decide) (fun c69 => ?_) (fun c69 => ?_)
      · have h := gif_f c69 h
        refine lv_iload_n hx hb dX7_digest_145 rfl (lv_at hl 0 rfl) ?_
        refine lv_i2l (v := (r21).toInt64) hx hb dX7_digest_146 rfl ?_
        cases h
        exact K147 _ _ _ hP hS (lv_sub hl [1, 2] rfl)
      · have h := gif_t c69 h
        refine lv_lconst (v := 0) hx hb dX7_digest_141 (by decide) ?_
        refine lv_goto (tgt := 147) hx hb dX7_digest_142 (by decide) ?_
        cases h
        exact K147 _ _ _ hP hS (lv_sub hl [1, 2] rfl)
    have hL95 : ∀ (fuel : Nat) (p16 : Int32) (J17 : Nat → Nat → Int64) (H : Heap) (locs : List Loc) (ls : Array Slot), f_X7_digest_L95 N0 I10 fuel p16 J17 = some J18 → va_P (dC, dI) vwCl (hW N ca b I10 O13 J17) H → va_S A s.heap H locs → lv_has ls 5 [(0, .ref (b 0)), (1, .ref (b N0)), (2, .int p16)] → W p l e (headSpec wsX7_digest ({ frames := 6, cells := 1, slots := 1, locals := 149 } : Room)).room s m ([.ref (b0 0)] : List Value).toArray below meth c H locs 1 1 (MQ below (va_Ql (fun (r : Int64) (u : (Nat → Nat → Int32) × (Nat → Nat → Option Nat) × (Nat → Nat → Int64)) => res = (r, u)) (fun (u : (Nat → Nat → Int32) × (Nat → Nat → Option Nat) × (Nat → Nat → Int64)) t => va_P (dC, dI) vwCl (hW N0 ca b0 u.1 u.2.1 u.2.2) t.heap) A) ([.ref (b0 0)] : List Value).toArray s 1 1 A) (F0 m 95 ls []) := by
      intro fuel
      induction fuel with
      | zero =>
        intro p16 J17 H locs ls h hP hS hl
        rw [f_X7_digest_L95] at h
        cases h
      | succ fuel ih =>
        intro p16 J17 H locs ls h hP hS hl
        rw [f_X7_digest_L95] at h
        refine lv_iload_n hx hb dX7_digest_95 rfl (lv_at hl 2 rfl) ?_
        refine lv_iconst (v := 4) hx hb dX7_digest_96 (by decide) ?_
        refine lv_icmp_ge (tgt := 119) hx hb dX7_digest_97 (by decide) (fun c75 => ?_) (fun c75 => ?_)
        · have h := gif_t c75 h
          cases h
          exact K119 _ _ _ hP hS (lv_sub hl [0, 1] rfl)
        · have h := gif_f c75 h
          refine lv_aload_n hx hb dX7_digest_100 rfl (lv_at hl 1 rfl) ?_
          refine lv_aload_n hx hb dX7_digest_101 rfl (lv_at hl 0 rfl) ?_
          refine gg7_0 X hP kc_0 (sk_in hN kc_0 (by decide)) hi7 (List.mem_of_getElem? (i := 4) rfl) dX7_digest_102 ?_
          refine lv_iload_n hx hb dX7_digest_105 rfl (lv_at hl 2 rfl) ?_
          obtain ⟨q71, hcq71, h⟩ := hb_some h
          refine gdV_i (As := [.int p16]) (rest := [.ref (b N0)]) (BH := (fun (u : Unit) H => va_P (dC, dI) vwCl (hW N ca b I10 O13 J17) H)) X hP hS (c_X3_limitAt hN hA I10 O13 J17 1 p16 kc_1 q71 hcq71) (cwV 1 X.ts gX7_digest_X3_limitAt rfl rfl rfl (by decide +kernel) ⟨Nat.le_of_ble_eq_true rfl, Nat.le_of_ble_eq_true rfl⟩) (gr3 X hP kc_1 (sk_in hN kc_1 (by decide))) rfl hl.1 rfl (Nat.le_of_ble_eq_true rfl) dX7_digest_106 ⟨Nat.le_of_ble_eq_true rfl, Nat.le_of_ble_eq_true rfl⟩ (fun r70 u9 H locs hw hP hS => ?_)
          have hw := hw.symm
          subst hw
          refine lv_i2l (v := (r70).toInt64) hx hb dX7_digest_109 rfl ?_
          obtain ⟨q73, hcq73, h⟩ := hb_some h
          refine gdV_v (As := [.long ((r70).toInt64)]) (rest := []) (BH := (fun (u : Nat → Nat → Int64) H => va_P (dC, dI) vwCl (hW N ca b I10 O13 u) H)) X hP hS (c_X0_add hN hA I10 O13 J17 N0 ((r70).toInt64) hkN0 hltN0 q73 hcq73) (cwV 1 X.ts gX7_digest_X0_add rfl rfl rfl (by decide +kernel) ⟨Nat.le_of_ble_eq_true rfl, Nat.le_of_ble_eq_true rfl⟩) (gr0 X hP hkN0 hltN0) rfl hl.1 rfl (Nat.le_of_ble_eq_true rfl) dX7_digest_110 ⟨Nat.le_of_ble_eq_true rfl, Nat.le_of_ble_eq_true rfl⟩ (fun J72 H locs hw hP hS => ?_)
          have hw := hw.symm
          subst hw
          obtain ⟨x74, ex74, h⟩ := hlet_ex h
          refine lv_iinc (v := x74) (lv' := [(2, .int x74), (0, .ref (b 0)), (1, .ref (b N0))]) hx hb dX7_digest_113 hl (k := 2) rfl (by rw [ex74]; rfl) (by decide) rfl (fun ls hl => ?_)
          refine lv_goto (tgt := 95) hx hb dX7_digest_116 (by decide) ?_
          exact ih _ _ _ _ _ h hP hS (lv_sub hl [1, 2, 0] rfl)
    exact hL95 FU _ _ _ _ _ hv hP hS (lv_sub hl [1, 2, 0] rfl)
  have hL22 : ∀ (fuel : Nat) (p6 : Int32) (I7 : Nat → Nat → Int32) (O8 : Nat → Nat → Option Nat) (J9 : Nat → Nat → Int64) (H : Heap) (locs : List Loc) (ls : Array Slot), f_X7_digest_L22 N0 fuel p6 I7 O8 J9 = some (I10, O11, J12) → va_P (dC, dI) vwCl (hW N ca b I7 O8 J9) H → va_S A s.heap H locs → lv_has ls 5 [(0, .ref (b 0)), (1, .ref (b N0)), (2, .int p6)] → W p l e (headSpec wsX7_digest ({ frames := 6, cells := 1, slots := 1, locals := 149 } : Room)).room s m ([.ref (b0 0)] : List Value).toArray below meth c H locs 1 1 (MQ below (va_Ql (fun (r : Int64) (u : (Nat → Nat → Int32) × (Nat → Nat → Option Nat) × (Nat → Nat → Int64)) => res = (r, u)) (fun (u : (Nat → Nat → Int32) × (Nat → Nat → Option Nat) × (Nat → Nat → Int64)) t => va_P (dC, dI) vwCl (hW N0 ca b0 u.1 u.2.1 u.2.2) t.heap) A) ([.ref (b0 0)] : List Value).toArray s 1 1 A) (F0 m 22 ls []) := by
    intro fuel
    induction fuel with
    | zero =>
      intro p6 I7 O8 J9 H locs ls h hP hS hl
      rw [f_X7_digest_L22] at h
      cases h
    | succ fuel ih =>
      intro p6 I7 O8 J9 H locs ls h hP hS hl
      rw [f_X7_digest_L22] at h
      refine lv_iload_n hx hb dX7_digest_22 rfl (lv_at hl 2 rfl) ?_
      refine lv_aload_n hx hb dX7_digest_23 rfl (lv_at hl 0 rfl) ?_
      refine gg7_0 X hP kc_0 (sk_in hN kc_0 (by decide)) hi7 (List.mem_of_getElem? (i := 4) rfl) dX7_digest_24 ?_
      refine gg3_3 X hP kc_1 (sk_in hN kc_1 (by decide)) hi3 (List.mem_of_getElem? (i := 5) rfl) dX7_digest_27 ?_
      refine lv_icmp_ge (tgt := 88) hx hb dX7_digest_30 (by decide) (fun c95 => ?_) (fun c95 => ?_)
      · have h := gif_t c95 h
        cases h
        exact K88 _ _ _ hP hS (lv_sub hl [0, 1] rfl)
      · have h := gif_f c95 h
        refine lv_aload_n hx hb dX7_digest_33 rfl (lv_at hl 0 rfl) ?_
        refine gg7_0 X hP kc_0 (sk_in hN kc_0 (by decide)) hi7 (List.mem_of_getElem? (i := 4) rfl) dX7_digest_34 ?_
        refine lv_iload_n hx hb dX7_digest_37 rfl (lv_at hl 2 rfl) ?_
        obtain ⟨q77, hcq77, h⟩ := hb_some h
        refine gdV_q (As := [.int p6]) (rest := []) (BH := (fun (u : Unit) H => va_P (dC, dI) vwCl (hW N ca b I7 O8 J9) H)) X hP hS (c_X3_at hN hA I7 O8 J9 1 p6 kc_1 q77 hcq77) (cwV 1 X.ts gX7_digest_X3_at rfl rfl rfl (by decide +kernel) ⟨Nat.le_of_ble_eq_true rfl, Nat.le_of_ble_eq_true rfl⟩) (gr3 X hP kc_1 (sk_in hN kc_1 (by decide))) rfl hl.1 rfl (Nat.le_of_ble_eq_true rfl) dX7_digest_38 ⟨Nat.le_of_ble_eq_true rfl, Nat.le_of_ble_eq_true rfl⟩ (fun r76 u9 H locs hw hP hS => ?_)
        obtain ⟨r76, rfl, hw⟩ := hw
        have hw := hw.symm
        subst hw
        refine gv_astore_n (r := Option.map b r76) (lv' := [(3, va_rf (Option.map b r76)), (0, .ref (b 0)), (1, .ref (b N0)), (2, .int p6)]) hx hb dX7_digest_41 rfl hl (by decide) rfl (fun ls hl => ?_)
        refine gv_aload_n (r := Option.map b r76) hx hb dX7_digest_42 rfl (lv_at hl 0 rfl) ?_
        obtain ⟨⟨I78, O79, J80⟩, hv, h⟩ := hb_some h
        have K82 : ∀ (H : Heap) (locs : List Loc) (ls : Array Slot), va_P (dC, dI) vwCl (hW N ca b I78 O79 J80) H → va_S A s.heap H locs → lv_has ls 5 [(0, .ref (b 0)), (1, .ref (b N0)), (2, .int p6)] → W p l e (headSpec wsX7_digest ({ frames := 6, cells := 1, slots := 1, locals := 149 } : Room)).room s m ([.ref (b0 0)] : List Value).toArray below meth c H locs 1 1 (MQ below (va_Ql (fun (r : Int64) (u : (Nat → Nat → Int32) × (Nat → Nat → Option Nat) × (Nat → Nat → Int64)) => res = (r, u)) (fun (u : (Nat → Nat → Int32) × (Nat → Nat → Option Nat) × (Nat → Nat → Int64)) t => va_P (dC, dI) vwCl (hW N0 ca b0 u.1 u.2.1 u.2.2) t.heap) A) ([.ref (b0 0)] : List Value).toArray s 1 1 A) (F0 m 82 ls []) := by
          intro H locs ls hP hS hl
          obtain ⟨x81, ex81, h⟩ := hlet_ex h
          refine lv_iinc (v := x81) (lv' := [(2, .int x81), (0, .ref (b 0)), (1, .ref (b N0))]) hx hb dX7_digest_82 hl (k := 2) rfl (by rw [ex81]; rfl) (by decide) rfl (fun ls hl => ?_)
          refine lv_goto (tgt := 22) hx hb dX7_digest_85 (by decide) ?_
          exact ih _ _ _ _ _ _ _ h hP hS (lv_sub hl [1, 2, 0] rfl)
        have h := hv
        cases r76 with
        | none =>
          have h := hopt_n h
          refine lv_ifnullN (tgt := 82) hx hb dX7_digest_43 (by decide) ?_
          cases h
          exact K82 _ _ _ hP hS (lv_sub hl [1, 2, 3] rfl)
        | some n82 =>
          obtain ⟨hk_n82, h⟩ := hk_some (hopt_s h)
          refine lv_ifnull hx hb dX7_digest_43 ?_
          refine lv_aload_n hx hb dX7_digest_46 rfl (lv_at hl 1 rfl) ?_
          refine lv_aload_n hx hb dX7_digest_47 rfl (lv_at hl 2 rfl) ?_
          refine lv_aload_n hx hb dX7_digest_48 rfl (lv_at hl 0 rfl) ?_
          obtain ⟨q84, hcq84, h⟩ := hb_some h
          refine gdV_v (As := [.ref (b N0), .ref (b n82)]) (rest := []) (BH := (fun (u : Nat → Nat → Int64) H => va_P (dC, dI) vwCl (hW N ca b I7 O8 u) H)) X hP hS (c_X7_hashSparrow hN hA I7 O8 J9 N0 n82 hkN0 hltN0 hk_n82 q84 hcq84) (cwV 2 X.ts gX7_digest_X7_hashSparrow rfl rfl rfl (by decide +kernel) ⟨Nat.le_of_ble_eq_true rfl, Nat.le_of_ble_eq_true rfl⟩) (gr7 X hP kc_0 (sk_in hN kc_0 (by decide))) rfl hl.1 rfl (Nat.le_of_ble_eq_true rfl) dX7_digest_49 ⟨Nat.le_of_ble_eq_true rfl, Nat.le_of_ble_eq_true rfl⟩ (fun J83 H locs hw hP hS => ?_)
          have hw := hw.symm
          subst hw
          refine lv_aload_n hx hb dX7_digest_52 rfl (lv_at hl 2 rfl) ?_
          refine lv_aload_n hx hb dX7_digest_53 rfl (lv_at hl 1 rfl) ?_
          refine gg7_0 X hP kc_0 (sk_in hN kc_0 (by decide)) hi7 (List.mem_of_getElem? (i := 4) rfl) dX7_digest_54 ?_
          refine gg3_5 X hP kc_1 (sk_in hN kc_1 (by decide)) hi3 (List.mem_of_getElem? (i := 6) rfl) dX7_digest_57 ?_
          obtain ⟨⟨p85, I86, O87⟩, hv, h⟩ := hb_some h
          have K79 : ∀ (H : Heap) (locs : List Loc) (ls : Array Slot), va_P (dC, dI) vwCl (hW N ca b I86 O87 J83) H → va_S A s.heap H locs → lv_has ls 5 [(0, .ref (b 0)), (1, .ref (b N0)), (2, .int p6)] → W p l e (headSpec wsX7_digest ({ frames := 6, cells := 1, slots := 1, locals := 149 } : Room)).room s m ([.ref (b0 0)] : List Value).toArray below meth c H locs 1 1 (MQ below (va_Ql (fun (r : Int64) (u : (Nat → Nat → Int32) × (Nat → Nat → Option Nat) × (Nat → Nat → Int64)) => res = (r, u)) (fun (u : (Nat → Nat → Int32) × (Nat → Nat → Option Nat) × (Nat → Nat → Int64)) t => va_P (dC, dI) vwCl (hW N0 ca b0 u.1 u.2.1 u.2.2) t.heap) A) ([.ref (b0 0)] : List Value).toArray s 1 1 A) (F0 m 79 ls [.long p85, .ref (b N0)]) := by
            intro H locs ls hP hS hl
            obtain ⟨q89, hcq89, h⟩ := hb_some h
            refine gdV_v (As := [.long p85]) (rest := []) (BH := (fun (u : Nat → Nat → Int64) H => va_P (dC, dI) vwCl (hW N ca b I86 O87 u) H)) X hP hS (c_X0_add hN hA I86 O87 J83 N0 p85 hkN0 hltN0 q89 hcq89) (cwV 1 X.ts gX7_digest_X0_add rfl rfl rfl (by decide +kernel) ⟨Nat.le_of_ble_eq_true rfl, Nat.le_of_ble_eq_true rfl⟩) (gr0 X hP hkN0 hltN0) rfl hl.1 rfl (Nat.le_of_ble_eq_true rfl) dX7_digest_79 ⟨Nat.le_of_ble_eq_true rfl, Nat.le_of_ble_eq_true rfl⟩ (fun J88 H locs hw hP hS => ?_)
            have hw := hw.symm
            subst hw
            cases h
            exact K82 _ _ _ hP hS (lv_sub hl [0, 1, 2] rfl)
          have h := hv
          refine lv_if_eq (tgt := 78) hx hb dX7_digest_60 (by decide) (fun c94 => ?_) (fun c94 => ?_)
          · have h := gif_t c94 h
            refine lv_lconst (v := 0) hx hb dX7_digest_78 (by decide) ?_
            cases h
            exact K79 _ _ _ hP hS (lv_sub hl [1, 2, 3] rfl)
          · have h := gif_f c94 h
            refine lv_aload_n hx hb dX7_digest_63 rfl (lv_at hl 1 rfl) ?_
            refine lv_aload_n hx hb dX7_digest_64 rfl (lv_at hl 0 rfl) ?_
            refine lv_aload_n hx hb dX7_digest_65 rfl (lv_at hl 0 rfl) ?_
            refine gg6_1 X hP hk_n82 (sk_in hN hk_n82 (by decide)) hi6 (List.mem_of_getElem? (i := 7) rfl) dX7_digest_66 ?_
            refine lv_bipush (v := 30) hx hb dX7_digest_69 (by decide) ?_
            obtain ⟨q93, hcq93, h⟩ := hb_some h
            refine gdV_i (As := [.ref (b n82), .int (I7 n82 1), .int (30 : Int32)]) (rest := [.ref (b N0)]) (BH := (fun (u : (Nat → Nat → Int32) × (Nat → Nat → Option Nat)) H => va_P (dC, dI) vwCl (hW N ca b u.1 u.2 J83) H)) X hP hS (c_X7_foretell hN hA I7 O8 J83 n82 (I7 n82 1) (30 : Int32) hk_n82 q93 hcq93) (cwV 3 X.ts gX7_digest_X7_foretell rfl rfl rfl (by decide +kernel) ⟨Nat.le_of_ble_eq_true rfl, Nat.le_of_ble_eq_true rfl⟩) (gr7 X hP kc_0 (sk_in hN kc_0 (by decide))) rfl hl.1 rfl (Nat.le_of_ble_eq_true rfl) dX7_digest_71 ⟨Nat.le_of_ble_eq_true rfl, Nat.le_of_ble_eq_true rfl⟩ (fun r92 u9 H locs hw hP hS => ?_)
            obtain ⟨I90, O91⟩ := u9
            subst hw
            refine lv_i2l (v := (r92).toInt64) hx hb dX7_digest_74 rfl ?_
            refine lv_goto (tgt := 79) hx hb dX7_digest_75 (by decide) ?_
            cases h
            exact K79 _ _ _ hP hS (lv_sub hl [1, 2, 3] rfl)
  exact hL22 FU _ _ _ _ _ _ _ hv hP hS (lv_sub hl [2, 1, 0] rfl)
