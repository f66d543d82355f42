def f_L_enter (a1 : Int32) (a2 : Int32) (a3 : Int32) (I : Nat → Nat → Int32) (O : Nat → Nat → Option Nat) (J : Nat → Nat → Int64) : Option (Int32 × (Nat → Nat → Int32) × (Nat → Nat → Option Nat) × (Nat → Nat → Int64)) :=
  (f_X7_enter a1 a2 a3 I O).bind fun (eq4, I1, O2) => hsum eq4 (fun k9 => 
    if k9 = 1 then
      some ((1 : Int32), I1, O2, J)
    else
    if k9 = 2 then
      some ((2 : Int32), I1, O2, J)
    else
    none) fun r3 =>
  hlet (gup J 137 ((0 : Int32).toNatClampNeg) ((r3).toInt64)) fun J5 =>
  some ((0 : Int32), I1, O2, J5)
set_option maxHeartbeats 8000000 in
set_option maxRecDepth 100000 in
theorem c_L_enter {l : Launch} (hlf : l.stackTraces = false) {dC : Nat → ClassId} {dI : Nat → Nat → Nat} {ca : Nat → ClassId} {b : Nat → Nat} {A : Nat → Prop} {N : Nat} (hN : 138 ≤ N) (hA : gAd A b N) (I : Nat → Nat → Int32) (O : Nat → Nat → Option Nat) (J : Nat → Nat → Int64) (a1 : Int32) (a2 : Int32) (a3 : Int32) (res : Int32 × (Nat → Nat → Int32) × (Nat → Nat → Option Nat) × (Nat → Nat → Int64)) (h : f_L_enter a1 a2 a3 I O J = some res) : Met l yL_enter wsL_enter ({ frames := 7, cells := 1, slots := 6, locals := 113 } : Room) (va_Pc [.ref (b 0), .int a1, .int a2, .int a3, .ref (b 137)] (gPre dC dI ca b A N I O J)) (va_Qi (fun (r : Int32) (u : (Nat → Nat → Int32) × (Nat → Nat → Option Nat) × (Nat → Nat → Int64)) => res = (r, u)) (fun (u : (Nat → Nat → Int32) × (Nat → Nat → Option Nat) × (Nat → Nat → Int64)) t => va_P (dC, dI) vwCl (hW N ca b u.1 u.2.1 u.2.2) t.heap) A) 1 6 A := by
  refine va_MetW (cc := cL_enter) (maxL := 6) (ret := (some .int)) (by decide) rfl ?_
  intro p e s m args below meth c s₁ B hml hv
  obtain ⟨rfl, hP, hK, hA2, hth⟩ := hv
  have hx := B.exec
  have hb := B.bytes
  have hr := B.returns
  have hlk := B.notSynchronized
  have X : gCx p s m ([.ref (b 0), .int a1, .int a2, .int a3, .ref (b 137)] : List Value).toArray c RL cL_enter wsL_enter 6 dC dI ca b A N := ⟨hx, hb, hml, findClass_of_methodNamed B.named, atoms_spec (ws := wsL_enter) B.pre, hK, hA, hA2, hth⟩
  have htab : c.exceptionTable.toList = tableOf [(0, 12, 15, 13), (0, 12, 19, 15)] := vx_table (x := yL_enter) B (atoms_spec (ws := wsL_enter) B.pre _ (List.mem_of_getElem? (i := 0) rfl))
  have hS : va_S A s.heap s.heap [] := va_S.rf
  have hl := lv_entry ([.ref (b 0), .int a1, .int a2, .int a3, .ref (b 137)] : List Value) (n := 6) (Nat.le_of_ble_eq_true rfl)
  rw [lg_entry_eq]
  generalize (lg_sl ([.ref (b 0), .int a1, .int a2, .int a3, .ref (b 137)] : List Value) ++ List.replicate (6 - (lg_sl ([.ref (b 0), .int a1, .int a2, .int a3, .ref (b 137)] : List Value)).length) Slot.unset).toArray = ls at hl ⊢
  have hl : lv_has ls 6 [(0, .ref (b 0)), (1, .int a1), (2, .int a2), (3, .int a3), (4, .ref (b 137))] := hl
  unfold f_L_enter at h
  refine lv_aload hx hb dL_enter_0 (lv_at hl 4 rfl) ?_
  refine lv_iconst (v := 0) hx hb dL_enter_2 (by decide) ?_
  refine lv_aload_n hx hb dL_enter_3 rfl (lv_at hl 0 rfl) ?_
  refine lv_iload_n hx hb dL_enter_4 rfl (lv_at hl 1 rfl) ?_
  refine lv_iload_n hx hb dL_enter_5 rfl (lv_at hl 2 rfl) ?_
  refine lv_iload_n hx hb dL_enter_6 rfl (lv_at hl 3 rfl) ?_
  obtain ⟨q4, hcq4, h⟩ := hb_some h
  refine gxV_i (As := [.int a1, .int a2, .int a3]) (rest := [.int (0 : Int32), .ref (b 137)]) (BH := (fun (u : (Nat → Nat → Int32) × (Nat → Nat → Option Nat)) H => va_P (dC, dI) vwCl (hW N ca b u.1 u.2 J) H)) (BX := (fun (u : (Nat → Nat → Int32) × (Nat → Nat → Option Nat)) H => va_P (dC, dI) vwCl (hW N ca b u.1 u.2 J) H)) X hP hS (c_X7_enter hlf hN hA I O J a1 a2 a3 q4 hcq4) (cwV 3 X.ts gL_enter_X7_enter rfl rfl rfl (by decide +kernel) ⟨Nat.le_of_ble_eq_true rfl, Nat.le_of_ble_eq_true rfl⟩) (gr7 X hP kc_0 (sk_in hN kc_0 (by decide))) rfl hl.1 rfl (Nat.le_of_ble_eq_true rfl) dL_enter_7 ⟨Nat.le_of_ble_eq_true rfl, Nat.le_of_ble_eq_true rfl⟩ (fun k9 u9 H locs ce9 q9 hw hP hS hce hcv hcl => ?_) (fun r3 u9 H locs hw hP hS => ?_)
  · obtain ⟨I1, O2⟩ := u9
    subst hw
    have h := hsum_l h
    by_cases hk1 : k9 = 1
    · have h := gif_t hk1 h
      subst hk1
      refine vx_catch X.ow [] ⟨0, 12, 15, 13⟩ [⟨0, 12, 19, 15⟩] htab (fun z hz => absurd hz List.not_mem_nil) (by decide) (by decide) (X.ts _ (List.mem_of_getElem? (i := 1) rfl)) (va_Nw.use rfl (X.th.2.1.1 1 (by decide))) hce hcv hcl ?_
      refine lv_astore (lv' := [(5, .ref q9), (0, .ref (b 0)), (1, .int a1), (2, .int a2), (3, .int a3), (4, .ref (b 137))]) hx hb dL_enter_15 hl (by decide) rfl (fun ls hl => ?_)
      refine lv_iconst (v := 1) hx hb dL_enter_17 (by decide) ?_
      refine W.widen (k := 1) (n := 6) (Nat.le_of_ble_eq_true rfl) (Nat.le_of_ble_eq_true rfl) ?_
      exact W.iret hx hb hr (fun t9 ht hW => ⟨⟨(1 : Int32), (I1, O2, J), rfl, (Option.some.inj h).symm, gEnd ht hP⟩, hS.F ht⟩) hS.2.2 dL_enter_18 hlk
    have h := gif_f hk1 h
    by_cases hk2 : k9 = 2
    · have h := gif_t hk2 h
      subst hk2
      refine vx_catch X.ow [⟨0, 12, 15, 13⟩] ⟨0, 12, 19, 15⟩ [] htab (fun z hz => by
        rcases List.mem_cons.mp hz with rfl | hz
        · exact Or.inr ⟨by decide, _, X.ts _ (List.mem_of_getElem? (i := 1) rfl), X.th.2.1.2.2.2 2 1 (by decide) (by decide) (by decide)⟩
        · exact absurd hz List.not_mem_nil) (by decide) (by decide) (X.ts _ (List.mem_of_getElem? (i := 2) rfl)) (va_Nw.use rfl (X.th.2.1.1 2 (by decide))) hce hcv hcl ?_
      refine lv_astore (lv' := [(5, .ref q9), (0, .ref (b 0)), (1, .int a1), (2, .int a2), (3, .int a3), (4, .ref (b 137))]) hx hb dL_enter_19 hl (by decide) rfl (fun ls hl => ?_)
      refine lv_iconst (v := 2) hx hb dL_enter_21 (by decide) ?_
      refine W.widen (k := 1) (n := 6) (Nat.le_of_ble_eq_true rfl) (Nat.le_of_ble_eq_true rfl) ?_
      exact W.iret hx hb hr (fun t9 ht hW => ⟨⟨(2 : Int32), (I1, O2, J), rfl, (Option.some.inj h).symm, gEnd ht hP⟩, hS.F ht⟩) hS.2.2 dL_enter_22 hlk
    have h := gif_f hk2 h
    cases h
  obtain ⟨I1, O2⟩ := u9
  subst hw
  have h := hsum_r h
  refine lv_i2l (v := (r3).toInt64) hx hb dL_enter_10 rfl ?_
  refine gs23 X hP hS kc_137 (sk_in hN kc_137 (by decide)) (L := 1) (by decide) (by decide) dL_enter_11 (fun H locs hP hS => ?_)
  obtain ⟨J5, eJ5, h⟩ := hlet_ex h
  rw [← eJ5] at hP
  refine lv_goto (tgt := 23) hx hb dL_enter_12 (by decide) ?_
  refine lv_iconst (v := 0) hx hb dL_enter_23 (by decide) ?_
  refine W.widen (k := 1) (n := 6) (Nat.le_of_ble_eq_true rfl) (Nat.le_of_ble_eq_true rfl) ?_
  exact W.iret hx hb hr (fun t9 ht hW => ⟨⟨(0 : Int32), (I1, O2, J5), rfl, (Option.some.inj h).symm, gEnd ht hP⟩, hS.F ht⟩) hS.2.2 dL_enter_24 hlk
def f_L_setPace (a1 : Int32) (a2 : Int32) (I : Nat → Nat → Int32) (O : Nat → Nat → Option Nat) (J : Nat → Nat → Int64) : Option (Int32 × (Nat → Nat → Int32) × (Nat → Nat → Option Nat) × (Nat → Nat → Int64)) :=
  (f_X7_setPace a1 a2 I O).bind fun (eq4, I1, O2) => hsum eq4 (fun k9 => 
    if k9 = 0 then
      some ((1 : Int32), I1, O2, J)
    else
    if k9 = 1 then
      some ((2 : Int32), I1, O2, J)
    else
    none) fun r3 =>
  hlet (gup J 137 ((0 : Int32).toNatClampNeg) ((r3).toInt64)) fun J5 =>
  some ((0 : Int32), I1, O2, J5)
set_option maxHeartbeats 8000000 in
set_option maxRecDepth 100000 in
theorem c_L_setPace {l : Launch} (hlf : l.stackTraces = false) {dC : Nat → ClassId} {dI : Nat → Nat → Nat} {ca : Nat → ClassId} {b : Nat → Nat} {A : Nat → Prop} {N : Nat} (hN : 138 ≤ N) (hA : gAd A b N) (I : Nat → Nat → Int32) (O : Nat → Nat → Option Nat) (J : Nat → Nat → Int64) (a1 : Int32) (a2 : Int32) (res : Int32 × (Nat → Nat → Int32) × (Nat → Nat → Option Nat) × (Nat → Nat → Int64)) (h : f_L_setPace a1 a2 I O J = some res) : Met l yL_setPace wsL_setPace ({ frames := 8, cells := 2, slots := 12, locals := 136 } : Room) (va_Pc [.ref (b 0), .int a1, .int a2, .ref (b 137)] (gPre dC dI ca b A N I O J)) (va_Qi (fun (r : Int32) (u : (Nat → Nat → Int32) × (Nat → Nat → Option Nat) × (Nat → Nat → Int64)) => res = (r, u)) (fun (u : (Nat → Nat → Int32) × (Nat → Nat → Option Nat) × (Nat → Nat → Int64)) t => va_P (dC, dI) vwCl (hW N ca b u.1 u.2.1 u.2.2) t.heap) A) 2 12 A := by
  refine va_MetW (cc := cL_setPace) (maxL := 5) (ret := (some .int)) (by decide) rfl ?_
  intro p e s m args below meth c s₁ B hml hv
  obtain ⟨rfl, hP, hK, hA2, hth⟩ := hv
  have hx := B.exec
  have hb := B.bytes
  have hr := B.returns
  have hlk := B.notSynchronized
  have X : gCx p s m ([.ref (b 0), .int a1, .int a2, .ref (b 137)] : List Value).toArray c RL cL_setPace wsL_setPace 5 dC dI ca b A N := ⟨hx, hb, hml, findClass_of_methodNamed B.named, atoms_spec (ws := wsL_setPace) B.pre, hK, hA, hA2, hth⟩
  have htab : c.exceptionTable.toList = tableOf [(0, 10, 13, 21), (0, 10, 17, 13)] := vx_table (x := yL_setPace) B (atoms_spec (ws := wsL_setPace) B.pre _ (List.mem_of_getElem? (i := 0) rfl))
  have hS : va_S A s.heap s.heap [] := va_S.rf
  have hl := lv_entry ([.ref (b 0), .int a1, .int a2, .ref (b 137)] : List Value) (n := 5) (Nat.le_of_ble_eq_true rfl)
  rw [lg_entry_eq]
  generalize (lg_sl ([.ref (b 0), .int a1, .int a2, .ref (b 137)] : List Value) ++ List.replicate (5 - (lg_sl ([.ref (b 0), .int a1, .int a2, .ref (b 137)] : List Value)).length) Slot.unset).toArray = ls at hl ⊢
  have hl : lv_has ls 5 [(0, .ref (b 0)), (1, .int a1), (2, .int a2), (3, .ref (b 137))] := hl
  unfold f_L_setPace at h
  refine lv_aload_n hx hb dL_setPace_0 rfl (lv_at hl 3 rfl) ?_
  refine lv_iconst (v := 0) hx hb dL_setPace_1 (by decide) ?_
  refine lv_aload_n hx hb dL_setPace_2 rfl (lv_at hl 0 rfl) ?_
  refine lv_iload_n hx hb dL_setPace_3 rfl (lv_at hl 1 rfl) ?_
  refine lv_iload_n hx hb dL_setPace_4 rfl (lv_at hl 2 rfl) ?_
  obtain ⟨q4, hcq4, h⟩ := hb_some h
  refine gxV_i (As := [.int a1, .int a2]) (rest := [.int (0 : Int32), .ref (b 137)]) (BH := (fun (u : (Nat → Nat → Int32) × (Nat → Nat → Option Nat)) H => va_P (dC, dI) vwCl (hW N ca b u.1 u.2 J) H)) (BX := (fun (u : (Nat → Nat → Int32) × (Nat → Nat → Option Nat)) H => va_P (dC, dI) vwCl (hW N ca b u.1 u.2 J) H)) X hP hS (c_X7_setPace hlf hN hA I O J a1 a2 q4 hcq4) (cwV 2 X.ts gL_setPace_X7_setPace rfl rfl rfl (by decide +kernel) ⟨Nat.le_of_ble_eq_true rfl, Nat.le_of_ble_eq_true rfl⟩) (gr7 X hP kc_0 (sk_in hN kc_0 (by decide))) rfl hl.1 rfl (Nat.le_of_ble_eq_true rfl) dL_setPace_5 ⟨Nat.le_of_ble_eq_true rfl, Nat.le_of_ble_eq_true rfl⟩ (fun k9 u9 H locs ce9 q9 hw hP hS hce hcv hcl => ?_) (fun r3 u9 H locs hw hP hS => ?_)
  · obtain ⟨I1, O2⟩ := u9
    subst hw
    have h := hsum_l h
    by_cases hk0 : k9 = 0
    · have h := gif_t hk0 h
      subst hk0
      refine vx_catch X.ow [] ⟨0, 10, 13, 21⟩ [⟨0, 10, 17, 13⟩] htab (fun z hz => absurd hz List.not_mem_nil) (by decide) (by decide) (X.ts _ (List.mem_of_getElem? (i := 1) rfl)) (va_Nw.use rfl (X.th.2.1.1 0 (by decide))) hce hcv hcl ?_
      refine lv_astore (lv' := [(4, .ref q9), (0, .ref (b 0)), (1, .int a1), (2, .int a2), (3, .ref (b 137))]) hx hb dL_setPace_13 hl (by decide) rfl (fun ls hl => ?_)
      refine lv_iconst (v := 1) hx hb dL_setPace_15 (by decide) ?_
      refine W.widen (k := 2) (n := 12) (Nat.le_of_ble_eq_true rfl) (Nat.le_of_ble_eq_true rfl) ?_
      exact W.iret hx hb hr (fun t9 ht hW => ⟨⟨(1 : Int32), (I1, O2, J), rfl, (Option.some.inj h).symm, gEnd ht hP⟩, hS.F ht⟩) hS.2.2 dL_setPace_16 hlk
    have h := gif_f hk0 h
    by_cases hk1 : k9 = 1
    · have h := gif_t hk1 h
      subst hk1
      refine vx_catch X.ow [⟨0, 10, 13, 21⟩] ⟨0, 10, 17, 13⟩ [] htab (fun z hz => by
        rcases List.mem_cons.mp hz with rfl | hz
        · exact Or.inr ⟨by decide, _, X.ts _ (List.mem_of_getElem? (i := 1) rfl), X.th.2.1.2.2.2 1 0 (by decide) (by decide) (by decide)⟩
        · exact absurd hz List.not_mem_nil) (by decide) (by decide) (X.ts _ (List.mem_of_getElem? (i := 2) rfl)) (va_Nw.use rfl (X.th.2.1.1 1 (by decide))) hce hcv hcl ?_
      refine lv_astore (lv' := [(4, .ref q9), (0, .ref (b 0)), (1, .int a1), (2, .int a2), (3, .ref (b 137))]) hx hb dL_setPace_17 hl (by decide) rfl (fun ls hl => ?_)
      refine lv_iconst (v := 2) hx hb dL_setPace_19 (by decide) ?_
      refine W.widen (k := 2) (n := 12) (Nat.le_of_ble_eq_true rfl) (Nat.le_of_ble_eq_true rfl) ?_
      exact W.iret hx hb hr (fun t9 ht hW => ⟨⟨(2 : Int32), (I1, O2, J), rfl, (Option.some.inj h).symm, gEnd ht hP⟩, hS.F ht⟩) hS.2.2 dL_setPace_20 hlk
    have h := gif_f hk1 h
    cases h
  obtain ⟨I1, O2⟩ := u9
  subst hw
  have h := hsum_r h
  refine lv_i2l (v := (r3).toInt64) hx hb dL_setPace_8 rfl ?_
  refine gs23 X hP hS kc_137 (sk_in hN kc_137 (by decide)) (L := 1) (by decide) (by decide) dL_setPace_9 (fun H locs hP hS => ?_)
  obtain ⟨J5, eJ5, h⟩ := hlet_ex h
  rw [← eJ5] at hP
  refine lv_goto (tgt := 21) hx hb dL_setPace_10 (by decide) ?_
  refine lv_iconst (v := 0) hx hb dL_setPace_21 (by decide) ?_
  refine W.widen (k := 2) (n := 12) (Nat.le_of_ble_eq_true rfl) (Nat.le_of_ble_eq_true rfl) ?_
  exact W.iret hx hb hr (fun t9 ht hW => ⟨⟨(0 : Int32), (I1, O2, J5), rfl, (Option.some.inj h).symm, gEnd ht hP⟩, hS.F ht⟩) hS.2.2 dL_setPace_22 hlk
def f_L_callIn (a1 : Int32) (I : Nat → Nat → Int32) (O : Nat → Nat → Option Nat) (J : Nat → Nat → Int64) : Option (Int32 × (Nat → Nat → Int32) × (Nat → Nat → Option Nat) × (Nat → Nat → Int64)) :=
  (f_X7_callIn a1 I O).bind fun (eq4, I1, O2) => hsum eq4 (fun k9 => 
    if k9 = 0 then
      some ((1 : Int32), I1, O2, J)
    else
    if k9 = 2 then
      some ((2 : Int32), I1, O2, J)
    else
    none) fun r3 =>
  (show Option (Int64) from
    if r3 = 0 then
      some (0 : Int64)
    else
      some (1 : Int64)).bind fun p5 =>
  hlet (gup J 137 ((0 : Int32).toNatClampNeg) p5) fun J6 =>
  some ((0 : Int32), I1, O2, J6)
set_option maxHeartbeats 8000000 in
set_option maxRecDepth 100000 in
theorem c_L_callIn {l : Launch} (hlf : l.stackTraces = false) {dC : Nat → ClassId} {dI : Nat → Nat → Nat} {ca : Nat → ClassId} {b : Nat → Nat} {A : Nat → Prop} {N : Nat} (hN : 138 ≤ N) (hA : gAd A b N) (I : Nat → Nat → Int32) (O : Nat → Nat → Option Nat) (J : Nat → Nat → Int64) (a1 : Int32) (res : Int32 × (Nat → Nat → Int32) × (Nat → Nat → Option Nat) × (Nat → Nat → Int64)) (h : f_L_callIn a1 I O J = some res) : Met l yL_callIn wsL_callIn ({ frames := 8, cells := 2, slots := 12, locals := 134 } : Room) (va_Pc [.ref (b 0), .int a1, .ref (b 137)] (gPre dC dI ca b A N I O J)) (va_Qi (fun (r : Int32) (u : (Nat → Nat → Int32) × (Nat → Nat → Option Nat) × (Nat → Nat → Int64)) => res = (r, u)) (fun (u : (Nat → Nat → Int32) × (Nat → Nat → Option Nat) × (Nat → Nat → Int64)) t => va_P (dC, dI) vwCl (hW N ca b u.1 u.2.1 u.2.2) t.heap) A) 2 12 A := by
  refine va_MetW (cc := cL_callIn) (maxL := 4) (ret := (some .int)) (by decide) rfl ?_
  intro p e s m args below meth c s₁ B hml hv
  obtain ⟨rfl, hP, hK, hA2, hth⟩ := hv
  have hx := B.exec
  have hb := B.bytes
  have hr := B.returns
  have hlk := B.notSynchronized
  have X : gCx p s m ([.ref (b 0), .int a1, .ref (b 137)] : List Value).toArray c RL cL_callIn wsL_callIn 4 dC dI ca b A N := ⟨hx, hb, hml, findClass_of_methodNamed B.named, atoms_spec (ws := wsL_callIn) B.pre, hK, hA, hA2, hth⟩
  have htab : c.exceptionTable.toList = tableOf [(0, 16, 19, 21), (0, 16, 22, 15)] := vx_table (x := yL_callIn) B (atoms_spec (ws := wsL_callIn) B.pre _ (List.mem_of_getElem? (i := 0) rfl))
  have hS : va_S A s.heap s.heap [] := va_S.rf
  have hl := lv_entry ([.ref (b 0), .int a1, .ref (b 137)] : List Value) (n := 4) (Nat.le_of_ble_eq_true rfl)
  rw [lg_entry_eq]
  generalize (lg_sl ([.ref (b 0), .int a1, .ref (b 137)] : List Value) ++ List.replicate (4 - (lg_sl ([.ref (b 0), .int a1, .ref (b 137)] : List Value)).length) Slot.unset).toArray = ls at hl ⊢
  have hl : lv_has ls 4 [(0, .ref (b 0)), (1, .int a1), (2, .ref (b 137))] := hl
  unfold f_L_callIn at h
  refine lv_aload_n hx hb dL_callIn_0 rfl (lv_at hl 2 rfl) ?_
  refine lv_iconst (v := 0) hx hb dL_callIn_1 (by decide) ?_
  refine lv_aload_n hx hb dL_callIn_2 rfl (lv_at hl 0 rfl) ?_
  refine lv_iload_n hx hb dL_callIn_3 rfl (lv_at hl 1 rfl) ?_
  obtain ⟨q4, hcq4, h⟩ := hb_some h
  refine gxV_i (As := [.int a1]) (rest := [.int (0 : Int32), .ref (b 137)]) (BH := (fun (u : (Nat → Nat → Int32) × (Nat → Nat → Option Nat)) H => va_P (dC, dI) vwCl (hW N ca b u.1 u.2 J) H)) (BX := (fun (u : (Nat → Nat → Int32) × (Nat → Nat → Option Nat)) H => va_P (dC, dI) vwCl (hW N ca b u.1 u.2 J) H)) X hP hS (c_X7_callIn hlf hN hA I O J a1 q4 hcq4) (cwV 1 X.ts gL_callIn_X7_callIn rfl rfl rfl (by decide +kernel) ⟨Nat.le_of_ble_eq_true rfl, Nat.le_of_ble_eq_true rfl⟩) (gr7 X hP kc_0 (sk_in hN kc_0 (by decide))) rfl hl.1 rfl (Nat.le_of_ble_eq_true rfl) dL_callIn_4 ⟨Nat.le_of_ble_eq_true rfl, Nat.le_of_ble_eq_true rfl⟩ (fun k9 u9 H locs ce9 q9 hw hP hS hce hcv hcl => ?_) (fun r3 u9 H locs hw hP hS => ?_)
  · obtain ⟨I1, O2⟩ := u9
    subst hw
    have h := hsum_l h
    by_cases hk0 : k9 = 0
    · have h := gif_t hk0 h
      subst hk0
      refine vx_catch X.ow [] ⟨0, 16, 19, 21⟩ [⟨0, 16, 22, 15⟩] htab (fun z hz => absurd hz List.not_mem_nil) (by decide) (by decide) (X.ts _ (List.mem_of_getElem? (i := 1) rfl)) (va_Nw.use rfl (X.th.2.1.1 0 (by decide))) hce hcv hcl ?_
      refine lv_astore_n (lv' := [(3, .ref q9), (0, .ref (b 0)), (1, .int a1), (2, .ref (b 137))]) hx hb dL_callIn_19 rfl hl (by decide) rfl (fun ls hl => ?_)
      refine lv_iconst (v := 1) hx hb dL_callIn_20 (by decide) ?_
      refine W.widen (k := 2) (n := 12) (Nat.le_of_ble_eq_true rfl) (Nat.le_of_ble_eq_true rfl) ?_
      exact W.iret hx hb hr (fun t9 ht hW => ⟨⟨(1 : Int32), (I1, O2, J), rfl, (Option.some.inj h).symm, gEnd ht hP⟩, hS.F ht⟩) hS.2.2 dL_callIn_21 hlk
    have h := gif_f hk0 h
    by_cases hk2 : k9 = 2
    · have h := gif_t hk2 h
      subst hk2
      refine vx_catch X.ow [⟨0, 16, 19, 21⟩] ⟨0, 16, 22, 15⟩ [] htab (fun z hz => by
        rcases List.mem_cons.mp hz with rfl | hz
        · exact Or.inr ⟨by decide, _, X.ts _ (List.mem_of_getElem? (i := 1) rfl), X.th.2.1.2.2.2 2 0 (by decide) (by decide) (by decide)⟩
        · exact absurd hz List.not_mem_nil) (by decide) (by decide) (X.ts _ (List.mem_of_getElem? (i := 2) rfl)) (va_Nw.use rfl (X.th.2.1.1 2 (by decide))) hce hcv hcl ?_
      refine lv_astore_n (lv' := [(3, .ref q9), (0, .ref (b 0)), (1, .int a1), (2, .ref (b 137))]) hx hb dL_callIn_22 rfl hl (by decide) rfl (fun ls hl => ?_)
      refine lv_iconst (v := 2) hx hb dL_callIn_23 (by decide) ?_
      refine W.widen (k := 2) (n := 12) (Nat.le_of_ble_eq_true rfl) (Nat.le_of_ble_eq_true rfl) ?_
      exact W.iret hx hb hr (fun t9 ht hW => ⟨⟨(2 : Int32), (I1, O2, J), rfl, (Option.some.inj h).symm, gEnd ht hP⟩, hS.F ht⟩) hS.2.2 dL_callIn_24 hlk
    have h := gif_f hk2 h
    cases h
  obtain ⟨I1, O2⟩ := u9
  subst hw
  have h := hsum_r h
  obtain ⟨p5, hv, h⟩ := hb_some h
  have K15 : ∀ (H : Heap) (locs : List Loc) (ls : Array Slot), va_P (dC, dI) vwCl (hW N ca b I1 O2 J) H → va_S A s.heap H locs → lv_has ls 4 [] → W p l e (headSpec wsL_callIn ({ frames := 8, cells := 2, slots := 12, locals := 134 } : Room)).room s m ([.ref (b 0), .int a1, .ref (b 137)] : List Value).toArray below meth c H locs 2 12 (MQ below (va_Qi (fun (r : Int32) (u : (Nat → Nat → Int32) × (Nat → Nat → Option Nat) × (Nat → Nat → Int64)) => res = (r, u)) (fun (u : (Nat → Nat → Int32) × (Nat → Nat → Option Nat) × (Nat → Nat → Int64)) t => va_P (dC, dI) vwCl (hW N ca b u.1 u.2.1 u.2.2) t.heap) A) ([.ref (b 0), .int a1, .ref (b 137)] : List Value).toArray s 2 12 A) (F0 m 15 ls [.long p5, .int (0 : Int32), .ref (b 137)]) := by
    intro H locs ls hP hS hl
    refine gs23 X hP hS kc_137 (sk_in hN kc_137 (by decide)) (L := 1) (by decide) (by decide) dL_callIn_15 (fun H locs hP hS => ?_)
    obtain ⟨J6, eJ6, h⟩ := hlet_ex h
    rw [← eJ6] at hP
    refine lv_goto (tgt := 25) hx hb dL_callIn_16 (by decide) ?_
    refine lv_iconst (v := 0) hx hb dL_callIn_25 (by decide) ?_
    refine W.widen (k := 2) (n := 12) (Nat.le_of_ble_eq_true rfl) (Nat.le_of_ble_eq_true rfl) ?_
    exact W.iret hx hb hr (fun t9 ht hW => ⟨⟨(0 : Int32), (I1, O2, J6), rfl, (Option.some.inj h).symm, gEnd ht hP⟩, hS.F ht⟩) hS.2.2 dL_callIn_26 hlk
  have h := hv
  refine lv_if_eq (tgt := 14) hx hb dL_callIn_7 (by decide) (fun c7 => ?_) (fun c7 => ?_)
  · have h := gif_t c7 h
    refine lv_lconst (v := 0) hx hb dL_callIn_14 (by decide) ?_
    cases h
    exact K15 _ _ _ hP hS (lv_sub hl [] rfl)
  · have h := gif_f c7 h
    refine lv_lconst (v := 1) hx hb dL_callIn_10 (by decide) ?_
    refine lv_goto (tgt := 15) hx hb dL_callIn_11 (by decide) ?_
    cases h
    exact K15 _ _ _ hP hS (lv_sub hl [] rfl)
def f_L_pair (a1 : Int32) (a2 : Int32) (I : Nat → Nat → Int32) (O : Nat → Nat → Option Nat) (J : Nat → Nat → Int64) : Option (Int32 × (Nat → Nat → Int32) × (Nat → Nat → Option Nat) × (Nat → Nat → Int64)) :=
  (f_X7_pair a1 a2 I O).bind fun (eq4, I1, O2) => hsum eq4 (fun k9 => 
    if k9 = 0 then
      some ((1 : Int32), I1, O2, J)
    else
    if k9 = 1 then
      some ((2 : Int32), I1, O2, J)
    else
    none) fun r3 =>
  hlet (gup J 137 ((0 : Int32).toNatClampNeg) ((r3).toInt64)) fun J5 =>
  some ((0 : Int32), I1, O2, J5)
set_option maxHeartbeats 8000000 in
set_option maxRecDepth 100000 in
theorem c_L_pair {l : Launch} (hlf : l.stackTraces = false) {dC : Nat → ClassId} {dI : Nat → Nat → Nat} {ca : Nat → ClassId} {b : Nat → Nat} {A : Nat → Prop} {N : Nat} (hN : 138 ≤ N) (hA : gAd A b N) (I : Nat → Nat → Int32) (O : Nat → Nat → Option Nat) (J : Nat → Nat → Int64) (a1 : Int32) (a2 : Int32) (res : Int32 × (Nat → Nat → Int32) × (Nat → Nat → Option Nat) × (Nat → Nat → Int64)) (h : f_L_pair a1 a2 I O J = some res) : Met l yL_pair wsL_pair ({ frames := 8, cells := 3, slots := 18, locals := 136 } : Room) (va_Pc [.ref (b 0), .int a1, .int a2, .ref (b 137)] (gPre dC dI ca b A N I O J)) (va_Qi (fun (r : Int32) (u : (Nat → Nat → Int32) × (Nat → Nat → Option Nat) × (Nat → Nat → Int64)) => res = (r, u)) (fun (u : (Nat → Nat → Int32) × (Nat → Nat → Option Nat) × (Nat → Nat → Int64)) t => va_P (dC, dI) vwCl (hW N ca b u.1 u.2.1 u.2.2) t.heap) A) 3 18 A := by
  refine va_MetW (cc := cL_pair) (maxL := 5) (ret := (some .int)) (by decide) rfl ?_
  intro p e s m args below meth c s₁ B hml hv
  obtain ⟨rfl, hP, hK, hA2, hth⟩ := hv
  have hx := B.exec
  have hb := B.bytes
  have hr := B.returns
  have hlk := B.notSynchronized
  have X : gCx p s m ([.ref (b 0), .int a1, .int a2, .ref (b 137)] : List Value).toArray c RL cL_pair wsL_pair 5 dC dI ca b A N := ⟨hx, hb, hml, findClass_of_methodNamed B.named, atoms_spec (ws := wsL_pair) B.pre, hK, hA, hA2, hth⟩
  have htab : c.exceptionTable.toList = tableOf [(0, 10, 13, 21), (0, 10, 17, 13)] := vx_table (x := yL_pair) B (atoms_spec (ws := wsL_pair) B.pre _ (List.mem_of_getElem? (i := 0) rfl))
  have hS : va_S A s.heap s.heap [] := va_S.rf
  have hl := lv_entry ([.ref (b 0), .int a1, .int a2, .ref (b 137)] : List Value) (n := 5) (Nat.le_of_ble_eq_true rfl)
  rw [lg_entry_eq]
  generalize (lg_sl ([.ref (b 0), .int a1, .int a2, .ref (b 137)] : List Value) ++ List.replicate (5 - (lg_sl ([.ref (b 0), .int a1, .int a2, .ref (b 137)] : List Value)).length) Slot.unset).toArray = ls at hl ⊢
  have hl : lv_has ls 5 [(0, .ref (b 0)), (1, .int a1), (2, .int a2), (3, .ref (b 137))] := hl
  unfold f_L_pair at h
  refine lv_aload_n hx hb dL_pair_0 rfl (lv_at hl 3 rfl) ?_
  refine lv_iconst (v := 0) hx hb dL_pair_1 (by decide) ?_
  refine lv_aload_n hx hb dL_pair_2 rfl (lv_at hl 0 rfl) ?_
  refine lv_iload_n hx hb dL_pair_3 rfl (lv_at hl 1 rfl) ?_
  refine lv_iload_n hx hb dL_pair_4 rfl (lv_at hl 2 rfl) ?_
  obtain ⟨q4, hcq4, h⟩ := hb_some h
  refine gxV_i (As := [.int a1, .int a2]) (rest := [.int (0 : Int32), .ref (b 137)]) (BH := (fun (u : (Nat → Nat → Int32) × (Nat → Nat → Option Nat)) H => va_P (dC, dI) vwCl (hW N ca b u.1 u.2 J) H)) (BX := (fun (u : (Nat → Nat → Int32) × (Nat → Nat → Option Nat)) H => va_P (dC, dI) vwCl (hW N ca b u.1 u.2 J) H)) X hP hS (c_X7_pair hlf hN hA I O J a1 a2 q4 hcq4) (cwV 2 X.ts gL_pair_X7_pair rfl rfl rfl (by decide +kernel) ⟨Nat.le_of_ble_eq_true rfl, Nat.le_of_ble_eq_true rfl⟩) (gr7 X hP kc_0 (sk_in hN kc_0 (by decide))) rfl hl.1 rfl (Nat.le_of_ble_eq_true rfl) dL_pair_5 ⟨Nat.le_of_ble_eq_true rfl, Nat.le_of_ble_eq_true rfl⟩ (fun k9 u9 H locs ce9 q9 hw hP hS hce hcv hcl => ?_) (fun r3 u9 H locs hw hP hS => ?_)
  · obtain ⟨I1, O2⟩ := u9
    subst hw
    have h := hsum_l h
    by_cases hk0 : k9 = 0
    · have h := gif_t hk0 h
      subst hk0
      refine vx_catch X.ow [] ⟨0, 10, 13, 21⟩ [⟨0, 10, 17, 13⟩] htab (fun z hz => absurd hz List.not_mem_nil) (by decide) (by decide) (X.ts _ (List.mem_of_getElem? (i := 1) rfl)) (va_Nw.use rfl (X.th.2.1.1 0 (by decide))) hce hcv hcl ?_
      refine lv_astore (lv' := [(4, .ref q9), (0, .ref (b 0)), (1, .int a1), (2, .int a2), (3, .ref (b 137))]) hx hb dL_pair_13 hl (by decide) rfl (fun ls hl => ?_)
      refine lv_iconst (v := 1) hx hb dL_pair_15 (by decide) ?_
      refine W.widen (k := 3) (n := 18) (Nat.le_of_ble_eq_true rfl) (Nat.le_of_ble_eq_true rfl) ?_
      exact W.iret hx hb hr (fun t9 ht hW => ⟨⟨(1 : Int32), (I1, O2, J), rfl, (Option.some.inj h).symm, gEnd ht hP⟩, hS.F ht⟩) hS.2.2 dL_pair_16 hlk
    have h := gif_f hk0 h
    by_cases hk1 : k9 = 1
    · have h := gif_t hk1 h
      subst hk1
      refine vx_catch X.ow [⟨0, 10, 13, 21⟩] ⟨0, 10, 17, 13⟩ [] htab (fun z hz => by
        rcases List.mem_cons.mp hz with rfl | hz
        · exact Or.inr ⟨by decide, _, X.ts _ (List.mem_of_getElem? (i := 1) rfl), X.th.2.1.2.2.2 1 0 (by decide) (by decide) (by decide)⟩
        · exact absurd hz List.not_mem_nil) (by decide) (by decide) (X.ts _ (List.mem_of_getElem? (i := 2) rfl)) (va_Nw.use rfl (X.th.2.1.1 1 (by decide))) hce hcv hcl ?_
      refine lv_astore (lv' := [(4, .ref q9), (0, .ref (b 0)), (1, .int a1), (2, .int a2), (3, .ref (b 137))]) hx hb dL_pair_17 hl (by decide) rfl (fun ls hl => ?_)
      refine lv_iconst (v := 2) hx hb dL_pair_19 (by decide) ?_
      refine W.widen (k := 3) (n := 18) (Nat.le_of_ble_eq_true rfl) (Nat.le_of_ble_eq_true rfl) ?_
      exact W.iret hx hb hr (fun t9 ht hW => ⟨⟨(2 : Int32), (I1, O2, J), rfl, (Option.some.inj h).symm, gEnd ht hP⟩, hS.F ht⟩) hS.2.2 dL_pair_20 hlk
    have h := gif_f hk1 h
    cases h
  obtain ⟨I1, O2⟩ := u9
  subst hw
  have h := hsum_r h
  refine lv_i2l (v := (r3).toInt64) hx hb dL_pair_8 rfl ?_
  refine gs23 X hP hS kc_137 (sk_in hN kc_137 (by decide)) (L := 1) (by decide) (by decide) dL_pair_9 (fun H locs hP hS => ?_)
  obtain ⟨J5, eJ5, h⟩ := hlet_ex h
  rw [← eJ5] at hP
  refine lv_goto (tgt := 21) hx hb dL_pair_10 (by decide) ?_
  refine lv_iconst (v := 0) hx hb dL_pair_21 (by decide) ?_
  refine W.widen (k := 3) (n := 18) (Nat.le_of_ble_eq_true rfl) (Nat.le_of_ble_eq_true rfl) ?_
  exact W.iret hx hb hr (fun t9 ht hW => ⟨⟨(0 : Int32), (I1, O2, J5), rfl, (Option.some.inj h).symm, gEnd ht hP⟩, hS.F ht⟩) hS.2.2 dL_pair_22 hlk
def f_L_setLimit (a1 : Int32) (a2 : Int32) (I : Nat → Nat → Int32) (O : Nat → Nat → Option Nat) (J : Nat → Nat → Int64) : Option (Int32 × (Nat → Nat → Int32) × (Nat → Nat → Option Nat) × (Nat → Nat → Int64)) :=
  (f_X7_setLimit a1 a2 I O).bind fun (eq4, I1, O2) => hsum eq4 (fun k9 => 
    if k9 = 0 then
      some ((1 : Int32), I1, O2, J)
    else
    if k9 = 1 then
      some ((2 : Int32), I1, O2, J)
    else
    none) fun r3 =>
  hlet (gup J 137 ((0 : Int32).toNatClampNeg) ((r3).toInt64)) fun J5 =>
  some ((0 : Int32), I1, O2, J5)
set_option maxHeartbeats 8000000 in
set_option maxRecDepth 100000 in
theorem c_L_setLimit {l : Launch} (hlf : l.stackTraces = false) {dC : Nat → ClassId} {dI : Nat → Nat → Nat} {ca : Nat → ClassId} {b : Nat → Nat} {A : Nat → Prop} {N : Nat} (hN : 138 ≤ N) (hA : gAd A b N) (I : Nat → Nat → Int32) (O : Nat → Nat → Option Nat) (J : Nat → Nat → Int64) (a1 : Int32) (a2 : Int32) (res : Int32 × (Nat → Nat → Int32) × (Nat → Nat → Option Nat) × (Nat → Nat → Int64)) (h : f_L_setLimit a1 a2 I O J = some res) : Met l yL_setLimit wsL_setLimit ({ frames := 8, cells := 2, slots := 12, locals := 133 } : Room) (va_Pc [.ref (b 0), .int a1, .int a2, .ref (b 137)] (gPre dC dI ca b A N I O J)) (va_Qi (fun (r : Int32) (u : (Nat → Nat → Int32) × (Nat → Nat → Option Nat) × (Nat → Nat → Int64)) => res = (r, u)) (fun (u : (Nat → Nat → Int32) × (Nat → Nat → Option Nat) × (Nat → Nat → Int64)) t => va_P (dC, dI) vwCl (hW N ca b u.1 u.2.1 u.2.2) t.heap) A) 2 12 A := by
  refine va_MetW (cc := cL_setLimit) (maxL := 5) (ret := (some .int)) (by decide) rfl ?_
  intro p e s m args below meth c s₁ B hml hv
  obtain ⟨rfl, hP, hK, hA2, hth⟩ := hv
  have hx := B.exec
  have hb := B.bytes
  have hr := B.returns
  have hlk := B.notSynchronized
  have X : gCx p s m ([.ref (b 0), .int a1, .int a2, .ref (b 137)] : List Value).toArray c RL cL_setLimit wsL_setLimit 5 dC dI ca b A N := ⟨hx, hb, hml, findClass_of_methodNamed B.named, atoms_spec (ws := wsL_setLimit) B.pre, hK, hA, hA2, hth⟩
  have htab : c.exceptionTable.toList = tableOf [(0, 10, 13, 21), (0, 10, 17, 13)] := vx_table (x := yL_setLimit) B (atoms_spec (ws := wsL_setLimit) B.pre _ (List.mem_of_getElem? (i := 0) rfl))
  have hS : va_S A s.heap s.heap [] := va_S.rf
  have hl := lv_entry ([.ref (b 0), .int a1, .int a2, .ref (b 137)] : List Value) (n := 5) (Nat.le_of_ble_eq_true rfl)
  rw [lg_entry_eq]
  generalize (lg_sl ([.ref (b 0), .int a1, .int a2, .ref (b 137)] : List Value) ++ List.replicate (5 - (lg_sl ([.ref (b 0), .int a1, .int a2, .ref (b 137)] : List Value)).length) Slot.unset).toArray = ls at hl ⊢
  have hl : lv_has ls 5 [(0, .ref (b 0)), (1, .int a1), (2, .int a2), (3, .ref (b 137))] := hl
  unfold f_L_setLimit at h
  refine lv_aload_n hx hb dL_setLimit_0 rfl (lv_at hl 3 rfl) ?_
  refine lv_iconst (v := 0) hx hb dL_setLimit_1 (by decide) ?_
  refine lv_aload_n hx hb dL_setLimit_2 rfl (lv_at hl 0 rfl) ?_
  refine lv_iload_n hx hb dL_setLimit_3 rfl (lv_at hl 1 rfl) ?_
  refine lv_iload_n hx hb dL_setLimit_4 rfl (lv_at hl 2 rfl) ?_
  obtain ⟨q4, hcq4, h⟩ := hb_some h
  refine gxV_i (As := [.int a1, .int a2]) (rest := [.int (0 : Int32), .ref (b 137)]) (BH := (fun (u : (Nat → Nat → Int32) × (Nat → Nat → Option Nat)) H => va_P (dC, dI) vwCl (hW N ca b u.1 u.2 J) H)) (BX := (fun (u : (Nat → Nat → Int32) × (Nat → Nat → Option Nat)) H => va_P (dC, dI) vwCl (hW N ca b u.1 u.2 J) H)) X hP hS (c_X7_setLimit hlf hN hA I O J a1 a2 q4 hcq4) (cwV 2 X.ts gL_setLimit_X7_setLimit rfl rfl rfl (by decide +kernel) ⟨Nat.le_of_ble_eq_true rfl, Nat.le_of_ble_eq_true rfl⟩) (gr7 X hP kc_0 (sk_in hN kc_0 (by decide))) rfl hl.1 rfl (Nat.le_of_ble_eq_true rfl) dL_setLimit_5 ⟨Nat.le_of_ble_eq_true rfl, Nat.le_of_ble_eq_true rfl⟩ (fun k9 u9 H locs ce9 q9 hw hP hS hce hcv hcl => ?_) (fun r3 u9 H locs hw hP hS => ?_)
  · obtain ⟨I1, O2⟩ := u9
    subst hw
    have h := hsum_l h
    by_cases hk0 : k9 = 0
    · have h := gif_t hk0 h
      subst hk0
      refine vx_catch X.ow [] ⟨0, 10, 13, 21⟩ [⟨0, 10, 17, 13⟩] htab (fun z hz => absurd hz List.not_mem_nil) (by decide) (by decide) (X.ts _ (List.mem_of_getElem? (i := 1) rfl)) (va_Nw.use rfl (X.th.2.1.1 0 (by decide))) hce hcv hcl ?_
      refine lv_astore (lv' := [(4, .ref q9), (0, .ref (b 0)), (1, .int a1), (2, .int a2), (3, .ref (b 137))]) hx hb dL_setLimit_13 hl (by decide) rfl (fun ls hl => ?_)
      refine lv_iconst (v := 1) hx hb dL_setLimit_15 (by decide) ?_
      refine W.widen (k := 2) (n := 12) (Nat.le_of_ble_eq_true rfl) (Nat.le_of_ble_eq_true rfl) ?_
      exact W.iret hx hb hr (fun t9 ht hW => ⟨⟨(1 : Int32), (I1, O2, J), rfl, (Option.some.inj h).symm, gEnd ht hP⟩, hS.F ht⟩) hS.2.2 dL_setLimit_16 hlk
    have h := gif_f hk0 h
    by_cases hk1 : k9 = 1
    · have h := gif_t hk1 h
      subst hk1
      refine vx_catch X.ow [⟨0, 10, 13, 21⟩] ⟨0, 10, 17, 13⟩ [] htab (fun z hz => by
        rcases List.mem_cons.mp hz with rfl | hz
        · exact Or.inr ⟨by decide, _, X.ts _ (List.mem_of_getElem? (i := 1) rfl), X.th.2.1.2.2.2 1 0 (by decide) (by decide) (by decide)⟩
        · exact absurd hz List.not_mem_nil) (by decide) (by decide) (X.ts _ (List.mem_of_getElem? (i := 2) rfl)) (va_Nw.use rfl (X.th.2.1.1 1 (by decide))) hce hcv hcl ?_
      refine lv_astore (lv' := [(4, .ref q9), (0, .ref (b 0)), (1, .int a1), (2, .int a2), (3, .ref (b 137))]) hx hb dL_setLimit_17 hl (by decide) rfl (fun ls hl => ?_)
      refine lv_iconst (v := 2) hx hb dL_setLimit_19 (by decide) ?_
      refine W.widen (k := 2) (n := 12) (Nat.le_of_ble_eq_true rfl) (Nat.le_of_ble_eq_true rfl) ?_
      exact W.iret hx hb hr (fun t9 ht hW => ⟨⟨(2 : Int32), (I1, O2, J), rfl, (Option.some.inj h).symm, gEnd ht hP⟩, hS.F ht⟩) hS.2.2 dL_setLimit_20 hlk
    have h := gif_f hk1 h
    cases h
  obtain ⟨I1, O2⟩ := u9
  subst hw
  have h := hsum_r h
  refine lv_i2l (v := (r3).toInt64) hx hb dL_setLimit_8 rfl ?_
  refine gs23 X hP hS kc_137 (sk_in hN kc_137 (by decide)) (L := 1) (by decide) (by decide) dL_setLimit_9 (fun H locs hP hS => ?_)
  obtain ⟨J5, eJ5, h⟩ := hlet_ex h
  rw [← eJ5] at hP
  refine lv_goto (tgt := 21) hx hb dL_setLimit_10 (by decide) ?_
  refine lv_iconst (v := 0) hx hb dL_setLimit_21 (by decide) ?_
  refine W.widen (k := 2) (n := 12) (Nat.le_of_ble_eq_true rfl) (Nat.le_of_ble_eq_true rfl) ?_
  exact W.iret hx hb hr (fun t9 ht hW => ⟨⟨(0 : Int32), (I1, O2, J5), rfl, (Option.some.inj h).symm, gEnd ht hP⟩, hS.F ht⟩) hS.2.2 dL_setLimit_22 hlk
def f_L_setLaps (a1 : Int32) (I : Nat → Nat → Int32) (O : Nat → Nat → Option Nat) (J : Nat → Nat → Int64) : Option (Int32 × (Nat → Nat → Int32) × (Nat → Nat → Option Nat) × (Nat → Nat → Int64)) :=
  (f_X7_setLaps a1 I O).bind fun (eq4, I1, O2) => hsum eq4 (fun k9 => 
    if k9 = 1 then
      some ((1 : Int32), I1, O2, J)
    else
    if k9 = 2 then
      some ((2 : Int32), I1, O2, J)
    else
    none) fun r3 =>
  hlet (gup J 137 ((0 : Int32).toNatClampNeg) ((r3).toInt64)) fun J5 =>
  some ((0 : Int32), I1, O2, J5)
set_option maxHeartbeats 8000000 in
set_option maxRecDepth 100000 in
theorem c_L_setLaps {l : Launch} (hlf : l.stackTraces = false) {dC : Nat → ClassId} {dI : Nat → Nat → Nat} {ca : Nat → ClassId} {b : Nat → Nat} {A : Nat → Prop} {N : Nat} (hN : 138 ≤ N) (hA : gAd A b N) (I : Nat → Nat → Int32) (O : Nat → Nat → Option Nat) (J : Nat → Nat → Int64) (a1 : Int32) (res : Int32 × (Nat → Nat → Int32) × (Nat → Nat → Option Nat) × (Nat → Nat → Int64)) (h : f_L_setLaps a1 I O J = some res) : Met l yL_setLaps wsL_setLaps ({ frames := 7, cells := 1, slots := 6, locals := 112 } : Room) (va_Pc [.ref (b 0), .int a1, .ref (b 137)] (gPre dC dI ca b A N I O J)) (va_Qi (fun (r : Int32) (u : (Nat → Nat → Int32) × (Nat → Nat → Option Nat) × (Nat → Nat → Int64)) => res = (r, u)) (fun (u : (Nat → Nat → Int32) × (Nat → Nat → Option Nat) × (Nat → Nat → Int64)) t => va_P (dC, dI) vwCl (hW N ca b u.1 u.2.1 u.2.2) t.heap) A) 1 6 A := by
  refine va_MetW (cc := cL_setLaps) (maxL := 4) (ret := (some .int)) (by decide) rfl ?_
  intro p e s m args below meth c s₁ B hml hv
  obtain ⟨rfl, hP, hK, hA2, hth⟩ := hv
  have hx := B.exec
  have hb := B.bytes
  have hr := B.returns
  have hlk := B.notSynchronized
  have X : gCx p s m ([.ref (b 0), .int a1, .ref (b 137)] : List Value).toArray c RL cL_setLaps wsL_setLaps 4 dC dI ca b A N := ⟨hx, hb, hml, findClass_of_methodNamed B.named, atoms_spec (ws := wsL_setLaps) B.pre, hK, hA, hA2, hth⟩
  have htab : c.exceptionTable.toList = tableOf [(0, 9, 12, 13), (0, 9, 15, 15)] := vx_table (x := yL_setLaps) B (atoms_spec (ws := wsL_setLaps) B.pre _ (List.mem_of_getElem? (i := 0) rfl))
  have hS : va_S A s.heap s.heap [] := va_S.rf
  have hl := lv_entry ([.ref (b 0), .int a1, .ref (b 137)] : List Value) (n := 4) (Nat.le_of_ble_eq_true rfl)
  rw [lg_entry_eq]
  generalize (lg_sl ([.ref (b 0), .int a1, .ref (b 137)] : List Value) ++ List.replicate (4 - (lg_sl ([.ref (b 0), .int a1, .ref (b 137)] : List Value)).length) Slot.unset).toArray = ls at hl ⊢
  have hl : lv_has ls 4 [(0, .ref (b 0)), (1, .int a1), (2, .ref (b 137))] := hl
  unfold f_L_setLaps at h
  refine lv_aload_n hx hb dL_setLaps_0 rfl (lv_at hl 2 rfl) ?_
  refine lv_iconst (v := 0) hx hb dL_setLaps_1 (by decide) ?_
  refine lv_aload_n hx hb dL_setLaps_2 rfl (lv_at hl 0 rfl) ?_
  refine lv_iload_n hx hb dL_setLaps_3 rfl (lv_at hl 1 rfl) ?_
  obtain ⟨q4, hcq4, h⟩ := hb_some h
  refine gxV_i (As := [.int a1]) (rest := [.int (0 : Int32), .ref (b 137)]) (BH := (fun (u : (Nat → Nat → Int32) × (Nat → Nat → Option Nat)) H => va_P (dC, dI) vwCl (hW N ca b u.1 u.2 J) H)) (BX := (fun (u : (Nat → Nat → Int32) × (Nat → Nat → Option Nat)) H => va_P (dC, dI) vwCl (hW N ca b u.1 u.2 J) H)) X hP hS (c_X7_setLaps hlf hN hA I O J a1 q4 hcq4) (cwV 1 X.ts gL_setLaps_X7_setLaps rfl rfl rfl (by decide +kernel) ⟨Nat.le_of_ble_eq_true rfl, Nat.le_of_ble_eq_true rfl⟩) (gr7 X hP kc_0 (sk_in hN kc_0 (by decide))) rfl hl.1 rfl (Nat.le_of_ble_eq_true rfl) dL_setLaps_4 ⟨Nat.le_of_ble_eq_true rfl, Nat.le_of_ble_eq_true rfl⟩ (fun k9 u9 H locs ce9 q9 hw hP hS hce hcv hcl => ?_) (fun r3 u9 H locs hw hP hS => ?_)
  · obtain ⟨I1, O2⟩ := u9
    subst hw
    have h := hsum_l h
    by_cases hk1 : k9 = 1
    · have h := gif_t hk1 h
      subst hk1
      refine vx_catch X.ow [] ⟨0, 9, 12, 13⟩ [⟨0, 9, 15, 15⟩] htab (fun z hz => absurd hz List.not_mem_nil) (by decide) (by decide) (X.ts _ (List.mem_of_getElem? (i := 1) rfl)) (va_Nw.use rfl (X.th.2.1.1 1 (by decide))) hce hcv hcl ?_
      refine lv_astore_n (lv' := [(3, .ref q9), (0, .ref (b 0)), (1, .int a1), (2, .ref (b 137))]) hx hb dL_setLaps_12 rfl hl (by decide) rfl (fun ls hl => ?_)
      refine lv_iconst (v := 1) hx hb dL_setLaps_13 (by decide) ?_
      refine W.widen (k := 1) (n := 6) (Nat.le_of_ble_eq_true rfl) (Nat.le_of_ble_eq_true rfl) ?_
      exact W.iret hx hb hr (fun t9 ht hW => ⟨⟨(1 : Int32), (I1, O2, J), rfl, (Option.some.inj h).symm, gEnd ht hP⟩, hS.F ht⟩) hS.2.2 dL_setLaps_14 hlk
    have h := gif_f hk1 h
    by_cases hk2 : k9 = 2
    · have h := gif_t hk2 h
      subst hk2
      refine vx_catch X.ow [⟨0, 9, 12, 13⟩] ⟨0, 9, 15, 15⟩ [] htab (fun z hz => by
        rcases List.mem_cons.mp hz with rfl | hz
        · exact Or.inr ⟨by decide, _, X.ts _ (List.mem_of_getElem? (i := 1) rfl), X.th.2.1.2.2.2 2 1 (by decide) (by decide) (by decide)⟩
        · exact absurd hz List.not_mem_nil) (by decide) (by decide) (X.ts _ (List.mem_of_getElem? (i := 2) rfl)) (va_Nw.use rfl (X.th.2.1.1 2 (by decide))) hce hcv hcl ?_
      refine lv_astore_n (lv' := [(3, .ref q9), (0, .ref (b 0)), (1, .int a1), (2, .ref (b 137))]) hx hb dL_setLaps_15 rfl hl (by decide) rfl (fun ls hl => ?_)
      refine lv_iconst (v := 2) hx hb dL_setLaps_16 (by decide) ?_
      refine W.widen (k := 1) (n := 6) (Nat.le_of_ble_eq_true rfl) (Nat.le_of_ble_eq_true rfl) ?_
      exact W.iret hx hb hr (fun t9 ht hW => ⟨⟨(2 : Int32), (I1, O2, J), rfl, (Option.some.inj h).symm, gEnd ht hP⟩, hS.F ht⟩) hS.2.2 dL_setLaps_17 hlk
    have h := gif_f hk2 h
    cases h
  obtain ⟨I1, O2⟩ := u9
  subst hw
  have h := hsum_r h
  refine lv_i2l (v := (r3).toInt64) hx hb dL_setLaps_7 rfl ?_
  refine gs23 X hP hS kc_137 (sk_in hN kc_137 (by decide)) (L := 1) (by decide) (by decide) dL_setLaps_8 (fun H locs hP hS => ?_)
  obtain ⟨J5, eJ5, h⟩ := hlet_ex h
  rw [← eJ5] at hP
  refine lv_goto (tgt := 18) hx hb dL_setLaps_9 (by decide) ?_
  refine lv_iconst (v := 0) hx hb dL_setLaps_18 (by decide) ?_
  refine W.widen (k := 1) (n := 6) (Nat.le_of_ble_eq_true rfl) (Nat.le_of_ble_eq_true rfl) ?_
  exact W.iret hx hb hr (fun t9 ht hW => ⟨⟨(0 : Int32), (I1, O2, J5), rfl, (Option.some.inj h).symm, gEnd ht hP⟩, hS.F ht⟩) hS.2.2 dL_setLaps_19 hlk
def f_L_begin (I : Nat → Nat → Int32) (O : Nat → Nat → Option Nat) (J : Nat → Nat → Int64) : Option (Int32 × (Nat → Nat → Int32) × (Nat → Nat → Option Nat) × (Nat → Nat → Int64)) :=
  (f_X7_begin I O).bind fun (eq4, I1, O2) => hsum eq4 (fun k9 => 
    if k9 = 2 then
      some ((1 : Int32), I1, O2, J)
    else
    none) fun r3 =>
  hlet (gup J 137 ((0 : Int32).toNatClampNeg) ((r3).toInt64)) fun J5 =>
  some ((0 : Int32), I1, O2, J5)
set_option maxHeartbeats 8000000 in
set_option maxRecDepth 100000 in
theorem c_L_begin {l : Launch} (hlf : l.stackTraces = false) {dC : Nat → ClassId} {dI : Nat → Nat → Nat} {ca : Nat → ClassId} {b : Nat → Nat} {A : Nat → Prop} {N : Nat} (hN : 138 ≤ N) (hA : gAd A b N) (I : Nat → Nat → Int32) (O : Nat → Nat → Option Nat) (J : Nat → Nat → Int64) (res : Int32 × (Nat → Nat → Int32) × (Nat → Nat → Option Nat) × (Nat → Nat → Int64)) (h : f_L_begin I O J = some res) : Met l yL_begin wsL_begin ({ frames := 7, cells := 1, slots := 6, locals := 110 } : Room) (va_Pc [.ref (b 0), .ref (b 137)] (gPre dC dI ca b A N I O J)) (va_Qi (fun (r : Int32) (u : (Nat → Nat → Int32) × (Nat → Nat → Option Nat) × (Nat → Nat → Int64)) => res = (r, u)) (fun (u : (Nat → Nat → Int32) × (Nat → Nat → Option Nat) × (Nat → Nat → Int64)) t => va_P (dC, dI) vwCl (hW N ca b u.1 u.2.1 u.2.2) t.heap) A) 1 6 A := by
  refine va_MetW (cc := cL_begin) (maxL := 3) (ret := (some .int)) (by decide) rfl ?_
  intro p e s m args below meth c s₁ B hml hv
  obtain ⟨rfl, hP, hK, hA2, hth⟩ := hv
  have hx := B.exec
  have hb := B.bytes
  have hr := B.returns
  have hlk := B.notSynchronized
  have X : gCx p s m ([.ref (b 0), .ref (b 137)] : List Value).toArray c RL cL_begin wsL_begin 3 dC dI ca b A N := ⟨hx, hb, hml, findClass_of_methodNamed B.named, atoms_spec (ws := wsL_begin) B.pre, hK, hA, hA2, hth⟩
  have htab : c.exceptionTable.toList = tableOf [(0, 8, 11, 15)] := vx_table (x := yL_begin) B (atoms_spec (ws := wsL_begin) B.pre _ (List.mem_of_getElem? (i := 0) rfl))
  have hS : va_S A s.heap s.heap [] := va_S.rf
  have hl := lv_entry ([.ref (b 0), .ref (b 137)] : List Value) (n := 3) (Nat.le_of_ble_eq_true rfl)
  rw [lg_entry_eq]
  generalize (lg_sl ([.ref (b 0), .ref (b 137)] : List Value) ++ List.replicate (3 - (lg_sl ([.ref (b 0), .ref (b 137)] : List Value)).length) Slot.unset).toArray = ls at hl ⊢
  have hl : lv_has ls 3 [(0, .ref (b 0)), (1, .ref (b 137))] := hl
  unfold f_L_begin at h
  refine lv_aload_n hx hb dL_begin_0 rfl (lv_at hl 1 rfl) ?_
  refine lv_iconst (v := 0) hx hb dL_begin_1 (by decide) ?_
  refine lv_aload_n hx hb dL_begin_2 rfl (lv_at hl 0 rfl) ?_
  obtain ⟨q4, hcq4, h⟩ := hb_some h
  refine gxV_i (As := []) (rest := [.int (0 : Int32), .ref (b 137)]) (BH := (fun (u : (Nat → Nat → Int32) × (Nat → Nat → Option Nat)) H => va_P (dC, dI) vwCl (hW N ca b u.1 u.2 J) H)) (BX := (fun (u : (Nat → Nat → Int32) × (Nat → Nat → Option Nat)) H => va_P (dC, dI) vwCl (hW N ca b u.1 u.2 J) H)) X hP hS (c_X7_begin hlf hN hA I O J q4 hcq4) (cwV 0 X.ts gL_begin_X7_begin rfl rfl rfl (by decide +kernel) ⟨Nat.le_of_ble_eq_true rfl, Nat.le_of_ble_eq_true rfl⟩) (gr7 X hP kc_0 (sk_in hN kc_0 (by decide))) rfl hl.1 rfl (Nat.le_of_ble_eq_true rfl) dL_begin_3 ⟨Nat.le_of_ble_eq_true rfl, Nat.le_of_ble_eq_true rfl⟩ (fun k9 u9 H locs ce9 q9 hw hP hS hce hcv hcl => ?_) (fun r3 u9 H locs hw hP hS => ?_)
  · obtain ⟨I1, O2⟩ := u9
    subst hw
    have h := hsum_l h
    by_cases hk2 : k9 = 2
    · have h := gif_t hk2 h
      subst hk2
      refine vx_catch X.ow [] ⟨0, 8, 11, 15⟩ [] htab (fun z hz => absurd hz List.not_mem_nil) (by decide) (by decide) (X.ts _ (List.mem_of_getElem? (i := 1) rfl)) (va_Nw.use rfl (X.th.2.1.1 2 (by decide))) hce hcv hcl ?_
      refine lv_astore_n (lv' := [(2, .ref q9), (0, .ref (b 0)), (1, .ref (b 137))]) hx hb dL_begin_11 rfl hl (by decide) rfl (fun ls hl => ?_)
      refine lv_iconst (v := 1) hx hb dL_begin_12 (by decide) ?_
      refine W.widen (k := 1) (n := 6) (Nat.le_of_ble_eq_true rfl) (Nat.le_of_ble_eq_true rfl) ?_
      exact W.iret hx hb hr (fun t9 ht hW => ⟨⟨(1 : Int32), (I1, O2, J), rfl, (Option.some.inj h).symm, gEnd ht hP⟩, hS.F ht⟩) hS.2.2 dL_begin_13 hlk
    have h := gif_f hk2 h
    cases h
  obtain ⟨I1, O2⟩ := u9
  subst hw
  have h := hsum_r h
  refine lv_i2l (v := (r3).toInt64) hx hb dL_begin_6 rfl ?_
  refine gs23 X hP hS kc_137 (sk_in hN kc_137 (by decide)) (L := 1) (by decide) (by decide) dL_begin_7 (fun H locs hP hS => ?_)
  obtain ⟨J5, eJ5, h⟩ := hlet_ex h
  rw [← eJ5] at hP
  refine lv_goto (tgt := 14) hx hb dL_begin_8 (by decide) ?_
  refine lv_iconst (v := 0) hx hb dL_begin_14 (by decide) ?_
  refine W.widen (k := 1) (n := 6) (Nat.le_of_ble_eq_true rfl) (Nat.le_of_ble_eq_true rfl) ?_
  exact W.iret hx hb hr (fun t9 ht hW => ⟨⟨(0 : Int32), (I1, O2, J5), rfl, (Option.some.inj h).symm, gEnd ht hP⟩, hS.F ht⟩) hS.2.2 dL_begin_15 hlk
def f_L_pass (a1 : Int32) (I : Nat → Nat → Int32) (O : Nat → Nat → Option Nat) (J : Nat → Nat → Int64) : Option (Int32 × (Nat → Nat → Int32) × (Nat → Nat → Option Nat) × (Nat → Nat → Int64)) :=
  (f_X7_pass a1 I O).bind fun (eq4, I1, O2) => hsum eq4 (fun k9 => 
    if k9 = 1 then
      some ((1 : Int32), I1, O2, J)
    else
    if k9 = 2 then
      some ((2 : Int32), I1, O2, J)
    else
    none) fun r3 =>
  hlet (gup J 137 ((0 : Int32).toNatClampNeg) ((r3).toInt64)) fun J5 =>
  some ((0 : Int32), I1, O2, J5)
set_option maxHeartbeats 8000000 in
set_option maxRecDepth 100000 in
theorem c_L_pass {l : Launch} (hlf : l.stackTraces = false) {dC : Nat → ClassId} {dI : Nat → Nat → Nat} {ca : Nat → ClassId} {b : Nat → Nat} {A : Nat → Prop} {N : Nat} (hN : 138 ≤ N) (hA : gAd A b N) (I : Nat → Nat → Int32) (O : Nat → Nat → Option Nat) (J : Nat → Nat → Int64) (a1 : Int32) (res : Int32 × (Nat → Nat → Int32) × (Nat → Nat → Option Nat) × (Nat → Nat → Int64)) (h : f_L_pass a1 I O J = some res) : Met l yL_pass wsL_pass ({ frames := 8, cells := 2, slots := 12, locals := 132 } : Room) (va_Pc [.ref (b 0), .int a1, .ref (b 137)] (gPre dC dI ca b A N I O J)) (va_Qi (fun (r : Int32) (u : (Nat → Nat → Int32) × (Nat → Nat → Option Nat) × (Nat → Nat → Int64)) => res = (r, u)) (fun (u : (Nat → Nat → Int32) × (Nat → Nat → Option Nat) × (Nat → Nat → Int64)) t => va_P (dC, dI) vwCl (hW N ca b u.1 u.2.1 u.2.2) t.heap) A) 2 12 A := by
  refine va_MetW (cc := cL_pass) (maxL := 4) (ret := (some .int)) (by decide) rfl ?_
  intro p e s m args below meth c s₁ B hml hv
  obtain ⟨rfl, hP, hK, hA2, hth⟩ := hv
  have hx := B.exec
  have hb := B.bytes
  have hr := B.returns
  have hlk := B.notSynchronized
  have X : gCx p s m ([.ref (b 0), .int a1, .ref (b 137)] : List Value).toArray c RL cL_pass wsL_pass 4 dC dI ca b A N := ⟨hx, hb, hml, findClass_of_methodNamed B.named, atoms_spec (ws := wsL_pass) B.pre, hK, hA, hA2, hth⟩
  have htab : c.exceptionTable.toList = tableOf [(0, 9, 12, 13), (0, 9, 15, 15)] := vx_table (x := yL_pass) B (atoms_spec (ws := wsL_pass) B.pre _ (List.mem_of_getElem? (i := 0) rfl))
  have hS : va_S A s.heap s.heap [] := va_S.rf
  have hl := lv_entry ([.ref (b 0), .int a1, .ref (b 137)] : List Value) (n := 4) (Nat.le_of_ble_eq_true rfl)
  rw [lg_entry_eq]
  generalize (lg_sl ([.ref (b 0), .int a1, .ref (b 137)] : List Value) ++ List.replicate (4 - (lg_sl ([.ref (b 0), .int a1, .ref (b 137)] : List Value)).length) Slot.unset).toArray = ls at hl ⊢
  have hl : lv_has ls 4 [(0, .ref (b 0)), (1, .int a1), (2, .ref (b 137))] := hl
  unfold f_L_pass at h
  refine lv_aload_n hx hb dL_pass_0 rfl (lv_at hl 2 rfl) ?_
  refine lv_iconst (v := 0) hx hb dL_pass_1 (by decide) ?_
  refine lv_aload_n hx hb dL_pass_2 rfl (lv_at hl 0 rfl) ?_
  refine lv_iload_n hx hb dL_pass_3 rfl (lv_at hl 1 rfl) ?_
  obtain ⟨q4, hcq4, h⟩ := hb_some h
  refine gxV_i (As := [.int a1]) (rest := [.int (0 : Int32), .ref (b 137)]) (BH := (fun (u : (Nat → Nat → Int32) × (Nat → Nat → Option Nat)) H => va_P (dC, dI) vwCl (hW N ca b u.1 u.2 J) H)) (BX := (fun (u : (Nat → Nat → Int32) × (Nat → Nat → Option Nat)) H => va_P (dC, dI) vwCl (hW N ca b u.1 u.2 J) H)) X hP hS (c_X7_pass hlf hN hA I O J a1 q4 hcq4) (cwV 1 X.ts gL_pass_X7_pass rfl rfl rfl (by decide +kernel) ⟨Nat.le_of_ble_eq_true rfl, Nat.le_of_ble_eq_true rfl⟩) (gr7 X hP kc_0 (sk_in hN kc_0 (by decide))) rfl hl.1 rfl (Nat.le_of_ble_eq_true rfl) dL_pass_4 ⟨Nat.le_of_ble_eq_true rfl, Nat.le_of_ble_eq_true rfl⟩ (fun k9 u9 H locs ce9 q9 hw hP hS hce hcv hcl => ?_) (fun r3 u9 H locs hw hP hS => ?_)
  · obtain ⟨I1, O2⟩ := u9
    subst hw
    have h := hsum_l h
    by_cases hk1 : k9 = 1
    · have h := gif_t hk1 h
      subst hk1
      refine vx_catch X.ow [] ⟨0, 9, 12, 13⟩ [⟨0, 9, 15, 15⟩] htab (fun z hz => absurd hz List.not_mem_nil) (by decide) (by decide) (X.ts _ (List.mem_of_getElem? (i := 1) rfl)) (va_Nw.use rfl (X.th.2.1.1 1 (by decide))) hce hcv hcl ?_
      refine lv_astore_n (lv' := [(3, .ref q9), (0, .ref (b 0)), (1, .int a1), (2, .ref (b 137))]) hx hb dL_pass_12 rfl hl (by decide) rfl (fun ls hl => ?_)
      refine lv_iconst (v := 1) hx hb dL_pass_13 (by decide) ?_
      refine W.widen (k := 2) (n := 12) (Nat.le_of_ble_eq_true rfl) (Nat.le_of_ble_eq_true rfl) ?_
      exact W.iret hx hb hr (fun t9 ht hW => ⟨⟨(1 : Int32), (I1, O2, J), rfl, (Option.some.inj h).symm, gEnd ht hP⟩, hS.F ht⟩) hS.2.2 dL_pass_14 hlk
    have h := gif_f hk1 h
    by_cases hk2 : k9 = 2
    · have h := gif_t hk2 h
      subst hk2
      refine vx_catch X.ow [⟨0, 9, 12, 13⟩] ⟨0, 9, 15, 15⟩ [] htab (fun z hz => by
        rcases List.mem_cons.mp hz with rfl | hz
        · exact Or.inr ⟨by decide, _, X.ts _ (List.mem_of_getElem? (i := 1) rfl), X.th.2.1.2.2.2 2 1 (by decide) (by decide) (by decide)⟩
        · exact absurd hz List.not_mem_nil) (by decide) (by decide) (X.ts _ (List.mem_of_getElem? (i := 2) rfl)) (va_Nw.use rfl (X.th.2.1.1 2 (by decide))) hce hcv hcl ?_
      refine lv_astore_n (lv' := [(3, .ref q9), (0, .ref (b 0)), (1, .int a1), (2, .ref (b 137))]) hx hb dL_pass_15 rfl hl (by decide) rfl (fun ls hl => ?_)
      refine lv_iconst (v := 2) hx hb dL_pass_16 (by decide) ?_
      refine W.widen (k := 2) (n := 12) (Nat.le_of_ble_eq_true rfl) (Nat.le_of_ble_eq_true rfl) ?_
      exact W.iret hx hb hr (fun t9 ht hW => ⟨⟨(2 : Int32), (I1, O2, J), rfl, (Option.some.inj h).symm, gEnd ht hP⟩, hS.F ht⟩) hS.2.2 dL_pass_17 hlk
    have h := gif_f hk2 h
    cases h
  obtain ⟨I1, O2⟩ := u9
  subst hw
  have h := hsum_r h
  refine lv_i2l (v := (r3).toInt64) hx hb dL_pass_7 rfl ?_
  refine gs23 X hP hS kc_137 (sk_in hN kc_137 (by decide)) (L := 1) (by decide) (by decide) dL_pass_8 (fun H locs hP hS => ?_)
  obtain ⟨J5, eJ5, h⟩ := hlet_ex h
  rw [← eJ5] at hP
  refine lv_goto (tgt := 18) hx hb dL_pass_9 (by decide) ?_
  refine lv_iconst (v := 0) hx hb dL_pass_18 (by decide) ?_
  refine W.widen (k := 2) (n := 12) (Nat.le_of_ble_eq_true rfl) (Nat.le_of_ble_eq_true rfl) ?_
  exact W.iret hx hb hr (fun t9 ht hW => ⟨⟨(0 : Int32), (I1, O2, J5), rfl, (Option.some.inj h).symm, gEnd ht hP⟩, hS.F ht⟩) hS.2.2 dL_pass_19 hlk
def f_L_append (a1 : Int32) (I : Nat → Nat → Int32) (J : Nat → Nat → Int64) : Option (Int32 × (Nat → Nat → Int32) × (Nat → Nat → Int64)) :=
  (f_X7_append a1 I).bind fun (eq3, I1) => hsum eq3 (fun k9 => 
    if k9 = 1 then
      some ((1 : Int32), I1, J)
    else
    if k9 = 2 then
      some ((2 : Int32), I1, J)
    else
    none) fun r2 =>
  hlet (gup J 137 ((0 : Int32).toNatClampNeg) ((r2).toInt64)) fun J4 =>
  some ((0 : Int32), I1, J4)
set_option maxHeartbeats 8000000 in
set_option maxRecDepth 100000 in
theorem c_L_append {l : Launch} (hlf : l.stackTraces = false) {dC : Nat → ClassId} {dI : Nat → Nat → Nat} {ca : Nat → ClassId} {b : Nat → Nat} {A : Nat → Prop} {N : Nat} (hN : 138 ≤ N) (hA : gAd A b N) (I : Nat → Nat → Int32) (O : Nat → Nat → Option Nat) (J : Nat → Nat → Int64) (a1 : Int32) (res : Int32 × (Nat → Nat → Int32) × (Nat → Nat → Int64)) (h : f_L_append a1 I J = some res) : Met l yL_append wsL_append ({ frames := 7, cells := 1, slots := 6, locals := 111 } : Room) (va_Pc [.ref (b 0), .int a1, .ref (b 137)] (gPre dC dI ca b A N I O J)) (va_Qi (fun (r : Int32) (u : (Nat → Nat → Int32) × (Nat → Nat → Int64)) => res = (r, u)) (fun (u : (Nat → Nat → Int32) × (Nat → Nat → Int64)) t => va_P (dC, dI) vwCl (hW N ca b u.1 O u.2) t.heap) A) 1 6 A := by
  refine va_MetW (cc := cL_append) (maxL := 4) (ret := (some .int)) (by decide) rfl ?_
  intro p e s m args below meth c s₁ B hml hv
  obtain ⟨rfl, hP, hK, hA2, hth⟩ := hv
  have hx := B.exec
  have hb := B.bytes
  have hr := B.returns
  have hlk := B.notSynchronized
  have X : gCx p s m ([.ref (b 0), .int a1, .ref (b 137)] : List Value).toArray c RL cL_append wsL_append 4 dC dI ca b A N := ⟨hx, hb, hml, findClass_of_methodNamed B.named, atoms_spec (ws := wsL_append) B.pre, hK, hA, hA2, hth⟩
  have htab : c.exceptionTable.toList = tableOf [(0, 9, 12, 13), (0, 9, 15, 15)] := vx_table (x := yL_append) B (atoms_spec (ws := wsL_append) B.pre _ (List.mem_of_getElem? (i := 0) rfl))
  have hS : va_S A s.heap s.heap [] := va_S.rf
  have hl := lv_entry ([.ref (b 0), .int a1, .ref (b 137)] : List Value) (n := 4) (Nat.le_of_ble_eq_true rfl)
  rw [lg_entry_eq]
  generalize (lg_sl ([.ref (b 0), .int a1, .ref (b 137)] : List Value) ++ List.replicate (4 - (lg_sl ([.ref (b 0), .int a1, .ref (b 137)] : List Value)).length) Slot.unset).toArray = ls at hl ⊢
  have hl : lv_has ls 4 [(0, .ref (b 0)), (1, .int a1), (2, .ref (b 137))] := hl
  unfold f_L_append at h
  refine lv_aload_n hx hb dL_append_0 rfl (lv_at hl 2 rfl) ?_
  refine lv_iconst (v := 0) hx hb dL_append_1 (by decide) ?_
  refine lv_aload_n hx hb dL_append_2 rfl (lv_at hl 0 rfl) ?_
  refine lv_iload_n hx hb dL_append_3 rfl (lv_at hl 1 rfl) ?_
  obtain ⟨q3, hcq3, h⟩ := hb_some h
  refine gxV_i (As := [.int a1]) (rest := [.int (0 : Int32), .ref (b 137)]) (BH := (fun (u : Nat → Nat → Int32) H => va_P (dC, dI) vwCl (hW N ca b u O J) H)) (BX := (fun (u : Nat → Nat → Int32) H => va_P (dC, dI) vwCl (hW N ca b u O J) H)) X hP hS (c_X7_append hlf hN hA I O J a1 q3 hcq3) (cwV 1 X.ts gL_append_X7_append rfl rfl rfl (by decide +kernel) ⟨Nat.le_of_ble_eq_true rfl, Nat.le_of_ble_eq_true rfl⟩) (gr7 X hP kc_0 (sk_in hN kc_0 (by decide))) rfl hl.1 rfl (Nat.le_of_ble_eq_true rfl) dL_append_4 ⟨Nat.le_of_ble_eq_true rfl, Nat.le_of_ble_eq_true rfl⟩ (fun k9 I1 H locs ce9 q9 hw hP hS hce hcv hcl => ?_) (fun r2 I1 H locs hw hP hS => ?_)
  · subst hw
    have h := hsum_l h
    by_cases hk1 : k9 = 1
    · have h := gif_t hk1 h
      subst hk1
      refine vx_catch X.ow [] ⟨0, 9, 12, 13⟩ [⟨0, 9, 15, 15⟩] htab (fun z hz => absurd hz List.not_mem_nil) (by decide) (by decide) (X.ts _ (List.mem_of_getElem? (i := 1) rfl)) (va_Nw.use rfl (X.th.2.1.1 1 (by decide))) hce hcv hcl ?_
      refine lv_astore_n (lv' := [(3, .ref q9), (0, .ref (b 0)), (1, .int a1), (2, .ref (b 137))]) hx hb dL_append_12 rfl hl (by decide) rfl (fun ls hl => ?_)
      refine lv_iconst (v := 1) hx hb dL_append_13 (by decide) ?_
      refine W.widen (k := 1) (n := 6) (Nat.le_of_ble_eq_true rfl) (Nat.le_of_ble_eq_true rfl) ?_
      exact W.iret hx hb hr (fun t9 ht hW => ⟨⟨(1 : Int32), (I1, J), rfl, (Option.some.inj h).symm, gEnd ht hP⟩, hS.F ht⟩) hS.2.2 dL_append_14 hlk
    have h := gif_f hk1 h
    by_cases hk2 : k9 = 2
    · have h := gif_t hk2 h
      subst hk2
      refine vx_catch X.ow [⟨0, 9, 12, 13⟩] ⟨0, 9, 15, 15⟩ [] htab (fun z hz => by
        rcases List.mem_cons.mp hz with rfl | hz
        · exact Or.inr ⟨by decide, _, X.ts _ (List.mem_of_getElem? (i := 1) rfl), X.th.2.1.2.2.2 2 1 (by decide) (by decide) (by decide)⟩
        · exact absurd hz List.not_mem_nil) (by decide) (by decide) (X.ts _ (List.mem_of_getElem? (i := 2) rfl)) (va_Nw.use rfl (X.th.2.1.1 2 (by decide))) hce hcv hcl ?_
      refine lv_astore_n (lv' := [(3, .ref q9), (0, .ref (b 0)), (1, .int a1), (2, .ref (b 137))]) hx hb dL_append_15 rfl hl (by decide) rfl (fun ls hl => ?_)
      refine lv_iconst (v := 2) hx hb dL_append_16 (by decide) ?_
      refine W.widen (k := 1) (n := 6) (Nat.le_of_ble_eq_true rfl) (Nat.le_of_ble_eq_true rfl) ?_
      exact W.iret hx hb hr (fun t9 ht hW => ⟨⟨(2 : Int32), (I1, J), rfl, (Option.some.inj h).symm, gEnd ht hP⟩, hS.F ht⟩) hS.2.2 dL_append_17 hlk
    have h := gif_f hk2 h
    cases h
  subst hw
  have h := hsum_r h
  refine lv_i2l (v := (r2).toInt64) hx hb dL_append_7 rfl ?_
  refine gs23 X hP hS kc_137 (sk_in hN kc_137 (by decide)) (L := 1) (by decide) (by decide) dL_append_8 (fun H locs hP hS => ?_)
  obtain ⟨J4, eJ4, h⟩ := hlet_ex h
  rw [← eJ4] at hP
  refine lv_goto (tgt := 18) hx hb dL_append_9 (by decide) ?_
  refine lv_iconst (v := 0) hx hb dL_append_18 (by decide) ?_
  refine W.widen (k := 1) (n := 6) (Nat.le_of_ble_eq_true rfl) (Nat.le_of_ble_eq_true rfl) ?_
  exact W.iret hx hb hr (fun t9 ht hW => ⟨⟨(0 : Int32), (I1, J4), rfl, (Option.some.inj h).symm, gEnd ht hP⟩, hS.F ht⟩) hS.2.2 dL_append_19 hlk
def f_L_follow (I : Nat → Nat → Int32) (O : Nat → Nat → Option Nat) (J : Nat → Nat → Int64) : Option (Int32 × (Nat → Nat → Int32) × (Nat → Nat → Option Nat) × (Nat → Nat → Int64)) :=
  (f_X7_follow I O).bind fun (eq4, I1, O2) => hsum eq4 (fun k9 => 
    if k9 = 1 then
      some ((1 : Int32), I1, O2, J)
    else
    if k9 = 2 then
      some ((2 : Int32), I1, O2, J)
    else
    none) fun r3 =>
  hlet (gup J 137 ((0 : Int32).toNatClampNeg) ((r3).toInt64)) fun J5 =>
  some ((0 : Int32), I1, O2, J5)
set_option maxHeartbeats 8000000 in
set_option maxRecDepth 100000 in
theorem c_L_follow {l : Launch} (hlf : l.stackTraces = false) {dC : Nat → ClassId} {dI : Nat → Nat → Nat} {ca : Nat → ClassId} {b : Nat → Nat} {A : Nat → Prop} {N : Nat} (hN : 138 ≤ N) (hA : gAd A b N) (I : Nat → Nat → Int32) (O : Nat → Nat → Option Nat) (J : Nat → Nat → Int64) (res : Int32 × (Nat → Nat → Int32) × (Nat → Nat → Option Nat) × (Nat → Nat → Int64)) (h : f_L_follow I O J = some res) : Met l yL_follow wsL_follow ({ frames := 7, cells := 1, slots := 6, locals := 165 } : Room) (va_Pc [.ref (b 0), .ref (b 137)] (gPre dC dI ca b A N I O J)) (va_Qi (fun (r : Int32) (u : (Nat → Nat → Int32) × (Nat → Nat → Option Nat) × (Nat → Nat → Int64)) => res = (r, u)) (fun (u : (Nat → Nat → Int32) × (Nat → Nat → Option Nat) × (Nat → Nat → Int64)) t => va_P (dC, dI) vwCl (hW N ca b u.1 u.2.1 u.2.2) t.heap) A) 1 6 A := by
  refine va_MetW (cc := cL_follow) (maxL := 3) (ret := (some .int)) (by decide) rfl ?_
  intro p e s m args below meth c s₁ B hml hv
  obtain ⟨rfl, hP, hK, hA2, hth⟩ := hv
  have hx := B.exec
  have hb := B.bytes
  have hr := B.returns
  have hlk := B.notSynchronized
  have X : gCx p s m ([.ref (b 0), .ref (b 137)] : List Value).toArray c RL cL_follow wsL_follow 3 dC dI ca b A N := ⟨hx, hb, hml, findClass_of_methodNamed B.named, atoms_spec (ws := wsL_follow) B.pre, hK, hA, hA2, hth⟩
  have htab : c.exceptionTable.toList = tableOf [(0, 8, 11, 13), (0, 8, 14, 15)] := vx_table (x := yL_follow) B (atoms_spec (ws := wsL_follow) B.pre _ (List.mem_of_getElem? (i := 0) rfl))
  have hS : va_S A s.heap s.heap [] := va_S.rf
  have hl := lv_entry ([.ref (b 0), .ref (b 137)] : List Value) (n := 3) (Nat.le_of_ble_eq_true rfl)
  rw [lg_entry_eq]
  generalize (lg_sl ([.ref (b 0), .ref (b 137)] : List Value) ++ List.replicate (3 - (lg_sl ([.ref (b 0), .ref (b 137)] : List Value)).length) Slot.unset).toArray = ls at hl ⊢
  have hl : lv_has ls 3 [(0, .ref (b 0)), (1, .ref (b 137))] := hl
  unfold f_L_follow at h
  refine lv_aload_n hx hb dL_follow_0 rfl (lv_at hl 1 rfl) ?_
  refine lv_iconst (v := 0) hx hb dL_follow_1 (by decide) ?_
  refine lv_aload_n hx hb dL_follow_2 rfl (lv_at hl 0 rfl) ?_
  obtain ⟨q4, hcq4, h⟩ := hb_some h
  refine gxV_i (As := []) (rest := [.int (0 : Int32), .ref (b 137)]) (BH := (fun (u : (Nat → Nat → Int32) × (Nat → Nat → Option Nat)) H => va_P (dC, dI) vwCl (hW N ca b u.1 u.2 J) H)) (BX := (fun (u : (Nat → Nat → Int32) × (Nat → Nat → Option Nat)) H => va_P (dC, dI) vwCl (hW N ca b u.1 u.2 J) H)) X hP hS (c_X7_follow hlf hN hA I O J q4 hcq4) (cwV 0 X.ts gL_follow_X7_follow rfl rfl rfl (by decide +kernel) ⟨Nat.le_of_ble_eq_true rfl, Nat.le_of_ble_eq_true rfl⟩) (gr7 X hP kc_0 (sk_in hN kc_0 (by decide))) rfl hl.1 rfl (Nat.le_of_ble_eq_true rfl) dL_follow_3 ⟨Nat.le_of_ble_eq_true rfl, Nat.le_of_ble_eq_true rfl⟩ (fun k9 u9 H locs ce9 q9 hw hP hS hce hcv hcl => ?_) (fun r3 u9 H locs hw hP hS => ?_)
  · obtain ⟨I1, O2⟩ := u9
    subst hw
    have h := hsum_l h
    by_cases hk1 : k9 = 1
    · have h := gif_t hk1 h
      subst hk1
      refine vx_catch X.ow [] ⟨0, 8, 11, 13⟩ [⟨0, 8, 14, 15⟩] htab (fun z hz => absurd hz List.not_mem_nil) (by decide) (by decide) (X.ts _ (List.mem_of_getElem? (i := 1) rfl)) (va_Nw.use rfl (X.th.2.1.1 1 (by decide))) hce hcv hcl ?_
      refine lv_astore_n (lv' := [(2, .ref q9), (0, .ref (b 0)), (1, .ref (b 137))]) hx hb dL_follow_11 rfl hl (by decide) rfl (fun ls hl => ?_)
      refine lv_iconst (v := 1) hx hb dL_follow_12 (by decide) ?_
      refine W.widen (k := 1) (n := 6) (Nat.le_of_ble_eq_true rfl) (Nat.le_of_ble_eq_true rfl) ?_
      exact W.iret hx hb hr (fun t9 ht hW => ⟨⟨(1 : Int32), (I1, O2, J), rfl, (Option.some.inj h).symm, gEnd ht hP⟩, hS.F ht⟩) hS.2.2 dL_follow_13 hlk
    have h := gif_f hk1 h
    by_cases hk2 : k9 = 2
    · have h := gif_t hk2 h
      subst hk2
      refine vx_catch X.ow [⟨0, 8, 11, 13⟩] ⟨0, 8, 14, 15⟩ [] htab (fun z hz => by
        rcases List.mem_cons.mp hz with rfl | hz
        · exact Or.inr ⟨by decide, _, X.ts _ (List.mem_of_getElem? (i := 1) rfl), X.th.2.1.2.2.2 2 1 (by decide) (by decide) (by decide)⟩
        · exact absurd hz List.not_mem_nil) (by decide) (by decide) (X.ts _ (List.mem_of_getElem? (i := 2) rfl)) (va_Nw.use rfl (X.th.2.1.1 2 (by decide))) hce hcv hcl ?_
      refine lv_astore_n (lv' := [(2, .ref q9), (0, .ref (b 0)), (1, .ref (b 137))]) hx hb dL_follow_14 rfl hl (by decide) rfl (fun ls hl => ?_)
      refine lv_iconst (v := 2) hx hb dL_follow_15 (by decide) ?_
      refine W.widen (k := 1) (n := 6) (Nat.le_of_ble_eq_true rfl) (Nat.le_of_ble_eq_true rfl) ?_
      exact W.iret hx hb hr (fun t9 ht hW => ⟨⟨(2 : Int32), (I1, O2, J), rfl, (Option.some.inj h).symm, gEnd ht hP⟩, hS.F ht⟩) hS.2.2 dL_follow_16 hlk
    have h := gif_f hk2 h
    cases h
  obtain ⟨I1, O2⟩ := u9
  subst hw
  have h := hsum_r h
  refine lv_i2l (v := (r3).toInt64) hx hb dL_follow_6 rfl ?_
  refine gs23 X hP hS kc_137 (sk_in hN kc_137 (by decide)) (L := 1) (by decide) (by decide) dL_follow_7 (fun H locs hP hS => ?_)
  obtain ⟨J5, eJ5, h⟩ := hlet_ex h
  rw [← eJ5] at hP
  refine lv_goto (tgt := 17) hx hb dL_follow_8 (by decide) ?_
  refine lv_iconst (v := 0) hx hb dL_follow_17 (by decide) ?_
  refine W.widen (k := 1) (n := 6) (Nat.le_of_ble_eq_true rfl) (Nat.le_of_ble_eq_true rfl) ?_
  exact W.iret hx hb hr (fun t9 ht hW => ⟨⟨(0 : Int32), (I1, O2, J5), rfl, (Option.some.inj h).symm, gEnd ht hP⟩, hS.F ht⟩) hS.2.2 dL_follow_18 hlk
def f_L_keep (a1 : Int32) (I : Nat → Nat → Int32) : Option (Int32 × (Nat → Nat → Int32)) :=
  (f_X7_keep a1 I).bind fun (eq2, I1) => hsum eq2 (fun k9 => 
    if k9 = 1 then
      some ((1 : Int32), I1)
    else
    none) fun _ =>
  some ((0 : Int32), I1)
set_option maxHeartbeats 8000000 in
set_option maxRecDepth 100000 in
theorem c_L_keep {l : Launch} (hlf : l.stackTraces = false) {dC : Nat → ClassId} {dI : Nat → Nat → Nat} {ca : Nat → ClassId} {b : Nat → Nat} {A : Nat → Prop} {N : Nat} (hN : 138 ≤ N) (hA : gAd A b N) (I : Nat → Nat → Int32) (O : Nat → Nat → Option Nat) (J : Nat → Nat → Int64) (a1 : Int32) (res : Int32 × (Nat → Nat → Int32)) (h : f_L_keep a1 I = some res) : Met l yL_keep wsL_keep ({ frames := 8, cells := 1, slots := 6, locals := 131 } : Room) (va_Pc [.ref (b 0), .int a1] (gPre dC dI ca b A N I O J)) (va_Qi (fun (r : Int32) (u : Nat → Nat → Int32) => res = (r, u)) (fun (u : Nat → Nat → Int32) t => va_P (dC, dI) vwCl (hW N ca b u O J) t.heap) A) 1 6 A := by
  refine va_MetW (cc := cL_keep) (maxL := 3) (ret := (some .int)) (by decide) rfl ?_
  intro p e s m args below meth c s₁ B hml hv
  obtain ⟨rfl, hP, hK, hA2, hth⟩ := hv
  have hx := B.exec
  have hb := B.bytes
  have hr := B.returns
  have hlk := B.notSynchronized
  have X : gCx p s m ([.ref (b 0), .int a1] : List Value).toArray c RL cL_keep wsL_keep 3 dC dI ca b A N := ⟨hx, hb, hml, findClass_of_methodNamed B.named, atoms_spec (ws := wsL_keep) B.pre, hK, hA, hA2, hth⟩
  have htab : c.exceptionTable.toList = tableOf [(0, 5, 8, 13)] := vx_table (x := yL_keep) B (atoms_spec (ws := wsL_keep) B.pre _ (List.mem_of_getElem? (i := 0) rfl))
  have hS : va_S A s.heap s.heap [] := va_S.rf
  have hl := lv_entry ([.ref (b 0), .int a1] : List Value) (n := 3) (Nat.le_of_ble_eq_true rfl)
  rw [lg_entry_eq]
  generalize (lg_sl ([.ref (b 0), .int a1] : List Value) ++ List.replicate (3 - (lg_sl ([.ref (b 0), .int a1] : List Value)).length) Slot.unset).toArray = ls at hl ⊢
  have hl : lv_has ls 3 [(0, .ref (b 0)), (1, .int a1)] := hl
  unfold f_L_keep at h
  refine lv_aload_n hx hb dL_keep_0 rfl (lv_at hl 0 rfl) ?_
  refine lv_iload_n hx hb dL_keep_1 rfl (lv_at hl 1 rfl) ?_
  obtain ⟨q2, hcq2, h⟩ := hb_some h
  refine gxV_v (As := [.int a1]) (rest := []) (BH := (fun (u : Nat → Nat → Int32) H => va_P (dC, dI) vwCl (hW N ca b u O J) H)) (BX := (fun (u : Nat → Nat → Int32) H => va_P (dC, dI) vwCl (hW N ca b u O J) H)) X hP hS (c_X7_keep hlf hN hA I O J a1 q2 hcq2) (cwV 1 X.ts gL_keep_X7_keep rfl rfl rfl (by decide +kernel) ⟨Nat.le_of_ble_eq_true rfl, Nat.le_of_ble_eq_true rfl⟩) (gr7 X hP kc_0 (sk_in hN kc_0 (by decide))) rfl hl.1 rfl (Nat.le_of_ble_eq_true rfl) dL_keep_2 ⟨Nat.le_of_ble_eq_true rfl, Nat.le_of_ble_eq_true rfl⟩ (fun k9 I1 H locs ce9 q9 hw hP hS hce hcv hcl => ?_) (fun I1 H locs hw hP hS => ?_)
  · subst hw
    have h := hsum_l h
    by_cases hk1 : k9 = 1
    · have h := gif_t hk1 h
      subst hk1
      refine vx_catch X.ow [] ⟨0, 5, 8, 13⟩ [] htab (fun z hz => absurd hz List.not_mem_nil) (by decide) (by decide) (X.ts _ (List.mem_of_getElem? (i := 1) rfl)) (va_Nw.use rfl (X.th.2.1.1 1 (by decide))) hce hcv hcl ?_
      refine lv_astore_n (lv' := [(2, .ref q9), (0, .ref (b 0)), (1, .int a1)]) hx hb dL_keep_8 rfl hl (by decide) rfl (fun ls hl => ?_)
      refine lv_iconst (v := 1) hx hb dL_keep_9 (by decide) ?_
      refine W.widen (k := 1) (n := 6) (Nat.le_of_ble_eq_true rfl) (Nat.le_of_ble_eq_true rfl) ?_
      exact W.iret hx hb hr (fun t9 ht hW => ⟨⟨(1 : Int32), I1, rfl, (Option.some.inj h).symm, gEnd ht hP⟩, hS.F ht⟩) hS.2.2 dL_keep_10 hlk
    have h := gif_f hk1 h
    cases h
  subst hw
  have h := hsum_r h
  refine lv_goto (tgt := 11) hx hb dL_keep_5 (by decide) ?_
  refine lv_iconst (v := 0) hx hb dL_keep_11 (by decide) ?_
  refine W.widen (k := 1) (n := 6) (Nat.le_of_ble_eq_true rfl) (Nat.le_of_ble_eq_true rfl) ?_
  exact W.iret hx hb hr (fun t9 ht hW => ⟨⟨(0 : Int32), I1, rfl, (Option.some.inj h).symm, gEnd ht hP⟩, hS.F ht⟩) hS.2.2 dL_keep_12 hlk
def f_L_goBack (a1 : Int32) (I : Nat → Nat → Int32) (O : Nat → Nat → Option Nat) : Option (Int32 × (Nat → Nat → Int32) × (Nat → Nat → Option Nat)) :=
  (f_X7_goBack a1 I O).bind fun (eq3, I1, O2) => hsum eq3 (fun k9 => 
    if k9 = 1 then
      some ((1 : Int32), I1, O2)
    else
    if k9 = 2 then
      some ((2 : Int32), I1, O2)
    else
    none) fun _ =>
  some ((0 : Int32), I1, O2)
set_option maxHeartbeats 8000000 in
set_option maxRecDepth 100000 in
theorem c_L_goBack {l : Launch} (hlf : l.stackTraces = false) {dC : Nat → ClassId} {dI : Nat → Nat → Nat} {ca : Nat → ClassId} {b : Nat → Nat} {A : Nat → Prop} {N : Nat} (hN : 138 ≤ N) (hA : gAd A b N) (I : Nat → Nat → Int32) (O : Nat → Nat → Option Nat) (J : Nat → Nat → Int64) (a1 : Int32) (res : Int32 × (Nat → Nat → Int32) × (Nat → Nat → Option Nat)) (h : f_L_goBack a1 I O = some res) : Met l yL_goBack wsL_goBack ({ frames := 8, cells := 2, slots := 12, locals := 132 } : Room) (va_Pc [.ref (b 0), .int a1] (gPre dC dI ca b A N I O J)) (va_Qi (fun (r : Int32) (u : (Nat → Nat → Int32) × (Nat → Nat → Option Nat)) => res = (r, u)) (fun (u : (Nat → Nat → Int32) × (Nat → Nat → Option Nat)) t => va_P (dC, dI) vwCl (hW N ca b u.1 u.2 J) t.heap) A) 2 12 A := by
  refine va_MetW (cc := cL_goBack) (maxL := 3) (ret := (some .int)) (by decide) rfl ?_
  intro p e s m args below meth c s₁ B hml hv
  obtain ⟨rfl, hP, hK, hA2, hth⟩ := hv
  have hx := B.exec
  have hb := B.bytes
  have hr := B.returns
  have hlk := B.notSynchronized
  have X : gCx p s m ([.ref (b 0), .int a1] : List Value).toArray c RL cL_goBack wsL_goBack 3 dC dI ca b A N := ⟨hx, hb, hml, findClass_of_methodNamed B.named, atoms_spec (ws := wsL_goBack) B.pre, hK, hA, hA2, hth⟩
  have htab : c.exceptionTable.toList = tableOf [(0, 5, 8, 13), (0, 5, 11, 15)] := vx_table (x := yL_goBack) B (atoms_spec (ws := wsL_goBack) B.pre _ (List.mem_of_getElem? (i := 0) rfl))
  have hS : va_S A s.heap s.heap [] := va_S.rf
  have hl := lv_entry ([.ref (b 0), .int a1] : List Value) (n := 3) (Nat.le_of_ble_eq_true rfl)
  rw [lg_entry_eq]
  generalize (lg_sl ([.ref (b 0), .int a1] : List Value) ++ List.replicate (3 - (lg_sl ([.ref (b 0), .int a1] : List Value)).length) Slot.unset).toArray = ls at hl ⊢
  have hl : lv_has ls 3 [(0, .ref (b 0)), (1, .int a1)] := hl
  unfold f_L_goBack at h
  refine lv_aload_n hx hb dL_goBack_0 rfl (lv_at hl 0 rfl) ?_
  refine lv_iload_n hx hb dL_goBack_1 rfl (lv_at hl 1 rfl) ?_
  obtain ⟨q3, hcq3, h⟩ := hb_some h
  refine gxV_v (As := [.int a1]) (rest := []) (BH := (fun (u : (Nat → Nat → Int32) × (Nat → Nat → Option Nat)) H => va_P (dC, dI) vwCl (hW N ca b u.1 u.2 J) H)) (BX := (fun (u : (Nat → Nat → Int32) × (Nat → Nat → Option Nat)) H => va_P (dC, dI) vwCl (hW N ca b u.1 u.2 J) H)) X hP hS (c_X7_goBack hlf hN hA I O J a1 q3 hcq3) (cwV 1 X.ts gL_goBack_X7_goBack rfl rfl rfl (by decide +kernel) ⟨Nat.le_of_ble_eq_true rfl, Nat.le_of_ble_eq_true rfl⟩) (gr7 X hP kc_0 (sk_in hN kc_0 (by decide))) rfl hl.1 rfl (Nat.le_of_ble_eq_true rfl) dL_goBack_2 ⟨Nat.le_of_ble_eq_true rfl, Nat.le_of_ble_eq_true rfl⟩ (fun k9 u9 H locs ce9 q9 hw hP hS hce hcv hcl => ?_) (fun u9 H locs hw hP hS => ?_)
  · obtain ⟨I1, O2⟩ := u9
    subst hw
    have h := hsum_l h
    by_cases hk1 : k9 = 1
    · have h := gif_t hk1 h
      subst hk1
      refine vx_catch X.ow [] ⟨0, 5, 8, 13⟩ [⟨0, 5, 11, 15⟩] htab (fun z hz => absurd hz List.not_mem_nil) (by decide) (by decide) (X.ts _ (List.mem_of_getElem? (i := 1) rfl)) (va_Nw.use rfl (X.th.2.1.1 1 (by decide))) hce hcv hcl ?_
      refine lv_astore_n (lv' := [(2, .ref q9), (0, .ref (b 0)), (1, .int a1)]) hx hb dL_goBack_8 rfl hl (by decide) rfl (fun ls hl => ?_)
      refine lv_iconst (v := 1) hx hb dL_goBack_9 (by decide) ?_
      refine W.widen (k := 2) (n := 12) (Nat.le_of_ble_eq_true rfl) (Nat.le_of_ble_eq_true rfl) ?_
      exact W.iret hx hb hr (fun t9 ht hW => ⟨⟨(1 : Int32), (I1, O2), rfl, (Option.some.inj h).symm, gEnd ht hP⟩, hS.F ht⟩) hS.2.2 dL_goBack_10 hlk
    have h := gif_f hk1 h
    by_cases hk2 : k9 = 2
    · have h := gif_t hk2 h
      subst hk2
      refine vx_catch X.ow [⟨0, 5, 8, 13⟩] ⟨0, 5, 11, 15⟩ [] htab (fun z hz => by
        rcases List.mem_cons.mp hz with rfl | hz
        · exact Or.inr ⟨by decide, _, X.ts _ (List.mem_of_getElem? (i := 1) rfl), X.th.2.1.2.2.2 2 1 (by decide) (by decide) (by decide)⟩
        · exact absurd hz List.not_mem_nil) (by decide) (by decide) (X.ts _ (List.mem_of_getElem? (i := 2) rfl)) (va_Nw.use rfl (X.th.2.1.1 2 (by decide))) hce hcv hcl ?_
      refine lv_astore_n (lv' := [(2, .ref q9), (0, .ref (b 0)), (1, .int a1)]) hx hb dL_goBack_11 rfl hl (by decide) rfl (fun ls hl => ?_)
      refine lv_iconst (v := 2) hx hb dL_goBack_12 (by decide) ?_
      refine W.widen (k := 2) (n := 12) (Nat.le_of_ble_eq_true rfl) (Nat.le_of_ble_eq_true rfl) ?_
      exact W.iret hx hb hr (fun t9 ht hW => ⟨⟨(2 : Int32), (I1, O2), rfl, (Option.some.inj h).symm, gEnd ht hP⟩, hS.F ht⟩) hS.2.2 dL_goBack_13 hlk
    have h := gif_f hk2 h
    cases h
  obtain ⟨I1, O2⟩ := u9
  subst hw
  have h := hsum_r h
  refine lv_goto (tgt := 14) hx hb dL_goBack_5 (by decide) ?_
  refine lv_iconst (v := 0) hx hb dL_goBack_14 (by decide) ?_
  refine W.widen (k := 2) (n := 12) (Nat.le_of_ble_eq_true rfl) (Nat.le_of_ble_eq_true rfl) ?_
  exact W.iret hx hb hr (fun t9 ht hW => ⟨⟨(0 : Int32), (I1, O2), rfl, (Option.some.inj h).symm, gEnd ht hP⟩, hS.F ht⟩) hS.2.2 dL_goBack_15 hlk
def f_L_undo (I : Nat → Nat → Int32) (O : Nat → Nat → Option Nat) : Option (Int32 × (Nat → Nat → Int32)) :=
  (f_X7_undo I O).bind fun (eq2, I1) => hsum eq2 (fun k9 => 
    if k9 = 2 then
      some ((1 : Int32), I1)
    else
    none) fun _ =>
  some ((0 : Int32), I1)
set_option maxHeartbeats 8000000 in
set_option maxRecDepth 100000 in
theorem c_L_undo {l : Launch} (hlf : l.stackTraces = false) {dC : Nat → ClassId} {dI : Nat → Nat → Nat} {ca : Nat → ClassId} {b : Nat → Nat} {A : Nat → Prop} {N : Nat} (hN : 138 ≤ N) (hA : gAd A b N) (I : Nat → Nat → Int32) (O : Nat → Nat → Option Nat) (J : Nat → Nat → Int64) (res : Int32 × (Nat → Nat → Int32)) (h : f_L_undo I O = some res) : Met l yL_undo wsL_undo ({ frames := 7, cells := 1, slots := 6, locals := 111 } : Room) (va_Pc [.ref (b 0)] (gPre dC dI ca b A N I O J)) (va_Qi (fun (r : Int32) (u : Nat → Nat → Int32) => res = (r, u)) (fun (u : Nat → Nat → Int32) t => va_P (dC, dI) vwCl (hW N ca b u O J) t.heap) A) 1 6 A := by
  refine va_MetW (cc := cL_undo) (maxL := 2) (ret := (some .int)) (by decide) rfl ?_
  intro p e s m args below meth c s₁ B hml hv
  obtain ⟨rfl, hP, hK, hA2, hth⟩ := hv
  have hx := B.exec
  have hb := B.bytes
  have hr := B.returns
  have hlk := B.notSynchronized
  have X : gCx p s m ([.ref (b 0)] : List Value).toArray c RL cL_undo wsL_undo 2 dC dI ca b A N := ⟨hx, hb, hml, findClass_of_methodNamed B.named, atoms_spec (ws := wsL_undo) B.pre, hK, hA, hA2, hth⟩
  have htab : c.exceptionTable.toList = tableOf [(0, 4, 7, 15)] := vx_table (x := yL_undo) B (atoms_spec (ws := wsL_undo) B.pre _ (List.mem_of_getElem? (i := 0) rfl))
  have hS : va_S A s.heap s.heap [] := va_S.rf
  have hl := lv_entry ([.ref (b 0)] : List Value) (n := 2) (Nat.le_of_ble_eq_true rfl)
  rw [lg_entry_eq]
  generalize (lg_sl ([.ref (b 0)] : List Value) ++ List.replicate (2 - (lg_sl ([.ref (b 0)] : List Value)).length) Slot.unset).toArray = ls at hl ⊢
  have hl : lv_has ls 2 [(0, .ref (b 0))] := hl
  unfold f_L_undo at h
  refine lv_aload_n hx hb dL_undo_0 rfl (lv_at hl 0 rfl) ?_
  obtain ⟨q2, hcq2, h⟩ := hb_some h
  refine gxV_v (As := []) (rest := []) (BH := (fun (u : Nat → Nat → Int32) H => va_P (dC, dI) vwCl (hW N ca b u O J) H)) (BX := (fun (u : Nat → Nat → Int32) H => va_P (dC, dI) vwCl (hW N ca b u O J) H)) X hP hS (c_X7_undo hlf hN hA I O J q2 hcq2) (cwV 0 X.ts gL_undo_X7_undo rfl rfl rfl (by decide +kernel) ⟨Nat.le_of_ble_eq_true rfl, Nat.le_of_ble_eq_true rfl⟩) (gr7 X hP kc_0 (sk_in hN kc_0 (by decide))) rfl hl.1 rfl (Nat.le_of_ble_eq_true rfl) dL_undo_1 ⟨Nat.le_of_ble_eq_true rfl, Nat.le_of_ble_eq_true rfl⟩ (fun k9 I1 H locs ce9 q9 hw hP hS hce hcv hcl => ?_) (fun I1 H locs hw hP hS => ?_)
  · subst hw
    have h := hsum_l h
    by_cases hk2 : k9 = 2
    · have h := gif_t hk2 h
      subst hk2
      refine vx_catch X.ow [] ⟨0, 4, 7, 15⟩ [] htab (fun z hz => absurd hz List.not_mem_nil) (by decide) (by decide) (X.ts _ (List.mem_of_getElem? (i := 1) rfl)) (va_Nw.use rfl (X.th.2.1.1 2 (by decide))) hce hcv hcl ?_
      refine lv_astore_n (lv' := [(1, .ref q9), (0, .ref (b 0))]) hx hb dL_undo_7 rfl hl (by decide) rfl (fun ls hl => ?_)
      refine lv_iconst (v := 1) hx hb dL_undo_8 (by decide) ?_
      refine W.widen (k := 1) (n := 6) (Nat.le_of_ble_eq_true rfl) (Nat.le_of_ble_eq_true rfl) ?_
      exact W.iret hx hb hr (fun t9 ht hW => ⟨⟨(1 : Int32), I1, rfl, (Option.some.inj h).symm, gEnd ht hP⟩, hS.F ht⟩) hS.2.2 dL_undo_9 hlk
    have h := gif_f hk2 h
    cases h
  subst hw
  have h := hsum_r h
  refine lv_goto (tgt := 10) hx hb dL_undo_4 (by decide) ?_
  refine lv_iconst (v := 0) hx hb dL_undo_10 (by decide) ?_
  refine W.widen (k := 1) (n := 6) (Nat.le_of_ble_eq_true rfl) (Nat.le_of_ble_eq_true rfl) ?_
  exact W.iret hx hb hr (fun t9 ht hW => ⟨⟨(0 : Int32), I1, rfl, (Option.some.inj h).symm, gEnd ht hP⟩, hS.F ht⟩) hS.2.2 dL_undo_11 hlk
def f_L_flown (a1 : Int32) (I : Nat → Nat → Int32) (J : Nat → Nat → Int64) : Option (Int32 × (Nat → Nat → Int64)) :=
  (f_X7_flown a1 I).bind fun eq2 => hsum eq2 (fun k9 => 
    if k9 = 0 then
      some ((1 : Int32), J)
    else
    none) fun r1 =>
  hlet (gup J 137 ((0 : Int32).toNatClampNeg) ((r1).toInt64)) fun J3 =>
  some ((0 : Int32), J3)
set_option maxHeartbeats 8000000 in
set_option maxRecDepth 100000 in
theorem c_L_flown {l : Launch} (hlf : l.stackTraces = false) {dC : Nat → ClassId} {dI : Nat → Nat → Nat} {ca : Nat → ClassId} {b : Nat → Nat} {A : Nat → Prop} {N : Nat} (hN : 138 ≤ N) (hA : gAd A b N) (I : Nat → Nat → Int32) (O : Nat → Nat → Option Nat) (J : Nat → Nat → Int64) (a1 : Int32) (res : Int32 × (Nat → Nat → Int64)) (h : f_L_flown a1 I J = some res) : Met l yL_flown wsL_flown ({ frames := 8, cells := 1, slots := 6, locals := 133 } : Room) (va_Pc [.ref (b 0), .int a1, .ref (b 137)] (gPre dC dI ca b A N I O J)) (va_Qi (fun (r : Int32) (u : Nat → Nat → Int64) => res = (r, u)) (fun (u : Nat → Nat → Int64) t => va_P (dC, dI) vwCl (hW N ca b I O u) t.heap) A) 1 6 A := by
  refine va_MetW (cc := cL_flown) (maxL := 4) (ret := (some .int)) (by decide) rfl ?_
  intro p e s m args below meth c s₁ B hml hv
  obtain ⟨rfl, hP, hK, hA2, hth⟩ := hv
  have hx := B.exec
  have hb := B.bytes
  have hr := B.returns
  have hlk := B.notSynchronized
  have X : gCx p s m ([.ref (b 0), .int a1, .ref (b 137)] : List Value).toArray c RL cL_flown wsL_flown 4 dC dI ca b A N := ⟨hx, hb, hml, findClass_of_methodNamed B.named, atoms_spec (ws := wsL_flown) B.pre, hK, hA, hA2, hth⟩
  have htab : c.exceptionTable.toList = tableOf [(0, 9, 12, 21)] := vx_table (x := yL_flown) B (atoms_spec (ws := wsL_flown) B.pre _ (List.mem_of_getElem? (i := 0) rfl))
  have hS : va_S A s.heap s.heap [] := va_S.rf
  have hl := lv_entry ([.ref (b 0), .int a1, .ref (b 137)] : List Value) (n := 4) (Nat.le_of_ble_eq_true rfl)
  rw [lg_entry_eq]
  generalize (lg_sl ([.ref (b 0), .int a1, .ref (b 137)] : List Value) ++ List.replicate (4 - (lg_sl ([.ref (b 0), .int a1, .ref (b 137)] : List Value)).length) Slot.unset).toArray = ls at hl ⊢
  have hl : lv_has ls 4 [(0, .ref (b 0)), (1, .int a1), (2, .ref (b 137))] := hl
  unfold f_L_flown at h
  refine lv_aload_n hx hb dL_flown_0 rfl (lv_at hl 2 rfl) ?_
  refine lv_iconst (v := 0) hx hb dL_flown_1 (by decide) ?_
  refine lv_aload_n hx hb dL_flown_2 rfl (lv_at hl 0 rfl) ?_
  refine lv_iload_n hx hb dL_flown_3 rfl (lv_at hl 1 rfl) ?_
  obtain ⟨q2, hcq2, h⟩ := hb_some h
  refine gxV_i (As := [.int a1]) (rest := [.int (0 : Int32), .ref (b 137)]) (BH := (fun (u : Unit) H => va_P (dC, dI) vwCl (hW N ca b I O J) H)) (BX := (fun (u : Unit) H => va_P (dC, dI) vwCl (hW N ca b I O J) H)) X hP hS (c_X7_flown hlf hN hA I O J a1 q2 hcq2) (cwV 1 X.ts gL_flown_X7_flown rfl rfl rfl (by decide +kernel) ⟨Nat.le_of_ble_eq_true rfl, Nat.le_of_ble_eq_true rfl⟩) (gr7 X hP kc_0 (sk_in hN kc_0 (by decide))) rfl hl.1 rfl (Nat.le_of_ble_eq_true rfl) dL_flown_4 ⟨Nat.le_of_ble_eq_true rfl, Nat.le_of_ble_eq_true rfl⟩ (fun k9 u9 H locs ce9 q9 hw hP hS hce hcv hcl => ?_) (fun r1 u9 H locs hw hP hS => ?_)
  · subst hw
    have h := hsum_l h
    by_cases hk0 : k9 = 0
    · have h := gif_t hk0 h
      subst hk0
      refine vx_catch X.ow [] ⟨0, 9, 12, 21⟩ [] htab (fun z hz => absurd hz List.not_mem_nil) (by decide) (by decide) (X.ts _ (List.mem_of_getElem? (i := 1) rfl)) (va_Nw.use rfl (X.th.2.1.1 0 (by decide))) hce hcv hcl ?_
      refine lv_astore_n (lv' := [(3, .ref q9), (0, .ref (b 0)), (1, .int a1), (2, .ref (b 137))]) hx hb dL_flown_12 rfl hl (by decide) rfl (fun ls hl => ?_)
      refine lv_iconst (v := 1) hx hb dL_flown_13 (by decide) ?_
      refine W.widen (k := 1) (n := 6) (Nat.le_of_ble_eq_true rfl) (Nat.le_of_ble_eq_true rfl) ?_
      exact W.iret hx hb hr (fun t9 ht hW => ⟨⟨(1 : Int32), J, rfl, (Option.some.inj h).symm, gEnd ht hP⟩, hS.F ht⟩) hS.2.2 dL_flown_14 hlk
    have h := gif_f hk0 h
    cases h
  subst hw
  have h := hsum_r h
  refine lv_i2l (v := (r1).toInt64) hx hb dL_flown_7 rfl ?_
  refine gs23 X hP hS kc_137 (sk_in hN kc_137 (by decide)) (L := 1) (by decide) (by decide) dL_flown_8 (fun H locs hP hS => ?_)
  obtain ⟨J3, eJ3, h⟩ := hlet_ex h
  rw [← eJ3] at hP
  refine lv_goto (tgt := 15) hx hb dL_flown_9 (by decide) ?_
  refine lv_iconst (v := 0) hx hb dL_flown_15 (by decide) ?_
  refine W.widen (k := 1) (n := 6) (Nat.le_of_ble_eq_true rfl) (Nat.le_of_ble_eq_true rfl) ?_
  exact W.iret hx hb hr (fun t9 ht hW => ⟨⟨(0 : Int32), J3, rfl, (Option.some.inj h).symm, gEnd ht hP⟩, hS.F ht⟩) hS.2.2 dL_flown_16 hlk
def f_L_lapsOf (a1 : Int32) (I : Nat → Nat → Int32) (J : Nat → Nat → Int64) : Option (Int32 × (Nat → Nat → Int64)) :=
  (f_X7_lapsOf a1 I).bind fun eq2 => hsum eq2 (fun k9 => 
    if k9 = 0 then
      some ((1 : Int32), J)
    else
    none) fun r1 =>
  hlet (gup J 137 ((0 : Int32).toNatClampNeg) ((r1).toInt64)) fun J3 =>
  some ((0 : Int32), J3)
set_option maxHeartbeats 8000000 in
set_option maxRecDepth 100000 in
theorem c_L_lapsOf {l : Launch} (hlf : l.stackTraces = false) {dC : Nat → ClassId} {dI : Nat → Nat → Nat} {ca : Nat → ClassId} {b : Nat → Nat} {A : Nat → Prop} {N : Nat} (hN : 138 ≤ N) (hA : gAd A b N) (I : Nat → Nat → Int32) (O : Nat → Nat → Option Nat) (J : Nat → Nat → Int64) (a1 : Int32) (res : Int32 × (Nat → Nat → Int64)) (h : f_L_lapsOf a1 I J = some res) : Met l yL_lapsOf wsL_lapsOf ({ frames := 8, cells := 1, slots := 6, locals := 133 } : Room) (va_Pc [.ref (b 0), .int a1, .ref (b 137)] (gPre dC dI ca b A N I O J)) (va_Qi (fun (r : Int32) (u : Nat → Nat → Int64) => res = (r, u)) (fun (u : Nat → Nat → Int64) t => va_P (dC, dI) vwCl (hW N ca b I O u) t.heap) A) 1 6 A := by
  refine va_MetW (cc := cL_lapsOf) (maxL := 4) (ret := (some .int)) (by decide) rfl ?_
  intro p e s m args below meth c s₁ B hml hv
  obtain ⟨rfl, hP, hK, hA2, hth⟩ := hv
  have hx := B.exec
  have hb := B.bytes
  have hr := B.returns
  have hlk := B.notSynchronized
  have X : gCx p s m ([.ref (b 0), .int a1, .ref (b 137)] : List Value).toArray c RL cL_lapsOf wsL_lapsOf 4 dC dI ca b A N := ⟨hx, hb, hml, findClass_of_methodNamed B.named, atoms_spec (ws := wsL_lapsOf) B.pre, hK, hA, hA2, hth⟩
  have htab : c.exceptionTable.toList = tableOf [(0, 9, 12, 21)] := vx_table (x := yL_lapsOf) B (atoms_spec (ws := wsL_lapsOf) B.pre _ (List.mem_of_getElem? (i := 0) rfl))
  have hS : va_S A s.heap s.heap [] := va_S.rf
  have hl := lv_entry ([.ref (b 0), .int a1, .ref (b 137)] : List Value) (n := 4) (Nat.le_of_ble_eq_true rfl)
  rw [lg_entry_eq]
  generalize (lg_sl ([.ref (b 0), .int a1, .ref (b 137)] : List Value) ++ List.replicate (4 - (lg_sl ([.ref (b 0), .int a1, .ref (b 137)] : List Value)).length) Slot.unset).toArray = ls at hl ⊢
  have hl : lv_has ls 4 [(0, .ref (b 0)), (1, .int a1), (2, .ref (b 137))] := hl
  unfold f_L_lapsOf at h
  refine lv_aload_n hx hb dL_lapsOf_0 rfl (lv_at hl 2 rfl) ?_
  refine lv_iconst (v := 0) hx hb dL_lapsOf_1 (by decide) ?_
  refine lv_aload_n hx hb dL_lapsOf_2 rfl (lv_at hl 0 rfl) ?_
  refine lv_iload_n hx hb dL_lapsOf_3 rfl (lv_at hl 1 rfl) ?_
  obtain ⟨q2, hcq2, h⟩ := hb_some h
  refine gxV_i (As := [.int a1]) (rest := [.int (0 : Int32), .ref (b 137)]) (BH := (fun (u : Unit) H => va_P (dC, dI) vwCl (hW N ca b I O J) H)) (BX := (fun (u : Unit) H => va_P (dC, dI) vwCl (hW N ca b I O J) H)) X hP hS (c_X7_lapsOf hlf hN hA I O J a1 q2 hcq2) (cwV 1 X.ts gL_lapsOf_X7_lapsOf rfl rfl rfl (by decide +kernel) ⟨Nat.le_of_ble_eq_true rfl, Nat.le_of_ble_eq_true rfl⟩) (gr7 X hP kc_0 (sk_in hN kc_0 (by decide))) rfl hl.1 rfl (Nat.le_of_ble_eq_true rfl) dL_lapsOf_4 ⟨Nat.le_of_ble_eq_true rfl, Nat.le_of_ble_eq_true rfl⟩ (fun k9 u9 H locs ce9 q9 hw hP hS hce hcv hcl => ?_) (fun r1 u9 H locs hw hP hS => ?_)
  · subst hw
    have h := hsum_l h
    by_cases hk0 : k9 = 0
    · have h := gif_t hk0 h
      subst hk0
      refine vx_catch X.ow [] ⟨0, 9, 12, 21⟩ [] htab (fun z hz => absurd hz List.not_mem_nil) (by decide) (by decide) (X.ts _ (List.mem_of_getElem? (i := 1) rfl)) (va_Nw.use rfl (X.th.2.1.1 0 (by decide))) hce hcv hcl ?_
      refine lv_astore_n (lv' := [(3, .ref q9), (0, .ref (b 0)), (1, .int a1), (2, .ref (b 137))]) hx hb dL_lapsOf_12 rfl hl (by decide) rfl (fun ls hl => ?_)
      refine lv_iconst (v := 1) hx hb dL_lapsOf_13 (by decide) ?_
      refine W.widen (k := 1) (n := 6) (Nat.le_of_ble_eq_true rfl) (Nat.le_of_ble_eq_true rfl) ?_
      exact W.iret hx hb hr (fun t9 ht hW => ⟨⟨(1 : Int32), J, rfl, (Option.some.inj h).symm, gEnd ht hP⟩, hS.F ht⟩) hS.2.2 dL_lapsOf_14 hlk
    have h := gif_f hk0 h
    cases h
  subst hw
  have h := hsum_r h
  refine lv_i2l (v := (r1).toInt64) hx hb dL_lapsOf_7 rfl ?_
  refine gs23 X hP hS kc_137 (sk_in hN kc_137 (by decide)) (L := 1) (by decide) (by decide) dL_lapsOf_8 (fun H locs hP hS => ?_)
  obtain ⟨J3, eJ3, h⟩ := hlet_ex h
  rw [← eJ3] at hP
  refine lv_goto (tgt := 15) hx hb dL_lapsOf_9 (by decide) ?_
  refine lv_iconst (v := 0) hx hb dL_lapsOf_15 (by decide) ?_
  refine W.widen (k := 1) (n := 6) (Nat.le_of_ble_eq_true rfl) (Nat.le_of_ble_eq_true rfl) ?_
  exact W.iret hx hb hr (fun t9 ht hW => ⟨⟨(0 : Int32), J3, rfl, (Option.some.inj h).symm, gEnd ht hP⟩, hS.F ht⟩) hS.2.2 dL_lapsOf_16 hlk
def f_L_speedOf (a1 : Int32) (I : Nat → Nat → Int32) (J : Nat → Nat → Int64) : Option (Int32 × (Nat → Nat → Int64)) :=
  (f_X7_speedOf a1 I).bind fun eq2 => hsum eq2 (fun k9 => 
    if k9 = 0 then
      some ((1 : Int32), J)
    else
    none) fun r1 =>
  hlet (gup J 137 ((0 : Int32).toNatClampNeg) ((r1).toInt64)) fun J3 =>
  some ((0 : Int32), J3)
set_option maxHeartbeats 8000000 in
set_option maxRecDepth 100000 in
theorem c_L_speedOf {l : Launch} (hlf : l.stackTraces = false) {dC : Nat → ClassId} {dI : Nat → Nat → Nat} {ca : Nat → ClassId} {b : Nat → Nat} {A : Nat → Prop} {N : Nat} (hN : 138 ≤ N) (hA : gAd A b N) (I : Nat → Nat → Int32) (O : Nat → Nat → Option Nat) (J : Nat → Nat → Int64) (a1 : Int32) (res : Int32 × (Nat → Nat → Int64)) (h : f_L_speedOf a1 I J = some res) : Met l yL_speedOf wsL_speedOf ({ frames := 8, cells := 1, slots := 6, locals := 133 } : Room) (va_Pc [.ref (b 0), .int a1, .ref (b 137)] (gPre dC dI ca b A N I O J)) (va_Qi (fun (r : Int32) (u : Nat → Nat → Int64) => res = (r, u)) (fun (u : Nat → Nat → Int64) t => va_P (dC, dI) vwCl (hW N ca b I O u) t.heap) A) 1 6 A := by
  refine va_MetW (cc := cL_speedOf) (maxL := 4) (ret := (some .int)) (by decide) rfl ?_
  intro p e s m args below meth c s₁ B hml hv
  obtain ⟨rfl, hP, hK, hA2, hth⟩ := hv
  have hx := B.exec
  have hb := B.bytes
  have hr := B.returns
  have hlk := B.notSynchronized
  have X : gCx p s m ([.ref (b 0), .int a1, .ref (b 137)] : List Value).toArray c RL cL_speedOf wsL_speedOf 4 dC dI ca b A N := ⟨hx, hb, hml, findClass_of_methodNamed B.named, atoms_spec (ws := wsL_speedOf) B.pre, hK, hA, hA2, hth⟩
  have htab : c.exceptionTable.toList = tableOf [(0, 9, 12, 21)] := vx_table (x := yL_speedOf) B (atoms_spec (ws := wsL_speedOf) B.pre _ (List.mem_of_getElem? (i := 0) rfl))
  have hS : va_S A s.heap s.heap [] := va_S.rf
  have hl := lv_entry ([.ref (b 0), .int a1, .ref (b 137)] : List Value) (n := 4) (Nat.le_of_ble_eq_true rfl)
  rw [lg_entry_eq]
  generalize (lg_sl ([.ref (b 0), .int a1, .ref (b 137)] : List Value) ++ List.replicate (4 - (lg_sl ([.ref (b 0), .int a1, .ref (b 137)] : List Value)).length) Slot.unset).toArray = ls at hl ⊢
  have hl : lv_has ls 4 [(0, .ref (b 0)), (1, .int a1), (2, .ref (b 137))] := hl
  unfold f_L_speedOf at h
  refine lv_aload_n hx hb dL_speedOf_0 rfl (lv_at hl 2 rfl) ?_
  refine lv_iconst (v := 0) hx hb dL_speedOf_1 (by decide) ?_
  refine lv_aload_n hx hb dL_speedOf_2 rfl (lv_at hl 0 rfl) ?_
  refine lv_iload_n hx hb dL_speedOf_3 rfl (lv_at hl 1 rfl) ?_
  obtain ⟨q2, hcq2, h⟩ := hb_some h
  refine gxV_i (As := [.int a1]) (rest := [.int (0 : Int32), .ref (b 137)]) (BH := (fun (u : Unit) H => va_P (dC, dI) vwCl (hW N ca b I O J) H)) (BX := (fun (u : Unit) H => va_P (dC, dI) vwCl (hW N ca b I O J) H)) X hP hS (c_X7_speedOf hlf hN hA I O J a1 q2 hcq2) (cwV 1 X.ts gL_speedOf_X7_speedOf rfl rfl rfl (by decide +kernel) ⟨Nat.le_of_ble_eq_true rfl, Nat.le_of_ble_eq_true rfl⟩) (gr7 X hP kc_0 (sk_in hN kc_0 (by decide))) rfl hl.1 rfl (Nat.le_of_ble_eq_true rfl) dL_speedOf_4 ⟨Nat.le_of_ble_eq_true rfl, Nat.le_of_ble_eq_true rfl⟩ (fun k9 u9 H locs ce9 q9 hw hP hS hce hcv hcl => ?_) (fun r1 u9 H locs hw hP hS => ?_)
  · subst hw
    have h := hsum_l h
    by_cases hk0 : k9 = 0
    · have h := gif_t hk0 h
      subst hk0
      refine vx_catch X.ow [] ⟨0, 9, 12, 21⟩ [] htab (fun z hz => absurd hz List.not_mem_nil) (by decide) (by decide) (X.ts _ (List.mem_of_getElem? (i := 1) rfl)) (va_Nw.use rfl (X.th.2.1.1 0 (by decide))) hce hcv hcl ?_
      refine lv_astore_n (lv' := [(3, .ref q9), (0, .ref (b 0)), (1, .int a1), (2, .ref (b 137))]) hx hb dL_speedOf_12 rfl hl (by decide) rfl (fun ls hl => ?_)
      refine lv_iconst (v := 1) hx hb dL_speedOf_13 (by decide) ?_
      refine W.widen (k := 1) (n := 6) (Nat.le_of_ble_eq_true rfl) (Nat.le_of_ble_eq_true rfl) ?_
      exact W.iret hx hb hr (fun t9 ht hW => ⟨⟨(1 : Int32), J, rfl, (Option.some.inj h).symm, gEnd ht hP⟩, hS.F ht⟩) hS.2.2 dL_speedOf_14 hlk
    have h := gif_f hk0 h
    cases h
  subst hw
  have h := hsum_r h
  refine lv_i2l (v := (r1).toInt64) hx hb dL_speedOf_7 rfl ?_
  refine gs23 X hP hS kc_137 (sk_in hN kc_137 (by decide)) (L := 1) (by decide) (by decide) dL_speedOf_8 (fun H locs hP hS => ?_)
  obtain ⟨J3, eJ3, h⟩ := hlet_ex h
  rw [← eJ3] at hP
  refine lv_goto (tgt := 15) hx hb dL_speedOf_9 (by decide) ?_
  refine lv_iconst (v := 0) hx hb dL_speedOf_15 (by decide) ?_
  refine W.widen (k := 1) (n := 6) (Nat.le_of_ble_eq_true rfl) (Nat.le_of_ble_eq_true rfl) ?_
  exact W.iret hx hb hr (fun t9 ht hW => ⟨⟨(0 : Int32), J3, rfl, (Option.some.inj h).symm, gEnd ht hP⟩, hS.F ht⟩) hS.2.2 dL_speedOf_16 hlk
def f_L_strengthOf (a1 : Int32) (I : Nat → Nat → Int32) (J : Nat → Nat → Int64) : Option (Int32 × (Nat → Nat → Int64)) :=
  (f_X7_strengthOf a1 I).bind fun eq2 => hsum eq2 (fun k9 => 
    if k9 = 0 then
      some ((1 : Int32), J)
    else
    none) fun r1 =>
  hlet (gup J 137 ((0 : Int32).toNatClampNeg) ((r1).toInt64)) fun J3 =>
  some ((0 : Int32), J3)
set_option maxHeartbeats 8000000 in
set_option maxRecDepth 100000 in
theorem c_L_strengthOf {l : Launch} (hlf : l.stackTraces = false) {dC : Nat → ClassId} {dI : Nat → Nat → Nat} {ca : Nat → ClassId} {b : Nat → Nat} {A : Nat → Prop} {N : Nat} (hN : 138 ≤ N) (hA : gAd A b N) (I : Nat → Nat → Int32) (O : Nat → Nat → Option Nat) (J : Nat → Nat → Int64) (a1 : Int32) (res : Int32 × (Nat → Nat → Int64)) (h : f_L_strengthOf a1 I J = some res) : Met l yL_strengthOf wsL_strengthOf ({ frames := 8, cells := 1, slots := 6, locals := 133 } : Room) (va_Pc [.ref (b 0), .int a1, .ref (b 137)] (gPre dC dI ca b A N I O J)) (va_Qi (fun (r : Int32) (u : Nat → Nat → Int64) => res = (r, u)) (fun (u : Nat → Nat → Int64) t => va_P (dC, dI) vwCl (hW N ca b I O u) t.heap) A) 1 6 A := by
  refine va_MetW (cc := cL_strengthOf) (maxL := 4) (ret := (some .int)) (by decide) rfl ?_
  intro p e s m args below meth c s₁ B hml hv
  obtain ⟨rfl, hP, hK, hA2, hth⟩ := hv
  have hx := B.exec
  have hb := B.bytes
  have hr := B.returns
  have hlk := B.notSynchronized
  have X : gCx p s m ([.ref (b 0), .int a1, .ref (b 137)] : List Value).toArray c RL cL_strengthOf wsL_strengthOf 4 dC dI ca b A N := ⟨hx, hb, hml, findClass_of_methodNamed B.named, atoms_spec (ws := wsL_strengthOf) B.pre, hK, hA, hA2, hth⟩
  have htab : c.exceptionTable.toList = tableOf [(0, 9, 12, 21)] := vx_table (x := yL_strengthOf) B (atoms_spec (ws := wsL_strengthOf) B.pre _ (List.mem_of_getElem? (i := 0) rfl))
  have hS : va_S A s.heap s.heap [] := va_S.rf
  have hl := lv_entry ([.ref (b 0), .int a1, .ref (b 137)] : List Value) (n := 4) (Nat.le_of_ble_eq_true rfl)
  rw [lg_entry_eq]
  generalize (lg_sl ([.ref (b 0), .int a1, .ref (b 137)] : List Value) ++ List.replicate (4 - (lg_sl ([.ref (b 0), .int a1, .ref (b 137)] : List Value)).length) Slot.unset).toArray = ls at hl ⊢
  have hl : lv_has ls 4 [(0, .ref (b 0)), (1, .int a1), (2, .ref (b 137))] := hl
  unfold f_L_strengthOf at h
  refine lv_aload_n hx hb dL_strengthOf_0 rfl (lv_at hl 2 rfl) ?_
  refine lv_iconst (v := 0) hx hb dL_strengthOf_1 (by decide) ?_
  refine lv_aload_n hx hb dL_strengthOf_2 rfl (lv_at hl 0 rfl) ?_
  refine lv_iload_n hx hb dL_strengthOf_3 rfl (lv_at hl 1 rfl) ?_
  obtain ⟨q2, hcq2, h⟩ := hb_some h
  refine gxV_i (As := [.int a1]) (rest := [.int (0 : Int32), .ref (b 137)]) (BH := (fun (u : Unit) H => va_P (dC, dI) vwCl (hW N ca b I O J) H)) (BX := (fun (u : Unit) H => va_P (dC, dI) vwCl (hW N ca b I O J) H)) X hP hS (c_X7_strengthOf hlf hN hA I O J a1 q2 hcq2) (cwV 1 X.ts gL_strengthOf_X7_strengthOf rfl rfl rfl (by decide +kernel) ⟨Nat.le_of_ble_eq_true rfl, Nat.le_of_ble_eq_true rfl⟩) (gr7 X hP kc_0 (sk_in hN kc_0 (by decide))) rfl hl.1 rfl (Nat.le_of_ble_eq_true rfl) dL_strengthOf_4 ⟨Nat.le_of_ble_eq_true rfl, Nat.le_of_ble_eq_true rfl⟩ (fun k9 u9 H locs ce9 q9 hw hP hS hce hcv hcl => ?_) (fun r1 u9 H locs hw hP hS => ?_)
  · subst hw
    have h := hsum_l h
    by_cases hk0 : k9 = 0
    · have h := gif_t hk0 h
      subst hk0
      refine vx_catch X.ow [] ⟨0, 9, 12, 21⟩ [] htab (fun z hz => absurd hz List.not_mem_nil) (by decide) (by decide) (X.ts _ (List.mem_of_getElem? (i := 1) rfl)) (va_Nw.use rfl (X.th.2.1.1 0 (by decide))) hce hcv hcl ?_
      refine lv_astore_n (lv' := [(3, .ref q9), (0, .ref (b 0)), (1, .int a1), (2, .ref (b 137))]) hx hb dL_strengthOf_12 rfl hl (by decide) rfl (fun ls hl => ?_)
      refine lv_iconst (v := 1) hx hb dL_strengthOf_13 (by decide) ?_
      refine W.widen (k := 1) (n := 6) (Nat.le_of_ble_eq_true rfl) (Nat.le_of_ble_eq_true rfl) ?_
      exact W.iret hx hb hr (fun t9 ht hW => ⟨⟨(1 : Int32), J, rfl, (Option.some.inj h).symm, gEnd ht hP⟩, hS.F ht⟩) hS.2.2 dL_strengthOf_14 hlk
    have h := gif_f hk0 h
    cases h
  subst hw
  have h := hsum_r h
  refine lv_i2l (v := (r1).toInt64) hx hb dL_strengthOf_7 rfl ?_
  refine gs23 X hP hS kc_137 (sk_in hN kc_137 (by decide)) (L := 1) (by decide) (by decide) dL_strengthOf_8 (fun H locs hP hS => ?_)
  obtain ⟨J3, eJ3, h⟩ := hlet_ex h
  rw [← eJ3] at hP
  refine lv_goto (tgt := 15) hx hb dL_strengthOf_9 (by decide) ?_
  refine lv_iconst (v := 0) hx hb dL_strengthOf_15 (by decide) ?_
  refine W.widen (k := 1) (n := 6) (Nat.le_of_ble_eq_true rfl) (Nat.le_of_ble_eq_true rfl) ?_
  exact W.iret hx hb hr (fun t9 ht hW => ⟨⟨(0 : Int32), J3, rfl, (Option.some.inj h).symm, gEnd ht hP⟩, hS.F ht⟩) hS.2.2 dL_strengthOf_16 hlk
def f_L_wearOf (a1 : Int32) (I : Nat → Nat → Int32) (J : Nat → Nat → Int64) : Option (Int32 × (Nat → Nat → Int64)) :=
  (f_X7_wearOf a1 I).bind fun eq2 => hsum eq2 (fun k9 => 
    if k9 = 0 then
      some ((1 : Int32), J)
    else
    none) fun r1 =>
  hlet (gup J 137 ((0 : Int32).toNatClampNeg) ((r1).toInt64)) fun J3 =>
  some ((0 : Int32), J3)
set_option maxHeartbeats 8000000 in
set_option maxRecDepth 100000 in
theorem c_L_wearOf {l : Launch} (hlf : l.stackTraces = false) {dC : Nat → ClassId} {dI : Nat → Nat → Nat} {ca : Nat → ClassId} {b : Nat → Nat} {A : Nat → Prop} {N : Nat} (hN : 138 ≤ N) (hA : gAd A b N) (I : Nat → Nat → Int32) (O : Nat → Nat → Option Nat) (J : Nat → Nat → Int64) (a1 : Int32) (res : Int32 × (Nat → Nat → Int64)) (h : f_L_wearOf a1 I J = some res) : Met l yL_wearOf wsL_wearOf ({ frames := 8, cells := 1, slots := 6, locals := 133 } : Room) (va_Pc [.ref (b 0), .int a1, .ref (b 137)] (gPre dC dI ca b A N I O J)) (va_Qi (fun (r : Int32) (u : Nat → Nat → Int64) => res = (r, u)) (fun (u : Nat → Nat → Int64) t => va_P (dC, dI) vwCl (hW N ca b I O u) t.heap) A) 1 6 A := by
  refine va_MetW (cc := cL_wearOf) (maxL := 4) (ret := (some .int)) (by decide) rfl ?_
  intro p e s m args below meth c s₁ B hml hv
  obtain ⟨rfl, hP, hK, hA2, hth⟩ := hv
  have hx := B.exec
  have hb := B.bytes
  have hr := B.returns
  have hlk := B.notSynchronized
  have X : gCx p s m ([.ref (b 0), .int a1, .ref (b 137)] : List Value).toArray c RL cL_wearOf wsL_wearOf 4 dC dI ca b A N := ⟨hx, hb, hml, findClass_of_methodNamed B.named, atoms_spec (ws := wsL_wearOf) B.pre, hK, hA, hA2, hth⟩
  have htab : c.exceptionTable.toList = tableOf [(0, 9, 12, 21)] := vx_table (x := yL_wearOf) B (atoms_spec (ws := wsL_wearOf) B.pre _ (List.mem_of_getElem? (i := 0) rfl))
  have hS : va_S A s.heap s.heap [] := va_S.rf
  have hl := lv_entry ([.ref (b 0), .int a1, .ref (b 137)] : List Value) (n := 4) (Nat.le_of_ble_eq_true rfl)
  rw [lg_entry_eq]
  generalize (lg_sl ([.ref (b 0), .int a1, .ref (b 137)] : List Value) ++ List.replicate (4 - (lg_sl ([.ref (b 0), .int a1, .ref (b 137)] : List Value)).length) Slot.unset).toArray = ls at hl ⊢
  have hl : lv_has ls 4 [(0, .ref (b 0)), (1, .int a1), (2, .ref (b 137))] := hl
  unfold f_L_wearOf at h
  refine lv_aload_n hx hb dL_wearOf_0 rfl (lv_at hl 2 rfl) ?_
  refine lv_iconst (v := 0) hx hb dL_wearOf_1 (by decide) ?_
  refine lv_aload_n hx hb dL_wearOf_2 rfl (lv_at hl 0 rfl) ?_
  refine lv_iload_n hx hb dL_wearOf_3 rfl (lv_at hl 1 rfl) ?_
  obtain ⟨q2, hcq2, h⟩ := hb_some h
  refine gxV_i (As := [.int a1]) (rest := [.int (0 : Int32), .ref (b 137)]) (BH := (fun (u : Unit) H => va_P (dC, dI) vwCl (hW N ca b I O J) H)) (BX := (fun (u : Unit) H => va_P (dC, dI) vwCl (hW N ca b I O J) H)) X hP hS (c_X7_wearOf hlf hN hA I O J a1 q2 hcq2) (cwV 1 X.ts gL_wearOf_X7_wearOf rfl rfl rfl (by decide +kernel) ⟨Nat.le_of_ble_eq_true rfl, Nat.le_of_ble_eq_true rfl⟩) (gr7 X hP kc_0 (sk_in hN kc_0 (by decide))) rfl hl.1 rfl (Nat.le_of_ble_eq_true rfl) dL_wearOf_4 ⟨Nat.le_of_ble_eq_true rfl, Nat.le_of_ble_eq_true rfl⟩ (fun k9 u9 H locs ce9 q9 hw hP hS hce hcv hcl => ?_) (fun r1 u9 H locs hw hP hS => ?_)
  · subst hw
    have h := hsum_l h
    by_cases hk0 : k9 = 0
    · have h := gif_t hk0 h
      subst hk0
      refine vx_catch X.ow [] ⟨0, 9, 12, 21⟩ [] htab (fun z hz => absurd hz List.not_mem_nil) (by decide) (by decide) (X.ts _ (List.mem_of_getElem? (i := 1) rfl)) (va_Nw.use rfl (X.th.2.1.1 0 (by decide))) hce hcv hcl ?_
      refine lv_astore_n (lv' := [(3, .ref q9), (0, .ref (b 0)), (1, .int a1), (2, .ref (b 137))]) hx hb dL_wearOf_12 rfl hl (by decide) rfl (fun ls hl => ?_)
      refine lv_iconst (v := 1) hx hb dL_wearOf_13 (by decide) ?_
      refine W.widen (k := 1) (n := 6) (Nat.le_of_ble_eq_true rfl) (Nat.le_of_ble_eq_true rfl) ?_
      exact W.iret hx hb hr (fun t9 ht hW => ⟨⟨(1 : Int32), J, rfl, (Option.some.inj h).symm, gEnd ht hP⟩, hS.F ht⟩) hS.2.2 dL_wearOf_14 hlk
    have h := gif_f hk0 h
    cases h
  subst hw
  have h := hsum_r h
  refine lv_i2l (v := (r1).toInt64) hx hb dL_wearOf_7 rfl ?_
  refine gs23 X hP hS kc_137 (sk_in hN kc_137 (by decide)) (L := 1) (by decide) (by decide) dL_wearOf_8 (fun H locs hP hS => ?_)
  obtain ⟨J3, eJ3, h⟩ := hlet_ex h
  rw [← eJ3] at hP
  refine lv_goto (tgt := 15) hx hb dL_wearOf_9 (by decide) ?_
  refine lv_iconst (v := 0) hx hb dL_wearOf_15 (by decide) ?_
  refine W.widen (k := 1) (n := 6) (Nat.le_of_ble_eq_true rfl) (Nat.le_of_ble_eq_true rfl) ?_
  exact W.iret hx hb hr (fun t9 ht hW => ⟨⟨(0 : Int32), J3, rfl, (Option.some.inj h).symm, gEnd ht hP⟩, hS.F ht⟩) hS.2.2 dL_wearOf_16 hlk
def f_L_laneOf (a1 : Int32) (I : Nat → Nat → Int32) (J : Nat → Nat → Int64) : Option (Int32 × (Nat → Nat → Int64)) :=
  (f_X7_laneOf a1 I).bind fun eq2 => hsum eq2 (fun k9 => 
    if k9 = 0 then
      some ((1 : Int32), J)
    else
    none) fun r1 =>
  hlet (gup J 137 ((0 : Int32).toNatClampNeg) ((r1).toInt64)) fun J3 =>
  some ((0 : Int32), J3)
set_option maxHeartbeats 8000000 in
set_option maxRecDepth 100000 in
theorem c_L_laneOf {l : Launch} (hlf : l.stackTraces = false) {dC : Nat → ClassId} {dI : Nat → Nat → Nat} {ca : Nat → ClassId} {b : Nat → Nat} {A : Nat → Prop} {N : Nat} (hN : 138 ≤ N) (hA : gAd A b N) (I : Nat → Nat → Int32) (O : Nat → Nat → Option Nat) (J : Nat → Nat → Int64) (a1 : Int32) (res : Int32 × (Nat → Nat → Int64)) (h : f_L_laneOf a1 I J = some res) : Met l yL_laneOf wsL_laneOf ({ frames := 8, cells := 1, slots := 6, locals := 133 } : Room) (va_Pc [.ref (b 0), .int a1, .ref (b 137)] (gPre dC dI ca b A N I O J)) (va_Qi (fun (r : Int32) (u : Nat → Nat → Int64) => res = (r, u)) (fun (u : Nat → Nat → Int64) t => va_P (dC, dI) vwCl (hW N ca b I O u) t.heap) A) 1 6 A := by
  refine va_MetW (cc := cL_laneOf) (maxL := 4) (ret := (some .int)) (by decide) rfl ?_
  intro p e s m args below meth c s₁ B hml hv
  obtain ⟨rfl, hP, hK, hA2, hth⟩ := hv
  have hx := B.exec
  have hb := B.bytes
  have hr := B.returns
  have hlk := B.notSynchronized
  have X : gCx p s m ([.ref (b 0), .int a1, .ref (b 137)] : List Value).toArray c RL cL_laneOf wsL_laneOf 4 dC dI ca b A N := ⟨hx, hb, hml, findClass_of_methodNamed B.named, atoms_spec (ws := wsL_laneOf) B.pre, hK, hA, hA2, hth⟩
  have htab : c.exceptionTable.toList = tableOf [(0, 9, 12, 21)] := vx_table (x := yL_laneOf) B (atoms_spec (ws := wsL_laneOf) B.pre _ (List.mem_of_getElem? (i := 0) rfl))
  have hS : va_S A s.heap s.heap [] := va_S.rf
  have hl := lv_entry ([.ref (b 0), .int a1, .ref (b 137)] : List Value) (n := 4) (Nat.le_of_ble_eq_true rfl)
  rw [lg_entry_eq]
  generalize (lg_sl ([.ref (b 0), .int a1, .ref (b 137)] : List Value) ++ List.replicate (4 - (lg_sl ([.ref (b 0), .int a1, .ref (b 137)] : List Value)).length) Slot.unset).toArray = ls at hl ⊢
  have hl : lv_has ls 4 [(0, .ref (b 0)), (1, .int a1), (2, .ref (b 137))] := hl
  unfold f_L_laneOf at h
  refine lv_aload_n hx hb dL_laneOf_0 rfl (lv_at hl 2 rfl) ?_
  refine lv_iconst (v := 0) hx hb dL_laneOf_1 (by decide) ?_
  refine lv_aload_n hx hb dL_laneOf_2 rfl (lv_at hl 0 rfl) ?_
  refine lv_iload_n hx hb dL_laneOf_3 rfl (lv_at hl 1 rfl) ?_
  obtain ⟨q2, hcq2, h⟩ := hb_some h
  refine gxV_i (As := [.int a1]) (rest := [.int (0 : Int32), .ref (b 137)]) (BH := (fun (u : Unit) H => va_P (dC, dI) vwCl (hW N ca b I O J) H)) (BX := (fun (u : Unit) H => va_P (dC, dI) vwCl (hW N ca b I O J) H)) X hP hS (c_X7_laneOf hlf hN hA I O J a1 q2 hcq2) (cwV 1 X.ts gL_laneOf_X7_laneOf rfl rfl rfl (by decide +kernel) ⟨Nat.le_of_ble_eq_true rfl, Nat.le_of_ble_eq_true rfl⟩) (gr7 X hP kc_0 (sk_in hN kc_0 (by decide))) rfl hl.1 rfl (Nat.le_of_ble_eq_true rfl) dL_laneOf_4 ⟨Nat.le_of_ble_eq_true rfl, Nat.le_of_ble_eq_true rfl⟩ (fun k9 u9 H locs ce9 q9 hw hP hS hce hcv hcl => ?_) (fun r1 u9 H locs hw hP hS => ?_)
  · subst hw
    have h := hsum_l h
    by_cases hk0 : k9 = 0
    · have h := gif_t hk0 h
      subst hk0
      refine vx_catch X.ow [] ⟨0, 9, 12, 21⟩ [] htab (fun z hz => absurd hz List.not_mem_nil) (by decide) (by decide) (X.ts _ (List.mem_of_getElem? (i := 1) rfl)) (va_Nw.use rfl (X.th.2.1.1 0 (by decide))) hce hcv hcl ?_
      refine lv_astore_n (lv' := [(3, .ref q9), (0, .ref (b 0)), (1, .int a1), (2, .ref (b 137))]) hx hb dL_laneOf_12 rfl hl (by decide) rfl (fun ls hl => ?_)
      refine lv_iconst (v := 1) hx hb dL_laneOf_13 (by decide) ?_
      refine W.widen (k := 1) (n := 6) (Nat.le_of_ble_eq_true rfl) (Nat.le_of_ble_eq_true rfl) ?_
      exact W.iret hx hb hr (fun t9 ht hW => ⟨⟨(1 : Int32), J, rfl, (Option.some.inj h).symm, gEnd ht hP⟩, hS.F ht⟩) hS.2.2 dL_laneOf_14 hlk
    have h := gif_f hk0 h
    cases h
  subst hw
  have h := hsum_r h
  refine lv_i2l (v := (r1).toInt64) hx hb dL_laneOf_7 rfl ?_
  refine gs23 X hP hS kc_137 (sk_in hN kc_137 (by decide)) (L := 1) (by decide) (by decide) dL_laneOf_8 (fun H locs hP hS => ?_)
  obtain ⟨J3, eJ3, h⟩ := hlet_ex h
  rw [← eJ3] at hP
  refine lv_goto (tgt := 15) hx hb dL_laneOf_9 (by decide) ?_
  refine lv_iconst (v := 0) hx hb dL_laneOf_15 (by decide) ?_
  refine W.widen (k := 1) (n := 6) (Nat.le_of_ble_eq_true rfl) (Nat.le_of_ble_eq_true rfl) ?_
  exact W.iret hx hb hr (fun t9 ht hW => ⟨⟨(0 : Int32), J3, rfl, (Option.some.inj h).symm, gEnd ht hP⟩, hS.F ht⟩) hS.2.2 dL_laneOf_16 hlk
def f_L_stateOf (a1 : Int32) (I : Nat → Nat → Int32) (J : Nat → Nat → Int64) : Option (Int32 × (Nat → Nat → Int64)) :=
  (f_X7_stateOf a1 I).bind fun eq2 => hsum eq2 (fun k9 => 
    if k9 = 0 then
      some ((1 : Int32), J)
    else
    none) fun r1 =>
  hlet (gup J 137 ((0 : Int32).toNatClampNeg) ((r1).toInt64)) fun J3 =>
  some ((0 : Int32), J3)
set_option maxHeartbeats 8000000 in
set_option maxRecDepth 100000 in
theorem c_L_stateOf {l : Launch} (hlf : l.stackTraces = false) {dC : Nat → ClassId} {dI : Nat → Nat → Nat} {ca : Nat → ClassId} {b : Nat → Nat} {A : Nat → Prop} {N : Nat} (hN : 138 ≤ N) (hA : gAd A b N) (I : Nat → Nat → Int32) (O : Nat → Nat → Option Nat) (J : Nat → Nat → Int64) (a1 : Int32) (res : Int32 × (Nat → Nat → Int64)) (h : f_L_stateOf a1 I J = some res) : Met l yL_stateOf wsL_stateOf ({ frames := 8, cells := 1, slots := 6, locals := 133 } : Room) (va_Pc [.ref (b 0), .int a1, .ref (b 137)] (gPre dC dI ca b A N I O J)) (va_Qi (fun (r : Int32) (u : Nat → Nat → Int64) => res = (r, u)) (fun (u : Nat → Nat → Int64) t => va_P (dC, dI) vwCl (hW N ca b I O u) t.heap) A) 1 6 A := by
  refine va_MetW (cc := cL_stateOf) (maxL := 4) (ret := (some .int)) (by decide) rfl ?_
  intro p e s m args below meth c s₁ B hml hv
  obtain ⟨rfl, hP, hK, hA2, hth⟩ := hv
  have hx := B.exec
  have hb := B.bytes
  have hr := B.returns
  have hlk := B.notSynchronized
  have X : gCx p s m ([.ref (b 0), .int a1, .ref (b 137)] : List Value).toArray c RL cL_stateOf wsL_stateOf 4 dC dI ca b A N := ⟨hx, hb, hml, findClass_of_methodNamed B.named, atoms_spec (ws := wsL_stateOf) B.pre, hK, hA, hA2, hth⟩
  have htab : c.exceptionTable.toList = tableOf [(0, 9, 12, 21)] := vx_table (x := yL_stateOf) B (atoms_spec (ws := wsL_stateOf) B.pre _ (List.mem_of_getElem? (i := 0) rfl))
  have hS : va_S A s.heap s.heap [] := va_S.rf
  have hl := lv_entry ([.ref (b 0), .int a1, .ref (b 137)] : List Value) (n := 4) (Nat.le_of_ble_eq_true rfl)
  rw [lg_entry_eq]
  generalize (lg_sl ([.ref (b 0), .int a1, .ref (b 137)] : List Value) ++ List.replicate (4 - (lg_sl ([.ref (b 0), .int a1, .ref (b 137)] : List Value)).length) Slot.unset).toArray = ls at hl ⊢
  have hl : lv_has ls 4 [(0, .ref (b 0)), (1, .int a1), (2, .ref (b 137))] := hl
  unfold f_L_stateOf at h
  refine lv_aload_n hx hb dL_stateOf_0 rfl (lv_at hl 2 rfl) ?_
  refine lv_iconst (v := 0) hx hb dL_stateOf_1 (by decide) ?_
  refine lv_aload_n hx hb dL_stateOf_2 rfl (lv_at hl 0 rfl) ?_
  refine lv_iload_n hx hb dL_stateOf_3 rfl (lv_at hl 1 rfl) ?_
  obtain ⟨q2, hcq2, h⟩ := hb_some h
  refine gxV_i (As := [.int a1]) (rest := [.int (0 : Int32), .ref (b 137)]) (BH := (fun (u : Unit) H => va_P (dC, dI) vwCl (hW N ca b I O J) H)) (BX := (fun (u : Unit) H => va_P (dC, dI) vwCl (hW N ca b I O J) H)) X hP hS (c_X7_stateOf hlf hN hA I O J a1 q2 hcq2) (cwV 1 X.ts gL_stateOf_X7_stateOf rfl rfl rfl (by decide +kernel) ⟨Nat.le_of_ble_eq_true rfl, Nat.le_of_ble_eq_true rfl⟩) (gr7 X hP kc_0 (sk_in hN kc_0 (by decide))) rfl hl.1 rfl (Nat.le_of_ble_eq_true rfl) dL_stateOf_4 ⟨Nat.le_of_ble_eq_true rfl, Nat.le_of_ble_eq_true rfl⟩ (fun k9 u9 H locs ce9 q9 hw hP hS hce hcv hcl => ?_) (fun r1 u9 H locs hw hP hS => ?_)
  · subst hw
    have h := hsum_l h
    by_cases hk0 : k9 = 0
    · have h := gif_t hk0 h
      subst hk0
      refine vx_catch X.ow [] ⟨0, 9, 12, 21⟩ [] htab (fun z hz => absurd hz List.not_mem_nil) (by decide) (by decide) (X.ts _ (List.mem_of_getElem? (i := 1) rfl)) (va_Nw.use rfl (X.th.2.1.1 0 (by decide))) hce hcv hcl ?_
      refine lv_astore_n (lv' := [(3, .ref q9), (0, .ref (b 0)), (1, .int a1), (2, .ref (b 137))]) hx hb dL_stateOf_12 rfl hl (by decide) rfl (fun ls hl => ?_)
      refine lv_iconst (v := 1) hx hb dL_stateOf_13 (by decide) ?_
      refine W.widen (k := 1) (n := 6) (Nat.le_of_ble_eq_true rfl) (Nat.le_of_ble_eq_true rfl) ?_
      exact W.iret hx hb hr (fun t9 ht hW => ⟨⟨(1 : Int32), J, rfl, (Option.some.inj h).symm, gEnd ht hP⟩, hS.F ht⟩) hS.2.2 dL_stateOf_14 hlk
    have h := gif_f hk0 h
    cases h
  subst hw
  have h := hsum_r h
  refine lv_i2l (v := (r1).toInt64) hx hb dL_stateOf_7 rfl ?_
  refine gs23 X hP hS kc_137 (sk_in hN kc_137 (by decide)) (L := 1) (by decide) (by decide) dL_stateOf_8 (fun H locs hP hS => ?_)
  obtain ⟨J3, eJ3, h⟩ := hlet_ex h
  rw [← eJ3] at hP
  refine lv_goto (tgt := 15) hx hb dL_stateOf_9 (by decide) ?_
  refine lv_iconst (v := 0) hx hb dL_stateOf_15 (by decide) ?_
  refine W.widen (k := 1) (n := 6) (Nat.le_of_ble_eq_true rfl) (Nat.le_of_ble_eq_true rfl) ?_
  exact W.iret hx hb hr (fun t9 ht hW => ⟨⟨(0 : Int32), J3, rfl, (Option.some.inj h).symm, gEnd ht hP⟩, hS.F ht⟩) hS.2.2 dL_stateOf_16 hlk
def f_L_paceOf (a1 : Int32) (I : Nat → Nat → Int32) (J : Nat → Nat → Int64) : Option (Int32 × (Nat → Nat → Int64)) :=
  (f_X7_paceOf a1 I).bind fun eq2 => hsum eq2 (fun k9 => 
    if k9 = 0 then
      some ((1 : Int32), J)
    else
    none) fun r1 =>
  hlet (gup J 137 ((0 : Int32).toNatClampNeg) ((r1).toInt64)) fun J3 =>
  some ((0 : Int32), J3)
set_option maxHeartbeats 8000000 in
set_option maxRecDepth 100000 in
theorem c_L_paceOf {l : Launch} (hlf : l.stackTraces = false) {dC : Nat → ClassId} {dI : Nat → Nat → Nat} {ca : Nat → ClassId} {b : Nat → Nat} {A : Nat → Prop} {N : Nat} (hN : 138 ≤ N) (hA : gAd A b N) (I : Nat → Nat → Int32) (O : Nat → Nat → Option Nat) (J : Nat → Nat → Int64) (a1 : Int32) (res : Int32 × (Nat → Nat → Int64)) (h : f_L_paceOf a1 I J = some res) : Met l yL_paceOf wsL_paceOf ({ frames := 8, cells := 1, slots := 6, locals := 133 } : Room) (va_Pc [.ref (b 0), .int a1, .ref (b 137)] (gPre dC dI ca b A N I O J)) (va_Qi (fun (r : Int32) (u : Nat → Nat → Int64) => res = (r, u)) (fun (u : Nat → Nat → Int64) t => va_P (dC, dI) vwCl (hW N ca b I O u) t.heap) A) 1 6 A := by
  refine va_MetW (cc := cL_paceOf) (maxL := 4) (ret := (some .int)) (by decide) rfl ?_
  intro p e s m args below meth c s₁ B hml hv
  obtain ⟨rfl, hP, hK, hA2, hth⟩ := hv
  have hx := B.exec
  have hb := B.bytes
  have hr := B.returns
  have hlk := B.notSynchronized
  have X : gCx p s m ([.ref (b 0), .int a1, .ref (b 137)] : List Value).toArray c RL cL_paceOf wsL_paceOf 4 dC dI ca b A N := ⟨hx, hb, hml, findClass_of_methodNamed B.named, atoms_spec (ws := wsL_paceOf) B.pre, hK, hA, hA2, hth⟩
  have htab : c.exceptionTable.toList = tableOf [(0, 9, 12, 21)] := vx_table (x := yL_paceOf) B (atoms_spec (ws := wsL_paceOf) B.pre _ (List.mem_of_getElem? (i := 0) rfl))
  have hS : va_S A s.heap s.heap [] := va_S.rf
  have hl := lv_entry ([.ref (b 0), .int a1, .ref (b 137)] : List Value) (n := 4) (Nat.le_of_ble_eq_true rfl)
  rw [lg_entry_eq]
  generalize (lg_sl ([.ref (b 0), .int a1, .ref (b 137)] : List Value) ++ List.replicate (4 - (lg_sl ([.ref (b 0), .int a1, .ref (b 137)] : List Value)).length) Slot.unset).toArray = ls at hl ⊢
  have hl : lv_has ls 4 [(0, .ref (b 0)), (1, .int a1), (2, .ref (b 137))] := hl
  unfold f_L_paceOf at h
  refine lv_aload_n hx hb dL_paceOf_0 rfl (lv_at hl 2 rfl) ?_
  refine lv_iconst (v := 0) hx hb dL_paceOf_1 (by decide) ?_
  refine lv_aload_n hx hb dL_paceOf_2 rfl (lv_at hl 0 rfl) ?_
  refine lv_iload_n hx hb dL_paceOf_3 rfl (lv_at hl 1 rfl) ?_
  obtain ⟨q2, hcq2, h⟩ := hb_some h
  refine gxV_i (As := [.int a1]) (rest := [.int (0 : Int32), .ref (b 137)]) (BH := (fun (u : Unit) H => va_P (dC, dI) vwCl (hW N ca b I O J) H)) (BX := (fun (u : Unit) H => va_P (dC, dI) vwCl (hW N ca b I O J) H)) X hP hS (c_X7_paceOf hlf hN hA I O J a1 q2 hcq2) (cwV 1 X.ts gL_paceOf_X7_paceOf rfl rfl rfl (by decide +kernel) ⟨Nat.le_of_ble_eq_true rfl, Nat.le_of_ble_eq_true rfl⟩) (gr7 X hP kc_0 (sk_in hN kc_0 (by decide))) rfl hl.1 rfl (Nat.le_of_ble_eq_true rfl) dL_paceOf_4 ⟨Nat.le_of_ble_eq_true rfl, Nat.le_of_ble_eq_true rfl⟩ (fun k9 u9 H locs ce9 q9 hw hP hS hce hcv hcl => ?_) (fun r1 u9 H locs hw hP hS => ?_)
  · subst hw
    have h := hsum_l h
    by_cases hk0 : k9 = 0
    · have h := gif_t hk0 h
      subst hk0
      refine vx_catch X.ow [] ⟨0, 9, 12, 21⟩ [] htab (fun z hz => absurd hz List.not_mem_nil) (by decide) (by decide) (X.ts _ (List.mem_of_getElem? (i := 1) rfl)) (va_Nw.use rfl (X.th.2.1.1 0 (by decide))) hce hcv hcl ?_
      refine lv_astore_n (lv' := [(3, .ref q9), (0, .ref (b 0)), (1, .int a1), (2, .ref (b 137))]) hx hb dL_paceOf_12 rfl hl (by decide) rfl (fun ls hl => ?_)
      refine lv_iconst (v := 1) hx hb dL_paceOf_13 (by decide) ?_
      refine W.widen (k := 1) (n := 6) (Nat.le_of_ble_eq_true rfl) (Nat.le_of_ble_eq_true rfl) ?_
      exact W.iret hx hb hr (fun t9 ht hW => ⟨⟨(1 : Int32), J, rfl, (Option.some.inj h).symm, gEnd ht hP⟩, hS.F ht⟩) hS.2.2 dL_paceOf_14 hlk
    have h := gif_f hk0 h
    cases h
  subst hw
  have h := hsum_r h
  refine lv_i2l (v := (r1).toInt64) hx hb dL_paceOf_7 rfl ?_
  refine gs23 X hP hS kc_137 (sk_in hN kc_137 (by decide)) (L := 1) (by decide) (by decide) dL_paceOf_8 (fun H locs hP hS => ?_)
  obtain ⟨J3, eJ3, h⟩ := hlet_ex h
  rw [← eJ3] at hP
  refine lv_goto (tgt := 15) hx hb dL_paceOf_9 (by decide) ?_
  refine lv_iconst (v := 0) hx hb dL_paceOf_15 (by decide) ?_
  refine W.widen (k := 1) (n := 6) (Nat.le_of_ble_eq_true rfl) (Nat.le_of_ble_eq_true rfl) ?_
  exact W.iret hx hb hr (fun t9 ht hW => ⟨⟨(0 : Int32), J3, rfl, (Option.some.inj h).symm, gEnd ht hP⟩, hS.F ht⟩) hS.2.2 dL_paceOf_16 hlk
def f_L_partnerOf (a1 : Int32) (I : Nat → Nat → Int32) (J : Nat → Nat → Int64) : Option (Int32 × (Nat → Nat → Int64)) :=
  (f_X7_partnerOf a1 I).bind fun eq2 => hsum eq2 (fun k9 => 
    if k9 = 0 then
      some ((1 : Int32), J)
    else
    if k9 = 2 then
      some ((2 : Int32), J)
    else
    none) fun r1 =>
  hlet (gup J 137 ((0 : Int32).toNatClampNeg) ((r1).toInt64)) fun J3 =>
  some ((0 : Int32), J3)
set_option maxHeartbeats 8000000 in
set_option maxRecDepth 100000 in
theorem c_L_partnerOf {l : Launch} (hlf : l.stackTraces = false) {dC : Nat → ClassId} {dI : Nat → Nat → Nat} {ca : Nat → ClassId} {b : Nat → Nat} {A : Nat → Prop} {N : Nat} (hN : 138 ≤ N) (hA : gAd A b N) (I : Nat → Nat → Int32) (O : Nat → Nat → Option Nat) (J : Nat → Nat → Int64) (a1 : Int32) (res : Int32 × (Nat → Nat → Int64)) (h : f_L_partnerOf a1 I J = some res) : Met l yL_partnerOf wsL_partnerOf ({ frames := 8, cells := 2, slots := 12, locals := 134 } : Room) (va_Pc [.ref (b 0), .int a1, .ref (b 137)] (gPre dC dI ca b A N I O J)) (va_Qi (fun (r : Int32) (u : Nat → Nat → Int64) => res = (r, u)) (fun (u : Nat → Nat → Int64) t => va_P (dC, dI) vwCl (hW N ca b I O u) t.heap) A) 2 12 A := by
  refine va_MetW (cc := cL_partnerOf) (maxL := 4) (ret := (some .int)) (by decide) rfl ?_
  intro p e s m args below meth c s₁ B hml hv
  obtain ⟨rfl, hP, hK, hA2, hth⟩ := hv
  have hx := B.exec
  have hb := B.bytes
  have hr := B.returns
  have hlk := B.notSynchronized
  have X : gCx p s m ([.ref (b 0), .int a1, .ref (b 137)] : List Value).toArray c RL cL_partnerOf wsL_partnerOf 4 dC dI ca b A N := ⟨hx, hb, hml, findClass_of_methodNamed B.named, atoms_spec (ws := wsL_partnerOf) B.pre, hK, hA, hA2, hth⟩
  have htab : c.exceptionTable.toList = tableOf [(0, 9, 12, 21), (0, 9, 15, 15)] := vx_table (x := yL_partnerOf) B (atoms_spec (ws := wsL_partnerOf) B.pre _ (List.mem_of_getElem? (i := 0) rfl))
  have hS : va_S A s.heap s.heap [] := va_S.rf
  have hl := lv_entry ([.ref (b 0), .int a1, .ref (b 137)] : List Value) (n := 4) (Nat.le_of_ble_eq_true rfl)
  rw [lg_entry_eq]
  generalize (lg_sl ([.ref (b 0), .int a1, .ref (b 137)] : List Value) ++ List.replicate (4 - (lg_sl ([.ref (b 0), .int a1, .ref (b 137)] : List Value)).length) Slot.unset).toArray = ls at hl ⊢
  have hl : lv_has ls 4 [(0, .ref (b 0)), (1, .int a1), (2, .ref (b 137))] := hl
  unfold f_L_partnerOf at h
  refine lv_aload_n hx hb dL_partnerOf_0 rfl (lv_at hl 2 rfl) ?_
  refine lv_iconst (v := 0) hx hb dL_partnerOf_1 (by decide) ?_
  refine lv_aload_n hx hb dL_partnerOf_2 rfl (lv_at hl 0 rfl) ?_
  refine lv_iload_n hx hb dL_partnerOf_3 rfl (lv_at hl 1 rfl) ?_
  obtain ⟨q2, hcq2, h⟩ := hb_some h
  refine gxV_i (As := [.int a1]) (rest := [.int (0 : Int32), .ref (b 137)]) (BH := (fun (u : Unit) H => va_P (dC, dI) vwCl (hW N ca b I O J) H)) (BX := (fun (u : Unit) H => va_P (dC, dI) vwCl (hW N ca b I O J) H)) X hP hS (c_X7_partnerOf hlf hN hA I O J a1 q2 hcq2) (cwV 1 X.ts gL_partnerOf_X7_partnerOf rfl rfl rfl (by decide +kernel) ⟨Nat.le_of_ble_eq_true rfl, Nat.le_of_ble_eq_true rfl⟩) (gr7 X hP kc_0 (sk_in hN kc_0 (by decide))) rfl hl.1 rfl (Nat.le_of_ble_eq_true rfl) dL_partnerOf_4 ⟨Nat.le_of_ble_eq_true rfl, Nat.le_of_ble_eq_true rfl⟩ (fun k9 u9 H locs ce9 q9 hw hP hS hce hcv hcl => ?_) (fun r1 u9 H locs hw hP hS => ?_)
  · subst hw
    have h := hsum_l h
    by_cases hk0 : k9 = 0
    · have h := gif_t hk0 h
      subst hk0
      refine vx_catch X.ow [] ⟨0, 9, 12, 21⟩ [⟨0, 9, 15, 15⟩] htab (fun z hz => absurd hz List.not_mem_nil) (by decide) (by decide) (X.ts _ (List.mem_of_getElem? (i := 1) rfl)) (va_Nw.use rfl (X.th.2.1.1 0 (by decide))) hce hcv hcl ?_
      refine lv_astore_n (lv' := [(3, .ref q9), (0, .ref (b 0)), (1, .int a1), (2, .ref (b 137))]) hx hb dL_partnerOf_12 rfl hl (by decide) rfl (fun ls hl => ?_)
      refine lv_iconst (v := 1) hx hb dL_partnerOf_13 (by decide) ?_
      refine W.widen (k := 2) (n := 12) (Nat.le_of_ble_eq_true rfl) (Nat.le_of_ble_eq_true rfl) ?_
      exact W.iret hx hb hr (fun t9 ht hW => ⟨⟨(1 : Int32), J, rfl, (Option.some.inj h).symm, gEnd ht hP⟩, hS.F ht⟩) hS.2.2 dL_partnerOf_14 hlk
    have h := gif_f hk0 h
    by_cases hk2 : k9 = 2
    · have h := gif_t hk2 h
      subst hk2
      refine vx_catch X.ow [⟨0, 9, 12, 21⟩] ⟨0, 9, 15, 15⟩ [] htab (fun z hz => by
        rcases List.mem_cons.mp hz with rfl | hz
        · exact Or.inr ⟨by decide, _, X.ts _ (List.mem_of_getElem? (i := 1) rfl), X.th.2.1.2.2.2 2 0 (by decide) (by decide) (by decide)⟩
        · exact absurd hz List.not_mem_nil) (by decide) (by decide) (X.ts _ (List.mem_of_getElem? (i := 2) rfl)) (va_Nw.use rfl (X.th.2.1.1 2 (by decide))) hce hcv hcl ?_
      refine lv_astore_n (lv' := [(3, .ref q9), (0, .ref (b 0)), (1, .int a1), (2, .ref (b 137))]) hx hb dL_partnerOf_15 rfl hl (by decide) rfl (fun ls hl => ?_)
      refine lv_iconst (v := 2) hx hb dL_partnerOf_16 (by decide) ?_
      refine W.widen (k := 2) (n := 12) (Nat.le_of_ble_eq_true rfl) (Nat.le_of_ble_eq_true rfl) ?_
      exact W.iret hx hb hr (fun t9 ht hW => ⟨⟨(2 : Int32), J, rfl, (Option.some.inj h).symm, gEnd ht hP⟩, hS.F ht⟩) hS.2.2 dL_partnerOf_17 hlk
    have h := gif_f hk2 h
    cases h
  subst hw
  have h := hsum_r h
  refine lv_i2l (v := (r1).toInt64) hx hb dL_partnerOf_7 rfl ?_
  refine gs23 X hP hS kc_137 (sk_in hN kc_137 (by decide)) (L := 1) (by decide) (by decide) dL_partnerOf_8 (fun H locs hP hS => ?_)
  obtain ⟨J3, eJ3, h⟩ := hlet_ex h
  rw [← eJ3] at hP
  refine lv_goto (tgt := 18) hx hb dL_partnerOf_9 (by decide) ?_
  refine lv_iconst (v := 0) hx hb dL_partnerOf_18 (by decide) ?_
  refine W.widen (k := 2) (n := 12) (Nat.le_of_ble_eq_true rfl) (Nat.le_of_ble_eq_true rfl) ?_
  exact W.iret hx hb hr (fun t9 ht hW => ⟨⟨(0 : Int32), J3, rfl, (Option.some.inj h).symm, gEnd ht hP⟩, hS.F ht⟩) hS.2.2 dL_partnerOf_19 hlk
def f_L_isCalledIn (a1 : Int32) (I : Nat → Nat → Int32) (J : Nat → Nat → Int64) : Option (Int32 × (Nat → Nat → Int64)) :=
  (f_X7_isCalledIn a1 I).bind fun eq2 => hsum eq2 (fun k9 => 
    if k9 = 0 then
      some ((1 : Int32), J)
    else
    none) fun r1 =>
  (show Option (Int64) from
    if r1 = 0 then
      some (0 : Int64)
    else
      some (1 : Int64)).bind fun p3 =>
  hlet (gup J 137 ((0 : Int32).toNatClampNeg) p3) fun J4 =>
  some ((0 : Int32), J4)
set_option maxHeartbeats 8000000 in
set_option maxRecDepth 100000 in
theorem c_L_isCalledIn {l : Launch} (hlf : l.stackTraces = false) {dC : Nat → ClassId} {dI : Nat → Nat → Nat} {ca : Nat → ClassId} {b : Nat → Nat} {A : Nat → Prop} {N : Nat} (hN : 138 ≤ N) (hA : gAd A b N) (I : Nat → Nat → Int32) (O : Nat → Nat → Option Nat) (J : Nat → Nat → Int64) (a1 : Int32) (res : Int32 × (Nat → Nat → Int64)) (h : f_L_isCalledIn a1 I J = some res) : Met l yL_isCalledIn wsL_isCalledIn ({ frames := 8, cells := 1, slots := 6, locals := 133 } : Room) (va_Pc [.ref (b 0), .int a1, .ref (b 137)] (gPre dC dI ca b A N I O J)) (va_Qi (fun (r : Int32) (u : Nat → Nat → Int64) => res = (r, u)) (fun (u : Nat → Nat → Int64) t => va_P (dC, dI) vwCl (hW N ca b I O u) t.heap) A) 1 6 A := by
  refine va_MetW (cc := cL_isCalledIn) (maxL := 4) (ret := (some .int)) (by decide) rfl ?_
  intro p e s m args below meth c s₁ B hml hv
  obtain ⟨rfl, hP, hK, hA2, hth⟩ := hv
  have hx := B.exec
  have hb := B.bytes
  have hr := B.returns
  have hlk := B.notSynchronized
  have X : gCx p s m ([.ref (b 0), .int a1, .ref (b 137)] : List Value).toArray c RL cL_isCalledIn wsL_isCalledIn 4 dC dI ca b A N := ⟨hx, hb, hml, findClass_of_methodNamed B.named, atoms_spec (ws := wsL_isCalledIn) B.pre, hK, hA, hA2, hth⟩
  have htab : c.exceptionTable.toList = tableOf [(0, 16, 19, 21)] := vx_table (x := yL_isCalledIn) B (atoms_spec (ws := wsL_isCalledIn) B.pre _ (List.mem_of_getElem? (i := 0) rfl))
  have hS : va_S A s.heap s.heap [] := va_S.rf
  have hl := lv_entry ([.ref (b 0), .int a1, .ref (b 137)] : List Value) (n := 4) (Nat.le_of_ble_eq_true rfl)
  rw [lg_entry_eq]
  generalize (lg_sl ([.ref (b 0), .int a1, .ref (b 137)] : List Value) ++ List.replicate (4 - (lg_sl ([.ref (b 0), .int a1, .ref (b 137)] : List Value)).length) Slot.unset).toArray = ls at hl ⊢
  have hl : lv_has ls 4 [(0, .ref (b 0)), (1, .int a1), (2, .ref (b 137))] := hl
  unfold f_L_isCalledIn at h
  refine lv_aload_n hx hb dL_isCalledIn_0 rfl (lv_at hl 2 rfl) ?_
  refine lv_iconst (v := 0) hx hb dL_isCalledIn_1 (by decide) ?_
  refine lv_aload_n hx hb dL_isCalledIn_2 rfl (lv_at hl 0 rfl) ?_
  refine lv_iload_n hx hb dL_isCalledIn_3 rfl (lv_at hl 1 rfl) ?_
  obtain ⟨q2, hcq2, h⟩ := hb_some h
  refine gxV_i (As := [.int a1]) (rest := [.int (0 : Int32), .ref (b 137)]) (BH := (fun (u : Unit) H => va_P (dC, dI) vwCl (hW N ca b I O J) H)) (BX := (fun (u : Unit) H => va_P (dC, dI) vwCl (hW N ca b I O J) H)) X hP hS (c_X7_isCalledIn hlf hN hA I O J a1 q2 hcq2) (cwV 1 X.ts gL_isCalledIn_X7_isCalledIn rfl rfl rfl (by decide +kernel) ⟨Nat.le_of_ble_eq_true rfl, Nat.le_of_ble_eq_true rfl⟩) (gr7 X hP kc_0 (sk_in hN kc_0 (by decide))) rfl hl.1 rfl (Nat.le_of_ble_eq_true rfl) dL_isCalledIn_4 ⟨Nat.le_of_ble_eq_true rfl, Nat.le_of_ble_eq_true rfl⟩ (fun k9 u9 H locs ce9 q9 hw hP hS hce hcv hcl => ?_) (fun r1 u9 H locs hw hP hS => ?_)
  · subst hw
    have h := hsum_l h
    by_cases hk0 : k9 = 0
    · have h := gif_t hk0 h
      subst hk0
      refine vx_catch X.ow [] ⟨0, 16, 19, 21⟩ [] htab (fun z hz => absurd hz List.not_mem_nil) (by decide) (by decide) (X.ts _ (List.mem_of_getElem? (i := 1) rfl)) (va_Nw.use rfl (X.th.2.1.1 0 (by decide))) hce hcv hcl ?_
      refine lv_astore_n (lv' := [(3, .ref q9), (0, .ref (b 0)), (1, .int a1), (2, .ref (b 137))]) hx hb dL_isCalledIn_19 rfl hl (by decide) rfl (fun ls hl => ?_)
      refine lv_iconst (v := 1) hx hb dL_isCalledIn_20 (by decide) ?_
      refine W.widen (k := 1) (n := 6) (Nat.le_of_ble_eq_true rfl) (Nat.le_of_ble_eq_true rfl) ?_
      exact W.iret hx hb hr (fun t9 ht hW => ⟨⟨(1 : Int32), J, rfl, (Option.some.inj h).symm, gEnd ht hP⟩, hS.F ht⟩) hS.2.2 dL_isCalledIn_21 hlk
    have h := gif_f hk0 h
    cases h
  subst hw
  have h := hsum_r h
  obtain ⟨p3, hv, h⟩ := hb_some h
  have K15 : ∀ (H : Heap) (locs : List Loc) (ls : Array Slot), va_P (dC, dI) vwCl (hW N ca b I O J) H → va_S A s.heap H locs → lv_has ls 4 [] → W p l e (headSpec wsL_isCalledIn ({ frames := 8, cells := 1, slots := 6, locals := 133 } : Room)).room s m ([.ref (b 0), .int a1, .ref (b 137)] : List Value).toArray below meth c H locs 1 6 (MQ below (va_Qi (fun (r : Int32) (u : Nat → Nat → Int64) => res = (r, u)) (fun (u : Nat → Nat → Int64) t => va_P (dC, dI) vwCl (hW N ca b I O u) t.heap) A) ([.ref (b 0), .int a1, .ref (b 137)] : List Value).toArray s 1 6 A) (F0 m 15 ls [.long p3, .int (0 : Int32), .ref (b 137)]) := by
    intro H locs ls hP hS hl
    refine gs23 X hP hS kc_137 (sk_in hN kc_137 (by decide)) (L := 1) (by decide) (by decide) dL_isCalledIn_15 (fun H locs hP hS => ?_)
    obtain ⟨J4, eJ4, h⟩ := hlet_ex h
    rw [← eJ4] at hP
    refine lv_goto (tgt := 22) hx hb dL_isCalledIn_16 (by decide) ?_
    refine lv_iconst (v := 0) hx hb dL_isCalledIn_22 (by decide) ?_
    refine W.widen (k := 1) (n := 6) (Nat.le_of_ble_eq_true rfl) (Nat.le_of_ble_eq_true rfl) ?_
    exact W.iret hx hb hr (fun t9 ht hW => ⟨⟨(0 : Int32), J4, rfl, (Option.some.inj h).symm, gEnd ht hP⟩, hS.F ht⟩) hS.2.2 dL_isCalledIn_23 hlk
  have h := hv
  refine lv_if_eq (tgt := 14) hx hb dL_isCalledIn_7 (by decide) (fun c5 => ?_) (fun c5 => ?_)
  · have h := gif_t c5 h
    refine lv_lconst (v := 0) hx hb dL_isCalledIn_14 (by decide) ?_
    cases h
    exact K15 _ _ _ hP hS (lv_sub hl [] rfl)
  · have h := gif_f c5 h
    refine lv_lconst (v := 1) hx hb dL_isCalledIn_10 (by decide) ?_
    refine lv_goto (tgt := 15) hx hb dL_isCalledIn_11 (by decide) ?_
    cases h
    exact K15 _ _ _ hP hS (lv_sub hl [] rfl)
def f_L_limitOf (a1 : Int32) (I : Nat → Nat → Int32) (J : Nat → Nat → Int64) : Option (Int32 × (Nat → Nat → Int64)) :=
  (f_X7_limitOf a1 I).bind fun eq2 => hsum eq2 (fun k9 => 
    if k9 = 0 then
      some ((1 : Int32), J)
    else
    none) fun r1 =>
  hlet (gup J 137 ((0 : Int32).toNatClampNeg) ((r1).toInt64)) fun J3 =>
  some ((0 : Int32), J3)
set_option maxHeartbeats 8000000 in
set_option maxRecDepth 100000 in
theorem c_L_limitOf {l : Launch} (hlf : l.stackTraces = false) {dC : Nat → ClassId} {dI : Nat → Nat → Nat} {ca : Nat → ClassId} {b : Nat → Nat} {A : Nat → Prop} {N : Nat} (hN : 138 ≤ N) (hA : gAd A b N) (I : Nat → Nat → Int32) (O : Nat → Nat → Option Nat) (J : Nat → Nat → Int64) (a1 : Int32) (res : Int32 × (Nat → Nat → Int64)) (h : f_L_limitOf a1 I J = some res) : Met l yL_limitOf wsL_limitOf ({ frames := 8, cells := 1, slots := 6, locals := 131 } : Room) (va_Pc [.ref (b 0), .int a1, .ref (b 137)] (gPre dC dI ca b A N I O J)) (va_Qi (fun (r : Int32) (u : Nat → Nat → Int64) => res = (r, u)) (fun (u : Nat → Nat → Int64) t => va_P (dC, dI) vwCl (hW N ca b I O u) t.heap) A) 1 6 A := by
  refine va_MetW (cc := cL_limitOf) (maxL := 4) (ret := (some .int)) (by decide) rfl ?_
  intro p e s m args below meth c s₁ B hml hv
  obtain ⟨rfl, hP, hK, hA2, hth⟩ := hv
  have hx := B.exec
  have hb := B.bytes
  have hr := B.returns
  have hlk := B.notSynchronized
  have X : gCx p s m ([.ref (b 0), .int a1, .ref (b 137)] : List Value).toArray c RL cL_limitOf wsL_limitOf 4 dC dI ca b A N := ⟨hx, hb, hml, findClass_of_methodNamed B.named, atoms_spec (ws := wsL_limitOf) B.pre, hK, hA, hA2, hth⟩
  have htab : c.exceptionTable.toList = tableOf [(0, 9, 12, 21)] := vx_table (x := yL_limitOf) B (atoms_spec (ws := wsL_limitOf) B.pre _ (List.mem_of_getElem? (i := 0) rfl))
  have hS : va_S A s.heap s.heap [] := va_S.rf
  have hl := lv_entry ([.ref (b 0), .int a1, .ref (b 137)] : List Value) (n := 4) (Nat.le_of_ble_eq_true rfl)
  rw [lg_entry_eq]
  generalize (lg_sl ([.ref (b 0), .int a1, .ref (b 137)] : List Value) ++ List.replicate (4 - (lg_sl ([.ref (b 0), .int a1, .ref (b 137)] : List Value)).length) Slot.unset).toArray = ls at hl ⊢
  have hl : lv_has ls 4 [(0, .ref (b 0)), (1, .int a1), (2, .ref (b 137))] := hl
  unfold f_L_limitOf at h
  refine lv_aload_n hx hb dL_limitOf_0 rfl (lv_at hl 2 rfl) ?_
  refine lv_iconst (v := 0) hx hb dL_limitOf_1 (by decide) ?_
  refine lv_aload_n hx hb dL_limitOf_2 rfl (lv_at hl 0 rfl) ?_
  refine lv_iload_n hx hb dL_limitOf_3 rfl (lv_at hl 1 rfl) ?_
  obtain ⟨q2, hcq2, h⟩ := hb_some h
  refine gxV_i (As := [.int a1]) (rest := [.int (0 : Int32), .ref (b 137)]) (BH := (fun (u : Unit) H => va_P (dC, dI) vwCl (hW N ca b I O J) H)) (BX := (fun (u : Unit) H => va_P (dC, dI) vwCl (hW N ca b I O J) H)) X hP hS (c_X7_limitOf hlf hN hA I O J a1 q2 hcq2) (cwV 1 X.ts gL_limitOf_X7_limitOf rfl rfl rfl (by decide +kernel) ⟨Nat.le_of_ble_eq_true rfl, Nat.le_of_ble_eq_true rfl⟩) (gr7 X hP kc_0 (sk_in hN kc_0 (by decide))) rfl hl.1 rfl (Nat.le_of_ble_eq_true rfl) dL_limitOf_4 ⟨Nat.le_of_ble_eq_true rfl, Nat.le_of_ble_eq_true rfl⟩ (fun k9 u9 H locs ce9 q9 hw hP hS hce hcv hcl => ?_) (fun r1 u9 H locs hw hP hS => ?_)
  · subst hw
    have h := hsum_l h
    by_cases hk0 : k9 = 0
    · have h := gif_t hk0 h
      subst hk0
      refine vx_catch X.ow [] ⟨0, 9, 12, 21⟩ [] htab (fun z hz => absurd hz List.not_mem_nil) (by decide) (by decide) (X.ts _ (List.mem_of_getElem? (i := 1) rfl)) (va_Nw.use rfl (X.th.2.1.1 0 (by decide))) hce hcv hcl ?_
      refine lv_astore_n (lv' := [(3, .ref q9), (0, .ref (b 0)), (1, .int a1), (2, .ref (b 137))]) hx hb dL_limitOf_12 rfl hl (by decide) rfl (fun ls hl => ?_)
      refine lv_iconst (v := 1) hx hb dL_limitOf_13 (by decide) ?_
      refine W.widen (k := 1) (n := 6) (Nat.le_of_ble_eq_true rfl) (Nat.le_of_ble_eq_true rfl) ?_
      exact W.iret hx hb hr (fun t9 ht hW => ⟨⟨(1 : Int32), J, rfl, (Option.some.inj h).symm, gEnd ht hP⟩, hS.F ht⟩) hS.2.2 dL_limitOf_14 hlk
    have h := gif_f hk0 h
    cases h
  subst hw
  have h := hsum_r h
  refine lv_i2l (v := (r1).toInt64) hx hb dL_limitOf_7 rfl ?_
  refine gs23 X hP hS kc_137 (sk_in hN kc_137 (by decide)) (L := 1) (by decide) (by decide) dL_limitOf_8 (fun H locs hP hS => ?_)
  obtain ⟨J3, eJ3, h⟩ := hlet_ex h
  rw [← eJ3] at hP
  refine lv_goto (tgt := 15) hx hb dL_limitOf_9 (by decide) ?_
  refine lv_iconst (v := 0) hx hb dL_limitOf_15 (by decide) ?_
  refine W.widen (k := 1) (n := 6) (Nat.le_of_ble_eq_true rfl) (Nat.le_of_ble_eq_true rfl) ?_
  exact W.iret hx hb hr (fun t9 ht hW => ⟨⟨(0 : Int32), J3, rfl, (Option.some.inj h).symm, gEnd ht hP⟩, hS.F ht⟩) hS.2.2 dL_limitOf_16 hlk
def f_L_placeByCounting (a1 : Int32) (I : Nat → Nat → Int32) (J : Nat → Nat → Int64) : Option (Int32 × (Nat → Nat → Int64)) :=
  (f_X7_placeByCounting a1 I).bind fun eq2 => hsum eq2 (fun k9 => 
    if k9 = 0 then
      some ((1 : Int32), J)
    else
    none) fun r1 =>
  hlet (gup J 137 ((0 : Int32).toNatClampNeg) ((r1).toInt64)) fun J3 =>
  some ((0 : Int32), J3)
set_option maxHeartbeats 8000000 in
set_option maxRecDepth 100000 in
theorem c_L_placeByCounting {l : Launch} (hlf : l.stackTraces = false) {dC : Nat → ClassId} {dI : Nat → Nat → Nat} {ca : Nat → ClassId} {b : Nat → Nat} {A : Nat → Prop} {N : Nat} (hN : 138 ≤ N) (hA : gAd A b N) (I : Nat → Nat → Int32) (O : Nat → Nat → Option Nat) (J : Nat → Nat → Int64) (a1 : Int32) (res : Int32 × (Nat → Nat → Int64)) (h : f_L_placeByCounting a1 I J = some res) : Met l yL_placeByCounting wsL_placeByCounting ({ frames := 8, cells := 1, slots := 6, locals := 133 } : Room) (va_Pc [.ref (b 0), .int a1, .ref (b 137)] (gPre dC dI ca b A N I O J)) (va_Qi (fun (r : Int32) (u : Nat → Nat → Int64) => res = (r, u)) (fun (u : Nat → Nat → Int64) t => va_P (dC, dI) vwCl (hW N ca b I O u) t.heap) A) 1 6 A := by
  refine va_MetW (cc := cL_placeByCounting) (maxL := 4) (ret := (some .int)) (by decide) rfl ?_
  intro p e s m args below meth c s₁ B hml hv
  obtain ⟨rfl, hP, hK, hA2, hth⟩ := hv
  have hx := B.exec
  have hb := B.bytes
  have hr := B.returns
  have hlk := B.notSynchronized
  have X : gCx p s m ([.ref (b 0), .int a1, .ref (b 137)] : List Value).toArray c RL cL_placeByCounting wsL_placeByCounting 4 dC dI ca b A N := ⟨hx, hb, hml, findClass_of_methodNamed B.named, atoms_spec (ws := wsL_placeByCounting) B.pre, hK, hA, hA2, hth⟩
  have htab : c.exceptionTable.toList = tableOf [(0, 9, 12, 21)] := vx_table (x := yL_placeByCounting) B (atoms_spec (ws := wsL_placeByCounting) B.pre _ (List.mem_of_getElem? (i := 0) rfl))
  have hS : va_S A s.heap s.heap [] := va_S.rf
  have hl := lv_entry ([.ref (b 0), .int a1, .ref (b 137)] : List Value) (n := 4) (Nat.le_of_ble_eq_true rfl)
  rw [lg_entry_eq]
  generalize (lg_sl ([.ref (b 0), .int a1, .ref (b 137)] : List Value) ++ List.replicate (4 - (lg_sl ([.ref (b 0), .int a1, .ref (b 137)] : List Value)).length) Slot.unset).toArray = ls at hl ⊢
  have hl : lv_has ls 4 [(0, .ref (b 0)), (1, .int a1), (2, .ref (b 137))] := hl
  unfold f_L_placeByCounting at h
  refine lv_aload_n hx hb dL_placeByCounting_0 rfl (lv_at hl 2 rfl) ?_
  refine lv_iconst (v := 0) hx hb dL_placeByCounting_1 (by decide) ?_
  refine lv_aload_n hx hb dL_placeByCounting_2 rfl (lv_at hl 0 rfl) ?_
  refine lv_iload_n hx hb dL_placeByCounting_3 rfl (lv_at hl 1 rfl) ?_
  obtain ⟨q2, hcq2, h⟩ := hb_some h
  refine gxV_i (As := [.int a1]) (rest := [.int (0 : Int32), .ref (b 137)]) (BH := (fun (u : Unit) H => va_P (dC, dI) vwCl (hW N ca b I O J) H)) (BX := (fun (u : Unit) H => va_P (dC, dI) vwCl (hW N ca b I O J) H)) X hP hS (c_X7_placeByCounting hlf hN hA I O J a1 q2 hcq2) (cwV 1 X.ts gL_placeByCounting_X7_placeByCounting rfl rfl rfl (by decide +kernel) ⟨Nat.le_of_ble_eq_true rfl, Nat.le_of_ble_eq_true rfl⟩) (gr7 X hP kc_0 (sk_in hN kc_0 (by decide))) rfl hl.1 rfl (Nat.le_of_ble_eq_true rfl) dL_placeByCounting_4 ⟨Nat.le_of_ble_eq_true rfl, Nat.le_of_ble_eq_true rfl⟩ (fun k9 u9 H locs ce9 q9 hw hP hS hce hcv hcl => ?_) (fun r1 u9 H locs hw hP hS => ?_)
  · subst hw
    have h := hsum_l h
    by_cases hk0 : k9 = 0
    · have h := gif_t hk0 h
      subst hk0
      refine vx_catch X.ow [] ⟨0, 9, 12, 21⟩ [] htab (fun z hz => absurd hz List.not_mem_nil) (by decide) (by decide) (X.ts _ (List.mem_of_getElem? (i := 1) rfl)) (va_Nw.use rfl (X.th.2.1.1 0 (by decide))) hce hcv hcl ?_
      refine lv_astore_n (lv' := [(3, .ref q9), (0, .ref (b 0)), (1, .int a1), (2, .ref (b 137))]) hx hb dL_placeByCounting_12 rfl hl (by decide) rfl (fun ls hl => ?_)
      refine lv_iconst (v := 1) hx hb dL_placeByCounting_13 (by decide) ?_
      refine W.widen (k := 1) (n := 6) (Nat.le_of_ble_eq_true rfl) (Nat.le_of_ble_eq_true rfl) ?_
      exact W.iret hx hb hr (fun t9 ht hW => ⟨⟨(1 : Int32), J, rfl, (Option.some.inj h).symm, gEnd ht hP⟩, hS.F ht⟩) hS.2.2 dL_placeByCounting_14 hlk
    have h := gif_f hk0 h
    cases h
  subst hw
  have h := hsum_r h
  refine lv_i2l (v := (r1).toInt64) hx hb dL_placeByCounting_7 rfl ?_
  refine gs23 X hP hS kc_137 (sk_in hN kc_137 (by decide)) (L := 1) (by decide) (by decide) dL_placeByCounting_8 (fun H locs hP hS => ?_)
  obtain ⟨J3, eJ3, h⟩ := hlet_ex h
  rw [← eJ3] at hP
  refine lv_goto (tgt := 15) hx hb dL_placeByCounting_9 (by decide) ?_
  refine lv_iconst (v := 0) hx hb dL_placeByCounting_15 (by decide) ?_
  refine W.widen (k := 1) (n := 6) (Nat.le_of_ble_eq_true rfl) (Nat.le_of_ble_eq_true rfl) ?_
  exact W.iret hx hb hr (fun t9 ht hW => ⟨⟨(0 : Int32), J3, rfl, (Option.some.inj h).symm, gEnd ht hP⟩, hS.F ht⟩) hS.2.2 dL_placeByCounting_16 hlk
def f_L_birdByOrder (a1 : Int32) (I : Nat → Nat → Int32) (O : Nat → Nat → Option Nat) (J : Nat → Nat → Int64) : Option (Int32 × (Nat → Nat → Option Nat) × (Nat → Nat → Int64)) :=
  (f_X7_birdByOrder a1 I O).bind fun (eq3, O1) => hsum eq3 (fun k9 => 
    if k9 = 0 then
      some ((1 : Int32), O1, J)
    else
    none) fun r2 =>
  hlet (gup J 137 ((0 : Int32).toNatClampNeg) ((r2).toInt64)) fun J4 =>
  some ((0 : Int32), O1, J4)
set_option maxHeartbeats 8000000 in
set_option maxRecDepth 100000 in
theorem c_L_birdByOrder {l : Launch} (hlf : l.stackTraces = false) {dC : Nat → ClassId} {dI : Nat → Nat → Nat} {ca : Nat → ClassId} {b : Nat → Nat} {A : Nat → Prop} {N : Nat} (hN : 138 ≤ N) (hA : gAd A b N) (I : Nat → Nat → Int32) (O : Nat → Nat → Option Nat) (J : Nat → Nat → Int64) (a1 : Int32) (res : Int32 × (Nat → Nat → Option Nat) × (Nat → Nat → Int64)) (h : f_L_birdByOrder a1 I O J = some res) : Met l yL_birdByOrder wsL_birdByOrder ({ frames := 7, cells := 1, slots := 6, locals := 112 } : Room) (va_Pc [.ref (b 0), .int a1, .ref (b 137)] (gPre dC dI ca b A N I O J)) (va_Qi (fun (r : Int32) (u : (Nat → Nat → Option Nat) × (Nat → Nat → Int64)) => res = (r, u)) (fun (u : (Nat → Nat → Option Nat) × (Nat → Nat → Int64)) t => va_P (dC, dI) vwCl (hW N ca b I u.1 u.2) t.heap) A) 1 6 A := by
  refine va_MetW (cc := cL_birdByOrder) (maxL := 4) (ret := (some .int)) (by decide) rfl ?_
  intro p e s m args below meth c s₁ B hml hv
  obtain ⟨rfl, hP, hK, hA2, hth⟩ := hv
  have hx := B.exec
  have hb := B.bytes
  have hr := B.returns
  have hlk := B.notSynchronized
  have X : gCx p s m ([.ref (b 0), .int a1, .ref (b 137)] : List Value).toArray c RL cL_birdByOrder wsL_birdByOrder 4 dC dI ca b A N := ⟨hx, hb, hml, findClass_of_methodNamed B.named, atoms_spec (ws := wsL_birdByOrder) B.pre, hK, hA, hA2, hth⟩
  have htab : c.exceptionTable.toList = tableOf [(0, 9, 12, 21)] := vx_table (x := yL_birdByOrder) B (atoms_spec (ws := wsL_birdByOrder) B.pre _ (List.mem_of_getElem? (i := 0) rfl))
  have hS : va_S A s.heap s.heap [] := va_S.rf
  have hl := lv_entry ([.ref (b 0), .int a1, .ref (b 137)] : List Value) (n := 4) (Nat.le_of_ble_eq_true rfl)
  rw [lg_entry_eq]
  generalize (lg_sl ([.ref (b 0), .int a1, .ref (b 137)] : List Value) ++ List.replicate (4 - (lg_sl ([.ref (b 0), .int a1, .ref (b 137)] : List Value)).length) Slot.unset).toArray = ls at hl ⊢
  have hl : lv_has ls 4 [(0, .ref (b 0)), (1, .int a1), (2, .ref (b 137))] := hl
  unfold f_L_birdByOrder at h
  refine lv_aload_n hx hb dL_birdByOrder_0 rfl (lv_at hl 2 rfl) ?_
  refine lv_iconst (v := 0) hx hb dL_birdByOrder_1 (by decide) ?_
  refine lv_aload_n hx hb dL_birdByOrder_2 rfl (lv_at hl 0 rfl) ?_
  refine lv_iload_n hx hb dL_birdByOrder_3 rfl (lv_at hl 1 rfl) ?_
  obtain ⟨q3, hcq3, h⟩ := hb_some h
  refine gxV_i (As := [.int a1]) (rest := [.int (0 : Int32), .ref (b 137)]) (BH := (fun (u : Nat → Nat → Option Nat) H => va_P (dC, dI) vwCl (hW N ca b I u J) H)) (BX := (fun (u : Nat → Nat → Option Nat) H => va_P (dC, dI) vwCl (hW N ca b I u J) H)) X hP hS (c_X7_birdByOrder hlf hN hA I O J a1 q3 hcq3) (cwV 1 X.ts gL_birdByOrder_X7_birdByOrder rfl rfl rfl (by decide +kernel) ⟨Nat.le_of_ble_eq_true rfl, Nat.le_of_ble_eq_true rfl⟩) (gr7 X hP kc_0 (sk_in hN kc_0 (by decide))) rfl hl.1 rfl (Nat.le_of_ble_eq_true rfl) dL_birdByOrder_4 ⟨Nat.le_of_ble_eq_true rfl, Nat.le_of_ble_eq_true rfl⟩ (fun k9 O1 H locs ce9 q9 hw hP hS hce hcv hcl => ?_) (fun r2 O1 H locs hw hP hS => ?_)
  · subst hw
    have h := hsum_l h
    by_cases hk0 : k9 = 0
    · have h := gif_t hk0 h
      subst hk0
      refine vx_catch X.ow [] ⟨0, 9, 12, 21⟩ [] htab (fun z hz => absurd hz List.not_mem_nil) (by decide) (by decide) (X.ts _ (List.mem_of_getElem? (i := 1) rfl)) (va_Nw.use rfl (X.th.2.1.1 0 (by decide))) hce hcv hcl ?_
      refine lv_astore_n (lv' := [(3, .ref q9), (0, .ref (b 0)), (1, .int a1), (2, .ref (b 137))]) hx hb dL_birdByOrder_12 rfl hl (by decide) rfl (fun ls hl => ?_)
      refine lv_iconst (v := 1) hx hb dL_birdByOrder_13 (by decide) ?_
      refine W.widen (k := 1) (n := 6) (Nat.le_of_ble_eq_true rfl) (Nat.le_of_ble_eq_true rfl) ?_
      exact W.iret hx hb hr (fun t9 ht hW => ⟨⟨(1 : Int32), (O1, J), rfl, (Option.some.inj h).symm, gEnd ht hP⟩, hS.F ht⟩) hS.2.2 dL_birdByOrder_14 hlk
    have h := gif_f hk0 h
    cases h
  subst hw
  have h := hsum_r h
  refine lv_i2l (v := (r2).toInt64) hx hb dL_birdByOrder_7 rfl ?_
  refine gs23 X hP hS kc_137 (sk_in hN kc_137 (by decide)) (L := 1) (by decide) (by decide) dL_birdByOrder_8 (fun H locs hP hS => ?_)
  obtain ⟨J4, eJ4, h⟩ := hlet_ex h
  rw [← eJ4] at hP
  refine lv_goto (tgt := 15) hx hb dL_birdByOrder_9 (by decide) ?_
  refine lv_iconst (v := 0) hx hb dL_birdByOrder_15 (by decide) ?_
  refine W.widen (k := 1) (n := 6) (Nat.le_of_ble_eq_true rfl) (Nat.le_of_ble_eq_true rfl) ?_
  exact W.iret hx hb hr (fun t9 ht hW => ⟨⟨(0 : Int32), (O1, J4), rfl, (Option.some.inj h).symm, gEnd ht hP⟩, hS.F ht⟩) hS.2.2 dL_birdByOrder_16 hlk
def f_L_gapAhead (a1 : Int32) (I : Nat → Nat → Int32) (J : Nat → Nat → Int64) : Option (Int32 × (Nat → Nat → Int64)) :=
  (f_X7_gapAhead a1 I).bind fun eq2 => hsum eq2 (fun k9 => 
    if k9 = 0 then
      some ((1 : Int32), J)
    else
    none) fun r1 =>
  hlet (gup J 137 ((0 : Int32).toNatClampNeg) ((r1).toInt64)) fun J3 =>
  some ((0 : Int32), J3)
set_option maxHeartbeats 8000000 in
set_option maxRecDepth 100000 in
theorem c_L_gapAhead {l : Launch} (hlf : l.stackTraces = false) {dC : Nat → ClassId} {dI : Nat → Nat → Nat} {ca : Nat → ClassId} {b : Nat → Nat} {A : Nat → Prop} {N : Nat} (hN : 138 ≤ N) (hA : gAd A b N) (I : Nat → Nat → Int32) (O : Nat → Nat → Option Nat) (J : Nat → Nat → Int64) (a1 : Int32) (res : Int32 × (Nat → Nat → Int64)) (h : f_L_gapAhead a1 I J = some res) : Met l yL_gapAhead wsL_gapAhead ({ frames := 8, cells := 1, slots := 6, locals := 133 } : Room) (va_Pc [.ref (b 0), .int a1, .ref (b 137)] (gPre dC dI ca b A N I O J)) (va_Qi (fun (r : Int32) (u : Nat → Nat → Int64) => res = (r, u)) (fun (u : Nat → Nat → Int64) t => va_P (dC, dI) vwCl (hW N ca b I O u) t.heap) A) 1 6 A := by
  refine va_MetW (cc := cL_gapAhead) (maxL := 4) (ret := (some .int)) (by decide) rfl ?_
  intro p e s m args below meth c s₁ B hml hv
  obtain ⟨rfl, hP, hK, hA2, hth⟩ := hv
  have hx := B.exec
  have hb := B.bytes
  have hr := B.returns
  have hlk := B.notSynchronized
  have X : gCx p s m ([.ref (b 0), .int a1, .ref (b 137)] : List Value).toArray c RL cL_gapAhead wsL_gapAhead 4 dC dI ca b A N := ⟨hx, hb, hml, findClass_of_methodNamed B.named, atoms_spec (ws := wsL_gapAhead) B.pre, hK, hA, hA2, hth⟩
  have htab : c.exceptionTable.toList = tableOf [(0, 9, 12, 21)] := vx_table (x := yL_gapAhead) B (atoms_spec (ws := wsL_gapAhead) B.pre _ (List.mem_of_getElem? (i := 0) rfl))
  have hS : va_S A s.heap s.heap [] := va_S.rf
  have hl := lv_entry ([.ref (b 0), .int a1, .ref (b 137)] : List Value) (n := 4) (Nat.le_of_ble_eq_true rfl)
  rw [lg_entry_eq]
  generalize (lg_sl ([.ref (b 0), .int a1, .ref (b 137)] : List Value) ++ List.replicate (4 - (lg_sl ([.ref (b 0), .int a1, .ref (b 137)] : List Value)).length) Slot.unset).toArray = ls at hl ⊢
  have hl : lv_has ls 4 [(0, .ref (b 0)), (1, .int a1), (2, .ref (b 137))] := hl
  unfold f_L_gapAhead at h
  refine lv_aload_n hx hb dL_gapAhead_0 rfl (lv_at hl 2 rfl) ?_
  refine lv_iconst (v := 0) hx hb dL_gapAhead_1 (by decide) ?_
  refine lv_aload_n hx hb dL_gapAhead_2 rfl (lv_at hl 0 rfl) ?_
  refine lv_iload_n hx hb dL_gapAhead_3 rfl (lv_at hl 1 rfl) ?_
  obtain ⟨q2, hcq2, h⟩ := hb_some h
  refine gxV_i (As := [.int a1]) (rest := [.int (0 : Int32), .ref (b 137)]) (BH := (fun (u : Unit) H => va_P (dC, dI) vwCl (hW N ca b I O J) H)) (BX := (fun (u : Unit) H => va_P (dC, dI) vwCl (hW N ca b I O J) H)) X hP hS (c_X7_gapAhead hlf hN hA I O J a1 q2 hcq2) (cwV 1 X.ts gL_gapAhead_X7_gapAhead rfl rfl rfl (by decide +kernel) ⟨Nat.le_of_ble_eq_true rfl, Nat.le_of_ble_eq_true rfl⟩) (gr7 X hP kc_0 (sk_in hN kc_0 (by decide))) rfl hl.1 rfl (Nat.le_of_ble_eq_true rfl) dL_gapAhead_4 ⟨Nat.le_of_ble_eq_true rfl, Nat.le_of_ble_eq_true rfl⟩ (fun k9 u9 H locs ce9 q9 hw hP hS hce hcv hcl => ?_) (fun r1 u9 H locs hw hP hS => ?_)
  · subst hw
    have h := hsum_l h
    by_cases hk0 : k9 = 0
    · have h := gif_t hk0 h
      subst hk0
      refine vx_catch X.ow [] ⟨0, 9, 12, 21⟩ [] htab (fun z hz => absurd hz List.not_mem_nil) (by decide) (by decide) (X.ts _ (List.mem_of_getElem? (i := 1) rfl)) (va_Nw.use rfl (X.th.2.1.1 0 (by decide))) hce hcv hcl ?_
      refine lv_astore_n (lv' := [(3, .ref q9), (0, .ref (b 0)), (1, .int a1), (2, .ref (b 137))]) hx hb dL_gapAhead_12 rfl hl (by decide) rfl (fun ls hl => ?_)
      refine lv_iconst (v := 1) hx hb dL_gapAhead_13 (by decide) ?_
      refine W.widen (k := 1) (n := 6) (Nat.le_of_ble_eq_true rfl) (Nat.le_of_ble_eq_true rfl) ?_
      exact W.iret hx hb hr (fun t9 ht hW => ⟨⟨(1 : Int32), J, rfl, (Option.some.inj h).symm, gEnd ht hP⟩, hS.F ht⟩) hS.2.2 dL_gapAhead_14 hlk
    have h := gif_f hk0 h
    cases h
  subst hw
  have h := hsum_r h
  refine lv_i2l (v := (r1).toInt64) hx hb dL_gapAhead_7 rfl ?_
  refine gs23 X hP hS kc_137 (sk_in hN kc_137 (by decide)) (L := 1) (by decide) (by decide) dL_gapAhead_8 (fun H locs hP hS => ?_)
  obtain ⟨J3, eJ3, h⟩ := hlet_ex h
  rw [← eJ3] at hP
  refine lv_goto (tgt := 15) hx hb dL_gapAhead_9 (by decide) ?_
  refine lv_iconst (v := 0) hx hb dL_gapAhead_15 (by decide) ?_
  refine W.widen (k := 1) (n := 6) (Nat.le_of_ble_eq_true rfl) (Nat.le_of_ble_eq_true rfl) ?_
  exact W.iret hx hb hr (fun t9 ht hW => ⟨⟨(0 : Int32), J3, rfl, (Option.some.inj h).symm, gEnd ht hP⟩, hS.F ht⟩) hS.2.2 dL_gapAhead_16 hlk
def f_L_isDrafting (a1 : Int32) (I : Nat → Nat → Int32) (J : Nat → Nat → Int64) : Option (Int32 × (Nat → Nat → Int64)) :=
  (f_X7_isDrafting a1 I).bind fun eq2 => hsum eq2 (fun k9 => 
    if k9 = 0 then
      some ((1 : Int32), J)
    else
    if k9 = 2 then
      some ((2 : Int32), J)
    else
    none) fun r1 =>
  (show Option (Int64) from
    if r1 = 0 then
      some (0 : Int64)
    else
      some (1 : Int64)).bind fun p3 =>
  hlet (gup J 137 ((0 : Int32).toNatClampNeg) p3) fun J4 =>
  some ((0 : Int32), J4)
set_option maxHeartbeats 8000000 in
set_option maxRecDepth 100000 in
theorem c_L_isDrafting {l : Launch} (hlf : l.stackTraces = false) {dC : Nat → ClassId} {dI : Nat → Nat → Nat} {ca : Nat → ClassId} {b : Nat → Nat} {A : Nat → Prop} {N : Nat} (hN : 138 ≤ N) (hA : gAd A b N) (I : Nat → Nat → Int32) (O : Nat → Nat → Option Nat) (J : Nat → Nat → Int64) (a1 : Int32) (res : Int32 × (Nat → Nat → Int64)) (h : f_L_isDrafting a1 I J = some res) : Met l yL_isDrafting wsL_isDrafting ({ frames := 9, cells := 2, slots := 12, locals := 156 } : Room) (va_Pc [.ref (b 0), .int a1, .ref (b 137)] (gPre dC dI ca b A N I O J)) (va_Qi (fun (r : Int32) (u : Nat → Nat → Int64) => res = (r, u)) (fun (u : Nat → Nat → Int64) t => va_P (dC, dI) vwCl (hW N ca b I O u) t.heap) A) 2 12 A := by
  refine va_MetW (cc := cL_isDrafting) (maxL := 4) (ret := (some .int)) (by decide) rfl ?_
  intro p e s m args below meth c s₁ B hml hv
  obtain ⟨rfl, hP, hK, hA2, hth⟩ := hv
  have hx := B.exec
  have hb := B.bytes
  have hr := B.returns
  have hlk := B.notSynchronized
  have X : gCx p s m ([.ref (b 0), .int a1, .ref (b 137)] : List Value).toArray c RL cL_isDrafting wsL_isDrafting 4 dC dI ca b A N := ⟨hx, hb, hml, findClass_of_methodNamed B.named, atoms_spec (ws := wsL_isDrafting) B.pre, hK, hA, hA2, hth⟩
  have htab : c.exceptionTable.toList = tableOf [(0, 16, 19, 21), (0, 16, 22, 15)] := vx_table (x := yL_isDrafting) B (atoms_spec (ws := wsL_isDrafting) B.pre _ (List.mem_of_getElem? (i := 0) rfl))
  have hS : va_S A s.heap s.heap [] := va_S.rf
  have hl := lv_entry ([.ref (b 0), .int a1, .ref (b 137)] : List Value) (n := 4) (Nat.le_of_ble_eq_true rfl)
  rw [lg_entry_eq]
  generalize (lg_sl ([.ref (b 0), .int a1, .ref (b 137)] : List Value) ++ List.replicate (4 - (lg_sl ([.ref (b 0), .int a1, .ref (b 137)] : List Value)).length) Slot.unset).toArray = ls at hl ⊢
  have hl : lv_has ls 4 [(0, .ref (b 0)), (1, .int a1), (2, .ref (b 137))] := hl
  unfold f_L_isDrafting at h
  refine lv_aload_n hx hb dL_isDrafting_0 rfl (lv_at hl 2 rfl) ?_
  refine lv_iconst (v := 0) hx hb dL_isDrafting_1 (by decide) ?_
  refine lv_aload_n hx hb dL_isDrafting_2 rfl (lv_at hl 0 rfl) ?_
  refine lv_iload_n hx hb dL_isDrafting_3 rfl (lv_at hl 1 rfl) ?_
  obtain ⟨q2, hcq2, h⟩ := hb_some h
  refine gxV_i (As := [.int a1]) (rest := [.int (0 : Int32), .ref (b 137)]) (BH := (fun (u : Unit) H => va_P (dC, dI) vwCl (hW N ca b I O J) H)) (BX := (fun (u : Unit) H => va_P (dC, dI) vwCl (hW N ca b I O J) H)) X hP hS (c_X7_isDrafting hlf hN hA I O J a1 q2 hcq2) (cwV 1 X.ts gL_isDrafting_X7_isDrafting rfl rfl rfl (by decide +kernel) ⟨Nat.le_of_ble_eq_true rfl, Nat.le_of_ble_eq_true rfl⟩) (gr7 X hP kc_0 (sk_in hN kc_0 (by decide))) rfl hl.1 rfl (Nat.le_of_ble_eq_true rfl) dL_isDrafting_4 ⟨Nat.le_of_ble_eq_true rfl, Nat.le_of_ble_eq_true rfl⟩ (fun k9 u9 H locs ce9 q9 hw hP hS hce hcv hcl => ?_) (fun r1 u9 H locs hw hP hS => ?_)
  · subst hw
    have h := hsum_l h
    by_cases hk0 : k9 = 0
    · have h := gif_t hk0 h
      subst hk0
      refine vx_catch X.ow [] ⟨0, 16, 19, 21⟩ [⟨0, 16, 22, 15⟩] htab (fun z hz => absurd hz List.not_mem_nil) (by decide) (by decide) (X.ts _ (List.mem_of_getElem? (i := 1) rfl)) (va_Nw.use rfl (X.th.2.1.1 0 (by decide))) hce hcv hcl ?_
      refine lv_astore_n (lv' := [(3, .ref q9), (0, .ref (b 0)), (1, .int a1), (2, .ref (b 137))]) hx hb dL_isDrafting_19 rfl hl (by decide) rfl (fun ls hl => ?_)
      refine lv_iconst (v := 1) hx hb dL_isDrafting_20 (by decide) ?_
      refine W.widen (k := 2) (n := 12) (Nat.le_of_ble_eq_true rfl) (Nat.le_of_ble_eq_true rfl) ?_
      exact W.iret hx hb hr (fun t9 ht hW => ⟨⟨(1 : Int32), J, rfl, (Option.some.inj h).symm, gEnd ht hP⟩, hS.F ht⟩) hS.2.2 dL_isDrafting_21 hlk
    have h := gif_f hk0 h
    by_cases hk2 : k9 = 2
    · have h := gif_t hk2 h
      subst hk2
      refine vx_catch X.ow [⟨0, 16, 19, 21⟩] ⟨0, 16, 22, 15⟩ [] htab (fun z hz => by
        rcases List.mem_cons.mp hz with rfl | hz
        · exact Or.inr ⟨by decide, _, X.ts _ (List.mem_of_getElem? (i := 1) rfl), X.th.2.1.2.2.2 2 0 (by decide) (by decide) (by decide)⟩
        · exact absurd hz List.not_mem_nil) (by decide) (by decide) (X.ts _ (List.mem_of_getElem? (i := 2) rfl)) (va_Nw.use rfl (X.th.2.1.1 2 (by decide))) hce hcv hcl ?_
      refine lv_astore_n (lv' := [(3, .ref q9), (0, .ref (b 0)), (1, .int a1), (2, .ref (b 137))]) hx hb dL_isDrafting_22 rfl hl (by decide) rfl (fun ls hl => ?_)
      refine lv_iconst (v := 2) hx hb dL_isDrafting_23 (by decide) ?_
      refine W.widen (k := 2) (n := 12) (Nat.le_of_ble_eq_true rfl) (Nat.le_of_ble_eq_true rfl) ?_
      exact W.iret hx hb hr (fun t9 ht hW => ⟨⟨(2 : Int32), J, rfl, (Option.some.inj h).symm, gEnd ht hP⟩, hS.F ht⟩) hS.2.2 dL_isDrafting_24 hlk
    have h := gif_f hk2 h
    cases h
  subst hw
  have h := hsum_r h
  obtain ⟨p3, hv, h⟩ := hb_some h
  have K15 : ∀ (H : Heap) (locs : List Loc) (ls : Array Slot), va_P (dC, dI) vwCl (hW N ca b I O J) H → va_S A s.heap H locs → lv_has ls 4 [] → W p l e (headSpec wsL_isDrafting ({ frames := 9, cells := 2, slots := 12, locals := 156 } : Room)).room s m ([.ref (b 0), .int a1, .ref (b 137)] : List Value).toArray below meth c H locs 2 12 (MQ below (va_Qi (fun (r : Int32) (u : Nat → Nat → Int64) => res = (r, u)) (fun (u : Nat → Nat → Int64) t => va_P (dC, dI) vwCl (hW N ca b I O u) t.heap) A) ([.ref (b 0), .int a1, .ref (b 137)] : List Value).toArray s 2 12 A) (F0 m 15 ls [.long p3, .int (0 : Int32), .ref (b 137)]) := by
    intro H locs ls hP hS hl
    refine gs23 X hP hS kc_137 (sk_in hN kc_137 (by decide)) (L := 1) (by decide) (by decide) dL_isDrafting_15 (fun H locs hP hS => ?_)
    obtain ⟨J4, eJ4, h⟩ := hlet_ex h
    rw [← eJ4] at hP
    refine lv_goto (tgt := 25) hx hb dL_isDrafting_16 (by decide) ?_
    refine lv_iconst (v := 0) hx hb dL_isDrafting_25 (by decide) ?_
    refine W.widen (k := 2) (n := 12) (Nat.le_of_ble_eq_true rfl) (Nat.le_of_ble_eq_true rfl) ?_
    exact W.iret hx hb hr (fun t9 ht hW => ⟨⟨(0 : Int32), J4, rfl, (Option.some.inj h).symm, gEnd ht hP⟩, hS.F ht⟩) hS.2.2 dL_isDrafting_26 hlk
  have h := hv
  refine lv_if_eq (tgt := 14) hx hb dL_isDrafting_7 (by decide) (fun c5 => ?_) (fun c5 => ?_)
  · have h := gif_t c5 h
    refine lv_lconst (v := 0) hx hb dL_isDrafting_14 (by decide) ?_
    cases h
    exact K15 _ _ _ hP hS (lv_sub hl [] rfl)
  · have h := gif_f c5 h
    refine lv_lconst (v := 1) hx hb dL_isDrafting_10 (by decide) ?_
    refine lv_goto (tgt := 15) hx hb dL_isDrafting_11 (by decide) ?_
    cases h
    exact K15 _ _ _ hP hS (lv_sub hl [] rfl)
def f_L_whereIs (a1 : Int32) (I : Nat → Nat → Int32) (J : Nat → Nat → Int64) : Option (Int32 × (Nat → Nat → Int64)) :=
  (f_X7_whereIs a1 I).bind fun eq2 => hsum eq2 (fun k9 => 
    if k9 = 0 then
      some ((1 : Int32), J)
    else
    none) fun r1 =>
  hlet (gup J 137 ((0 : Int32).toNatClampNeg) ((r1).toInt64)) fun J3 =>
  some ((0 : Int32), J3)
set_option maxHeartbeats 8000000 in
set_option maxRecDepth 100000 in
theorem c_L_whereIs {l : Launch} (hlf : l.stackTraces = false) {dC : Nat → ClassId} {dI : Nat → Nat → Nat} {ca : Nat → ClassId} {b : Nat → Nat} {A : Nat → Prop} {N : Nat} (hN : 138 ≤ N) (hA : gAd A b N) (I : Nat → Nat → Int32) (O : Nat → Nat → Option Nat) (J : Nat → Nat → Int64) (a1 : Int32) (res : Int32 × (Nat → Nat → Int64)) (h : f_L_whereIs a1 I J = some res) : Met l yL_whereIs wsL_whereIs ({ frames := 8, cells := 1, slots := 6, locals := 133 } : Room) (va_Pc [.ref (b 0), .int a1, .ref (b 137)] (gPre dC dI ca b A N I O J)) (va_Qi (fun (r : Int32) (u : Nat → Nat → Int64) => res = (r, u)) (fun (u : Nat → Nat → Int64) t => va_P (dC, dI) vwCl (hW N ca b I O u) t.heap) A) 1 6 A := by
  refine va_MetW (cc := cL_whereIs) (maxL := 4) (ret := (some .int)) (by decide) rfl ?_
  intro p e s m args below meth c s₁ B hml hv
  obtain ⟨rfl, hP, hK, hA2, hth⟩ := hv
  have hx := B.exec
  have hb := B.bytes
  have hr := B.returns
  have hlk := B.notSynchronized
  have X : gCx p s m ([.ref (b 0), .int a1, .ref (b 137)] : List Value).toArray c RL cL_whereIs wsL_whereIs 4 dC dI ca b A N := ⟨hx, hb, hml, findClass_of_methodNamed B.named, atoms_spec (ws := wsL_whereIs) B.pre, hK, hA, hA2, hth⟩
  have htab : c.exceptionTable.toList = tableOf [(0, 9, 12, 21)] := vx_table (x := yL_whereIs) B (atoms_spec (ws := wsL_whereIs) B.pre _ (List.mem_of_getElem? (i := 0) rfl))
  have hS : va_S A s.heap s.heap [] := va_S.rf
  have hl := lv_entry ([.ref (b 0), .int a1, .ref (b 137)] : List Value) (n := 4) (Nat.le_of_ble_eq_true rfl)
  rw [lg_entry_eq]
  generalize (lg_sl ([.ref (b 0), .int a1, .ref (b 137)] : List Value) ++ List.replicate (4 - (lg_sl ([.ref (b 0), .int a1, .ref (b 137)] : List Value)).length) Slot.unset).toArray = ls at hl ⊢
  have hl : lv_has ls 4 [(0, .ref (b 0)), (1, .int a1), (2, .ref (b 137))] := hl
  unfold f_L_whereIs at h
  refine lv_aload_n hx hb dL_whereIs_0 rfl (lv_at hl 2 rfl) ?_
  refine lv_iconst (v := 0) hx hb dL_whereIs_1 (by decide) ?_
  refine lv_aload_n hx hb dL_whereIs_2 rfl (lv_at hl 0 rfl) ?_
  refine lv_iload_n hx hb dL_whereIs_3 rfl (lv_at hl 1 rfl) ?_
  obtain ⟨q2, hcq2, h⟩ := hb_some h
  refine gxV_i (As := [.int a1]) (rest := [.int (0 : Int32), .ref (b 137)]) (BH := (fun (u : Unit) H => va_P (dC, dI) vwCl (hW N ca b I O J) H)) (BX := (fun (u : Unit) H => va_P (dC, dI) vwCl (hW N ca b I O J) H)) X hP hS (c_X7_whereIs hlf hN hA I O J a1 q2 hcq2) (cwV 1 X.ts gL_whereIs_X7_whereIs rfl rfl rfl (by decide +kernel) ⟨Nat.le_of_ble_eq_true rfl, Nat.le_of_ble_eq_true rfl⟩) (gr7 X hP kc_0 (sk_in hN kc_0 (by decide))) rfl hl.1 rfl (Nat.le_of_ble_eq_true rfl) dL_whereIs_4 ⟨Nat.le_of_ble_eq_true rfl, Nat.le_of_ble_eq_true rfl⟩ (fun k9 u9 H locs ce9 q9 hw hP hS hce hcv hcl => ?_) (fun r1 u9 H locs hw hP hS => ?_)
  · subst hw
    have h := hsum_l h
    by_cases hk0 : k9 = 0
    · have h := gif_t hk0 h
      subst hk0
      refine vx_catch X.ow [] ⟨0, 9, 12, 21⟩ [] htab (fun z hz => absurd hz List.not_mem_nil) (by decide) (by decide) (X.ts _ (List.mem_of_getElem? (i := 1) rfl)) (va_Nw.use rfl (X.th.2.1.1 0 (by decide))) hce hcv hcl ?_
      refine lv_astore_n (lv' := [(3, .ref q9), (0, .ref (b 0)), (1, .int a1), (2, .ref (b 137))]) hx hb dL_whereIs_12 rfl hl (by decide) rfl (fun ls hl => ?_)
      refine lv_iconst (v := 1) hx hb dL_whereIs_13 (by decide) ?_
      refine W.widen (k := 1) (n := 6) (Nat.le_of_ble_eq_true rfl) (Nat.le_of_ble_eq_true rfl) ?_
      exact W.iret hx hb hr (fun t9 ht hW => ⟨⟨(1 : Int32), J, rfl, (Option.some.inj h).symm, gEnd ht hP⟩, hS.F ht⟩) hS.2.2 dL_whereIs_14 hlk
    have h := gif_f hk0 h
    cases h
  subst hw
  have h := hsum_r h
  refine lv_i2l (v := (r1).toInt64) hx hb dL_whereIs_7 rfl ?_
  refine gs23 X hP hS kc_137 (sk_in hN kc_137 (by decide)) (L := 1) (by decide) (by decide) dL_whereIs_8 (fun H locs hP hS => ?_)
  obtain ⟨J3, eJ3, h⟩ := hlet_ex h
  rw [← eJ3] at hP
  refine lv_goto (tgt := 15) hx hb dL_whereIs_9 (by decide) ?_
  refine lv_iconst (v := 0) hx hb dL_whereIs_15 (by decide) ?_
  refine W.widen (k := 1) (n := 6) (Nat.le_of_ble_eq_true rfl) (Nat.le_of_ble_eq_true rfl) ?_
  exact W.iret hx hb hr (fun t9 ht hW => ⟨⟨(0 : Int32), J3, rfl, (Option.some.inj h).symm, gEnd ht hP⟩, hS.F ht⟩) hS.2.2 dL_whereIs_16 hlk
def f_L_allowance (a1 : Int32) (I : Nat → Nat → Int32) (J : Nat → Nat → Int64) : Option (Int32 × (Nat → Nat → Int64)) :=
  (f_X7_allowance a1 I).bind fun eq2 => hsum eq2 (fun k9 => 
    if k9 = 0 then
      some ((1 : Int32), J)
    else
    if k9 = 2 then
      some ((2 : Int32), J)
    else
    none) fun r1 =>
  hlet (gup J 137 ((0 : Int32).toNatClampNeg) ((r1).toInt64)) fun J3 =>
  some ((0 : Int32), J3)
set_option maxHeartbeats 8000000 in
set_option maxRecDepth 100000 in
theorem c_L_allowance {l : Launch} (hlf : l.stackTraces = false) {dC : Nat → ClassId} {dI : Nat → Nat → Nat} {ca : Nat → ClassId} {b : Nat → Nat} {A : Nat → Prop} {N : Nat} (hN : 138 ≤ N) (hA : gAd A b N) (I : Nat → Nat → Int32) (O : Nat → Nat → Option Nat) (J : Nat → Nat → Int64) (a1 : Int32) (res : Int32 × (Nat → Nat → Int64)) (h : f_L_allowance a1 I J = some res) : Met l yL_allowance wsL_allowance ({ frames := 9, cells := 2, slots := 12, locals := 155 } : Room) (va_Pc [.ref (b 0), .int a1, .ref (b 137)] (gPre dC dI ca b A N I O J)) (va_Qi (fun (r : Int32) (u : Nat → Nat → Int64) => res = (r, u)) (fun (u : Nat → Nat → Int64) t => va_P (dC, dI) vwCl (hW N ca b I O u) t.heap) A) 2 12 A := by
  refine va_MetW (cc := cL_allowance) (maxL := 4) (ret := (some .int)) (by decide) rfl ?_
  intro p e s m args below meth c s₁ B hml hv
  obtain ⟨rfl, hP, hK, hA2, hth⟩ := hv
  have hx := B.exec
  have hb := B.bytes
  have hr := B.returns
  have hlk := B.notSynchronized
  have X : gCx p s m ([.ref (b 0), .int a1, .ref (b 137)] : List Value).toArray c RL cL_allowance wsL_allowance 4 dC dI ca b A N := ⟨hx, hb, hml, findClass_of_methodNamed B.named, atoms_spec (ws := wsL_allowance) B.pre, hK, hA, hA2, hth⟩
  have htab : c.exceptionTable.toList = tableOf [(0, 9, 12, 21), (0, 9, 15, 15)] := vx_table (x := yL_allowance) B (atoms_spec (ws := wsL_allowance) B.pre _ (List.mem_of_getElem? (i := 0) rfl))
  have hS : va_S A s.heap s.heap [] := va_S.rf
  have hl := lv_entry ([.ref (b 0), .int a1, .ref (b 137)] : List Value) (n := 4) (Nat.le_of_ble_eq_true rfl)
  rw [lg_entry_eq]
  generalize (lg_sl ([.ref (b 0), .int a1, .ref (b 137)] : List Value) ++ List.replicate (4 - (lg_sl ([.ref (b 0), .int a1, .ref (b 137)] : List Value)).length) Slot.unset).toArray = ls at hl ⊢
  have hl : lv_has ls 4 [(0, .ref (b 0)), (1, .int a1), (2, .ref (b 137))] := hl
  unfold f_L_allowance at h
  refine lv_aload_n hx hb dL_allowance_0 rfl (lv_at hl 2 rfl) ?_
  refine lv_iconst (v := 0) hx hb dL_allowance_1 (by decide) ?_
  refine lv_aload_n hx hb dL_allowance_2 rfl (lv_at hl 0 rfl) ?_
  refine lv_iload_n hx hb dL_allowance_3 rfl (lv_at hl 1 rfl) ?_
  obtain ⟨q2, hcq2, h⟩ := hb_some h
  refine gxV_i (As := [.int a1]) (rest := [.int (0 : Int32), .ref (b 137)]) (BH := (fun (u : Unit) H => va_P (dC, dI) vwCl (hW N ca b I O J) H)) (BX := (fun (u : Unit) H => va_P (dC, dI) vwCl (hW N ca b I O J) H)) X hP hS (c_X7_allowance hlf hN hA I O J a1 q2 hcq2) (cwV 1 X.ts gL_allowance_X7_allowance rfl rfl rfl (by decide +kernel) ⟨Nat.le_of_ble_eq_true rfl, Nat.le_of_ble_eq_true rfl⟩) (gr7 X hP kc_0 (sk_in hN kc_0 (by decide))) rfl hl.1 rfl (Nat.le_of_ble_eq_true rfl) dL_allowance_4 ⟨Nat.le_of_ble_eq_true rfl, Nat.le_of_ble_eq_true rfl⟩ (fun k9 u9 H locs ce9 q9 hw hP hS hce hcv hcl => ?_) (fun r1 u9 H locs hw hP hS => ?_)
  · subst hw
    have h := hsum_l h
    by_cases hk0 : k9 = 0
    · have h := gif_t hk0 h
      subst hk0
      refine vx_catch X.ow [] ⟨0, 9, 12, 21⟩ [⟨0, 9, 15, 15⟩] htab (fun z hz => absurd hz List.not_mem_nil) (by decide) (by decide) (X.ts _ (List.mem_of_getElem? (i := 1) rfl)) (va_Nw.use rfl (X.th.2.1.1 0 (by decide))) hce hcv hcl ?_
      refine lv_astore_n (lv' := [(3, .ref q9), (0, .ref (b 0)), (1, .int a1), (2, .ref (b 137))]) hx hb dL_allowance_12 rfl hl (by decide) rfl (fun ls hl => ?_)
      refine lv_iconst (v := 1) hx hb dL_allowance_13 (by decide) ?_
      refine W.widen (k := 2) (n := 12) (Nat.le_of_ble_eq_true rfl) (Nat.le_of_ble_eq_true rfl) ?_
      exact W.iret hx hb hr (fun t9 ht hW => ⟨⟨(1 : Int32), J, rfl, (Option.some.inj h).symm, gEnd ht hP⟩, hS.F ht⟩) hS.2.2 dL_allowance_14 hlk
    have h := gif_f hk0 h
    by_cases hk2 : k9 = 2
    · have h := gif_t hk2 h
      subst hk2
      refine vx_catch X.ow [⟨0, 9, 12, 21⟩] ⟨0, 9, 15, 15⟩ [] htab (fun z hz => by
        rcases List.mem_cons.mp hz with rfl | hz
        · exact Or.inr ⟨by decide, _, X.ts _ (List.mem_of_getElem? (i := 1) rfl), X.th.2.1.2.2.2 2 0 (by decide) (by decide) (by decide)⟩
        · exact absurd hz List.not_mem_nil) (by decide) (by decide) (X.ts _ (List.mem_of_getElem? (i := 2) rfl)) (va_Nw.use rfl (X.th.2.1.1 2 (by decide))) hce hcv hcl ?_
      refine lv_astore_n (lv' := [(3, .ref q9), (0, .ref (b 0)), (1, .int a1), (2, .ref (b 137))]) hx hb dL_allowance_15 rfl hl (by decide) rfl (fun ls hl => ?_)
      refine lv_iconst (v := 2) hx hb dL_allowance_16 (by decide) ?_
      refine W.widen (k := 2) (n := 12) (Nat.le_of_ble_eq_true rfl) (Nat.le_of_ble_eq_true rfl) ?_
      exact W.iret hx hb hr (fun t9 ht hW => ⟨⟨(2 : Int32), J, rfl, (Option.some.inj h).symm, gEnd ht hP⟩, hS.F ht⟩) hS.2.2 dL_allowance_17 hlk
    have h := gif_f hk2 h
    cases h
  subst hw
  have h := hsum_r h
  refine lv_i2l (v := (r1).toInt64) hx hb dL_allowance_7 rfl ?_
  refine gs23 X hP hS kc_137 (sk_in hN kc_137 (by decide)) (L := 1) (by decide) (by decide) dL_allowance_8 (fun H locs hP hS => ?_)
  obtain ⟨J3, eJ3, h⟩ := hlet_ex h
  rw [← eJ3] at hP
  refine lv_goto (tgt := 18) hx hb dL_allowance_9 (by decide) ?_
  refine lv_iconst (v := 0) hx hb dL_allowance_18 (by decide) ?_
  refine W.widen (k := 2) (n := 12) (Nat.le_of_ble_eq_true rfl) (Nat.le_of_ble_eq_true rfl) ?_
  exact W.iret hx hb hr (fun t9 ht hW => ⟨⟨(0 : Int32), J3, rfl, (Option.some.inj h).symm, gEnd ht hP⟩, hS.F ht⟩) hS.2.2 dL_allowance_19 hlk
def f_L_wouldFly (a1 : Int32) (a2 : Int32) (I : Nat → Nat → Int32) (O : Nat → Nat → Option Nat) (J : Nat → Nat → Int64) : Option (Int32 × (Nat → Nat → Int32) × (Nat → Nat → Option Nat) × (Nat → Nat → Int64)) :=
  (f_X7_wouldFly a1 a2 I O).bind fun (eq4, I1, O2) => hsum eq4 (fun k9 => 
    if k9 = 0 then
      some ((1 : Int32), I1, O2, J)
    else
    if k9 = 1 then
      some ((2 : Int32), I1, O2, J)
    else
    if k9 = 2 then
      some ((3 : Int32), I1, O2, J)
    else
    none) fun r3 =>
  hlet (gup J 137 ((0 : Int32).toNatClampNeg) ((r3).toInt64)) fun J5 =>
  some ((0 : Int32), I1, O2, J5)
set_option maxHeartbeats 8000000 in
set_option maxRecDepth 100000 in
theorem c_L_wouldFly {l : Launch} (hlf : l.stackTraces = false) {dC : Nat → ClassId} {dI : Nat → Nat → Nat} {ca : Nat → ClassId} {b : Nat → Nat} {A : Nat → Prop} {N : Nat} (hN : 138 ≤ N) (hA : gAd A b N) (I : Nat → Nat → Int32) (O : Nat → Nat → Option Nat) (J : Nat → Nat → Int64) (a1 : Int32) (a2 : Int32) (res : Int32 × (Nat → Nat → Int32) × (Nat → Nat → Option Nat) × (Nat → Nat → Int64)) (h : f_L_wouldFly a1 a2 I O J = some res) : Met l yL_wouldFly wsL_wouldFly ({ frames := 8, cells := 3, slots := 18, locals := 147 } : Room) (va_Pc [.ref (b 0), .int a1, .int a2, .ref (b 137)] (gPre dC dI ca b A N I O J)) (va_Qi (fun (r : Int32) (u : (Nat → Nat → Int32) × (Nat → Nat → Option Nat) × (Nat → Nat → Int64)) => res = (r, u)) (fun (u : (Nat → Nat → Int32) × (Nat → Nat → Option Nat) × (Nat → Nat → Int64)) t => va_P (dC, dI) vwCl (hW N ca b u.1 u.2.1 u.2.2) t.heap) A) 3 18 A := by
  refine va_MetW (cc := cL_wouldFly) (maxL := 5) (ret := (some .int)) (by decide) rfl ?_
  intro p e s m args below meth c s₁ B hml hv
  obtain ⟨rfl, hP, hK, hA2, hth⟩ := hv
  have hx := B.exec
  have hb := B.bytes
  have hr := B.returns
  have hlk := B.notSynchronized
  have X : gCx p s m ([.ref (b 0), .int a1, .int a2, .ref (b 137)] : List Value).toArray c RL cL_wouldFly wsL_wouldFly 5 dC dI ca b A N := ⟨hx, hb, hml, findClass_of_methodNamed B.named, atoms_spec (ws := wsL_wouldFly) B.pre, hK, hA, hA2, hth⟩
  have htab : c.exceptionTable.toList = tableOf [(0, 10, 13, 21), (0, 10, 17, 13), (0, 10, 21, 15)] := vx_table (x := yL_wouldFly) B (atoms_spec (ws := wsL_wouldFly) B.pre _ (List.mem_of_getElem? (i := 0) rfl))
  have hS : va_S A s.heap s.heap [] := va_S.rf
  have hl := lv_entry ([.ref (b 0), .int a1, .int a2, .ref (b 137)] : List Value) (n := 5) (Nat.le_of_ble_eq_true rfl)
  rw [lg_entry_eq]
  generalize (lg_sl ([.ref (b 0), .int a1, .int a2, .ref (b 137)] : List Value) ++ List.replicate (5 - (lg_sl ([.ref (b 0), .int a1, .int a2, .ref (b 137)] : List Value)).length) Slot.unset).toArray = ls at hl ⊢
  have hl : lv_has ls 5 [(0, .ref (b 0)), (1, .int a1), (2, .int a2), (3, .ref (b 137))] := hl
  unfold f_L_wouldFly at h
  refine lv_aload_n hx hb dL_wouldFly_0 rfl (lv_at hl 3 rfl) ?_
  refine lv_iconst (v := 0) hx hb dL_wouldFly_1 (by decide) ?_
  refine lv_aload_n hx hb dL_wouldFly_2 rfl (lv_at hl 0 rfl) ?_
  refine lv_iload_n hx hb dL_wouldFly_3 rfl (lv_at hl 1 rfl) ?_
  refine lv_iload_n hx hb dL_wouldFly_4 rfl (lv_at hl 2 rfl) ?_
  obtain ⟨q4, hcq4, h⟩ := hb_some h
  refine gxV_i (As := [.int a1, .int a2]) (rest := [.int (0 : Int32), .ref (b 137)]) (BH := (fun (u : (Nat → Nat → Int32) × (Nat → Nat → Option Nat)) H => va_P (dC, dI) vwCl (hW N ca b u.1 u.2 J) H)) (BX := (fun (u : (Nat → Nat → Int32) × (Nat → Nat → Option Nat)) H => va_P (dC, dI) vwCl (hW N ca b u.1 u.2 J) H)) X hP hS (c_X7_wouldFly hlf hN hA I O J a1 a2 q4 hcq4) (cwV 2 X.ts gL_wouldFly_X7_wouldFly rfl rfl rfl (by decide +kernel) ⟨Nat.le_of_ble_eq_true rfl, Nat.le_of_ble_eq_true rfl⟩) (gr7 X hP kc_0 (sk_in hN kc_0 (by decide))) rfl hl.1 rfl (Nat.le_of_ble_eq_true rfl) dL_wouldFly_5 ⟨Nat.le_of_ble_eq_true rfl, Nat.le_of_ble_eq_true rfl⟩ (fun k9 u9 H locs ce9 q9 hw hP hS hce hcv hcl => ?_) (fun r3 u9 H locs hw hP hS => ?_)
  · obtain ⟨I1, O2⟩ := u9
    subst hw
    have h := hsum_l h
    by_cases hk0 : k9 = 0
    · have h := gif_t hk0 h
      subst hk0
      refine vx_catch X.ow [] ⟨0, 10, 13, 21⟩ [⟨0, 10, 17, 13⟩, ⟨0, 10, 21, 15⟩] htab (fun z hz => absurd hz List.not_mem_nil) (by decide) (by decide) (X.ts _ (List.mem_of_getElem? (i := 1) rfl)) (va_Nw.use rfl (X.th.2.1.1 0 (by decide))) hce hcv hcl ?_
      refine lv_astore (lv' := [(4, .ref q9), (0, .ref (b 0)), (1, .int a1), (2, .int a2), (3, .ref (b 137))]) hx hb dL_wouldFly_13 hl (by decide) rfl (fun ls hl => ?_)
      refine lv_iconst (v := 1) hx hb dL_wouldFly_15 (by decide) ?_
      refine W.widen (k := 3) (n := 18) (Nat.le_of_ble_eq_true rfl) (Nat.le_of_ble_eq_true rfl) ?_
      exact W.iret hx hb hr (fun t9 ht hW => ⟨⟨(1 : Int32), (I1, O2, J), rfl, (Option.some.inj h).symm, gEnd ht hP⟩, hS.F ht⟩) hS.2.2 dL_wouldFly_16 hlk
    have h := gif_f hk0 h
    by_cases hk1 : k9 = 1
    · have h := gif_t hk1 h
      subst hk1
      refine vx_catch X.ow [⟨0, 10, 13, 21⟩] ⟨0, 10, 17, 13⟩ [⟨0, 10, 21, 15⟩] htab (fun z hz => by
        rcases List.mem_cons.mp hz with rfl | hz
        · exact Or.inr ⟨by decide, _, X.ts _ (List.mem_of_getElem? (i := 1) rfl), X.th.2.1.2.2.2 1 0 (by decide) (by decide) (by decide)⟩
        · exact absurd hz List.not_mem_nil) (by decide) (by decide) (X.ts _ (List.mem_of_getElem? (i := 2) rfl)) (va_Nw.use rfl (X.th.2.1.1 1 (by decide))) hce hcv hcl ?_
      refine lv_astore (lv' := [(4, .ref q9), (0, .ref (b 0)), (1, .int a1), (2, .int a2), (3, .ref (b 137))]) hx hb dL_wouldFly_17 hl (by decide) rfl (fun ls hl => ?_)
      refine lv_iconst (v := 2) hx hb dL_wouldFly_19 (by decide) ?_
      refine W.widen (k := 3) (n := 18) (Nat.le_of_ble_eq_true rfl) (Nat.le_of_ble_eq_true rfl) ?_
      exact W.iret hx hb hr (fun t9 ht hW => ⟨⟨(2 : Int32), (I1, O2, J), rfl, (Option.some.inj h).symm, gEnd ht hP⟩, hS.F ht⟩) hS.2.2 dL_wouldFly_20 hlk
    have h := gif_f hk1 h
    by_cases hk2 : k9 = 2
    · have h := gif_t hk2 h
      subst hk2
      refine vx_catch X.ow [⟨0, 10, 13, 21⟩, ⟨0, 10, 17, 13⟩] ⟨0, 10, 21, 15⟩ [] htab (fun z hz => by
        rcases List.mem_cons.mp hz with rfl | hz
        · exact Or.inr ⟨by decide, _, X.ts _ (List.mem_of_getElem? (i := 1) rfl), X.th.2.1.2.2.2 2 0 (by decide) (by decide) (by decide)⟩
        · rcases List.mem_cons.mp hz with rfl | hz
          · exact Or.inr ⟨by decide, _, X.ts _ (List.mem_of_getElem? (i := 2) rfl), X.th.2.1.2.2.2 2 1 (by decide) (by decide) (by decide)⟩
          · exact absurd hz List.not_mem_nil) (by decide) (by decide) (X.ts _ (List.mem_of_getElem? (i := 3) rfl)) (va_Nw.use rfl (X.th.2.1.1 2 (by decide))) hce hcv hcl ?_
      refine lv_astore (lv' := [(4, .ref q9), (0, .ref (b 0)), (1, .int a1), (2, .int a2), (3, .ref (b 137))]) hx hb dL_wouldFly_21 hl (by decide) rfl (fun ls hl => ?_)
      refine lv_iconst (v := 3) hx hb dL_wouldFly_23 (by decide) ?_
      refine W.widen (k := 3) (n := 18) (Nat.le_of_ble_eq_true rfl) (Nat.le_of_ble_eq_true rfl) ?_
      exact W.iret hx hb hr (fun t9 ht hW => ⟨⟨(3 : Int32), (I1, O2, J), rfl, (Option.some.inj h).symm, gEnd ht hP⟩, hS.F ht⟩) hS.2.2 dL_wouldFly_24 hlk
    have h := gif_f hk2 h
    cases h
  obtain ⟨I1, O2⟩ := u9
  subst hw
  have h := hsum_r h
  refine lv_i2l (v := (r3).toInt64) hx hb dL_wouldFly_8 rfl ?_
  refine gs23 X hP hS kc_137 (sk_in hN kc_137 (by decide)) (L := 1) (by decide) (by decide) dL_wouldFly_9 (fun H locs hP hS => ?_)
  obtain ⟨J5, eJ5, h⟩ := hlet_ex h
  rw [← eJ5] at hP
  refine lv_goto (tgt := 25) hx hb dL_wouldFly_10 (by decide) ?_
  refine lv_iconst (v := 0) hx hb dL_wouldFly_25 (by decide) ?_
  refine W.widen (k := 3) (n := 18) (Nat.le_of_ble_eq_true rfl) (Nat.le_of_ble_eq_true rfl) ?_
  exact W.iret hx hb hr (fun t9 ht hW => ⟨⟨(0 : Int32), (I1, O2, J5), rfl, (Option.some.inj h).symm, gEnd ht hP⟩, hS.F ht⟩) hS.2.2 dL_wouldFly_26 hlk
def f_L_wouldWin (I : Nat → Nat → Int32) (O : Nat → Nat → Option Nat) (J : Nat → Nat → Int64) : Option (Int32 × (Nat → Nat → Int32) × (Nat → Nat → Option Nat) × (Nat → Nat → Int64)) :=
  (f_X7_wouldWin I O).bind fun (eq4, I1, O2) => hsum eq4 (fun k9 => 
    if k9 = 2 then
      some ((1 : Int32), I1, O2, J)
    else
    none) fun r3 =>
  hlet (gup J 137 ((0 : Int32).toNatClampNeg) ((r3).toInt64)) fun J5 =>
  some ((0 : Int32), I1, O2, J5)
set_option maxHeartbeats 8000000 in
set_option maxRecDepth 100000 in
theorem c_L_wouldWin {l : Launch} (hlf : l.stackTraces = false) {dC : Nat → ClassId} {dI : Nat → Nat → Nat} {ca : Nat → ClassId} {b : Nat → Nat} {A : Nat → Prop} {N : Nat} (hN : 138 ≤ N) (hA : gAd A b N) (I : Nat → Nat → Int32) (O : Nat → Nat → Option Nat) (J : Nat → Nat → Int64) (res : Int32 × (Nat → Nat → Int32) × (Nat → Nat → Option Nat) × (Nat → Nat → Int64)) (h : f_L_wouldWin I O J = some res) : Met l yL_wouldWin wsL_wouldWin ({ frames := 7, cells := 1, slots := 6, locals := 163 } : Room) (va_Pc [.ref (b 0), .ref (b 137)] (gPre dC dI ca b A N I O J)) (va_Qi (fun (r : Int32) (u : (Nat → Nat → Int32) × (Nat → Nat → Option Nat) × (Nat → Nat → Int64)) => res = (r, u)) (fun (u : (Nat → Nat → Int32) × (Nat → Nat → Option Nat) × (Nat → Nat → Int64)) t => va_P (dC, dI) vwCl (hW N ca b u.1 u.2.1 u.2.2) t.heap) A) 1 6 A := by
  refine va_MetW (cc := cL_wouldWin) (maxL := 3) (ret := (some .int)) (by decide) rfl ?_
  intro p e s m args below meth c s₁ B hml hv
  obtain ⟨rfl, hP, hK, hA2, hth⟩ := hv
  have hx := B.exec
  have hb := B.bytes
  have hr := B.returns
  have hlk := B.notSynchronized
  have X : gCx p s m ([.ref (b 0), .ref (b 137)] : List Value).toArray c RL cL_wouldWin wsL_wouldWin 3 dC dI ca b A N := ⟨hx, hb, hml, findClass_of_methodNamed B.named, atoms_spec (ws := wsL_wouldWin) B.pre, hK, hA, hA2, hth⟩
  have htab : c.exceptionTable.toList = tableOf [(0, 8, 11, 15)] := vx_table (x := yL_wouldWin) B (atoms_spec (ws := wsL_wouldWin) B.pre _ (List.mem_of_getElem? (i := 0) rfl))
  have hS : va_S A s.heap s.heap [] := va_S.rf
  have hl := lv_entry ([.ref (b 0), .ref (b 137)] : List Value) (n := 3) (Nat.le_of_ble_eq_true rfl)
  rw [lg_entry_eq]
  generalize (lg_sl ([.ref (b 0), .ref (b 137)] : List Value) ++ List.replicate (3 - (lg_sl ([.ref (b 0), .ref (b 137)] : List Value)).length) Slot.unset).toArray = ls at hl ⊢
  have hl : lv_has ls 3 [(0, .ref (b 0)), (1, .ref (b 137))] := hl
  unfold f_L_wouldWin at h
  refine lv_aload_n hx hb dL_wouldWin_0 rfl (lv_at hl 1 rfl) ?_
  refine lv_iconst (v := 0) hx hb dL_wouldWin_1 (by decide) ?_
  refine lv_aload_n hx hb dL_wouldWin_2 rfl (lv_at hl 0 rfl) ?_
  obtain ⟨q4, hcq4, h⟩ := hb_some h
  refine gxV_i (As := []) (rest := [.int (0 : Int32), .ref (b 137)]) (BH := (fun (u : (Nat → Nat → Int32) × (Nat → Nat → Option Nat)) H => va_P (dC, dI) vwCl (hW N ca b u.1 u.2 J) H)) (BX := (fun (u : (Nat → Nat → Int32) × (Nat → Nat → Option Nat)) H => va_P (dC, dI) vwCl (hW N ca b u.1 u.2 J) H)) X hP hS (c_X7_wouldWin hlf hN hA I O J q4 hcq4) (cwV 0 X.ts gL_wouldWin_X7_wouldWin rfl rfl rfl (by decide +kernel) ⟨Nat.le_of_ble_eq_true rfl, Nat.le_of_ble_eq_true rfl⟩) (gr7 X hP kc_0 (sk_in hN kc_0 (by decide))) rfl hl.1 rfl (Nat.le_of_ble_eq_true rfl) dL_wouldWin_3 ⟨Nat.le_of_ble_eq_true rfl, Nat.le_of_ble_eq_true rfl⟩ (fun k9 u9 H locs ce9 q9 hw hP hS hce hcv hcl => ?_) (fun r3 u9 H locs hw hP hS => ?_)
  · obtain ⟨I1, O2⟩ := u9
    subst hw
    have h := hsum_l h
    by_cases hk2 : k9 = 2
    · have h := gif_t hk2 h
      subst hk2
      refine vx_catch X.ow [] ⟨0, 8, 11, 15⟩ [] htab (fun z hz => absurd hz List.not_mem_nil) (by decide) (by decide) (X.ts _ (List.mem_of_getElem? (i := 1) rfl)) (va_Nw.use rfl (X.th.2.1.1 2 (by decide))) hce hcv hcl ?_
      refine lv_astore_n (lv' := [(2, .ref q9), (0, .ref (b 0)), (1, .ref (b 137))]) hx hb dL_wouldWin_11 rfl hl (by decide) rfl (fun ls hl => ?_)
      refine lv_iconst (v := 1) hx hb dL_wouldWin_12 (by decide) ?_
      refine W.widen (k := 1) (n := 6) (Nat.le_of_ble_eq_true rfl) (Nat.le_of_ble_eq_true rfl) ?_
      exact W.iret hx hb hr (fun t9 ht hW => ⟨⟨(1 : Int32), (I1, O2, J), rfl, (Option.some.inj h).symm, gEnd ht hP⟩, hS.F ht⟩) hS.2.2 dL_wouldWin_13 hlk
    have h := gif_f hk2 h
    cases h
  obtain ⟨I1, O2⟩ := u9
  subst hw
  have h := hsum_r h
  refine lv_i2l (v := (r3).toInt64) hx hb dL_wouldWin_6 rfl ?_
  refine gs23 X hP hS kc_137 (sk_in hN kc_137 (by decide)) (L := 1) (by decide) (by decide) dL_wouldWin_7 (fun H locs hP hS => ?_)
  obtain ⟨J5, eJ5, h⟩ := hlet_ex h
  rw [← eJ5] at hP
  refine lv_goto (tgt := 14) hx hb dL_wouldWin_8 (by decide) ?_
  refine lv_iconst (v := 0) hx hb dL_wouldWin_14 (by decide) ?_
  refine W.widen (k := 1) (n := 6) (Nat.le_of_ble_eq_true rfl) (Nat.le_of_ble_eq_true rfl) ?_
  exact W.iret hx hb hr (fun t9 ht hW => ⟨⟨(0 : Int32), (I1, O2, J5), rfl, (Option.some.inj h).symm, gEnd ht hP⟩, hS.F ht⟩) hS.2.2 dL_wouldWin_15 hlk
def f_L_secondsToNext (I : Nat → Nat → Int32) (O : Nat → Nat → Option Nat) (J : Nat → Nat → Int64) : Option (Int32 × (Nat → Nat → Int32) × (Nat → Nat → Option Nat) × (Nat → Nat → Int64)) :=
  (f_X7_secondsToNext I O).bind fun (eq4, I1, O2) => hsum eq4 (fun k9 => 
    if k9 = 2 then
      some ((1 : Int32), I1, O2, J)
    else
    none) fun r3 =>
  hlet (gup J 137 ((0 : Int32).toNatClampNeg) ((r3).toInt64)) fun J5 =>
  some ((0 : Int32), I1, O2, J5)
set_option maxHeartbeats 8000000 in
set_option maxRecDepth 100000 in
theorem c_L_secondsToNext {l : Launch} (hlf : l.stackTraces = false) {dC : Nat → ClassId} {dI : Nat → Nat → Nat} {ca : Nat → ClassId} {b : Nat → Nat} {A : Nat → Prop} {N : Nat} (hN : 138 ≤ N) (hA : gAd A b N) (I : Nat → Nat → Int32) (O : Nat → Nat → Option Nat) (J : Nat → Nat → Int64) (res : Int32 × (Nat → Nat → Int32) × (Nat → Nat → Option Nat) × (Nat → Nat → Int64)) (h : f_L_secondsToNext I O J = some res) : Met l yL_secondsToNext wsL_secondsToNext ({ frames := 7, cells := 1, slots := 6, locals := 142 } : Room) (va_Pc [.ref (b 0), .ref (b 137)] (gPre dC dI ca b A N I O J)) (va_Qi (fun (r : Int32) (u : (Nat → Nat → Int32) × (Nat → Nat → Option Nat) × (Nat → Nat → Int64)) => res = (r, u)) (fun (u : (Nat → Nat → Int32) × (Nat → Nat → Option Nat) × (Nat → Nat → Int64)) t => va_P (dC, dI) vwCl (hW N ca b u.1 u.2.1 u.2.2) t.heap) A) 1 6 A := by
  refine va_MetW (cc := cL_secondsToNext) (maxL := 3) (ret := (some .int)) (by decide) rfl ?_
  intro p e s m args below meth c s₁ B hml hv
  obtain ⟨rfl, hP, hK, hA2, hth⟩ := hv
  have hx := B.exec
  have hb := B.bytes
  have hr := B.returns
  have hlk := B.notSynchronized
  have X : gCx p s m ([.ref (b 0), .ref (b 137)] : List Value).toArray c RL cL_secondsToNext wsL_secondsToNext 3 dC dI ca b A N := ⟨hx, hb, hml, findClass_of_methodNamed B.named, atoms_spec (ws := wsL_secondsToNext) B.pre, hK, hA, hA2, hth⟩
  have htab : c.exceptionTable.toList = tableOf [(0, 8, 11, 15)] := vx_table (x := yL_secondsToNext) B (atoms_spec (ws := wsL_secondsToNext) B.pre _ (List.mem_of_getElem? (i := 0) rfl))
  have hS : va_S A s.heap s.heap [] := va_S.rf
  have hl := lv_entry ([.ref (b 0), .ref (b 137)] : List Value) (n := 3) (Nat.le_of_ble_eq_true rfl)
  rw [lg_entry_eq]
  generalize (lg_sl ([.ref (b 0), .ref (b 137)] : List Value) ++ List.replicate (3 - (lg_sl ([.ref (b 0), .ref (b 137)] : List Value)).length) Slot.unset).toArray = ls at hl ⊢
  have hl : lv_has ls 3 [(0, .ref (b 0)), (1, .ref (b 137))] := hl
  unfold f_L_secondsToNext at h
  refine lv_aload_n hx hb dL_secondsToNext_0 rfl (lv_at hl 1 rfl) ?_
  refine lv_iconst (v := 0) hx hb dL_secondsToNext_1 (by decide) ?_
  refine lv_aload_n hx hb dL_secondsToNext_2 rfl (lv_at hl 0 rfl) ?_
  obtain ⟨q4, hcq4, h⟩ := hb_some h
  refine gxV_i (As := []) (rest := [.int (0 : Int32), .ref (b 137)]) (BH := (fun (u : (Nat → Nat → Int32) × (Nat → Nat → Option Nat)) H => va_P (dC, dI) vwCl (hW N ca b u.1 u.2 J) H)) (BX := (fun (u : (Nat → Nat → Int32) × (Nat → Nat → Option Nat)) H => va_P (dC, dI) vwCl (hW N ca b u.1 u.2 J) H)) X hP hS (c_X7_secondsToNext hlf hN hA I O J q4 hcq4) (cwV 0 X.ts gL_secondsToNext_X7_secondsToNext rfl rfl rfl (by decide +kernel) ⟨Nat.le_of_ble_eq_true rfl, Nat.le_of_ble_eq_true rfl⟩) (gr7 X hP kc_0 (sk_in hN kc_0 (by decide))) rfl hl.1 rfl (Nat.le_of_ble_eq_true rfl) dL_secondsToNext_3 ⟨Nat.le_of_ble_eq_true rfl, Nat.le_of_ble_eq_true rfl⟩ (fun k9 u9 H locs ce9 q9 hw hP hS hce hcv hcl => ?_) (fun r3 u9 H locs hw hP hS => ?_)
  · obtain ⟨I1, O2⟩ := u9
    subst hw
    have h := hsum_l h
    by_cases hk2 : k9 = 2
    · have h := gif_t hk2 h
      subst hk2
      refine vx_catch X.ow [] ⟨0, 8, 11, 15⟩ [] htab (fun z hz => absurd hz List.not_mem_nil) (by decide) (by decide) (X.ts _ (List.mem_of_getElem? (i := 1) rfl)) (va_Nw.use rfl (X.th.2.1.1 2 (by decide))) hce hcv hcl ?_
      refine lv_astore_n (lv' := [(2, .ref q9), (0, .ref (b 0)), (1, .ref (b 137))]) hx hb dL_secondsToNext_11 rfl hl (by decide) rfl (fun ls hl => ?_)
      refine lv_iconst (v := 1) hx hb dL_secondsToNext_12 (by decide) ?_
      refine W.widen (k := 1) (n := 6) (Nat.le_of_ble_eq_true rfl) (Nat.le_of_ble_eq_true rfl) ?_
      exact W.iret hx hb hr (fun t9 ht hW => ⟨⟨(1 : Int32), (I1, O2, J), rfl, (Option.some.inj h).symm, gEnd ht hP⟩, hS.F ht⟩) hS.2.2 dL_secondsToNext_13 hlk
    have h := gif_f hk2 h
    cases h
  obtain ⟨I1, O2⟩ := u9
  subst hw
  have h := hsum_r h
  refine lv_i2l (v := (r3).toInt64) hx hb dL_secondsToNext_6 rfl ?_
  refine gs23 X hP hS kc_137 (sk_in hN kc_137 (by decide)) (L := 1) (by decide) (by decide) dL_secondsToNext_7 (fun H locs hP hS => ?_)
  obtain ⟨J5, eJ5, h⟩ := hlet_ex h
  rw [← eJ5] at hP
  refine lv_goto (tgt := 14) hx hb dL_secondsToNext_8 (by decide) ?_
  refine lv_iconst (v := 0) hx hb dL_secondsToNext_14 (by decide) ?_
  refine W.widen (k := 1) (n := 6) (Nat.le_of_ble_eq_true rfl) (Nat.le_of_ble_eq_true rfl) ?_
  exact W.iret hx hb hr (fun t9 ht hW => ⟨⟨(0 : Int32), (I1, O2, J5), rfl, (Option.some.inj h).symm, gEnd ht hP⟩, hS.F ht⟩) hS.2.2 dL_secondsToNext_15 hlk
def f_L_flownWithPace (a1 : Int32) (a2 : Int32) (I : Nat → Nat → Int32) (O : Nat → Nat → Option Nat) (J : Nat → Nat → Int64) : Option (Int32 × (Nat → Nat → Int32) × (Nat → Nat → Option Nat) × (Nat → Nat → Int64)) :=
  (f_X7_flownWithPace a1 a2 I O).bind fun (eq4, I1, O2) => hsum eq4 (fun k9 => 
    if k9 = 0 then
      some ((1 : Int32), I1, O2, J)
    else
    if k9 = 1 then
      some ((2 : Int32), I1, O2, J)
    else
    if k9 = 2 then
      some ((3 : Int32), I1, O2, J)
    else
    none) fun r3 =>
  hlet (gup J 137 ((0 : Int32).toNatClampNeg) ((r3).toInt64)) fun J5 =>
  some ((0 : Int32), I1, O2, J5)
set_option maxHeartbeats 8000000 in
set_option maxRecDepth 100000 in
theorem c_L_flownWithPace {l : Launch} (hlf : l.stackTraces = false) {dC : Nat → ClassId} {dI : Nat → Nat → Nat} {ca : Nat → ClassId} {b : Nat → Nat} {A : Nat → Prop} {N : Nat} (hN : 138 ≤ N) (hA : gAd A b N) (I : Nat → Nat → Int32) (O : Nat → Nat → Option Nat) (J : Nat → Nat → Int64) (a1 : Int32) (a2 : Int32) (res : Int32 × (Nat → Nat → Int32) × (Nat → Nat → Option Nat) × (Nat → Nat → Int64)) (h : f_L_flownWithPace a1 a2 I O J = some res) : Met l yL_flownWithPace wsL_flownWithPace ({ frames := 8, cells := 3, slots := 18, locals := 147 } : Room) (va_Pc [.ref (b 0), .int a1, .int a2, .ref (b 137)] (gPre dC dI ca b A N I O J)) (va_Qi (fun (r : Int32) (u : (Nat → Nat → Int32) × (Nat → Nat → Option Nat) × (Nat → Nat → Int64)) => res = (r, u)) (fun (u : (Nat → Nat → Int32) × (Nat → Nat → Option Nat) × (Nat → Nat → Int64)) t => va_P (dC, dI) vwCl (hW N ca b u.1 u.2.1 u.2.2) t.heap) A) 3 18 A := by
  refine va_MetW (cc := cL_flownWithPace) (maxL := 5) (ret := (some .int)) (by decide) rfl ?_
  intro p e s m args below meth c s₁ B hml hv
  obtain ⟨rfl, hP, hK, hA2, hth⟩ := hv
  have hx := B.exec
  have hb := B.bytes
  have hr := B.returns
  have hlk := B.notSynchronized
  have X : gCx p s m ([.ref (b 0), .int a1, .int a2, .ref (b 137)] : List Value).toArray c RL cL_flownWithPace wsL_flownWithPace 5 dC dI ca b A N := ⟨hx, hb, hml, findClass_of_methodNamed B.named, atoms_spec (ws := wsL_flownWithPace) B.pre, hK, hA, hA2, hth⟩
  have htab : c.exceptionTable.toList = tableOf [(0, 10, 13, 21), (0, 10, 17, 13), (0, 10, 21, 15)] := vx_table (x := yL_flownWithPace) B (atoms_spec (ws := wsL_flownWithPace) B.pre _ (List.mem_of_getElem? (i := 0) rfl))
  have hS : va_S A s.heap s.heap [] := va_S.rf
  have hl := lv_entry ([.ref (b 0), .int a1, .int a2, .ref (b 137)] : List Value) (n := 5) (Nat.le_of_ble_eq_true rfl)
  rw [lg_entry_eq]
  generalize (lg_sl ([.ref (b 0), .int a1, .int a2, .ref (b 137)] : List Value) ++ List.replicate (5 - (lg_sl ([.ref (b 0), .int a1, .int a2, .ref (b 137)] : List Value)).length) Slot.unset).toArray = ls at hl ⊢
  have hl : lv_has ls 5 [(0, .ref (b 0)), (1, .int a1), (2, .int a2), (3, .ref (b 137))] := hl
  unfold f_L_flownWithPace at h
  refine lv_aload_n hx hb dL_flownWithPace_0 rfl (lv_at hl 3 rfl) ?_
  refine lv_iconst (v := 0) hx hb dL_flownWithPace_1 (by decide) ?_
  refine lv_aload_n hx hb dL_flownWithPace_2 rfl (lv_at hl 0 rfl) ?_
  refine lv_iload_n hx hb dL_flownWithPace_3 rfl (lv_at hl 1 rfl) ?_
  refine lv_iload_n hx hb dL_flownWithPace_4 rfl (lv_at hl 2 rfl) ?_
  obtain ⟨q4, hcq4, h⟩ := hb_some h
  refine gxV_i (As := [.int a1, .int a2]) (rest := [.int (0 : Int32), .ref (b 137)]) (BH := (fun (u : (Nat → Nat → Int32) × (Nat → Nat → Option Nat)) H => va_P (dC, dI) vwCl (hW N ca b u.1 u.2 J) H)) (BX := (fun (u : (Nat → Nat → Int32) × (Nat → Nat → Option Nat)) H => va_P (dC, dI) vwCl (hW N ca b u.1 u.2 J) H)) X hP hS (c_X7_flownWithPace hlf hN hA I O J a1 a2 q4 hcq4) (cwV 2 X.ts gL_flownWithPace_X7_flownWithPace rfl rfl rfl (by decide +kernel) ⟨Nat.le_of_ble_eq_true rfl, Nat.le_of_ble_eq_true rfl⟩) (gr7 X hP kc_0 (sk_in hN kc_0 (by decide))) rfl hl.1 rfl (Nat.le_of_ble_eq_true rfl) dL_flownWithPace_5 ⟨Nat.le_of_ble_eq_true rfl, Nat.le_of_ble_eq_true rfl⟩ (fun k9 u9 H locs ce9 q9 hw hP hS hce hcv hcl => ?_) (fun r3 u9 H locs hw hP hS => ?_)
  · obtain ⟨I1, O2⟩ := u9
    subst hw
    have h := hsum_l h
    by_cases hk0 : k9 = 0
    · have h := gif_t hk0 h
      subst hk0
      refine vx_catch X.ow [] ⟨0, 10, 13, 21⟩ [⟨0, 10, 17, 13⟩, ⟨0, 10, 21, 15⟩] htab (fun z hz => absurd hz List.not_mem_nil) (by decide) (by decide) (X.ts _ (List.mem_of_getElem? (i := 1) rfl)) (va_Nw.use rfl (X.th.2.1.1 0 (by decide))) hce hcv hcl ?_
      refine lv_astore (lv' := [(4, .ref q9), (0, .ref (b 0)), (1, .int a1), (2, .int a2), (3, .ref (b 137))]) hx hb dL_flownWithPace_13 hl (by decide) rfl (fun ls hl => ?_)
      refine lv_iconst (v := 1) hx hb dL_flownWithPace_15 (by decide) ?_
      refine W.widen (k := 3) (n := 18) (Nat.le_of_ble_eq_true rfl) (Nat.le_of_ble_eq_true rfl) ?_
      exact W.iret hx hb hr (fun t9 ht hW => ⟨⟨(1 : Int32), (I1, O2, J), rfl, (Option.some.inj h).symm, gEnd ht hP⟩, hS.F ht⟩) hS.2.2 dL_flownWithPace_16 hlk
    have h := gif_f hk0 h
    by_cases hk1 : k9 = 1
    · have h := gif_t hk1 h
      subst hk1
      refine vx_catch X.ow [⟨0, 10, 13, 21⟩] ⟨0, 10, 17, 13⟩ [⟨0, 10, 21, 15⟩] htab (fun z hz => by
        rcases List.mem_cons.mp hz with rfl | hz
        · exact Or.inr ⟨by decide, _, X.ts _ (List.mem_of_getElem? (i := 1) rfl), X.th.2.1.2.2.2 1 0 (by decide) (by decide) (by decide)⟩
        · exact absurd hz List.not_mem_nil) (by decide) (by decide) (X.ts _ (List.mem_of_getElem? (i := 2) rfl)) (va_Nw.use rfl (X.th.2.1.1 1 (by decide))) hce hcv hcl ?_
      refine lv_astore (lv' := [(4, .ref q9), (0, .ref (b 0)), (1, .int a1), (2, .int a2), (3, .ref (b 137))]) hx hb dL_flownWithPace_17 hl (by decide) rfl (fun ls hl => ?_)
      refine lv_iconst (v := 2) hx hb dL_flownWithPace_19 (by decide) ?_
      refine W.widen (k := 3) (n := 18) (Nat.le_of_ble_eq_true rfl) (Nat.le_of_ble_eq_true rfl) ?_
      exact W.iret hx hb hr (fun t9 ht hW => ⟨⟨(2 : Int32), (I1, O2, J), rfl, (Option.some.inj h).symm, gEnd ht hP⟩, hS.F ht⟩) hS.2.2 dL_flownWithPace_20 hlk
    have h := gif_f hk1 h
    by_cases hk2 : k9 = 2
    · have h := gif_t hk2 h
      subst hk2
      refine vx_catch X.ow [⟨0, 10, 13, 21⟩, ⟨0, 10, 17, 13⟩] ⟨0, 10, 21, 15⟩ [] htab (fun z hz => by
        rcases List.mem_cons.mp hz with rfl | hz
        · exact Or.inr ⟨by decide, _, X.ts _ (List.mem_of_getElem? (i := 1) rfl), X.th.2.1.2.2.2 2 0 (by decide) (by decide) (by decide)⟩
        · rcases List.mem_cons.mp hz with rfl | hz
          · exact Or.inr ⟨by decide, _, X.ts _ (List.mem_of_getElem? (i := 2) rfl), X.th.2.1.2.2.2 2 1 (by decide) (by decide) (by decide)⟩
          · exact absurd hz List.not_mem_nil) (by decide) (by decide) (X.ts _ (List.mem_of_getElem? (i := 3) rfl)) (va_Nw.use rfl (X.th.2.1.1 2 (by decide))) hce hcv hcl ?_
      refine lv_astore (lv' := [(4, .ref q9), (0, .ref (b 0)), (1, .int a1), (2, .int a2), (3, .ref (b 137))]) hx hb dL_flownWithPace_21 hl (by decide) rfl (fun ls hl => ?_)
      refine lv_iconst (v := 3) hx hb dL_flownWithPace_23 (by decide) ?_
      refine W.widen (k := 3) (n := 18) (Nat.le_of_ble_eq_true rfl) (Nat.le_of_ble_eq_true rfl) ?_
      exact W.iret hx hb hr (fun t9 ht hW => ⟨⟨(3 : Int32), (I1, O2, J), rfl, (Option.some.inj h).symm, gEnd ht hP⟩, hS.F ht⟩) hS.2.2 dL_flownWithPace_24 hlk
    have h := gif_f hk2 h
    cases h
  obtain ⟨I1, O2⟩ := u9
  subst hw
  have h := hsum_r h
  refine lv_i2l (v := (r3).toInt64) hx hb dL_flownWithPace_8 rfl ?_
  refine gs23 X hP hS kc_137 (sk_in hN kc_137 (by decide)) (L := 1) (by decide) (by decide) dL_flownWithPace_9 (fun H locs hP hS => ?_)
  obtain ⟨J5, eJ5, h⟩ := hlet_ex h
  rw [← eJ5] at hP
  refine lv_goto (tgt := 25) hx hb dL_flownWithPace_10 (by decide) ?_
  refine lv_iconst (v := 0) hx hb dL_flownWithPace_25 (by decide) ?_
  refine W.widen (k := 3) (n := 18) (Nat.le_of_ble_eq_true rfl) (Nat.le_of_ble_eq_true rfl) ?_
  exact W.iret hx hb hr (fun t9 ht hW => ⟨⟨(0 : Int32), (I1, O2, J5), rfl, (Option.some.inj h).symm, gEnd ht hP⟩, hS.F ht⟩) hS.2.2 dL_flownWithPace_26 hlk
def f_L_bestPace (a1 : Int32) (I : Nat → Nat → Int32) (O : Nat → Nat → Option Nat) (J : Nat → Nat → Int64) : Option (Int32 × (Nat → Nat → Int32) × (Nat → Nat → Option Nat) × (Nat → Nat → Int64)) :=
  (f_X7_bestPace a1 I O).bind fun (eq4, I1, O2) => hsum eq4 (fun k9 => 
    if k9 = 0 then
      some ((1 : Int32), I1, O2, J)
    else
    if k9 = 2 then
      some ((2 : Int32), I1, O2, J)
    else
    none) fun r3 =>
  hlet (gup J 137 ((0 : Int32).toNatClampNeg) ((r3).toInt64)) fun J5 =>
  some ((0 : Int32), I1, O2, J5)
set_option maxHeartbeats 8000000 in
set_option maxRecDepth 100000 in
theorem c_L_bestPace {l : Launch} (hlf : l.stackTraces = false) {dC : Nat → ClassId} {dI : Nat → Nat → Nat} {ca : Nat → ClassId} {b : Nat → Nat} {A : Nat → Prop} {N : Nat} (hN : 138 ≤ N) (hA : gAd A b N) (I : Nat → Nat → Int32) (O : Nat → Nat → Option Nat) (J : Nat → Nat → Int64) (a1 : Int32) (res : Int32 × (Nat → Nat → Int32) × (Nat → Nat → Option Nat) × (Nat → Nat → Int64)) (h : f_L_bestPace a1 I O J = some res) : Met l yL_bestPace wsL_bestPace ({ frames := 8, cells := 2, slots := 12, locals := 171 } : Room) (va_Pc [.ref (b 0), .int a1, .ref (b 137)] (gPre dC dI ca b A N I O J)) (va_Qi (fun (r : Int32) (u : (Nat → Nat → Int32) × (Nat → Nat → Option Nat) × (Nat → Nat → Int64)) => res = (r, u)) (fun (u : (Nat → Nat → Int32) × (Nat → Nat → Option Nat) × (Nat → Nat → Int64)) t => va_P (dC, dI) vwCl (hW N ca b u.1 u.2.1 u.2.2) t.heap) A) 2 12 A := by
  refine va_MetW (cc := cL_bestPace) (maxL := 4) (ret := (some .int)) (by decide) rfl ?_
  intro p e s m args below meth c s₁ B hml hv
  obtain ⟨rfl, hP, hK, hA2, hth⟩ := hv
  have hx := B.exec
  have hb := B.bytes
  have hr := B.returns
  have hlk := B.notSynchronized
  have X : gCx p s m ([.ref (b 0), .int a1, .ref (b 137)] : List Value).toArray c RL cL_bestPace wsL_bestPace 4 dC dI ca b A N := ⟨hx, hb, hml, findClass_of_methodNamed B.named, atoms_spec (ws := wsL_bestPace) B.pre, hK, hA, hA2, hth⟩
  have htab : c.exceptionTable.toList = tableOf [(0, 9, 12, 21), (0, 9, 15, 15)] := vx_table (x := yL_bestPace) B (atoms_spec (ws := wsL_bestPace) B.pre _ (List.mem_of_getElem? (i := 0) rfl))
  have hS : va_S A s.heap s.heap [] := va_S.rf
  have hl := lv_entry ([.ref (b 0), .int a1, .ref (b 137)] : List Value) (n := 4) (Nat.le_of_ble_eq_true rfl)
  rw [lg_entry_eq]
  generalize (lg_sl ([.ref (b 0), .int a1, .ref (b 137)] : List Value) ++ List.replicate (4 - (lg_sl ([.ref (b 0), .int a1, .ref (b 137)] : List Value)).length) Slot.unset).toArray = ls at hl ⊢
  have hl : lv_has ls 4 [(0, .ref (b 0)), (1, .int a1), (2, .ref (b 137))] := hl
  unfold f_L_bestPace at h
  refine lv_aload_n hx hb dL_bestPace_0 rfl (lv_at hl 2 rfl) ?_
  refine lv_iconst (v := 0) hx hb dL_bestPace_1 (by decide) ?_
  refine lv_aload_n hx hb dL_bestPace_2 rfl (lv_at hl 0 rfl) ?_
  refine lv_iload_n hx hb dL_bestPace_3 rfl (lv_at hl 1 rfl) ?_
  obtain ⟨q4, hcq4, h⟩ := hb_some h
  refine gxV_i (As := [.int a1]) (rest := [.int (0 : Int32), .ref (b 137)]) (BH := (fun (u : (Nat → Nat → Int32) × (Nat → Nat → Option Nat)) H => va_P (dC, dI) vwCl (hW N ca b u.1 u.2 J) H)) (BX := (fun (u : (Nat → Nat → Int32) × (Nat → Nat → Option Nat)) H => va_P (dC, dI) vwCl (hW N ca b u.1 u.2 J) H)) X hP hS (c_X7_bestPace hlf hN hA I O J a1 q4 hcq4) (cwV 1 X.ts gL_bestPace_X7_bestPace rfl rfl rfl (by decide +kernel) ⟨Nat.le_of_ble_eq_true rfl, Nat.le_of_ble_eq_true rfl⟩) (gr7 X hP kc_0 (sk_in hN kc_0 (by decide))) rfl hl.1 rfl (Nat.le_of_ble_eq_true rfl) dL_bestPace_4 ⟨Nat.le_of_ble_eq_true rfl, Nat.le_of_ble_eq_true rfl⟩ (fun k9 u9 H locs ce9 q9 hw hP hS hce hcv hcl => ?_) (fun r3 u9 H locs hw hP hS => ?_)
  · obtain ⟨I1, O2⟩ := u9
    subst hw
    have h := hsum_l h
    by_cases hk0 : k9 = 0
    · have h := gif_t hk0 h
      subst hk0
      refine vx_catch X.ow [] ⟨0, 9, 12, 21⟩ [⟨0, 9, 15, 15⟩] htab (fun z hz => absurd hz List.not_mem_nil) (by decide) (by decide) (X.ts _ (List.mem_of_getElem? (i := 1) rfl)) (va_Nw.use rfl (X.th.2.1.1 0 (by decide))) hce hcv hcl ?_
      refine lv_astore_n (lv' := [(3, .ref q9), (0, .ref (b 0)), (1, .int a1), (2, .ref (b 137))]) hx hb dL_bestPace_12 rfl hl (by decide) rfl (fun ls hl => ?_)
      refine lv_iconst (v := 1) hx hb dL_bestPace_13 (by decide) ?_
      refine W.widen (k := 2) (n := 12) (Nat.le_of_ble_eq_true rfl) (Nat.le_of_ble_eq_true rfl) ?_
      exact W.iret hx hb hr (fun t9 ht hW => ⟨⟨(1 : Int32), (I1, O2, J), rfl, (Option.some.inj h).symm, gEnd ht hP⟩, hS.F ht⟩) hS.2.2 dL_bestPace_14 hlk
    have h := gif_f hk0 h
    by_cases hk2 : k9 = 2
    · have h := gif_t hk2 h
      subst hk2
      refine vx_catch X.ow [⟨0, 9, 12, 21⟩] ⟨0, 9, 15, 15⟩ [] htab (fun z hz => by
        rcases List.mem_cons.mp hz with rfl | hz
        · exact Or.inr ⟨by decide, _, X.ts _ (List.mem_of_getElem? (i := 1) rfl), X.th.2.1.2.2.2 2 0 (by decide) (by decide) (by decide)⟩
        · exact absurd hz List.not_mem_nil) (by decide) (by decide) (X.ts _ (List.mem_of_getElem? (i := 2) rfl)) (va_Nw.use rfl (X.th.2.1.1 2 (by decide))) hce hcv hcl ?_
      refine lv_astore_n (lv' := [(3, .ref q9), (0, .ref (b 0)), (1, .int a1), (2, .ref (b 137))]) hx hb dL_bestPace_15 rfl hl (by decide) rfl (fun ls hl => ?_)
      refine lv_iconst (v := 2) hx hb dL_bestPace_16 (by decide) ?_
      refine W.widen (k := 2) (n := 12) (Nat.le_of_ble_eq_true rfl) (Nat.le_of_ble_eq_true rfl) ?_
      exact W.iret hx hb hr (fun t9 ht hW => ⟨⟨(2 : Int32), (I1, O2, J), rfl, (Option.some.inj h).symm, gEnd ht hP⟩, hS.F ht⟩) hS.2.2 dL_bestPace_17 hlk
    have h := gif_f hk2 h
    cases h
  obtain ⟨I1, O2⟩ := u9
  subst hw
  have h := hsum_r h
  refine lv_i2l (v := (r3).toInt64) hx hb dL_bestPace_7 rfl ?_
  refine gs23 X hP hS kc_137 (sk_in hN kc_137 (by decide)) (L := 1) (by decide) (by decide) dL_bestPace_8 (fun H locs hP hS => ?_)
  obtain ⟨J5, eJ5, h⟩ := hlet_ex h
  rw [← eJ5] at hP
  refine lv_goto (tgt := 18) hx hb dL_bestPace_9 (by decide) ?_
  refine lv_iconst (v := 0) hx hb dL_bestPace_18 (by decide) ?_
  refine W.widen (k := 2) (n := 12) (Nat.le_of_ble_eq_true rfl) (Nat.le_of_ble_eq_true rfl) ?_
  exact W.iret hx hb hr (fun t9 ht hW => ⟨⟨(0 : Int32), (I1, O2, J5), rfl, (Option.some.inj h).symm, gEnd ht hP⟩, hS.F ht⟩) hS.2.2 dL_bestPace_19 hlk
def f_L_arrivedAt (a1 : Int32) (I : Nat → Nat → Int32) (J : Nat → Nat → Int64) : Option (Int32 × (Nat → Nat → Int64)) :=
  (f_X7_arrivedAt a1 I).bind fun eq2 => hsum eq2 (fun k9 => 
    if k9 = 0 then
      some ((1 : Int32), J)
    else
    none) fun r1 =>
  hlet (gup J 137 ((0 : Int32).toNatClampNeg) ((r1).toInt64)) fun J3 =>
  some ((0 : Int32), J3)
set_option maxHeartbeats 8000000 in
set_option maxRecDepth 100000 in
theorem c_L_arrivedAt {l : Launch} (hlf : l.stackTraces = false) {dC : Nat → ClassId} {dI : Nat → Nat → Nat} {ca : Nat → ClassId} {b : Nat → Nat} {A : Nat → Prop} {N : Nat} (hN : 138 ≤ N) (hA : gAd A b N) (I : Nat → Nat → Int32) (O : Nat → Nat → Option Nat) (J : Nat → Nat → Int64) (a1 : Int32) (res : Int32 × (Nat → Nat → Int64)) (h : f_L_arrivedAt a1 I J = some res) : Met l yL_arrivedAt wsL_arrivedAt ({ frames := 7, cells := 1, slots := 6, locals := 112 } : Room) (va_Pc [.ref (b 0), .int a1, .ref (b 137)] (gPre dC dI ca b A N I O J)) (va_Qi (fun (r : Int32) (u : Nat → Nat → Int64) => res = (r, u)) (fun (u : Nat → Nat → Int64) t => va_P (dC, dI) vwCl (hW N ca b I O u) t.heap) A) 1 6 A := by
  refine va_MetW (cc := cL_arrivedAt) (maxL := 4) (ret := (some .int)) (by decide) rfl ?_
  intro p e s m args below meth c s₁ B hml hv
  obtain ⟨rfl, hP, hK, hA2, hth⟩ := hv
  have hx := B.exec
  have hb := B.bytes
  have hr := B.returns
  have hlk := B.notSynchronized
  have X : gCx p s m ([.ref (b 0), .int a1, .ref (b 137)] : List Value).toArray c RL cL_arrivedAt wsL_arrivedAt 4 dC dI ca b A N := ⟨hx, hb, hml, findClass_of_methodNamed B.named, atoms_spec (ws := wsL_arrivedAt) B.pre, hK, hA, hA2, hth⟩
  have htab : c.exceptionTable.toList = tableOf [(0, 9, 12, 21)] := vx_table (x := yL_arrivedAt) B (atoms_spec (ws := wsL_arrivedAt) B.pre _ (List.mem_of_getElem? (i := 0) rfl))
  have hS : va_S A s.heap s.heap [] := va_S.rf
  have hl := lv_entry ([.ref (b 0), .int a1, .ref (b 137)] : List Value) (n := 4) (Nat.le_of_ble_eq_true rfl)
  rw [lg_entry_eq]
  generalize (lg_sl ([.ref (b 0), .int a1, .ref (b 137)] : List Value) ++ List.replicate (4 - (lg_sl ([.ref (b 0), .int a1, .ref (b 137)] : List Value)).length) Slot.unset).toArray = ls at hl ⊢
  have hl : lv_has ls 4 [(0, .ref (b 0)), (1, .int a1), (2, .ref (b 137))] := hl
  unfold f_L_arrivedAt at h
  refine lv_aload_n hx hb dL_arrivedAt_0 rfl (lv_at hl 2 rfl) ?_
  refine lv_iconst (v := 0) hx hb dL_arrivedAt_1 (by decide) ?_
  refine lv_aload_n hx hb dL_arrivedAt_2 rfl (lv_at hl 0 rfl) ?_
  refine lv_iload_n hx hb dL_arrivedAt_3 rfl (lv_at hl 1 rfl) ?_
  obtain ⟨q2, hcq2, h⟩ := hb_some h
  refine gxV_i (As := [.int a1]) (rest := [.int (0 : Int32), .ref (b 137)]) (BH := (fun (u : Unit) H => va_P (dC, dI) vwCl (hW N ca b I O J) H)) (BX := (fun (u : Unit) H => va_P (dC, dI) vwCl (hW N ca b I O J) H)) X hP hS (c_X7_arrivedAt hlf hN hA I O J a1 q2 hcq2) (cwV 1 X.ts gL_arrivedAt_X7_arrivedAt rfl rfl rfl (by decide +kernel) ⟨Nat.le_of_ble_eq_true rfl, Nat.le_of_ble_eq_true rfl⟩) (gr7 X hP kc_0 (sk_in hN kc_0 (by decide))) rfl hl.1 rfl (Nat.le_of_ble_eq_true rfl) dL_arrivedAt_4 ⟨Nat.le_of_ble_eq_true rfl, Nat.le_of_ble_eq_true rfl⟩ (fun k9 u9 H locs ce9 q9 hw hP hS hce hcv hcl => ?_) (fun r1 u9 H locs hw hP hS => ?_)
  · subst hw
    have h := hsum_l h
    by_cases hk0 : k9 = 0
    · have h := gif_t hk0 h
      subst hk0
      refine vx_catch X.ow [] ⟨0, 9, 12, 21⟩ [] htab (fun z hz => absurd hz List.not_mem_nil) (by decide) (by decide) (X.ts _ (List.mem_of_getElem? (i := 1) rfl)) (va_Nw.use rfl (X.th.2.1.1 0 (by decide))) hce hcv hcl ?_
      refine lv_astore_n (lv' := [(3, .ref q9), (0, .ref (b 0)), (1, .int a1), (2, .ref (b 137))]) hx hb dL_arrivedAt_12 rfl hl (by decide) rfl (fun ls hl => ?_)
      refine lv_iconst (v := 1) hx hb dL_arrivedAt_13 (by decide) ?_
      refine W.widen (k := 1) (n := 6) (Nat.le_of_ble_eq_true rfl) (Nat.le_of_ble_eq_true rfl) ?_
      exact W.iret hx hb hr (fun t9 ht hW => ⟨⟨(1 : Int32), J, rfl, (Option.some.inj h).symm, gEnd ht hP⟩, hS.F ht⟩) hS.2.2 dL_arrivedAt_14 hlk
    have h := gif_f hk0 h
    cases h
  subst hw
  have h := hsum_r h
  refine lv_i2l (v := (r1).toInt64) hx hb dL_arrivedAt_7 rfl ?_
  refine gs23 X hP hS kc_137 (sk_in hN kc_137 (by decide)) (L := 1) (by decide) (by decide) dL_arrivedAt_8 (fun H locs hP hS => ?_)
  obtain ⟨J3, eJ3, h⟩ := hlet_ex h
  rw [← eJ3] at hP
  refine lv_goto (tgt := 15) hx hb dL_arrivedAt_9 (by decide) ?_
  refine lv_iconst (v := 0) hx hb dL_arrivedAt_15 (by decide) ?_
  refine W.widen (k := 1) (n := 6) (Nat.le_of_ble_eq_true rfl) (Nat.le_of_ble_eq_true rfl) ?_
  exact W.iret hx hb hr (fun t9 ht hW => ⟨⟨(0 : Int32), J3, rfl, (Option.some.inj h).symm, gEnd ht hP⟩, hS.F ht⟩) hS.2.2 dL_arrivedAt_16 hlk
def f_L_timeOf (a1 : Int32) (I : Nat → Nat → Int32) (J : Nat → Nat → Int64) : Option (Int32 × (Nat → Nat → Int64)) :=
  (f_X7_timeOf a1 I).bind fun eq2 => hsum eq2 (fun k9 => 
    if k9 = 0 then
      some ((1 : Int32), J)
    else
    if k9 = 2 then
      some ((2 : Int32), J)
    else
    none) fun r1 =>
  hlet (gup J 137 ((0 : Int32).toNatClampNeg) ((r1).toInt64)) fun J3 =>
  some ((0 : Int32), J3)
set_option maxHeartbeats 8000000 in
set_option maxRecDepth 100000 in
theorem c_L_timeOf {l : Launch} (hlf : l.stackTraces = false) {dC : Nat → ClassId} {dI : Nat → Nat → Nat} {ca : Nat → ClassId} {b : Nat → Nat} {A : Nat → Prop} {N : Nat} (hN : 138 ≤ N) (hA : gAd A b N) (I : Nat → Nat → Int32) (O : Nat → Nat → Option Nat) (J : Nat → Nat → Int64) (a1 : Int32) (res : Int32 × (Nat → Nat → Int64)) (h : f_L_timeOf a1 I J = some res) : Met l yL_timeOf wsL_timeOf ({ frames := 8, cells := 2, slots := 12, locals := 134 } : Room) (va_Pc [.ref (b 0), .int a1, .ref (b 137)] (gPre dC dI ca b A N I O J)) (va_Qi (fun (r : Int32) (u : Nat → Nat → Int64) => res = (r, u)) (fun (u : Nat → Nat → Int64) t => va_P (dC, dI) vwCl (hW N ca b I O u) t.heap) A) 2 12 A := by
  refine va_MetW (cc := cL_timeOf) (maxL := 4) (ret := (some .int)) (by decide) rfl ?_
  intro p e s m args below meth c s₁ B hml hv
  obtain ⟨rfl, hP, hK, hA2, hth⟩ := hv
  have hx := B.exec
  have hb := B.bytes
  have hr := B.returns
  have hlk := B.notSynchronized
  have X : gCx p s m ([.ref (b 0), .int a1, .ref (b 137)] : List Value).toArray c RL cL_timeOf wsL_timeOf 4 dC dI ca b A N := ⟨hx, hb, hml, findClass_of_methodNamed B.named, atoms_spec (ws := wsL_timeOf) B.pre, hK, hA, hA2, hth⟩
  have htab : c.exceptionTable.toList = tableOf [(0, 9, 12, 21), (0, 9, 15, 15)] := vx_table (x := yL_timeOf) B (atoms_spec (ws := wsL_timeOf) B.pre _ (List.mem_of_getElem? (i := 0) rfl))
  have hS : va_S A s.heap s.heap [] := va_S.rf
  have hl := lv_entry ([.ref (b 0), .int a1, .ref (b 137)] : List Value) (n := 4) (Nat.le_of_ble_eq_true rfl)
  rw [lg_entry_eq]
  generalize (lg_sl ([.ref (b 0), .int a1, .ref (b 137)] : List Value) ++ List.replicate (4 - (lg_sl ([.ref (b 0), .int a1, .ref (b 137)] : List Value)).length) Slot.unset).toArray = ls at hl ⊢
  have hl : lv_has ls 4 [(0, .ref (b 0)), (1, .int a1), (2, .ref (b 137))] := hl
  unfold f_L_timeOf at h
  refine lv_aload_n hx hb dL_timeOf_0 rfl (lv_at hl 2 rfl) ?_
  refine lv_iconst (v := 0) hx hb dL_timeOf_1 (by decide) ?_
  refine lv_aload_n hx hb dL_timeOf_2 rfl (lv_at hl 0 rfl) ?_
  refine lv_iload_n hx hb dL_timeOf_3 rfl (lv_at hl 1 rfl) ?_
  obtain ⟨q2, hcq2, h⟩ := hb_some h
  refine gxV_i (As := [.int a1]) (rest := [.int (0 : Int32), .ref (b 137)]) (BH := (fun (u : Unit) H => va_P (dC, dI) vwCl (hW N ca b I O J) H)) (BX := (fun (u : Unit) H => va_P (dC, dI) vwCl (hW N ca b I O J) H)) X hP hS (c_X7_timeOf hlf hN hA I O J a1 q2 hcq2) (cwV 1 X.ts gL_timeOf_X7_timeOf rfl rfl rfl (by decide +kernel) ⟨Nat.le_of_ble_eq_true rfl, Nat.le_of_ble_eq_true rfl⟩) (gr7 X hP kc_0 (sk_in hN kc_0 (by decide))) rfl hl.1 rfl (Nat.le_of_ble_eq_true rfl) dL_timeOf_4 ⟨Nat.le_of_ble_eq_true rfl, Nat.le_of_ble_eq_true rfl⟩ (fun k9 u9 H locs ce9 q9 hw hP hS hce hcv hcl => ?_) (fun r1 u9 H locs hw hP hS => ?_)
  · subst hw
    have h := hsum_l h
    by_cases hk0 : k9 = 0
    · have h := gif_t hk0 h
      subst hk0
      refine vx_catch X.ow [] ⟨0, 9, 12, 21⟩ [⟨0, 9, 15, 15⟩] htab (fun z hz => absurd hz List.not_mem_nil) (by decide) (by decide) (X.ts _ (List.mem_of_getElem? (i := 1) rfl)) (va_Nw.use rfl (X.th.2.1.1 0 (by decide))) hce hcv hcl ?_
      refine lv_astore_n (lv' := [(3, .ref q9), (0, .ref (b 0)), (1, .int a1), (2, .ref (b 137))]) hx hb dL_timeOf_12 rfl hl (by decide) rfl (fun ls hl => ?_)
      refine lv_iconst (v := 1) hx hb dL_timeOf_13 (by decide) ?_
      refine W.widen (k := 2) (n := 12) (Nat.le_of_ble_eq_true rfl) (Nat.le_of_ble_eq_true rfl) ?_
      exact W.iret hx hb hr (fun t9 ht hW => ⟨⟨(1 : Int32), J, rfl, (Option.some.inj h).symm, gEnd ht hP⟩, hS.F ht⟩) hS.2.2 dL_timeOf_14 hlk
    have h := gif_f hk0 h
    by_cases hk2 : k9 = 2
    · have h := gif_t hk2 h
      subst hk2
      refine vx_catch X.ow [⟨0, 9, 12, 21⟩] ⟨0, 9, 15, 15⟩ [] htab (fun z hz => by
        rcases List.mem_cons.mp hz with rfl | hz
        · exact Or.inr ⟨by decide, _, X.ts _ (List.mem_of_getElem? (i := 1) rfl), X.th.2.1.2.2.2 2 0 (by decide) (by decide) (by decide)⟩
        · exact absurd hz List.not_mem_nil) (by decide) (by decide) (X.ts _ (List.mem_of_getElem? (i := 2) rfl)) (va_Nw.use rfl (X.th.2.1.1 2 (by decide))) hce hcv hcl ?_
      refine lv_astore_n (lv' := [(3, .ref q9), (0, .ref (b 0)), (1, .int a1), (2, .ref (b 137))]) hx hb dL_timeOf_15 rfl hl (by decide) rfl (fun ls hl => ?_)
      refine lv_iconst (v := 2) hx hb dL_timeOf_16 (by decide) ?_
      refine W.widen (k := 2) (n := 12) (Nat.le_of_ble_eq_true rfl) (Nat.le_of_ble_eq_true rfl) ?_
      exact W.iret hx hb hr (fun t9 ht hW => ⟨⟨(2 : Int32), J, rfl, (Option.some.inj h).symm, gEnd ht hP⟩, hS.F ht⟩) hS.2.2 dL_timeOf_17 hlk
    have h := gif_f hk2 h
    cases h
  subst hw
  have h := hsum_r h
  refine lv_i2l (v := (r1).toInt64) hx hb dL_timeOf_7 rfl ?_
  refine gs23 X hP hS kc_137 (sk_in hN kc_137 (by decide)) (L := 1) (by decide) (by decide) dL_timeOf_8 (fun H locs hP hS => ?_)
  obtain ⟨J3, eJ3, h⟩ := hlet_ex h
  rw [← eJ3] at hP
  refine lv_goto (tgt := 18) hx hb dL_timeOf_9 (by decide) ?_
  refine lv_iconst (v := 0) hx hb dL_timeOf_18 (by decide) ?_
  refine W.widen (k := 2) (n := 12) (Nat.le_of_ble_eq_true rfl) (Nat.le_of_ble_eq_true rfl) ?_
  exact W.iret hx hb hr (fun t9 ht hW => ⟨⟨(0 : Int32), J3, rfl, (Option.some.inj h).symm, gEnd ht hP⟩, hS.F ht⟩) hS.2.2 dL_timeOf_19 hlk
