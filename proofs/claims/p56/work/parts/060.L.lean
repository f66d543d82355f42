def f_L_enter (a1 : Int32) (a2 : Int32) (a3 : Int32) (I : Nat → Nat → Int32) (O : Nat → Nat → Option Nat) : Option (Int32 × (Nat → Nat → Int32) × (Nat → Nat → Option Nat)) :=
  (f_X7_enter a1 a2 a3 I O).bind fun (eq4, I1, O2) => hsum eq4 (fun k9 => 
    if k9 = 1 then
      some ((-3 : Int32), I1, O2)
    else
    if k9 = 2 then
      some ((-4 : Int32), I1, O2)
    else
    none) fun r3 =>
  some (r3, I1, O2)
set_option maxHeartbeats 8000000 in
set_option maxRecDepth 100000 in
theorem c_L_enter {l : Launch} (hlf : l.stackTraces = false) {dC : Nat → ClassId} {dI : Nat → Nat → Nat} {ca : Nat → ClassId} {b : Nat → Nat} {A : Nat → Prop} {N : Nat} (hN : 129 ≤ N) (hA : gAd A b N) (I : Nat → Nat → Int32) (O : Nat → Nat → Option Nat) (J : Nat → Nat → Int64) (a1 : Int32) (a2 : Int32) (a3 : Int32) (res : Int32 × (Nat → Nat → Int32) × (Nat → Nat → Option Nat)) (h : f_L_enter a1 a2 a3 I O = some res) : Met l yL_enter wsL_enter ({ frames := 7, cells := 1, slots := 6, locals := 113 } : Room) (va_Pc [.ref (b 0), .int a1, .int a2, .int a3] (gPre dC dI ca b A N I O J)) (va_Qi (fun (r : Int32) (u : (Nat → Nat → Int32) × (Nat → Nat → Option Nat)) => res = (r, u)) (fun (u : (Nat → Nat → Int32) × (Nat → Nat → Option Nat)) t => va_P (dC, dI) vwCl (hW N ca b u.1 u.2 J) t.heap) A) 1 6 A := by
  refine va_MetW (cc := cL_enter) (maxL := 5) (ret := (some .int)) (by decide) rfl ?_
  intro p e s m args below meth c s₁ B hml hv
  obtain ⟨rfl, hP, hK, hA2, hth⟩ := hv
  have hx := B.exec
  have hb := B.bytes
  have hr := B.returns
  have hlk := B.notSynchronized
  have X : gCx p s m ([.ref (b 0), .int a1, .int a2, .int a3] : List Value).toArray c RL cL_enter wsL_enter 5 dC dI ca b A N := ⟨hx, hb, hml, findClass_of_methodNamed B.named, atoms_spec (ws := wsL_enter) B.pre, hK, hA, hA2, hth⟩
  have htab : c.exceptionTable.toList = tableOf [(0, 7, 8, 15), (0, 7, 13, 17)] := vx_table (x := yL_enter) B (atoms_spec (ws := wsL_enter) B.pre _ (List.mem_of_getElem? (i := 0) rfl))
  have hS : va_S A s.heap s.heap [] := va_S.rf
  have hl := lv_entry ([.ref (b 0), .int a1, .int a2, .int a3] : List Value) (n := 5) (Nat.le_of_ble_eq_true rfl)
  rw [lg_entry_eq]
  generalize (lg_sl ([.ref (b 0), .int a1, .int a2, .int a3] : List Value) ++ List.replicate (5 - (lg_sl ([.ref (b 0), .int a1, .int a2, .int a3] : List Value)).length) Slot.unset).toArray = ls at hl ⊢
  have hl : lv_has ls 5 [(0, .ref (b 0)), (1, .int a1), (2, .int a2), (3, .int a3)] := hl
  unfold f_L_enter at h
  refine lv_aload_n hx hb dL_enter_0 rfl (lv_at hl 0 rfl) ?_
  refine lv_iload_n hx hb dL_enter_1 rfl (lv_at hl 1 rfl) ?_
  refine lv_iload_n hx hb dL_enter_2 rfl (lv_at hl 2 rfl) ?_
  refine lv_iload_n hx hb dL_enter_3 rfl (lv_at hl 3 rfl) ?_
  obtain ⟨q4, hcq4, h⟩ := hb_some h
  refine gxV_i (As := [.int a1, .int a2, .int a3]) (rest := []) (BH := (fun (u : (Nat → Nat → Int32) × (Nat → Nat → Option Nat)) H => va_P (dC, dI) vwCl (hW N ca b u.1 u.2 J) H)) (BX := (fun (u : (Nat → Nat → Int32) × (Nat → Nat → Option Nat)) H => va_P (dC, dI) vwCl (hW N ca b u.1 u.2 J) H)) X hP hS (c_X7_enter hlf hN hA I O J a1 a2 a3 q4 hcq4) (cwV 3 X.ts gL_enter_X7_enter rfl rfl rfl (by decide +kernel) ⟨Nat.le_of_ble_eq_true rfl, Nat.le_of_ble_eq_true rfl⟩) (gr7 X hP kc_0 (sk_in hN kc_0 (by decide))) rfl hl.1 rfl (Nat.le_of_ble_eq_true rfl) dL_enter_4 ⟨Nat.le_of_ble_eq_true rfl, Nat.le_of_ble_eq_true rfl⟩ (fun k9 u9 H locs ce9 q9 hw hP hS hce hcv hcl => ?_) (fun r3 u9 H locs hw hP hS => ?_)
  · obtain ⟨I1, O2⟩ := u9
    subst hw
    have h := hsum_l h
    by_cases hk1 : k9 = 1
    · have h := gif_t hk1 h
      subst hk1
      refine vx_catch X.ow [] ⟨0, 7, 8, 15⟩ [⟨0, 7, 13, 17⟩] htab (fun z hz => absurd hz List.not_mem_nil) (by decide) (by decide) (X.ts _ (List.mem_of_getElem? (i := 1) rfl)) (va_Nw.use rfl (X.th.2.1.1 1 (by decide))) hce hcv hcl ?_
      refine lv_astore (lv' := [(4, .ref q9), (0, .ref (b 0)), (1, .int a1), (2, .int a2), (3, .int a3)]) hx hb dL_enter_8 hl (by decide) rfl (fun ls hl => ?_)
      refine lv_bipush (v := (-3)) hx hb dL_enter_10 (by decide) ?_
      refine W.widen (k := 1) (n := 6) (Nat.le_of_ble_eq_true rfl) (Nat.le_of_ble_eq_true rfl) ?_
      exact W.iret hx hb hr (fun t9 ht hW => ⟨⟨(-3 : Int32), (I1, O2), rfl, (Option.some.inj h).symm, gEnd ht hP⟩, hS.F ht⟩) hS.2.2 dL_enter_12 hlk
    have h := gif_f hk1 h
    by_cases hk2 : k9 = 2
    · have h := gif_t hk2 h
      subst hk2
      refine vx_catch X.ow [⟨0, 7, 8, 15⟩] ⟨0, 7, 13, 17⟩ [] htab (fun z hz => by
        rcases List.mem_cons.mp hz with rfl | hz
        · exact Or.inr ⟨by decide, _, X.ts _ (List.mem_of_getElem? (i := 1) rfl), X.th.2.1.2.2.2 2 1 (by decide) (by decide) (by decide)⟩
        · exact absurd hz List.not_mem_nil) (by decide) (by decide) (X.ts _ (List.mem_of_getElem? (i := 2) rfl)) (va_Nw.use rfl (X.th.2.1.1 2 (by decide))) hce hcv hcl ?_
      refine lv_astore (lv' := [(4, .ref q9), (0, .ref (b 0)), (1, .int a1), (2, .int a2), (3, .int a3)]) hx hb dL_enter_13 hl (by decide) rfl (fun ls hl => ?_)
      refine lv_bipush (v := (-4)) hx hb dL_enter_15 (by decide) ?_
      refine W.widen (k := 1) (n := 6) (Nat.le_of_ble_eq_true rfl) (Nat.le_of_ble_eq_true rfl) ?_
      exact W.iret hx hb hr (fun t9 ht hW => ⟨⟨(-4 : Int32), (I1, O2), rfl, (Option.some.inj h).symm, gEnd ht hP⟩, hS.F ht⟩) hS.2.2 dL_enter_17 hlk
    have h := gif_f hk2 h
    cases h
  obtain ⟨I1, O2⟩ := u9
  subst hw
  have h := hsum_r h
  refine W.widen (k := 1) (n := 6) (Nat.le_of_ble_eq_true rfl) (Nat.le_of_ble_eq_true rfl) ?_
  exact W.iret hx hb hr (fun t9 ht hW => ⟨⟨r3, (I1, O2), rfl, (Option.some.inj h).symm, gEnd ht hP⟩, hS.F ht⟩) hS.2.2 dL_enter_7 hlk
def f_L_setPace (a1 : Int32) (a2 : Int32) (I : Nat → Nat → Int32) (O : Nat → Nat → Option Nat) : Option (Int32 × (Nat → Nat → Int32) × (Nat → Nat → Option Nat)) :=
  (f_X7_setPace a1 a2 I O).bind fun (eq4, I1, O2) => hsum eq4 (fun k9 => 
    if k9 = 0 then
      some ((-2 : Int32), I1, O2)
    else
    if k9 = 1 then
      some ((-3 : Int32), I1, O2)
    else
    none) fun r3 =>
  some (r3, I1, O2)
set_option maxHeartbeats 8000000 in
set_option maxRecDepth 100000 in
theorem c_L_setPace {l : Launch} (hlf : l.stackTraces = false) {dC : Nat → ClassId} {dI : Nat → Nat → Nat} {ca : Nat → ClassId} {b : Nat → Nat} {A : Nat → Prop} {N : Nat} (hN : 129 ≤ N) (hA : gAd A b N) (I : Nat → Nat → Int32) (O : Nat → Nat → Option Nat) (J : Nat → Nat → Int64) (a1 : Int32) (a2 : Int32) (res : Int32 × (Nat → Nat → Int32) × (Nat → Nat → Option Nat)) (h : f_L_setPace a1 a2 I O = some res) : Met l yL_setPace wsL_setPace ({ frames := 8, cells := 2, slots := 12, locals := 136 } : Room) (va_Pc [.ref (b 0), .int a1, .int a2] (gPre dC dI ca b A N I O J)) (va_Qi (fun (r : Int32) (u : (Nat → Nat → Int32) × (Nat → Nat → Option Nat)) => res = (r, u)) (fun (u : (Nat → Nat → Int32) × (Nat → Nat → Option Nat)) t => va_P (dC, dI) vwCl (hW N ca b u.1 u.2 J) t.heap) A) 2 12 A := by
  refine va_MetW (cc := cL_setPace) (maxL := 4) (ret := (some .int)) (by decide) rfl ?_
  intro p e s m args below meth c s₁ B hml hv
  obtain ⟨rfl, hP, hK, hA2, hth⟩ := hv
  have hx := B.exec
  have hb := B.bytes
  have hr := B.returns
  have hlk := B.notSynchronized
  have X : gCx p s m ([.ref (b 0), .int a1, .int a2] : List Value).toArray c RL cL_setPace wsL_setPace 4 dC dI ca b A N := ⟨hx, hb, hml, findClass_of_methodNamed B.named, atoms_spec (ws := wsL_setPace) B.pre, hK, hA, hA2, hth⟩
  have htab : c.exceptionTable.toList = tableOf [(0, 6, 7, 23), (0, 6, 11, 15)] := vx_table (x := yL_setPace) B (atoms_spec (ws := wsL_setPace) B.pre _ (List.mem_of_getElem? (i := 0) rfl))
  have hS : va_S A s.heap s.heap [] := va_S.rf
  have hl := lv_entry ([.ref (b 0), .int a1, .int a2] : List Value) (n := 4) (Nat.le_of_ble_eq_true rfl)
  rw [lg_entry_eq]
  generalize (lg_sl ([.ref (b 0), .int a1, .int a2] : List Value) ++ List.replicate (4 - (lg_sl ([.ref (b 0), .int a1, .int a2] : List Value)).length) Slot.unset).toArray = ls at hl ⊢
  have hl : lv_has ls 4 [(0, .ref (b 0)), (1, .int a1), (2, .int a2)] := hl
  unfold f_L_setPace at h
  refine lv_aload_n hx hb dL_setPace_0 rfl (lv_at hl 0 rfl) ?_
  refine lv_iload_n hx hb dL_setPace_1 rfl (lv_at hl 1 rfl) ?_
  refine lv_iload_n hx hb dL_setPace_2 rfl (lv_at hl 2 rfl) ?_
  obtain ⟨q4, hcq4, h⟩ := hb_some h
  refine gxV_i (As := [.int a1, .int a2]) (rest := []) (BH := (fun (u : (Nat → Nat → Int32) × (Nat → Nat → Option Nat)) H => va_P (dC, dI) vwCl (hW N ca b u.1 u.2 J) H)) (BX := (fun (u : (Nat → Nat → Int32) × (Nat → Nat → Option Nat)) H => va_P (dC, dI) vwCl (hW N ca b u.1 u.2 J) H)) X hP hS (c_X7_setPace hlf hN hA I O J a1 a2 q4 hcq4) (cwV 2 X.ts gL_setPace_X7_setPace rfl rfl rfl (by decide +kernel) ⟨Nat.le_of_ble_eq_true rfl, Nat.le_of_ble_eq_true rfl⟩) (gr7 X hP kc_0 (sk_in hN kc_0 (by decide))) rfl hl.1 rfl (Nat.le_of_ble_eq_true rfl) dL_setPace_3 ⟨Nat.le_of_ble_eq_true rfl, Nat.le_of_ble_eq_true rfl⟩ (fun k9 u9 H locs ce9 q9 hw hP hS hce hcv hcl => ?_) (fun r3 u9 H locs hw hP hS => ?_)
  · obtain ⟨I1, O2⟩ := u9
    subst hw
    have h := hsum_l h
    by_cases hk0 : k9 = 0
    · have h := gif_t hk0 h
      subst hk0
      refine vx_catch X.ow [] ⟨0, 6, 7, 23⟩ [⟨0, 6, 11, 15⟩] htab (fun z hz => absurd hz List.not_mem_nil) (by decide) (by decide) (X.ts _ (List.mem_of_getElem? (i := 1) rfl)) (va_Nw.use rfl (X.th.2.1.1 0 (by decide))) hce hcv hcl ?_
      refine lv_astore_n (lv' := [(3, .ref q9), (0, .ref (b 0)), (1, .int a1), (2, .int a2)]) hx hb dL_setPace_7 rfl hl (by decide) rfl (fun ls hl => ?_)
      refine lv_bipush (v := (-2)) hx hb dL_setPace_8 (by decide) ?_
      refine W.widen (k := 2) (n := 12) (Nat.le_of_ble_eq_true rfl) (Nat.le_of_ble_eq_true rfl) ?_
      exact W.iret hx hb hr (fun t9 ht hW => ⟨⟨(-2 : Int32), (I1, O2), rfl, (Option.some.inj h).symm, gEnd ht hP⟩, hS.F ht⟩) hS.2.2 dL_setPace_10 hlk
    have h := gif_f hk0 h
    by_cases hk1 : k9 = 1
    · have h := gif_t hk1 h
      subst hk1
      refine vx_catch X.ow [⟨0, 6, 7, 23⟩] ⟨0, 6, 11, 15⟩ [] htab (fun z hz => by
        rcases List.mem_cons.mp hz with rfl | hz
        · exact Or.inr ⟨by decide, _, X.ts _ (List.mem_of_getElem? (i := 1) rfl), X.th.2.1.2.2.2 1 0 (by decide) (by decide) (by decide)⟩
        · exact absurd hz List.not_mem_nil) (by decide) (by decide) (X.ts _ (List.mem_of_getElem? (i := 2) rfl)) (va_Nw.use rfl (X.th.2.1.1 1 (by decide))) hce hcv hcl ?_
      refine lv_astore_n (lv' := [(3, .ref q9), (0, .ref (b 0)), (1, .int a1), (2, .int a2)]) hx hb dL_setPace_11 rfl hl (by decide) rfl (fun ls hl => ?_)
      refine lv_bipush (v := (-3)) hx hb dL_setPace_12 (by decide) ?_
      refine W.widen (k := 2) (n := 12) (Nat.le_of_ble_eq_true rfl) (Nat.le_of_ble_eq_true rfl) ?_
      exact W.iret hx hb hr (fun t9 ht hW => ⟨⟨(-3 : Int32), (I1, O2), rfl, (Option.some.inj h).symm, gEnd ht hP⟩, hS.F ht⟩) hS.2.2 dL_setPace_14 hlk
    have h := gif_f hk1 h
    cases h
  obtain ⟨I1, O2⟩ := u9
  subst hw
  have h := hsum_r h
  refine W.widen (k := 2) (n := 12) (Nat.le_of_ble_eq_true rfl) (Nat.le_of_ble_eq_true rfl) ?_
  exact W.iret hx hb hr (fun t9 ht hW => ⟨⟨r3, (I1, O2), rfl, (Option.some.inj h).symm, gEnd ht hP⟩, hS.F ht⟩) hS.2.2 dL_setPace_6 hlk
def f_L_callIn (a1 : Int32) (I : Nat → Nat → Int32) (O : Nat → Nat → Option Nat) : Option (Int32 × (Nat → Nat → Int32) × (Nat → Nat → Option Nat)) :=
  (f_X7_callIn a1 I O).bind fun (eq4, I1, O2) => hsum eq4 (fun k9 => 
    if k9 = 0 then
      some ((-2 : Int32), I1, O2)
    else
    if k9 = 2 then
      some ((-4 : Int32), I1, O2)
    else
    none) fun r3 =>
  if r3 = 0 then
    some ((0 : Int32), I1, O2)
  else
    some ((1 : Int32), I1, O2)
set_option maxHeartbeats 8000000 in
set_option maxRecDepth 100000 in
theorem c_L_callIn {l : Launch} (hlf : l.stackTraces = false) {dC : Nat → ClassId} {dI : Nat → Nat → Nat} {ca : Nat → ClassId} {b : Nat → Nat} {A : Nat → Prop} {N : Nat} (hN : 129 ≤ N) (hA : gAd A b N) (I : Nat → Nat → Int32) (O : Nat → Nat → Option Nat) (J : Nat → Nat → Int64) (a1 : Int32) (res : Int32 × (Nat → Nat → Int32) × (Nat → Nat → Option Nat)) (h : f_L_callIn a1 I O = some res) : Met l yL_callIn wsL_callIn ({ frames := 8, cells := 2, slots := 12, locals := 134 } : Room) (va_Pc [.ref (b 0), .int a1] (gPre dC dI ca b A N I O J)) (va_Qi (fun (r : Int32) (u : (Nat → Nat → Int32) × (Nat → Nat → Option Nat)) => res = (r, u)) (fun (u : (Nat → Nat → Int32) × (Nat → Nat → Option Nat)) t => va_P (dC, dI) vwCl (hW N ca b u.1 u.2 J) t.heap) A) 2 12 A := by
  refine va_MetW (cc := cL_callIn) (maxL := 3) (ret := (some .int)) (by decide) rfl ?_
  intro p e s m args below meth c s₁ B hml hv
  obtain ⟨rfl, hP, hK, hA2, hth⟩ := hv
  have hx := B.exec
  have hb := B.bytes
  have hr := B.returns
  have hlk := B.notSynchronized
  have X : gCx p s m ([.ref (b 0), .int a1] : List Value).toArray c RL cL_callIn wsL_callIn 3 dC dI ca b A N := ⟨hx, hb, hml, findClass_of_methodNamed B.named, atoms_spec (ws := wsL_callIn) B.pre, hK, hA, hA2, hth⟩
  have htab : c.exceptionTable.toList = tableOf [(0, 13, 14, 23), (0, 13, 18, 17)] := vx_table (x := yL_callIn) B (atoms_spec (ws := wsL_callIn) B.pre _ (List.mem_of_getElem? (i := 0) rfl))
  have hS : va_S A s.heap s.heap [] := va_S.rf
  have hl := lv_entry ([.ref (b 0), .int a1] : List Value) (n := 3) (Nat.le_of_ble_eq_true rfl)
  rw [lg_entry_eq]
  generalize (lg_sl ([.ref (b 0), .int a1] : List Value) ++ List.replicate (3 - (lg_sl ([.ref (b 0), .int a1] : List Value)).length) Slot.unset).toArray = ls at hl ⊢
  have hl : lv_has ls 3 [(0, .ref (b 0)), (1, .int a1)] := hl
  unfold f_L_callIn at h
  refine lv_aload_n hx hb dL_callIn_0 rfl (lv_at hl 0 rfl) ?_
  refine lv_iload_n hx hb dL_callIn_1 rfl (lv_at hl 1 rfl) ?_
  obtain ⟨q4, hcq4, h⟩ := hb_some h
  refine gxV_i (As := [.int a1]) (rest := []) (BH := (fun (u : (Nat → Nat → Int32) × (Nat → Nat → Option Nat)) H => va_P (dC, dI) vwCl (hW N ca b u.1 u.2 J) H)) (BX := (fun (u : (Nat → Nat → Int32) × (Nat → Nat → Option Nat)) H => va_P (dC, dI) vwCl (hW N ca b u.1 u.2 J) H)) X hP hS (c_X7_callIn hlf hN hA I O J a1 q4 hcq4) (cwV 1 X.ts gL_callIn_X7_callIn rfl rfl rfl (by decide +kernel) ⟨Nat.le_of_ble_eq_true rfl, Nat.le_of_ble_eq_true rfl⟩) (gr7 X hP kc_0 (sk_in hN kc_0 (by decide))) rfl hl.1 rfl (Nat.le_of_ble_eq_true rfl) dL_callIn_2 ⟨Nat.le_of_ble_eq_true rfl, Nat.le_of_ble_eq_true rfl⟩ (fun k9 u9 H locs ce9 q9 hw hP hS hce hcv hcl => ?_) (fun r3 u9 H locs hw hP hS => ?_)
  · obtain ⟨I1, O2⟩ := u9
    subst hw
    have h := hsum_l h
    by_cases hk0 : k9 = 0
    · have h := gif_t hk0 h
      subst hk0
      refine vx_catch X.ow [] ⟨0, 13, 14, 23⟩ [⟨0, 13, 18, 17⟩] htab (fun z hz => absurd hz List.not_mem_nil) (by decide) (by decide) (X.ts _ (List.mem_of_getElem? (i := 1) rfl)) (va_Nw.use rfl (X.th.2.1.1 0 (by decide))) hce hcv hcl ?_
      refine lv_astore_n (lv' := [(2, .ref q9), (0, .ref (b 0)), (1, .int a1)]) hx hb dL_callIn_14 rfl hl (by decide) rfl (fun ls hl => ?_)
      refine lv_bipush (v := (-2)) hx hb dL_callIn_15 (by decide) ?_
      refine W.widen (k := 2) (n := 12) (Nat.le_of_ble_eq_true rfl) (Nat.le_of_ble_eq_true rfl) ?_
      exact W.iret hx hb hr (fun t9 ht hW => ⟨⟨(-2 : Int32), (I1, O2), rfl, (Option.some.inj h).symm, gEnd ht hP⟩, hS.F ht⟩) hS.2.2 dL_callIn_17 hlk
    have h := gif_f hk0 h
    by_cases hk2 : k9 = 2
    · have h := gif_t hk2 h
      subst hk2
      refine vx_catch X.ow [⟨0, 13, 14, 23⟩] ⟨0, 13, 18, 17⟩ [] htab (fun z hz => by
        rcases List.mem_cons.mp hz with rfl | hz
        · exact Or.inr ⟨by decide, _, X.ts _ (List.mem_of_getElem? (i := 1) rfl), X.th.2.1.2.2.2 2 0 (by decide) (by decide) (by decide)⟩
        · exact absurd hz List.not_mem_nil) (by decide) (by decide) (X.ts _ (List.mem_of_getElem? (i := 2) rfl)) (va_Nw.use rfl (X.th.2.1.1 2 (by decide))) hce hcv hcl ?_
      refine lv_astore_n (lv' := [(2, .ref q9), (0, .ref (b 0)), (1, .int a1)]) hx hb dL_callIn_18 rfl hl (by decide) rfl (fun ls hl => ?_)
      refine lv_bipush (v := (-4)) hx hb dL_callIn_19 (by decide) ?_
      refine W.widen (k := 2) (n := 12) (Nat.le_of_ble_eq_true rfl) (Nat.le_of_ble_eq_true rfl) ?_
      exact W.iret hx hb hr (fun t9 ht hW => ⟨⟨(-4 : Int32), (I1, O2), rfl, (Option.some.inj h).symm, gEnd ht hP⟩, hS.F ht⟩) hS.2.2 dL_callIn_21 hlk
    have h := gif_f hk2 h
    cases h
  obtain ⟨I1, O2⟩ := u9
  subst hw
  have h := hsum_r h
  refine lv_if_eq (tgt := 12) hx hb dL_callIn_5 (by decide) (fun c5 => ?_) (fun c5 => ?_)
  · have h := gif_t c5 h
    refine lv_iconst (v := 0) hx hb dL_callIn_12 (by decide) ?_
    refine W.widen (k := 2) (n := 12) (Nat.le_of_ble_eq_true rfl) (Nat.le_of_ble_eq_true rfl) ?_
    exact W.iret hx hb hr (fun t9 ht hW => ⟨⟨(0 : Int32), (I1, O2), rfl, (Option.some.inj h).symm, gEnd ht hP⟩, hS.F ht⟩) hS.2.2 dL_callIn_13 hlk
  · have h := gif_f c5 h
    refine lv_iconst (v := 1) hx hb dL_callIn_8 (by decide) ?_
    refine lv_goto (tgt := 13) hx hb dL_callIn_9 (by decide) ?_
    refine W.widen (k := 2) (n := 12) (Nat.le_of_ble_eq_true rfl) (Nat.le_of_ble_eq_true rfl) ?_
    exact W.iret hx hb hr (fun t9 ht hW => ⟨⟨(1 : Int32), (I1, O2), rfl, (Option.some.inj h).symm, gEnd ht hP⟩, hS.F ht⟩) hS.2.2 dL_callIn_13 hlk
def f_L_pair (a1 : Int32) (a2 : Int32) (I : Nat → Nat → Int32) (O : Nat → Nat → Option Nat) : Option (Int32 × (Nat → Nat → Int32) × (Nat → Nat → Option Nat)) :=
  (f_X7_pair a1 a2 I O).bind fun (eq4, I1, O2) => hsum eq4 (fun k9 => 
    if k9 = 0 then
      some ((-2 : Int32), I1, O2)
    else
    if k9 = 1 then
      some ((-3 : Int32), I1, O2)
    else
    none) fun r3 =>
  some (r3, I1, O2)
set_option maxHeartbeats 8000000 in
set_option maxRecDepth 100000 in
theorem c_L_pair {l : Launch} (hlf : l.stackTraces = false) {dC : Nat → ClassId} {dI : Nat → Nat → Nat} {ca : Nat → ClassId} {b : Nat → Nat} {A : Nat → Prop} {N : Nat} (hN : 129 ≤ N) (hA : gAd A b N) (I : Nat → Nat → Int32) (O : Nat → Nat → Option Nat) (J : Nat → Nat → Int64) (a1 : Int32) (a2 : Int32) (res : Int32 × (Nat → Nat → Int32) × (Nat → Nat → Option Nat)) (h : f_L_pair a1 a2 I O = some res) : Met l yL_pair wsL_pair ({ frames := 8, cells := 3, slots := 18, locals := 136 } : Room) (va_Pc [.ref (b 0), .int a1, .int a2] (gPre dC dI ca b A N I O J)) (va_Qi (fun (r : Int32) (u : (Nat → Nat → Int32) × (Nat → Nat → Option Nat)) => res = (r, u)) (fun (u : (Nat → Nat → Int32) × (Nat → Nat → Option Nat)) t => va_P (dC, dI) vwCl (hW N ca b u.1 u.2 J) t.heap) A) 3 18 A := by
  refine va_MetW (cc := cL_pair) (maxL := 4) (ret := (some .int)) (by decide) rfl ?_
  intro p e s m args below meth c s₁ B hml hv
  obtain ⟨rfl, hP, hK, hA2, hth⟩ := hv
  have hx := B.exec
  have hb := B.bytes
  have hr := B.returns
  have hlk := B.notSynchronized
  have X : gCx p s m ([.ref (b 0), .int a1, .int a2] : List Value).toArray c RL cL_pair wsL_pair 4 dC dI ca b A N := ⟨hx, hb, hml, findClass_of_methodNamed B.named, atoms_spec (ws := wsL_pair) B.pre, hK, hA, hA2, hth⟩
  have htab : c.exceptionTable.toList = tableOf [(0, 6, 7, 23), (0, 6, 11, 15)] := vx_table (x := yL_pair) B (atoms_spec (ws := wsL_pair) B.pre _ (List.mem_of_getElem? (i := 0) rfl))
  have hS : va_S A s.heap s.heap [] := va_S.rf
  have hl := lv_entry ([.ref (b 0), .int a1, .int a2] : List Value) (n := 4) (Nat.le_of_ble_eq_true rfl)
  rw [lg_entry_eq]
  generalize (lg_sl ([.ref (b 0), .int a1, .int a2] : List Value) ++ List.replicate (4 - (lg_sl ([.ref (b 0), .int a1, .int a2] : List Value)).length) Slot.unset).toArray = ls at hl ⊢
  have hl : lv_has ls 4 [(0, .ref (b 0)), (1, .int a1), (2, .int a2)] := hl
  unfold f_L_pair at h
  refine lv_aload_n hx hb dL_pair_0 rfl (lv_at hl 0 rfl) ?_
  refine lv_iload_n hx hb dL_pair_1 rfl (lv_at hl 1 rfl) ?_
  refine lv_iload_n hx hb dL_pair_2 rfl (lv_at hl 2 rfl) ?_
  obtain ⟨q4, hcq4, h⟩ := hb_some h
  refine gxV_i (As := [.int a1, .int a2]) (rest := []) (BH := (fun (u : (Nat → Nat → Int32) × (Nat → Nat → Option Nat)) H => va_P (dC, dI) vwCl (hW N ca b u.1 u.2 J) H)) (BX := (fun (u : (Nat → Nat → Int32) × (Nat → Nat → Option Nat)) H => va_P (dC, dI) vwCl (hW N ca b u.1 u.2 J) H)) X hP hS (c_X7_pair hlf hN hA I O J a1 a2 q4 hcq4) (cwV 2 X.ts gL_pair_X7_pair rfl rfl rfl (by decide +kernel) ⟨Nat.le_of_ble_eq_true rfl, Nat.le_of_ble_eq_true rfl⟩) (gr7 X hP kc_0 (sk_in hN kc_0 (by decide))) rfl hl.1 rfl (Nat.le_of_ble_eq_true rfl) dL_pair_3 ⟨Nat.le_of_ble_eq_true rfl, Nat.le_of_ble_eq_true rfl⟩ (fun k9 u9 H locs ce9 q9 hw hP hS hce hcv hcl => ?_) (fun r3 u9 H locs hw hP hS => ?_)
  · obtain ⟨I1, O2⟩ := u9
    subst hw
    have h := hsum_l h
    by_cases hk0 : k9 = 0
    · have h := gif_t hk0 h
      subst hk0
      refine vx_catch X.ow [] ⟨0, 6, 7, 23⟩ [⟨0, 6, 11, 15⟩] htab (fun z hz => absurd hz List.not_mem_nil) (by decide) (by decide) (X.ts _ (List.mem_of_getElem? (i := 1) rfl)) (va_Nw.use rfl (X.th.2.1.1 0 (by decide))) hce hcv hcl ?_
      refine lv_astore_n (lv' := [(3, .ref q9), (0, .ref (b 0)), (1, .int a1), (2, .int a2)]) hx hb dL_pair_7 rfl hl (by decide) rfl (fun ls hl => ?_)
      refine lv_bipush (v := (-2)) hx hb dL_pair_8 (by decide) ?_
      refine W.widen (k := 3) (n := 18) (Nat.le_of_ble_eq_true rfl) (Nat.le_of_ble_eq_true rfl) ?_
      exact W.iret hx hb hr (fun t9 ht hW => ⟨⟨(-2 : Int32), (I1, O2), rfl, (Option.some.inj h).symm, gEnd ht hP⟩, hS.F ht⟩) hS.2.2 dL_pair_10 hlk
    have h := gif_f hk0 h
    by_cases hk1 : k9 = 1
    · have h := gif_t hk1 h
      subst hk1
      refine vx_catch X.ow [⟨0, 6, 7, 23⟩] ⟨0, 6, 11, 15⟩ [] htab (fun z hz => by
        rcases List.mem_cons.mp hz with rfl | hz
        · exact Or.inr ⟨by decide, _, X.ts _ (List.mem_of_getElem? (i := 1) rfl), X.th.2.1.2.2.2 1 0 (by decide) (by decide) (by decide)⟩
        · exact absurd hz List.not_mem_nil) (by decide) (by decide) (X.ts _ (List.mem_of_getElem? (i := 2) rfl)) (va_Nw.use rfl (X.th.2.1.1 1 (by decide))) hce hcv hcl ?_
      refine lv_astore_n (lv' := [(3, .ref q9), (0, .ref (b 0)), (1, .int a1), (2, .int a2)]) hx hb dL_pair_11 rfl hl (by decide) rfl (fun ls hl => ?_)
      refine lv_bipush (v := (-3)) hx hb dL_pair_12 (by decide) ?_
      refine W.widen (k := 3) (n := 18) (Nat.le_of_ble_eq_true rfl) (Nat.le_of_ble_eq_true rfl) ?_
      exact W.iret hx hb hr (fun t9 ht hW => ⟨⟨(-3 : Int32), (I1, O2), rfl, (Option.some.inj h).symm, gEnd ht hP⟩, hS.F ht⟩) hS.2.2 dL_pair_14 hlk
    have h := gif_f hk1 h
    cases h
  obtain ⟨I1, O2⟩ := u9
  subst hw
  have h := hsum_r h
  refine W.widen (k := 3) (n := 18) (Nat.le_of_ble_eq_true rfl) (Nat.le_of_ble_eq_true rfl) ?_
  exact W.iret hx hb hr (fun t9 ht hW => ⟨⟨r3, (I1, O2), rfl, (Option.some.inj h).symm, gEnd ht hP⟩, hS.F ht⟩) hS.2.2 dL_pair_6 hlk
def f_L_setLimit (a1 : Int32) (a2 : Int32) (I : Nat → Nat → Int32) (O : Nat → Nat → Option Nat) : Option (Int32 × (Nat → Nat → Int32) × (Nat → Nat → Option Nat)) :=
  (f_X7_setLimit a1 a2 I O).bind fun (eq4, I1, O2) => hsum eq4 (fun k9 => 
    if k9 = 0 then
      some ((-2 : Int32), I1, O2)
    else
    if k9 = 1 then
      some ((-3 : Int32), I1, O2)
    else
    none) fun r3 =>
  some (r3, I1, O2)
set_option maxHeartbeats 8000000 in
set_option maxRecDepth 100000 in
theorem c_L_setLimit {l : Launch} (hlf : l.stackTraces = false) {dC : Nat → ClassId} {dI : Nat → Nat → Nat} {ca : Nat → ClassId} {b : Nat → Nat} {A : Nat → Prop} {N : Nat} (hN : 129 ≤ N) (hA : gAd A b N) (I : Nat → Nat → Int32) (O : Nat → Nat → Option Nat) (J : Nat → Nat → Int64) (a1 : Int32) (a2 : Int32) (res : Int32 × (Nat → Nat → Int32) × (Nat → Nat → Option Nat)) (h : f_L_setLimit a1 a2 I O = some res) : Met l yL_setLimit wsL_setLimit ({ frames := 8, cells := 2, slots := 12, locals := 133 } : Room) (va_Pc [.ref (b 0), .int a1, .int a2] (gPre dC dI ca b A N I O J)) (va_Qi (fun (r : Int32) (u : (Nat → Nat → Int32) × (Nat → Nat → Option Nat)) => res = (r, u)) (fun (u : (Nat → Nat → Int32) × (Nat → Nat → Option Nat)) t => va_P (dC, dI) vwCl (hW N ca b u.1 u.2 J) t.heap) A) 2 12 A := by
  refine va_MetW (cc := cL_setLimit) (maxL := 4) (ret := (some .int)) (by decide) rfl ?_
  intro p e s m args below meth c s₁ B hml hv
  obtain ⟨rfl, hP, hK, hA2, hth⟩ := hv
  have hx := B.exec
  have hb := B.bytes
  have hr := B.returns
  have hlk := B.notSynchronized
  have X : gCx p s m ([.ref (b 0), .int a1, .int a2] : List Value).toArray c RL cL_setLimit wsL_setLimit 4 dC dI ca b A N := ⟨hx, hb, hml, findClass_of_methodNamed B.named, atoms_spec (ws := wsL_setLimit) B.pre, hK, hA, hA2, hth⟩
  have htab : c.exceptionTable.toList = tableOf [(0, 6, 7, 23), (0, 6, 11, 15)] := vx_table (x := yL_setLimit) B (atoms_spec (ws := wsL_setLimit) B.pre _ (List.mem_of_getElem? (i := 0) rfl))
  have hS : va_S A s.heap s.heap [] := va_S.rf
  have hl := lv_entry ([.ref (b 0), .int a1, .int a2] : List Value) (n := 4) (Nat.le_of_ble_eq_true rfl)
  rw [lg_entry_eq]
  generalize (lg_sl ([.ref (b 0), .int a1, .int a2] : List Value) ++ List.replicate (4 - (lg_sl ([.ref (b 0), .int a1, .int a2] : List Value)).length) Slot.unset).toArray = ls at hl ⊢
  have hl : lv_has ls 4 [(0, .ref (b 0)), (1, .int a1), (2, .int a2)] := hl
  unfold f_L_setLimit at h
  refine lv_aload_n hx hb dL_setLimit_0 rfl (lv_at hl 0 rfl) ?_
  refine lv_iload_n hx hb dL_setLimit_1 rfl (lv_at hl 1 rfl) ?_
  refine lv_iload_n hx hb dL_setLimit_2 rfl (lv_at hl 2 rfl) ?_
  obtain ⟨q4, hcq4, h⟩ := hb_some h
  refine gxV_i (As := [.int a1, .int a2]) (rest := []) (BH := (fun (u : (Nat → Nat → Int32) × (Nat → Nat → Option Nat)) H => va_P (dC, dI) vwCl (hW N ca b u.1 u.2 J) H)) (BX := (fun (u : (Nat → Nat → Int32) × (Nat → Nat → Option Nat)) H => va_P (dC, dI) vwCl (hW N ca b u.1 u.2 J) H)) X hP hS (c_X7_setLimit hlf hN hA I O J a1 a2 q4 hcq4) (cwV 2 X.ts gL_setLimit_X7_setLimit rfl rfl rfl (by decide +kernel) ⟨Nat.le_of_ble_eq_true rfl, Nat.le_of_ble_eq_true rfl⟩) (gr7 X hP kc_0 (sk_in hN kc_0 (by decide))) rfl hl.1 rfl (Nat.le_of_ble_eq_true rfl) dL_setLimit_3 ⟨Nat.le_of_ble_eq_true rfl, Nat.le_of_ble_eq_true rfl⟩ (fun k9 u9 H locs ce9 q9 hw hP hS hce hcv hcl => ?_) (fun r3 u9 H locs hw hP hS => ?_)
  · obtain ⟨I1, O2⟩ := u9
    subst hw
    have h := hsum_l h
    by_cases hk0 : k9 = 0
    · have h := gif_t hk0 h
      subst hk0
      refine vx_catch X.ow [] ⟨0, 6, 7, 23⟩ [⟨0, 6, 11, 15⟩] htab (fun z hz => absurd hz List.not_mem_nil) (by decide) (by decide) (X.ts _ (List.mem_of_getElem? (i := 1) rfl)) (va_Nw.use rfl (X.th.2.1.1 0 (by decide))) hce hcv hcl ?_
      refine lv_astore_n (lv' := [(3, .ref q9), (0, .ref (b 0)), (1, .int a1), (2, .int a2)]) hx hb dL_setLimit_7 rfl hl (by decide) rfl (fun ls hl => ?_)
      refine lv_bipush (v := (-2)) hx hb dL_setLimit_8 (by decide) ?_
      refine W.widen (k := 2) (n := 12) (Nat.le_of_ble_eq_true rfl) (Nat.le_of_ble_eq_true rfl) ?_
      exact W.iret hx hb hr (fun t9 ht hW => ⟨⟨(-2 : Int32), (I1, O2), rfl, (Option.some.inj h).symm, gEnd ht hP⟩, hS.F ht⟩) hS.2.2 dL_setLimit_10 hlk
    have h := gif_f hk0 h
    by_cases hk1 : k9 = 1
    · have h := gif_t hk1 h
      subst hk1
      refine vx_catch X.ow [⟨0, 6, 7, 23⟩] ⟨0, 6, 11, 15⟩ [] htab (fun z hz => by
        rcases List.mem_cons.mp hz with rfl | hz
        · exact Or.inr ⟨by decide, _, X.ts _ (List.mem_of_getElem? (i := 1) rfl), X.th.2.1.2.2.2 1 0 (by decide) (by decide) (by decide)⟩
        · exact absurd hz List.not_mem_nil) (by decide) (by decide) (X.ts _ (List.mem_of_getElem? (i := 2) rfl)) (va_Nw.use rfl (X.th.2.1.1 1 (by decide))) hce hcv hcl ?_
      refine lv_astore_n (lv' := [(3, .ref q9), (0, .ref (b 0)), (1, .int a1), (2, .int a2)]) hx hb dL_setLimit_11 rfl hl (by decide) rfl (fun ls hl => ?_)
      refine lv_bipush (v := (-3)) hx hb dL_setLimit_12 (by decide) ?_
      refine W.widen (k := 2) (n := 12) (Nat.le_of_ble_eq_true rfl) (Nat.le_of_ble_eq_true rfl) ?_
      exact W.iret hx hb hr (fun t9 ht hW => ⟨⟨(-3 : Int32), (I1, O2), rfl, (Option.some.inj h).symm, gEnd ht hP⟩, hS.F ht⟩) hS.2.2 dL_setLimit_14 hlk
    have h := gif_f hk1 h
    cases h
  obtain ⟨I1, O2⟩ := u9
  subst hw
  have h := hsum_r h
  refine W.widen (k := 2) (n := 12) (Nat.le_of_ble_eq_true rfl) (Nat.le_of_ble_eq_true rfl) ?_
  exact W.iret hx hb hr (fun t9 ht hW => ⟨⟨r3, (I1, O2), rfl, (Option.some.inj h).symm, gEnd ht hP⟩, hS.F ht⟩) hS.2.2 dL_setLimit_6 hlk
def f_L_setLaps (a1 : Int32) (I : Nat → Nat → Int32) (O : Nat → Nat → Option Nat) : Option (Int32 × (Nat → Nat → Int32) × (Nat → Nat → Option Nat)) :=
  (f_X7_setLaps a1 I O).bind fun (eq4, I1, O2) => hsum eq4 (fun k9 => 
    if k9 = 1 then
      some ((-3 : Int32), I1, O2)
    else
    if k9 = 2 then
      some ((-4 : Int32), I1, O2)
    else
    none) fun r3 =>
  some (r3, I1, O2)
set_option maxHeartbeats 8000000 in
set_option maxRecDepth 100000 in
theorem c_L_setLaps {l : Launch} (hlf : l.stackTraces = false) {dC : Nat → ClassId} {dI : Nat → Nat → Nat} {ca : Nat → ClassId} {b : Nat → Nat} {A : Nat → Prop} {N : Nat} (hN : 129 ≤ N) (hA : gAd A b N) (I : Nat → Nat → Int32) (O : Nat → Nat → Option Nat) (J : Nat → Nat → Int64) (a1 : Int32) (res : Int32 × (Nat → Nat → Int32) × (Nat → Nat → Option Nat)) (h : f_L_setLaps a1 I O = some res) : Met l yL_setLaps wsL_setLaps ({ frames := 7, cells := 1, slots := 6, locals := 112 } : Room) (va_Pc [.ref (b 0), .int a1] (gPre dC dI ca b A N I O J)) (va_Qi (fun (r : Int32) (u : (Nat → Nat → Int32) × (Nat → Nat → Option Nat)) => res = (r, u)) (fun (u : (Nat → Nat → Int32) × (Nat → Nat → Option Nat)) t => va_P (dC, dI) vwCl (hW N ca b u.1 u.2 J) t.heap) A) 1 6 A := by
  refine va_MetW (cc := cL_setLaps) (maxL := 3) (ret := (some .int)) (by decide) rfl ?_
  intro p e s m args below meth c s₁ B hml hv
  obtain ⟨rfl, hP, hK, hA2, hth⟩ := hv
  have hx := B.exec
  have hb := B.bytes
  have hr := B.returns
  have hlk := B.notSynchronized
  have X : gCx p s m ([.ref (b 0), .int a1] : List Value).toArray c RL cL_setLaps wsL_setLaps 3 dC dI ca b A N := ⟨hx, hb, hml, findClass_of_methodNamed B.named, atoms_spec (ws := wsL_setLaps) B.pre, hK, hA, hA2, hth⟩
  have htab : c.exceptionTable.toList = tableOf [(0, 5, 6, 15), (0, 5, 10, 17)] := vx_table (x := yL_setLaps) B (atoms_spec (ws := wsL_setLaps) B.pre _ (List.mem_of_getElem? (i := 0) rfl))
  have hS : va_S A s.heap s.heap [] := va_S.rf
  have hl := lv_entry ([.ref (b 0), .int a1] : List Value) (n := 3) (Nat.le_of_ble_eq_true rfl)
  rw [lg_entry_eq]
  generalize (lg_sl ([.ref (b 0), .int a1] : List Value) ++ List.replicate (3 - (lg_sl ([.ref (b 0), .int a1] : List Value)).length) Slot.unset).toArray = ls at hl ⊢
  have hl : lv_has ls 3 [(0, .ref (b 0)), (1, .int a1)] := hl
  unfold f_L_setLaps at h
  refine lv_aload_n hx hb dL_setLaps_0 rfl (lv_at hl 0 rfl) ?_
  refine lv_iload_n hx hb dL_setLaps_1 rfl (lv_at hl 1 rfl) ?_
  obtain ⟨q4, hcq4, h⟩ := hb_some h
  refine gxV_i (As := [.int a1]) (rest := []) (BH := (fun (u : (Nat → Nat → Int32) × (Nat → Nat → Option Nat)) H => va_P (dC, dI) vwCl (hW N ca b u.1 u.2 J) H)) (BX := (fun (u : (Nat → Nat → Int32) × (Nat → Nat → Option Nat)) H => va_P (dC, dI) vwCl (hW N ca b u.1 u.2 J) H)) X hP hS (c_X7_setLaps hlf hN hA I O J a1 q4 hcq4) (cwV 1 X.ts gL_setLaps_X7_setLaps rfl rfl rfl (by decide +kernel) ⟨Nat.le_of_ble_eq_true rfl, Nat.le_of_ble_eq_true rfl⟩) (gr7 X hP kc_0 (sk_in hN kc_0 (by decide))) rfl hl.1 rfl (Nat.le_of_ble_eq_true rfl) dL_setLaps_2 ⟨Nat.le_of_ble_eq_true rfl, Nat.le_of_ble_eq_true rfl⟩ (fun k9 u9 H locs ce9 q9 hw hP hS hce hcv hcl => ?_) (fun r3 u9 H locs hw hP hS => ?_)
  · obtain ⟨I1, O2⟩ := u9
    subst hw
    have h := hsum_l h
    by_cases hk1 : k9 = 1
    · have h := gif_t hk1 h
      subst hk1
      refine vx_catch X.ow [] ⟨0, 5, 6, 15⟩ [⟨0, 5, 10, 17⟩] htab (fun z hz => absurd hz List.not_mem_nil) (by decide) (by decide) (X.ts _ (List.mem_of_getElem? (i := 1) rfl)) (va_Nw.use rfl (X.th.2.1.1 1 (by decide))) hce hcv hcl ?_
      refine lv_astore_n (lv' := [(2, .ref q9), (0, .ref (b 0)), (1, .int a1)]) hx hb dL_setLaps_6 rfl hl (by decide) rfl (fun ls hl => ?_)
      refine lv_bipush (v := (-3)) hx hb dL_setLaps_7 (by decide) ?_
      refine W.widen (k := 1) (n := 6) (Nat.le_of_ble_eq_true rfl) (Nat.le_of_ble_eq_true rfl) ?_
      exact W.iret hx hb hr (fun t9 ht hW => ⟨⟨(-3 : Int32), (I1, O2), rfl, (Option.some.inj h).symm, gEnd ht hP⟩, hS.F ht⟩) hS.2.2 dL_setLaps_9 hlk
    have h := gif_f hk1 h
    by_cases hk2 : k9 = 2
    · have h := gif_t hk2 h
      subst hk2
      refine vx_catch X.ow [⟨0, 5, 6, 15⟩] ⟨0, 5, 10, 17⟩ [] htab (fun z hz => by
        rcases List.mem_cons.mp hz with rfl | hz
        · exact Or.inr ⟨by decide, _, X.ts _ (List.mem_of_getElem? (i := 1) rfl), X.th.2.1.2.2.2 2 1 (by decide) (by decide) (by decide)⟩
        · exact absurd hz List.not_mem_nil) (by decide) (by decide) (X.ts _ (List.mem_of_getElem? (i := 2) rfl)) (va_Nw.use rfl (X.th.2.1.1 2 (by decide))) hce hcv hcl ?_
      refine lv_astore_n (lv' := [(2, .ref q9), (0, .ref (b 0)), (1, .int a1)]) hx hb dL_setLaps_10 rfl hl (by decide) rfl (fun ls hl => ?_)
      refine lv_bipush (v := (-4)) hx hb dL_setLaps_11 (by decide) ?_
      refine W.widen (k := 1) (n := 6) (Nat.le_of_ble_eq_true rfl) (Nat.le_of_ble_eq_true rfl) ?_
      exact W.iret hx hb hr (fun t9 ht hW => ⟨⟨(-4 : Int32), (I1, O2), rfl, (Option.some.inj h).symm, gEnd ht hP⟩, hS.F ht⟩) hS.2.2 dL_setLaps_13 hlk
    have h := gif_f hk2 h
    cases h
  obtain ⟨I1, O2⟩ := u9
  subst hw
  have h := hsum_r h
  refine W.widen (k := 1) (n := 6) (Nat.le_of_ble_eq_true rfl) (Nat.le_of_ble_eq_true rfl) ?_
  exact W.iret hx hb hr (fun t9 ht hW => ⟨⟨r3, (I1, O2), rfl, (Option.some.inj h).symm, gEnd ht hP⟩, hS.F ht⟩) hS.2.2 dL_setLaps_5 hlk
def f_L_begin (I : Nat → Nat → Int32) (O : Nat → Nat → Option Nat) : Option (Int32 × (Nat → Nat → Int32) × (Nat → Nat → Option Nat)) :=
  (f_X7_begin I O).bind fun (eq4, I1, O2) => hsum eq4 (fun k9 => 
    if k9 = 2 then
      some ((-4 : Int32), I1, O2)
    else
    none) fun r3 =>
  some (r3, I1, O2)
set_option maxHeartbeats 8000000 in
set_option maxRecDepth 100000 in
theorem c_L_begin {l : Launch} (hlf : l.stackTraces = false) {dC : Nat → ClassId} {dI : Nat → Nat → Nat} {ca : Nat → ClassId} {b : Nat → Nat} {A : Nat → Prop} {N : Nat} (hN : 129 ≤ N) (hA : gAd A b N) (I : Nat → Nat → Int32) (O : Nat → Nat → Option Nat) (J : Nat → Nat → Int64) (res : Int32 × (Nat → Nat → Int32) × (Nat → Nat → Option Nat)) (h : f_L_begin I O = some res) : Met l yL_begin wsL_begin ({ frames := 7, cells := 1, slots := 6, locals := 110 } : Room) (va_Pc [.ref (b 0)] (gPre dC dI ca b A N I O J)) (va_Qi (fun (r : Int32) (u : (Nat → Nat → Int32) × (Nat → Nat → Option Nat)) => res = (r, u)) (fun (u : (Nat → Nat → Int32) × (Nat → Nat → Option Nat)) t => va_P (dC, dI) vwCl (hW N ca b u.1 u.2 J) t.heap) A) 1 6 A := by
  refine va_MetW (cc := cL_begin) (maxL := 2) (ret := (some .int)) (by decide) rfl ?_
  intro p e s m args below meth c s₁ B hml hv
  obtain ⟨rfl, hP, hK, hA2, hth⟩ := hv
  have hx := B.exec
  have hb := B.bytes
  have hr := B.returns
  have hlk := B.notSynchronized
  have X : gCx p s m ([.ref (b 0)] : List Value).toArray c RL cL_begin wsL_begin 2 dC dI ca b A N := ⟨hx, hb, hml, findClass_of_methodNamed B.named, atoms_spec (ws := wsL_begin) B.pre, hK, hA, hA2, hth⟩
  have htab : c.exceptionTable.toList = tableOf [(0, 4, 5, 17)] := vx_table (x := yL_begin) B (atoms_spec (ws := wsL_begin) B.pre _ (List.mem_of_getElem? (i := 0) rfl))
  have hS : va_S A s.heap s.heap [] := va_S.rf
  have hl := lv_entry ([.ref (b 0)] : List Value) (n := 2) (Nat.le_of_ble_eq_true rfl)
  rw [lg_entry_eq]
  generalize (lg_sl ([.ref (b 0)] : List Value) ++ List.replicate (2 - (lg_sl ([.ref (b 0)] : List Value)).length) Slot.unset).toArray = ls at hl ⊢
  have hl : lv_has ls 2 [(0, .ref (b 0))] := hl
  unfold f_L_begin at h
  refine lv_aload_n hx hb dL_begin_0 rfl (lv_at hl 0 rfl) ?_
  obtain ⟨q4, hcq4, h⟩ := hb_some h
  refine gxV_i (As := []) (rest := []) (BH := (fun (u : (Nat → Nat → Int32) × (Nat → Nat → Option Nat)) H => va_P (dC, dI) vwCl (hW N ca b u.1 u.2 J) H)) (BX := (fun (u : (Nat → Nat → Int32) × (Nat → Nat → Option Nat)) H => va_P (dC, dI) vwCl (hW N ca b u.1 u.2 J) H)) X hP hS (c_X7_begin hlf hN hA I O J q4 hcq4) (cwV 0 X.ts gL_begin_X7_begin rfl rfl rfl (by decide +kernel) ⟨Nat.le_of_ble_eq_true rfl, Nat.le_of_ble_eq_true rfl⟩) (gr7 X hP kc_0 (sk_in hN kc_0 (by decide))) rfl hl.1 rfl (Nat.le_of_ble_eq_true rfl) dL_begin_1 ⟨Nat.le_of_ble_eq_true rfl, Nat.le_of_ble_eq_true rfl⟩ (fun k9 u9 H locs ce9 q9 hw hP hS hce hcv hcl => ?_) (fun r3 u9 H locs hw hP hS => ?_)
  · obtain ⟨I1, O2⟩ := u9
    subst hw
    have h := hsum_l h
    by_cases hk2 : k9 = 2
    · have h := gif_t hk2 h
      subst hk2
      refine vx_catch X.ow [] ⟨0, 4, 5, 17⟩ [] htab (fun z hz => absurd hz List.not_mem_nil) (by decide) (by decide) (X.ts _ (List.mem_of_getElem? (i := 1) rfl)) (va_Nw.use rfl (X.th.2.1.1 2 (by decide))) hce hcv hcl ?_
      refine lv_astore_n (lv' := [(1, .ref q9), (0, .ref (b 0))]) hx hb dL_begin_5 rfl hl (by decide) rfl (fun ls hl => ?_)
      refine lv_bipush (v := (-4)) hx hb dL_begin_6 (by decide) ?_
      refine W.widen (k := 1) (n := 6) (Nat.le_of_ble_eq_true rfl) (Nat.le_of_ble_eq_true rfl) ?_
      exact W.iret hx hb hr (fun t9 ht hW => ⟨⟨(-4 : Int32), (I1, O2), rfl, (Option.some.inj h).symm, gEnd ht hP⟩, hS.F ht⟩) hS.2.2 dL_begin_8 hlk
    have h := gif_f hk2 h
    cases h
  obtain ⟨I1, O2⟩ := u9
  subst hw
  have h := hsum_r h
  refine W.widen (k := 1) (n := 6) (Nat.le_of_ble_eq_true rfl) (Nat.le_of_ble_eq_true rfl) ?_
  exact W.iret hx hb hr (fun t9 ht hW => ⟨⟨r3, (I1, O2), rfl, (Option.some.inj h).symm, gEnd ht hP⟩, hS.F ht⟩) hS.2.2 dL_begin_4 hlk
def f_L_pass (a1 : Int32) (I : Nat → Nat → Int32) (O : Nat → Nat → Option Nat) : Option (Int32 × (Nat → Nat → Int32) × (Nat → Nat → Option Nat)) :=
  (f_X7_pass a1 I O).bind fun (eq4, I1, O2) => hsum eq4 (fun k9 => 
    if k9 = 1 then
      some ((-3 : Int32), I1, O2)
    else
    if k9 = 2 then
      some ((-4 : Int32), I1, O2)
    else
    none) fun r3 =>
  some (r3, I1, O2)
set_option maxHeartbeats 8000000 in
set_option maxRecDepth 100000 in
theorem c_L_pass {l : Launch} (hlf : l.stackTraces = false) {dC : Nat → ClassId} {dI : Nat → Nat → Nat} {ca : Nat → ClassId} {b : Nat → Nat} {A : Nat → Prop} {N : Nat} (hN : 129 ≤ N) (hA : gAd A b N) (I : Nat → Nat → Int32) (O : Nat → Nat → Option Nat) (J : Nat → Nat → Int64) (a1 : Int32) (res : Int32 × (Nat → Nat → Int32) × (Nat → Nat → Option Nat)) (h : f_L_pass a1 I O = some res) : Met l yL_pass wsL_pass ({ frames := 8, cells := 2, slots := 12, locals := 132 } : Room) (va_Pc [.ref (b 0), .int a1] (gPre dC dI ca b A N I O J)) (va_Qi (fun (r : Int32) (u : (Nat → Nat → Int32) × (Nat → Nat → Option Nat)) => res = (r, u)) (fun (u : (Nat → Nat → Int32) × (Nat → Nat → Option Nat)) t => va_P (dC, dI) vwCl (hW N ca b u.1 u.2 J) t.heap) A) 2 12 A := by
  refine va_MetW (cc := cL_pass) (maxL := 3) (ret := (some .int)) (by decide) rfl ?_
  intro p e s m args below meth c s₁ B hml hv
  obtain ⟨rfl, hP, hK, hA2, hth⟩ := hv
  have hx := B.exec
  have hb := B.bytes
  have hr := B.returns
  have hlk := B.notSynchronized
  have X : gCx p s m ([.ref (b 0), .int a1] : List Value).toArray c RL cL_pass wsL_pass 3 dC dI ca b A N := ⟨hx, hb, hml, findClass_of_methodNamed B.named, atoms_spec (ws := wsL_pass) B.pre, hK, hA, hA2, hth⟩
  have htab : c.exceptionTable.toList = tableOf [(0, 5, 6, 15), (0, 5, 10, 17)] := vx_table (x := yL_pass) B (atoms_spec (ws := wsL_pass) B.pre _ (List.mem_of_getElem? (i := 0) rfl))
  have hS : va_S A s.heap s.heap [] := va_S.rf
  have hl := lv_entry ([.ref (b 0), .int a1] : List Value) (n := 3) (Nat.le_of_ble_eq_true rfl)
  rw [lg_entry_eq]
  generalize (lg_sl ([.ref (b 0), .int a1] : List Value) ++ List.replicate (3 - (lg_sl ([.ref (b 0), .int a1] : List Value)).length) Slot.unset).toArray = ls at hl ⊢
  have hl : lv_has ls 3 [(0, .ref (b 0)), (1, .int a1)] := hl
  unfold f_L_pass at h
  refine lv_aload_n hx hb dL_pass_0 rfl (lv_at hl 0 rfl) ?_
  refine lv_iload_n hx hb dL_pass_1 rfl (lv_at hl 1 rfl) ?_
  obtain ⟨q4, hcq4, h⟩ := hb_some h
  refine gxV_i (As := [.int a1]) (rest := []) (BH := (fun (u : (Nat → Nat → Int32) × (Nat → Nat → Option Nat)) H => va_P (dC, dI) vwCl (hW N ca b u.1 u.2 J) H)) (BX := (fun (u : (Nat → Nat → Int32) × (Nat → Nat → Option Nat)) H => va_P (dC, dI) vwCl (hW N ca b u.1 u.2 J) H)) X hP hS (c_X7_pass hlf hN hA I O J a1 q4 hcq4) (cwV 1 X.ts gL_pass_X7_pass rfl rfl rfl (by decide +kernel) ⟨Nat.le_of_ble_eq_true rfl, Nat.le_of_ble_eq_true rfl⟩) (gr7 X hP kc_0 (sk_in hN kc_0 (by decide))) rfl hl.1 rfl (Nat.le_of_ble_eq_true rfl) dL_pass_2 ⟨Nat.le_of_ble_eq_true rfl, Nat.le_of_ble_eq_true rfl⟩ (fun k9 u9 H locs ce9 q9 hw hP hS hce hcv hcl => ?_) (fun r3 u9 H locs hw hP hS => ?_)
  · obtain ⟨I1, O2⟩ := u9
    subst hw
    have h := hsum_l h
    by_cases hk1 : k9 = 1
    · have h := gif_t hk1 h
      subst hk1
      refine vx_catch X.ow [] ⟨0, 5, 6, 15⟩ [⟨0, 5, 10, 17⟩] htab (fun z hz => absurd hz List.not_mem_nil) (by decide) (by decide) (X.ts _ (List.mem_of_getElem? (i := 1) rfl)) (va_Nw.use rfl (X.th.2.1.1 1 (by decide))) hce hcv hcl ?_
      refine lv_astore_n (lv' := [(2, .ref q9), (0, .ref (b 0)), (1, .int a1)]) hx hb dL_pass_6 rfl hl (by decide) rfl (fun ls hl => ?_)
      refine lv_bipush (v := (-3)) hx hb dL_pass_7 (by decide) ?_
      refine W.widen (k := 2) (n := 12) (Nat.le_of_ble_eq_true rfl) (Nat.le_of_ble_eq_true rfl) ?_
      exact W.iret hx hb hr (fun t9 ht hW => ⟨⟨(-3 : Int32), (I1, O2), rfl, (Option.some.inj h).symm, gEnd ht hP⟩, hS.F ht⟩) hS.2.2 dL_pass_9 hlk
    have h := gif_f hk1 h
    by_cases hk2 : k9 = 2
    · have h := gif_t hk2 h
      subst hk2
      refine vx_catch X.ow [⟨0, 5, 6, 15⟩] ⟨0, 5, 10, 17⟩ [] htab (fun z hz => by
        rcases List.mem_cons.mp hz with rfl | hz
        · exact Or.inr ⟨by decide, _, X.ts _ (List.mem_of_getElem? (i := 1) rfl), X.th.2.1.2.2.2 2 1 (by decide) (by decide) (by decide)⟩
        · exact absurd hz List.not_mem_nil) (by decide) (by decide) (X.ts _ (List.mem_of_getElem? (i := 2) rfl)) (va_Nw.use rfl (X.th.2.1.1 2 (by decide))) hce hcv hcl ?_
      refine lv_astore_n (lv' := [(2, .ref q9), (0, .ref (b 0)), (1, .int a1)]) hx hb dL_pass_10 rfl hl (by decide) rfl (fun ls hl => ?_)
      refine lv_bipush (v := (-4)) hx hb dL_pass_11 (by decide) ?_
      refine W.widen (k := 2) (n := 12) (Nat.le_of_ble_eq_true rfl) (Nat.le_of_ble_eq_true rfl) ?_
      exact W.iret hx hb hr (fun t9 ht hW => ⟨⟨(-4 : Int32), (I1, O2), rfl, (Option.some.inj h).symm, gEnd ht hP⟩, hS.F ht⟩) hS.2.2 dL_pass_13 hlk
    have h := gif_f hk2 h
    cases h
  obtain ⟨I1, O2⟩ := u9
  subst hw
  have h := hsum_r h
  refine W.widen (k := 2) (n := 12) (Nat.le_of_ble_eq_true rfl) (Nat.le_of_ble_eq_true rfl) ?_
  exact W.iret hx hb hr (fun t9 ht hW => ⟨⟨r3, (I1, O2), rfl, (Option.some.inj h).symm, gEnd ht hP⟩, hS.F ht⟩) hS.2.2 dL_pass_5 hlk
def f_L_append (a1 : Int32) (I : Nat → Nat → Int32) : Option (Int32 × (Nat → Nat → Int32)) :=
  (f_X7_append a1 I).bind fun (eq3, I1) => hsum eq3 (fun k9 => 
    if k9 = 1 then
      some ((-3 : Int32), I1)
    else
    if k9 = 2 then
      some ((-4 : Int32), I1)
    else
    none) fun r2 =>
  some (r2, I1)
set_option maxHeartbeats 8000000 in
set_option maxRecDepth 100000 in
theorem c_L_append {l : Launch} (hlf : l.stackTraces = false) {dC : Nat → ClassId} {dI : Nat → Nat → Nat} {ca : Nat → ClassId} {b : Nat → Nat} {A : Nat → Prop} {N : Nat} (hN : 129 ≤ N) (hA : gAd A b N) (I : Nat → Nat → Int32) (O : Nat → Nat → Option Nat) (J : Nat → Nat → Int64) (a1 : Int32) (res : Int32 × (Nat → Nat → Int32)) (h : f_L_append a1 I = some res) : Met l yL_append wsL_append ({ frames := 7, cells := 1, slots := 6, locals := 111 } : Room) (va_Pc [.ref (b 0), .int a1] (gPre dC dI ca b A N I O J)) (va_Qi (fun (r : Int32) (u : Nat → Nat → Int32) => res = (r, u)) (fun (u : Nat → Nat → Int32) t => va_P (dC, dI) vwCl (hW N ca b u O J) t.heap) A) 1 6 A := by
  refine va_MetW (cc := cL_append) (maxL := 3) (ret := (some .int)) (by decide) rfl ?_
  intro p e s m args below meth c s₁ B hml hv
  obtain ⟨rfl, hP, hK, hA2, hth⟩ := hv
  have hx := B.exec
  have hb := B.bytes
  have hr := B.returns
  have hlk := B.notSynchronized
  have X : gCx p s m ([.ref (b 0), .int a1] : List Value).toArray c RL cL_append wsL_append 3 dC dI ca b A N := ⟨hx, hb, hml, findClass_of_methodNamed B.named, atoms_spec (ws := wsL_append) B.pre, hK, hA, hA2, hth⟩
  have htab : c.exceptionTable.toList = tableOf [(0, 5, 6, 15), (0, 5, 10, 17)] := vx_table (x := yL_append) B (atoms_spec (ws := wsL_append) B.pre _ (List.mem_of_getElem? (i := 0) rfl))
  have hS : va_S A s.heap s.heap [] := va_S.rf
  have hl := lv_entry ([.ref (b 0), .int a1] : List Value) (n := 3) (Nat.le_of_ble_eq_true rfl)
  rw [lg_entry_eq]
  generalize (lg_sl ([.ref (b 0), .int a1] : List Value) ++ List.replicate (3 - (lg_sl ([.ref (b 0), .int a1] : List Value)).length) Slot.unset).toArray = ls at hl ⊢
  have hl : lv_has ls 3 [(0, .ref (b 0)), (1, .int a1)] := hl
  unfold f_L_append at h
  refine lv_aload_n hx hb dL_append_0 rfl (lv_at hl 0 rfl) ?_
  refine lv_iload_n hx hb dL_append_1 rfl (lv_at hl 1 rfl) ?_
  obtain ⟨q3, hcq3, h⟩ := hb_some h
  refine gxV_i (As := [.int a1]) (rest := []) (BH := (fun (u : Nat → Nat → Int32) H => va_P (dC, dI) vwCl (hW N ca b u O J) H)) (BX := (fun (u : Nat → Nat → Int32) H => va_P (dC, dI) vwCl (hW N ca b u O J) H)) X hP hS (c_X7_append hlf hN hA I O J a1 q3 hcq3) (cwV 1 X.ts gL_append_X7_append rfl rfl rfl (by decide +kernel) ⟨Nat.le_of_ble_eq_true rfl, Nat.le_of_ble_eq_true rfl⟩) (gr7 X hP kc_0 (sk_in hN kc_0 (by decide))) rfl hl.1 rfl (Nat.le_of_ble_eq_true rfl) dL_append_2 ⟨Nat.le_of_ble_eq_true rfl, Nat.le_of_ble_eq_true rfl⟩ (fun k9 I1 H locs ce9 q9 hw hP hS hce hcv hcl => ?_) (fun r2 I1 H locs hw hP hS => ?_)
  · subst hw
    have h := hsum_l h
    by_cases hk1 : k9 = 1
    · have h := gif_t hk1 h
      subst hk1
      refine vx_catch X.ow [] ⟨0, 5, 6, 15⟩ [⟨0, 5, 10, 17⟩] htab (fun z hz => absurd hz List.not_mem_nil) (by decide) (by decide) (X.ts _ (List.mem_of_getElem? (i := 1) rfl)) (va_Nw.use rfl (X.th.2.1.1 1 (by decide))) hce hcv hcl ?_
      refine lv_astore_n (lv' := [(2, .ref q9), (0, .ref (b 0)), (1, .int a1)]) hx hb dL_append_6 rfl hl (by decide) rfl (fun ls hl => ?_)
      refine lv_bipush (v := (-3)) hx hb dL_append_7 (by decide) ?_
      refine W.widen (k := 1) (n := 6) (Nat.le_of_ble_eq_true rfl) (Nat.le_of_ble_eq_true rfl) ?_
      exact W.iret hx hb hr (fun t9 ht hW => ⟨⟨(-3 : Int32), I1, rfl, (Option.some.inj h).symm, gEnd ht hP⟩, hS.F ht⟩) hS.2.2 dL_append_9 hlk
    have h := gif_f hk1 h
    by_cases hk2 : k9 = 2
    · have h := gif_t hk2 h
      subst hk2
      refine vx_catch X.ow [⟨0, 5, 6, 15⟩] ⟨0, 5, 10, 17⟩ [] htab (fun z hz => by
        rcases List.mem_cons.mp hz with rfl | hz
        · exact Or.inr ⟨by decide, _, X.ts _ (List.mem_of_getElem? (i := 1) rfl), X.th.2.1.2.2.2 2 1 (by decide) (by decide) (by decide)⟩
        · exact absurd hz List.not_mem_nil) (by decide) (by decide) (X.ts _ (List.mem_of_getElem? (i := 2) rfl)) (va_Nw.use rfl (X.th.2.1.1 2 (by decide))) hce hcv hcl ?_
      refine lv_astore_n (lv' := [(2, .ref q9), (0, .ref (b 0)), (1, .int a1)]) hx hb dL_append_10 rfl hl (by decide) rfl (fun ls hl => ?_)
      refine lv_bipush (v := (-4)) hx hb dL_append_11 (by decide) ?_
      refine W.widen (k := 1) (n := 6) (Nat.le_of_ble_eq_true rfl) (Nat.le_of_ble_eq_true rfl) ?_
      exact W.iret hx hb hr (fun t9 ht hW => ⟨⟨(-4 : Int32), I1, rfl, (Option.some.inj h).symm, gEnd ht hP⟩, hS.F ht⟩) hS.2.2 dL_append_13 hlk
    have h := gif_f hk2 h
    cases h
  subst hw
  have h := hsum_r h
  refine W.widen (k := 1) (n := 6) (Nat.le_of_ble_eq_true rfl) (Nat.le_of_ble_eq_true rfl) ?_
  exact W.iret hx hb hr (fun t9 ht hW => ⟨⟨r2, I1, rfl, (Option.some.inj h).symm, gEnd ht hP⟩, hS.F ht⟩) hS.2.2 dL_append_5 hlk
def f_L_follow (I : Nat → Nat → Int32) (O : Nat → Nat → Option Nat) : Option (Int32 × (Nat → Nat → Int32) × (Nat → Nat → Option Nat)) :=
  (f_X7_follow I O).bind fun (eq4, I1, O2) => hsum eq4 (fun k9 => 
    if k9 = 1 then
      some ((-3 : Int32), I1, O2)
    else
    if k9 = 2 then
      some ((-4 : Int32), I1, O2)
    else
    none) fun r3 =>
  some (r3, I1, O2)
set_option maxHeartbeats 8000000 in
set_option maxRecDepth 100000 in
theorem c_L_follow {l : Launch} (hlf : l.stackTraces = false) {dC : Nat → ClassId} {dI : Nat → Nat → Nat} {ca : Nat → ClassId} {b : Nat → Nat} {A : Nat → Prop} {N : Nat} (hN : 129 ≤ N) (hA : gAd A b N) (I : Nat → Nat → Int32) (O : Nat → Nat → Option Nat) (J : Nat → Nat → Int64) (res : Int32 × (Nat → Nat → Int32) × (Nat → Nat → Option Nat)) (h : f_L_follow I O = some res) : Met l yL_follow wsL_follow ({ frames := 7, cells := 1, slots := 6, locals := 165 } : Room) (va_Pc [.ref (b 0)] (gPre dC dI ca b A N I O J)) (va_Qi (fun (r : Int32) (u : (Nat → Nat → Int32) × (Nat → Nat → Option Nat)) => res = (r, u)) (fun (u : (Nat → Nat → Int32) × (Nat → Nat → Option Nat)) t => va_P (dC, dI) vwCl (hW N ca b u.1 u.2 J) t.heap) A) 1 6 A := by
  refine va_MetW (cc := cL_follow) (maxL := 2) (ret := (some .int)) (by decide) rfl ?_
  intro p e s m args below meth c s₁ B hml hv
  obtain ⟨rfl, hP, hK, hA2, hth⟩ := hv
  have hx := B.exec
  have hb := B.bytes
  have hr := B.returns
  have hlk := B.notSynchronized
  have X : gCx p s m ([.ref (b 0)] : List Value).toArray c RL cL_follow wsL_follow 2 dC dI ca b A N := ⟨hx, hb, hml, findClass_of_methodNamed B.named, atoms_spec (ws := wsL_follow) B.pre, hK, hA, hA2, hth⟩
  have htab : c.exceptionTable.toList = tableOf [(0, 4, 5, 15), (0, 4, 9, 17)] := vx_table (x := yL_follow) B (atoms_spec (ws := wsL_follow) B.pre _ (List.mem_of_getElem? (i := 0) rfl))
  have hS : va_S A s.heap s.heap [] := va_S.rf
  have hl := lv_entry ([.ref (b 0)] : List Value) (n := 2) (Nat.le_of_ble_eq_true rfl)
  rw [lg_entry_eq]
  generalize (lg_sl ([.ref (b 0)] : List Value) ++ List.replicate (2 - (lg_sl ([.ref (b 0)] : List Value)).length) Slot.unset).toArray = ls at hl ⊢
  have hl : lv_has ls 2 [(0, .ref (b 0))] := hl
  unfold f_L_follow at h
  refine lv_aload_n hx hb dL_follow_0 rfl (lv_at hl 0 rfl) ?_
  obtain ⟨q4, hcq4, h⟩ := hb_some h
  refine gxV_i (As := []) (rest := []) (BH := (fun (u : (Nat → Nat → Int32) × (Nat → Nat → Option Nat)) H => va_P (dC, dI) vwCl (hW N ca b u.1 u.2 J) H)) (BX := (fun (u : (Nat → Nat → Int32) × (Nat → Nat → Option Nat)) H => va_P (dC, dI) vwCl (hW N ca b u.1 u.2 J) H)) X hP hS (c_X7_follow hlf hN hA I O J q4 hcq4) (cwV 0 X.ts gL_follow_X7_follow rfl rfl rfl (by decide +kernel) ⟨Nat.le_of_ble_eq_true rfl, Nat.le_of_ble_eq_true rfl⟩) (gr7 X hP kc_0 (sk_in hN kc_0 (by decide))) rfl hl.1 rfl (Nat.le_of_ble_eq_true rfl) dL_follow_1 ⟨Nat.le_of_ble_eq_true rfl, Nat.le_of_ble_eq_true rfl⟩ (fun k9 u9 H locs ce9 q9 hw hP hS hce hcv hcl => ?_) (fun r3 u9 H locs hw hP hS => ?_)
  · obtain ⟨I1, O2⟩ := u9
    subst hw
    have h := hsum_l h
    by_cases hk1 : k9 = 1
    · have h := gif_t hk1 h
      subst hk1
      refine vx_catch X.ow [] ⟨0, 4, 5, 15⟩ [⟨0, 4, 9, 17⟩] htab (fun z hz => absurd hz List.not_mem_nil) (by decide) (by decide) (X.ts _ (List.mem_of_getElem? (i := 1) rfl)) (va_Nw.use rfl (X.th.2.1.1 1 (by decide))) hce hcv hcl ?_
      refine lv_astore_n (lv' := [(1, .ref q9), (0, .ref (b 0))]) hx hb dL_follow_5 rfl hl (by decide) rfl (fun ls hl => ?_)
      refine lv_bipush (v := (-3)) hx hb dL_follow_6 (by decide) ?_
      refine W.widen (k := 1) (n := 6) (Nat.le_of_ble_eq_true rfl) (Nat.le_of_ble_eq_true rfl) ?_
      exact W.iret hx hb hr (fun t9 ht hW => ⟨⟨(-3 : Int32), (I1, O2), rfl, (Option.some.inj h).symm, gEnd ht hP⟩, hS.F ht⟩) hS.2.2 dL_follow_8 hlk
    have h := gif_f hk1 h
    by_cases hk2 : k9 = 2
    · have h := gif_t hk2 h
      subst hk2
      refine vx_catch X.ow [⟨0, 4, 5, 15⟩] ⟨0, 4, 9, 17⟩ [] htab (fun z hz => by
        rcases List.mem_cons.mp hz with rfl | hz
        · exact Or.inr ⟨by decide, _, X.ts _ (List.mem_of_getElem? (i := 1) rfl), X.th.2.1.2.2.2 2 1 (by decide) (by decide) (by decide)⟩
        · exact absurd hz List.not_mem_nil) (by decide) (by decide) (X.ts _ (List.mem_of_getElem? (i := 2) rfl)) (va_Nw.use rfl (X.th.2.1.1 2 (by decide))) hce hcv hcl ?_
      refine lv_astore_n (lv' := [(1, .ref q9), (0, .ref (b 0))]) hx hb dL_follow_9 rfl hl (by decide) rfl (fun ls hl => ?_)
      refine lv_bipush (v := (-4)) hx hb dL_follow_10 (by decide) ?_
      refine W.widen (k := 1) (n := 6) (Nat.le_of_ble_eq_true rfl) (Nat.le_of_ble_eq_true rfl) ?_
      exact W.iret hx hb hr (fun t9 ht hW => ⟨⟨(-4 : Int32), (I1, O2), rfl, (Option.some.inj h).symm, gEnd ht hP⟩, hS.F ht⟩) hS.2.2 dL_follow_12 hlk
    have h := gif_f hk2 h
    cases h
  obtain ⟨I1, O2⟩ := u9
  subst hw
  have h := hsum_r h
  refine W.widen (k := 1) (n := 6) (Nat.le_of_ble_eq_true rfl) (Nat.le_of_ble_eq_true rfl) ?_
  exact W.iret hx hb hr (fun t9 ht hW => ⟨⟨r3, (I1, O2), rfl, (Option.some.inj h).symm, gEnd ht hP⟩, hS.F ht⟩) hS.2.2 dL_follow_4 hlk
def f_L_keep (a1 : Int32) (I : Nat → Nat → Int32) : Option (Int32 × (Nat → Nat → Int32)) :=
  (f_X7_keep a1 I).bind fun (eq2, I1) => hsum eq2 (fun k9 => 
    if k9 = 1 then
      some ((-3 : Int32), I1)
    else
    none) fun _ =>
  some ((1 : Int32), I1)
set_option maxHeartbeats 8000000 in
set_option maxRecDepth 100000 in
theorem c_L_keep {l : Launch} (hlf : l.stackTraces = false) {dC : Nat → ClassId} {dI : Nat → Nat → Nat} {ca : Nat → ClassId} {b : Nat → Nat} {A : Nat → Prop} {N : Nat} (hN : 129 ≤ N) (hA : gAd A b N) (I : Nat → Nat → Int32) (O : Nat → Nat → Option Nat) (J : Nat → Nat → Int64) (a1 : Int32) (res : Int32 × (Nat → Nat → Int32)) (h : f_L_keep a1 I = some res) : Met l yL_keep wsL_keep ({ frames := 8, cells := 1, slots := 6, locals := 131 } : Room) (va_Pc [.ref (b 0), .int a1] (gPre dC dI ca b A N I O J)) (va_Qi (fun (r : Int32) (u : Nat → Nat → Int32) => res = (r, u)) (fun (u : Nat → Nat → Int32) t => va_P (dC, dI) vwCl (hW N ca b u O J) t.heap) A) 1 6 A := by
  refine va_MetW (cc := cL_keep) (maxL := 3) (ret := (some .int)) (by decide) rfl ?_
  intro p e s m args below meth c s₁ B hml hv
  obtain ⟨rfl, hP, hK, hA2, hth⟩ := hv
  have hx := B.exec
  have hb := B.bytes
  have hr := B.returns
  have hlk := B.notSynchronized
  have X : gCx p s m ([.ref (b 0), .int a1] : List Value).toArray c RL cL_keep wsL_keep 3 dC dI ca b A N := ⟨hx, hb, hml, findClass_of_methodNamed B.named, atoms_spec (ws := wsL_keep) B.pre, hK, hA, hA2, hth⟩
  have htab : c.exceptionTable.toList = tableOf [(0, 6, 7, 15)] := vx_table (x := yL_keep) B (atoms_spec (ws := wsL_keep) B.pre _ (List.mem_of_getElem? (i := 0) rfl))
  have hS : va_S A s.heap s.heap [] := va_S.rf
  have hl := lv_entry ([.ref (b 0), .int a1] : List Value) (n := 3) (Nat.le_of_ble_eq_true rfl)
  rw [lg_entry_eq]
  generalize (lg_sl ([.ref (b 0), .int a1] : List Value) ++ List.replicate (3 - (lg_sl ([.ref (b 0), .int a1] : List Value)).length) Slot.unset).toArray = ls at hl ⊢
  have hl : lv_has ls 3 [(0, .ref (b 0)), (1, .int a1)] := hl
  unfold f_L_keep at h
  refine lv_aload_n hx hb dL_keep_0 rfl (lv_at hl 0 rfl) ?_
  refine lv_iload_n hx hb dL_keep_1 rfl (lv_at hl 1 rfl) ?_
  obtain ⟨q2, hcq2, h⟩ := hb_some h
  refine gxV_v (As := [.int a1]) (rest := []) (BH := (fun (u : Nat → Nat → Int32) H => va_P (dC, dI) vwCl (hW N ca b u O J) H)) (BX := (fun (u : Nat → Nat → Int32) H => va_P (dC, dI) vwCl (hW N ca b u O J) H)) X hP hS (c_X7_keep hlf hN hA I O J a1 q2 hcq2) (cwV 1 X.ts gL_keep_X7_keep rfl rfl rfl (by decide +kernel) ⟨Nat.le_of_ble_eq_true rfl, Nat.le_of_ble_eq_true rfl⟩) (gr7 X hP kc_0 (sk_in hN kc_0 (by decide))) rfl hl.1 rfl (Nat.le_of_ble_eq_true rfl) dL_keep_2 ⟨Nat.le_of_ble_eq_true rfl, Nat.le_of_ble_eq_true rfl⟩ (fun k9 I1 H locs ce9 q9 hw hP hS hce hcv hcl => ?_) (fun I1 H locs hw hP hS => ?_)
  · subst hw
    have h := hsum_l h
    by_cases hk1 : k9 = 1
    · have h := gif_t hk1 h
      subst hk1
      refine vx_catch X.ow [] ⟨0, 6, 7, 15⟩ [] htab (fun z hz => absurd hz List.not_mem_nil) (by decide) (by decide) (X.ts _ (List.mem_of_getElem? (i := 1) rfl)) (va_Nw.use rfl (X.th.2.1.1 1 (by decide))) hce hcv hcl ?_
      refine lv_astore_n (lv' := [(2, .ref q9), (0, .ref (b 0)), (1, .int a1)]) hx hb dL_keep_7 rfl hl (by decide) rfl (fun ls hl => ?_)
      refine lv_bipush (v := (-3)) hx hb dL_keep_8 (by decide) ?_
      refine W.widen (k := 1) (n := 6) (Nat.le_of_ble_eq_true rfl) (Nat.le_of_ble_eq_true rfl) ?_
      exact W.iret hx hb hr (fun t9 ht hW => ⟨⟨(-3 : Int32), I1, rfl, (Option.some.inj h).symm, gEnd ht hP⟩, hS.F ht⟩) hS.2.2 dL_keep_10 hlk
    have h := gif_f hk1 h
    cases h
  subst hw
  have h := hsum_r h
  refine lv_iconst (v := 1) hx hb dL_keep_5 (by decide) ?_
  refine W.widen (k := 1) (n := 6) (Nat.le_of_ble_eq_true rfl) (Nat.le_of_ble_eq_true rfl) ?_
  exact W.iret hx hb hr (fun t9 ht hW => ⟨⟨(1 : Int32), I1, rfl, (Option.some.inj h).symm, gEnd ht hP⟩, hS.F ht⟩) hS.2.2 dL_keep_6 hlk
def f_L_goBack (a1 : Int32) (I : Nat → Nat → Int32) (O : Nat → Nat → Option Nat) : Option (Int32 × (Nat → Nat → Int32) × (Nat → Nat → Option Nat)) :=
  (f_X7_goBack a1 I O).bind fun (eq3, I1, O2) => hsum eq3 (fun k9 => 
    if k9 = 1 then
      some ((-3 : Int32), I1, O2)
    else
    if k9 = 2 then
      some ((-4 : Int32), I1, O2)
    else
    none) fun _ =>
  some ((1 : Int32), I1, O2)
set_option maxHeartbeats 8000000 in
set_option maxRecDepth 100000 in
theorem c_L_goBack {l : Launch} (hlf : l.stackTraces = false) {dC : Nat → ClassId} {dI : Nat → Nat → Nat} {ca : Nat → ClassId} {b : Nat → Nat} {A : Nat → Prop} {N : Nat} (hN : 129 ≤ N) (hA : gAd A b N) (I : Nat → Nat → Int32) (O : Nat → Nat → Option Nat) (J : Nat → Nat → Int64) (a1 : Int32) (res : Int32 × (Nat → Nat → Int32) × (Nat → Nat → Option Nat)) (h : f_L_goBack a1 I O = some res) : Met l yL_goBack wsL_goBack ({ frames := 8, cells := 2, slots := 12, locals := 132 } : Room) (va_Pc [.ref (b 0), .int a1] (gPre dC dI ca b A N I O J)) (va_Qi (fun (r : Int32) (u : (Nat → Nat → Int32) × (Nat → Nat → Option Nat)) => res = (r, u)) (fun (u : (Nat → Nat → Int32) × (Nat → Nat → Option Nat)) t => va_P (dC, dI) vwCl (hW N ca b u.1 u.2 J) t.heap) A) 2 12 A := by
  refine va_MetW (cc := cL_goBack) (maxL := 3) (ret := (some .int)) (by decide) rfl ?_
  intro p e s m args below meth c s₁ B hml hv
  obtain ⟨rfl, hP, hK, hA2, hth⟩ := hv
  have hx := B.exec
  have hb := B.bytes
  have hr := B.returns
  have hlk := B.notSynchronized
  have X : gCx p s m ([.ref (b 0), .int a1] : List Value).toArray c RL cL_goBack wsL_goBack 3 dC dI ca b A N := ⟨hx, hb, hml, findClass_of_methodNamed B.named, atoms_spec (ws := wsL_goBack) B.pre, hK, hA, hA2, hth⟩
  have htab : c.exceptionTable.toList = tableOf [(0, 6, 7, 15), (0, 6, 11, 17)] := vx_table (x := yL_goBack) B (atoms_spec (ws := wsL_goBack) B.pre _ (List.mem_of_getElem? (i := 0) rfl))
  have hS : va_S A s.heap s.heap [] := va_S.rf
  have hl := lv_entry ([.ref (b 0), .int a1] : List Value) (n := 3) (Nat.le_of_ble_eq_true rfl)
  rw [lg_entry_eq]
  generalize (lg_sl ([.ref (b 0), .int a1] : List Value) ++ List.replicate (3 - (lg_sl ([.ref (b 0), .int a1] : List Value)).length) Slot.unset).toArray = ls at hl ⊢
  have hl : lv_has ls 3 [(0, .ref (b 0)), (1, .int a1)] := hl
  unfold f_L_goBack at h
  refine lv_aload_n hx hb dL_goBack_0 rfl (lv_at hl 0 rfl) ?_
  refine lv_iload_n hx hb dL_goBack_1 rfl (lv_at hl 1 rfl) ?_
  obtain ⟨q3, hcq3, h⟩ := hb_some h
  refine gxV_v (As := [.int a1]) (rest := []) (BH := (fun (u : (Nat → Nat → Int32) × (Nat → Nat → Option Nat)) H => va_P (dC, dI) vwCl (hW N ca b u.1 u.2 J) H)) (BX := (fun (u : (Nat → Nat → Int32) × (Nat → Nat → Option Nat)) H => va_P (dC, dI) vwCl (hW N ca b u.1 u.2 J) H)) X hP hS (c_X7_goBack hlf hN hA I O J a1 q3 hcq3) (cwV 1 X.ts gL_goBack_X7_goBack rfl rfl rfl (by decide +kernel) ⟨Nat.le_of_ble_eq_true rfl, Nat.le_of_ble_eq_true rfl⟩) (gr7 X hP kc_0 (sk_in hN kc_0 (by decide))) rfl hl.1 rfl (Nat.le_of_ble_eq_true rfl) dL_goBack_2 ⟨Nat.le_of_ble_eq_true rfl, Nat.le_of_ble_eq_true rfl⟩ (fun k9 u9 H locs ce9 q9 hw hP hS hce hcv hcl => ?_) (fun u9 H locs hw hP hS => ?_)
  · obtain ⟨I1, O2⟩ := u9
    subst hw
    have h := hsum_l h
    by_cases hk1 : k9 = 1
    · have h := gif_t hk1 h
      subst hk1
      refine vx_catch X.ow [] ⟨0, 6, 7, 15⟩ [⟨0, 6, 11, 17⟩] htab (fun z hz => absurd hz List.not_mem_nil) (by decide) (by decide) (X.ts _ (List.mem_of_getElem? (i := 1) rfl)) (va_Nw.use rfl (X.th.2.1.1 1 (by decide))) hce hcv hcl ?_
      refine lv_astore_n (lv' := [(2, .ref q9), (0, .ref (b 0)), (1, .int a1)]) hx hb dL_goBack_7 rfl hl (by decide) rfl (fun ls hl => ?_)
      refine lv_bipush (v := (-3)) hx hb dL_goBack_8 (by decide) ?_
      refine W.widen (k := 2) (n := 12) (Nat.le_of_ble_eq_true rfl) (Nat.le_of_ble_eq_true rfl) ?_
      exact W.iret hx hb hr (fun t9 ht hW => ⟨⟨(-3 : Int32), (I1, O2), rfl, (Option.some.inj h).symm, gEnd ht hP⟩, hS.F ht⟩) hS.2.2 dL_goBack_10 hlk
    have h := gif_f hk1 h
    by_cases hk2 : k9 = 2
    · have h := gif_t hk2 h
      subst hk2
      refine vx_catch X.ow [⟨0, 6, 7, 15⟩] ⟨0, 6, 11, 17⟩ [] htab (fun z hz => by
        rcases List.mem_cons.mp hz with rfl | hz
        · exact Or.inr ⟨by decide, _, X.ts _ (List.mem_of_getElem? (i := 1) rfl), X.th.2.1.2.2.2 2 1 (by decide) (by decide) (by decide)⟩
        · exact absurd hz List.not_mem_nil) (by decide) (by decide) (X.ts _ (List.mem_of_getElem? (i := 2) rfl)) (va_Nw.use rfl (X.th.2.1.1 2 (by decide))) hce hcv hcl ?_
      refine lv_astore_n (lv' := [(2, .ref q9), (0, .ref (b 0)), (1, .int a1)]) hx hb dL_goBack_11 rfl hl (by decide) rfl (fun ls hl => ?_)
      refine lv_bipush (v := (-4)) hx hb dL_goBack_12 (by decide) ?_
      refine W.widen (k := 2) (n := 12) (Nat.le_of_ble_eq_true rfl) (Nat.le_of_ble_eq_true rfl) ?_
      exact W.iret hx hb hr (fun t9 ht hW => ⟨⟨(-4 : Int32), (I1, O2), rfl, (Option.some.inj h).symm, gEnd ht hP⟩, hS.F ht⟩) hS.2.2 dL_goBack_14 hlk
    have h := gif_f hk2 h
    cases h
  obtain ⟨I1, O2⟩ := u9
  subst hw
  have h := hsum_r h
  refine lv_iconst (v := 1) hx hb dL_goBack_5 (by decide) ?_
  refine W.widen (k := 2) (n := 12) (Nat.le_of_ble_eq_true rfl) (Nat.le_of_ble_eq_true rfl) ?_
  exact W.iret hx hb hr (fun t9 ht hW => ⟨⟨(1 : Int32), (I1, O2), rfl, (Option.some.inj h).symm, gEnd ht hP⟩, hS.F ht⟩) hS.2.2 dL_goBack_6 hlk
def f_L_undo (I : Nat → Nat → Int32) (O : Nat → Nat → Option Nat) : Option (Int32 × (Nat → Nat → Int32)) :=
  (f_X7_undo I O).bind fun (eq2, I1) => hsum eq2 (fun k9 => 
    if k9 = 2 then
      some ((-4 : Int32), I1)
    else
    none) fun _ =>
  some ((1 : Int32), I1)
set_option maxHeartbeats 8000000 in
set_option maxRecDepth 100000 in
theorem c_L_undo {l : Launch} (hlf : l.stackTraces = false) {dC : Nat → ClassId} {dI : Nat → Nat → Nat} {ca : Nat → ClassId} {b : Nat → Nat} {A : Nat → Prop} {N : Nat} (hN : 129 ≤ N) (hA : gAd A b N) (I : Nat → Nat → Int32) (O : Nat → Nat → Option Nat) (J : Nat → Nat → Int64) (res : Int32 × (Nat → Nat → Int32)) (h : f_L_undo I O = some res) : Met l yL_undo wsL_undo ({ frames := 7, cells := 1, slots := 6, locals := 111 } : Room) (va_Pc [.ref (b 0)] (gPre dC dI ca b A N I O J)) (va_Qi (fun (r : Int32) (u : Nat → Nat → Int32) => res = (r, u)) (fun (u : Nat → Nat → Int32) t => va_P (dC, dI) vwCl (hW N ca b u O J) t.heap) A) 1 6 A := by
  refine va_MetW (cc := cL_undo) (maxL := 2) (ret := (some .int)) (by decide) rfl ?_
  intro p e s m args below meth c s₁ B hml hv
  obtain ⟨rfl, hP, hK, hA2, hth⟩ := hv
  have hx := B.exec
  have hb := B.bytes
  have hr := B.returns
  have hlk := B.notSynchronized
  have X : gCx p s m ([.ref (b 0)] : List Value).toArray c RL cL_undo wsL_undo 2 dC dI ca b A N := ⟨hx, hb, hml, findClass_of_methodNamed B.named, atoms_spec (ws := wsL_undo) B.pre, hK, hA, hA2, hth⟩
  have htab : c.exceptionTable.toList = tableOf [(0, 5, 6, 17)] := vx_table (x := yL_undo) B (atoms_spec (ws := wsL_undo) B.pre _ (List.mem_of_getElem? (i := 0) rfl))
  have hS : va_S A s.heap s.heap [] := va_S.rf
  have hl := lv_entry ([.ref (b 0)] : List Value) (n := 2) (Nat.le_of_ble_eq_true rfl)
  rw [lg_entry_eq]
  generalize (lg_sl ([.ref (b 0)] : List Value) ++ List.replicate (2 - (lg_sl ([.ref (b 0)] : List Value)).length) Slot.unset).toArray = ls at hl ⊢
  have hl : lv_has ls 2 [(0, .ref (b 0))] := hl
  unfold f_L_undo at h
  refine lv_aload_n hx hb dL_undo_0 rfl (lv_at hl 0 rfl) ?_
  obtain ⟨q2, hcq2, h⟩ := hb_some h
  refine gxV_v (As := []) (rest := []) (BH := (fun (u : Nat → Nat → Int32) H => va_P (dC, dI) vwCl (hW N ca b u O J) H)) (BX := (fun (u : Nat → Nat → Int32) H => va_P (dC, dI) vwCl (hW N ca b u O J) H)) X hP hS (c_X7_undo hlf hN hA I O J q2 hcq2) (cwV 0 X.ts gL_undo_X7_undo rfl rfl rfl (by decide +kernel) ⟨Nat.le_of_ble_eq_true rfl, Nat.le_of_ble_eq_true rfl⟩) (gr7 X hP kc_0 (sk_in hN kc_0 (by decide))) rfl hl.1 rfl (Nat.le_of_ble_eq_true rfl) dL_undo_1 ⟨Nat.le_of_ble_eq_true rfl, Nat.le_of_ble_eq_true rfl⟩ (fun k9 I1 H locs ce9 q9 hw hP hS hce hcv hcl => ?_) (fun I1 H locs hw hP hS => ?_)
  · subst hw
    have h := hsum_l h
    by_cases hk2 : k9 = 2
    · have h := gif_t hk2 h
      subst hk2
      refine vx_catch X.ow [] ⟨0, 5, 6, 17⟩ [] htab (fun z hz => absurd hz List.not_mem_nil) (by decide) (by decide) (X.ts _ (List.mem_of_getElem? (i := 1) rfl)) (va_Nw.use rfl (X.th.2.1.1 2 (by decide))) hce hcv hcl ?_
      refine lv_astore_n (lv' := [(1, .ref q9), (0, .ref (b 0))]) hx hb dL_undo_6 rfl hl (by decide) rfl (fun ls hl => ?_)
      refine lv_bipush (v := (-4)) hx hb dL_undo_7 (by decide) ?_
      refine W.widen (k := 1) (n := 6) (Nat.le_of_ble_eq_true rfl) (Nat.le_of_ble_eq_true rfl) ?_
      exact W.iret hx hb hr (fun t9 ht hW => ⟨⟨(-4 : Int32), I1, rfl, (Option.some.inj h).symm, gEnd ht hP⟩, hS.F ht⟩) hS.2.2 dL_undo_9 hlk
    have h := gif_f hk2 h
    cases h
  subst hw
  have h := hsum_r h
  refine lv_iconst (v := 1) hx hb dL_undo_4 (by decide) ?_
  refine W.widen (k := 1) (n := 6) (Nat.le_of_ble_eq_true rfl) (Nat.le_of_ble_eq_true rfl) ?_
  exact W.iret hx hb hr (fun t9 ht hW => ⟨⟨(1 : Int32), I1, rfl, (Option.some.inj h).symm, gEnd ht hP⟩, hS.F ht⟩) hS.2.2 dL_undo_5 hlk
def f_L_flown (a1 : Int32) (I : Nat → Nat → Int32) : Option (Int32) :=
  (f_X7_flown a1 I).bind fun eq2 => hsum eq2 (fun k9 => 
    if k9 = 0 then
      some (-2 : Int32)
    else
    none) fun r1 =>
  some r1
set_option maxHeartbeats 8000000 in
set_option maxRecDepth 100000 in
theorem c_L_flown {l : Launch} (hlf : l.stackTraces = false) {dC : Nat → ClassId} {dI : Nat → Nat → Nat} {ca : Nat → ClassId} {b : Nat → Nat} {A : Nat → Prop} {N : Nat} (hN : 129 ≤ N) (hA : gAd A b N) (I : Nat → Nat → Int32) (O : Nat → Nat → Option Nat) (J : Nat → Nat → Int64) (a1 : Int32) (res : Int32) (h : f_L_flown a1 I = some res) : Met l yL_flown wsL_flown ({ frames := 8, cells := 1, slots := 6, locals := 133 } : Room) (va_Pc [.ref (b 0), .int a1] (gPre dC dI ca b A N I O J)) (va_Qi (fun (r : Int32) (u : Unit) => res = r) (fun (u : Unit) t => va_P (dC, dI) vwCl (hW N ca b I O J) t.heap) A) 1 6 A := by
  refine va_MetW (cc := cL_flown) (maxL := 3) (ret := (some .int)) (by decide) rfl ?_
  intro p e s m args below meth c s₁ B hml hv
  obtain ⟨rfl, hP, hK, hA2, hth⟩ := hv
  have hx := B.exec
  have hb := B.bytes
  have hr := B.returns
  have hlk := B.notSynchronized
  have X : gCx p s m ([.ref (b 0), .int a1] : List Value).toArray c RL cL_flown wsL_flown 3 dC dI ca b A N := ⟨hx, hb, hml, findClass_of_methodNamed B.named, atoms_spec (ws := wsL_flown) B.pre, hK, hA, hA2, hth⟩
  have htab : c.exceptionTable.toList = tableOf [(0, 5, 6, 23)] := vx_table (x := yL_flown) B (atoms_spec (ws := wsL_flown) B.pre _ (List.mem_of_getElem? (i := 0) rfl))
  have hS : va_S A s.heap s.heap [] := va_S.rf
  have hl := lv_entry ([.ref (b 0), .int a1] : List Value) (n := 3) (Nat.le_of_ble_eq_true rfl)
  rw [lg_entry_eq]
  generalize (lg_sl ([.ref (b 0), .int a1] : List Value) ++ List.replicate (3 - (lg_sl ([.ref (b 0), .int a1] : List Value)).length) Slot.unset).toArray = ls at hl ⊢
  have hl : lv_has ls 3 [(0, .ref (b 0)), (1, .int a1)] := hl
  unfold f_L_flown at h
  refine lv_aload_n hx hb dL_flown_0 rfl (lv_at hl 0 rfl) ?_
  refine lv_iload_n hx hb dL_flown_1 rfl (lv_at hl 1 rfl) ?_
  obtain ⟨q2, hcq2, h⟩ := hb_some h
  refine gxV_i (As := [.int a1]) (rest := []) (BH := (fun (u : Unit) H => va_P (dC, dI) vwCl (hW N ca b I O J) H)) (BX := (fun (u : Unit) H => va_P (dC, dI) vwCl (hW N ca b I O J) H)) X hP hS (c_X7_flown hlf hN hA I O J a1 q2 hcq2) (cwV 1 X.ts gL_flown_X7_flown rfl rfl rfl (by decide +kernel) ⟨Nat.le_of_ble_eq_true rfl, Nat.le_of_ble_eq_true rfl⟩) (gr7 X hP kc_0 (sk_in hN kc_0 (by decide))) rfl hl.1 rfl (Nat.le_of_ble_eq_true rfl) dL_flown_2 ⟨Nat.le_of_ble_eq_true rfl, Nat.le_of_ble_eq_true rfl⟩ (fun k9 u9 H locs ce9 q9 hw hP hS hce hcv hcl => ?_) (fun r1 u9 H locs hw hP hS => ?_)
  · subst hw
    have h := hsum_l h
    by_cases hk0 : k9 = 0
    · have h := gif_t hk0 h
      subst hk0
      refine vx_catch X.ow [] ⟨0, 5, 6, 23⟩ [] htab (fun z hz => absurd hz List.not_mem_nil) (by decide) (by decide) (X.ts _ (List.mem_of_getElem? (i := 1) rfl)) (va_Nw.use rfl (X.th.2.1.1 0 (by decide))) hce hcv hcl ?_
      refine lv_astore_n (lv' := [(2, .ref q9), (0, .ref (b 0)), (1, .int a1)]) hx hb dL_flown_6 rfl hl (by decide) rfl (fun ls hl => ?_)
      refine lv_bipush (v := (-2)) hx hb dL_flown_7 (by decide) ?_
      refine W.widen (k := 1) (n := 6) (Nat.le_of_ble_eq_true rfl) (Nat.le_of_ble_eq_true rfl) ?_
      exact W.iret hx hb hr (fun t9 ht hW => ⟨⟨(-2 : Int32), (), rfl, (Option.some.inj h).symm, gEnd ht hP⟩, hS.F ht⟩) hS.2.2 dL_flown_9 hlk
    have h := gif_f hk0 h
    cases h
  subst hw
  have h := hsum_r h
  refine W.widen (k := 1) (n := 6) (Nat.le_of_ble_eq_true rfl) (Nat.le_of_ble_eq_true rfl) ?_
  exact W.iret hx hb hr (fun t9 ht hW => ⟨⟨r1, (), rfl, (Option.some.inj h).symm, gEnd ht hP⟩, hS.F ht⟩) hS.2.2 dL_flown_5 hlk
def f_L_lapsOf (a1 : Int32) (I : Nat → Nat → Int32) : Option (Int32) :=
  (f_X7_lapsOf a1 I).bind fun eq2 => hsum eq2 (fun k9 => 
    if k9 = 0 then
      some (-2 : Int32)
    else
    none) fun r1 =>
  some r1
set_option maxHeartbeats 8000000 in
set_option maxRecDepth 100000 in
theorem c_L_lapsOf {l : Launch} (hlf : l.stackTraces = false) {dC : Nat → ClassId} {dI : Nat → Nat → Nat} {ca : Nat → ClassId} {b : Nat → Nat} {A : Nat → Prop} {N : Nat} (hN : 129 ≤ N) (hA : gAd A b N) (I : Nat → Nat → Int32) (O : Nat → Nat → Option Nat) (J : Nat → Nat → Int64) (a1 : Int32) (res : Int32) (h : f_L_lapsOf a1 I = some res) : Met l yL_lapsOf wsL_lapsOf ({ frames := 8, cells := 1, slots := 6, locals := 133 } : Room) (va_Pc [.ref (b 0), .int a1] (gPre dC dI ca b A N I O J)) (va_Qi (fun (r : Int32) (u : Unit) => res = r) (fun (u : Unit) t => va_P (dC, dI) vwCl (hW N ca b I O J) t.heap) A) 1 6 A := by
  refine va_MetW (cc := cL_lapsOf) (maxL := 3) (ret := (some .int)) (by decide) rfl ?_
  intro p e s m args below meth c s₁ B hml hv
  obtain ⟨rfl, hP, hK, hA2, hth⟩ := hv
  have hx := B.exec
  have hb := B.bytes
  have hr := B.returns
  have hlk := B.notSynchronized
  have X : gCx p s m ([.ref (b 0), .int a1] : List Value).toArray c RL cL_lapsOf wsL_lapsOf 3 dC dI ca b A N := ⟨hx, hb, hml, findClass_of_methodNamed B.named, atoms_spec (ws := wsL_lapsOf) B.pre, hK, hA, hA2, hth⟩
  have htab : c.exceptionTable.toList = tableOf [(0, 5, 6, 23)] := vx_table (x := yL_lapsOf) B (atoms_spec (ws := wsL_lapsOf) B.pre _ (List.mem_of_getElem? (i := 0) rfl))
  have hS : va_S A s.heap s.heap [] := va_S.rf
  have hl := lv_entry ([.ref (b 0), .int a1] : List Value) (n := 3) (Nat.le_of_ble_eq_true rfl)
  rw [lg_entry_eq]
  generalize (lg_sl ([.ref (b 0), .int a1] : List Value) ++ List.replicate (3 - (lg_sl ([.ref (b 0), .int a1] : List Value)).length) Slot.unset).toArray = ls at hl ⊢
  have hl : lv_has ls 3 [(0, .ref (b 0)), (1, .int a1)] := hl
  unfold f_L_lapsOf at h
  refine lv_aload_n hx hb dL_lapsOf_0 rfl (lv_at hl 0 rfl) ?_
  refine lv_iload_n hx hb dL_lapsOf_1 rfl (lv_at hl 1 rfl) ?_
  obtain ⟨q2, hcq2, h⟩ := hb_some h
  refine gxV_i (As := [.int a1]) (rest := []) (BH := (fun (u : Unit) H => va_P (dC, dI) vwCl (hW N ca b I O J) H)) (BX := (fun (u : Unit) H => va_P (dC, dI) vwCl (hW N ca b I O J) H)) X hP hS (c_X7_lapsOf hlf hN hA I O J a1 q2 hcq2) (cwV 1 X.ts gL_lapsOf_X7_lapsOf rfl rfl rfl (by decide +kernel) ⟨Nat.le_of_ble_eq_true rfl, Nat.le_of_ble_eq_true rfl⟩) (gr7 X hP kc_0 (sk_in hN kc_0 (by decide))) rfl hl.1 rfl (Nat.le_of_ble_eq_true rfl) dL_lapsOf_2 ⟨Nat.le_of_ble_eq_true rfl, Nat.le_of_ble_eq_true rfl⟩ (fun k9 u9 H locs ce9 q9 hw hP hS hce hcv hcl => ?_) (fun r1 u9 H locs hw hP hS => ?_)
  · subst hw
    have h := hsum_l h
    by_cases hk0 : k9 = 0
    · have h := gif_t hk0 h
      subst hk0
      refine vx_catch X.ow [] ⟨0, 5, 6, 23⟩ [] htab (fun z hz => absurd hz List.not_mem_nil) (by decide) (by decide) (X.ts _ (List.mem_of_getElem? (i := 1) rfl)) (va_Nw.use rfl (X.th.2.1.1 0 (by decide))) hce hcv hcl ?_
      refine lv_astore_n (lv' := [(2, .ref q9), (0, .ref (b 0)), (1, .int a1)]) hx hb dL_lapsOf_6 rfl hl (by decide) rfl (fun ls hl => ?_)
      refine lv_bipush (v := (-2)) hx hb dL_lapsOf_7 (by decide) ?_
      refine W.widen (k := 1) (n := 6) (Nat.le_of_ble_eq_true rfl) (Nat.le_of_ble_eq_true rfl) ?_
      exact W.iret hx hb hr (fun t9 ht hW => ⟨⟨(-2 : Int32), (), rfl, (Option.some.inj h).symm, gEnd ht hP⟩, hS.F ht⟩) hS.2.2 dL_lapsOf_9 hlk
    have h := gif_f hk0 h
    cases h
  subst hw
  have h := hsum_r h
  refine W.widen (k := 1) (n := 6) (Nat.le_of_ble_eq_true rfl) (Nat.le_of_ble_eq_true rfl) ?_
  exact W.iret hx hb hr (fun t9 ht hW => ⟨⟨r1, (), rfl, (Option.some.inj h).symm, gEnd ht hP⟩, hS.F ht⟩) hS.2.2 dL_lapsOf_5 hlk
def f_L_speedOf (a1 : Int32) (I : Nat → Nat → Int32) : Option (Int32) :=
  (f_X7_speedOf a1 I).bind fun eq2 => hsum eq2 (fun k9 => 
    if k9 = 0 then
      some (-2 : Int32)
    else
    none) fun r1 =>
  some r1
set_option maxHeartbeats 8000000 in
set_option maxRecDepth 100000 in
theorem c_L_speedOf {l : Launch} (hlf : l.stackTraces = false) {dC : Nat → ClassId} {dI : Nat → Nat → Nat} {ca : Nat → ClassId} {b : Nat → Nat} {A : Nat → Prop} {N : Nat} (hN : 129 ≤ N) (hA : gAd A b N) (I : Nat → Nat → Int32) (O : Nat → Nat → Option Nat) (J : Nat → Nat → Int64) (a1 : Int32) (res : Int32) (h : f_L_speedOf a1 I = some res) : Met l yL_speedOf wsL_speedOf ({ frames := 8, cells := 1, slots := 6, locals := 133 } : Room) (va_Pc [.ref (b 0), .int a1] (gPre dC dI ca b A N I O J)) (va_Qi (fun (r : Int32) (u : Unit) => res = r) (fun (u : Unit) t => va_P (dC, dI) vwCl (hW N ca b I O J) t.heap) A) 1 6 A := by
  refine va_MetW (cc := cL_speedOf) (maxL := 3) (ret := (some .int)) (by decide) rfl ?_
  intro p e s m args below meth c s₁ B hml hv
  obtain ⟨rfl, hP, hK, hA2, hth⟩ := hv
  have hx := B.exec
  have hb := B.bytes
  have hr := B.returns
  have hlk := B.notSynchronized
  have X : gCx p s m ([.ref (b 0), .int a1] : List Value).toArray c RL cL_speedOf wsL_speedOf 3 dC dI ca b A N := ⟨hx, hb, hml, findClass_of_methodNamed B.named, atoms_spec (ws := wsL_speedOf) B.pre, hK, hA, hA2, hth⟩
  have htab : c.exceptionTable.toList = tableOf [(0, 5, 6, 23)] := vx_table (x := yL_speedOf) B (atoms_spec (ws := wsL_speedOf) B.pre _ (List.mem_of_getElem? (i := 0) rfl))
  have hS : va_S A s.heap s.heap [] := va_S.rf
  have hl := lv_entry ([.ref (b 0), .int a1] : List Value) (n := 3) (Nat.le_of_ble_eq_true rfl)
  rw [lg_entry_eq]
  generalize (lg_sl ([.ref (b 0), .int a1] : List Value) ++ List.replicate (3 - (lg_sl ([.ref (b 0), .int a1] : List Value)).length) Slot.unset).toArray = ls at hl ⊢
  have hl : lv_has ls 3 [(0, .ref (b 0)), (1, .int a1)] := hl
  unfold f_L_speedOf at h
  refine lv_aload_n hx hb dL_speedOf_0 rfl (lv_at hl 0 rfl) ?_
  refine lv_iload_n hx hb dL_speedOf_1 rfl (lv_at hl 1 rfl) ?_
  obtain ⟨q2, hcq2, h⟩ := hb_some h
  refine gxV_i (As := [.int a1]) (rest := []) (BH := (fun (u : Unit) H => va_P (dC, dI) vwCl (hW N ca b I O J) H)) (BX := (fun (u : Unit) H => va_P (dC, dI) vwCl (hW N ca b I O J) H)) X hP hS (c_X7_speedOf hlf hN hA I O J a1 q2 hcq2) (cwV 1 X.ts gL_speedOf_X7_speedOf rfl rfl rfl (by decide +kernel) ⟨Nat.le_of_ble_eq_true rfl, Nat.le_of_ble_eq_true rfl⟩) (gr7 X hP kc_0 (sk_in hN kc_0 (by decide))) rfl hl.1 rfl (Nat.le_of_ble_eq_true rfl) dL_speedOf_2 ⟨Nat.le_of_ble_eq_true rfl, Nat.le_of_ble_eq_true rfl⟩ (fun k9 u9 H locs ce9 q9 hw hP hS hce hcv hcl => ?_) (fun r1 u9 H locs hw hP hS => ?_)
  · subst hw
    have h := hsum_l h
    by_cases hk0 : k9 = 0
    · have h := gif_t hk0 h
      subst hk0
      refine vx_catch X.ow [] ⟨0, 5, 6, 23⟩ [] htab (fun z hz => absurd hz List.not_mem_nil) (by decide) (by decide) (X.ts _ (List.mem_of_getElem? (i := 1) rfl)) (va_Nw.use rfl (X.th.2.1.1 0 (by decide))) hce hcv hcl ?_
      refine lv_astore_n (lv' := [(2, .ref q9), (0, .ref (b 0)), (1, .int a1)]) hx hb dL_speedOf_6 rfl hl (by decide) rfl (fun ls hl => ?_)
      refine lv_bipush (v := (-2)) hx hb dL_speedOf_7 (by decide) ?_
      refine W.widen (k := 1) (n := 6) (Nat.le_of_ble_eq_true rfl) (Nat.le_of_ble_eq_true rfl) ?_
      exact W.iret hx hb hr (fun t9 ht hW => ⟨⟨(-2 : Int32), (), rfl, (Option.some.inj h).symm, gEnd ht hP⟩, hS.F ht⟩) hS.2.2 dL_speedOf_9 hlk
    have h := gif_f hk0 h
    cases h
  subst hw
  have h := hsum_r h
  refine W.widen (k := 1) (n := 6) (Nat.le_of_ble_eq_true rfl) (Nat.le_of_ble_eq_true rfl) ?_
  exact W.iret hx hb hr (fun t9 ht hW => ⟨⟨r1, (), rfl, (Option.some.inj h).symm, gEnd ht hP⟩, hS.F ht⟩) hS.2.2 dL_speedOf_5 hlk
def f_L_strengthOf (a1 : Int32) (I : Nat → Nat → Int32) : Option (Int32) :=
  (f_X7_strengthOf a1 I).bind fun eq2 => hsum eq2 (fun k9 => 
    if k9 = 0 then
      some (-2 : Int32)
    else
    none) fun r1 =>
  some r1
set_option maxHeartbeats 8000000 in
set_option maxRecDepth 100000 in
theorem c_L_strengthOf {l : Launch} (hlf : l.stackTraces = false) {dC : Nat → ClassId} {dI : Nat → Nat → Nat} {ca : Nat → ClassId} {b : Nat → Nat} {A : Nat → Prop} {N : Nat} (hN : 129 ≤ N) (hA : gAd A b N) (I : Nat → Nat → Int32) (O : Nat → Nat → Option Nat) (J : Nat → Nat → Int64) (a1 : Int32) (res : Int32) (h : f_L_strengthOf a1 I = some res) : Met l yL_strengthOf wsL_strengthOf ({ frames := 8, cells := 1, slots := 6, locals := 133 } : Room) (va_Pc [.ref (b 0), .int a1] (gPre dC dI ca b A N I O J)) (va_Qi (fun (r : Int32) (u : Unit) => res = r) (fun (u : Unit) t => va_P (dC, dI) vwCl (hW N ca b I O J) t.heap) A) 1 6 A := by
  refine va_MetW (cc := cL_strengthOf) (maxL := 3) (ret := (some .int)) (by decide) rfl ?_
  intro p e s m args below meth c s₁ B hml hv
  obtain ⟨rfl, hP, hK, hA2, hth⟩ := hv
  have hx := B.exec
  have hb := B.bytes
  have hr := B.returns
  have hlk := B.notSynchronized
  have X : gCx p s m ([.ref (b 0), .int a1] : List Value).toArray c RL cL_strengthOf wsL_strengthOf 3 dC dI ca b A N := ⟨hx, hb, hml, findClass_of_methodNamed B.named, atoms_spec (ws := wsL_strengthOf) B.pre, hK, hA, hA2, hth⟩
  have htab : c.exceptionTable.toList = tableOf [(0, 5, 6, 23)] := vx_table (x := yL_strengthOf) B (atoms_spec (ws := wsL_strengthOf) B.pre _ (List.mem_of_getElem? (i := 0) rfl))
  have hS : va_S A s.heap s.heap [] := va_S.rf
  have hl := lv_entry ([.ref (b 0), .int a1] : List Value) (n := 3) (Nat.le_of_ble_eq_true rfl)
  rw [lg_entry_eq]
  generalize (lg_sl ([.ref (b 0), .int a1] : List Value) ++ List.replicate (3 - (lg_sl ([.ref (b 0), .int a1] : List Value)).length) Slot.unset).toArray = ls at hl ⊢
  have hl : lv_has ls 3 [(0, .ref (b 0)), (1, .int a1)] := hl
  unfold f_L_strengthOf at h
  refine lv_aload_n hx hb dL_strengthOf_0 rfl (lv_at hl 0 rfl) ?_
  refine lv_iload_n hx hb dL_strengthOf_1 rfl (lv_at hl 1 rfl) ?_
  obtain ⟨q2, hcq2, h⟩ := hb_some h
  refine gxV_i (As := [.int a1]) (rest := []) (BH := (fun (u : Unit) H => va_P (dC, dI) vwCl (hW N ca b I O J) H)) (BX := (fun (u : Unit) H => va_P (dC, dI) vwCl (hW N ca b I O J) H)) X hP hS (c_X7_strengthOf hlf hN hA I O J a1 q2 hcq2) (cwV 1 X.ts gL_strengthOf_X7_strengthOf rfl rfl rfl (by decide +kernel) ⟨Nat.le_of_ble_eq_true rfl, Nat.le_of_ble_eq_true rfl⟩) (gr7 X hP kc_0 (sk_in hN kc_0 (by decide))) rfl hl.1 rfl (Nat.le_of_ble_eq_true rfl) dL_strengthOf_2 ⟨Nat.le_of_ble_eq_true rfl, Nat.le_of_ble_eq_true rfl⟩ (fun k9 u9 H locs ce9 q9 hw hP hS hce hcv hcl => ?_) (fun r1 u9 H locs hw hP hS => ?_)
  · subst hw
    have h := hsum_l h
    by_cases hk0 : k9 = 0
    · have h := gif_t hk0 h
      subst hk0
      refine vx_catch X.ow [] ⟨0, 5, 6, 23⟩ [] htab (fun z hz => absurd hz List.not_mem_nil) (by decide) (by decide) (X.ts _ (List.mem_of_getElem? (i := 1) rfl)) (va_Nw.use rfl (X.th.2.1.1 0 (by decide))) hce hcv hcl ?_
      refine lv_astore_n (lv' := [(2, .ref q9), (0, .ref (b 0)), (1, .int a1)]) hx hb dL_strengthOf_6 rfl hl (by decide) rfl (fun ls hl => ?_)
      refine lv_bipush (v := (-2)) hx hb dL_strengthOf_7 (by decide) ?_
      refine W.widen (k := 1) (n := 6) (Nat.le_of_ble_eq_true rfl) (Nat.le_of_ble_eq_true rfl) ?_
      exact W.iret hx hb hr (fun t9 ht hW => ⟨⟨(-2 : Int32), (), rfl, (Option.some.inj h).symm, gEnd ht hP⟩, hS.F ht⟩) hS.2.2 dL_strengthOf_9 hlk
    have h := gif_f hk0 h
    cases h
  subst hw
  have h := hsum_r h
  refine W.widen (k := 1) (n := 6) (Nat.le_of_ble_eq_true rfl) (Nat.le_of_ble_eq_true rfl) ?_
  exact W.iret hx hb hr (fun t9 ht hW => ⟨⟨r1, (), rfl, (Option.some.inj h).symm, gEnd ht hP⟩, hS.F ht⟩) hS.2.2 dL_strengthOf_5 hlk
def f_L_wearOf (a1 : Int32) (I : Nat → Nat → Int32) : Option (Int32) :=
  (f_X7_wearOf a1 I).bind fun eq2 => hsum eq2 (fun k9 => 
    if k9 = 0 then
      some (-2 : Int32)
    else
    none) fun r1 =>
  some r1
set_option maxHeartbeats 8000000 in
set_option maxRecDepth 100000 in
theorem c_L_wearOf {l : Launch} (hlf : l.stackTraces = false) {dC : Nat → ClassId} {dI : Nat → Nat → Nat} {ca : Nat → ClassId} {b : Nat → Nat} {A : Nat → Prop} {N : Nat} (hN : 129 ≤ N) (hA : gAd A b N) (I : Nat → Nat → Int32) (O : Nat → Nat → Option Nat) (J : Nat → Nat → Int64) (a1 : Int32) (res : Int32) (h : f_L_wearOf a1 I = some res) : Met l yL_wearOf wsL_wearOf ({ frames := 8, cells := 1, slots := 6, locals := 133 } : Room) (va_Pc [.ref (b 0), .int a1] (gPre dC dI ca b A N I O J)) (va_Qi (fun (r : Int32) (u : Unit) => res = r) (fun (u : Unit) t => va_P (dC, dI) vwCl (hW N ca b I O J) t.heap) A) 1 6 A := by
  refine va_MetW (cc := cL_wearOf) (maxL := 3) (ret := (some .int)) (by decide) rfl ?_
  intro p e s m args below meth c s₁ B hml hv
  obtain ⟨rfl, hP, hK, hA2, hth⟩ := hv
  have hx := B.exec
  have hb := B.bytes
  have hr := B.returns
  have hlk := B.notSynchronized
  have X : gCx p s m ([.ref (b 0), .int a1] : List Value).toArray c RL cL_wearOf wsL_wearOf 3 dC dI ca b A N := ⟨hx, hb, hml, findClass_of_methodNamed B.named, atoms_spec (ws := wsL_wearOf) B.pre, hK, hA, hA2, hth⟩
  have htab : c.exceptionTable.toList = tableOf [(0, 5, 6, 23)] := vx_table (x := yL_wearOf) B (atoms_spec (ws := wsL_wearOf) B.pre _ (List.mem_of_getElem? (i := 0) rfl))
  have hS : va_S A s.heap s.heap [] := va_S.rf
  have hl := lv_entry ([.ref (b 0), .int a1] : List Value) (n := 3) (Nat.le_of_ble_eq_true rfl)
  rw [lg_entry_eq]
  generalize (lg_sl ([.ref (b 0), .int a1] : List Value) ++ List.replicate (3 - (lg_sl ([.ref (b 0), .int a1] : List Value)).length) Slot.unset).toArray = ls at hl ⊢
  have hl : lv_has ls 3 [(0, .ref (b 0)), (1, .int a1)] := hl
  unfold f_L_wearOf at h
  refine lv_aload_n hx hb dL_wearOf_0 rfl (lv_at hl 0 rfl) ?_
  refine lv_iload_n hx hb dL_wearOf_1 rfl (lv_at hl 1 rfl) ?_
  obtain ⟨q2, hcq2, h⟩ := hb_some h
  refine gxV_i (As := [.int a1]) (rest := []) (BH := (fun (u : Unit) H => va_P (dC, dI) vwCl (hW N ca b I O J) H)) (BX := (fun (u : Unit) H => va_P (dC, dI) vwCl (hW N ca b I O J) H)) X hP hS (c_X7_wearOf hlf hN hA I O J a1 q2 hcq2) (cwV 1 X.ts gL_wearOf_X7_wearOf rfl rfl rfl (by decide +kernel) ⟨Nat.le_of_ble_eq_true rfl, Nat.le_of_ble_eq_true rfl⟩) (gr7 X hP kc_0 (sk_in hN kc_0 (by decide))) rfl hl.1 rfl (Nat.le_of_ble_eq_true rfl) dL_wearOf_2 ⟨Nat.le_of_ble_eq_true rfl, Nat.le_of_ble_eq_true rfl⟩ (fun k9 u9 H locs ce9 q9 hw hP hS hce hcv hcl => ?_) (fun r1 u9 H locs hw hP hS => ?_)
  · subst hw
    have h := hsum_l h
    by_cases hk0 : k9 = 0
    · have h := gif_t hk0 h
      subst hk0
      refine vx_catch X.ow [] ⟨0, 5, 6, 23⟩ [] htab (fun z hz => absurd hz List.not_mem_nil) (by decide) (by decide) (X.ts _ (List.mem_of_getElem? (i := 1) rfl)) (va_Nw.use rfl (X.th.2.1.1 0 (by decide))) hce hcv hcl ?_
      refine lv_astore_n (lv' := [(2, .ref q9), (0, .ref (b 0)), (1, .int a1)]) hx hb dL_wearOf_6 rfl hl (by decide) rfl (fun ls hl => ?_)
      refine lv_bipush (v := (-2)) hx hb dL_wearOf_7 (by decide) ?_
      refine W.widen (k := 1) (n := 6) (Nat.le_of_ble_eq_true rfl) (Nat.le_of_ble_eq_true rfl) ?_
      exact W.iret hx hb hr (fun t9 ht hW => ⟨⟨(-2 : Int32), (), rfl, (Option.some.inj h).symm, gEnd ht hP⟩, hS.F ht⟩) hS.2.2 dL_wearOf_9 hlk
    have h := gif_f hk0 h
    cases h
  subst hw
  have h := hsum_r h
  refine W.widen (k := 1) (n := 6) (Nat.le_of_ble_eq_true rfl) (Nat.le_of_ble_eq_true rfl) ?_
  exact W.iret hx hb hr (fun t9 ht hW => ⟨⟨r1, (), rfl, (Option.some.inj h).symm, gEnd ht hP⟩, hS.F ht⟩) hS.2.2 dL_wearOf_5 hlk
def f_L_laneOf (a1 : Int32) (I : Nat → Nat → Int32) : Option (Int32) :=
  (f_X7_laneOf a1 I).bind fun eq2 => hsum eq2 (fun k9 => 
    if k9 = 0 then
      some (-2 : Int32)
    else
    none) fun r1 =>
  some r1
set_option maxHeartbeats 8000000 in
set_option maxRecDepth 100000 in
theorem c_L_laneOf {l : Launch} (hlf : l.stackTraces = false) {dC : Nat → ClassId} {dI : Nat → Nat → Nat} {ca : Nat → ClassId} {b : Nat → Nat} {A : Nat → Prop} {N : Nat} (hN : 129 ≤ N) (hA : gAd A b N) (I : Nat → Nat → Int32) (O : Nat → Nat → Option Nat) (J : Nat → Nat → Int64) (a1 : Int32) (res : Int32) (h : f_L_laneOf a1 I = some res) : Met l yL_laneOf wsL_laneOf ({ frames := 8, cells := 1, slots := 6, locals := 133 } : Room) (va_Pc [.ref (b 0), .int a1] (gPre dC dI ca b A N I O J)) (va_Qi (fun (r : Int32) (u : Unit) => res = r) (fun (u : Unit) t => va_P (dC, dI) vwCl (hW N ca b I O J) t.heap) A) 1 6 A := by
  refine va_MetW (cc := cL_laneOf) (maxL := 3) (ret := (some .int)) (by decide) rfl ?_
  intro p e s m args below meth c s₁ B hml hv
  obtain ⟨rfl, hP, hK, hA2, hth⟩ := hv
  have hx := B.exec
  have hb := B.bytes
  have hr := B.returns
  have hlk := B.notSynchronized
  have X : gCx p s m ([.ref (b 0), .int a1] : List Value).toArray c RL cL_laneOf wsL_laneOf 3 dC dI ca b A N := ⟨hx, hb, hml, findClass_of_methodNamed B.named, atoms_spec (ws := wsL_laneOf) B.pre, hK, hA, hA2, hth⟩
  have htab : c.exceptionTable.toList = tableOf [(0, 5, 6, 23)] := vx_table (x := yL_laneOf) B (atoms_spec (ws := wsL_laneOf) B.pre _ (List.mem_of_getElem? (i := 0) rfl))
  have hS : va_S A s.heap s.heap [] := va_S.rf
  have hl := lv_entry ([.ref (b 0), .int a1] : List Value) (n := 3) (Nat.le_of_ble_eq_true rfl)
  rw [lg_entry_eq]
  generalize (lg_sl ([.ref (b 0), .int a1] : List Value) ++ List.replicate (3 - (lg_sl ([.ref (b 0), .int a1] : List Value)).length) Slot.unset).toArray = ls at hl ⊢
  have hl : lv_has ls 3 [(0, .ref (b 0)), (1, .int a1)] := hl
  unfold f_L_laneOf at h
  refine lv_aload_n hx hb dL_laneOf_0 rfl (lv_at hl 0 rfl) ?_
  refine lv_iload_n hx hb dL_laneOf_1 rfl (lv_at hl 1 rfl) ?_
  obtain ⟨q2, hcq2, h⟩ := hb_some h
  refine gxV_i (As := [.int a1]) (rest := []) (BH := (fun (u : Unit) H => va_P (dC, dI) vwCl (hW N ca b I O J) H)) (BX := (fun (u : Unit) H => va_P (dC, dI) vwCl (hW N ca b I O J) H)) X hP hS (c_X7_laneOf hlf hN hA I O J a1 q2 hcq2) (cwV 1 X.ts gL_laneOf_X7_laneOf rfl rfl rfl (by decide +kernel) ⟨Nat.le_of_ble_eq_true rfl, Nat.le_of_ble_eq_true rfl⟩) (gr7 X hP kc_0 (sk_in hN kc_0 (by decide))) rfl hl.1 rfl (Nat.le_of_ble_eq_true rfl) dL_laneOf_2 ⟨Nat.le_of_ble_eq_true rfl, Nat.le_of_ble_eq_true rfl⟩ (fun k9 u9 H locs ce9 q9 hw hP hS hce hcv hcl => ?_) (fun r1 u9 H locs hw hP hS => ?_)
  · subst hw
    have h := hsum_l h
    by_cases hk0 : k9 = 0
    · have h := gif_t hk0 h
      subst hk0
      refine vx_catch X.ow [] ⟨0, 5, 6, 23⟩ [] htab (fun z hz => absurd hz List.not_mem_nil) (by decide) (by decide) (X.ts _ (List.mem_of_getElem? (i := 1) rfl)) (va_Nw.use rfl (X.th.2.1.1 0 (by decide))) hce hcv hcl ?_
      refine lv_astore_n (lv' := [(2, .ref q9), (0, .ref (b 0)), (1, .int a1)]) hx hb dL_laneOf_6 rfl hl (by decide) rfl (fun ls hl => ?_)
      refine lv_bipush (v := (-2)) hx hb dL_laneOf_7 (by decide) ?_
      refine W.widen (k := 1) (n := 6) (Nat.le_of_ble_eq_true rfl) (Nat.le_of_ble_eq_true rfl) ?_
      exact W.iret hx hb hr (fun t9 ht hW => ⟨⟨(-2 : Int32), (), rfl, (Option.some.inj h).symm, gEnd ht hP⟩, hS.F ht⟩) hS.2.2 dL_laneOf_9 hlk
    have h := gif_f hk0 h
    cases h
  subst hw
  have h := hsum_r h
  refine W.widen (k := 1) (n := 6) (Nat.le_of_ble_eq_true rfl) (Nat.le_of_ble_eq_true rfl) ?_
  exact W.iret hx hb hr (fun t9 ht hW => ⟨⟨r1, (), rfl, (Option.some.inj h).symm, gEnd ht hP⟩, hS.F ht⟩) hS.2.2 dL_laneOf_5 hlk
def f_L_stateOf (a1 : Int32) (I : Nat → Nat → Int32) : Option (Int32) :=
  (f_X7_stateOf a1 I).bind fun eq2 => hsum eq2 (fun k9 => 
    if k9 = 0 then
      some (-2 : Int32)
    else
    none) fun r1 =>
  some r1
set_option maxHeartbeats 8000000 in
set_option maxRecDepth 100000 in
theorem c_L_stateOf {l : Launch} (hlf : l.stackTraces = false) {dC : Nat → ClassId} {dI : Nat → Nat → Nat} {ca : Nat → ClassId} {b : Nat → Nat} {A : Nat → Prop} {N : Nat} (hN : 129 ≤ N) (hA : gAd A b N) (I : Nat → Nat → Int32) (O : Nat → Nat → Option Nat) (J : Nat → Nat → Int64) (a1 : Int32) (res : Int32) (h : f_L_stateOf a1 I = some res) : Met l yL_stateOf wsL_stateOf ({ frames := 8, cells := 1, slots := 6, locals := 133 } : Room) (va_Pc [.ref (b 0), .int a1] (gPre dC dI ca b A N I O J)) (va_Qi (fun (r : Int32) (u : Unit) => res = r) (fun (u : Unit) t => va_P (dC, dI) vwCl (hW N ca b I O J) t.heap) A) 1 6 A := by
  refine va_MetW (cc := cL_stateOf) (maxL := 3) (ret := (some .int)) (by decide) rfl ?_
  intro p e s m args below meth c s₁ B hml hv
  obtain ⟨rfl, hP, hK, hA2, hth⟩ := hv
  have hx := B.exec
  have hb := B.bytes
  have hr := B.returns
  have hlk := B.notSynchronized
  have X : gCx p s m ([.ref (b 0), .int a1] : List Value).toArray c RL cL_stateOf wsL_stateOf 3 dC dI ca b A N := ⟨hx, hb, hml, findClass_of_methodNamed B.named, atoms_spec (ws := wsL_stateOf) B.pre, hK, hA, hA2, hth⟩
  have htab : c.exceptionTable.toList = tableOf [(0, 5, 6, 23)] := vx_table (x := yL_stateOf) B (atoms_spec (ws := wsL_stateOf) B.pre _ (List.mem_of_getElem? (i := 0) rfl))
  have hS : va_S A s.heap s.heap [] := va_S.rf
  have hl := lv_entry ([.ref (b 0), .int a1] : List Value) (n := 3) (Nat.le_of_ble_eq_true rfl)
  rw [lg_entry_eq]
  generalize (lg_sl ([.ref (b 0), .int a1] : List Value) ++ List.replicate (3 - (lg_sl ([.ref (b 0), .int a1] : List Value)).length) Slot.unset).toArray = ls at hl ⊢
  have hl : lv_has ls 3 [(0, .ref (b 0)), (1, .int a1)] := hl
  unfold f_L_stateOf at h
  refine lv_aload_n hx hb dL_stateOf_0 rfl (lv_at hl 0 rfl) ?_
  refine lv_iload_n hx hb dL_stateOf_1 rfl (lv_at hl 1 rfl) ?_
  obtain ⟨q2, hcq2, h⟩ := hb_some h
  refine gxV_i (As := [.int a1]) (rest := []) (BH := (fun (u : Unit) H => va_P (dC, dI) vwCl (hW N ca b I O J) H)) (BX := (fun (u : Unit) H => va_P (dC, dI) vwCl (hW N ca b I O J) H)) X hP hS (c_X7_stateOf hlf hN hA I O J a1 q2 hcq2) (cwV 1 X.ts gL_stateOf_X7_stateOf rfl rfl rfl (by decide +kernel) ⟨Nat.le_of_ble_eq_true rfl, Nat.le_of_ble_eq_true rfl⟩) (gr7 X hP kc_0 (sk_in hN kc_0 (by decide))) rfl hl.1 rfl (Nat.le_of_ble_eq_true rfl) dL_stateOf_2 ⟨Nat.le_of_ble_eq_true rfl, Nat.le_of_ble_eq_true rfl⟩ (fun k9 u9 H locs ce9 q9 hw hP hS hce hcv hcl => ?_) (fun r1 u9 H locs hw hP hS => ?_)
  · subst hw
    have h := hsum_l h
    by_cases hk0 : k9 = 0
    · have h := gif_t hk0 h
      subst hk0
      refine vx_catch X.ow [] ⟨0, 5, 6, 23⟩ [] htab (fun z hz => absurd hz List.not_mem_nil) (by decide) (by decide) (X.ts _ (List.mem_of_getElem? (i := 1) rfl)) (va_Nw.use rfl (X.th.2.1.1 0 (by decide))) hce hcv hcl ?_
      refine lv_astore_n (lv' := [(2, .ref q9), (0, .ref (b 0)), (1, .int a1)]) hx hb dL_stateOf_6 rfl hl (by decide) rfl (fun ls hl => ?_)
      refine lv_bipush (v := (-2)) hx hb dL_stateOf_7 (by decide) ?_
      refine W.widen (k := 1) (n := 6) (Nat.le_of_ble_eq_true rfl) (Nat.le_of_ble_eq_true rfl) ?_
      exact W.iret hx hb hr (fun t9 ht hW => ⟨⟨(-2 : Int32), (), rfl, (Option.some.inj h).symm, gEnd ht hP⟩, hS.F ht⟩) hS.2.2 dL_stateOf_9 hlk
    have h := gif_f hk0 h
    cases h
  subst hw
  have h := hsum_r h
  refine W.widen (k := 1) (n := 6) (Nat.le_of_ble_eq_true rfl) (Nat.le_of_ble_eq_true rfl) ?_
  exact W.iret hx hb hr (fun t9 ht hW => ⟨⟨r1, (), rfl, (Option.some.inj h).symm, gEnd ht hP⟩, hS.F ht⟩) hS.2.2 dL_stateOf_5 hlk
def f_L_paceOf (a1 : Int32) (I : Nat → Nat → Int32) : Option (Int32) :=
  (f_X7_paceOf a1 I).bind fun eq2 => hsum eq2 (fun k9 => 
    if k9 = 0 then
      some (-2 : Int32)
    else
    none) fun r1 =>
  some r1
set_option maxHeartbeats 8000000 in
set_option maxRecDepth 100000 in
theorem c_L_paceOf {l : Launch} (hlf : l.stackTraces = false) {dC : Nat → ClassId} {dI : Nat → Nat → Nat} {ca : Nat → ClassId} {b : Nat → Nat} {A : Nat → Prop} {N : Nat} (hN : 129 ≤ N) (hA : gAd A b N) (I : Nat → Nat → Int32) (O : Nat → Nat → Option Nat) (J : Nat → Nat → Int64) (a1 : Int32) (res : Int32) (h : f_L_paceOf a1 I = some res) : Met l yL_paceOf wsL_paceOf ({ frames := 8, cells := 1, slots := 6, locals := 133 } : Room) (va_Pc [.ref (b 0), .int a1] (gPre dC dI ca b A N I O J)) (va_Qi (fun (r : Int32) (u : Unit) => res = r) (fun (u : Unit) t => va_P (dC, dI) vwCl (hW N ca b I O J) t.heap) A) 1 6 A := by
  refine va_MetW (cc := cL_paceOf) (maxL := 3) (ret := (some .int)) (by decide) rfl ?_
  intro p e s m args below meth c s₁ B hml hv
  obtain ⟨rfl, hP, hK, hA2, hth⟩ := hv
  have hx := B.exec
  have hb := B.bytes
  have hr := B.returns
  have hlk := B.notSynchronized
  have X : gCx p s m ([.ref (b 0), .int a1] : List Value).toArray c RL cL_paceOf wsL_paceOf 3 dC dI ca b A N := ⟨hx, hb, hml, findClass_of_methodNamed B.named, atoms_spec (ws := wsL_paceOf) B.pre, hK, hA, hA2, hth⟩
  have htab : c.exceptionTable.toList = tableOf [(0, 5, 6, 23)] := vx_table (x := yL_paceOf) B (atoms_spec (ws := wsL_paceOf) B.pre _ (List.mem_of_getElem? (i := 0) rfl))
  have hS : va_S A s.heap s.heap [] := va_S.rf
  have hl := lv_entry ([.ref (b 0), .int a1] : List Value) (n := 3) (Nat.le_of_ble_eq_true rfl)
  rw [lg_entry_eq]
  generalize (lg_sl ([.ref (b 0), .int a1] : List Value) ++ List.replicate (3 - (lg_sl ([.ref (b 0), .int a1] : List Value)).length) Slot.unset).toArray = ls at hl ⊢
  have hl : lv_has ls 3 [(0, .ref (b 0)), (1, .int a1)] := hl
  unfold f_L_paceOf at h
  refine lv_aload_n hx hb dL_paceOf_0 rfl (lv_at hl 0 rfl) ?_
  refine lv_iload_n hx hb dL_paceOf_1 rfl (lv_at hl 1 rfl) ?_
  obtain ⟨q2, hcq2, h⟩ := hb_some h
  refine gxV_i (As := [.int a1]) (rest := []) (BH := (fun (u : Unit) H => va_P (dC, dI) vwCl (hW N ca b I O J) H)) (BX := (fun (u : Unit) H => va_P (dC, dI) vwCl (hW N ca b I O J) H)) X hP hS (c_X7_paceOf hlf hN hA I O J a1 q2 hcq2) (cwV 1 X.ts gL_paceOf_X7_paceOf rfl rfl rfl (by decide +kernel) ⟨Nat.le_of_ble_eq_true rfl, Nat.le_of_ble_eq_true rfl⟩) (gr7 X hP kc_0 (sk_in hN kc_0 (by decide))) rfl hl.1 rfl (Nat.le_of_ble_eq_true rfl) dL_paceOf_2 ⟨Nat.le_of_ble_eq_true rfl, Nat.le_of_ble_eq_true rfl⟩ (fun k9 u9 H locs ce9 q9 hw hP hS hce hcv hcl => ?_) (fun r1 u9 H locs hw hP hS => ?_)
  · subst hw
    have h := hsum_l h
    by_cases hk0 : k9 = 0
    · have h := gif_t hk0 h
      subst hk0
      refine vx_catch X.ow [] ⟨0, 5, 6, 23⟩ [] htab (fun z hz => absurd hz List.not_mem_nil) (by decide) (by decide) (X.ts _ (List.mem_of_getElem? (i := 1) rfl)) (va_Nw.use rfl (X.th.2.1.1 0 (by decide))) hce hcv hcl ?_
      refine lv_astore_n (lv' := [(2, .ref q9), (0, .ref (b 0)), (1, .int a1)]) hx hb dL_paceOf_6 rfl hl (by decide) rfl (fun ls hl => ?_)
      refine lv_bipush (v := (-2)) hx hb dL_paceOf_7 (by decide) ?_
      refine W.widen (k := 1) (n := 6) (Nat.le_of_ble_eq_true rfl) (Nat.le_of_ble_eq_true rfl) ?_
      exact W.iret hx hb hr (fun t9 ht hW => ⟨⟨(-2 : Int32), (), rfl, (Option.some.inj h).symm, gEnd ht hP⟩, hS.F ht⟩) hS.2.2 dL_paceOf_9 hlk
    have h := gif_f hk0 h
    cases h
  subst hw
  have h := hsum_r h
  refine W.widen (k := 1) (n := 6) (Nat.le_of_ble_eq_true rfl) (Nat.le_of_ble_eq_true rfl) ?_
  exact W.iret hx hb hr (fun t9 ht hW => ⟨⟨r1, (), rfl, (Option.some.inj h).symm, gEnd ht hP⟩, hS.F ht⟩) hS.2.2 dL_paceOf_5 hlk
def f_L_partnerOf (a1 : Int32) (I : Nat → Nat → Int32) : Option (Int32) :=
  (f_X7_partnerOf a1 I).bind fun eq2 => hsum eq2 (fun k9 => 
    if k9 = 0 then
      some (-2 : Int32)
    else
    if k9 = 2 then
      some (-4 : Int32)
    else
    none) fun r1 =>
  some r1
set_option maxHeartbeats 8000000 in
set_option maxRecDepth 100000 in
theorem c_L_partnerOf {l : Launch} (hlf : l.stackTraces = false) {dC : Nat → ClassId} {dI : Nat → Nat → Nat} {ca : Nat → ClassId} {b : Nat → Nat} {A : Nat → Prop} {N : Nat} (hN : 129 ≤ N) (hA : gAd A b N) (I : Nat → Nat → Int32) (O : Nat → Nat → Option Nat) (J : Nat → Nat → Int64) (a1 : Int32) (res : Int32) (h : f_L_partnerOf a1 I = some res) : Met l yL_partnerOf wsL_partnerOf ({ frames := 8, cells := 2, slots := 12, locals := 134 } : Room) (va_Pc [.ref (b 0), .int a1] (gPre dC dI ca b A N I O J)) (va_Qi (fun (r : Int32) (u : Unit) => res = r) (fun (u : Unit) t => va_P (dC, dI) vwCl (hW N ca b I O J) t.heap) A) 2 12 A := by
  refine va_MetW (cc := cL_partnerOf) (maxL := 3) (ret := (some .int)) (by decide) rfl ?_
  intro p e s m args below meth c s₁ B hml hv
  obtain ⟨rfl, hP, hK, hA2, hth⟩ := hv
  have hx := B.exec
  have hb := B.bytes
  have hr := B.returns
  have hlk := B.notSynchronized
  have X : gCx p s m ([.ref (b 0), .int a1] : List Value).toArray c RL cL_partnerOf wsL_partnerOf 3 dC dI ca b A N := ⟨hx, hb, hml, findClass_of_methodNamed B.named, atoms_spec (ws := wsL_partnerOf) B.pre, hK, hA, hA2, hth⟩
  have htab : c.exceptionTable.toList = tableOf [(0, 5, 6, 23), (0, 5, 10, 17)] := vx_table (x := yL_partnerOf) B (atoms_spec (ws := wsL_partnerOf) B.pre _ (List.mem_of_getElem? (i := 0) rfl))
  have hS : va_S A s.heap s.heap [] := va_S.rf
  have hl := lv_entry ([.ref (b 0), .int a1] : List Value) (n := 3) (Nat.le_of_ble_eq_true rfl)
  rw [lg_entry_eq]
  generalize (lg_sl ([.ref (b 0), .int a1] : List Value) ++ List.replicate (3 - (lg_sl ([.ref (b 0), .int a1] : List Value)).length) Slot.unset).toArray = ls at hl ⊢
  have hl : lv_has ls 3 [(0, .ref (b 0)), (1, .int a1)] := hl
  unfold f_L_partnerOf at h
  refine lv_aload_n hx hb dL_partnerOf_0 rfl (lv_at hl 0 rfl) ?_
  refine lv_iload_n hx hb dL_partnerOf_1 rfl (lv_at hl 1 rfl) ?_
  obtain ⟨q2, hcq2, h⟩ := hb_some h
  refine gxV_i (As := [.int a1]) (rest := []) (BH := (fun (u : Unit) H => va_P (dC, dI) vwCl (hW N ca b I O J) H)) (BX := (fun (u : Unit) H => va_P (dC, dI) vwCl (hW N ca b I O J) H)) X hP hS (c_X7_partnerOf hlf hN hA I O J a1 q2 hcq2) (cwV 1 X.ts gL_partnerOf_X7_partnerOf rfl rfl rfl (by decide +kernel) ⟨Nat.le_of_ble_eq_true rfl, Nat.le_of_ble_eq_true rfl⟩) (gr7 X hP kc_0 (sk_in hN kc_0 (by decide))) rfl hl.1 rfl (Nat.le_of_ble_eq_true rfl) dL_partnerOf_2 ⟨Nat.le_of_ble_eq_true rfl, Nat.le_of_ble_eq_true rfl⟩ (fun k9 u9 H locs ce9 q9 hw hP hS hce hcv hcl => ?_) (fun r1 u9 H locs hw hP hS => ?_)
  · subst hw
    have h := hsum_l h
    by_cases hk0 : k9 = 0
    · have h := gif_t hk0 h
      subst hk0
      refine vx_catch X.ow [] ⟨0, 5, 6, 23⟩ [⟨0, 5, 10, 17⟩] htab (fun z hz => absurd hz List.not_mem_nil) (by decide) (by decide) (X.ts _ (List.mem_of_getElem? (i := 1) rfl)) (va_Nw.use rfl (X.th.2.1.1 0 (by decide))) hce hcv hcl ?_
      refine lv_astore_n (lv' := [(2, .ref q9), (0, .ref (b 0)), (1, .int a1)]) hx hb dL_partnerOf_6 rfl hl (by decide) rfl (fun ls hl => ?_)
      refine lv_bipush (v := (-2)) hx hb dL_partnerOf_7 (by decide) ?_
      refine W.widen (k := 2) (n := 12) (Nat.le_of_ble_eq_true rfl) (Nat.le_of_ble_eq_true rfl) ?_
      exact W.iret hx hb hr (fun t9 ht hW => ⟨⟨(-2 : Int32), (), rfl, (Option.some.inj h).symm, gEnd ht hP⟩, hS.F ht⟩) hS.2.2 dL_partnerOf_9 hlk
    have h := gif_f hk0 h
    by_cases hk2 : k9 = 2
    · have h := gif_t hk2 h
      subst hk2
      refine vx_catch X.ow [⟨0, 5, 6, 23⟩] ⟨0, 5, 10, 17⟩ [] htab (fun z hz => by
        rcases List.mem_cons.mp hz with rfl | hz
        · exact Or.inr ⟨by decide, _, X.ts _ (List.mem_of_getElem? (i := 1) rfl), X.th.2.1.2.2.2 2 0 (by decide) (by decide) (by decide)⟩
        · exact absurd hz List.not_mem_nil) (by decide) (by decide) (X.ts _ (List.mem_of_getElem? (i := 2) rfl)) (va_Nw.use rfl (X.th.2.1.1 2 (by decide))) hce hcv hcl ?_
      refine lv_astore_n (lv' := [(2, .ref q9), (0, .ref (b 0)), (1, .int a1)]) hx hb dL_partnerOf_10 rfl hl (by decide) rfl (fun ls hl => ?_)
      refine lv_bipush (v := (-4)) hx hb dL_partnerOf_11 (by decide) ?_
      refine W.widen (k := 2) (n := 12) (Nat.le_of_ble_eq_true rfl) (Nat.le_of_ble_eq_true rfl) ?_
      exact W.iret hx hb hr (fun t9 ht hW => ⟨⟨(-4 : Int32), (), rfl, (Option.some.inj h).symm, gEnd ht hP⟩, hS.F ht⟩) hS.2.2 dL_partnerOf_13 hlk
    have h := gif_f hk2 h
    cases h
  subst hw
  have h := hsum_r h
  refine W.widen (k := 2) (n := 12) (Nat.le_of_ble_eq_true rfl) (Nat.le_of_ble_eq_true rfl) ?_
  exact W.iret hx hb hr (fun t9 ht hW => ⟨⟨r1, (), rfl, (Option.some.inj h).symm, gEnd ht hP⟩, hS.F ht⟩) hS.2.2 dL_partnerOf_5 hlk
def f_L_isCalledIn (a1 : Int32) (I : Nat → Nat → Int32) : Option (Int32) :=
  (f_X7_isCalledIn a1 I).bind fun eq2 => hsum eq2 (fun k9 => 
    if k9 = 0 then
      some (-2 : Int32)
    else
    none) fun r1 =>
  if r1 = 0 then
    some (0 : Int32)
  else
    some (1 : Int32)
set_option maxHeartbeats 8000000 in
set_option maxRecDepth 100000 in
theorem c_L_isCalledIn {l : Launch} (hlf : l.stackTraces = false) {dC : Nat → ClassId} {dI : Nat → Nat → Nat} {ca : Nat → ClassId} {b : Nat → Nat} {A : Nat → Prop} {N : Nat} (hN : 129 ≤ N) (hA : gAd A b N) (I : Nat → Nat → Int32) (O : Nat → Nat → Option Nat) (J : Nat → Nat → Int64) (a1 : Int32) (res : Int32) (h : f_L_isCalledIn a1 I = some res) : Met l yL_isCalledIn wsL_isCalledIn ({ frames := 8, cells := 1, slots := 6, locals := 133 } : Room) (va_Pc [.ref (b 0), .int a1] (gPre dC dI ca b A N I O J)) (va_Qi (fun (r : Int32) (u : Unit) => res = r) (fun (u : Unit) t => va_P (dC, dI) vwCl (hW N ca b I O J) t.heap) A) 1 6 A := by
  refine va_MetW (cc := cL_isCalledIn) (maxL := 3) (ret := (some .int)) (by decide) rfl ?_
  intro p e s m args below meth c s₁ B hml hv
  obtain ⟨rfl, hP, hK, hA2, hth⟩ := hv
  have hx := B.exec
  have hb := B.bytes
  have hr := B.returns
  have hlk := B.notSynchronized
  have X : gCx p s m ([.ref (b 0), .int a1] : List Value).toArray c RL cL_isCalledIn wsL_isCalledIn 3 dC dI ca b A N := ⟨hx, hb, hml, findClass_of_methodNamed B.named, atoms_spec (ws := wsL_isCalledIn) B.pre, hK, hA, hA2, hth⟩
  have htab : c.exceptionTable.toList = tableOf [(0, 13, 14, 23)] := vx_table (x := yL_isCalledIn) B (atoms_spec (ws := wsL_isCalledIn) B.pre _ (List.mem_of_getElem? (i := 0) rfl))
  have hS : va_S A s.heap s.heap [] := va_S.rf
  have hl := lv_entry ([.ref (b 0), .int a1] : List Value) (n := 3) (Nat.le_of_ble_eq_true rfl)
  rw [lg_entry_eq]
  generalize (lg_sl ([.ref (b 0), .int a1] : List Value) ++ List.replicate (3 - (lg_sl ([.ref (b 0), .int a1] : List Value)).length) Slot.unset).toArray = ls at hl ⊢
  have hl : lv_has ls 3 [(0, .ref (b 0)), (1, .int a1)] := hl
  unfold f_L_isCalledIn at h
  refine lv_aload_n hx hb dL_isCalledIn_0 rfl (lv_at hl 0 rfl) ?_
  refine lv_iload_n hx hb dL_isCalledIn_1 rfl (lv_at hl 1 rfl) ?_
  obtain ⟨q2, hcq2, h⟩ := hb_some h
  refine gxV_i (As := [.int a1]) (rest := []) (BH := (fun (u : Unit) H => va_P (dC, dI) vwCl (hW N ca b I O J) H)) (BX := (fun (u : Unit) H => va_P (dC, dI) vwCl (hW N ca b I O J) H)) X hP hS (c_X7_isCalledIn hlf hN hA I O J a1 q2 hcq2) (cwV 1 X.ts gL_isCalledIn_X7_isCalledIn rfl rfl rfl (by decide +kernel) ⟨Nat.le_of_ble_eq_true rfl, Nat.le_of_ble_eq_true rfl⟩) (gr7 X hP kc_0 (sk_in hN kc_0 (by decide))) rfl hl.1 rfl (Nat.le_of_ble_eq_true rfl) dL_isCalledIn_2 ⟨Nat.le_of_ble_eq_true rfl, Nat.le_of_ble_eq_true rfl⟩ (fun k9 u9 H locs ce9 q9 hw hP hS hce hcv hcl => ?_) (fun r1 u9 H locs hw hP hS => ?_)
  · subst hw
    have h := hsum_l h
    by_cases hk0 : k9 = 0
    · have h := gif_t hk0 h
      subst hk0
      refine vx_catch X.ow [] ⟨0, 13, 14, 23⟩ [] htab (fun z hz => absurd hz List.not_mem_nil) (by decide) (by decide) (X.ts _ (List.mem_of_getElem? (i := 1) rfl)) (va_Nw.use rfl (X.th.2.1.1 0 (by decide))) hce hcv hcl ?_
      refine lv_astore_n (lv' := [(2, .ref q9), (0, .ref (b 0)), (1, .int a1)]) hx hb dL_isCalledIn_14 rfl hl (by decide) rfl (fun ls hl => ?_)
      refine lv_bipush (v := (-2)) hx hb dL_isCalledIn_15 (by decide) ?_
      refine W.widen (k := 1) (n := 6) (Nat.le_of_ble_eq_true rfl) (Nat.le_of_ble_eq_true rfl) ?_
      exact W.iret hx hb hr (fun t9 ht hW => ⟨⟨(-2 : Int32), (), rfl, (Option.some.inj h).symm, gEnd ht hP⟩, hS.F ht⟩) hS.2.2 dL_isCalledIn_17 hlk
    have h := gif_f hk0 h
    cases h
  subst hw
  have h := hsum_r h
  refine lv_if_eq (tgt := 12) hx hb dL_isCalledIn_5 (by decide) (fun c3 => ?_) (fun c3 => ?_)
  · have h := gif_t c3 h
    refine lv_iconst (v := 0) hx hb dL_isCalledIn_12 (by decide) ?_
    refine W.widen (k := 1) (n := 6) (Nat.le_of_ble_eq_true rfl) (Nat.le_of_ble_eq_true rfl) ?_
    exact W.iret hx hb hr (fun t9 ht hW => ⟨⟨(0 : Int32), (), rfl, (Option.some.inj h).symm, gEnd ht hP⟩, hS.F ht⟩) hS.2.2 dL_isCalledIn_13 hlk
  · have h := gif_f c3 h
    refine lv_iconst (v := 1) hx hb dL_isCalledIn_8 (by decide) ?_
    refine lv_goto (tgt := 13) hx hb dL_isCalledIn_9 (by decide) ?_
    refine W.widen (k := 1) (n := 6) (Nat.le_of_ble_eq_true rfl) (Nat.le_of_ble_eq_true rfl) ?_
    exact W.iret hx hb hr (fun t9 ht hW => ⟨⟨(1 : Int32), (), rfl, (Option.some.inj h).symm, gEnd ht hP⟩, hS.F ht⟩) hS.2.2 dL_isCalledIn_13 hlk
def f_L_limitOf (a1 : Int32) (I : Nat → Nat → Int32) : Option (Int32) :=
  (f_X7_limitOf a1 I).bind fun eq2 => hsum eq2 (fun k9 => 
    if k9 = 0 then
      some (-2 : Int32)
    else
    none) fun r1 =>
  some r1
set_option maxHeartbeats 8000000 in
set_option maxRecDepth 100000 in
theorem c_L_limitOf {l : Launch} (hlf : l.stackTraces = false) {dC : Nat → ClassId} {dI : Nat → Nat → Nat} {ca : Nat → ClassId} {b : Nat → Nat} {A : Nat → Prop} {N : Nat} (hN : 129 ≤ N) (hA : gAd A b N) (I : Nat → Nat → Int32) (O : Nat → Nat → Option Nat) (J : Nat → Nat → Int64) (a1 : Int32) (res : Int32) (h : f_L_limitOf a1 I = some res) : Met l yL_limitOf wsL_limitOf ({ frames := 8, cells := 1, slots := 6, locals := 131 } : Room) (va_Pc [.ref (b 0), .int a1] (gPre dC dI ca b A N I O J)) (va_Qi (fun (r : Int32) (u : Unit) => res = r) (fun (u : Unit) t => va_P (dC, dI) vwCl (hW N ca b I O J) t.heap) A) 1 6 A := by
  refine va_MetW (cc := cL_limitOf) (maxL := 3) (ret := (some .int)) (by decide) rfl ?_
  intro p e s m args below meth c s₁ B hml hv
  obtain ⟨rfl, hP, hK, hA2, hth⟩ := hv
  have hx := B.exec
  have hb := B.bytes
  have hr := B.returns
  have hlk := B.notSynchronized
  have X : gCx p s m ([.ref (b 0), .int a1] : List Value).toArray c RL cL_limitOf wsL_limitOf 3 dC dI ca b A N := ⟨hx, hb, hml, findClass_of_methodNamed B.named, atoms_spec (ws := wsL_limitOf) B.pre, hK, hA, hA2, hth⟩
  have htab : c.exceptionTable.toList = tableOf [(0, 5, 6, 23)] := vx_table (x := yL_limitOf) B (atoms_spec (ws := wsL_limitOf) B.pre _ (List.mem_of_getElem? (i := 0) rfl))
  have hS : va_S A s.heap s.heap [] := va_S.rf
  have hl := lv_entry ([.ref (b 0), .int a1] : List Value) (n := 3) (Nat.le_of_ble_eq_true rfl)
  rw [lg_entry_eq]
  generalize (lg_sl ([.ref (b 0), .int a1] : List Value) ++ List.replicate (3 - (lg_sl ([.ref (b 0), .int a1] : List Value)).length) Slot.unset).toArray = ls at hl ⊢
  have hl : lv_has ls 3 [(0, .ref (b 0)), (1, .int a1)] := hl
  unfold f_L_limitOf at h
  refine lv_aload_n hx hb dL_limitOf_0 rfl (lv_at hl 0 rfl) ?_
  refine lv_iload_n hx hb dL_limitOf_1 rfl (lv_at hl 1 rfl) ?_
  obtain ⟨q2, hcq2, h⟩ := hb_some h
  refine gxV_i (As := [.int a1]) (rest := []) (BH := (fun (u : Unit) H => va_P (dC, dI) vwCl (hW N ca b I O J) H)) (BX := (fun (u : Unit) H => va_P (dC, dI) vwCl (hW N ca b I O J) H)) X hP hS (c_X7_limitOf hlf hN hA I O J a1 q2 hcq2) (cwV 1 X.ts gL_limitOf_X7_limitOf rfl rfl rfl (by decide +kernel) ⟨Nat.le_of_ble_eq_true rfl, Nat.le_of_ble_eq_true rfl⟩) (gr7 X hP kc_0 (sk_in hN kc_0 (by decide))) rfl hl.1 rfl (Nat.le_of_ble_eq_true rfl) dL_limitOf_2 ⟨Nat.le_of_ble_eq_true rfl, Nat.le_of_ble_eq_true rfl⟩ (fun k9 u9 H locs ce9 q9 hw hP hS hce hcv hcl => ?_) (fun r1 u9 H locs hw hP hS => ?_)
  · subst hw
    have h := hsum_l h
    by_cases hk0 : k9 = 0
    · have h := gif_t hk0 h
      subst hk0
      refine vx_catch X.ow [] ⟨0, 5, 6, 23⟩ [] htab (fun z hz => absurd hz List.not_mem_nil) (by decide) (by decide) (X.ts _ (List.mem_of_getElem? (i := 1) rfl)) (va_Nw.use rfl (X.th.2.1.1 0 (by decide))) hce hcv hcl ?_
      refine lv_astore_n (lv' := [(2, .ref q9), (0, .ref (b 0)), (1, .int a1)]) hx hb dL_limitOf_6 rfl hl (by decide) rfl (fun ls hl => ?_)
      refine lv_bipush (v := (-2)) hx hb dL_limitOf_7 (by decide) ?_
      refine W.widen (k := 1) (n := 6) (Nat.le_of_ble_eq_true rfl) (Nat.le_of_ble_eq_true rfl) ?_
      exact W.iret hx hb hr (fun t9 ht hW => ⟨⟨(-2 : Int32), (), rfl, (Option.some.inj h).symm, gEnd ht hP⟩, hS.F ht⟩) hS.2.2 dL_limitOf_9 hlk
    have h := gif_f hk0 h
    cases h
  subst hw
  have h := hsum_r h
  refine W.widen (k := 1) (n := 6) (Nat.le_of_ble_eq_true rfl) (Nat.le_of_ble_eq_true rfl) ?_
  exact W.iret hx hb hr (fun t9 ht hW => ⟨⟨r1, (), rfl, (Option.some.inj h).symm, gEnd ht hP⟩, hS.F ht⟩) hS.2.2 dL_limitOf_5 hlk
def f_L_placeByCounting (a1 : Int32) (I : Nat → Nat → Int32) : Option (Int32) :=
  (f_X7_placeByCounting a1 I).bind fun eq2 => hsum eq2 (fun k9 => 
    if k9 = 0 then
      some (-2 : Int32)
    else
    none) fun r1 =>
  some r1
set_option maxHeartbeats 8000000 in
set_option maxRecDepth 100000 in
theorem c_L_placeByCounting {l : Launch} (hlf : l.stackTraces = false) {dC : Nat → ClassId} {dI : Nat → Nat → Nat} {ca : Nat → ClassId} {b : Nat → Nat} {A : Nat → Prop} {N : Nat} (hN : 129 ≤ N) (hA : gAd A b N) (I : Nat → Nat → Int32) (O : Nat → Nat → Option Nat) (J : Nat → Nat → Int64) (a1 : Int32) (res : Int32) (h : f_L_placeByCounting a1 I = some res) : Met l yL_placeByCounting wsL_placeByCounting ({ frames := 8, cells := 1, slots := 6, locals := 133 } : Room) (va_Pc [.ref (b 0), .int a1] (gPre dC dI ca b A N I O J)) (va_Qi (fun (r : Int32) (u : Unit) => res = r) (fun (u : Unit) t => va_P (dC, dI) vwCl (hW N ca b I O J) t.heap) A) 1 6 A := by
  refine va_MetW (cc := cL_placeByCounting) (maxL := 3) (ret := (some .int)) (by decide) rfl ?_
  intro p e s m args below meth c s₁ B hml hv
  obtain ⟨rfl, hP, hK, hA2, hth⟩ := hv
  have hx := B.exec
  have hb := B.bytes
  have hr := B.returns
  have hlk := B.notSynchronized
  have X : gCx p s m ([.ref (b 0), .int a1] : List Value).toArray c RL cL_placeByCounting wsL_placeByCounting 3 dC dI ca b A N := ⟨hx, hb, hml, findClass_of_methodNamed B.named, atoms_spec (ws := wsL_placeByCounting) B.pre, hK, hA, hA2, hth⟩
  have htab : c.exceptionTable.toList = tableOf [(0, 5, 6, 23)] := vx_table (x := yL_placeByCounting) B (atoms_spec (ws := wsL_placeByCounting) B.pre _ (List.mem_of_getElem? (i := 0) rfl))
  have hS : va_S A s.heap s.heap [] := va_S.rf
  have hl := lv_entry ([.ref (b 0), .int a1] : List Value) (n := 3) (Nat.le_of_ble_eq_true rfl)
  rw [lg_entry_eq]
  generalize (lg_sl ([.ref (b 0), .int a1] : List Value) ++ List.replicate (3 - (lg_sl ([.ref (b 0), .int a1] : List Value)).length) Slot.unset).toArray = ls at hl ⊢
  have hl : lv_has ls 3 [(0, .ref (b 0)), (1, .int a1)] := hl
  unfold f_L_placeByCounting at h
  refine lv_aload_n hx hb dL_placeByCounting_0 rfl (lv_at hl 0 rfl) ?_
  refine lv_iload_n hx hb dL_placeByCounting_1 rfl (lv_at hl 1 rfl) ?_
  obtain ⟨q2, hcq2, h⟩ := hb_some h
  refine gxV_i (As := [.int a1]) (rest := []) (BH := (fun (u : Unit) H => va_P (dC, dI) vwCl (hW N ca b I O J) H)) (BX := (fun (u : Unit) H => va_P (dC, dI) vwCl (hW N ca b I O J) H)) X hP hS (c_X7_placeByCounting hlf hN hA I O J a1 q2 hcq2) (cwV 1 X.ts gL_placeByCounting_X7_placeByCounting rfl rfl rfl (by decide +kernel) ⟨Nat.le_of_ble_eq_true rfl, Nat.le_of_ble_eq_true rfl⟩) (gr7 X hP kc_0 (sk_in hN kc_0 (by decide))) rfl hl.1 rfl (Nat.le_of_ble_eq_true rfl) dL_placeByCounting_2 ⟨Nat.le_of_ble_eq_true rfl, Nat.le_of_ble_eq_true rfl⟩ (fun k9 u9 H locs ce9 q9 hw hP hS hce hcv hcl => ?_) (fun r1 u9 H locs hw hP hS => ?_)
  · subst hw
    have h := hsum_l h
    by_cases hk0 : k9 = 0
    · have h := gif_t hk0 h
      subst hk0
      refine vx_catch X.ow [] ⟨0, 5, 6, 23⟩ [] htab (fun z hz => absurd hz List.not_mem_nil) (by decide) (by decide) (X.ts _ (List.mem_of_getElem? (i := 1) rfl)) (va_Nw.use rfl (X.th.2.1.1 0 (by decide))) hce hcv hcl ?_
      refine lv_astore_n (lv' := [(2, .ref q9), (0, .ref (b 0)), (1, .int a1)]) hx hb dL_placeByCounting_6 rfl hl (by decide) rfl (fun ls hl => ?_)
      refine lv_bipush (v := (-2)) hx hb dL_placeByCounting_7 (by decide) ?_
      refine W.widen (k := 1) (n := 6) (Nat.le_of_ble_eq_true rfl) (Nat.le_of_ble_eq_true rfl) ?_
      exact W.iret hx hb hr (fun t9 ht hW => ⟨⟨(-2 : Int32), (), rfl, (Option.some.inj h).symm, gEnd ht hP⟩, hS.F ht⟩) hS.2.2 dL_placeByCounting_9 hlk
    have h := gif_f hk0 h
    cases h
  subst hw
  have h := hsum_r h
  refine W.widen (k := 1) (n := 6) (Nat.le_of_ble_eq_true rfl) (Nat.le_of_ble_eq_true rfl) ?_
  exact W.iret hx hb hr (fun t9 ht hW => ⟨⟨r1, (), rfl, (Option.some.inj h).symm, gEnd ht hP⟩, hS.F ht⟩) hS.2.2 dL_placeByCounting_5 hlk
def f_L_birdByOrder (a1 : Int32) (I : Nat → Nat → Int32) (O : Nat → Nat → Option Nat) : Option (Int32 × (Nat → Nat → Option Nat)) :=
  (f_X7_birdByOrder a1 I O).bind fun (eq3, O1) => hsum eq3 (fun k9 => 
    if k9 = 0 then
      some ((-2 : Int32), O1)
    else
    none) fun r2 =>
  some (r2, O1)
set_option maxHeartbeats 8000000 in
set_option maxRecDepth 100000 in
theorem c_L_birdByOrder {l : Launch} (hlf : l.stackTraces = false) {dC : Nat → ClassId} {dI : Nat → Nat → Nat} {ca : Nat → ClassId} {b : Nat → Nat} {A : Nat → Prop} {N : Nat} (hN : 129 ≤ N) (hA : gAd A b N) (I : Nat → Nat → Int32) (O : Nat → Nat → Option Nat) (J : Nat → Nat → Int64) (a1 : Int32) (res : Int32 × (Nat → Nat → Option Nat)) (h : f_L_birdByOrder a1 I O = some res) : Met l yL_birdByOrder wsL_birdByOrder ({ frames := 7, cells := 1, slots := 6, locals := 112 } : Room) (va_Pc [.ref (b 0), .int a1] (gPre dC dI ca b A N I O J)) (va_Qi (fun (r : Int32) (u : Nat → Nat → Option Nat) => res = (r, u)) (fun (u : Nat → Nat → Option Nat) t => va_P (dC, dI) vwCl (hW N ca b I u J) t.heap) A) 1 6 A := by
  refine va_MetW (cc := cL_birdByOrder) (maxL := 3) (ret := (some .int)) (by decide) rfl ?_
  intro p e s m args below meth c s₁ B hml hv
  obtain ⟨rfl, hP, hK, hA2, hth⟩ := hv
  have hx := B.exec
  have hb := B.bytes
  have hr := B.returns
  have hlk := B.notSynchronized
  have X : gCx p s m ([.ref (b 0), .int a1] : List Value).toArray c RL cL_birdByOrder wsL_birdByOrder 3 dC dI ca b A N := ⟨hx, hb, hml, findClass_of_methodNamed B.named, atoms_spec (ws := wsL_birdByOrder) B.pre, hK, hA, hA2, hth⟩
  have htab : c.exceptionTable.toList = tableOf [(0, 5, 6, 23)] := vx_table (x := yL_birdByOrder) B (atoms_spec (ws := wsL_birdByOrder) B.pre _ (List.mem_of_getElem? (i := 0) rfl))
  have hS : va_S A s.heap s.heap [] := va_S.rf
  have hl := lv_entry ([.ref (b 0), .int a1] : List Value) (n := 3) (Nat.le_of_ble_eq_true rfl)
  rw [lg_entry_eq]
  generalize (lg_sl ([.ref (b 0), .int a1] : List Value) ++ List.replicate (3 - (lg_sl ([.ref (b 0), .int a1] : List Value)).length) Slot.unset).toArray = ls at hl ⊢
  have hl : lv_has ls 3 [(0, .ref (b 0)), (1, .int a1)] := hl
  unfold f_L_birdByOrder at h
  refine lv_aload_n hx hb dL_birdByOrder_0 rfl (lv_at hl 0 rfl) ?_
  refine lv_iload_n hx hb dL_birdByOrder_1 rfl (lv_at hl 1 rfl) ?_
  obtain ⟨q3, hcq3, h⟩ := hb_some h
  refine gxV_i (As := [.int a1]) (rest := []) (BH := (fun (u : Nat → Nat → Option Nat) H => va_P (dC, dI) vwCl (hW N ca b I u J) H)) (BX := (fun (u : Nat → Nat → Option Nat) H => va_P (dC, dI) vwCl (hW N ca b I u J) H)) X hP hS (c_X7_birdByOrder hlf hN hA I O J a1 q3 hcq3) (cwV 1 X.ts gL_birdByOrder_X7_birdByOrder rfl rfl rfl (by decide +kernel) ⟨Nat.le_of_ble_eq_true rfl, Nat.le_of_ble_eq_true rfl⟩) (gr7 X hP kc_0 (sk_in hN kc_0 (by decide))) rfl hl.1 rfl (Nat.le_of_ble_eq_true rfl) dL_birdByOrder_2 ⟨Nat.le_of_ble_eq_true rfl, Nat.le_of_ble_eq_true rfl⟩ (fun k9 O1 H locs ce9 q9 hw hP hS hce hcv hcl => ?_) (fun r2 O1 H locs hw hP hS => ?_)
  · subst hw
    have h := hsum_l h
    by_cases hk0 : k9 = 0
    · have h := gif_t hk0 h
      subst hk0
      refine vx_catch X.ow [] ⟨0, 5, 6, 23⟩ [] htab (fun z hz => absurd hz List.not_mem_nil) (by decide) (by decide) (X.ts _ (List.mem_of_getElem? (i := 1) rfl)) (va_Nw.use rfl (X.th.2.1.1 0 (by decide))) hce hcv hcl ?_
      refine lv_astore_n (lv' := [(2, .ref q9), (0, .ref (b 0)), (1, .int a1)]) hx hb dL_birdByOrder_6 rfl hl (by decide) rfl (fun ls hl => ?_)
      refine lv_bipush (v := (-2)) hx hb dL_birdByOrder_7 (by decide) ?_
      refine W.widen (k := 1) (n := 6) (Nat.le_of_ble_eq_true rfl) (Nat.le_of_ble_eq_true rfl) ?_
      exact W.iret hx hb hr (fun t9 ht hW => ⟨⟨(-2 : Int32), O1, rfl, (Option.some.inj h).symm, gEnd ht hP⟩, hS.F ht⟩) hS.2.2 dL_birdByOrder_9 hlk
    have h := gif_f hk0 h
    cases h
  subst hw
  have h := hsum_r h
  refine W.widen (k := 1) (n := 6) (Nat.le_of_ble_eq_true rfl) (Nat.le_of_ble_eq_true rfl) ?_
  exact W.iret hx hb hr (fun t9 ht hW => ⟨⟨r2, O1, rfl, (Option.some.inj h).symm, gEnd ht hP⟩, hS.F ht⟩) hS.2.2 dL_birdByOrder_5 hlk
def f_L_gapAhead (a1 : Int32) (I : Nat → Nat → Int32) : Option (Int32) :=
  (f_X7_gapAhead a1 I).bind fun eq2 => hsum eq2 (fun k9 => 
    if k9 = 0 then
      some (-2 : Int32)
    else
    none) fun r1 =>
  some r1
set_option maxHeartbeats 8000000 in
set_option maxRecDepth 100000 in
theorem c_L_gapAhead {l : Launch} (hlf : l.stackTraces = false) {dC : Nat → ClassId} {dI : Nat → Nat → Nat} {ca : Nat → ClassId} {b : Nat → Nat} {A : Nat → Prop} {N : Nat} (hN : 129 ≤ N) (hA : gAd A b N) (I : Nat → Nat → Int32) (O : Nat → Nat → Option Nat) (J : Nat → Nat → Int64) (a1 : Int32) (res : Int32) (h : f_L_gapAhead a1 I = some res) : Met l yL_gapAhead wsL_gapAhead ({ frames := 8, cells := 1, slots := 6, locals := 133 } : Room) (va_Pc [.ref (b 0), .int a1] (gPre dC dI ca b A N I O J)) (va_Qi (fun (r : Int32) (u : Unit) => res = r) (fun (u : Unit) t => va_P (dC, dI) vwCl (hW N ca b I O J) t.heap) A) 1 6 A := by
  refine va_MetW (cc := cL_gapAhead) (maxL := 3) (ret := (some .int)) (by decide) rfl ?_
  intro p e s m args below meth c s₁ B hml hv
  obtain ⟨rfl, hP, hK, hA2, hth⟩ := hv
  have hx := B.exec
  have hb := B.bytes
  have hr := B.returns
  have hlk := B.notSynchronized
  have X : gCx p s m ([.ref (b 0), .int a1] : List Value).toArray c RL cL_gapAhead wsL_gapAhead 3 dC dI ca b A N := ⟨hx, hb, hml, findClass_of_methodNamed B.named, atoms_spec (ws := wsL_gapAhead) B.pre, hK, hA, hA2, hth⟩
  have htab : c.exceptionTable.toList = tableOf [(0, 5, 6, 23)] := vx_table (x := yL_gapAhead) B (atoms_spec (ws := wsL_gapAhead) B.pre _ (List.mem_of_getElem? (i := 0) rfl))
  have hS : va_S A s.heap s.heap [] := va_S.rf
  have hl := lv_entry ([.ref (b 0), .int a1] : List Value) (n := 3) (Nat.le_of_ble_eq_true rfl)
  rw [lg_entry_eq]
  generalize (lg_sl ([.ref (b 0), .int a1] : List Value) ++ List.replicate (3 - (lg_sl ([.ref (b 0), .int a1] : List Value)).length) Slot.unset).toArray = ls at hl ⊢
  have hl : lv_has ls 3 [(0, .ref (b 0)), (1, .int a1)] := hl
  unfold f_L_gapAhead at h
  refine lv_aload_n hx hb dL_gapAhead_0 rfl (lv_at hl 0 rfl) ?_
  refine lv_iload_n hx hb dL_gapAhead_1 rfl (lv_at hl 1 rfl) ?_
  obtain ⟨q2, hcq2, h⟩ := hb_some h
  refine gxV_i (As := [.int a1]) (rest := []) (BH := (fun (u : Unit) H => va_P (dC, dI) vwCl (hW N ca b I O J) H)) (BX := (fun (u : Unit) H => va_P (dC, dI) vwCl (hW N ca b I O J) H)) X hP hS (c_X7_gapAhead hlf hN hA I O J a1 q2 hcq2) (cwV 1 X.ts gL_gapAhead_X7_gapAhead rfl rfl rfl (by decide +kernel) ⟨Nat.le_of_ble_eq_true rfl, Nat.le_of_ble_eq_true rfl⟩) (gr7 X hP kc_0 (sk_in hN kc_0 (by decide))) rfl hl.1 rfl (Nat.le_of_ble_eq_true rfl) dL_gapAhead_2 ⟨Nat.le_of_ble_eq_true rfl, Nat.le_of_ble_eq_true rfl⟩ (fun k9 u9 H locs ce9 q9 hw hP hS hce hcv hcl => ?_) (fun r1 u9 H locs hw hP hS => ?_)
  · subst hw
    have h := hsum_l h
    by_cases hk0 : k9 = 0
    · have h := gif_t hk0 h
      subst hk0
      refine vx_catch X.ow [] ⟨0, 5, 6, 23⟩ [] htab (fun z hz => absurd hz List.not_mem_nil) (by decide) (by decide) (X.ts _ (List.mem_of_getElem? (i := 1) rfl)) (va_Nw.use rfl (X.th.2.1.1 0 (by decide))) hce hcv hcl ?_
      refine lv_astore_n (lv' := [(2, .ref q9), (0, .ref (b 0)), (1, .int a1)]) hx hb dL_gapAhead_6 rfl hl (by decide) rfl (fun ls hl => ?_)
      refine lv_bipush (v := (-2)) hx hb dL_gapAhead_7 (by decide) ?_
      refine W.widen (k := 1) (n := 6) (Nat.le_of_ble_eq_true rfl) (Nat.le_of_ble_eq_true rfl) ?_
      exact W.iret hx hb hr (fun t9 ht hW => ⟨⟨(-2 : Int32), (), rfl, (Option.some.inj h).symm, gEnd ht hP⟩, hS.F ht⟩) hS.2.2 dL_gapAhead_9 hlk
    have h := gif_f hk0 h
    cases h
  subst hw
  have h := hsum_r h
  refine W.widen (k := 1) (n := 6) (Nat.le_of_ble_eq_true rfl) (Nat.le_of_ble_eq_true rfl) ?_
  exact W.iret hx hb hr (fun t9 ht hW => ⟨⟨r1, (), rfl, (Option.some.inj h).symm, gEnd ht hP⟩, hS.F ht⟩) hS.2.2 dL_gapAhead_5 hlk
def f_L_isDrafting (a1 : Int32) (I : Nat → Nat → Int32) : Option (Int32) :=
  (f_X7_isDrafting a1 I).bind fun eq2 => hsum eq2 (fun k9 => 
    if k9 = 0 then
      some (-2 : Int32)
    else
    if k9 = 2 then
      some (-4 : Int32)
    else
    none) fun r1 =>
  if r1 = 0 then
    some (0 : Int32)
  else
    some (1 : Int32)
set_option maxHeartbeats 8000000 in
set_option maxRecDepth 100000 in
theorem c_L_isDrafting {l : Launch} (hlf : l.stackTraces = false) {dC : Nat → ClassId} {dI : Nat → Nat → Nat} {ca : Nat → ClassId} {b : Nat → Nat} {A : Nat → Prop} {N : Nat} (hN : 129 ≤ N) (hA : gAd A b N) (I : Nat → Nat → Int32) (O : Nat → Nat → Option Nat) (J : Nat → Nat → Int64) (a1 : Int32) (res : Int32) (h : f_L_isDrafting a1 I = some res) : Met l yL_isDrafting wsL_isDrafting ({ frames := 9, cells := 2, slots := 12, locals := 156 } : Room) (va_Pc [.ref (b 0), .int a1] (gPre dC dI ca b A N I O J)) (va_Qi (fun (r : Int32) (u : Unit) => res = r) (fun (u : Unit) t => va_P (dC, dI) vwCl (hW N ca b I O J) t.heap) A) 2 12 A := by
  refine va_MetW (cc := cL_isDrafting) (maxL := 3) (ret := (some .int)) (by decide) rfl ?_
  intro p e s m args below meth c s₁ B hml hv
  obtain ⟨rfl, hP, hK, hA2, hth⟩ := hv
  have hx := B.exec
  have hb := B.bytes
  have hr := B.returns
  have hlk := B.notSynchronized
  have X : gCx p s m ([.ref (b 0), .int a1] : List Value).toArray c RL cL_isDrafting wsL_isDrafting 3 dC dI ca b A N := ⟨hx, hb, hml, findClass_of_methodNamed B.named, atoms_spec (ws := wsL_isDrafting) B.pre, hK, hA, hA2, hth⟩
  have htab : c.exceptionTable.toList = tableOf [(0, 13, 14, 23), (0, 13, 18, 17)] := vx_table (x := yL_isDrafting) B (atoms_spec (ws := wsL_isDrafting) B.pre _ (List.mem_of_getElem? (i := 0) rfl))
  have hS : va_S A s.heap s.heap [] := va_S.rf
  have hl := lv_entry ([.ref (b 0), .int a1] : List Value) (n := 3) (Nat.le_of_ble_eq_true rfl)
  rw [lg_entry_eq]
  generalize (lg_sl ([.ref (b 0), .int a1] : List Value) ++ List.replicate (3 - (lg_sl ([.ref (b 0), .int a1] : List Value)).length) Slot.unset).toArray = ls at hl ⊢
  have hl : lv_has ls 3 [(0, .ref (b 0)), (1, .int a1)] := hl
  unfold f_L_isDrafting at h
  refine lv_aload_n hx hb dL_isDrafting_0 rfl (lv_at hl 0 rfl) ?_
  refine lv_iload_n hx hb dL_isDrafting_1 rfl (lv_at hl 1 rfl) ?_
  obtain ⟨q2, hcq2, h⟩ := hb_some h
  refine gxV_i (As := [.int a1]) (rest := []) (BH := (fun (u : Unit) H => va_P (dC, dI) vwCl (hW N ca b I O J) H)) (BX := (fun (u : Unit) H => va_P (dC, dI) vwCl (hW N ca b I O J) H)) X hP hS (c_X7_isDrafting hlf hN hA I O J a1 q2 hcq2) (cwV 1 X.ts gL_isDrafting_X7_isDrafting rfl rfl rfl (by decide +kernel) ⟨Nat.le_of_ble_eq_true rfl, Nat.le_of_ble_eq_true rfl⟩) (gr7 X hP kc_0 (sk_in hN kc_0 (by decide))) rfl hl.1 rfl (Nat.le_of_ble_eq_true rfl) dL_isDrafting_2 ⟨Nat.le_of_ble_eq_true rfl, Nat.le_of_ble_eq_true rfl⟩ (fun k9 u9 H locs ce9 q9 hw hP hS hce hcv hcl => ?_) (fun r1 u9 H locs hw hP hS => ?_)
  · subst hw
    have h := hsum_l h
    by_cases hk0 : k9 = 0
    · have h := gif_t hk0 h
      subst hk0
      refine vx_catch X.ow [] ⟨0, 13, 14, 23⟩ [⟨0, 13, 18, 17⟩] htab (fun z hz => absurd hz List.not_mem_nil) (by decide) (by decide) (X.ts _ (List.mem_of_getElem? (i := 1) rfl)) (va_Nw.use rfl (X.th.2.1.1 0 (by decide))) hce hcv hcl ?_
      refine lv_astore_n (lv' := [(2, .ref q9), (0, .ref (b 0)), (1, .int a1)]) hx hb dL_isDrafting_14 rfl hl (by decide) rfl (fun ls hl => ?_)
      refine lv_bipush (v := (-2)) hx hb dL_isDrafting_15 (by decide) ?_
      refine W.widen (k := 2) (n := 12) (Nat.le_of_ble_eq_true rfl) (Nat.le_of_ble_eq_true rfl) ?_
      exact W.iret hx hb hr (fun t9 ht hW => ⟨⟨(-2 : Int32), (), rfl, (Option.some.inj h).symm, gEnd ht hP⟩, hS.F ht⟩) hS.2.2 dL_isDrafting_17 hlk
    have h := gif_f hk0 h
    by_cases hk2 : k9 = 2
    · have h := gif_t hk2 h
      subst hk2
      refine vx_catch X.ow [⟨0, 13, 14, 23⟩] ⟨0, 13, 18, 17⟩ [] htab (fun z hz => by
        rcases List.mem_cons.mp hz with rfl | hz
        · exact Or.inr ⟨by decide, _, X.ts _ (List.mem_of_getElem? (i := 1) rfl), X.th.2.1.2.2.2 2 0 (by decide) (by decide) (by decide)⟩
        · exact absurd hz List.not_mem_nil) (by decide) (by decide) (X.ts _ (List.mem_of_getElem? (i := 2) rfl)) (va_Nw.use rfl (X.th.2.1.1 2 (by decide))) hce hcv hcl ?_
      refine lv_astore_n (lv' := [(2, .ref q9), (0, .ref (b 0)), (1, .int a1)]) hx hb dL_isDrafting_18 rfl hl (by decide) rfl (fun ls hl => ?_)
      refine lv_bipush (v := (-4)) hx hb dL_isDrafting_19 (by decide) ?_
      refine W.widen (k := 2) (n := 12) (Nat.le_of_ble_eq_true rfl) (Nat.le_of_ble_eq_true rfl) ?_
      exact W.iret hx hb hr (fun t9 ht hW => ⟨⟨(-4 : Int32), (), rfl, (Option.some.inj h).symm, gEnd ht hP⟩, hS.F ht⟩) hS.2.2 dL_isDrafting_21 hlk
    have h := gif_f hk2 h
    cases h
  subst hw
  have h := hsum_r h
  refine lv_if_eq (tgt := 12) hx hb dL_isDrafting_5 (by decide) (fun c3 => ?_) (fun c3 => ?_)
  · have h := gif_t c3 h
    refine lv_iconst (v := 0) hx hb dL_isDrafting_12 (by decide) ?_
    refine W.widen (k := 2) (n := 12) (Nat.le_of_ble_eq_true rfl) (Nat.le_of_ble_eq_true rfl) ?_
    exact W.iret hx hb hr (fun t9 ht hW => ⟨⟨(0 : Int32), (), rfl, (Option.some.inj h).symm, gEnd ht hP⟩, hS.F ht⟩) hS.2.2 dL_isDrafting_13 hlk
  · have h := gif_f c3 h
    refine lv_iconst (v := 1) hx hb dL_isDrafting_8 (by decide) ?_
    refine lv_goto (tgt := 13) hx hb dL_isDrafting_9 (by decide) ?_
    refine W.widen (k := 2) (n := 12) (Nat.le_of_ble_eq_true rfl) (Nat.le_of_ble_eq_true rfl) ?_
    exact W.iret hx hb hr (fun t9 ht hW => ⟨⟨(1 : Int32), (), rfl, (Option.some.inj h).symm, gEnd ht hP⟩, hS.F ht⟩) hS.2.2 dL_isDrafting_13 hlk
def f_L_whereIs (a1 : Int32) (I : Nat → Nat → Int32) : Option (Int32) :=
  (f_X7_whereIs a1 I).bind fun eq2 => hsum eq2 (fun k9 => 
    if k9 = 0 then
      some (-2 : Int32)
    else
    none) fun r1 =>
  some r1
set_option maxHeartbeats 8000000 in
set_option maxRecDepth 100000 in
theorem c_L_whereIs {l : Launch} (hlf : l.stackTraces = false) {dC : Nat → ClassId} {dI : Nat → Nat → Nat} {ca : Nat → ClassId} {b : Nat → Nat} {A : Nat → Prop} {N : Nat} (hN : 129 ≤ N) (hA : gAd A b N) (I : Nat → Nat → Int32) (O : Nat → Nat → Option Nat) (J : Nat → Nat → Int64) (a1 : Int32) (res : Int32) (h : f_L_whereIs a1 I = some res) : Met l yL_whereIs wsL_whereIs ({ frames := 8, cells := 1, slots := 6, locals := 133 } : Room) (va_Pc [.ref (b 0), .int a1] (gPre dC dI ca b A N I O J)) (va_Qi (fun (r : Int32) (u : Unit) => res = r) (fun (u : Unit) t => va_P (dC, dI) vwCl (hW N ca b I O J) t.heap) A) 1 6 A := by
  refine va_MetW (cc := cL_whereIs) (maxL := 3) (ret := (some .int)) (by decide) rfl ?_
  intro p e s m args below meth c s₁ B hml hv
  obtain ⟨rfl, hP, hK, hA2, hth⟩ := hv
  have hx := B.exec
  have hb := B.bytes
  have hr := B.returns
  have hlk := B.notSynchronized
  have X : gCx p s m ([.ref (b 0), .int a1] : List Value).toArray c RL cL_whereIs wsL_whereIs 3 dC dI ca b A N := ⟨hx, hb, hml, findClass_of_methodNamed B.named, atoms_spec (ws := wsL_whereIs) B.pre, hK, hA, hA2, hth⟩
  have htab : c.exceptionTable.toList = tableOf [(0, 5, 6, 23)] := vx_table (x := yL_whereIs) B (atoms_spec (ws := wsL_whereIs) B.pre _ (List.mem_of_getElem? (i := 0) rfl))
  have hS : va_S A s.heap s.heap [] := va_S.rf
  have hl := lv_entry ([.ref (b 0), .int a1] : List Value) (n := 3) (Nat.le_of_ble_eq_true rfl)
  rw [lg_entry_eq]
  generalize (lg_sl ([.ref (b 0), .int a1] : List Value) ++ List.replicate (3 - (lg_sl ([.ref (b 0), .int a1] : List Value)).length) Slot.unset).toArray = ls at hl ⊢
  have hl : lv_has ls 3 [(0, .ref (b 0)), (1, .int a1)] := hl
  unfold f_L_whereIs at h
  refine lv_aload_n hx hb dL_whereIs_0 rfl (lv_at hl 0 rfl) ?_
  refine lv_iload_n hx hb dL_whereIs_1 rfl (lv_at hl 1 rfl) ?_
  obtain ⟨q2, hcq2, h⟩ := hb_some h
  refine gxV_i (As := [.int a1]) (rest := []) (BH := (fun (u : Unit) H => va_P (dC, dI) vwCl (hW N ca b I O J) H)) (BX := (fun (u : Unit) H => va_P (dC, dI) vwCl (hW N ca b I O J) H)) X hP hS (c_X7_whereIs hlf hN hA I O J a1 q2 hcq2) (cwV 1 X.ts gL_whereIs_X7_whereIs rfl rfl rfl (by decide +kernel) ⟨Nat.le_of_ble_eq_true rfl, Nat.le_of_ble_eq_true rfl⟩) (gr7 X hP kc_0 (sk_in hN kc_0 (by decide))) rfl hl.1 rfl (Nat.le_of_ble_eq_true rfl) dL_whereIs_2 ⟨Nat.le_of_ble_eq_true rfl, Nat.le_of_ble_eq_true rfl⟩ (fun k9 u9 H locs ce9 q9 hw hP hS hce hcv hcl => ?_) (fun r1 u9 H locs hw hP hS => ?_)
  · subst hw
    have h := hsum_l h
    by_cases hk0 : k9 = 0
    · have h := gif_t hk0 h
      subst hk0
      refine vx_catch X.ow [] ⟨0, 5, 6, 23⟩ [] htab (fun z hz => absurd hz List.not_mem_nil) (by decide) (by decide) (X.ts _ (List.mem_of_getElem? (i := 1) rfl)) (va_Nw.use rfl (X.th.2.1.1 0 (by decide))) hce hcv hcl ?_
      refine lv_astore_n (lv' := [(2, .ref q9), (0, .ref (b 0)), (1, .int a1)]) hx hb dL_whereIs_6 rfl hl (by decide) rfl (fun ls hl => ?_)
      refine lv_bipush (v := (-2)) hx hb dL_whereIs_7 (by decide) ?_
      refine W.widen (k := 1) (n := 6) (Nat.le_of_ble_eq_true rfl) (Nat.le_of_ble_eq_true rfl) ?_
      exact W.iret hx hb hr (fun t9 ht hW => ⟨⟨(-2 : Int32), (), rfl, (Option.some.inj h).symm, gEnd ht hP⟩, hS.F ht⟩) hS.2.2 dL_whereIs_9 hlk
    have h := gif_f hk0 h
    cases h
  subst hw
  have h := hsum_r h
  refine W.widen (k := 1) (n := 6) (Nat.le_of_ble_eq_true rfl) (Nat.le_of_ble_eq_true rfl) ?_
  exact W.iret hx hb hr (fun t9 ht hW => ⟨⟨r1, (), rfl, (Option.some.inj h).symm, gEnd ht hP⟩, hS.F ht⟩) hS.2.2 dL_whereIs_5 hlk
def f_L_allowance (a1 : Int32) (I : Nat → Nat → Int32) : Option (Int32) :=
  (f_X7_allowance a1 I).bind fun eq2 => hsum eq2 (fun k9 => 
    if k9 = 0 then
      some (-2 : Int32)
    else
    if k9 = 2 then
      some (-4 : Int32)
    else
    none) fun r1 =>
  some r1
set_option maxHeartbeats 8000000 in
set_option maxRecDepth 100000 in
theorem c_L_allowance {l : Launch} (hlf : l.stackTraces = false) {dC : Nat → ClassId} {dI : Nat → Nat → Nat} {ca : Nat → ClassId} {b : Nat → Nat} {A : Nat → Prop} {N : Nat} (hN : 129 ≤ N) (hA : gAd A b N) (I : Nat → Nat → Int32) (O : Nat → Nat → Option Nat) (J : Nat → Nat → Int64) (a1 : Int32) (res : Int32) (h : f_L_allowance a1 I = some res) : Met l yL_allowance wsL_allowance ({ frames := 9, cells := 2, slots := 12, locals := 155 } : Room) (va_Pc [.ref (b 0), .int a1] (gPre dC dI ca b A N I O J)) (va_Qi (fun (r : Int32) (u : Unit) => res = r) (fun (u : Unit) t => va_P (dC, dI) vwCl (hW N ca b I O J) t.heap) A) 2 12 A := by
  refine va_MetW (cc := cL_allowance) (maxL := 3) (ret := (some .int)) (by decide) rfl ?_
  intro p e s m args below meth c s₁ B hml hv
  obtain ⟨rfl, hP, hK, hA2, hth⟩ := hv
  have hx := B.exec
  have hb := B.bytes
  have hr := B.returns
  have hlk := B.notSynchronized
  have X : gCx p s m ([.ref (b 0), .int a1] : List Value).toArray c RL cL_allowance wsL_allowance 3 dC dI ca b A N := ⟨hx, hb, hml, findClass_of_methodNamed B.named, atoms_spec (ws := wsL_allowance) B.pre, hK, hA, hA2, hth⟩
  have htab : c.exceptionTable.toList = tableOf [(0, 5, 6, 23), (0, 5, 10, 17)] := vx_table (x := yL_allowance) B (atoms_spec (ws := wsL_allowance) B.pre _ (List.mem_of_getElem? (i := 0) rfl))
  have hS : va_S A s.heap s.heap [] := va_S.rf
  have hl := lv_entry ([.ref (b 0), .int a1] : List Value) (n := 3) (Nat.le_of_ble_eq_true rfl)
  rw [lg_entry_eq]
  generalize (lg_sl ([.ref (b 0), .int a1] : List Value) ++ List.replicate (3 - (lg_sl ([.ref (b 0), .int a1] : List Value)).length) Slot.unset).toArray = ls at hl ⊢
  have hl : lv_has ls 3 [(0, .ref (b 0)), (1, .int a1)] := hl
  unfold f_L_allowance at h
  refine lv_aload_n hx hb dL_allowance_0 rfl (lv_at hl 0 rfl) ?_
  refine lv_iload_n hx hb dL_allowance_1 rfl (lv_at hl 1 rfl) ?_
  obtain ⟨q2, hcq2, h⟩ := hb_some h
  refine gxV_i (As := [.int a1]) (rest := []) (BH := (fun (u : Unit) H => va_P (dC, dI) vwCl (hW N ca b I O J) H)) (BX := (fun (u : Unit) H => va_P (dC, dI) vwCl (hW N ca b I O J) H)) X hP hS (c_X7_allowance hlf hN hA I O J a1 q2 hcq2) (cwV 1 X.ts gL_allowance_X7_allowance rfl rfl rfl (by decide +kernel) ⟨Nat.le_of_ble_eq_true rfl, Nat.le_of_ble_eq_true rfl⟩) (gr7 X hP kc_0 (sk_in hN kc_0 (by decide))) rfl hl.1 rfl (Nat.le_of_ble_eq_true rfl) dL_allowance_2 ⟨Nat.le_of_ble_eq_true rfl, Nat.le_of_ble_eq_true rfl⟩ (fun k9 u9 H locs ce9 q9 hw hP hS hce hcv hcl => ?_) (fun r1 u9 H locs hw hP hS => ?_)
  · subst hw
    have h := hsum_l h
    by_cases hk0 : k9 = 0
    · have h := gif_t hk0 h
      subst hk0
      refine vx_catch X.ow [] ⟨0, 5, 6, 23⟩ [⟨0, 5, 10, 17⟩] htab (fun z hz => absurd hz List.not_mem_nil) (by decide) (by decide) (X.ts _ (List.mem_of_getElem? (i := 1) rfl)) (va_Nw.use rfl (X.th.2.1.1 0 (by decide))) hce hcv hcl ?_
      refine lv_astore_n (lv' := [(2, .ref q9), (0, .ref (b 0)), (1, .int a1)]) hx hb dL_allowance_6 rfl hl (by decide) rfl (fun ls hl => ?_)
      refine lv_bipush (v := (-2)) hx hb dL_allowance_7 (by decide) ?_
      refine W.widen (k := 2) (n := 12) (Nat.le_of_ble_eq_true rfl) (Nat.le_of_ble_eq_true rfl) ?_
      exact W.iret hx hb hr (fun t9 ht hW => ⟨⟨(-2 : Int32), (), rfl, (Option.some.inj h).symm, gEnd ht hP⟩, hS.F ht⟩) hS.2.2 dL_allowance_9 hlk
    have h := gif_f hk0 h
    by_cases hk2 : k9 = 2
    · have h := gif_t hk2 h
      subst hk2
      refine vx_catch X.ow [⟨0, 5, 6, 23⟩] ⟨0, 5, 10, 17⟩ [] htab (fun z hz => by
        rcases List.mem_cons.mp hz with rfl | hz
        · exact Or.inr ⟨by decide, _, X.ts _ (List.mem_of_getElem? (i := 1) rfl), X.th.2.1.2.2.2 2 0 (by decide) (by decide) (by decide)⟩
        · exact absurd hz List.not_mem_nil) (by decide) (by decide) (X.ts _ (List.mem_of_getElem? (i := 2) rfl)) (va_Nw.use rfl (X.th.2.1.1 2 (by decide))) hce hcv hcl ?_
      refine lv_astore_n (lv' := [(2, .ref q9), (0, .ref (b 0)), (1, .int a1)]) hx hb dL_allowance_10 rfl hl (by decide) rfl (fun ls hl => ?_)
      refine lv_bipush (v := (-4)) hx hb dL_allowance_11 (by decide) ?_
      refine W.widen (k := 2) (n := 12) (Nat.le_of_ble_eq_true rfl) (Nat.le_of_ble_eq_true rfl) ?_
      exact W.iret hx hb hr (fun t9 ht hW => ⟨⟨(-4 : Int32), (), rfl, (Option.some.inj h).symm, gEnd ht hP⟩, hS.F ht⟩) hS.2.2 dL_allowance_13 hlk
    have h := gif_f hk2 h
    cases h
  subst hw
  have h := hsum_r h
  refine W.widen (k := 2) (n := 12) (Nat.le_of_ble_eq_true rfl) (Nat.le_of_ble_eq_true rfl) ?_
  exact W.iret hx hb hr (fun t9 ht hW => ⟨⟨r1, (), rfl, (Option.some.inj h).symm, gEnd ht hP⟩, hS.F ht⟩) hS.2.2 dL_allowance_5 hlk
def f_L_wouldFly (a1 : Int32) (a2 : Int32) (I : Nat → Nat → Int32) (O : Nat → Nat → Option Nat) : Option (Int32 × (Nat → Nat → Int32) × (Nat → Nat → Option Nat)) :=
  (f_X7_wouldFly a1 a2 I O).bind fun (eq4, I1, O2) => hsum eq4 (fun k9 => 
    if k9 = 0 then
      some ((-2 : Int32), I1, O2)
    else
    if k9 = 1 then
      some ((-3 : Int32), I1, O2)
    else
    if k9 = 2 then
      some ((-4 : Int32), I1, O2)
    else
    none) fun r3 =>
  some (r3, I1, O2)
set_option maxHeartbeats 8000000 in
set_option maxRecDepth 100000 in
theorem c_L_wouldFly {l : Launch} (hlf : l.stackTraces = false) {dC : Nat → ClassId} {dI : Nat → Nat → Nat} {ca : Nat → ClassId} {b : Nat → Nat} {A : Nat → Prop} {N : Nat} (hN : 129 ≤ N) (hA : gAd A b N) (I : Nat → Nat → Int32) (O : Nat → Nat → Option Nat) (J : Nat → Nat → Int64) (a1 : Int32) (a2 : Int32) (res : Int32 × (Nat → Nat → Int32) × (Nat → Nat → Option Nat)) (h : f_L_wouldFly a1 a2 I O = some res) : Met l yL_wouldFly wsL_wouldFly ({ frames := 8, cells := 3, slots := 18, locals := 147 } : Room) (va_Pc [.ref (b 0), .int a1, .int a2] (gPre dC dI ca b A N I O J)) (va_Qi (fun (r : Int32) (u : (Nat → Nat → Int32) × (Nat → Nat → Option Nat)) => res = (r, u)) (fun (u : (Nat → Nat → Int32) × (Nat → Nat → Option Nat)) t => va_P (dC, dI) vwCl (hW N ca b u.1 u.2 J) t.heap) A) 3 18 A := by
  refine va_MetW (cc := cL_wouldFly) (maxL := 4) (ret := (some .int)) (by decide) rfl ?_
  intro p e s m args below meth c s₁ B hml hv
  obtain ⟨rfl, hP, hK, hA2, hth⟩ := hv
  have hx := B.exec
  have hb := B.bytes
  have hr := B.returns
  have hlk := B.notSynchronized
  have X : gCx p s m ([.ref (b 0), .int a1, .int a2] : List Value).toArray c RL cL_wouldFly wsL_wouldFly 4 dC dI ca b A N := ⟨hx, hb, hml, findClass_of_methodNamed B.named, atoms_spec (ws := wsL_wouldFly) B.pre, hK, hA, hA2, hth⟩
  have htab : c.exceptionTable.toList = tableOf [(0, 6, 7, 23), (0, 6, 11, 15), (0, 6, 15, 17)] := vx_table (x := yL_wouldFly) B (atoms_spec (ws := wsL_wouldFly) B.pre _ (List.mem_of_getElem? (i := 0) rfl))
  have hS : va_S A s.heap s.heap [] := va_S.rf
  have hl := lv_entry ([.ref (b 0), .int a1, .int a2] : List Value) (n := 4) (Nat.le_of_ble_eq_true rfl)
  rw [lg_entry_eq]
  generalize (lg_sl ([.ref (b 0), .int a1, .int a2] : List Value) ++ List.replicate (4 - (lg_sl ([.ref (b 0), .int a1, .int a2] : List Value)).length) Slot.unset).toArray = ls at hl ⊢
  have hl : lv_has ls 4 [(0, .ref (b 0)), (1, .int a1), (2, .int a2)] := hl
  unfold f_L_wouldFly at h
  refine lv_aload_n hx hb dL_wouldFly_0 rfl (lv_at hl 0 rfl) ?_
  refine lv_iload_n hx hb dL_wouldFly_1 rfl (lv_at hl 1 rfl) ?_
  refine lv_iload_n hx hb dL_wouldFly_2 rfl (lv_at hl 2 rfl) ?_
  obtain ⟨q4, hcq4, h⟩ := hb_some h
  refine gxV_i (As := [.int a1, .int a2]) (rest := []) (BH := (fun (u : (Nat → Nat → Int32) × (Nat → Nat → Option Nat)) H => va_P (dC, dI) vwCl (hW N ca b u.1 u.2 J) H)) (BX := (fun (u : (Nat → Nat → Int32) × (Nat → Nat → Option Nat)) H => va_P (dC, dI) vwCl (hW N ca b u.1 u.2 J) H)) X hP hS (c_X7_wouldFly hlf hN hA I O J a1 a2 q4 hcq4) (cwV 2 X.ts gL_wouldFly_X7_wouldFly rfl rfl rfl (by decide +kernel) ⟨Nat.le_of_ble_eq_true rfl, Nat.le_of_ble_eq_true rfl⟩) (gr7 X hP kc_0 (sk_in hN kc_0 (by decide))) rfl hl.1 rfl (Nat.le_of_ble_eq_true rfl) dL_wouldFly_3 ⟨Nat.le_of_ble_eq_true rfl, Nat.le_of_ble_eq_true rfl⟩ (fun k9 u9 H locs ce9 q9 hw hP hS hce hcv hcl => ?_) (fun r3 u9 H locs hw hP hS => ?_)
  · obtain ⟨I1, O2⟩ := u9
    subst hw
    have h := hsum_l h
    by_cases hk0 : k9 = 0
    · have h := gif_t hk0 h
      subst hk0
      refine vx_catch X.ow [] ⟨0, 6, 7, 23⟩ [⟨0, 6, 11, 15⟩, ⟨0, 6, 15, 17⟩] htab (fun z hz => absurd hz List.not_mem_nil) (by decide) (by decide) (X.ts _ (List.mem_of_getElem? (i := 1) rfl)) (va_Nw.use rfl (X.th.2.1.1 0 (by decide))) hce hcv hcl ?_
      refine lv_astore_n (lv' := [(3, .ref q9), (0, .ref (b 0)), (1, .int a1), (2, .int a2)]) hx hb dL_wouldFly_7 rfl hl (by decide) rfl (fun ls hl => ?_)
      refine lv_bipush (v := (-2)) hx hb dL_wouldFly_8 (by decide) ?_
      refine W.widen (k := 3) (n := 18) (Nat.le_of_ble_eq_true rfl) (Nat.le_of_ble_eq_true rfl) ?_
      exact W.iret hx hb hr (fun t9 ht hW => ⟨⟨(-2 : Int32), (I1, O2), rfl, (Option.some.inj h).symm, gEnd ht hP⟩, hS.F ht⟩) hS.2.2 dL_wouldFly_10 hlk
    have h := gif_f hk0 h
    by_cases hk1 : k9 = 1
    · have h := gif_t hk1 h
      subst hk1
      refine vx_catch X.ow [⟨0, 6, 7, 23⟩] ⟨0, 6, 11, 15⟩ [⟨0, 6, 15, 17⟩] htab (fun z hz => by
        rcases List.mem_cons.mp hz with rfl | hz
        · exact Or.inr ⟨by decide, _, X.ts _ (List.mem_of_getElem? (i := 1) rfl), X.th.2.1.2.2.2 1 0 (by decide) (by decide) (by decide)⟩
        · exact absurd hz List.not_mem_nil) (by decide) (by decide) (X.ts _ (List.mem_of_getElem? (i := 2) rfl)) (va_Nw.use rfl (X.th.2.1.1 1 (by decide))) hce hcv hcl ?_
      refine lv_astore_n (lv' := [(3, .ref q9), (0, .ref (b 0)), (1, .int a1), (2, .int a2)]) hx hb dL_wouldFly_11 rfl hl (by decide) rfl (fun ls hl => ?_)
      refine lv_bipush (v := (-3)) hx hb dL_wouldFly_12 (by decide) ?_
      refine W.widen (k := 3) (n := 18) (Nat.le_of_ble_eq_true rfl) (Nat.le_of_ble_eq_true rfl) ?_
      exact W.iret hx hb hr (fun t9 ht hW => ⟨⟨(-3 : Int32), (I1, O2), rfl, (Option.some.inj h).symm, gEnd ht hP⟩, hS.F ht⟩) hS.2.2 dL_wouldFly_14 hlk
    have h := gif_f hk1 h
    by_cases hk2 : k9 = 2
    · have h := gif_t hk2 h
      subst hk2
      refine vx_catch X.ow [⟨0, 6, 7, 23⟩, ⟨0, 6, 11, 15⟩] ⟨0, 6, 15, 17⟩ [] htab (fun z hz => by
        rcases List.mem_cons.mp hz with rfl | hz
        · exact Or.inr ⟨by decide, _, X.ts _ (List.mem_of_getElem? (i := 1) rfl), X.th.2.1.2.2.2 2 0 (by decide) (by decide) (by decide)⟩
        · rcases List.mem_cons.mp hz with rfl | hz
          · exact Or.inr ⟨by decide, _, X.ts _ (List.mem_of_getElem? (i := 2) rfl), X.th.2.1.2.2.2 2 1 (by decide) (by decide) (by decide)⟩
          · exact absurd hz List.not_mem_nil) (by decide) (by decide) (X.ts _ (List.mem_of_getElem? (i := 3) rfl)) (va_Nw.use rfl (X.th.2.1.1 2 (by decide))) hce hcv hcl ?_
      refine lv_astore_n (lv' := [(3, .ref q9), (0, .ref (b 0)), (1, .int a1), (2, .int a2)]) hx hb dL_wouldFly_15 rfl hl (by decide) rfl (fun ls hl => ?_)
      refine lv_bipush (v := (-4)) hx hb dL_wouldFly_16 (by decide) ?_
      refine W.widen (k := 3) (n := 18) (Nat.le_of_ble_eq_true rfl) (Nat.le_of_ble_eq_true rfl) ?_
      exact W.iret hx hb hr (fun t9 ht hW => ⟨⟨(-4 : Int32), (I1, O2), rfl, (Option.some.inj h).symm, gEnd ht hP⟩, hS.F ht⟩) hS.2.2 dL_wouldFly_18 hlk
    have h := gif_f hk2 h
    cases h
  obtain ⟨I1, O2⟩ := u9
  subst hw
  have h := hsum_r h
  refine W.widen (k := 3) (n := 18) (Nat.le_of_ble_eq_true rfl) (Nat.le_of_ble_eq_true rfl) ?_
  exact W.iret hx hb hr (fun t9 ht hW => ⟨⟨r3, (I1, O2), rfl, (Option.some.inj h).symm, gEnd ht hP⟩, hS.F ht⟩) hS.2.2 dL_wouldFly_6 hlk
def f_L_wouldWin (I : Nat → Nat → Int32) (O : Nat → Nat → Option Nat) : Option (Int32 × (Nat → Nat → Int32) × (Nat → Nat → Option Nat)) :=
  (f_X7_wouldWin I O).bind fun (eq4, I1, O2) => hsum eq4 (fun k9 => 
    if k9 = 2 then
      some ((-4 : Int32), I1, O2)
    else
    none) fun r3 =>
  some (r3, I1, O2)
set_option maxHeartbeats 8000000 in
set_option maxRecDepth 100000 in
theorem c_L_wouldWin {l : Launch} (hlf : l.stackTraces = false) {dC : Nat → ClassId} {dI : Nat → Nat → Nat} {ca : Nat → ClassId} {b : Nat → Nat} {A : Nat → Prop} {N : Nat} (hN : 129 ≤ N) (hA : gAd A b N) (I : Nat → Nat → Int32) (O : Nat → Nat → Option Nat) (J : Nat → Nat → Int64) (res : Int32 × (Nat → Nat → Int32) × (Nat → Nat → Option Nat)) (h : f_L_wouldWin I O = some res) : Met l yL_wouldWin wsL_wouldWin ({ frames := 7, cells := 1, slots := 6, locals := 163 } : Room) (va_Pc [.ref (b 0)] (gPre dC dI ca b A N I O J)) (va_Qi (fun (r : Int32) (u : (Nat → Nat → Int32) × (Nat → Nat → Option Nat)) => res = (r, u)) (fun (u : (Nat → Nat → Int32) × (Nat → Nat → Option Nat)) t => va_P (dC, dI) vwCl (hW N ca b u.1 u.2 J) t.heap) A) 1 6 A := by
  refine va_MetW (cc := cL_wouldWin) (maxL := 2) (ret := (some .int)) (by decide) rfl ?_
  intro p e s m args below meth c s₁ B hml hv
  obtain ⟨rfl, hP, hK, hA2, hth⟩ := hv
  have hx := B.exec
  have hb := B.bytes
  have hr := B.returns
  have hlk := B.notSynchronized
  have X : gCx p s m ([.ref (b 0)] : List Value).toArray c RL cL_wouldWin wsL_wouldWin 2 dC dI ca b A N := ⟨hx, hb, hml, findClass_of_methodNamed B.named, atoms_spec (ws := wsL_wouldWin) B.pre, hK, hA, hA2, hth⟩
  have htab : c.exceptionTable.toList = tableOf [(0, 4, 5, 17)] := vx_table (x := yL_wouldWin) B (atoms_spec (ws := wsL_wouldWin) B.pre _ (List.mem_of_getElem? (i := 0) rfl))
  have hS : va_S A s.heap s.heap [] := va_S.rf
  have hl := lv_entry ([.ref (b 0)] : List Value) (n := 2) (Nat.le_of_ble_eq_true rfl)
  rw [lg_entry_eq]
  generalize (lg_sl ([.ref (b 0)] : List Value) ++ List.replicate (2 - (lg_sl ([.ref (b 0)] : List Value)).length) Slot.unset).toArray = ls at hl ⊢
  have hl : lv_has ls 2 [(0, .ref (b 0))] := hl
  unfold f_L_wouldWin at h
  refine lv_aload_n hx hb dL_wouldWin_0 rfl (lv_at hl 0 rfl) ?_
  obtain ⟨q4, hcq4, h⟩ := hb_some h
  refine gxV_i (As := []) (rest := []) (BH := (fun (u : (Nat → Nat → Int32) × (Nat → Nat → Option Nat)) H => va_P (dC, dI) vwCl (hW N ca b u.1 u.2 J) H)) (BX := (fun (u : (Nat → Nat → Int32) × (Nat → Nat → Option Nat)) H => va_P (dC, dI) vwCl (hW N ca b u.1 u.2 J) H)) X hP hS (c_X7_wouldWin hlf hN hA I O J q4 hcq4) (cwV 0 X.ts gL_wouldWin_X7_wouldWin rfl rfl rfl (by decide +kernel) ⟨Nat.le_of_ble_eq_true rfl, Nat.le_of_ble_eq_true rfl⟩) (gr7 X hP kc_0 (sk_in hN kc_0 (by decide))) rfl hl.1 rfl (Nat.le_of_ble_eq_true rfl) dL_wouldWin_1 ⟨Nat.le_of_ble_eq_true rfl, Nat.le_of_ble_eq_true rfl⟩ (fun k9 u9 H locs ce9 q9 hw hP hS hce hcv hcl => ?_) (fun r3 u9 H locs hw hP hS => ?_)
  · obtain ⟨I1, O2⟩ := u9
    subst hw
    have h := hsum_l h
    by_cases hk2 : k9 = 2
    · have h := gif_t hk2 h
      subst hk2
      refine vx_catch X.ow [] ⟨0, 4, 5, 17⟩ [] htab (fun z hz => absurd hz List.not_mem_nil) (by decide) (by decide) (X.ts _ (List.mem_of_getElem? (i := 1) rfl)) (va_Nw.use rfl (X.th.2.1.1 2 (by decide))) hce hcv hcl ?_
      refine lv_astore_n (lv' := [(1, .ref q9), (0, .ref (b 0))]) hx hb dL_wouldWin_5 rfl hl (by decide) rfl (fun ls hl => ?_)
      refine lv_bipush (v := (-4)) hx hb dL_wouldWin_6 (by decide) ?_
      refine W.widen (k := 1) (n := 6) (Nat.le_of_ble_eq_true rfl) (Nat.le_of_ble_eq_true rfl) ?_
      exact W.iret hx hb hr (fun t9 ht hW => ⟨⟨(-4 : Int32), (I1, O2), rfl, (Option.some.inj h).symm, gEnd ht hP⟩, hS.F ht⟩) hS.2.2 dL_wouldWin_8 hlk
    have h := gif_f hk2 h
    cases h
  obtain ⟨I1, O2⟩ := u9
  subst hw
  have h := hsum_r h
  refine W.widen (k := 1) (n := 6) (Nat.le_of_ble_eq_true rfl) (Nat.le_of_ble_eq_true rfl) ?_
  exact W.iret hx hb hr (fun t9 ht hW => ⟨⟨r3, (I1, O2), rfl, (Option.some.inj h).symm, gEnd ht hP⟩, hS.F ht⟩) hS.2.2 dL_wouldWin_4 hlk
def f_L_secondsToNext (I : Nat → Nat → Int32) (O : Nat → Nat → Option Nat) : Option (Int32 × (Nat → Nat → Int32) × (Nat → Nat → Option Nat)) :=
  (f_X7_secondsToNext I O).bind fun (eq4, I1, O2) => hsum eq4 (fun k9 => 
    if k9 = 2 then
      some ((-4 : Int32), I1, O2)
    else
    none) fun r3 =>
  some (r3, I1, O2)
set_option maxHeartbeats 8000000 in
set_option maxRecDepth 100000 in
theorem c_L_secondsToNext {l : Launch} (hlf : l.stackTraces = false) {dC : Nat → ClassId} {dI : Nat → Nat → Nat} {ca : Nat → ClassId} {b : Nat → Nat} {A : Nat → Prop} {N : Nat} (hN : 129 ≤ N) (hA : gAd A b N) (I : Nat → Nat → Int32) (O : Nat → Nat → Option Nat) (J : Nat → Nat → Int64) (res : Int32 × (Nat → Nat → Int32) × (Nat → Nat → Option Nat)) (h : f_L_secondsToNext I O = some res) : Met l yL_secondsToNext wsL_secondsToNext ({ frames := 7, cells := 1, slots := 6, locals := 142 } : Room) (va_Pc [.ref (b 0)] (gPre dC dI ca b A N I O J)) (va_Qi (fun (r : Int32) (u : (Nat → Nat → Int32) × (Nat → Nat → Option Nat)) => res = (r, u)) (fun (u : (Nat → Nat → Int32) × (Nat → Nat → Option Nat)) t => va_P (dC, dI) vwCl (hW N ca b u.1 u.2 J) t.heap) A) 1 6 A := by
  refine va_MetW (cc := cL_secondsToNext) (maxL := 2) (ret := (some .int)) (by decide) rfl ?_
  intro p e s m args below meth c s₁ B hml hv
  obtain ⟨rfl, hP, hK, hA2, hth⟩ := hv
  have hx := B.exec
  have hb := B.bytes
  have hr := B.returns
  have hlk := B.notSynchronized
  have X : gCx p s m ([.ref (b 0)] : List Value).toArray c RL cL_secondsToNext wsL_secondsToNext 2 dC dI ca b A N := ⟨hx, hb, hml, findClass_of_methodNamed B.named, atoms_spec (ws := wsL_secondsToNext) B.pre, hK, hA, hA2, hth⟩
  have htab : c.exceptionTable.toList = tableOf [(0, 4, 5, 17)] := vx_table (x := yL_secondsToNext) B (atoms_spec (ws := wsL_secondsToNext) B.pre _ (List.mem_of_getElem? (i := 0) rfl))
  have hS : va_S A s.heap s.heap [] := va_S.rf
  have hl := lv_entry ([.ref (b 0)] : List Value) (n := 2) (Nat.le_of_ble_eq_true rfl)
  rw [lg_entry_eq]
  generalize (lg_sl ([.ref (b 0)] : List Value) ++ List.replicate (2 - (lg_sl ([.ref (b 0)] : List Value)).length) Slot.unset).toArray = ls at hl ⊢
  have hl : lv_has ls 2 [(0, .ref (b 0))] := hl
  unfold f_L_secondsToNext at h
  refine lv_aload_n hx hb dL_secondsToNext_0 rfl (lv_at hl 0 rfl) ?_
  obtain ⟨q4, hcq4, h⟩ := hb_some h
  refine gxV_i (As := []) (rest := []) (BH := (fun (u : (Nat → Nat → Int32) × (Nat → Nat → Option Nat)) H => va_P (dC, dI) vwCl (hW N ca b u.1 u.2 J) H)) (BX := (fun (u : (Nat → Nat → Int32) × (Nat → Nat → Option Nat)) H => va_P (dC, dI) vwCl (hW N ca b u.1 u.2 J) H)) X hP hS (c_X7_secondsToNext hlf hN hA I O J q4 hcq4) (cwV 0 X.ts gL_secondsToNext_X7_secondsToNext rfl rfl rfl (by decide +kernel) ⟨Nat.le_of_ble_eq_true rfl, Nat.le_of_ble_eq_true rfl⟩) (gr7 X hP kc_0 (sk_in hN kc_0 (by decide))) rfl hl.1 rfl (Nat.le_of_ble_eq_true rfl) dL_secondsToNext_1 ⟨Nat.le_of_ble_eq_true rfl, Nat.le_of_ble_eq_true rfl⟩ (fun k9 u9 H locs ce9 q9 hw hP hS hce hcv hcl => ?_) (fun r3 u9 H locs hw hP hS => ?_)
  · obtain ⟨I1, O2⟩ := u9
    subst hw
    have h := hsum_l h
    by_cases hk2 : k9 = 2
    · have h := gif_t hk2 h
      subst hk2
      refine vx_catch X.ow [] ⟨0, 4, 5, 17⟩ [] htab (fun z hz => absurd hz List.not_mem_nil) (by decide) (by decide) (X.ts _ (List.mem_of_getElem? (i := 1) rfl)) (va_Nw.use rfl (X.th.2.1.1 2 (by decide))) hce hcv hcl ?_
      refine lv_astore_n (lv' := [(1, .ref q9), (0, .ref (b 0))]) hx hb dL_secondsToNext_5 rfl hl (by decide) rfl (fun ls hl => ?_)
      refine lv_bipush (v := (-4)) hx hb dL_secondsToNext_6 (by decide) ?_
      refine W.widen (k := 1) (n := 6) (Nat.le_of_ble_eq_true rfl) (Nat.le_of_ble_eq_true rfl) ?_
      exact W.iret hx hb hr (fun t9 ht hW => ⟨⟨(-4 : Int32), (I1, O2), rfl, (Option.some.inj h).symm, gEnd ht hP⟩, hS.F ht⟩) hS.2.2 dL_secondsToNext_8 hlk
    have h := gif_f hk2 h
    cases h
  obtain ⟨I1, O2⟩ := u9
  subst hw
  have h := hsum_r h
  refine W.widen (k := 1) (n := 6) (Nat.le_of_ble_eq_true rfl) (Nat.le_of_ble_eq_true rfl) ?_
  exact W.iret hx hb hr (fun t9 ht hW => ⟨⟨r3, (I1, O2), rfl, (Option.some.inj h).symm, gEnd ht hP⟩, hS.F ht⟩) hS.2.2 dL_secondsToNext_4 hlk
def f_L_flownWithPace (a1 : Int32) (a2 : Int32) (I : Nat → Nat → Int32) (O : Nat → Nat → Option Nat) : Option (Int32 × (Nat → Nat → Int32) × (Nat → Nat → Option Nat)) :=
  (f_X7_flownWithPace a1 a2 I O).bind fun (eq4, I1, O2) => hsum eq4 (fun k9 => 
    if k9 = 0 then
      some ((-2 : Int32), I1, O2)
    else
    if k9 = 1 then
      some ((-3 : Int32), I1, O2)
    else
    if k9 = 2 then
      some ((-4 : Int32), I1, O2)
    else
    none) fun r3 =>
  some (r3, I1, O2)
set_option maxHeartbeats 8000000 in
set_option maxRecDepth 100000 in
theorem c_L_flownWithPace {l : Launch} (hlf : l.stackTraces = false) {dC : Nat → ClassId} {dI : Nat → Nat → Nat} {ca : Nat → ClassId} {b : Nat → Nat} {A : Nat → Prop} {N : Nat} (hN : 129 ≤ N) (hA : gAd A b N) (I : Nat → Nat → Int32) (O : Nat → Nat → Option Nat) (J : Nat → Nat → Int64) (a1 : Int32) (a2 : Int32) (res : Int32 × (Nat → Nat → Int32) × (Nat → Nat → Option Nat)) (h : f_L_flownWithPace a1 a2 I O = some res) : Met l yL_flownWithPace wsL_flownWithPace ({ frames := 8, cells := 3, slots := 18, locals := 147 } : Room) (va_Pc [.ref (b 0), .int a1, .int a2] (gPre dC dI ca b A N I O J)) (va_Qi (fun (r : Int32) (u : (Nat → Nat → Int32) × (Nat → Nat → Option Nat)) => res = (r, u)) (fun (u : (Nat → Nat → Int32) × (Nat → Nat → Option Nat)) t => va_P (dC, dI) vwCl (hW N ca b u.1 u.2 J) t.heap) A) 3 18 A := by
  refine va_MetW (cc := cL_flownWithPace) (maxL := 4) (ret := (some .int)) (by decide) rfl ?_
  intro p e s m args below meth c s₁ B hml hv
  obtain ⟨rfl, hP, hK, hA2, hth⟩ := hv
  have hx := B.exec
  have hb := B.bytes
  have hr := B.returns
  have hlk := B.notSynchronized
  have X : gCx p s m ([.ref (b 0), .int a1, .int a2] : List Value).toArray c RL cL_flownWithPace wsL_flownWithPace 4 dC dI ca b A N := ⟨hx, hb, hml, findClass_of_methodNamed B.named, atoms_spec (ws := wsL_flownWithPace) B.pre, hK, hA, hA2, hth⟩
  have htab : c.exceptionTable.toList = tableOf [(0, 6, 7, 23), (0, 6, 11, 15), (0, 6, 15, 17)] := vx_table (x := yL_flownWithPace) B (atoms_spec (ws := wsL_flownWithPace) B.pre _ (List.mem_of_getElem? (i := 0) rfl))
  have hS : va_S A s.heap s.heap [] := va_S.rf
  have hl := lv_entry ([.ref (b 0), .int a1, .int a2] : List Value) (n := 4) (Nat.le_of_ble_eq_true rfl)
  rw [lg_entry_eq]
  generalize (lg_sl ([.ref (b 0), .int a1, .int a2] : List Value) ++ List.replicate (4 - (lg_sl ([.ref (b 0), .int a1, .int a2] : List Value)).length) Slot.unset).toArray = ls at hl ⊢
  have hl : lv_has ls 4 [(0, .ref (b 0)), (1, .int a1), (2, .int a2)] := hl
  unfold f_L_flownWithPace at h
  refine lv_aload_n hx hb dL_flownWithPace_0 rfl (lv_at hl 0 rfl) ?_
  refine lv_iload_n hx hb dL_flownWithPace_1 rfl (lv_at hl 1 rfl) ?_
  refine lv_iload_n hx hb dL_flownWithPace_2 rfl (lv_at hl 2 rfl) ?_
  obtain ⟨q4, hcq4, h⟩ := hb_some h
  refine gxV_i (As := [.int a1, .int a2]) (rest := []) (BH := (fun (u : (Nat → Nat → Int32) × (Nat → Nat → Option Nat)) H => va_P (dC, dI) vwCl (hW N ca b u.1 u.2 J) H)) (BX := (fun (u : (Nat → Nat → Int32) × (Nat → Nat → Option Nat)) H => va_P (dC, dI) vwCl (hW N ca b u.1 u.2 J) H)) X hP hS (c_X7_flownWithPace hlf hN hA I O J a1 a2 q4 hcq4) (cwV 2 X.ts gL_flownWithPace_X7_flownWithPace rfl rfl rfl (by decide +kernel) ⟨Nat.le_of_ble_eq_true rfl, Nat.le_of_ble_eq_true rfl⟩) (gr7 X hP kc_0 (sk_in hN kc_0 (by decide))) rfl hl.1 rfl (Nat.le_of_ble_eq_true rfl) dL_flownWithPace_3 ⟨Nat.le_of_ble_eq_true rfl, Nat.le_of_ble_eq_true rfl⟩ (fun k9 u9 H locs ce9 q9 hw hP hS hce hcv hcl => ?_) (fun r3 u9 H locs hw hP hS => ?_)
  · obtain ⟨I1, O2⟩ := u9
    subst hw
    have h := hsum_l h
    by_cases hk0 : k9 = 0
    · have h := gif_t hk0 h
      subst hk0
      refine vx_catch X.ow [] ⟨0, 6, 7, 23⟩ [⟨0, 6, 11, 15⟩, ⟨0, 6, 15, 17⟩] htab (fun z hz => absurd hz List.not_mem_nil) (by decide) (by decide) (X.ts _ (List.mem_of_getElem? (i := 1) rfl)) (va_Nw.use rfl (X.th.2.1.1 0 (by decide))) hce hcv hcl ?_
      refine lv_astore_n (lv' := [(3, .ref q9), (0, .ref (b 0)), (1, .int a1), (2, .int a2)]) hx hb dL_flownWithPace_7 rfl hl (by decide) rfl (fun ls hl => ?_)
      refine lv_bipush (v := (-2)) hx hb dL_flownWithPace_8 (by decide) ?_
      refine W.widen (k := 3) (n := 18) (Nat.le_of_ble_eq_true rfl) (Nat.le_of_ble_eq_true rfl) ?_
      exact W.iret hx hb hr (fun t9 ht hW => ⟨⟨(-2 : Int32), (I1, O2), rfl, (Option.some.inj h).symm, gEnd ht hP⟩, hS.F ht⟩) hS.2.2 dL_flownWithPace_10 hlk
    have h := gif_f hk0 h
    by_cases hk1 : k9 = 1
    · have h := gif_t hk1 h
      subst hk1
      refine vx_catch X.ow [⟨0, 6, 7, 23⟩] ⟨0, 6, 11, 15⟩ [⟨0, 6, 15, 17⟩] htab (fun z hz => by
        rcases List.mem_cons.mp hz with rfl | hz
        · exact Or.inr ⟨by decide, _, X.ts _ (List.mem_of_getElem? (i := 1) rfl), X.th.2.1.2.2.2 1 0 (by decide) (by decide) (by decide)⟩
        · exact absurd hz List.not_mem_nil) (by decide) (by decide) (X.ts _ (List.mem_of_getElem? (i := 2) rfl)) (va_Nw.use rfl (X.th.2.1.1 1 (by decide))) hce hcv hcl ?_
      refine lv_astore_n (lv' := [(3, .ref q9), (0, .ref (b 0)), (1, .int a1), (2, .int a2)]) hx hb dL_flownWithPace_11 rfl hl (by decide) rfl (fun ls hl => ?_)
      refine lv_bipush (v := (-3)) hx hb dL_flownWithPace_12 (by decide) ?_
      refine W.widen (k := 3) (n := 18) (Nat.le_of_ble_eq_true rfl) (Nat.le_of_ble_eq_true rfl) ?_
      exact W.iret hx hb hr (fun t9 ht hW => ⟨⟨(-3 : Int32), (I1, O2), rfl, (Option.some.inj h).symm, gEnd ht hP⟩, hS.F ht⟩) hS.2.2 dL_flownWithPace_14 hlk
    have h := gif_f hk1 h
    by_cases hk2 : k9 = 2
    · have h := gif_t hk2 h
      subst hk2
      refine vx_catch X.ow [⟨0, 6, 7, 23⟩, ⟨0, 6, 11, 15⟩] ⟨0, 6, 15, 17⟩ [] htab (fun z hz => by
        rcases List.mem_cons.mp hz with rfl | hz
        · exact Or.inr ⟨by decide, _, X.ts _ (List.mem_of_getElem? (i := 1) rfl), X.th.2.1.2.2.2 2 0 (by decide) (by decide) (by decide)⟩
        · rcases List.mem_cons.mp hz with rfl | hz
          · exact Or.inr ⟨by decide, _, X.ts _ (List.mem_of_getElem? (i := 2) rfl), X.th.2.1.2.2.2 2 1 (by decide) (by decide) (by decide)⟩
          · exact absurd hz List.not_mem_nil) (by decide) (by decide) (X.ts _ (List.mem_of_getElem? (i := 3) rfl)) (va_Nw.use rfl (X.th.2.1.1 2 (by decide))) hce hcv hcl ?_
      refine lv_astore_n (lv' := [(3, .ref q9), (0, .ref (b 0)), (1, .int a1), (2, .int a2)]) hx hb dL_flownWithPace_15 rfl hl (by decide) rfl (fun ls hl => ?_)
      refine lv_bipush (v := (-4)) hx hb dL_flownWithPace_16 (by decide) ?_
      refine W.widen (k := 3) (n := 18) (Nat.le_of_ble_eq_true rfl) (Nat.le_of_ble_eq_true rfl) ?_
      exact W.iret hx hb hr (fun t9 ht hW => ⟨⟨(-4 : Int32), (I1, O2), rfl, (Option.some.inj h).symm, gEnd ht hP⟩, hS.F ht⟩) hS.2.2 dL_flownWithPace_18 hlk
    have h := gif_f hk2 h
    cases h
  obtain ⟨I1, O2⟩ := u9
  subst hw
  have h := hsum_r h
  refine W.widen (k := 3) (n := 18) (Nat.le_of_ble_eq_true rfl) (Nat.le_of_ble_eq_true rfl) ?_
  exact W.iret hx hb hr (fun t9 ht hW => ⟨⟨r3, (I1, O2), rfl, (Option.some.inj h).symm, gEnd ht hP⟩, hS.F ht⟩) hS.2.2 dL_flownWithPace_6 hlk
def f_L_bestPace (a1 : Int32) (I : Nat → Nat → Int32) (O : Nat → Nat → Option Nat) : Option (Int32 × (Nat → Nat → Int32) × (Nat → Nat → Option Nat)) :=
  (f_X7_bestPace a1 I O).bind fun (eq4, I1, O2) => hsum eq4 (fun k9 => 
    if k9 = 0 then
      some ((-2 : Int32), I1, O2)
    else
    if k9 = 2 then
      some ((-4 : Int32), I1, O2)
    else
    none) fun r3 =>
  some (r3, I1, O2)
set_option maxHeartbeats 8000000 in
set_option maxRecDepth 100000 in
theorem c_L_bestPace {l : Launch} (hlf : l.stackTraces = false) {dC : Nat → ClassId} {dI : Nat → Nat → Nat} {ca : Nat → ClassId} {b : Nat → Nat} {A : Nat → Prop} {N : Nat} (hN : 129 ≤ N) (hA : gAd A b N) (I : Nat → Nat → Int32) (O : Nat → Nat → Option Nat) (J : Nat → Nat → Int64) (a1 : Int32) (res : Int32 × (Nat → Nat → Int32) × (Nat → Nat → Option Nat)) (h : f_L_bestPace a1 I O = some res) : Met l yL_bestPace wsL_bestPace ({ frames := 8, cells := 2, slots := 12, locals := 171 } : Room) (va_Pc [.ref (b 0), .int a1] (gPre dC dI ca b A N I O J)) (va_Qi (fun (r : Int32) (u : (Nat → Nat → Int32) × (Nat → Nat → Option Nat)) => res = (r, u)) (fun (u : (Nat → Nat → Int32) × (Nat → Nat → Option Nat)) t => va_P (dC, dI) vwCl (hW N ca b u.1 u.2 J) t.heap) A) 2 12 A := by
  refine va_MetW (cc := cL_bestPace) (maxL := 3) (ret := (some .int)) (by decide) rfl ?_
  intro p e s m args below meth c s₁ B hml hv
  obtain ⟨rfl, hP, hK, hA2, hth⟩ := hv
  have hx := B.exec
  have hb := B.bytes
  have hr := B.returns
  have hlk := B.notSynchronized
  have X : gCx p s m ([.ref (b 0), .int a1] : List Value).toArray c RL cL_bestPace wsL_bestPace 3 dC dI ca b A N := ⟨hx, hb, hml, findClass_of_methodNamed B.named, atoms_spec (ws := wsL_bestPace) B.pre, hK, hA, hA2, hth⟩
  have htab : c.exceptionTable.toList = tableOf [(0, 5, 6, 23), (0, 5, 10, 17)] := vx_table (x := yL_bestPace) B (atoms_spec (ws := wsL_bestPace) B.pre _ (List.mem_of_getElem? (i := 0) rfl))
  have hS : va_S A s.heap s.heap [] := va_S.rf
  have hl := lv_entry ([.ref (b 0), .int a1] : List Value) (n := 3) (Nat.le_of_ble_eq_true rfl)
  rw [lg_entry_eq]
  generalize (lg_sl ([.ref (b 0), .int a1] : List Value) ++ List.replicate (3 - (lg_sl ([.ref (b 0), .int a1] : List Value)).length) Slot.unset).toArray = ls at hl ⊢
  have hl : lv_has ls 3 [(0, .ref (b 0)), (1, .int a1)] := hl
  unfold f_L_bestPace at h
  refine lv_aload_n hx hb dL_bestPace_0 rfl (lv_at hl 0 rfl) ?_
  refine lv_iload_n hx hb dL_bestPace_1 rfl (lv_at hl 1 rfl) ?_
  obtain ⟨q4, hcq4, h⟩ := hb_some h
  refine gxV_i (As := [.int a1]) (rest := []) (BH := (fun (u : (Nat → Nat → Int32) × (Nat → Nat → Option Nat)) H => va_P (dC, dI) vwCl (hW N ca b u.1 u.2 J) H)) (BX := (fun (u : (Nat → Nat → Int32) × (Nat → Nat → Option Nat)) H => va_P (dC, dI) vwCl (hW N ca b u.1 u.2 J) H)) X hP hS (c_X7_bestPace hlf hN hA I O J a1 q4 hcq4) (cwV 1 X.ts gL_bestPace_X7_bestPace rfl rfl rfl (by decide +kernel) ⟨Nat.le_of_ble_eq_true rfl, Nat.le_of_ble_eq_true rfl⟩) (gr7 X hP kc_0 (sk_in hN kc_0 (by decide))) rfl hl.1 rfl (Nat.le_of_ble_eq_true rfl) dL_bestPace_2 ⟨Nat.le_of_ble_eq_true rfl, Nat.le_of_ble_eq_true rfl⟩ (fun k9 u9 H locs ce9 q9 hw hP hS hce hcv hcl => ?_) (fun r3 u9 H locs hw hP hS => ?_)
  · obtain ⟨I1, O2⟩ := u9
    subst hw
    have h := hsum_l h
    by_cases hk0 : k9 = 0
    · have h := gif_t hk0 h
      subst hk0
      refine vx_catch X.ow [] ⟨0, 5, 6, 23⟩ [⟨0, 5, 10, 17⟩] htab (fun z hz => absurd hz List.not_mem_nil) (by decide) (by decide) (X.ts _ (List.mem_of_getElem? (i := 1) rfl)) (va_Nw.use rfl (X.th.2.1.1 0 (by decide))) hce hcv hcl ?_
      refine lv_astore_n (lv' := [(2, .ref q9), (0, .ref (b 0)), (1, .int a1)]) hx hb dL_bestPace_6 rfl hl (by decide) rfl (fun ls hl => ?_)
      refine lv_bipush (v := (-2)) hx hb dL_bestPace_7 (by decide) ?_
      refine W.widen (k := 2) (n := 12) (Nat.le_of_ble_eq_true rfl) (Nat.le_of_ble_eq_true rfl) ?_
      exact W.iret hx hb hr (fun t9 ht hW => ⟨⟨(-2 : Int32), (I1, O2), rfl, (Option.some.inj h).symm, gEnd ht hP⟩, hS.F ht⟩) hS.2.2 dL_bestPace_9 hlk
    have h := gif_f hk0 h
    by_cases hk2 : k9 = 2
    · have h := gif_t hk2 h
      subst hk2
      refine vx_catch X.ow [⟨0, 5, 6, 23⟩] ⟨0, 5, 10, 17⟩ [] htab (fun z hz => by
        rcases List.mem_cons.mp hz with rfl | hz
        · exact Or.inr ⟨by decide, _, X.ts _ (List.mem_of_getElem? (i := 1) rfl), X.th.2.1.2.2.2 2 0 (by decide) (by decide) (by decide)⟩
        · exact absurd hz List.not_mem_nil) (by decide) (by decide) (X.ts _ (List.mem_of_getElem? (i := 2) rfl)) (va_Nw.use rfl (X.th.2.1.1 2 (by decide))) hce hcv hcl ?_
      refine lv_astore_n (lv' := [(2, .ref q9), (0, .ref (b 0)), (1, .int a1)]) hx hb dL_bestPace_10 rfl hl (by decide) rfl (fun ls hl => ?_)
      refine lv_bipush (v := (-4)) hx hb dL_bestPace_11 (by decide) ?_
      refine W.widen (k := 2) (n := 12) (Nat.le_of_ble_eq_true rfl) (Nat.le_of_ble_eq_true rfl) ?_
      exact W.iret hx hb hr (fun t9 ht hW => ⟨⟨(-4 : Int32), (I1, O2), rfl, (Option.some.inj h).symm, gEnd ht hP⟩, hS.F ht⟩) hS.2.2 dL_bestPace_13 hlk
    have h := gif_f hk2 h
    cases h
  obtain ⟨I1, O2⟩ := u9
  subst hw
  have h := hsum_r h
  refine W.widen (k := 2) (n := 12) (Nat.le_of_ble_eq_true rfl) (Nat.le_of_ble_eq_true rfl) ?_
  exact W.iret hx hb hr (fun t9 ht hW => ⟨⟨r3, (I1, O2), rfl, (Option.some.inj h).symm, gEnd ht hP⟩, hS.F ht⟩) hS.2.2 dL_bestPace_5 hlk
def f_L_arrivedAt (a1 : Int32) (I : Nat → Nat → Int32) : Option (Int32) :=
  (f_X7_arrivedAt a1 I).bind fun eq2 => hsum eq2 (fun k9 => 
    if k9 = 0 then
      some (-2 : Int32)
    else
    none) fun r1 =>
  some r1
set_option maxHeartbeats 8000000 in
set_option maxRecDepth 100000 in
theorem c_L_arrivedAt {l : Launch} (hlf : l.stackTraces = false) {dC : Nat → ClassId} {dI : Nat → Nat → Nat} {ca : Nat → ClassId} {b : Nat → Nat} {A : Nat → Prop} {N : Nat} (hN : 129 ≤ N) (hA : gAd A b N) (I : Nat → Nat → Int32) (O : Nat → Nat → Option Nat) (J : Nat → Nat → Int64) (a1 : Int32) (res : Int32) (h : f_L_arrivedAt a1 I = some res) : Met l yL_arrivedAt wsL_arrivedAt ({ frames := 7, cells := 1, slots := 6, locals := 112 } : Room) (va_Pc [.ref (b 0), .int a1] (gPre dC dI ca b A N I O J)) (va_Qi (fun (r : Int32) (u : Unit) => res = r) (fun (u : Unit) t => va_P (dC, dI) vwCl (hW N ca b I O J) t.heap) A) 1 6 A := by
  refine va_MetW (cc := cL_arrivedAt) (maxL := 3) (ret := (some .int)) (by decide) rfl ?_
  intro p e s m args below meth c s₁ B hml hv
  obtain ⟨rfl, hP, hK, hA2, hth⟩ := hv
  have hx := B.exec
  have hb := B.bytes
  have hr := B.returns
  have hlk := B.notSynchronized
  have X : gCx p s m ([.ref (b 0), .int a1] : List Value).toArray c RL cL_arrivedAt wsL_arrivedAt 3 dC dI ca b A N := ⟨hx, hb, hml, findClass_of_methodNamed B.named, atoms_spec (ws := wsL_arrivedAt) B.pre, hK, hA, hA2, hth⟩
  have htab : c.exceptionTable.toList = tableOf [(0, 5, 6, 23)] := vx_table (x := yL_arrivedAt) B (atoms_spec (ws := wsL_arrivedAt) B.pre _ (List.mem_of_getElem? (i := 0) rfl))
  have hS : va_S A s.heap s.heap [] := va_S.rf
  have hl := lv_entry ([.ref (b 0), .int a1] : List Value) (n := 3) (Nat.le_of_ble_eq_true rfl)
  rw [lg_entry_eq]
  generalize (lg_sl ([.ref (b 0), .int a1] : List Value) ++ List.replicate (3 - (lg_sl ([.ref (b 0), .int a1] : List Value)).length) Slot.unset).toArray = ls at hl ⊢
  have hl : lv_has ls 3 [(0, .ref (b 0)), (1, .int a1)] := hl
  unfold f_L_arrivedAt at h
  refine lv_aload_n hx hb dL_arrivedAt_0 rfl (lv_at hl 0 rfl) ?_
  refine lv_iload_n hx hb dL_arrivedAt_1 rfl (lv_at hl 1 rfl) ?_
  obtain ⟨q2, hcq2, h⟩ := hb_some h
  refine gxV_i (As := [.int a1]) (rest := []) (BH := (fun (u : Unit) H => va_P (dC, dI) vwCl (hW N ca b I O J) H)) (BX := (fun (u : Unit) H => va_P (dC, dI) vwCl (hW N ca b I O J) H)) X hP hS (c_X7_arrivedAt hlf hN hA I O J a1 q2 hcq2) (cwV 1 X.ts gL_arrivedAt_X7_arrivedAt rfl rfl rfl (by decide +kernel) ⟨Nat.le_of_ble_eq_true rfl, Nat.le_of_ble_eq_true rfl⟩) (gr7 X hP kc_0 (sk_in hN kc_0 (by decide))) rfl hl.1 rfl (Nat.le_of_ble_eq_true rfl) dL_arrivedAt_2 ⟨Nat.le_of_ble_eq_true rfl, Nat.le_of_ble_eq_true rfl⟩ (fun k9 u9 H locs ce9 q9 hw hP hS hce hcv hcl => ?_) (fun r1 u9 H locs hw hP hS => ?_)
  · subst hw
    have h := hsum_l h
    by_cases hk0 : k9 = 0
    · have h := gif_t hk0 h
      subst hk0
      refine vx_catch X.ow [] ⟨0, 5, 6, 23⟩ [] htab (fun z hz => absurd hz List.not_mem_nil) (by decide) (by decide) (X.ts _ (List.mem_of_getElem? (i := 1) rfl)) (va_Nw.use rfl (X.th.2.1.1 0 (by decide))) hce hcv hcl ?_
      refine lv_astore_n (lv' := [(2, .ref q9), (0, .ref (b 0)), (1, .int a1)]) hx hb dL_arrivedAt_6 rfl hl (by decide) rfl (fun ls hl => ?_)
      refine lv_bipush (v := (-2)) hx hb dL_arrivedAt_7 (by decide) ?_
      refine W.widen (k := 1) (n := 6) (Nat.le_of_ble_eq_true rfl) (Nat.le_of_ble_eq_true rfl) ?_
      exact W.iret hx hb hr (fun t9 ht hW => ⟨⟨(-2 : Int32), (), rfl, (Option.some.inj h).symm, gEnd ht hP⟩, hS.F ht⟩) hS.2.2 dL_arrivedAt_9 hlk
    have h := gif_f hk0 h
    cases h
  subst hw
  have h := hsum_r h
  refine W.widen (k := 1) (n := 6) (Nat.le_of_ble_eq_true rfl) (Nat.le_of_ble_eq_true rfl) ?_
  exact W.iret hx hb hr (fun t9 ht hW => ⟨⟨r1, (), rfl, (Option.some.inj h).symm, gEnd ht hP⟩, hS.F ht⟩) hS.2.2 dL_arrivedAt_5 hlk
def f_L_timeOf (a1 : Int32) (I : Nat → Nat → Int32) : Option (Int32) :=
  (f_X7_timeOf a1 I).bind fun eq2 => hsum eq2 (fun k9 => 
    if k9 = 0 then
      some (-2 : Int32)
    else
    if k9 = 2 then
      some (-4 : Int32)
    else
    none) fun r1 =>
  some r1
set_option maxHeartbeats 8000000 in
set_option maxRecDepth 100000 in
theorem c_L_timeOf {l : Launch} (hlf : l.stackTraces = false) {dC : Nat → ClassId} {dI : Nat → Nat → Nat} {ca : Nat → ClassId} {b : Nat → Nat} {A : Nat → Prop} {N : Nat} (hN : 129 ≤ N) (hA : gAd A b N) (I : Nat → Nat → Int32) (O : Nat → Nat → Option Nat) (J : Nat → Nat → Int64) (a1 : Int32) (res : Int32) (h : f_L_timeOf a1 I = some res) : Met l yL_timeOf wsL_timeOf ({ frames := 8, cells := 2, slots := 12, locals := 134 } : Room) (va_Pc [.ref (b 0), .int a1] (gPre dC dI ca b A N I O J)) (va_Qi (fun (r : Int32) (u : Unit) => res = r) (fun (u : Unit) t => va_P (dC, dI) vwCl (hW N ca b I O J) t.heap) A) 2 12 A := by
  refine va_MetW (cc := cL_timeOf) (maxL := 3) (ret := (some .int)) (by decide) rfl ?_
  intro p e s m args below meth c s₁ B hml hv
  obtain ⟨rfl, hP, hK, hA2, hth⟩ := hv
  have hx := B.exec
  have hb := B.bytes
  have hr := B.returns
  have hlk := B.notSynchronized
  have X : gCx p s m ([.ref (b 0), .int a1] : List Value).toArray c RL cL_timeOf wsL_timeOf 3 dC dI ca b A N := ⟨hx, hb, hml, findClass_of_methodNamed B.named, atoms_spec (ws := wsL_timeOf) B.pre, hK, hA, hA2, hth⟩
  have htab : c.exceptionTable.toList = tableOf [(0, 5, 6, 23), (0, 5, 10, 17)] := vx_table (x := yL_timeOf) B (atoms_spec (ws := wsL_timeOf) B.pre _ (List.mem_of_getElem? (i := 0) rfl))
  have hS : va_S A s.heap s.heap [] := va_S.rf
  have hl := lv_entry ([.ref (b 0), .int a1] : List Value) (n := 3) (Nat.le_of_ble_eq_true rfl)
  rw [lg_entry_eq]
  generalize (lg_sl ([.ref (b 0), .int a1] : List Value) ++ List.replicate (3 - (lg_sl ([.ref (b 0), .int a1] : List Value)).length) Slot.unset).toArray = ls at hl ⊢
  have hl : lv_has ls 3 [(0, .ref (b 0)), (1, .int a1)] := hl
  unfold f_L_timeOf at h
  refine lv_aload_n hx hb dL_timeOf_0 rfl (lv_at hl 0 rfl) ?_
  refine lv_iload_n hx hb dL_timeOf_1 rfl (lv_at hl 1 rfl) ?_
  obtain ⟨q2, hcq2, h⟩ := hb_some h
  refine gxV_i (As := [.int a1]) (rest := []) (BH := (fun (u : Unit) H => va_P (dC, dI) vwCl (hW N ca b I O J) H)) (BX := (fun (u : Unit) H => va_P (dC, dI) vwCl (hW N ca b I O J) H)) X hP hS (c_X7_timeOf hlf hN hA I O J a1 q2 hcq2) (cwV 1 X.ts gL_timeOf_X7_timeOf rfl rfl rfl (by decide +kernel) ⟨Nat.le_of_ble_eq_true rfl, Nat.le_of_ble_eq_true rfl⟩) (gr7 X hP kc_0 (sk_in hN kc_0 (by decide))) rfl hl.1 rfl (Nat.le_of_ble_eq_true rfl) dL_timeOf_2 ⟨Nat.le_of_ble_eq_true rfl, Nat.le_of_ble_eq_true rfl⟩ (fun k9 u9 H locs ce9 q9 hw hP hS hce hcv hcl => ?_) (fun r1 u9 H locs hw hP hS => ?_)
  · subst hw
    have h := hsum_l h
    by_cases hk0 : k9 = 0
    · have h := gif_t hk0 h
      subst hk0
      refine vx_catch X.ow [] ⟨0, 5, 6, 23⟩ [⟨0, 5, 10, 17⟩] htab (fun z hz => absurd hz List.not_mem_nil) (by decide) (by decide) (X.ts _ (List.mem_of_getElem? (i := 1) rfl)) (va_Nw.use rfl (X.th.2.1.1 0 (by decide))) hce hcv hcl ?_
      refine lv_astore_n (lv' := [(2, .ref q9), (0, .ref (b 0)), (1, .int a1)]) hx hb dL_timeOf_6 rfl hl (by decide) rfl (fun ls hl => ?_)
      refine lv_bipush (v := (-2)) hx hb dL_timeOf_7 (by decide) ?_
      refine W.widen (k := 2) (n := 12) (Nat.le_of_ble_eq_true rfl) (Nat.le_of_ble_eq_true rfl) ?_
      exact W.iret hx hb hr (fun t9 ht hW => ⟨⟨(-2 : Int32), (), rfl, (Option.some.inj h).symm, gEnd ht hP⟩, hS.F ht⟩) hS.2.2 dL_timeOf_9 hlk
    have h := gif_f hk0 h
    by_cases hk2 : k9 = 2
    · have h := gif_t hk2 h
      subst hk2
      refine vx_catch X.ow [⟨0, 5, 6, 23⟩] ⟨0, 5, 10, 17⟩ [] htab (fun z hz => by
        rcases List.mem_cons.mp hz with rfl | hz
        · exact Or.inr ⟨by decide, _, X.ts _ (List.mem_of_getElem? (i := 1) rfl), X.th.2.1.2.2.2 2 0 (by decide) (by decide) (by decide)⟩
        · exact absurd hz List.not_mem_nil) (by decide) (by decide) (X.ts _ (List.mem_of_getElem? (i := 2) rfl)) (va_Nw.use rfl (X.th.2.1.1 2 (by decide))) hce hcv hcl ?_
      refine lv_astore_n (lv' := [(2, .ref q9), (0, .ref (b 0)), (1, .int a1)]) hx hb dL_timeOf_10 rfl hl (by decide) rfl (fun ls hl => ?_)
      refine lv_bipush (v := (-4)) hx hb dL_timeOf_11 (by decide) ?_
      refine W.widen (k := 2) (n := 12) (Nat.le_of_ble_eq_true rfl) (Nat.le_of_ble_eq_true rfl) ?_
      exact W.iret hx hb hr (fun t9 ht hW => ⟨⟨(-4 : Int32), (), rfl, (Option.some.inj h).symm, gEnd ht hP⟩, hS.F ht⟩) hS.2.2 dL_timeOf_13 hlk
    have h := gif_f hk2 h
    cases h
  subst hw
  have h := hsum_r h
  refine W.widen (k := 2) (n := 12) (Nat.le_of_ble_eq_true rfl) (Nat.le_of_ble_eq_true rfl) ?_
  exact W.iret hx hb hr (fun t9 ht hW => ⟨⟨r1, (), rfl, (Option.some.inj h).symm, gEnd ht hP⟩, hS.F ht⟩) hS.2.2 dL_timeOf_5 hlk
def f_L_number (a1 : Int32) (I : Nat → Nat → Int32) : Option (Int32 × (Nat → Nat → Int32)) :=
  (show Option (Int32 × (Nat → Nat → Int32)) from
    if a1 ≤ (99 : Int32) then
      some ((0 : Int32), I)
    else
      (f_L_append ((48 : Int32) + (a1 / (100 : Int32))) I).bind fun (r13, I12) =>
      some (r13, I12)).bind fun (p1, I2) =>
  (show Option (Int32 × (Nat → Nat → Int32)) from
    if a1 ≤ (9 : Int32) then
      some (p1, I2)
    else
      (f_L_append ((48 : Int32) + ((a1 / (10 : Int32)) - (a1 / (10 : Int32)) / (10 : Int32) * (10 : Int32))) I2).bind fun (r9, I8) =>
      some (r9, I8)).bind fun (p3, I4) =>
  (f_L_append ((48 : Int32) + (a1 - a1 / (10 : Int32) * (10 : Int32))) I4).bind fun (r6, I5) =>
  some (r6, I5)
set_option maxHeartbeats 8000000 in
set_option maxRecDepth 100000 in
theorem c_L_number {l : Launch} (hlf : l.stackTraces = false) {dC : Nat → ClassId} {dI : Nat → Nat → Nat} {ca : Nat → ClassId} {b : Nat → Nat} {A : Nat → Prop} {N : Nat} (hN : 129 ≤ N) (hA : gAd A b N) (I : Nat → Nat → Int32) (O : Nat → Nat → Option Nat) (J : Nat → Nat → Int64) (a1 : Int32) (res : Int32 × (Nat → Nat → Int32)) (h : f_L_number a1 I = some res) : Met l yL_number wsL_number ({ frames := 8, cells := 3, slots := 18, locals := 133 } : Room) (va_Pc [.ref (b 0), .int a1] (gPre dC dI ca b A N I O J)) (va_Qi (fun (r : Int32) (u : Nat → Nat → Int32) => res = (r, u)) (fun (u : Nat → Nat → Int32) t => va_P (dC, dI) vwCl (hW N ca b u O J) t.heap) A) 3 18 A := by
  refine Met.ofW (cc := cL_number) (maxL := 3) (ret := (some .int)) (by decide) rfl ?_
  intro p e s m args below meth c s₁ B hml hv
  obtain ⟨rfl, hP, hK, hA2, hth⟩ := hv
  have hx := B.exec
  have hb := B.bytes
  have hr := B.returns
  have hlk := B.notSynchronized
  have X : gCx p s m ([.ref (b 0), .int a1] : List Value).toArray c RL cL_number wsL_number 3 dC dI ca b A N := ⟨hx, hb, hml, findClass_of_methodNamed B.named, atoms_spec (ws := wsL_number) B.pre, hK, hA, hA2, hth⟩
  have hS : va_S A s.heap s.heap [] := va_S.rf
  have hl := lv_entry ([.ref (b 0), .int a1] : List Value) (n := 3) (Nat.le_of_ble_eq_true rfl)
  rw [lg_entry_eq]
  generalize (lg_sl ([.ref (b 0), .int a1] : List Value) ++ List.replicate (3 - (lg_sl ([.ref (b 0), .int a1] : List Value)).length) Slot.unset).toArray = ls at hl ⊢
  have hl : lv_has ls 3 [(0, .ref (b 0)), (1, .int a1)] := hl
  unfold f_L_number at h
  refine lv_iload_n hx hb dL_number_0 rfl (lv_at hl 1 rfl) ?_
  refine lv_bipush (v := 99) hx hb dL_number_1 (by decide) ?_
  obtain ⟨⟨p1, I2⟩, hv, h⟩ := hb_some h
  have K21 : ∀ (H : Heap) (locs : List Loc) (ls : Array Slot), va_P (dC, dI) vwCl (hW N ca b I2 O J) H → va_S A s.heap H locs → lv_has ls 3 [(0, .ref (b 0)), (1, .int a1)] → W p l e (headSpec wsL_number ({ frames := 8, cells := 3, slots := 18, locals := 133 } : Room)).room s m ([.ref (b 0), .int a1] : List Value).toArray below meth c H locs 1 6 (MQ below (va_Qi (fun (r : Int32) (u : Nat → Nat → Int32) => res = (r, u)) (fun (u : Nat → Nat → Int32) t => va_P (dC, dI) vwCl (hW N ca b u O J) t.heap) A) ([.ref (b 0), .int a1] : List Value).toArray s 3 18 A) (F0 m 21 ls [.int p1]) := by
    intro H locs ls hP hS hl
    refine lv_istore_n (lv' := [(2, .int p1), (0, .ref (b 0)), (1, .int a1)]) hx hb dL_number_21 rfl hl (by decide) rfl (fun ls hl => ?_)
    refine lv_iload_n hx hb dL_number_22 rfl (lv_at hl 2 rfl) ?_
    refine lv_bipush (v := 9) hx hb dL_number_23 (by decide) ?_
    obtain ⟨⟨p3, I4⟩, hv, h⟩ := hb_some h
    have K46 : ∀ (H : Heap) (locs : List Loc) (ls : Array Slot), va_P (dC, dI) vwCl (hW N ca b I4 O J) H → va_S A s.heap H locs → lv_has ls 3 [(0, .ref (b 0)), (1, .int a1)] → W p l e (headSpec wsL_number ({ frames := 8, cells := 3, slots := 18, locals := 133 } : Room)).room s m ([.ref (b 0), .int a1] : List Value).toArray below meth c H locs 2 12 (MQ below (va_Qi (fun (r : Int32) (u : Nat → Nat → Int32) => res = (r, u)) (fun (u : Nat → Nat → Int32) t => va_P (dC, dI) vwCl (hW N ca b u O J) t.heap) A) ([.ref (b 0), .int a1] : List Value).toArray s 3 18 A) (F0 m 46 ls [.int p3]) := by
      intro H locs ls hP hS hl
      refine lv_istore_n (lv' := [(2, .int p3), (0, .ref (b 0)), (1, .int a1)]) hx hb dL_number_46 rfl hl (by decide) rfl (fun ls hl => ?_)
      refine lv_aload_n hx hb dL_number_47 rfl (lv_at hl 1 rfl) ?_
      refine lv_bipush (v := 48) hx hb dL_number_48 (by decide) ?_
      refine lv_iload_n hx hb dL_number_50 rfl (lv_at hl 2 rfl) ?_
      refine lv_bipush (v := 10) hx hb dL_number_51 (by decide) ?_
      refine lv_irem hx hb dL_number_53 (by decide) ?_
      refine lv_iadd hx hb dL_number_54 ?_
      obtain ⟨q7, hcq7, h⟩ := hb_some h
      refine gcSW_i (As := [.ref (b 0), .int ((48 : Int32) + (a1 - a1 / (10 : Int32) * (10 : Int32)))]) (rest := []) (BH := (fun (u : Nat → Nat → Int32) H => va_P (dC, dI) vwCl (hW N ca b u O J) H)) X hP hS (c_L_append hlf hN hA I4 O J ((48 : Int32) + (a1 - a1 / (10 : Int32) * (10 : Int32))) q7 hcq7) (vx_cwSW 2 X.ts gL_number_L_append rfl rfl rfl (by decide +kernel) ⟨Nat.le_of_ble_eq_true rfl, Nat.le_of_ble_eq_true rfl⟩) rfl hl.1 rfl (Nat.le_of_ble_eq_true rfl) dL_number_55 ⟨Nat.le_of_ble_eq_true rfl, Nat.le_of_ble_eq_true rfl⟩ (fun r6 I5 H locs hw hP hS => ?_)
      subst hw
      refine W.widen (k := 3) (n := 18) (Nat.le_of_ble_eq_true rfl) (Nat.le_of_ble_eq_true rfl) ?_
      exact W.iret hx hb hr (fun t9 ht hW => ⟨⟨r6, I5, rfl, (Option.some.inj h).symm, gEnd ht hP⟩, hS.F ht⟩) hS.2.2 dL_number_58 hlk
    have h := hv
    refine lv_icmp_le (tgt := 45) hx hb dL_number_25 (by decide) (fun c11 => ?_) (fun c11 => ?_)
    · have h := gif_t c11 h
      refine lv_iload_n hx hb dL_number_45 rfl (lv_at hl 0 rfl) ?_
      refine W.widen (k := 2) (n := 12) (Nat.le_of_ble_eq_true rfl) (Nat.le_of_ble_eq_true rfl) ?_
      cases h
      exact K46 _ _ _ hP hS (lv_sub hl [1, 2] rfl)
    · have h := gif_f c11 h
      refine lv_aload_n hx hb dL_number_28 rfl (lv_at hl 1 rfl) ?_
      refine lv_bipush (v := 48) hx hb dL_number_29 (by decide) ?_
      refine lv_iload_n hx hb dL_number_31 rfl (lv_at hl 2 rfl) ?_
      refine lv_bipush (v := 10) hx hb dL_number_32 (by decide) ?_
      refine lv_idiv hx hb dL_number_34 (by decide) ?_
      refine lv_bipush (v := 10) hx hb dL_number_35 (by decide) ?_
      refine lv_irem hx hb dL_number_37 (by decide) ?_
      refine lv_iadd hx hb dL_number_38 ?_
      obtain ⟨q10, hcq10, h⟩ := hb_some h
      refine gcSW_i (As := [.ref (b 0), .int ((48 : Int32) + ((a1 / (10 : Int32)) - (a1 / (10 : Int32)) / (10 : Int32) * (10 : Int32)))]) (rest := []) (BH := (fun (u : Nat → Nat → Int32) H => va_P (dC, dI) vwCl (hW N ca b u O J) H)) X hP hS (c_L_append hlf hN hA I2 O J ((48 : Int32) + ((a1 / (10 : Int32)) - (a1 / (10 : Int32)) / (10 : Int32) * (10 : Int32))) q10 hcq10) (vx_cwSW 2 X.ts gL_number_L_append rfl rfl rfl (by decide +kernel) ⟨Nat.le_of_ble_eq_true rfl, Nat.le_of_ble_eq_true rfl⟩) rfl hl.1 rfl (Nat.le_of_ble_eq_true rfl) dL_number_39 ⟨Nat.le_of_ble_eq_true rfl, Nat.le_of_ble_eq_true rfl⟩ (fun r9 I8 H locs hw hP hS => ?_)
      subst hw
      refine lv_goto (tgt := 46) hx hb dL_number_42 (by decide) ?_
      cases h
      exact K46 _ _ _ hP hS (lv_sub hl [1, 2] rfl)
  have h := hv
  refine lv_icmp_le (tgt := 20) hx hb dL_number_3 (by decide) (fun c15 => ?_) (fun c15 => ?_)
  · have h := gif_t c15 h
    refine lv_iconst (v := 0) hx hb dL_number_20 (by decide) ?_
    refine W.widen (k := 1) (n := 6) (Nat.le_of_ble_eq_true rfl) (Nat.le_of_ble_eq_true rfl) ?_
    cases h
    exact K21 _ _ _ hP hS (lv_sub hl [0, 1] rfl)
  · have h := gif_f c15 h
    refine lv_aload_n hx hb dL_number_6 rfl (lv_at hl 0 rfl) ?_
    refine lv_bipush (v := 48) hx hb dL_number_7 (by decide) ?_
    refine lv_iload_n hx hb dL_number_9 rfl (lv_at hl 1 rfl) ?_
    refine lv_bipush (v := 100) hx hb dL_number_10 (by decide) ?_
    refine lv_idiv hx hb dL_number_12 (by decide) ?_
    refine lv_iadd hx hb dL_number_13 ?_
    obtain ⟨q14, hcq14, h⟩ := hb_some h
    refine gcSW_i (As := [.ref (b 0), .int ((48 : Int32) + (a1 / (100 : Int32)))]) (rest := []) (BH := (fun (u : Nat → Nat → Int32) H => va_P (dC, dI) vwCl (hW N ca b u O J) H)) X hP hS (c_L_append hlf hN hA I O J ((48 : Int32) + (a1 / (100 : Int32))) q14 hcq14) (vx_cwSW 2 X.ts gL_number_L_append rfl rfl rfl (by decide +kernel) ⟨Nat.le_of_ble_eq_true rfl, Nat.le_of_ble_eq_true rfl⟩) rfl hl.1 rfl (Nat.le_of_ble_eq_true rfl) dL_number_14 ⟨Nat.le_of_ble_eq_true rfl, Nat.le_of_ble_eq_true rfl⟩ (fun r13 I12 H locs hw hP hS => ?_)
    subst hw
    refine lv_goto (tgt := 21) hx hb dL_number_17 (by decide) ?_
    cases h
    exact K21 _ _ _ hP hS (lv_sub hl [0, 1] rfl)
def f_L_acts_L89 (a1 : Int32) (r1 : Int32) : Nat → Int32 → Int32 → (Nat → Nat → Int32) → Option (Int32 × (Nat → Nat → Int32))
  | 0, _, _, _ => none
  | fuel + 1, p60, p61, I62 =>
    if ((1 : Int32) + ((a1 / (32 : Int32)) - (a1 / (32 : Int32)) / (7 : Int32) * (7 : Int32))) ≤ p61 then
      some (p60, I62)
    else
      (show Option (Int32 × (Nat → Nat → Int32)) from
        if p61 ≤ 0 then
          some ((0 : Int32), I62)
        else
          (f_L_append (59 : Int32) I62).bind fun (r121, I120) =>
          some (r121, I120)).bind fun (p74, I75) =>
      (show Option (Int32) from
        if (3 : Int32) ≤ ((((a1 / (32 : Int32)) / (8 : Int32)) >>> (((2 : Int32) * p61) &&& 31)) - (((a1 / (32 : Int32)) / (8 : Int32)) >>> (((2 : Int32) * p61) &&& 31)) / (8 : Int32) * (8 : Int32)) then
          if (5 : Int32) ≤ ((((a1 / (32 : Int32)) / (8 : Int32)) >>> (((2 : Int32) * p61) &&& 31)) - (((a1 / (32 : Int32)) / (8 : Int32)) >>> (((2 : Int32) * p61) &&& 31)) / (8 : Int32) * (8 : Int32)) then
            if ((((a1 / (32 : Int32)) / (8 : Int32)) >>> (((2 : Int32) * p61) &&& 31)) - (((a1 / (32 : Int32)) / (8 : Int32)) >>> (((2 : Int32) * p61) &&& 31)) / (8 : Int32) * (8 : Int32)) = (5 : Int32) then
              some (99 : Int32)
            else
              some (116 : Int32)
          else
            some (110 : Int32)
        else
          some (112 : Int32)).bind fun p76 =>
      (f_L_append p76 I75).bind fun (r78, I77) =>
      (show Option (Int32 × (Nat → Nat → Int32)) from
        if (5 : Int32) ≤ ((((a1 / (32 : Int32)) / (8 : Int32)) >>> (((2 : Int32) * p61) &&& 31)) - (((a1 / (32 : Int32)) / (8 : Int32)) >>> (((2 : Int32) * p61) &&& 31)) / (8 : Int32) * (8 : Int32)) then
          if ((((a1 / (32 : Int32)) / (8 : Int32)) >>> (((2 : Int32) * p61) &&& 31)) - (((a1 / (32 : Int32)) / (8 : Int32)) >>> (((2 : Int32) * p61) &&& 31)) / (8 : Int32) * (8 : Int32)) = (5 : Int32) then
            (f_L_number (((((a1 / (32 : Int32)) / (8 : Int32)) >>> (((2 : Int32) * p61) &&& 31)) / (8 : Int32)) - ((((a1 / (32 : Int32)) / (8 : Int32)) >>> (((2 : Int32) * p61) &&& 31)) / (8 : Int32)) / (4 : Int32) * (4 : Int32)) I77).bind fun (r108, I107) =>
            some (r108, I107)
          else
            some (r78, I77)
        else
          (show Option (Int32) from
            if r1 = 0 then
              some (((((a1 / (32 : Int32)) / (8 : Int32)) >>> (((2 : Int32) * p61) &&& 31)) / (8 : Int32)) - ((((a1 / (32 : Int32)) / (8 : Int32)) >>> (((2 : Int32) * p61) &&& 31)) / (8 : Int32)) / (8 : Int32) * (8 : Int32))
            else
              hg (gne r1) <|
              some (((((a1 / (32 : Int32)) / (8 : Int32)) >>> (((2 : Int32) * p61) &&& 31)) / (8 : Int32)) - ((((a1 / (32 : Int32)) / (8 : Int32)) >>> (((2 : Int32) * p61) &&& 31)) / (8 : Int32)) / r1 * r1)).bind fun p111 =>
          (f_L_number p111 I77).bind fun (r113, I112) =>
          some (r113, I112)).bind fun (p80, I81) =>
      (show Option (Int32 × (Nat → Nat → Int32)) from
        if ((((a1 / (32 : Int32)) / (8 : Int32)) >>> (((2 : Int32) * p61) &&& 31)) - (((a1 / (32 : Int32)) / (8 : Int32)) >>> (((2 : Int32) * p61) &&& 31)) / (8 : Int32) * (8 : Int32)) < (3 : Int32) then
          (f_L_append (61 : Int32) I81).bind fun (r100, I99) =>
          some (r100, I99)
        else
          if ((((a1 / (32 : Int32)) / (8 : Int32)) >>> (((2 : Int32) * p61) &&& 31)) - (((a1 / (32 : Int32)) / (8 : Int32)) >>> (((2 : Int32) * p61) &&& 31)) / (8 : Int32) * (8 : Int32)) = (5 : Int32) then
            (f_L_append (61 : Int32) I81).bind fun (r103, I102) =>
            some (r103, I102)
          else
            some (p80, I81)).bind fun (p82, I83) =>
      (show Option (Int32 × (Nat → Nat → Int32)) from
        if (3 : Int32) ≤ ((((a1 / (32 : Int32)) / (8 : Int32)) >>> (((2 : Int32) * p61) &&& 31)) - (((a1 / (32 : Int32)) / (8 : Int32)) >>> (((2 : Int32) * p61) &&& 31)) / (8 : Int32) * (8 : Int32)) then
          if ((((a1 / (32 : Int32)) / (8 : Int32)) >>> (((2 : Int32) * p61) &&& 31)) - (((a1 / (32 : Int32)) / (8 : Int32)) >>> (((2 : Int32) * p61) &&& 31)) / (8 : Int32) * (8 : Int32)) = (5 : Int32) then
            (f_L_number ((8 : Int32) + (((((a1 / (32 : Int32)) / (8 : Int32)) >>> (((2 : Int32) * p61) &&& 31)) / (64 : Int32)) - ((((a1 / (32 : Int32)) / (8 : Int32)) >>> (((2 : Int32) * p61) &&& 31)) / (64 : Int32)) / (33 : Int32) * (33 : Int32))) I83).bind fun (r92, I91) =>
            some (r92, I91)
          else
            if ((((a1 / (32 : Int32)) / (8 : Int32)) >>> (((2 : Int32) * p61) &&& 31)) - (((a1 / (32 : Int32)) / (8 : Int32)) >>> (((2 : Int32) * p61) &&& 31)) / (8 : Int32) * (8 : Int32)) ≤ (5 : Int32) then
              some (p82, I83)
            else
              (f_L_number ((1 : Int32) + (((((a1 / (32 : Int32)) / (8 : Int32)) >>> (((2 : Int32) * p61) &&& 31)) / (8 : Int32)) - ((((a1 / (32 : Int32)) / (8 : Int32)) >>> (((2 : Int32) * p61) &&& 31)) / (8 : Int32)) / (60 : Int32) * (60 : Int32))) I83).bind fun (r88, I87) =>
              some (r88, I87)
        else
          (f_L_number ((10 : Int32) + (((((a1 / (32 : Int32)) / (8 : Int32)) >>> (((2 : Int32) * p61) &&& 31)) / (64 : Int32)) - ((((a1 / (32 : Int32)) / (8 : Int32)) >>> (((2 : Int32) * p61) &&& 31)) / (64 : Int32)) / (31 : Int32) * (31 : Int32))) I83).bind fun (r96, I95) =>
          some (r96, I95)).bind fun (p84, I85) =>
      hlet (p61 + 1) fun x86 =>
      f_L_acts_L89 a1 r1 fuel p84 x86 I85
def f_L_acts (a1 : Int32) (I : Nat → Nat → Int32) (O : Nat → Nat → Option Nat) : Option (Int32 × (Nat → Nat → Int32) × (Nat → Nat → Option Nat)) :=
  (f_X7_sparrows I).bind fun r1 =>
  (show Option (Int32) from
    if r1 = 0 then
      some (0 : Int32)
    else
      hg (gne r1) <|
      some (((a1 / (32 : Int32)) / (8 : Int32)) - ((a1 / (32 : Int32)) / (8 : Int32)) / r1 * r1)).bind fun p3 =>
  if (5 : Int32) ≤ (a1 - a1 / (32 : Int32) * (32 : Int32)) then
    if (9 : Int32) ≤ (a1 - a1 / (32 : Int32) * (32 : Int32)) then
      if (19 : Int32) ≤ (a1 - a1 / (32 : Int32) * (32 : Int32)) then
        if (22 : Int32) ≤ (a1 - a1 / (32 : Int32) * (32 : Int32)) then
          if (24 : Int32) ≤ (a1 - a1 / (32 : Int32) * (32 : Int32)) then
            if (27 : Int32) ≤ (a1 - a1 / (32 : Int32) * (32 : Int32)) then
              if (a1 - a1 / (32 : Int32) * (32 : Int32)) = (27 : Int32) then
                (show Option (Int32) from
                  if r1 = 0 then
                    some (0 : Int32)
                  else
                    hg (gne r1) <|
                    some (((a1 / (32 : Int32)) / (64 : Int32)) - ((a1 / (32 : Int32)) / (64 : Int32)) / r1 * r1)).bind fun p19 =>
                (f_L_pair p3 p19 I O).bind fun (r22, I20, O21) =>
                some (r22, I20, O21)
              else
                if (a1 - a1 / (32 : Int32) * (32 : Int32)) = (28 : Int32) then
                  (f_L_setLimit (((a1 / (32 : Int32)) / (8 : Int32)) - ((a1 / (32 : Int32)) / (8 : Int32)) / (4 : Int32) * (4 : Int32)) ((8 : Int32) + (((a1 / (32 : Int32)) / (64 : Int32)) - ((a1 / (32 : Int32)) / (64 : Int32)) / (33 : Int32) * (33 : Int32))) I O).bind fun (r16, I14, O15) =>
                  some (r16, I14, O15)
                else
                  if (a1 - a1 / (32 : Int32) * (32 : Int32)) = (29 : Int32) then
                    (f_L_setLaps ((1 : Int32) + (((a1 / (32 : Int32)) / (8 : Int32)) - ((a1 / (32 : Int32)) / (8 : Int32)) / (3 : Int32) * (3 : Int32))) I O).bind fun (r11, I9, O10) =>
                    some (r11, I9, O10)
                  else
                    if ((a1 / (32 : Int32)) - (a1 / (32 : Int32)) / (4 : Int32) * (4 : Int32)) = 0 then
                      (f_L_begin I O).bind fun (r6, I4, O5) =>
                      some (r6, I4, O5)
                    else
                      some ((0 : Int32), I, O)
            else
              (f_L_callIn p3 I O).bind fun (r28, I26, O27) =>
              some (r28, I26, O27)
          else
            (f_L_setPace p3 ((10 : Int32) + (((a1 / (32 : Int32)) / (64 : Int32)) - ((a1 / (32 : Int32)) / (64 : Int32)) / (31 : Int32) * (31 : Int32))) I O).bind fun (r33, I31, O32) =>
            some (r33, I31, O32)
        else
          (show Option (Int32) from
            if ((a1 / (32 : Int32)) - (a1 / (32 : Int32)) / (3 : Int32) * (3 : Int32)) = 0 then
              some (100 : Int32)
            else
              some (900 : Int32)).bind fun p36 =>
          hg (gne p36) <|
          (f_L_enter ((10 : Int32) + (((a1 / (32 : Int32)) / (8 : Int32)) - ((a1 / (32 : Int32)) / (8 : Int32)) / (31 : Int32) * (31 : Int32))) ((100 : Int32) + (((a1 / (32 : Int32)) / (64 : Int32)) - ((a1 / (32 : Int32)) / (64 : Int32)) / p36 * p36)) (((a1 / (32 : Int32)) / (16 : Int32)) - ((a1 / (32 : Int32)) / (16 : Int32)) / (2 : Int32) * (2 : Int32)) I O).bind fun (r39, I37, O38) =>
          some (r39, I37, O38)
      else
        (f_X7_isRacing I).bind fun r43 =>
        if r43 = 0 then
          (f_L_begin I O).bind fun (r47, I45, O46) =>
          some (r47, I45, O46)
        else
          (show Option (Int32) from
            if ((a1 / (32 : Int32)) - (a1 / (32 : Int32)) / (4 : Int32) * (4 : Int32)) = 0 then
              some (60 : Int32)
            else
              some (8 : Int32)).bind fun p49 =>
          hg (gne p49) <|
          (f_L_pass ((1 : Int32) + ((a1 / (32 : Int32)) - (a1 / (32 : Int32)) / p49 * p49)) I O).bind fun (r52, I50, O51) =>
          some (r52, I50, O51)
    else
      (f_X7_clearBuffer I).bind fun (r58, I57) =>
      (f_L_acts_L89 a1 r1 16 r58 (0 : Int32) I57).bind fun (p63, I64) =>
      if p63 < (1 : Int32) then
        some ((-99 : Int32), I64, O)
      else
        (f_X7_firstError I64).bind fun (r66, I65) =>
        if r66 = p63 then
          (f_L_follow I65 O).bind fun (r70, I68, O69) =>
          some (r70, I68, O69)
        else
          some ((-99 : Int32), I65, O)
  else
    if (3 : Int32) ≤ (a1 - a1 / (32 : Int32) * (32 : Int32)) then
      if (a1 - a1 / (32 : Int32) * (32 : Int32)) = (3 : Int32) then
        (f_L_keep ((a1 / (32 : Int32)) - (a1 / (32 : Int32)) / (2 : Int32) * (2 : Int32)) I).bind fun (r131, I130) =>
        some (r131, I130, O)
      else
        (f_L_goBack ((a1 / (32 : Int32)) - (a1 / (32 : Int32)) / (2 : Int32) * (2 : Int32)) I O).bind fun (r128, I126, O127) =>
        some (r128, I126, O127)
    else
      (f_L_undo I O).bind fun (r135, I134) =>
      some (r135, I134, O)
set_option maxHeartbeats 8000000 in
set_option maxRecDepth 100000 in
theorem c_L_acts {l : Launch} (hlf : l.stackTraces = false) {dC : Nat → ClassId} {dI : Nat → Nat → Nat} {ca : Nat → ClassId} {b : Nat → Nat} {A : Nat → Prop} {N : Nat} (hN : 129 ≤ N) (hA : gAd A b N) (I : Nat → Nat → Int32) (O : Nat → Nat → Option Nat) (J : Nat → Nat → Int64) (a1 : Int32) (res : Int32 × (Nat → Nat → Int32) × (Nat → Nat → Option Nat)) (h : f_L_acts a1 I O = some res) : Met l yL_acts wsL_acts ({ frames := 9, cells := 308, slots := 1848, locals := 186 } : Room) (va_Pc [.ref (b 0), .int a1] (gPre dC dI ca b A N I O J)) (va_Qi (fun (r : Int32) (u : (Nat → Nat → Int32) × (Nat → Nat → Option Nat)) => res = (r, u)) (fun (u : (Nat → Nat → Int32) × (Nat → Nat → Option Nat)) t => va_P (dC, dI) vwCl (hW N ca b u.1 u.2 J) t.heap) A) 308 1848 A := by
  refine Met.ofW (cc := cL_acts) (maxL := 10) (ret := (some .int)) (by decide) rfl ?_
  intro p e s m args below meth c s₁ B hml hv
  obtain ⟨rfl, hP, hK, hA2, hth⟩ := hv
  have hx := B.exec
  have hb := B.bytes
  have hr := B.returns
  have hlk := B.notSynchronized
  have X : gCx p s m ([.ref (b 0), .int a1] : List Value).toArray c RL cL_acts wsL_acts 10 dC dI ca b A N := ⟨hx, hb, hml, findClass_of_methodNamed B.named, atoms_spec (ws := wsL_acts) B.pre, hK, hA, hA2, hth⟩
  have hS : va_S A s.heap s.heap [] := va_S.rf
  have hl := lv_entry ([.ref (b 0), .int a1] : List Value) (n := 10) (Nat.le_of_ble_eq_true rfl)
  rw [lg_entry_eq]
  generalize (lg_sl ([.ref (b 0), .int a1] : List Value) ++ List.replicate (10 - (lg_sl ([.ref (b 0), .int a1] : List Value)).length) Slot.unset).toArray = ls at hl ⊢
  have hl : lv_has ls 10 [(0, .ref (b 0)), (1, .int a1)] := hl
  unfold f_L_acts at h
  have hRc : (headSpec wsL_acts ({ frames := 9, cells := 308, slots := 1848, locals := 186 } : Room)).room.cells = 308 := rfl
  have hRs : (headSpec wsL_acts ({ frames := 9, cells := 308, slots := 1848, locals := 186 } : Room)).room.slots = 1848 := rfl
  refine lv_iload_n hx hb dL_acts_0 rfl (lv_at hl 1 rfl) ?_
  refine lv_bipush (v := 32) hx hb dL_acts_1 (by decide) ?_
  refine lv_idiv hx hb dL_acts_3 (by decide) ?_
  refine lv_istore_n (lv' := [(2, .int (a1 / (32 : Int32))), (0, .ref (b 0)), (1, .int a1)]) hx hb dL_acts_4 rfl hl (by decide) rfl (fun ls hl => ?_)
  refine lv_iload_n hx hb dL_acts_5 rfl (lv_at hl 2 rfl) ?_
  refine lv_bipush (v := 32) hx hb dL_acts_6 (by decide) ?_
  refine lv_irem hx hb dL_acts_8 (by decide) ?_
  refine lv_istore_n (lv' := [(3, .int (a1 - a1 / (32 : Int32) * (32 : Int32))), (2, .int (a1 / (32 : Int32))), (0, .ref (b 0)), (1, .int a1)]) hx hb dL_acts_9 rfl hl (by decide) rfl (fun ls hl => ?_)
  refine lv_aload_n hx hb dL_acts_10 rfl (lv_at hl 2 rfl) ?_
  obtain ⟨q2, hcq2, h⟩ := hb_some h
  refine gdV_i (As := []) (rest := []) (BH := (fun (u : Unit) H => va_P (dC, dI) vwCl (hW N ca b I O J) H)) X hP hS (c_X7_sparrows hN hA I O J q2 hcq2) (cwV 0 X.ts gL_acts_X7_sparrows rfl rfl rfl (by decide +kernel) ⟨Nat.le_of_ble_eq_true rfl, Nat.le_of_ble_eq_true rfl⟩) (gr7 X hP kc_0 (sk_in hN kc_0 (by decide))) rfl hl.1 rfl (Nat.le_of_ble_eq_true rfl) dL_acts_11 ⟨Nat.le_of_ble_eq_true rfl, Nat.le_of_ble_eq_true rfl⟩ (fun r1 u9 H locs hw hP hS => ?_)
  have hw := hw.symm
  subst hw
  refine lv_istore (lv' := [(4, .int r1), (3, .int (a1 - a1 / (32 : Int32) * (32 : Int32))), (2, .int (a1 / (32 : Int32))), (0, .ref (b 0)), (1, .int a1)]) hx hb dL_acts_14 hl (by decide) rfl (fun ls hl => ?_)
  refine lv_iload hx hb dL_acts_16 (lv_at hl 0 rfl) ?_
  obtain ⟨p3, hv, h⟩ := hb_some h
  have K32 : ∀ (H : Heap) (locs : List Loc) (ls : Array Slot), va_P (dC, dI) vwCl (hW N ca b I O J) H → va_S A s.heap H locs → lv_has ls 10 [(0, .ref (b 0)), (2, .int (a1 / (32 : Int32))), (3, .int (a1 - a1 / (32 : Int32) * (32 : Int32))), (4, .int r1)] → W p l e (headSpec wsL_acts ({ frames := 9, cells := 308, slots := 1848, locals := 186 } : Room)).room s m ([.ref (b 0), .int a1] : List Value).toArray below meth c H locs 0 0 (MQ below (va_Qi (fun (r : Int32) (u : (Nat → Nat → Int32) × (Nat → Nat → Option Nat)) => res = (r, u)) (fun (u : (Nat → Nat → Int32) × (Nat → Nat → Option Nat)) t => va_P (dC, dI) vwCl (hW N ca b u.1 u.2 J) t.heap) A) ([.ref (b 0), .int a1] : List Value).toArray s 308 1848 A) (F0 m 32 ls [.int p3]) := by
    intro H locs ls hP hS hl
    refine lv_istore (lv' := [(5, .int p3), (0, .ref (b 0)), (2, .int (a1 / (32 : Int32))), (3, .int (a1 - a1 / (32 : Int32) * (32 : Int32))), (4, .int r1)]) hx hb dL_acts_32 hl (by decide) rfl (fun ls hl => ?_)
    refine lv_iload_n hx hb dL_acts_34 rfl (lv_at hl 3 rfl) ?_
    refine lv_iconst (v := 5) hx hb dL_acts_35 (by decide) ?_
    refine lv_icmp_ge (tgt := 74) hx hb dL_acts_36 (by decide) (fun c138 => ?_) (fun c138 => ?_)
    · have h := gif_t c138 h
      refine lv_iload_n hx hb dL_acts_74 rfl (lv_at hl 3 rfl) ?_
      refine lv_bipush (v := 9) hx hb dL_acts_75 (by decide) ?_
      refine lv_icmp_ge (tgt := 368) hx hb dL_acts_77 (by decide) (fun c125 => ?_) (fun c125 => ?_)
      · have h := gif_t c125 h
        refine lv_iload_n hx hb dL_acts_368 rfl (lv_at hl 3 rfl) ?_
        refine lv_bipush (v := 19) hx hb dL_acts_369 (by decide) ?_
        refine lv_icmp_ge (tgt := 410) hx hb dL_acts_371 (by decide) (fun c56 => ?_) (fun c56 => ?_)
        · have h := gif_t c56 h
          refine lv_iload_n hx hb dL_acts_410 rfl (lv_at hl 3 rfl) ?_
          refine lv_bipush (v := 22) hx hb dL_acts_411 (by decide) ?_
          refine lv_icmp_ge (tgt := 461) hx hb dL_acts_413 (by decide) (fun c42 => ?_) (fun c42 => ?_)
          · have h := gif_t c42 h
            refine lv_iload_n hx hb dL_acts_461 rfl (lv_at hl 3 rfl) ?_
            refine lv_bipush (v := 24) hx hb dL_acts_462 (by decide) ?_
            refine lv_icmp_ge (tgt := 486) hx hb dL_acts_464 (by decide) (fun c35 => ?_) (fun c35 => ?_)
            · have h := gif_t c35 h
              refine lv_iload_n hx hb dL_acts_486 rfl (lv_at hl 3 rfl) ?_
              refine lv_bipush (v := 27) hx hb dL_acts_487 (by decide) ?_
              refine lv_icmp_ge (tgt := 501) hx hb dL_acts_489 (by decide) (fun c30 => ?_) (fun c30 => ?_)
              · have h := gif_t c30 h
                refine lv_iload_n hx hb dL_acts_501 rfl (lv_at hl 3 rfl) ?_
                refine lv_bipush (v := 27) hx hb dL_acts_502 (by decide) ?_
                refine lv_icmp_ne (tgt := 532) hx hb dL_acts_504 (by decide) (fun c25 => ?_) (fun c25 => ?_)
                · have h := gif_f c25 h
                  refine lv_iload_n hx hb dL_acts_532 rfl (lv_at hl 3 rfl) ?_
                  refine lv_bipush (v := 28) hx hb dL_acts_533 (by decide) ?_
                  refine lv_icmp_ne (tgt := 561) hx hb dL_acts_535 (by decide) (fun c18 => ?_) (fun c18 => ?_)
                  · have h := gif_f c18 h
                    refine lv_iload_n hx hb dL_acts_561 rfl (lv_at hl 3 rfl) ?_
                    refine lv_bipush (v := 29) hx hb dL_acts_562 (by decide) ?_
                    refine lv_icmp_ne (tgt := 582) hx hb dL_acts_564 (by decide) (fun c13 => ?_) (fun c13 => ?_)
                    · have h := gif_f c13 h
                      refine lv_iload_n hx hb dL_acts_582 rfl (lv_at hl 2 rfl) ?_
                      refine lv_iconst (v := 4) hx hb dL_acts_583 (by decide) ?_
                      refine lv_irem hx hb dL_acts_584 (by decide) ?_
                      refine lv_if_ne (tgt := 595) hx hb dL_acts_585 (by decide) (fun c8 => ?_) (fun c8 => ?_)
                      · have h := gif_f c8 h
                        refine lv_iconst (v := 0) hx hb dL_acts_595 (by decide) ?_
                        refine W.widen (k := 308) (n := 1848) (Nat.le_of_ble_eq_true rfl) (Nat.le_of_ble_eq_true rfl) ?_
                        exact W.iret hx hb hr (fun t9 ht hW => ⟨⟨(0 : Int32), (I, O), rfl, (Option.some.inj h).symm, gEnd ht hP⟩, hS.F ht⟩) hS.2.2 dL_acts_596 hlk
                      · have h := gif_t c8 h
                        refine lv_aload_n hx hb dL_acts_588 rfl (lv_at hl 1 rfl) ?_
                        obtain ⟨q7, hcq7, h⟩ := hb_some h
                        refine gcSW_i (As := [.ref (b 0)]) (rest := []) (BH := (fun (u : (Nat → Nat → Int32) × (Nat → Nat → Option Nat)) H => va_P (dC, dI) vwCl (hW N ca b u.1 u.2 J) H)) X hP hS (c_L_begin hlf hN hA I O J q7 hcq7) (vx_cwSW 1 X.ts gL_acts_L_begin rfl rfl rfl (by decide +kernel) ⟨Nat.le_of_ble_eq_true rfl, Nat.le_of_ble_eq_true rfl⟩) rfl hl.1 rfl (Nat.le_of_ble_eq_true rfl) dL_acts_589 ⟨Nat.le_of_ble_eq_true rfl, Nat.le_of_ble_eq_true rfl⟩ (fun r6 u9 H locs hw hP hS => ?_)
                        obtain ⟨I4, O5⟩ := u9
                        subst hw
                        refine lv_goto (tgt := 596) hx hb dL_acts_592 (by decide) ?_
                        refine W.widen (k := 308) (n := 1848) (Nat.le_of_ble_eq_true rfl) (Nat.le_of_ble_eq_true rfl) ?_
                        exact W.iret hx hb hr (fun t9 ht hW => ⟨⟨r6, (I4, O5), rfl, (Option.some.inj h).symm, gEnd ht hP⟩, hS.F ht⟩) hS.2.2 dL_acts_596 hlk
                    · have h := gif_t c13 h
                      refine lv_aload_n hx hb dL_acts_567 rfl (lv_at hl 1 rfl) ?_
                      refine lv_iconst (v := 1) hx hb dL_acts_568 (by decide) ?_
                      refine lv_iload_n hx hb dL_acts_569 rfl (lv_at hl 2 rfl) ?_
                      refine lv_bipush (v := 8) hx hb dL_acts_570 (by decide) ?_
                      refine lv_idiv hx hb dL_acts_572 (by decide) ?_
                      refine lv_iconst (v := 3) hx hb dL_acts_573 (by decide) ?_
                      refine lv_irem hx hb dL_acts_574 (by decide) ?_
                      refine lv_iadd hx hb dL_acts_575 ?_
                      obtain ⟨q12, hcq12, h⟩ := hb_some h
                      refine gcSW_i (As := [.ref (b 0), .int ((1 : Int32) + (((a1 / (32 : Int32)) / (8 : Int32)) - ((a1 / (32 : Int32)) / (8 : Int32)) / (3 : Int32) * (3 : Int32)))]) (rest := []) (BH := (fun (u : (Nat → Nat → Int32) × (Nat → Nat → Option Nat)) H => va_P (dC, dI) vwCl (hW N ca b u.1 u.2 J) H)) X hP hS (c_L_setLaps hlf hN hA I O J ((1 : Int32) + (((a1 / (32 : Int32)) / (8 : Int32)) - ((a1 / (32 : Int32)) / (8 : Int32)) / (3 : Int32) * (3 : Int32))) q12 hcq12) (vx_cwSW 2 X.ts gL_acts_L_setLaps rfl rfl rfl (by decide +kernel) ⟨Nat.le_of_ble_eq_true rfl, Nat.le_of_ble_eq_true rfl⟩) rfl hl.1 rfl (Nat.le_of_ble_eq_true rfl) dL_acts_576 ⟨Nat.le_of_ble_eq_true rfl, Nat.le_of_ble_eq_true rfl⟩ (fun r11 u9 H locs hw hP hS => ?_)
                      obtain ⟨I9, O10⟩ := u9
                      subst hw
                      refine lv_goto (tgt := 596) hx hb dL_acts_579 (by decide) ?_
                      refine W.widen (k := 308) (n := 1848) (Nat.le_of_ble_eq_true rfl) (Nat.le_of_ble_eq_true rfl) ?_
                      exact W.iret hx hb hr (fun t9 ht hW => ⟨⟨r11, (I9, O10), rfl, (Option.some.inj h).symm, gEnd ht hP⟩, hS.F ht⟩) hS.2.2 dL_acts_596 hlk
                  · have h := gif_t c18 h
                    refine lv_aload_n hx hb dL_acts_538 rfl (lv_at hl 1 rfl) ?_
                    refine lv_iload_n hx hb dL_acts_539 rfl (lv_at hl 2 rfl) ?_
                    refine lv_bipush (v := 8) hx hb dL_acts_540 (by decide) ?_
                    refine lv_idiv hx hb dL_acts_542 (by decide) ?_
                    refine lv_iconst (v := 4) hx hb dL_acts_543 (by decide) ?_
                    refine lv_irem hx hb dL_acts_544 (by decide) ?_
                    refine lv_bipush (v := 8) hx hb dL_acts_545 (by decide) ?_
                    refine lv_iload_n hx hb dL_acts_547 rfl (lv_at hl 2 rfl) ?_
                    refine lv_bipush (v := 64) hx hb dL_acts_548 (by decide) ?_
                    refine lv_idiv hx hb dL_acts_550 (by decide) ?_
                    refine lv_bipush (v := 33) hx hb dL_acts_551 (by decide) ?_
                    refine lv_irem hx hb dL_acts_553 (by decide) ?_
                    refine lv_iadd hx hb dL_acts_554 ?_
                    obtain ⟨q17, hcq17, h⟩ := hb_some h
                    refine gcSW_i (As := [.ref (b 0), .int (((a1 / (32 : Int32)) / (8 : Int32)) - ((a1 / (32 : Int32)) / (8 : Int32)) / (4 : Int32) * (4 : Int32)), .int ((8 : Int32) + (((a1 / (32 : Int32)) / (64 : Int32)) - ((a1 / (32 : Int32)) / (64 : Int32)) / (33 : Int32) * (33 : Int32)))]) (rest := []) (BH := (fun (u : (Nat → Nat → Int32) × (Nat → Nat → Option Nat)) H => va_P (dC, dI) vwCl (hW N ca b u.1 u.2 J) H)) X hP hS (c_L_setLimit hlf hN hA I O J (((a1 / (32 : Int32)) / (8 : Int32)) - ((a1 / (32 : Int32)) / (8 : Int32)) / (4 : Int32) * (4 : Int32)) ((8 : Int32) + (((a1 / (32 : Int32)) / (64 : Int32)) - ((a1 / (32 : Int32)) / (64 : Int32)) / (33 : Int32) * (33 : Int32))) q17 hcq17) (vx_cwSW 3 X.ts gL_acts_L_setLimit rfl rfl rfl (by decide +kernel) ⟨Nat.le_of_ble_eq_true rfl, Nat.le_of_ble_eq_true rfl⟩) rfl hl.1 rfl (Nat.le_of_ble_eq_true rfl) dL_acts_555 ⟨Nat.le_of_ble_eq_true rfl, Nat.le_of_ble_eq_true rfl⟩ (fun r16 u9 H locs hw hP hS => ?_)
                    obtain ⟨I14, O15⟩ := u9
                    subst hw
                    refine lv_goto (tgt := 596) hx hb dL_acts_558 (by decide) ?_
                    refine W.widen (k := 308) (n := 1848) (Nat.le_of_ble_eq_true rfl) (Nat.le_of_ble_eq_true rfl) ?_
                    exact W.iret hx hb hr (fun t9 ht hW => ⟨⟨r16, (I14, O15), rfl, (Option.some.inj h).symm, gEnd ht hP⟩, hS.F ht⟩) hS.2.2 dL_acts_596 hlk
                · have h := gif_t c25 h
                  refine lv_aload_n hx hb dL_acts_507 rfl (lv_at hl 1 rfl) ?_
                  refine lv_iload hx hb dL_acts_508 (lv_at hl 0 rfl) ?_
                  refine lv_iload hx hb dL_acts_510 (lv_at hl 4 rfl) ?_
                  obtain ⟨p19, hv, h⟩ := hb_some h
                  have K526 : ∀ (H : Heap) (locs : List Loc) (ls : Array Slot), va_P (dC, dI) vwCl (hW N ca b I O J) H → va_S A s.heap H locs → lv_has ls 10 [] → W p l e (headSpec wsL_acts ({ frames := 9, cells := 308, slots := 1848, locals := 186 } : Room)).room s m ([.ref (b 0), .int a1] : List Value).toArray below meth c H locs 0 0 (MQ below (va_Qi (fun (r : Int32) (u : (Nat → Nat → Int32) × (Nat → Nat → Option Nat)) => res = (r, u)) (fun (u : (Nat → Nat → Int32) × (Nat → Nat → Option Nat)) t => va_P (dC, dI) vwCl (hW N ca b u.1 u.2 J) t.heap) A) ([.ref (b 0), .int a1] : List Value).toArray s 308 1848 A) (F0 m 526 ls [.int p19, .int p3, .ref (b 0)]) := by
                    intro H locs ls hP hS hl
                    obtain ⟨q23, hcq23, h⟩ := hb_some h
                    refine gcSW_i (As := [.ref (b 0), .int p3, .int p19]) (rest := []) (BH := (fun (u : (Nat → Nat → Int32) × (Nat → Nat → Option Nat)) H => va_P (dC, dI) vwCl (hW N ca b u.1 u.2 J) H)) X hP hS (c_L_pair hlf hN hA I O J p3 p19 q23 hcq23) (vx_cwSW 3 X.ts gL_acts_L_pair rfl rfl rfl (by decide +kernel) ⟨Nat.le_of_ble_eq_true rfl, Nat.le_of_ble_eq_true rfl⟩) rfl hl.1 rfl (Nat.le_of_ble_eq_true rfl) dL_acts_526 ⟨Nat.le_of_ble_eq_true rfl, Nat.le_of_ble_eq_true rfl⟩ (fun r22 u9 H locs hw hP hS => ?_)
                    obtain ⟨I20, O21⟩ := u9
                    subst hw
                    refine lv_goto (tgt := 596) hx hb dL_acts_529 (by decide) ?_
                    refine W.widen (k := 308) (n := 1848) (Nat.le_of_ble_eq_true rfl) (Nat.le_of_ble_eq_true rfl) ?_
                    exact W.iret hx hb hr (fun t9 ht hW => ⟨⟨r22, (I20, O21), rfl, (Option.some.inj h).symm, gEnd ht hP⟩, hS.F ht⟩) hS.2.2 dL_acts_596 hlk
                  have h := hv
                  refine lv_if_ne (tgt := 519) hx hb dL_acts_512 (by decide) (fun c24 => ?_) (fun c24 => ?_)
                  · have h := gif_f c24 h
                    refine lv_iload_n hx hb dL_acts_519 rfl (lv_at hl 2 rfl) ?_
                    refine lv_bipush (v := 64) hx hb dL_acts_520 (by decide) ?_
                    refine lv_idiv hx hb dL_acts_522 (by decide) ?_
                    refine lv_iload hx hb dL_acts_523 (lv_at hl 4 rfl) ?_
                    obtain ⟨hgd, h⟩ := hg_some h
                    refine lv_irem hx hb dL_acts_525 (gne_of hgd) ?_
                    cases h
                    exact K526 _ _ _ hP hS (lv_sub hl [] rfl)
                  · have h := gif_t c24 h
                    refine lv_iconst (v := 0) hx hb dL_acts_515 (by decide) ?_
                    refine lv_goto (tgt := 526) hx hb dL_acts_516 (by decide) ?_
                    cases h
                    exact K526 _ _ _ hP hS (lv_sub hl [] rfl)
              · have h := gif_f c30 h
                refine lv_aload_n hx hb dL_acts_492 rfl (lv_at hl 1 rfl) ?_
                refine lv_iload hx hb dL_acts_493 (lv_at hl 0 rfl) ?_
                obtain ⟨q29, hcq29, h⟩ := hb_some h
                refine gcSW_i (As := [.ref (b 0), .int p3]) (rest := []) (BH := (fun (u : (Nat → Nat → Int32) × (Nat → Nat → Option Nat)) H => va_P (dC, dI) vwCl (hW N ca b u.1 u.2 J) H)) X hP hS (c_L_callIn hlf hN hA I O J p3 q29 hcq29) (vx_cwSW 2 X.ts gL_acts_L_callIn rfl rfl rfl (by decide +kernel) ⟨Nat.le_of_ble_eq_true rfl, Nat.le_of_ble_eq_true rfl⟩) rfl hl.1 rfl (Nat.le_of_ble_eq_true rfl) dL_acts_495 ⟨Nat.le_of_ble_eq_true rfl, Nat.le_of_ble_eq_true rfl⟩ (fun r28 u9 H locs hw hP hS => ?_)
                obtain ⟨I26, O27⟩ := u9
                subst hw
                refine lv_goto (tgt := 596) hx hb dL_acts_498 (by decide) ?_
                refine W.widen (k := 308) (n := 1848) (Nat.le_of_ble_eq_true rfl) (Nat.le_of_ble_eq_true rfl) ?_
                exact W.iret hx hb hr (fun t9 ht hW => ⟨⟨r28, (I26, O27), rfl, (Option.some.inj h).symm, gEnd ht hP⟩, hS.F ht⟩) hS.2.2 dL_acts_596 hlk
            · have h := gif_f c35 h
              refine lv_aload_n hx hb dL_acts_467 rfl (lv_at hl 1 rfl) ?_
              refine lv_iload hx hb dL_acts_468 (lv_at hl 0 rfl) ?_
              refine lv_bipush (v := 10) hx hb dL_acts_470 (by decide) ?_
              refine lv_iload_n hx hb dL_acts_472 rfl (lv_at hl 2 rfl) ?_
              refine lv_bipush (v := 64) hx hb dL_acts_473 (by decide) ?_
              refine lv_idiv hx hb dL_acts_475 (by decide) ?_
              refine lv_bipush (v := 31) hx hb dL_acts_476 (by decide) ?_
              refine lv_irem hx hb dL_acts_478 (by decide) ?_
              refine lv_iadd hx hb dL_acts_479 ?_
              obtain ⟨q34, hcq34, h⟩ := hb_some h
              refine gcSW_i (As := [.ref (b 0), .int p3, .int ((10 : Int32) + (((a1 / (32 : Int32)) / (64 : Int32)) - ((a1 / (32 : Int32)) / (64 : Int32)) / (31 : Int32) * (31 : Int32)))]) (rest := []) (BH := (fun (u : (Nat → Nat → Int32) × (Nat → Nat → Option Nat)) H => va_P (dC, dI) vwCl (hW N ca b u.1 u.2 J) H)) X hP hS (c_L_setPace hlf hN hA I O J p3 ((10 : Int32) + (((a1 / (32 : Int32)) / (64 : Int32)) - ((a1 / (32 : Int32)) / (64 : Int32)) / (31 : Int32) * (31 : Int32))) q34 hcq34) (vx_cwSW 3 X.ts gL_acts_L_setPace rfl rfl rfl (by decide +kernel) ⟨Nat.le_of_ble_eq_true rfl, Nat.le_of_ble_eq_true rfl⟩) rfl hl.1 rfl (Nat.le_of_ble_eq_true rfl) dL_acts_480 ⟨Nat.le_of_ble_eq_true rfl, Nat.le_of_ble_eq_true rfl⟩ (fun r33 u9 H locs hw hP hS => ?_)
              obtain ⟨I31, O32⟩ := u9
              subst hw
              refine lv_goto (tgt := 596) hx hb dL_acts_483 (by decide) ?_
              refine W.widen (k := 308) (n := 1848) (Nat.le_of_ble_eq_true rfl) (Nat.le_of_ble_eq_true rfl) ?_
              exact W.iret hx hb hr (fun t9 ht hW => ⟨⟨r33, (I31, O32), rfl, (Option.some.inj h).symm, gEnd ht hP⟩, hS.F ht⟩) hS.2.2 dL_acts_596 hlk
          · have h := gif_f c42 h
            refine lv_aload_n hx hb dL_acts_416 rfl (lv_at hl 1 rfl) ?_
            refine lv_bipush (v := 10) hx hb dL_acts_417 (by decide) ?_
            refine lv_iload_n hx hb dL_acts_419 rfl (lv_at hl 2 rfl) ?_
            refine lv_bipush (v := 8) hx hb dL_acts_420 (by decide) ?_
            refine lv_idiv hx hb dL_acts_422 (by decide) ?_
            refine lv_bipush (v := 31) hx hb dL_acts_423 (by decide) ?_
            refine lv_irem hx hb dL_acts_425 (by decide) ?_
            refine lv_iadd hx hb dL_acts_426 ?_
            refine lv_bipush (v := 100) hx hb dL_acts_427 (by decide) ?_
            refine lv_iload_n hx hb dL_acts_429 rfl (lv_at hl 2 rfl) ?_
            refine lv_bipush (v := 64) hx hb dL_acts_430 (by decide) ?_
            refine lv_idiv hx hb dL_acts_432 (by decide) ?_
            refine lv_iload_n hx hb dL_acts_433 rfl (lv_at hl 2 rfl) ?_
            refine lv_iconst (v := 3) hx hb dL_acts_434 (by decide) ?_
            refine lv_irem hx hb dL_acts_435 (by decide) ?_
            obtain ⟨p36, hv, h⟩ := hb_some h
            have K447 : ∀ (H : Heap) (locs : List Loc) (ls : Array Slot), va_P (dC, dI) vwCl (hW N ca b I O J) H → va_S A s.heap H locs → lv_has ls 10 [(2, .int (a1 / (32 : Int32)))] → W p l e (headSpec wsL_acts ({ frames := 9, cells := 308, slots := 1848, locals := 186 } : Room)).room s m ([.ref (b 0), .int a1] : List Value).toArray below meth c H locs 0 0 (MQ below (va_Qi (fun (r : Int32) (u : (Nat → Nat → Int32) × (Nat → Nat → Option Nat)) => res = (r, u)) (fun (u : (Nat → Nat → Int32) × (Nat → Nat → Option Nat)) t => va_P (dC, dI) vwCl (hW N ca b u.1 u.2 J) t.heap) A) ([.ref (b 0), .int a1] : List Value).toArray s 308 1848 A) (F0 m 447 ls [.int p36, .int ((a1 / (32 : Int32)) / (64 : Int32)), .int (100 : Int32), .int ((10 : Int32) + (((a1 / (32 : Int32)) / (8 : Int32)) - ((a1 / (32 : Int32)) / (8 : Int32)) / (31 : Int32) * (31 : Int32))), .ref (b 0)]) := by
              intro H locs ls hP hS hl
              obtain ⟨hgd, h⟩ := hg_some h
              refine lv_irem hx hb dL_acts_447 (gne_of hgd) ?_
              refine lv_iadd hx hb dL_acts_448 ?_
              refine lv_iload_n hx hb dL_acts_449 rfl (lv_at hl 0 rfl) ?_
              refine lv_bipush (v := 16) hx hb dL_acts_450 (by decide) ?_
              refine lv_idiv hx hb dL_acts_452 (by decide) ?_
              refine lv_iconst (v := 2) hx hb dL_acts_453 (by decide) ?_
              refine lv_irem hx hb dL_acts_454 (by decide) ?_
              obtain ⟨q40, hcq40, h⟩ := hb_some h
              refine gcSW_i (As := [.ref (b 0), .int ((10 : Int32) + (((a1 / (32 : Int32)) / (8 : Int32)) - ((a1 / (32 : Int32)) / (8 : Int32)) / (31 : Int32) * (31 : Int32))), .int ((100 : Int32) + (((a1 / (32 : Int32)) / (64 : Int32)) - ((a1 / (32 : Int32)) / (64 : Int32)) / p36 * p36)), .int (((a1 / (32 : Int32)) / (16 : Int32)) - ((a1 / (32 : Int32)) / (16 : Int32)) / (2 : Int32) * (2 : Int32))]) (rest := []) (BH := (fun (u : (Nat → Nat → Int32) × (Nat → Nat → Option Nat)) H => va_P (dC, dI) vwCl (hW N ca b u.1 u.2 J) H)) X hP hS (c_L_enter hlf hN hA I O J ((10 : Int32) + (((a1 / (32 : Int32)) / (8 : Int32)) - ((a1 / (32 : Int32)) / (8 : Int32)) / (31 : Int32) * (31 : Int32))) ((100 : Int32) + (((a1 / (32 : Int32)) / (64 : Int32)) - ((a1 / (32 : Int32)) / (64 : Int32)) / p36 * p36)) (((a1 / (32 : Int32)) / (16 : Int32)) - ((a1 / (32 : Int32)) / (16 : Int32)) / (2 : Int32) * (2 : Int32)) q40 hcq40) (vx_cwSW 4 X.ts gL_acts_L_enter rfl rfl rfl (by decide +kernel) ⟨Nat.le_of_ble_eq_true rfl, Nat.le_of_ble_eq_true rfl⟩) rfl hl.1 rfl (Nat.le_of_ble_eq_true rfl) dL_acts_455 ⟨Nat.le_of_ble_eq_true rfl, Nat.le_of_ble_eq_true rfl⟩ (fun r39 u9 H locs hw hP hS => ?_)
              obtain ⟨I37, O38⟩ := u9
              subst hw
              refine lv_goto (tgt := 596) hx hb dL_acts_458 (by decide) ?_
              refine W.widen (k := 308) (n := 1848) (Nat.le_of_ble_eq_true rfl) (Nat.le_of_ble_eq_true rfl) ?_
              exact W.iret hx hb hr (fun t9 ht hW => ⟨⟨r39, (I37, O38), rfl, (Option.some.inj h).symm, gEnd ht hP⟩, hS.F ht⟩) hS.2.2 dL_acts_596 hlk
            have h := hv
            refine lv_if_ne (tgt := 444) hx hb dL_acts_436 (by decide) (fun c41 => ?_) (fun c41 => ?_)
            · have h := gif_f c41 h
              refine lv_sipush (v := 900) hx hb dL_acts_444 (by decide) ?_
              cases h
              exact K447 _ _ _ hP hS (lv_sub hl [2] rfl)
            · have h := gif_t c41 h
              refine lv_bipush (v := 100) hx hb dL_acts_439 (by decide) ?_
              refine lv_goto (tgt := 447) hx hb dL_acts_441 (by decide) ?_
              cases h
              exact K447 _ _ _ hP hS (lv_sub hl [2] rfl)
        · have h := gif_f c56 h
          refine lv_aload_n hx hb dL_acts_374 rfl (lv_at hl 1 rfl) ?_
          obtain ⟨q44, hcq44, h⟩ := hb_some h
          refine gdV_i (As := []) (rest := []) (BH := (fun (u : Unit) H => va_P (dC, dI) vwCl (hW N ca b I O J) H)) X hP hS (c_X7_isRacing hN hA I O J q44 hcq44) (cwV 0 X.ts gL_acts_X7_isRacing rfl rfl rfl (by decide +kernel) ⟨Nat.le_of_ble_eq_true rfl, Nat.le_of_ble_eq_true rfl⟩) (gr7 X hP kc_0 (sk_in hN kc_0 (by decide))) rfl hl.1 rfl (Nat.le_of_ble_eq_true rfl) dL_acts_375 ⟨Nat.le_of_ble_eq_true rfl, Nat.le_of_ble_eq_true rfl⟩ (fun r43 u9 H locs hw hP hS => ?_)
          have hw := hw.symm
          subst hw
          refine lv_if_eq (tgt := 405) hx hb dL_acts_378 (by decide) (fun c55 => ?_) (fun c55 => ?_)
          · have h := gif_t c55 h
            refine lv_aload_n hx hb dL_acts_405 rfl (lv_at hl 1 rfl) ?_
            obtain ⟨q48, hcq48, h⟩ := hb_some h
            refine gcSW_i (As := [.ref (b 0)]) (rest := []) (BH := (fun (u : (Nat → Nat → Int32) × (Nat → Nat → Option Nat)) H => va_P (dC, dI) vwCl (hW N ca b u.1 u.2 J) H)) X hP hS (c_L_begin hlf hN hA I O J q48 hcq48) (vx_cwSW 1 X.ts gL_acts_L_begin rfl rfl rfl (by decide +kernel) ⟨Nat.le_of_ble_eq_true rfl, Nat.le_of_ble_eq_true rfl⟩) rfl hl.1 rfl (Nat.le_of_ble_eq_true rfl) dL_acts_406 ⟨Nat.le_of_ble_eq_true rfl, Nat.le_of_ble_eq_true rfl⟩ (fun r47 u9 H locs hw hP hS => ?_)
            obtain ⟨I45, O46⟩ := u9
            subst hw
            refine W.widen (k := 308) (n := 1848) (Nat.le_of_ble_eq_true rfl) (Nat.le_of_ble_eq_true rfl) ?_
            exact W.iret hx hb hr (fun t9 ht hW => ⟨⟨r47, (I45, O46), rfl, (Option.some.inj h).symm, gEnd ht hP⟩, hS.F ht⟩) hS.2.2 dL_acts_409 hlk
          · have h := gif_f c55 h
            refine lv_aload_n hx hb dL_acts_381 rfl (lv_at hl 1 rfl) ?_
            refine lv_iconst (v := 1) hx hb dL_acts_382 (by decide) ?_
            refine lv_iload_n hx hb dL_acts_383 rfl (lv_at hl 2 rfl) ?_
            refine lv_iload_n hx hb dL_acts_384 rfl (lv_at hl 2 rfl) ?_
            refine lv_iconst (v := 4) hx hb dL_acts_385 (by decide) ?_
            refine lv_irem hx hb dL_acts_386 (by decide) ?_
            obtain ⟨p49, hv, h⟩ := hb_some h
            have K397 : ∀ (H : Heap) (locs : List Loc) (ls : Array Slot), va_P (dC, dI) vwCl (hW N ca b I O J) H → va_S A s.heap H locs → lv_has ls 10 [] → W p l e (headSpec wsL_acts ({ frames := 9, cells := 308, slots := 1848, locals := 186 } : Room)).room s m ([.ref (b 0), .int a1] : List Value).toArray below meth c H locs 0 0 (MQ below (va_Qi (fun (r : Int32) (u : (Nat → Nat → Int32) × (Nat → Nat → Option Nat)) => res = (r, u)) (fun (u : (Nat → Nat → Int32) × (Nat → Nat → Option Nat)) t => va_P (dC, dI) vwCl (hW N ca b u.1 u.2 J) t.heap) A) ([.ref (b 0), .int a1] : List Value).toArray s 308 1848 A) (F0 m 397 ls [.int p49, .int (a1 / (32 : Int32)), .int (1 : Int32), .ref (b 0)]) := by
              intro H locs ls hP hS hl
              obtain ⟨hgd, h⟩ := hg_some h
              refine lv_irem hx hb dL_acts_397 (gne_of hgd) ?_
              refine lv_iadd hx hb dL_acts_398 ?_
              obtain ⟨q53, hcq53, h⟩ := hb_some h
              refine gcSW_i (As := [.ref (b 0), .int ((1 : Int32) + ((a1 / (32 : Int32)) - (a1 / (32 : Int32)) / p49 * p49))]) (rest := []) (BH := (fun (u : (Nat → Nat → Int32) × (Nat → Nat → Option Nat)) H => va_P (dC, dI) vwCl (hW N ca b u.1 u.2 J) H)) X hP hS (c_L_pass hlf hN hA I O J ((1 : Int32) + ((a1 / (32 : Int32)) - (a1 / (32 : Int32)) / p49 * p49)) q53 hcq53) (vx_cwSW 2 X.ts gL_acts_L_pass rfl rfl rfl (by decide +kernel) ⟨Nat.le_of_ble_eq_true rfl, Nat.le_of_ble_eq_true rfl⟩) rfl hl.1 rfl (Nat.le_of_ble_eq_true rfl) dL_acts_399 ⟨Nat.le_of_ble_eq_true rfl, Nat.le_of_ble_eq_true rfl⟩ (fun r52 u9 H locs hw hP hS => ?_)
              obtain ⟨I50, O51⟩ := u9
              subst hw
              refine lv_goto (tgt := 409) hx hb dL_acts_402 (by decide) ?_
              refine W.widen (k := 308) (n := 1848) (Nat.le_of_ble_eq_true rfl) (Nat.le_of_ble_eq_true rfl) ?_
              exact W.iret hx hb hr (fun t9 ht hW => ⟨⟨r52, (I50, O51), rfl, (Option.some.inj h).symm, gEnd ht hP⟩, hS.F ht⟩) hS.2.2 dL_acts_409 hlk
            have h := hv
            refine lv_if_ne (tgt := 395) hx hb dL_acts_387 (by decide) (fun c54 => ?_) (fun c54 => ?_)
            · have h := gif_f c54 h
              refine lv_bipush (v := 8) hx hb dL_acts_395 (by decide) ?_
              cases h
              exact K397 _ _ _ hP hS (lv_sub hl [] rfl)
            · have h := gif_t c54 h
              refine lv_bipush (v := 60) hx hb dL_acts_390 (by decide) ?_
              refine lv_goto (tgt := 397) hx hb dL_acts_392 (by decide) ?_
              cases h
              exact K397 _ _ _ hP hS (lv_sub hl [] rfl)
      · have h := gif_f c125 h
        refine lv_aload_n hx hb dL_acts_80 rfl (lv_at hl 1 rfl) ?_
        obtain ⟨q59, hcq59, h⟩ := hb_some h
        refine gdV_i (As := []) (rest := []) (BH := (fun (u : Nat → Nat → Int32) H => va_P (dC, dI) vwCl (hW N ca b u O J) H)) X hP hS (c_X7_clearBuffer hN hA I O J q59 hcq59) (cwV 0 X.ts gL_acts_X7_clearBuffer rfl rfl rfl (by decide +kernel) ⟨Nat.le_of_ble_eq_true rfl, Nat.le_of_ble_eq_true rfl⟩) (gr7 X hP kc_0 (sk_in hN kc_0 (by decide))) rfl hl.1 rfl (Nat.le_of_ble_eq_true rfl) dL_acts_81 ⟨Nat.le_of_ble_eq_true rfl, Nat.le_of_ble_eq_true rfl⟩ (fun r58 I57 H locs hw hP hS => ?_)
        subst hw
        refine lv_istore (lv' := [(6, .int r58), (5, .int p3), (0, .ref (b 0)), (2, .int (a1 / (32 : Int32))), (3, .int (a1 - a1 / (32 : Int32) * (32 : Int32))), (4, .int r1)]) hx hb dL_acts_84 hl (by decide) rfl (fun ls hl => ?_)
        refine lv_iconst (v := 0) hx hb dL_acts_86 (by decide) ?_
        refine lv_istore (lv' := [(7, .int (0 : Int32)), (6, .int r58), (5, .int p3), (0, .ref (b 0)), (2, .int (a1 / (32 : Int32))), (3, .int (a1 - a1 / (32 : Int32) * (32 : Int32))), (4, .int r1)]) hx hb dL_acts_87 hl (by decide) rfl (fun ls hl => ?_)
        obtain ⟨⟨p63, I64⟩, hv, h⟩ := hb_some h
        have K343 : ∀ (H : Heap) (locs : List Loc) (ls : Array Slot), va_P (dC, dI) vwCl (hW N ca b I64 O J) H → va_S A s.heap H locs → lv_has ls 10 [(0, .ref (b 0)), (6, .int p63)] → W p l e (headSpec wsL_acts ({ frames := 9, cells := 308, slots := 1848, locals := 186 } : Room)).room s m ([.ref (b 0), .int a1] : List Value).toArray below meth c H locs 288 1728 (MQ below (va_Qi (fun (r : Int32) (u : (Nat → Nat → Int32) × (Nat → Nat → Option Nat)) => res = (r, u)) (fun (u : (Nat → Nat → Int32) × (Nat → Nat → Option Nat)) t => va_P (dC, dI) vwCl (hW N ca b u.1 u.2 J) t.heap) A) ([.ref (b 0), .int a1] : List Value).toArray s 308 1848 A) (F0 m 343 ls []) := by
          intro H locs ls hP hS hl
          refine lv_iload hx hb dL_acts_343 (lv_at hl 1 rfl) ?_
          refine lv_iconst (v := 1) hx hb dL_acts_345 (by decide) ?_
          refine lv_icmp_lt (tgt := 358) hx hb dL_acts_346 (by decide) (fun c73 => ?_) (fun c73 => ?_)
          · have h := gif_t c73 h
            refine lv_bipush (v := (-99)) hx hb dL_acts_358 (by decide) ?_
            refine lv_goto (tgt := 367) hx hb dL_acts_360 (by decide) ?_
            refine W.widen (k := 308) (n := 1848) (Nat.le_of_ble_eq_true rfl) (Nat.le_of_ble_eq_true rfl) ?_
            exact W.iret hx hb hr (fun t9 ht hW => ⟨⟨(-99 : Int32), (I64, O), rfl, (Option.some.inj h).symm, gEnd ht hP⟩, hS.F ht⟩) hS.2.2 dL_acts_367 hlk
          · have h := gif_f c73 h
            refine lv_aload_n hx hb dL_acts_349 rfl (lv_at hl 0 rfl) ?_
            obtain ⟨q67, hcq67, h⟩ := hb_some h
            refine gdV_i (As := []) (rest := []) (BH := (fun (u : Nat → Nat → Int32) H => va_P (dC, dI) vwCl (hW N ca b u O J) H)) X hP hS (c_X7_firstError hN hA I64 O J q67 hcq67) (cwV 0 X.ts gL_acts_X7_firstError rfl rfl rfl (by decide +kernel) ⟨Nat.le_of_ble_eq_true rfl, Nat.le_of_ble_eq_true rfl⟩) (gr7 X hP kc_0 (sk_in hN kc_0 (by decide))) rfl hl.1 rfl (Nat.le_of_ble_eq_true rfl) dL_acts_350 ⟨Nat.le_of_ble_eq_true rfl, Nat.le_of_ble_eq_true rfl⟩ (fun r66 I65 H locs hw hP hS => ?_)
            subst hw
            refine lv_iload hx hb dL_acts_353 (lv_at hl 1 rfl) ?_
            refine lv_icmp_eq (tgt := 363) hx hb dL_acts_355 (by decide) (fun c72 => ?_) (fun c72 => ?_)
            · have h := gif_t c72 h
              refine lv_aload_n hx hb dL_acts_363 rfl (lv_at hl 0 rfl) ?_
              obtain ⟨q71, hcq71, h⟩ := hb_some h
              refine gcSW_i (As := [.ref (b 0)]) (rest := []) (BH := (fun (u : (Nat → Nat → Int32) × (Nat → Nat → Option Nat)) H => va_P (dC, dI) vwCl (hW N ca b u.1 u.2 J) H)) X hP hS (c_L_follow hlf hN hA I65 O J q71 hcq71) (vx_cwSW 1 X.ts gL_acts_L_follow rfl rfl rfl (by decide +kernel) ⟨Nat.le_of_ble_eq_true rfl, Nat.le_of_ble_eq_true rfl⟩) rfl hl.1 rfl (Nat.le_of_ble_eq_true rfl) dL_acts_364 ⟨Nat.le_of_ble_eq_true rfl, Nat.le_of_ble_eq_true rfl⟩ (fun r70 u9 H locs hw hP hS => ?_)
              obtain ⟨I68, O69⟩ := u9
              subst hw
              refine W.widen (k := 308) (n := 1848) (Nat.le_of_ble_eq_true rfl) (Nat.le_of_ble_eq_true rfl) ?_
              exact W.iret hx hb hr (fun t9 ht hW => ⟨⟨r70, (I68, O69), rfl, (Option.some.inj h).symm, gEnd ht hP⟩, hS.F ht⟩) hS.2.2 dL_acts_367 hlk
            · have h := gif_f c72 h
              refine lv_bipush (v := (-99)) hx hb dL_acts_358 (by decide) ?_
              refine lv_goto (tgt := 367) hx hb dL_acts_360 (by decide) ?_
              refine W.widen (k := 308) (n := 1848) (Nat.le_of_ble_eq_true rfl) (Nat.le_of_ble_eq_true rfl) ?_
              exact W.iret hx hb hr (fun t9 ht hW => ⟨⟨(-99 : Int32), (I65, O), rfl, (Option.some.inj h).symm, gEnd ht hP⟩, hS.F ht⟩) hS.2.2 dL_acts_367 hlk
        have hL89 : ∀ (fuel : Nat) (p60 : Int32) (p61 : Int32) (I62 : Nat → Nat → Int32) (cn89 sn89 : Nat) (H : Heap) (locs : List Loc) (ls : Array Slot), cn89 + 18 * fuel ≤ 288 → sn89 + 108 * fuel ≤ 1728 → f_L_acts_L89 a1 r1 fuel p60 p61 I62 = some (p63, I64) → va_P (dC, dI) vwCl (hW N ca b I62 O J) H → va_S A s.heap H locs → lv_has ls 10 [(0, .ref (b 0)), (2, .int (a1 / (32 : Int32))), (4, .int r1), (6, .int p60), (7, .int p61)] → W p l e (headSpec wsL_acts ({ frames := 9, cells := 308, slots := 1848, locals := 186 } : Room)).room s m ([.ref (b 0), .int a1] : List Value).toArray below meth c H locs cn89 sn89 (MQ below (va_Qi (fun (r : Int32) (u : (Nat → Nat → Int32) × (Nat → Nat → Option Nat)) => res = (r, u)) (fun (u : (Nat → Nat → Int32) × (Nat → Nat → Option Nat)) t => va_P (dC, dI) vwCl (hW N ca b u.1 u.2 J) t.heap) A) ([.ref (b 0), .int a1] : List Value).toArray s 308 1848 A) (F0 m 89 ls []) := by
          intro fuel
          induction fuel with
          | zero =>
            intro p60 p61 I62 cn89 sn89 H locs ls hcn89 hsn89 h hP hS hl
            rw [f_L_acts_L89] at h
            cases h
          | succ fuel ih =>
            intro p60 p61 I62 cn89 sn89 H locs ls hcn89 hsn89 h hP hS hl
            rw [f_L_acts_L89] at h
            refine lv_iload hx hb dL_acts_89 (lv_at hl 4 rfl) ?_
            refine lv_iconst (v := 1) hx hb dL_acts_91 (by decide) ?_
            refine lv_iload_n hx hb dL_acts_92 rfl (lv_at hl 1 rfl) ?_
            refine lv_bipush (v := 7) hx hb dL_acts_93 (by decide) ?_
            refine lv_irem hx hb dL_acts_95 (by decide) ?_
            refine lv_iadd hx hb dL_acts_96 ?_
            refine lv_icmp_ge (tgt := 343) hx hb dL_acts_97 (by decide) (fun c124 => ?_) (fun c124 => ?_)
            · have h := gif_t c124 h
              refine W.widen (k := 288) (n := 1728) (by omega) (by omega) ?_
              cases h
              exact K343 _ _ _ hP hS (lv_sub hl [0, 3] rfl)
            · have h := gif_f c124 h
              refine lv_iload_n hx hb dL_acts_100 rfl (lv_at hl 1 rfl) ?_
              refine lv_bipush (v := 8) hx hb dL_acts_101 (by decide) ?_
              refine lv_idiv hx hb dL_acts_103 (by decide) ?_
              refine lv_iconst (v := 2) hx hb dL_acts_104 (by decide) ?_
              refine lv_iload hx hb dL_acts_105 (lv_at hl 4 rfl) ?_
              refine lv_imul hx hb dL_acts_107 ?_
              refine lv_ishr hx hb dL_acts_108 ?_
              refine lv_istore (lv' := [(8, .int (((a1 / (32 : Int32)) / (8 : Int32)) >>> (((2 : Int32) * p61) &&& 31))), (0, .ref (b 0)), (2, .int (a1 / (32 : Int32))), (4, .int r1), (6, .int p60), (7, .int p61)]) hx hb dL_acts_109 hl (by decide) rfl (fun ls hl => ?_)
              refine lv_iload hx hb dL_acts_111 (lv_at hl 0 rfl) ?_
              refine lv_bipush (v := 8) hx hb dL_acts_113 (by decide) ?_
              refine lv_irem hx hb dL_acts_115 (by decide) ?_
              refine lv_istore (lv' := [(9, .int ((((a1 / (32 : Int32)) / (8 : Int32)) >>> (((2 : Int32) * p61) &&& 31)) - (((a1 / (32 : Int32)) / (8 : Int32)) >>> (((2 : Int32) * p61) &&& 31)) / (8 : Int32) * (8 : Int32))), (8, .int (((a1 / (32 : Int32)) / (8 : Int32)) >>> (((2 : Int32) * p61) &&& 31))), (0, .ref (b 0)), (2, .int (a1 / (32 : Int32))), (4, .int r1), (6, .int p60), (7, .int p61)]) hx hb dL_acts_116 hl (by decide) rfl (fun ls hl => ?_)
              refine lv_iload hx hb dL_acts_118 (lv_at hl 6 rfl) ?_
              obtain ⟨⟨p74, I75⟩, hv, h⟩ := hb_some h
              have K133 : ∀ (H : Heap) (locs : List Loc) (ls : Array Slot), va_P (dC, dI) vwCl (hW N ca b I75 O J) H → va_S A s.heap H locs → lv_has ls 10 [(0, .ref (b 0)), (2, .int (a1 / (32 : Int32))), (4, .int r1), (7, .int p61), (8, .int (((a1 / (32 : Int32)) / (8 : Int32)) >>> (((2 : Int32) * p61) &&& 31))), (9, .int ((((a1 / (32 : Int32)) / (8 : Int32)) >>> (((2 : Int32) * p61) &&& 31)) - (((a1 / (32 : Int32)) / (8 : Int32)) >>> (((2 : Int32) * p61) &&& 31)) / (8 : Int32) * (8 : Int32)))] → W p l e (headSpec wsL_acts ({ frames := 9, cells := 308, slots := 1848, locals := 186 } : Room)).room s m ([.ref (b 0), .int a1] : List Value).toArray below meth c H locs (cn89 + 1) (sn89 + 6) (MQ below (va_Qi (fun (r : Int32) (u : (Nat → Nat → Int32) × (Nat → Nat → Option Nat)) => res = (r, u)) (fun (u : (Nat → Nat → Int32) × (Nat → Nat → Option Nat)) t => va_P (dC, dI) vwCl (hW N ca b u.1 u.2 J) t.heap) A) ([.ref (b 0), .int a1] : List Value).toArray s 308 1848 A) (F0 m 133 ls [.int p74]) := by
                intro H locs ls hP hS hl
                refine lv_istore (lv' := [(6, .int p74), (0, .ref (b 0)), (2, .int (a1 / (32 : Int32))), (4, .int r1), (7, .int p61), (8, .int (((a1 / (32 : Int32)) / (8 : Int32)) >>> (((2 : Int32) * p61) &&& 31))), (9, .int ((((a1 / (32 : Int32)) / (8 : Int32)) >>> (((2 : Int32) * p61) &&& 31)) - (((a1 / (32 : Int32)) / (8 : Int32)) >>> (((2 : Int32) * p61) &&& 31)) / (8 : Int32) * (8 : Int32)))]) hx hb dL_acts_133 hl (by decide) rfl (fun ls hl => ?_)
                refine lv_aload_n hx hb dL_acts_135 rfl (lv_at hl 1 rfl) ?_
                refine lv_iload hx hb dL_acts_136 (lv_at hl 6 rfl) ?_
                refine lv_iconst (v := 3) hx hb dL_acts_138 (by decide) ?_
                obtain ⟨p76, hv, h⟩ := hb_some h
                have K171 : ∀ (H : Heap) (locs : List Loc) (ls : Array Slot), va_P (dC, dI) vwCl (hW N ca b I75 O J) H → va_S A s.heap H locs → lv_has ls 10 [(0, .ref (b 0)), (2, .int (a1 / (32 : Int32))), (4, .int r1), (7, .int p61), (8, .int (((a1 / (32 : Int32)) / (8 : Int32)) >>> (((2 : Int32) * p61) &&& 31))), (9, .int ((((a1 / (32 : Int32)) / (8 : Int32)) >>> (((2 : Int32) * p61) &&& 31)) - (((a1 / (32 : Int32)) / (8 : Int32)) >>> (((2 : Int32) * p61) &&& 31)) / (8 : Int32) * (8 : Int32)))] → W p l e (headSpec wsL_acts ({ frames := 9, cells := 308, slots := 1848, locals := 186 } : Room)).room s m ([.ref (b 0), .int a1] : List Value).toArray below meth c H locs (cn89 + 1) (sn89 + 6) (MQ below (va_Qi (fun (r : Int32) (u : (Nat → Nat → Int32) × (Nat → Nat → Option Nat)) => res = (r, u)) (fun (u : (Nat → Nat → Int32) × (Nat → Nat → Option Nat)) t => va_P (dC, dI) vwCl (hW N ca b u.1 u.2 J) t.heap) A) ([.ref (b 0), .int a1] : List Value).toArray s 308 1848 A) (F0 m 171 ls [.int p76, .ref (b 0)]) := by
                  intro H locs ls hP hS hl
                  obtain ⟨q79, hcq79, h⟩ := hb_some h
                  refine gcSW_i (As := [.ref (b 0), .int p76]) (rest := []) (BH := (fun (u : Nat → Nat → Int32) H => va_P (dC, dI) vwCl (hW N ca b u O J) H)) X hP hS (c_L_append hlf hN hA I75 O J p76 q79 hcq79) (vx_cwSW 2 X.ts gL_acts_L_append rfl rfl rfl (by decide +kernel) ⟨Nat.le_of_ble_eq_true rfl, Nat.le_of_ble_eq_true rfl⟩) rfl hl.1 rfl (Nat.le_of_ble_eq_true rfl) dL_acts_171 ⟨by omega, by omega⟩ (fun r78 I77 H locs hw hP hS => ?_)
                  subst hw
                  refine lv_istore (lv' := [(6, .int r78), (0, .ref (b 0)), (2, .int (a1 / (32 : Int32))), (4, .int r1), (7, .int p61), (8, .int (((a1 / (32 : Int32)) / (8 : Int32)) >>> (((2 : Int32) * p61) &&& 31))), (9, .int ((((a1 / (32 : Int32)) / (8 : Int32)) >>> (((2 : Int32) * p61) &&& 31)) - (((a1 / (32 : Int32)) / (8 : Int32)) >>> (((2 : Int32) * p61) &&& 31)) / (8 : Int32) * (8 : Int32)))]) hx hb dL_acts_174 hl (by decide) rfl (fun ls hl => ?_)
                  refine lv_iload hx hb dL_acts_176 (lv_at hl 6 rfl) ?_
                  refine lv_iconst (v := 5) hx hb dL_acts_178 (by decide) ?_
                  obtain ⟨⟨p80, I81⟩, hv, h⟩ := hb_some h
                  have K235 : ∀ (H : Heap) (locs : List Loc) (ls : Array Slot), va_P (dC, dI) vwCl (hW N ca b I81 O J) H → va_S A s.heap H locs → lv_has ls 10 [(0, .ref (b 0)), (2, .int (a1 / (32 : Int32))), (4, .int r1), (7, .int p61), (8, .int (((a1 / (32 : Int32)) / (8 : Int32)) >>> (((2 : Int32) * p61) &&& 31))), (9, .int ((((a1 / (32 : Int32)) / (8 : Int32)) >>> (((2 : Int32) * p61) &&& 31)) - (((a1 / (32 : Int32)) / (8 : Int32)) >>> (((2 : Int32) * p61) &&& 31)) / (8 : Int32) * (8 : Int32)))] → W p l e (headSpec wsL_acts ({ frames := 9, cells := 308, slots := 1848, locals := 186 } : Room)).room s m ([.ref (b 0), .int a1] : List Value).toArray below meth c H locs (cn89 + 8) (sn89 + 48) (MQ below (va_Qi (fun (r : Int32) (u : (Nat → Nat → Int32) × (Nat → Nat → Option Nat)) => res = (r, u)) (fun (u : (Nat → Nat → Int32) × (Nat → Nat → Option Nat)) t => va_P (dC, dI) vwCl (hW N ca b u.1 u.2 J) t.heap) A) ([.ref (b 0), .int a1] : List Value).toArray s 308 1848 A) (F0 m 235 ls [.int p80]) := by
                    intro H locs ls hP hS hl
                    refine lv_istore (lv' := [(6, .int p80), (0, .ref (b 0)), (2, .int (a1 / (32 : Int32))), (4, .int r1), (7, .int p61), (8, .int (((a1 / (32 : Int32)) / (8 : Int32)) >>> (((2 : Int32) * p61) &&& 31))), (9, .int ((((a1 / (32 : Int32)) / (8 : Int32)) >>> (((2 : Int32) * p61) &&& 31)) - (((a1 / (32 : Int32)) / (8 : Int32)) >>> (((2 : Int32) * p61) &&& 31)) / (8 : Int32) * (8 : Int32)))]) hx hb dL_acts_235 hl (by decide) rfl (fun ls hl => ?_)
                    refine lv_iload hx hb dL_acts_237 (lv_at hl 6 rfl) ?_
                    refine lv_iconst (v := 3) hx hb dL_acts_239 (by decide) ?_
                    obtain ⟨⟨p82, I83⟩, hv, h⟩ := hb_some h
                    have K260 : ∀ (H : Heap) (locs : List Loc) (ls : Array Slot), va_P (dC, dI) vwCl (hW N ca b I83 O J) H → va_S A s.heap H locs → lv_has ls 10 [(0, .ref (b 0)), (2, .int (a1 / (32 : Int32))), (4, .int r1), (7, .int p61), (8, .int (((a1 / (32 : Int32)) / (8 : Int32)) >>> (((2 : Int32) * p61) &&& 31))), (9, .int ((((a1 / (32 : Int32)) / (8 : Int32)) >>> (((2 : Int32) * p61) &&& 31)) - (((a1 / (32 : Int32)) / (8 : Int32)) >>> (((2 : Int32) * p61) &&& 31)) / (8 : Int32) * (8 : Int32)))] → W p l e (headSpec wsL_acts ({ frames := 9, cells := 308, slots := 1848, locals := 186 } : Room)).room s m ([.ref (b 0), .int a1] : List Value).toArray below meth c H locs (cn89 + 9) (sn89 + 54) (MQ below (va_Qi (fun (r : Int32) (u : (Nat → Nat → Int32) × (Nat → Nat → Option Nat)) => res = (r, u)) (fun (u : (Nat → Nat → Int32) × (Nat → Nat → Option Nat)) t => va_P (dC, dI) vwCl (hW N ca b u.1 u.2 J) t.heap) A) ([.ref (b 0), .int a1] : List Value).toArray s 308 1848 A) (F0 m 260 ls [.int p82]) := by
                      intro H locs ls hP hS hl
                      refine lv_istore (lv' := [(6, .int p82), (0, .ref (b 0)), (2, .int (a1 / (32 : Int32))), (4, .int r1), (7, .int p61), (8, .int (((a1 / (32 : Int32)) / (8 : Int32)) >>> (((2 : Int32) * p61) &&& 31))), (9, .int ((((a1 / (32 : Int32)) / (8 : Int32)) >>> (((2 : Int32) * p61) &&& 31)) - (((a1 / (32 : Int32)) / (8 : Int32)) >>> (((2 : Int32) * p61) &&& 31)) / (8 : Int32) * (8 : Int32)))]) hx hb dL_acts_260 hl (by decide) rfl (fun ls hl => ?_)
                      refine lv_iload hx hb dL_acts_262 (lv_at hl 6 rfl) ?_
                      refine lv_iconst (v := 3) hx hb dL_acts_264 (by decide) ?_
                      obtain ⟨⟨p84, I85⟩, hv, h⟩ := hb_some h
                      have K335 : ∀ (H : Heap) (locs : List Loc) (ls : Array Slot), va_P (dC, dI) vwCl (hW N ca b I85 O J) H → va_S A s.heap H locs → lv_has ls 10 [(0, .ref (b 0)), (2, .int (a1 / (32 : Int32))), (4, .int r1), (7, .int p61)] → W p l e (headSpec wsL_acts ({ frames := 9, cells := 308, slots := 1848, locals := 186 } : Room)).room s m ([.ref (b 0), .int a1] : List Value).toArray below meth c H locs (cn89 + 18) (sn89 + 108) (MQ below (va_Qi (fun (r : Int32) (u : (Nat → Nat → Int32) × (Nat → Nat → Option Nat)) => res = (r, u)) (fun (u : (Nat → Nat → Int32) × (Nat → Nat → Option Nat)) t => va_P (dC, dI) vwCl (hW N ca b u.1 u.2 J) t.heap) A) ([.ref (b 0), .int a1] : List Value).toArray s 308 1848 A) (F0 m 335 ls [.int p84]) := by
                        intro H locs ls hP hS hl
                        refine lv_istore (lv' := [(6, .int p84), (0, .ref (b 0)), (2, .int (a1 / (32 : Int32))), (4, .int r1), (7, .int p61)]) hx hb dL_acts_335 hl (by decide) rfl (fun ls hl => ?_)
                        obtain ⟨x86, ex86, h⟩ := hlet_ex h
                        refine lv_iinc (v := x86) (lv' := [(7, .int x86), (6, .int p84), (0, .ref (b 0)), (2, .int (a1 / (32 : Int32))), (4, .int r1)]) hx hb dL_acts_337 hl (k := 4) rfl (by rw [ex86]; rfl) (by decide) rfl (fun ls hl => ?_)
                        refine lv_goto (tgt := 89) hx hb dL_acts_340 (by decide) ?_
                        exact ih _ _ _ (cn89 + 18) (sn89 + 108) _ _ _ (by omega) (by omega) h hP hS (lv_sub hl [2, 3, 4, 1, 0] rfl)
                      have h := hv
                      refine lv_icmp_ge (tgt := 286) hx hb dL_acts_265 (by decide) (fun c98 => ?_) (fun c98 => ?_)
                      · have h := gif_t c98 h
                        refine lv_iload hx hb dL_acts_286 (lv_at hl 6 rfl) ?_
                        refine lv_iconst (v := 5) hx hb dL_acts_288 (by decide) ?_
                        refine lv_icmp_ne (tgt := 310) hx hb dL_acts_289 (by decide) (fun c94 => ?_) (fun c94 => ?_)
                        · have h := gif_f c94 h
                          refine lv_iload hx hb dL_acts_310 (lv_at hl 6 rfl) ?_
                          refine lv_iconst (v := 5) hx hb dL_acts_312 (by decide) ?_
                          refine lv_icmp_le (tgt := 333) hx hb dL_acts_313 (by decide) (fun c90 => ?_) (fun c90 => ?_)
                          · have h := gif_t c90 h
                            refine lv_iload hx hb dL_acts_333 (lv_at hl 0 rfl) ?_
                            refine W.widen (k := (cn89 + 18)) (n := (sn89 + 108)) (by omega) (by omega) ?_
                            cases h
                            exact K335 _ _ _ hP hS (lv_sub hl [1, 2, 3, 4] rfl)
                          · have h := gif_f c90 h
                            refine lv_aload_n hx hb dL_acts_316 rfl (lv_at hl 1 rfl) ?_
                            refine lv_iconst (v := 1) hx hb dL_acts_317 (by decide) ?_
                            refine lv_iload hx hb dL_acts_318 (lv_at hl 5 rfl) ?_
                            refine lv_bipush (v := 8) hx hb dL_acts_320 (by decide) ?_
                            refine lv_idiv hx hb dL_acts_322 (by decide) ?_
                            refine lv_bipush (v := 60) hx hb dL_acts_323 (by decide) ?_
                            refine lv_irem hx hb dL_acts_325 (by decide) ?_
                            refine lv_iadd hx hb dL_acts_326 ?_
                            obtain ⟨q89, hcq89, h⟩ := hb_some h
                            refine gcS_i (As := [.ref (b 0), .int ((1 : Int32) + (((((a1 / (32 : Int32)) / (8 : Int32)) >>> (((2 : Int32) * p61) &&& 31)) / (8 : Int32)) - ((((a1 / (32 : Int32)) / (8 : Int32)) >>> (((2 : Int32) * p61) &&& 31)) / (8 : Int32)) / (60 : Int32) * (60 : Int32)))]) (rest := []) (BH := (fun (u : Nat → Nat → Int32) H => va_P (dC, dI) vwCl (hW N ca b u O J) H)) X hP hS (c_L_number hlf hN hA I83 O J ((1 : Int32) + (((((a1 / (32 : Int32)) / (8 : Int32)) >>> (((2 : Int32) * p61) &&& 31)) / (8 : Int32)) - ((((a1 / (32 : Int32)) / (8 : Int32)) >>> (((2 : Int32) * p61) &&& 31)) / (8 : Int32)) / (60 : Int32) * (60 : Int32))) q89 hcq89) (va_cwS 2 X.ts gL_acts_L_number rfl rfl rfl (by decide +kernel) ⟨Nat.le_of_ble_eq_true rfl, Nat.le_of_ble_eq_true rfl⟩) rfl hl.1 rfl (Nat.le_of_ble_eq_true rfl) dL_acts_327 ⟨by omega, by omega⟩ (fun r88 I87 H locs hw hP hS => ?_)
                            subst hw
                            refine lv_goto (tgt := 335) hx hb dL_acts_330 (by decide) ?_
                            refine W.widen (k := (cn89 + 18)) (n := (sn89 + 108)) (by omega) (by omega) ?_
                            cases h
                            exact K335 _ _ _ hP hS (lv_sub hl [1, 2, 3, 4] rfl)
                        · have h := gif_t c94 h
                          refine lv_aload_n hx hb dL_acts_292 rfl (lv_at hl 1 rfl) ?_
                          refine lv_bipush (v := 8) hx hb dL_acts_293 (by decide) ?_
                          refine lv_iload hx hb dL_acts_295 (lv_at hl 5 rfl) ?_
                          refine lv_bipush (v := 64) hx hb dL_acts_297 (by decide) ?_
                          refine lv_idiv hx hb dL_acts_299 (by decide) ?_
                          refine lv_bipush (v := 33) hx hb dL_acts_300 (by decide) ?_
                          refine lv_irem hx hb dL_acts_302 (by decide) ?_
                          refine lv_iadd hx hb dL_acts_303 ?_
                          obtain ⟨q93, hcq93, h⟩ := hb_some h
                          refine gcS_i (As := [.ref (b 0), .int ((8 : Int32) + (((((a1 / (32 : Int32)) / (8 : Int32)) >>> (((2 : Int32) * p61) &&& 31)) / (64 : Int32)) - ((((a1 / (32 : Int32)) / (8 : Int32)) >>> (((2 : Int32) * p61) &&& 31)) / (64 : Int32)) / (33 : Int32) * (33 : Int32)))]) (rest := []) (BH := (fun (u : Nat → Nat → Int32) H => va_P (dC, dI) vwCl (hW N ca b u O J) H)) X hP hS (c_L_number hlf hN hA I83 O J ((8 : Int32) + (((((a1 / (32 : Int32)) / (8 : Int32)) >>> (((2 : Int32) * p61) &&& 31)) / (64 : Int32)) - ((((a1 / (32 : Int32)) / (8 : Int32)) >>> (((2 : Int32) * p61) &&& 31)) / (64 : Int32)) / (33 : Int32) * (33 : Int32))) q93 hcq93) (va_cwS 2 X.ts gL_acts_L_number rfl rfl rfl (by decide +kernel) ⟨Nat.le_of_ble_eq_true rfl, Nat.le_of_ble_eq_true rfl⟩) rfl hl.1 rfl (Nat.le_of_ble_eq_true rfl) dL_acts_304 ⟨by omega, by omega⟩ (fun r92 I91 H locs hw hP hS => ?_)
                          subst hw
                          refine lv_goto (tgt := 335) hx hb dL_acts_307 (by decide) ?_
                          refine W.widen (k := (cn89 + 18)) (n := (sn89 + 108)) (by omega) (by omega) ?_
                          cases h
                          exact K335 _ _ _ hP hS (lv_sub hl [1, 2, 3, 4] rfl)
                      · have h := gif_f c98 h
                        refine lv_aload_n hx hb dL_acts_268 rfl (lv_at hl 1 rfl) ?_
                        refine lv_bipush (v := 10) hx hb dL_acts_269 (by decide) ?_
                        refine lv_iload hx hb dL_acts_271 (lv_at hl 5 rfl) ?_
                        refine lv_bipush (v := 64) hx hb dL_acts_273 (by decide) ?_
                        refine lv_idiv hx hb dL_acts_275 (by decide) ?_
                        refine lv_bipush (v := 31) hx hb dL_acts_276 (by decide) ?_
                        refine lv_irem hx hb dL_acts_278 (by decide) ?_
                        refine lv_iadd hx hb dL_acts_279 ?_
                        obtain ⟨q97, hcq97, h⟩ := hb_some h
                        refine gcS_i (As := [.ref (b 0), .int ((10 : Int32) + (((((a1 / (32 : Int32)) / (8 : Int32)) >>> (((2 : Int32) * p61) &&& 31)) / (64 : Int32)) - ((((a1 / (32 : Int32)) / (8 : Int32)) >>> (((2 : Int32) * p61) &&& 31)) / (64 : Int32)) / (31 : Int32) * (31 : Int32)))]) (rest := []) (BH := (fun (u : Nat → Nat → Int32) H => va_P (dC, dI) vwCl (hW N ca b u O J) H)) X hP hS (c_L_number hlf hN hA I83 O J ((10 : Int32) + (((((a1 / (32 : Int32)) / (8 : Int32)) >>> (((2 : Int32) * p61) &&& 31)) / (64 : Int32)) - ((((a1 / (32 : Int32)) / (8 : Int32)) >>> (((2 : Int32) * p61) &&& 31)) / (64 : Int32)) / (31 : Int32) * (31 : Int32))) q97 hcq97) (va_cwS 2 X.ts gL_acts_L_number rfl rfl rfl (by decide +kernel) ⟨Nat.le_of_ble_eq_true rfl, Nat.le_of_ble_eq_true rfl⟩) rfl hl.1 rfl (Nat.le_of_ble_eq_true rfl) dL_acts_280 ⟨by omega, by omega⟩ (fun r96 I95 H locs hw hP hS => ?_)
                        subst hw
                        refine lv_goto (tgt := 335) hx hb dL_acts_283 (by decide) ?_
                        refine W.widen (k := (cn89 + 18)) (n := (sn89 + 108)) (by omega) (by omega) ?_
                        cases h
                        exact K335 _ _ _ hP hS (lv_sub hl [1, 2, 3, 4] rfl)
                    have h := hv
                    refine lv_icmp_lt (tgt := 249) hx hb dL_acts_240 (by decide) (fun c106 => ?_) (fun c106 => ?_)
                    · have h := gif_t c106 h
                      refine lv_aload_n hx hb dL_acts_249 rfl (lv_at hl 1 rfl) ?_
                      refine lv_bipush (v := 61) hx hb dL_acts_250 (by decide) ?_
                      obtain ⟨q101, hcq101, h⟩ := hb_some h
                      refine gcSW_i (As := [.ref (b 0), .int (61 : Int32)]) (rest := []) (BH := (fun (u : Nat → Nat → Int32) H => va_P (dC, dI) vwCl (hW N ca b u O J) H)) X hP hS (c_L_append hlf hN hA I81 O J (61 : Int32) q101 hcq101) (vx_cwSW 2 X.ts gL_acts_L_append rfl rfl rfl (by decide +kernel) ⟨Nat.le_of_ble_eq_true rfl, Nat.le_of_ble_eq_true rfl⟩) rfl hl.1 rfl (Nat.le_of_ble_eq_true rfl) dL_acts_252 ⟨by omega, by omega⟩ (fun r100 I99 H locs hw hP hS => ?_)
                      subst hw
                      refine lv_goto (tgt := 260) hx hb dL_acts_255 (by decide) ?_
                      cases h
                      exact K260 _ _ _ hP hS (lv_sub hl [1, 2, 3, 4, 5, 6] rfl)
                    · have h := gif_f c106 h
                      refine lv_iload hx hb dL_acts_243 (lv_at hl 6 rfl) ?_
                      refine lv_iconst (v := 5) hx hb dL_acts_245 (by decide) ?_
                      refine lv_icmp_ne (tgt := 258) hx hb dL_acts_246 (by decide) (fun c105 => ?_) (fun c105 => ?_)
                      · have h := gif_f c105 h
                        refine lv_iload hx hb dL_acts_258 (lv_at hl 0 rfl) ?_
                        refine W.widen (k := (cn89 + 9)) (n := (sn89 + 54)) (by omega) (by omega) ?_
                        cases h
                        exact K260 _ _ _ hP hS (lv_sub hl [1, 2, 3, 4, 5, 6] rfl)
                      · have h := gif_t c105 h
                        refine lv_aload_n hx hb dL_acts_249 rfl (lv_at hl 1 rfl) ?_
                        refine lv_bipush (v := 61) hx hb dL_acts_250 (by decide) ?_
                        obtain ⟨q104, hcq104, h⟩ := hb_some h
                        refine gcSW_i (As := [.ref (b 0), .int (61 : Int32)]) (rest := []) (BH := (fun (u : Nat → Nat → Int32) H => va_P (dC, dI) vwCl (hW N ca b u O J) H)) X hP hS (c_L_append hlf hN hA I81 O J (61 : Int32) q104 hcq104) (vx_cwSW 2 X.ts gL_acts_L_append rfl rfl rfl (by decide +kernel) ⟨Nat.le_of_ble_eq_true rfl, Nat.le_of_ble_eq_true rfl⟩) rfl hl.1 rfl (Nat.le_of_ble_eq_true rfl) dL_acts_252 ⟨by omega, by omega⟩ (fun r103 I102 H locs hw hP hS => ?_)
                        subst hw
                        refine lv_goto (tgt := 260) hx hb dL_acts_255 (by decide) ?_
                        cases h
                        exact K260 _ _ _ hP hS (lv_sub hl [1, 2, 3, 4, 5, 6] rfl)
                  have h := hv
                  refine lv_icmp_ge (tgt := 213) hx hb dL_acts_179 (by decide) (fun c116 => ?_) (fun c116 => ?_)
                  · have h := gif_t c116 h
                    refine lv_iload hx hb dL_acts_213 (lv_at hl 6 rfl) ?_
                    refine lv_iconst (v := 5) hx hb dL_acts_215 (by decide) ?_
                    refine lv_icmp_ne (tgt := 233) hx hb dL_acts_216 (by decide) (fun c110 => ?_) (fun c110 => ?_)
                    · have h := gif_f c110 h
                      refine lv_iload hx hb dL_acts_233 (lv_at hl 0 rfl) ?_
                      refine W.widen (k := (cn89 + 8)) (n := (sn89 + 48)) (by omega) (by omega) ?_
                      cases h
                      exact K235 _ _ _ hP hS (lv_sub hl [1, 2, 3, 4, 5, 6] rfl)
                    · have h := gif_t c110 h
                      refine lv_aload_n hx hb dL_acts_219 rfl (lv_at hl 1 rfl) ?_
                      refine lv_iload hx hb dL_acts_220 (lv_at hl 5 rfl) ?_
                      refine lv_bipush (v := 8) hx hb dL_acts_222 (by decide) ?_
                      refine lv_idiv hx hb dL_acts_224 (by decide) ?_
                      refine lv_iconst (v := 4) hx hb dL_acts_225 (by decide) ?_
                      refine lv_irem hx hb dL_acts_226 (by decide) ?_
                      obtain ⟨q109, hcq109, h⟩ := hb_some h
                      refine gcS_i (As := [.ref (b 0), .int (((((a1 / (32 : Int32)) / (8 : Int32)) >>> (((2 : Int32) * p61) &&& 31)) / (8 : Int32)) - ((((a1 / (32 : Int32)) / (8 : Int32)) >>> (((2 : Int32) * p61) &&& 31)) / (8 : Int32)) / (4 : Int32) * (4 : Int32))]) (rest := []) (BH := (fun (u : Nat → Nat → Int32) H => va_P (dC, dI) vwCl (hW N ca b u O J) H)) X hP hS (c_L_number hlf hN hA I77 O J (((((a1 / (32 : Int32)) / (8 : Int32)) >>> (((2 : Int32) * p61) &&& 31)) / (8 : Int32)) - ((((a1 / (32 : Int32)) / (8 : Int32)) >>> (((2 : Int32) * p61) &&& 31)) / (8 : Int32)) / (4 : Int32) * (4 : Int32)) q109 hcq109) (va_cwS 2 X.ts gL_acts_L_number rfl rfl rfl (by decide +kernel) ⟨Nat.le_of_ble_eq_true rfl, Nat.le_of_ble_eq_true rfl⟩) rfl hl.1 rfl (Nat.le_of_ble_eq_true rfl) dL_acts_227 ⟨by omega, by omega⟩ (fun r108 I107 H locs hw hP hS => ?_)
                      subst hw
                      refine lv_goto (tgt := 235) hx hb dL_acts_230 (by decide) ?_
                      refine W.widen (k := (cn89 + 8)) (n := (sn89 + 48)) (by omega) (by omega) ?_
                      cases h
                      exact K235 _ _ _ hP hS (lv_sub hl [1, 2, 3, 4, 5, 6] rfl)
                  · have h := gif_f c116 h
                    refine lv_aload_n hx hb dL_acts_182 rfl (lv_at hl 1 rfl) ?_
                    refine lv_iload hx hb dL_acts_183 (lv_at hl 3 rfl) ?_
                    obtain ⟨p111, hv, h⟩ := hb_some h
                    have K207 : ∀ (H : Heap) (locs : List Loc) (ls : Array Slot), va_P (dC, dI) vwCl (hW N ca b I77 O J) H → va_S A s.heap H locs → lv_has ls 10 [(0, .ref (b 0)), (2, .int (a1 / (32 : Int32))), (4, .int r1), (7, .int p61), (8, .int (((a1 / (32 : Int32)) / (8 : Int32)) >>> (((2 : Int32) * p61) &&& 31))), (9, .int ((((a1 / (32 : Int32)) / (8 : Int32)) >>> (((2 : Int32) * p61) &&& 31)) - (((a1 / (32 : Int32)) / (8 : Int32)) >>> (((2 : Int32) * p61) &&& 31)) / (8 : Int32) * (8 : Int32)))] → W p l e (headSpec wsL_acts ({ frames := 9, cells := 308, slots := 1848, locals := 186 } : Room)).room s m ([.ref (b 0), .int a1] : List Value).toArray below meth c H locs (cn89 + 2) (sn89 + 12) (MQ below (va_Qi (fun (r : Int32) (u : (Nat → Nat → Int32) × (Nat → Nat → Option Nat)) => res = (r, u)) (fun (u : (Nat → Nat → Int32) × (Nat → Nat → Option Nat)) t => va_P (dC, dI) vwCl (hW N ca b u.1 u.2 J) t.heap) A) ([.ref (b 0), .int a1] : List Value).toArray s 308 1848 A) (F0 m 207 ls [.int p111, .ref (b 0)]) := by
                      intro H locs ls hP hS hl
                      obtain ⟨q114, hcq114, h⟩ := hb_some h
                      refine gcS_i (As := [.ref (b 0), .int p111]) (rest := []) (BH := (fun (u : Nat → Nat → Int32) H => va_P (dC, dI) vwCl (hW N ca b u O J) H)) X hP hS (c_L_number hlf hN hA I77 O J p111 q114 hcq114) (va_cwS 2 X.ts gL_acts_L_number rfl rfl rfl (by decide +kernel) ⟨Nat.le_of_ble_eq_true rfl, Nat.le_of_ble_eq_true rfl⟩) rfl hl.1 rfl (Nat.le_of_ble_eq_true rfl) dL_acts_207 ⟨by omega, by omega⟩ (fun r113 I112 H locs hw hP hS => ?_)
                      subst hw
                      refine lv_goto (tgt := 235) hx hb dL_acts_210 (by decide) ?_
                      refine W.widen (k := (cn89 + 8)) (n := (sn89 + 48)) (by omega) (by omega) ?_
                      cases h
                      exact K235 _ _ _ hP hS (lv_sub hl [0, 1, 2, 3, 4, 5] rfl)
                    have h := hv
                    refine lv_if_ne (tgt := 199) hx hb dL_acts_185 (by decide) (fun c115 => ?_) (fun c115 => ?_)
                    · have h := gif_f c115 h
                      refine lv_iload hx hb dL_acts_199 (lv_at hl 5 rfl) ?_
                      refine lv_bipush (v := 8) hx hb dL_acts_201 (by decide) ?_
                      refine lv_idiv hx hb dL_acts_203 (by decide) ?_
                      refine lv_iload hx hb dL_acts_204 (lv_at hl 3 rfl) ?_
                      obtain ⟨hgd, h⟩ := hg_some h
                      refine lv_irem hx hb dL_acts_206 (gne_of hgd) ?_
                      cases h
                      exact K207 _ _ _ hP hS (lv_sub hl [1, 2, 3, 4, 5, 6] rfl)
                    · have h := gif_t c115 h
                      refine lv_iload hx hb dL_acts_188 (lv_at hl 5 rfl) ?_
                      refine lv_bipush (v := 8) hx hb dL_acts_190 (by decide) ?_
                      refine lv_idiv hx hb dL_acts_192 (by decide) ?_
                      refine lv_bipush (v := 8) hx hb dL_acts_193 (by decide) ?_
                      refine lv_irem hx hb dL_acts_195 (by decide) ?_
                      refine lv_goto (tgt := 207) hx hb dL_acts_196 (by decide) ?_
                      cases h
                      exact K207 _ _ _ hP hS (lv_sub hl [1, 2, 3, 4, 5, 6] rfl)
                have h := hv
                refine lv_icmp_ge (tgt := 147) hx hb dL_acts_139 (by decide) (fun c119 => ?_) (fun c119 => ?_)
                · have h := gif_t c119 h
                  refine lv_iload hx hb dL_acts_147 (lv_at hl 6 rfl) ?_
                  refine lv_iconst (v := 5) hx hb dL_acts_149 (by decide) ?_
                  refine lv_icmp_ge (tgt := 158) hx hb dL_acts_150 (by decide) (fun c118 => ?_) (fun c118 => ?_)
                  · have h := gif_t c118 h
                    refine lv_iload hx hb dL_acts_158 (lv_at hl 6 rfl) ?_
                    refine lv_iconst (v := 5) hx hb dL_acts_160 (by decide) ?_
                    refine lv_icmp_ne (tgt := 169) hx hb dL_acts_161 (by decide) (fun c117 => ?_) (fun c117 => ?_)
                    · have h := gif_f c117 h
                      refine lv_bipush (v := 116) hx hb dL_acts_169 (by decide) ?_
                      cases h
                      exact K171 _ _ _ hP hS (lv_sub hl [1, 2, 3, 4, 5, 6] rfl)
                    · have h := gif_t c117 h
                      refine lv_bipush (v := 99) hx hb dL_acts_164 (by decide) ?_
                      refine lv_goto (tgt := 171) hx hb dL_acts_166 (by decide) ?_
                      cases h
                      exact K171 _ _ _ hP hS (lv_sub hl [1, 2, 3, 4, 5, 6] rfl)
                  · have h := gif_f c118 h
                    refine lv_bipush (v := 110) hx hb dL_acts_153 (by decide) ?_
                    refine lv_goto (tgt := 171) hx hb dL_acts_155 (by decide) ?_
                    cases h
                    exact K171 _ _ _ hP hS (lv_sub hl [1, 2, 3, 4, 5, 6] rfl)
                · have h := gif_f c119 h
                  refine lv_bipush (v := 112) hx hb dL_acts_142 (by decide) ?_
                  refine lv_goto (tgt := 171) hx hb dL_acts_144 (by decide) ?_
                  cases h
                  exact K171 _ _ _ hP hS (lv_sub hl [1, 2, 3, 4, 5, 6] rfl)
              have h := hv
              refine lv_if_le (tgt := 132) hx hb dL_acts_120 (by decide) (fun c123 => ?_) (fun c123 => ?_)
              · have h := gif_t c123 h
                refine lv_iconst (v := 0) hx hb dL_acts_132 (by decide) ?_
                refine W.widen (k := (cn89 + 1)) (n := (sn89 + 6)) (by omega) (by omega) ?_
                cases h
                exact K133 _ _ _ hP hS (lv_sub hl [2, 3, 4, 6, 1, 0] rfl)
              · have h := gif_f c123 h
                refine lv_aload_n hx hb dL_acts_123 rfl (lv_at hl 2 rfl) ?_
                refine lv_bipush (v := 59) hx hb dL_acts_124 (by decide) ?_
                obtain ⟨q122, hcq122, h⟩ := hb_some h
                refine gcSW_i (As := [.ref (b 0), .int (59 : Int32)]) (rest := []) (BH := (fun (u : Nat → Nat → Int32) H => va_P (dC, dI) vwCl (hW N ca b u O J) H)) X hP hS (c_L_append hlf hN hA I62 O J (59 : Int32) q122 hcq122) (vx_cwSW 2 X.ts gL_acts_L_append rfl rfl rfl (by decide +kernel) ⟨Nat.le_of_ble_eq_true rfl, Nat.le_of_ble_eq_true rfl⟩) rfl hl.1 rfl (Nat.le_of_ble_eq_true rfl) dL_acts_126 ⟨by omega, by omega⟩ (fun r121 I120 H locs hw hP hS => ?_)
                subst hw
                refine lv_goto (tgt := 133) hx hb dL_acts_129 (by decide) ?_
                cases h
                exact K133 _ _ _ hP hS (lv_sub hl [2, 3, 4, 6, 1, 0] rfl)
        exact hL89 16 _ _ _ 0 0 _ _ _ (Nat.le_of_ble_eq_true rfl) (Nat.le_of_ble_eq_true rfl) hv hP hS (lv_sub hl [3, 4, 6, 1, 0] rfl)
    · have h := gif_f c138 h
      refine lv_iload_n hx hb dL_acts_39 rfl (lv_at hl 3 rfl) ?_
      refine lv_iconst (v := 3) hx hb dL_acts_40 (by decide) ?_
      refine lv_icmp_ge (tgt := 51) hx hb dL_acts_41 (by decide) (fun c137 => ?_) (fun c137 => ?_)
      · have h := gif_t c137 h
        refine lv_iload_n hx hb dL_acts_51 rfl (lv_at hl 3 rfl) ?_
        refine lv_iconst (v := 3) hx hb dL_acts_52 (by decide) ?_
        refine lv_icmp_ne (tgt := 66) hx hb dL_acts_53 (by decide) (fun c133 => ?_) (fun c133 => ?_)
        · have h := gif_f c133 h
          refine lv_aload_n hx hb dL_acts_66 rfl (lv_at hl 1 rfl) ?_
          refine lv_iload_n hx hb dL_acts_67 rfl (lv_at hl 2 rfl) ?_
          refine lv_iconst (v := 2) hx hb dL_acts_68 (by decide) ?_
          refine lv_irem hx hb dL_acts_69 (by decide) ?_
          obtain ⟨q129, hcq129, h⟩ := hb_some h
          refine gcSW_i (As := [.ref (b 0), .int ((a1 / (32 : Int32)) - (a1 / (32 : Int32)) / (2 : Int32) * (2 : Int32))]) (rest := []) (BH := (fun (u : (Nat → Nat → Int32) × (Nat → Nat → Option Nat)) H => va_P (dC, dI) vwCl (hW N ca b u.1 u.2 J) H)) X hP hS (c_L_goBack hlf hN hA I O J ((a1 / (32 : Int32)) - (a1 / (32 : Int32)) / (2 : Int32) * (2 : Int32)) q129 hcq129) (vx_cwSW 2 X.ts gL_acts_L_goBack rfl rfl rfl (by decide +kernel) ⟨Nat.le_of_ble_eq_true rfl, Nat.le_of_ble_eq_true rfl⟩) rfl hl.1 rfl (Nat.le_of_ble_eq_true rfl) dL_acts_70 ⟨Nat.le_of_ble_eq_true rfl, Nat.le_of_ble_eq_true rfl⟩ (fun r128 u9 H locs hw hP hS => ?_)
          obtain ⟨I126, O127⟩ := u9
          subst hw
          refine W.widen (k := 308) (n := 1848) (Nat.le_of_ble_eq_true rfl) (Nat.le_of_ble_eq_true rfl) ?_
          exact W.iret hx hb hr (fun t9 ht hW => ⟨⟨r128, (I126, O127), rfl, (Option.some.inj h).symm, gEnd ht hP⟩, hS.F ht⟩) hS.2.2 dL_acts_73 hlk
        · have h := gif_t c133 h
          refine lv_aload_n hx hb dL_acts_56 rfl (lv_at hl 1 rfl) ?_
          refine lv_iload_n hx hb dL_acts_57 rfl (lv_at hl 2 rfl) ?_
          refine lv_iconst (v := 2) hx hb dL_acts_58 (by decide) ?_
          refine lv_irem hx hb dL_acts_59 (by decide) ?_
          obtain ⟨q132, hcq132, h⟩ := hb_some h
          refine gcSW_i (As := [.ref (b 0), .int ((a1 / (32 : Int32)) - (a1 / (32 : Int32)) / (2 : Int32) * (2 : Int32))]) (rest := []) (BH := (fun (u : Nat → Nat → Int32) H => va_P (dC, dI) vwCl (hW N ca b u O J) H)) X hP hS (c_L_keep hlf hN hA I O J ((a1 / (32 : Int32)) - (a1 / (32 : Int32)) / (2 : Int32) * (2 : Int32)) q132 hcq132) (vx_cwSW 2 X.ts gL_acts_L_keep rfl rfl rfl (by decide +kernel) ⟨Nat.le_of_ble_eq_true rfl, Nat.le_of_ble_eq_true rfl⟩) rfl hl.1 rfl (Nat.le_of_ble_eq_true rfl) dL_acts_60 ⟨Nat.le_of_ble_eq_true rfl, Nat.le_of_ble_eq_true rfl⟩ (fun r131 I130 H locs hw hP hS => ?_)
          subst hw
          refine lv_goto (tgt := 73) hx hb dL_acts_63 (by decide) ?_
          refine W.widen (k := 308) (n := 1848) (Nat.le_of_ble_eq_true rfl) (Nat.le_of_ble_eq_true rfl) ?_
          exact W.iret hx hb hr (fun t9 ht hW => ⟨⟨r131, (I130, O), rfl, (Option.some.inj h).symm, gEnd ht hP⟩, hS.F ht⟩) hS.2.2 dL_acts_73 hlk
      · have h := gif_f c137 h
        refine lv_aload_n hx hb dL_acts_44 rfl (lv_at hl 1 rfl) ?_
        obtain ⟨q136, hcq136, h⟩ := hb_some h
        refine gcSW_i (As := [.ref (b 0)]) (rest := []) (BH := (fun (u : Nat → Nat → Int32) H => va_P (dC, dI) vwCl (hW N ca b u O J) H)) X hP hS (c_L_undo hlf hN hA I O J q136 hcq136) (vx_cwSW 1 X.ts gL_acts_L_undo rfl rfl rfl (by decide +kernel) ⟨Nat.le_of_ble_eq_true rfl, Nat.le_of_ble_eq_true rfl⟩) rfl hl.1 rfl (Nat.le_of_ble_eq_true rfl) dL_acts_45 ⟨Nat.le_of_ble_eq_true rfl, Nat.le_of_ble_eq_true rfl⟩ (fun r135 I134 H locs hw hP hS => ?_)
        subst hw
        refine lv_goto (tgt := 73) hx hb dL_acts_48 (by decide) ?_
        refine W.widen (k := 308) (n := 1848) (Nat.le_of_ble_eq_true rfl) (Nat.le_of_ble_eq_true rfl) ?_
        exact W.iret hx hb hr (fun t9 ht hW => ⟨⟨r135, (I134, O), rfl, (Option.some.inj h).symm, gEnd ht hP⟩, hS.F ht⟩) hS.2.2 dL_acts_73 hlk
  have h := hv
  refine lv_if_ne (tgt := 25) hx hb dL_acts_18 (by decide) (fun c139 => ?_) (fun c139 => ?_)
  · have h := gif_f c139 h
    refine lv_iload_n hx hb dL_acts_25 rfl (lv_at hl 2 rfl) ?_
    refine lv_bipush (v := 8) hx hb dL_acts_26 (by decide) ?_
    refine lv_idiv hx hb dL_acts_28 (by decide) ?_
    refine lv_iload hx hb dL_acts_29 (lv_at hl 0 rfl) ?_
    obtain ⟨hgd, h⟩ := hg_some h
    refine lv_irem hx hb dL_acts_31 (gne_of hgd) ?_
    cases h
    exact K32 _ _ _ hP hS (lv_sub hl [3, 2, 1, 0] rfl)
  · have h := gif_t c139 h
    refine lv_iconst (v := 0) hx hb dL_acts_21 (by decide) ?_
    refine lv_goto (tgt := 32) hx hb dL_acts_22 (by decide) ?_
    cases h
    exact K32 _ _ _ hP hS (lv_sub hl [3, 2, 1, 0] rfl)
def f_L_hangs_L695 (I15 : Nat → Nat → Int32) : Nat → Int32 → Int32 → Int32 → Option (Int32)
  | 0, _, _, _ => none
  | fuel + 1, p17, p18, p19 =>
    (f_X7_arrived I15).bind fun r80 =>
    if r80 ≤ p19 then
      some p18
    else
      if p18 = 0 then
        some p18
      else
        (f_L_arrivedAt p19 I15).bind fun r82 =>
        (f_L_stateOf r82 I15).bind fun r84 =>
        (show Option (Int32) from
          if r84 = (3 : Int32) then
            (f_L_placeByCounting r82 I15).bind fun r90 =>
            if r90 = p19 then
              (f_L_timeOf r82 I15).bind fun r92 =>
              if r92 < p17 then
                some (0 : Int32)
              else
                (f_L_timeOf r82 I15).bind fun r94 =>
                (f_X7_seconds I15).bind fun r96 =>
                if r96 < r94 then
                  some (0 : Int32)
                else
                  some (1 : Int32)
            else
              some (0 : Int32)
          else
            some (0 : Int32)).bind fun p86 =>
        (f_L_timeOf r82 I15).bind fun r87 =>
        hlet (p19 + 1) fun x89 =>
        f_L_hangs_L695 I15 fuel r87 p86 x89
def f_L_hangs_L141 (r1 : Int32) : Nat → Int32 → Int32 → Int32 → Int32 → Int32 → (Nat → Nat → Int32) → (Nat → Nat → Option Nat) → Option (Int32 × Int32 × Int32 × Int32 × (Nat → Nat → Int32) × (Nat → Nat → Option Nat))
  | 0, _, _, _, _, _, _, _ => none
  | fuel + 1, p4, p5, p6, p7, p8, I9, O10 =>
    if r1 ≤ p8 then
      some (p4, p5, p6, p7, I9, O10)
    else
      if p7 = 0 then
        some (p4, p5, p6, p7, I9, O10)
      else
        (f_L_partnerOf p8 I9).bind fun r104 =>
        (f_L_gapAhead p8 I9).bind fun r106 =>
        (f_L_stateOf p8 I9).bind fun r108 =>
        (f_L_flown p8 I9).bind fun r110 =>
        (show Option (Int32) from
          if r108 = (3 : Int32) then
            some (1 : Int32)
          else
            some (0 : Int32)).bind fun p112 =>
        (show Option (Int32) from
          if r104 < 0 then
            some (0 : Int32)
          else
            some (1 : Int32)).bind fun p113 =>
        (f_L_placeByCounting p8 I9).bind fun r114 =>
        (f_L_birdByOrder r114 I9 O10).bind fun (r117, O116) =>
        (show Option (Int32) from
          if r117 = p8 then
            (f_L_lapsOf p8 I9).bind fun r161 =>
            (f_L_flown p8 I9).bind fun r163 =>
            if r161 = (r163 / (400 : Int32)) then
              (f_L_speedOf p8 I9).bind fun r165 =>
              if r165 < 0 then
                some (0 : Int32)
              else
                (f_L_speedOf p8 I9).bind fun r167 =>
                if (42 : Int32) < r167 then
                  some (0 : Int32)
                else
                  (f_L_strengthOf p8 I9).bind fun r169 =>
                  if r169 < 0 then
                    some (0 : Int32)
                  else
                    (f_L_strengthOf p8 I9).bind fun r171 =>
                    if (999 : Int32) < r171 then
                      some (0 : Int32)
                    else
                      (f_L_wearOf p8 I9).bind fun r173 =>
                      if r173 < 0 then
                        some (0 : Int32)
                      else
                        (f_L_wearOf p8 I9).bind fun r175 =>
                        if (100 : Int32) < r175 then
                          some (0 : Int32)
                        else
                          (f_L_laneOf p8 I9).bind fun r177 =>
                          if r177 < 0 then
                            some (0 : Int32)
                          else
                            (f_L_laneOf p8 I9).bind fun r179 =>
                            if (2 : Int32) ≤ r179 then
                              some (0 : Int32)
                            else
                              if r108 < 0 then
                                some (0 : Int32)
                              else
                                if (4 : Int32) ≤ r108 then
                                  some (0 : Int32)
                                else
                                  (f_L_paceOf p8 I9).bind fun r181 =>
                                  if r181 < (10 : Int32) then
                                    some (0 : Int32)
                                  else
                                    (f_L_paceOf p8 I9).bind fun r183 =>
                                    if (40 : Int32) < r183 then
                                      some (0 : Int32)
                                    else
                                      hlet (fun (_ : Unit) => show Option (Int32) from
                                        if r106 < 0 then
                                          some (0 : Int32)
                                        else
                                          if (400 : Int32) < r106 then
                                            some (0 : Int32)
                                          else
                                            (f_L_whereIs p8 I9).bind fun r186 =>
                                            (f_L_flown p8 I9).bind fun r188 =>
                                            (show Option (Int32) from
                                              if (70 : Int32) ≤ (r188 - r188 / (100 : Int32) * (100 : Int32)) then
                                                (f_L_flown p8 I9).bind fun r224 =>
                                                some ((4 : Int32) + ((r224 - r224 / (400 : Int32) * (400 : Int32)) / (100 : Int32)))
                                              else
                                                (f_L_flown p8 I9).bind fun r226 =>
                                                some ((r226 - r226 / (400 : Int32) * (400 : Int32)) / (100 : Int32))).bind fun p190 =>
                                            if r186 = p190 then
                                              (show Option (Int32) from
                                                if r108 = (3 : Int32) then
                                                  some (1 : Int32)
                                                else
                                                  some (0 : Int32)).bind fun p191 =>
                                              (f_L_timeOf p8 I9).bind fun r192 =>
                                              (show Option (Int32) from
                                                if r192 ≤ 0 then
                                                  some (0 : Int32)
                                                else
                                                  some (1 : Int32)).bind fun p194 =>
                                              if p191 = p194 then
                                                (show Option (Int32) from
                                                  if r108 = (1 : Int32) then
                                                    some (1 : Int32)
                                                  else
                                                    some (0 : Int32)).bind fun p195 =>
                                                (f_L_allowance p8 I9).bind fun r196 =>
                                                (show Option (Int32) from
                                                  if r196 < (4 : Int32) then
                                                    some (0 : Int32)
                                                  else
                                                    some (1 : Int32)).bind fun p198 =>
                                                if p195 = p198 then
                                                  hlet (fun (_ : Unit) => show Option (Int32) from
                                                    if r108 = (3 : Int32) then
                                                      (f_L_isCalledIn p8 I9).bind fun r200 =>
                                                      if r200 = 0 then
                                                        some (1 : Int32)
                                                      else
                                                        (f_L_lapsOf p8 I9).bind fun r202 =>
                                                        if r202 ≤ 0 then
                                                          some (0 : Int32)
                                                        else
                                                          some (1 : Int32)
                                                    else
                                                      some (1 : Int32)) fun j199 =>
                                                  if r108 = (1 : Int32) then
                                                    (f_L_isDrafting p8 I9).bind fun r210 =>
                                                    (show Option (Int32) from
                                                      if r106 ≤ 0 then
                                                        some (0 : Int32)
                                                      else
                                                        if (9 : Int32) ≤ r106 then
                                                          some (0 : Int32)
                                                        else
                                                          some (1 : Int32)).bind fun p212 =>
                                                    if r210 = p212 then
                                                      j199 ()
                                                    else
                                                      some (0 : Int32)
                                                  else
                                                    (f_L_isDrafting p8 I9).bind fun r207 =>
                                                    if r207 = (-4 : Int32) then
                                                      j199 ()
                                                    else
                                                      some (0 : Int32)
                                                else
                                                  some (0 : Int32)
                                              else
                                                some (0 : Int32)
                                            else
                                              some (0 : Int32)) fun j185 =>
                                      if r104 = (-4 : Int32) then
                                        j185 ()
                                      else
                                        if r104 = p8 then
                                          some (0 : Int32)
                                        else
                                          (f_L_partnerOf r104 I9).bind fun r231 =>
                                          if r231 = p8 then
                                            j185 ()
                                          else
                                            some (0 : Int32)
            else
              some (0 : Int32)
          else
            some (0 : Int32)).bind fun p119 =>
        (show Option (Int32 × (Nat → Nat → Int32) × (Nat → Nat → Option Nat)) from
          if p119 = 0 then
            some ((0 : Int32), I9, O116)
          else
            (f_X7_isRacing I9).bind fun r124 =>
            if r124 = 0 then
              (f_L_wouldFly p8 (7 : Int32) I9 O116).bind fun (r128, I126, O127) =>
              if r128 = (-4 : Int32) then
                (f_L_flownWithPace p8 (20 : Int32) I126 O127).bind fun (r132, I130, O131) =>
                if r132 = (-4 : Int32) then
                  (f_L_bestPace p8 I130 O131).bind fun (r136, I134, O135) =>
                  if r136 = (-4 : Int32) then
                    some ((1 : Int32), I134, O135)
                  else
                    some ((0 : Int32), I134, O135)
                else
                  some ((0 : Int32), I130, O131)
              else
                some ((0 : Int32), I126, O127)
            else
              (f_L_wouldFly p8 (7 : Int32) I9 O116).bind fun (r143, I141, O142) =>
              (f_L_flown p8 I141).bind fun r145 =>
              if r143 < r145 then
                some ((0 : Int32), I141, O142)
              else
                (f_L_paceOf p8 I141).bind fun r147 =>
                (f_L_flownWithPace p8 r147 I141 O142).bind fun (r151, I149, O150) =>
                (f_L_wouldFly p8 (50 : Int32) I149 O150).bind fun (r155, I153, O154) =>
                if r151 = r155 then
                  some ((1 : Int32), I153, O154)
                else
                  some ((0 : Int32), I153, O154)).bind fun (p120, I121, O122) =>
        hlet (p8 + 1) fun x123 =>
        f_L_hangs_L141 r1 fuel (p4 + r110) (p5 + p112) (p6 + p113) p120 x123 I121 O122
def f_L_hangs (I : Nat → Nat → Int32) (O : Nat → Nat → Option Nat) : Option (Int32 × (Nat → Nat → Int32) × (Nat → Nat → Option Nat)) :=
  (f_X7_sparrows I).bind fun r1 =>
  (show Option (Int32) from
    if r1 < 0 then
      some (0 : Int32)
    else
      if (8 : Int32) < r1 then
        some (0 : Int32)
      else
        (f_X7_seconds I).bind fun r254 =>
        if r254 < 0 then
          some (0 : Int32)
        else
          (f_X7_arrived I).bind fun r256 =>
          if r256 < 0 then
            some (0 : Int32)
          else
            (f_X7_arrived I).bind fun r258 =>
            if r1 < r258 then
              some (0 : Int32)
            else
              (f_X7_drafts I).bind fun r260 =>
              if r260 < 0 then
                some (0 : Int32)
              else
                (f_X7_changes I).bind fun r262 =>
                if r262 < 0 then
                  some (0 : Int32)
                else
                  (f_X7_rests I).bind fun r264 =>
                  if r264 < 0 then
                    some (0 : Int32)
                  else
                    (f_X7_races I).bind fun r266 =>
                    if r266 < 0 then
                      some (0 : Int32)
                    else
                      (f_X7_winsInPairs I).bind fun r268 =>
                      if r268 < 0 then
                        some (0 : Int32)
                      else
                        (f_X7_winsInPairs I).bind fun r270 =>
                        (f_X7_races I).bind fun r272 =>
                        if r272 < r270 then
                          some (0 : Int32)
                        else
                          (f_X7_savedStates I).bind fun r274 =>
                          if r274 < 0 then
                            some (0 : Int32)
                          else
                            (f_X7_savedStates I).bind fun r276 =>
                            if (7 : Int32) ≤ r276 then
                              some (0 : Int32)
                            else
                              (f_X7_isRacing I).bind fun r278 =>
                              if r278 = 0 then
                                some (1 : Int32)
                              else
                                (f_X7_arrived I).bind fun r280 =>
                                if r1 ≤ r280 then
                                  some (0 : Int32)
                                else
                                  (f_X7_races I).bind fun r282 =>
                                  if r282 ≤ 0 then
                                    some (0 : Int32)
                                  else
                                    some (1 : Int32)).bind fun p3 =>
  (f_L_hangs_L141 r1 16 (0 : Int32) (0 : Int32) (0 : Int32) p3 (0 : Int32) I O).bind fun (p11, p12, p13, p14, I15, O16) =>
  (f_L_hangs_L695 I15 16 (0 : Int32) p14 (0 : Int32)).bind fun p20 =>
  (f_L_secondsToNext I15 O16).bind fun (r23, I21, O22) =>
  (f_L_wouldWin I21 O22).bind fun (r27, I25, O26) =>
  if p20 = 0 then
    some ((0 : Int32), I25, O26)
  else
    (f_X7_arrived I25).bind fun r29 =>
    if p12 = r29 then
      if (p13 - p13 / (2 : Int32) * (2 : Int32)) = 0 then
        (f_X7_flownByBirds I25).bind fun r31 =>
        if p11 = r31 then
          (f_X7_flownByAccount I25).bind fun r33 =>
          if p11 = r33 then
            (f_X7_meanFlown I25).bind fun r35 =>
            (show Option (UInt64) from
              if r1 = 0 then
                some FP.dconst0
              else
                hg (gnn (FP.ddiv (FP.i2d p11) (FP.i2d r1))) <|
                some (FP.ddiv (FP.i2d p11) (FP.i2d r1))).bind fun p37 =>
            if (Op.cmpValue (FP.dcmp r35 p37) .l) = 0 then
              hlet (fun (_ : Unit) => show Option (Int32 × (Nat → Nat → Int32) × (Nat → Nat → Option Nat)) from
                hlet (fun (_ : Unit) => show Option (Int32 × (Nat → Nat → Int32) × (Nat → Nat → Option Nat)) from
                  (f_X7_isRacing I25).bind fun r40 =>
                  hlet (fun (I42 : Nat → Nat → Int32) (O43 : Nat → Nat → Option Nat) => show Option (Int32 × (Nat → Nat → Int32) × (Nat → Nat → Option Nat)) from
                    (f_L_flown r1 I42).bind fun r45 =>
                    if r45 = (-2 : Int32) then
                      (f_X7_arrived I42).bind fun r47 =>
                      (f_L_arrivedAt r47 I42).bind fun r49 =>
                      if r49 = (-2 : Int32) then
                        some ((1 : Int32), I42, O43)
                      else
                        some ((0 : Int32), I42, O43)
                    else
                      some ((0 : Int32), I42, O43)) fun j44 =>
                  if r40 = 0 then
                    if r23 = (-4 : Int32) then
                      (f_L_pass (1 : Int32) I25 O26).bind fun (r55, I53, O54) =>
                      if r55 = (-4 : Int32) then
                        j44 I53 O54
                      else
                        some ((0 : Int32), I53, O54)
                    else
                      some ((0 : Int32), I25, O26)
                  else
                    j44 I25 O26) fun j39 =>
                if r27 = (-4 : Int32) then
                  j39 ()
                else
                  if r23 ≤ 0 then
                    some ((0 : Int32), I25, O26)
                  else
                    if r27 < 0 then
                      some ((0 : Int32), I25, O26)
                    else
                      if r1 ≤ r27 then
                        some ((0 : Int32), I25, O26)
                      else
                        (f_X7_arrived I25).bind fun r60 =>
                        if r60 = 0 then
                          j39 ()
                        else
                          some ((0 : Int32), I25, O26)) fun j38 =>
              if r23 = (-4 : Int32) then
                j38 ()
              else
                (f_X7_isRacing I25).bind fun r67 =>
                if r67 = 0 then
                  some ((0 : Int32), I25, O26)
                else
                  if r23 ≤ 0 then
                    some ((0 : Int32), I25, O26)
                  else
                    if (2000 : Int32) < r23 then
                      some ((0 : Int32), I25, O26)
                    else
                      j38 ()
            else
              some ((0 : Int32), I25, O26)
          else
            some ((0 : Int32), I25, O26)
        else
          some ((0 : Int32), I25, O26)
      else
        some ((0 : Int32), I25, O26)
    else
      some ((0 : Int32), I25, O26)
set_option maxHeartbeats 8000000 in
set_option maxRecDepth 100000 in
theorem c_L_hangs {l : Launch} (hlf : l.stackTraces = false) {dC : Nat → ClassId} {dI : Nat → Nat → Nat} {ca : Nat → ClassId} {b : Nat → Nat} {A : Nat → Prop} {N : Nat} (hN : 129 ≤ N) (hA : gAd A b N) (I : Nat → Nat → Int32) (O : Nat → Nat → Option Nat) (J : Nat → Nat → Int64) (res : Int32 × (Nat → Nat → Int32) × (Nat → Nat → Option Nat)) (h : f_L_hangs I O = some res) : Met l yL_hangs wsL_hangs ({ frames := 10, cells := 1014, slots := 6084, locals := 193 } : Room) (va_Pc [.ref (b 0)] (gPre dC dI ca b A N I O J)) (va_Qi (fun (r : Int32) (u : (Nat → Nat → Int32) × (Nat → Nat → Option Nat)) => res = (r, u)) (fun (u : (Nat → Nat → Int32) × (Nat → Nat → Option Nat)) t => va_P (dC, dI) vwCl (hW N ca b u.1 u.2 J) t.heap) A) 1014 6084 A := by
  refine Met.ofW (cc := cL_hangs) (maxL := 11) (ret := (some .boolean)) (by decide) rfl ?_
  intro p e s m args below meth c s₁ B hml hv
  obtain ⟨rfl, hP, hK, hA2, hth⟩ := hv
  have hx := B.exec
  have hb := B.bytes
  have hr := B.returns
  have hlk := B.notSynchronized
  have X : gCx p s m ([.ref (b 0)] : List Value).toArray c RL cL_hangs wsL_hangs 11 dC dI ca b A N := ⟨hx, hb, hml, findClass_of_methodNamed B.named, atoms_spec (ws := wsL_hangs) B.pre, hK, hA, hA2, hth⟩
  have hS : va_S A s.heap s.heap [] := va_S.rf
  have hl := lv_entry ([.ref (b 0)] : List Value) (n := 11) (Nat.le_of_ble_eq_true rfl)
  rw [lg_entry_eq]
  generalize (lg_sl ([.ref (b 0)] : List Value) ++ List.replicate (11 - (lg_sl ([.ref (b 0)] : List Value)).length) Slot.unset).toArray = ls at hl ⊢
  have hl : lv_has ls 11 [(0, .ref (b 0))] := hl
  unfold f_L_hangs at h
  have hRc : (headSpec wsL_hangs ({ frames := 10, cells := 1014, slots := 6084, locals := 193 } : Room)).room.cells = 1014 := rfl
  have hRs : (headSpec wsL_hangs ({ frames := 10, cells := 1014, slots := 6084, locals := 193 } : Room)).room.slots = 6084 := rfl
  refine lv_aload_n hx hb dL_hangs_0 rfl (lv_at hl 0 rfl) ?_
  obtain ⟨q2, hcq2, h⟩ := hb_some h
  refine gdV_i (As := []) (rest := []) (BH := (fun (u : Unit) H => va_P (dC, dI) vwCl (hW N ca b I O J) H)) X hP hS (c_X7_sparrows hN hA I O J q2 hcq2) (cwV 0 X.ts gL_hangs_X7_sparrows rfl rfl rfl (by decide +kernel) ⟨Nat.le_of_ble_eq_true rfl, Nat.le_of_ble_eq_true rfl⟩) (gr7 X hP kc_0 (sk_in hN kc_0 (by decide))) rfl hl.1 rfl (Nat.le_of_ble_eq_true rfl) dL_hangs_1 ⟨Nat.le_of_ble_eq_true rfl, Nat.le_of_ble_eq_true rfl⟩ (fun r1 u9 H locs hw hP hS => ?_)
  have hw := hw.symm
  subst hw
  refine lv_istore_n (lv' := [(1, .int r1), (0, .ref (b 0))]) hx hb dL_hangs_4 rfl hl (by decide) rfl (fun ls hl => ?_)
  refine lv_iconst (v := 0) hx hb dL_hangs_5 (by decide) ?_
  refine lv_istore_n (lv' := [(2, .int (0 : Int32)), (1, .int r1), (0, .ref (b 0))]) hx hb dL_hangs_6 rfl hl (by decide) rfl (fun ls hl => ?_)
  refine lv_iconst (v := 0) hx hb dL_hangs_7 (by decide) ?_
  refine lv_istore_n (lv' := [(3, .int (0 : Int32)), (2, .int (0 : Int32)), (1, .int r1), (0, .ref (b 0))]) hx hb dL_hangs_8 rfl hl (by decide) rfl (fun ls hl => ?_)
  refine lv_iconst (v := 0) hx hb dL_hangs_9 (by decide) ?_
  refine lv_istore (lv' := [(4, .int (0 : Int32)), (3, .int (0 : Int32)), (2, .int (0 : Int32)), (1, .int r1), (0, .ref (b 0))]) hx hb dL_hangs_10 hl (by decide) rfl (fun ls hl => ?_)
  refine lv_iconst (v := 0) hx hb dL_hangs_12 (by decide) ?_
  refine lv_istore (lv' := [(5, .int (0 : Int32)), (4, .int (0 : Int32)), (3, .int (0 : Int32)), (2, .int (0 : Int32)), (1, .int r1), (0, .ref (b 0))]) hx hb dL_hangs_13 hl (by decide) rfl (fun ls hl => ?_)
  refine lv_iload_n hx hb dL_hangs_15 rfl (lv_at hl 4 rfl) ?_
  obtain ⟨p3, hv, h⟩ := hb_some h
  have K136 : ∀ (H : Heap) (locs : List Loc) (ls : Array Slot), va_P (dC, dI) vwCl (hW N ca b I O J) H → va_S A s.heap H locs → lv_has ls 11 [(0, .ref (b 0)), (1, .int r1), (2, .int (0 : Int32)), (3, .int (0 : Int32)), (4, .int (0 : Int32)), (5, .int (0 : Int32))] → W p l e (headSpec wsL_hangs ({ frames := 10, cells := 1014, slots := 6084, locals := 193 } : Room)).room s m ([.ref (b 0)] : List Value).toArray below meth c H locs 0 0 (MQ below (va_Qi (fun (r : Int32) (u : (Nat → Nat → Int32) × (Nat → Nat → Option Nat)) => res = (r, u)) (fun (u : (Nat → Nat → Int32) × (Nat → Nat → Option Nat)) t => va_P (dC, dI) vwCl (hW N ca b u.1 u.2 J) t.heap) A) ([.ref (b 0)] : List Value).toArray s 1014 6084 A) (F0 m 136 ls [.int p3]) := by
    intro H locs ls hP hS hl
    refine lv_istore (lv' := [(6, .int p3), (0, .ref (b 0)), (1, .int r1), (2, .int (0 : Int32)), (3, .int (0 : Int32)), (4, .int (0 : Int32)), (5, .int (0 : Int32))]) hx hb dL_hangs_136 hl (by decide) rfl (fun ls hl => ?_)
    refine lv_iconst (v := 0) hx hb dL_hangs_138 (by decide) ?_
    refine lv_istore (lv' := [(7, .int (0 : Int32)), (6, .int p3), (0, .ref (b 0)), (1, .int r1), (2, .int (0 : Int32)), (3, .int (0 : Int32)), (4, .int (0 : Int32)), (5, .int (0 : Int32))]) hx hb dL_hangs_139 hl (by decide) rfl (fun ls hl => ?_)
    obtain ⟨⟨p11, p12, p13, p14, I15, O16⟩, hv, h⟩ := hb_some h
    have K692 : ∀ (H : Heap) (locs : List Loc) (ls : Array Slot), va_P (dC, dI) vwCl (hW N ca b I15 O16 J) H → va_S A s.heap H locs → lv_has ls 11 [(0, .ref (b 0)), (1, .int r1), (2, .int p11), (3, .int p12), (4, .int p13), (5, .int (0 : Int32)), (6, .int p14)] → W p l e (headSpec wsL_hangs ({ frames := 10, cells := 1014, slots := 6084, locals := 193 } : Room)).room s m ([.ref (b 0)] : List Value).toArray below meth c H locs 864 5184 (MQ below (va_Qi (fun (r : Int32) (u : (Nat → Nat → Int32) × (Nat → Nat → Option Nat)) => res = (r, u)) (fun (u : (Nat → Nat → Int32) × (Nat → Nat → Option Nat)) t => va_P (dC, dI) vwCl (hW N ca b u.1 u.2 J) t.heap) A) ([.ref (b 0)] : List Value).toArray s 1014 6084 A) (F0 m 692 ls []) := by
      intro H locs ls hP hS hl
      refine lv_iconst (v := 0) hx hb dL_hangs_692 (by decide) ?_
      refine lv_istore (lv' := [(7, .int (0 : Int32)), (0, .ref (b 0)), (1, .int r1), (2, .int p11), (3, .int p12), (4, .int p13), (5, .int (0 : Int32)), (6, .int p14)]) hx hb dL_hangs_693 hl (by decide) rfl (fun ls hl => ?_)
      obtain ⟨p20, hv, h⟩ := hb_some h
      have K783 : ∀ (H : Heap) (locs : List Loc) (ls : Array Slot), va_P (dC, dI) vwCl (hW N ca b I15 O16 J) H → va_S A s.heap H locs → lv_has ls 11 [(0, .ref (b 0)), (1, .int r1), (2, .int p11), (3, .int p12), (4, .int p13), (6, .int p20)] → W p l e (headSpec wsL_hangs ({ frames := 10, cells := 1014, slots := 6084, locals := 193 } : Room)).room s m ([.ref (b 0)] : List Value).toArray below meth c H locs 1008 6048 (MQ below (va_Qi (fun (r : Int32) (u : (Nat → Nat → Int32) × (Nat → Nat → Option Nat)) => res = (r, u)) (fun (u : (Nat → Nat → Int32) × (Nat → Nat → Option Nat)) t => va_P (dC, dI) vwCl (hW N ca b u.1 u.2 J) t.heap) A) ([.ref (b 0)] : List Value).toArray s 1014 6084 A) (F0 m 783 ls []) := by
        intro H locs ls hP hS hl
        refine lv_aload_n hx hb dL_hangs_783 rfl (lv_at hl 0 rfl) ?_
        obtain ⟨q24, hcq24, h⟩ := hb_some h
        refine gcSW_i (As := [.ref (b 0)]) (rest := []) (BH := (fun (u : (Nat → Nat → Int32) × (Nat → Nat → Option Nat)) H => va_P (dC, dI) vwCl (hW N ca b u.1 u.2 J) H)) X hP hS (c_L_secondsToNext hlf hN hA I15 O16 J q24 hcq24) (vx_cwSW 1 X.ts gL_hangs_L_secondsToNext rfl rfl rfl (by decide +kernel) ⟨Nat.le_of_ble_eq_true rfl, Nat.le_of_ble_eq_true rfl⟩) rfl hl.1 rfl (Nat.le_of_ble_eq_true rfl) dL_hangs_784 ⟨Nat.le_of_ble_eq_true rfl, Nat.le_of_ble_eq_true rfl⟩ (fun r23 u9 H locs hw hP hS => ?_)
        obtain ⟨I21, O22⟩ := u9
        subst hw
        refine lv_istore (lv' := [(7, .int r23), (0, .ref (b 0)), (1, .int r1), (2, .int p11), (3, .int p12), (4, .int p13), (6, .int p20)]) hx hb dL_hangs_787 hl (by decide) rfl (fun ls hl => ?_)
        refine lv_aload_n hx hb dL_hangs_789 rfl (lv_at hl 1 rfl) ?_
        obtain ⟨q28, hcq28, h⟩ := hb_some h
        refine gcSW_i (As := [.ref (b 0)]) (rest := []) (BH := (fun (u : (Nat → Nat → Int32) × (Nat → Nat → Option Nat)) H => va_P (dC, dI) vwCl (hW N ca b u.1 u.2 J) H)) X hP hS (c_L_wouldWin hlf hN hA I21 O22 J q28 hcq28) (vx_cwSW 1 X.ts gL_hangs_L_wouldWin rfl rfl rfl (by decide +kernel) ⟨Nat.le_of_ble_eq_true rfl, Nat.le_of_ble_eq_true rfl⟩) rfl hl.1 rfl (Nat.le_of_ble_eq_true rfl) dL_hangs_790 ⟨Nat.le_of_ble_eq_true rfl, Nat.le_of_ble_eq_true rfl⟩ (fun r27 u9 H locs hw hP hS => ?_)
        obtain ⟨I25, O26⟩ := u9
        subst hw
        refine lv_istore (lv' := [(8, .int r27), (7, .int r23), (0, .ref (b 0)), (1, .int r1), (2, .int p11), (3, .int p12), (4, .int p13), (6, .int p20)]) hx hb dL_hangs_793 hl (by decide) rfl (fun ls hl => ?_)
        refine lv_iload hx hb dL_hangs_795 (lv_at hl 7 rfl) ?_
        refine lv_if_eq (tgt := 960) hx hb dL_hangs_797 (by decide) (fun c79 => ?_) (fun c79 => ?_)
        · have h := gif_t c79 h
          refine lv_iconst (v := 0) hx hb dL_hangs_960 (by decide) ?_
          refine W.widen (k := 1014) (n := 6084) (Nat.le_of_ble_eq_true rfl) (Nat.le_of_ble_eq_true rfl) ?_
          exact W.zret (ty := .boolean) hx hb hr (by decide) (fun t9 ht hW => ⟨⟨(0 : Int32), (I25, O26), rfl, (Option.some.inj h).symm, gEnd ht hP⟩, hS.F ht⟩) hS.2.2 dL_hangs_961 hlk
        · have h := gif_f c79 h
          refine lv_iload_n hx hb dL_hangs_800 rfl (lv_at hl 5 rfl) ?_
          refine lv_aload_n hx hb dL_hangs_801 rfl (lv_at hl 2 rfl) ?_
          obtain ⟨q30, hcq30, h⟩ := hb_some h
          refine gdV_i (As := []) (rest := [.int p12]) (BH := (fun (u : Unit) H => va_P (dC, dI) vwCl (hW N ca b I25 O26 J) H)) X hP hS (c_X7_arrived hN hA I25 O26 J q30 hcq30) (cwV 0 X.ts gL_hangs_X7_arrived rfl rfl rfl (by decide +kernel) ⟨Nat.le_of_ble_eq_true rfl, Nat.le_of_ble_eq_true rfl⟩) (gr7 X hP kc_0 (sk_in hN kc_0 (by decide))) rfl hl.1 rfl (Nat.le_of_ble_eq_true rfl) dL_hangs_802 ⟨Nat.le_of_ble_eq_true rfl, Nat.le_of_ble_eq_true rfl⟩ (fun r29 u9 H locs hw hP hS => ?_)
          have hw := hw.symm
          subst hw
          refine lv_icmp_ne (tgt := 960) hx hb dL_hangs_805 (by decide) (fun c78 => ?_) (fun c78 => ?_)
          · have h := gif_f c78 h
            refine lv_iconst (v := 0) hx hb dL_hangs_960 (by decide) ?_
            refine W.widen (k := 1014) (n := 6084) (Nat.le_of_ble_eq_true rfl) (Nat.le_of_ble_eq_true rfl) ?_
            exact W.zret (ty := .boolean) hx hb hr (by decide) (fun t9 ht hW => ⟨⟨(0 : Int32), (I25, O26), rfl, (Option.some.inj h).symm, gEnd ht hP⟩, hS.F ht⟩) hS.2.2 dL_hangs_961 hlk
          · have h := gif_t c78 h
            refine lv_iload hx hb dL_hangs_808 (lv_at hl 6 rfl) ?_
            refine lv_iconst (v := 2) hx hb dL_hangs_810 (by decide) ?_
            refine lv_irem hx hb dL_hangs_811 (by decide) ?_
            refine lv_if_ne (tgt := 960) hx hb dL_hangs_812 (by decide) (fun c77 => ?_) (fun c77 => ?_)
            · have h := gif_f c77 h
              refine lv_iconst (v := 0) hx hb dL_hangs_960 (by decide) ?_
              refine W.widen (k := 1014) (n := 6084) (Nat.le_of_ble_eq_true rfl) (Nat.le_of_ble_eq_true rfl) ?_
              exact W.zret (ty := .boolean) hx hb hr (by decide) (fun t9 ht hW => ⟨⟨(0 : Int32), (I25, O26), rfl, (Option.some.inj h).symm, gEnd ht hP⟩, hS.F ht⟩) hS.2.2 dL_hangs_961 hlk
            · have h := gif_t c77 h
              refine lv_iload_n hx hb dL_hangs_815 rfl (lv_at hl 4 rfl) ?_
              refine lv_aload_n hx hb dL_hangs_816 rfl (lv_at hl 2 rfl) ?_
              obtain ⟨q32, hcq32, h⟩ := hb_some h
              refine gdV_i (As := []) (rest := [.int p11]) (BH := (fun (u : Unit) H => va_P (dC, dI) vwCl (hW N ca b I25 O26 J) H)) X hP hS (c_X7_flownByBirds hN hA I25 O26 J q32 hcq32) (cwV 0 X.ts gL_hangs_X7_flownByBirds rfl rfl rfl (by decide +kernel) ⟨Nat.le_of_ble_eq_true rfl, Nat.le_of_ble_eq_true rfl⟩) (gr7 X hP kc_0 (sk_in hN kc_0 (by decide))) rfl hl.1 rfl (Nat.le_of_ble_eq_true rfl) dL_hangs_817 ⟨Nat.le_of_ble_eq_true rfl, Nat.le_of_ble_eq_true rfl⟩ (fun r31 u9 H locs hw hP hS => ?_)
              have hw := hw.symm
              subst hw
              refine lv_icmp_ne (tgt := 960) hx hb dL_hangs_820 (by decide) (fun c76 => ?_) (fun c76 => ?_)
              · have h := gif_f c76 h
                refine lv_iconst (v := 0) hx hb dL_hangs_960 (by decide) ?_
                refine W.widen (k := 1014) (n := 6084) (Nat.le_of_ble_eq_true rfl) (Nat.le_of_ble_eq_true rfl) ?_
                exact W.zret (ty := .boolean) hx hb hr (by decide) (fun t9 ht hW => ⟨⟨(0 : Int32), (I25, O26), rfl, (Option.some.inj h).symm, gEnd ht hP⟩, hS.F ht⟩) hS.2.2 dL_hangs_961 hlk
              · have h := gif_t c76 h
                refine lv_iload_n hx hb dL_hangs_823 rfl (lv_at hl 4 rfl) ?_
                refine lv_aload_n hx hb dL_hangs_824 rfl (lv_at hl 2 rfl) ?_
                obtain ⟨q34, hcq34, h⟩ := hb_some h
                refine gdV_i (As := []) (rest := [.int p11]) (BH := (fun (u : Unit) H => va_P (dC, dI) vwCl (hW N ca b I25 O26 J) H)) X hP hS (c_X7_flownByAccount hN hA I25 O26 J q34 hcq34) (cwV 0 X.ts gL_hangs_X7_flownByAccount rfl rfl rfl (by decide +kernel) ⟨Nat.le_of_ble_eq_true rfl, Nat.le_of_ble_eq_true rfl⟩) (gr7 X hP kc_0 (sk_in hN kc_0 (by decide))) rfl hl.1 rfl (Nat.le_of_ble_eq_true rfl) dL_hangs_825 ⟨Nat.le_of_ble_eq_true rfl, Nat.le_of_ble_eq_true rfl⟩ (fun r33 u9 H locs hw hP hS => ?_)
                have hw := hw.symm
                subst hw
                refine lv_icmp_ne (tgt := 960) hx hb dL_hangs_828 (by decide) (fun c75 => ?_) (fun c75 => ?_)
                · have h := gif_f c75 h
                  refine lv_iconst (v := 0) hx hb dL_hangs_960 (by decide) ?_
                  refine W.widen (k := 1014) (n := 6084) (Nat.le_of_ble_eq_true rfl) (Nat.le_of_ble_eq_true rfl) ?_
                  exact W.zret (ty := .boolean) hx hb hr (by decide) (fun t9 ht hW => ⟨⟨(0 : Int32), (I25, O26), rfl, (Option.some.inj h).symm, gEnd ht hP⟩, hS.F ht⟩) hS.2.2 dL_hangs_961 hlk
                · have h := gif_t c75 h
                  refine lv_aload_n hx hb dL_hangs_831 rfl (lv_at hl 2 rfl) ?_
                  obtain ⟨q36, hcq36, h⟩ := hb_some h
                  refine gdV_d (As := []) (rest := []) (BH := (fun (u : Unit) H => va_P (dC, dI) vwCl (hW N ca b I25 O26 J) H)) X hP hS (c_X7_meanFlown hN hA I25 O26 J q36 hcq36) (cwV 0 X.ts gL_hangs_X7_meanFlown rfl rfl rfl (by decide +kernel) ⟨Nat.le_of_ble_eq_true rfl, Nat.le_of_ble_eq_true rfl⟩) (gr7 X hP kc_0 (sk_in hN kc_0 (by decide))) rfl hl.1 rfl (Nat.le_of_ble_eq_true rfl) dL_hangs_832 ⟨Nat.le_of_ble_eq_true rfl, Nat.le_of_ble_eq_true rfl⟩ (fun r35 u9 H locs hw hP hS => ?_)
                  have hw := hw.symm
                  subst hw
                  refine lv_iload_n hx hb dL_hangs_835 rfl (lv_at hl 3 rfl) ?_
                  obtain ⟨p37, hv, h⟩ := hb_some h
                  have K848 : ∀ (H : Heap) (locs : List Loc) (ls : Array Slot), va_P (dC, dI) vwCl (hW N ca b I25 O26 J) H → va_S A s.heap H locs → lv_has ls 11 [(0, .ref (b 0)), (1, .int r1), (7, .int r23), (8, .int r27)] → W p l e (headSpec wsL_hangs ({ frames := 10, cells := 1014, slots := 6084, locals := 193 } : Room)).room s m ([.ref (b 0)] : List Value).toArray below meth c H locs 1010 6060 (MQ below (va_Qi (fun (r : Int32) (u : (Nat → Nat → Int32) × (Nat → Nat → Option Nat)) => res = (r, u)) (fun (u : (Nat → Nat → Int32) × (Nat → Nat → Option Nat)) t => va_P (dC, dI) vwCl (hW N ca b u.1 u.2 J) t.heap) A) ([.ref (b 0)] : List Value).toArray s 1014 6084 A) (F0 m 848 ls [.double p37, .double r35]) := by
                    intro H locs ls hP hS hl
                    refine lv_dcmp hx hb dL_hangs_848 ?_
                    refine lv_if_ne (tgt := 960) hx hb dL_hangs_849 (by decide) (fun c73 => ?_) (fun c73 => ?_)
                    · have h := gif_f c73 h
                      refine lv_iconst (v := 0) hx hb dL_hangs_960 (by decide) ?_
                      refine W.widen (k := 1014) (n := 6084) (Nat.le_of_ble_eq_true rfl) (Nat.le_of_ble_eq_true rfl) ?_
                      exact W.zret (ty := .boolean) hx hb hr (by decide) (fun t9 ht hW => ⟨⟨(0 : Int32), (I25, O26), rfl, (Option.some.inj h).symm, gEnd ht hP⟩, hS.F ht⟩) hS.2.2 dL_hangs_961 hlk
                    · have h := gif_t c73 h
                      refine lv_iload hx hb dL_hangs_852 (lv_at hl 2 rfl) ?_
                      refine lv_bipush (v := (-4)) hx hb dL_hangs_854 (by decide) ?_
                      obtain ⟨j38, ej38, h⟩ := hlet_ex h
                      have K879 : ∀ (H : Heap) (locs : List Loc) (ls : Array Slot), j38 () = some res → va_P (dC, dI) vwCl (hW N ca b I25 O26 J) H → va_S A s.heap H locs → lv_has ls 11 [(0, .ref (b 0)), (1, .int r1), (7, .int r23), (8, .int r27)] → W p l e (headSpec wsL_hangs ({ frames := 10, cells := 1014, slots := 6084, locals := 193 } : Room)).room s m ([.ref (b 0)] : List Value).toArray below meth c H locs 1010 6060 (MQ below (va_Qi (fun (r : Int32) (u : (Nat → Nat → Int32) × (Nat → Nat → Option Nat)) => res = (r, u)) (fun (u : (Nat → Nat → Int32) × (Nat → Nat → Option Nat)) t => va_P (dC, dI) vwCl (hW N ca b u.1 u.2 J) t.heap) A) ([.ref (b 0)] : List Value).toArray s 1014 6084 A) (F0 m 879 ls []) := by
                        intro H locs ls h hP hS hl
                        rw [ej38] at h
                        refine lv_iload hx hb dL_hangs_879 (lv_at hl 3 rfl) ?_
                        refine lv_bipush (v := (-4)) hx hb dL_hangs_881 (by decide) ?_
                        obtain ⟨j39, ej39, h⟩ := hlet_ex h
                        have K909 : ∀ (H : Heap) (locs : List Loc) (ls : Array Slot), j39 () = some res → va_P (dC, dI) vwCl (hW N ca b I25 O26 J) H → va_S A s.heap H locs → lv_has ls 11 [(0, .ref (b 0)), (1, .int r1), (7, .int r23)] → W p l e (headSpec wsL_hangs ({ frames := 10, cells := 1014, slots := 6084, locals := 193 } : Room)).room s m ([.ref (b 0)] : List Value).toArray below meth c H locs 1010 6060 (MQ below (va_Qi (fun (r : Int32) (u : (Nat → Nat → Int32) × (Nat → Nat → Option Nat)) => res = (r, u)) (fun (u : (Nat → Nat → Int32) × (Nat → Nat → Option Nat)) t => va_P (dC, dI) vwCl (hW N ca b u.1 u.2 J) t.heap) A) ([.ref (b 0)] : List Value).toArray s 1014 6084 A) (F0 m 909 ls []) := by
                          intro H locs ls h hP hS hl
                          rw [ej39] at h
                          refine lv_aload_n hx hb dL_hangs_909 rfl (lv_at hl 0 rfl) ?_
                          obtain ⟨q41, hcq41, h⟩ := hb_some h
                          refine gdV_i (As := []) (rest := []) (BH := (fun (u : Unit) H => va_P (dC, dI) vwCl (hW N ca b I25 O26 J) H)) X hP hS (c_X7_isRacing hN hA I25 O26 J q41 hcq41) (cwV 0 X.ts gL_hangs_X7_isRacing rfl rfl rfl (by decide +kernel) ⟨Nat.le_of_ble_eq_true rfl, Nat.le_of_ble_eq_true rfl⟩) (gr7 X hP kc_0 (sk_in hN kc_0 (by decide))) rfl hl.1 rfl (Nat.le_of_ble_eq_true rfl) dL_hangs_910 ⟨Nat.le_of_ble_eq_true rfl, Nat.le_of_ble_eq_true rfl⟩ (fun r40 u9 H locs hw hP hS => ?_)
                          have hw := hw.symm
                          subst hw
                          obtain ⟨j44, ej44, h⟩ := hlet_ex h
                          have K933 : ∀ (I42 : Nat → Nat → Int32) (O43 : Nat → Nat → Option Nat) (H : Heap) (locs : List Loc) (ls : Array Slot), j44 I42 O43 = some res → va_P (dC, dI) vwCl (hW N ca b I42 O43 J) H → va_S A s.heap H locs → lv_has ls 11 [(0, .ref (b 0)), (1, .int r1)] → W p l e (headSpec wsL_hangs ({ frames := 10, cells := 1014, slots := 6084, locals := 193 } : Room)).room s m ([.ref (b 0)] : List Value).toArray below meth c H locs 1012 6072 (MQ below (va_Qi (fun (r : Int32) (u : (Nat → Nat → Int32) × (Nat → Nat → Option Nat)) => res = (r, u)) (fun (u : (Nat → Nat → Int32) × (Nat → Nat → Option Nat)) t => va_P (dC, dI) vwCl (hW N ca b u.1 u.2 J) t.heap) A) ([.ref (b 0)] : List Value).toArray s 1014 6084 A) (F0 m 933 ls []) := by
                            intro I42 O43 H locs ls h hP hS hl
                            rw [ej44] at h
                            refine lv_aload_n hx hb dL_hangs_933 rfl (lv_at hl 0 rfl) ?_
                            refine lv_iload_n hx hb dL_hangs_934 rfl (lv_at hl 1 rfl) ?_
                            obtain ⟨q46, hcq46, h⟩ := hb_some h
                            refine gcSW_i (As := [.ref (b 0), .int r1]) (rest := []) (BH := (fun (u : Unit) H => va_P (dC, dI) vwCl (hW N ca b I42 O43 J) H)) X hP hS (c_L_flown hlf hN hA I42 O43 J r1 q46 hcq46) (vx_cwSW 2 X.ts gL_hangs_L_flown rfl rfl rfl (by decide +kernel) ⟨Nat.le_of_ble_eq_true rfl, Nat.le_of_ble_eq_true rfl⟩) rfl hl.1 rfl (Nat.le_of_ble_eq_true rfl) dL_hangs_935 ⟨Nat.le_of_ble_eq_true rfl, Nat.le_of_ble_eq_true rfl⟩ (fun r45 u9 H locs hw hP hS => ?_)
                            have hw := hw.symm
                            subst hw
                            refine lv_bipush (v := (-2)) hx hb dL_hangs_938 (by decide) ?_
                            refine lv_icmp_ne (tgt := 960) hx hb dL_hangs_940 (by decide) (fun c52 => ?_) (fun c52 => ?_)
                            · have h := gif_f c52 h
                              refine lv_iconst (v := 0) hx hb dL_hangs_960 (by decide) ?_
                              refine W.widen (k := 1014) (n := 6084) (Nat.le_of_ble_eq_true rfl) (Nat.le_of_ble_eq_true rfl) ?_
                              exact W.zret (ty := .boolean) hx hb hr (by decide) (fun t9 ht hW => ⟨⟨(0 : Int32), (I42, O43), rfl, (Option.some.inj h).symm, gEnd ht hP⟩, hS.F ht⟩) hS.2.2 dL_hangs_961 hlk
                            · have h := gif_t c52 h
                              refine lv_aload_n hx hb dL_hangs_943 rfl (lv_at hl 0 rfl) ?_
                              refine lv_aload_n hx hb dL_hangs_944 rfl (lv_at hl 0 rfl) ?_
                              obtain ⟨q48, hcq48, h⟩ := hb_some h
                              refine gdV_i (As := []) (rest := [.ref (b 0)]) (BH := (fun (u : Unit) H => va_P (dC, dI) vwCl (hW N ca b I42 O43 J) H)) X hP hS (c_X7_arrived hN hA I42 O43 J q48 hcq48) (cwV 0 X.ts gL_hangs_X7_arrived rfl rfl rfl (by decide +kernel) ⟨Nat.le_of_ble_eq_true rfl, Nat.le_of_ble_eq_true rfl⟩) (gr7 X hP kc_0 (sk_in hN kc_0 (by decide))) rfl hl.1 rfl (Nat.le_of_ble_eq_true rfl) dL_hangs_945 ⟨Nat.le_of_ble_eq_true rfl, Nat.le_of_ble_eq_true rfl⟩ (fun r47 u9 H locs hw hP hS => ?_)
                              have hw := hw.symm
                              subst hw
                              obtain ⟨q50, hcq50, h⟩ := hb_some h
                              refine gcSW_i (As := [.ref (b 0), .int r47]) (rest := []) (BH := (fun (u : Unit) H => va_P (dC, dI) vwCl (hW N ca b I42 O43 J) H)) X hP hS (c_L_arrivedAt hlf hN hA I42 O43 J r47 q50 hcq50) (vx_cwSW 2 X.ts gL_hangs_L_arrivedAt rfl rfl rfl (by decide +kernel) ⟨Nat.le_of_ble_eq_true rfl, Nat.le_of_ble_eq_true rfl⟩) rfl hl.1 rfl (Nat.le_of_ble_eq_true rfl) dL_hangs_948 ⟨Nat.le_of_ble_eq_true rfl, Nat.le_of_ble_eq_true rfl⟩ (fun r49 u9 H locs hw hP hS => ?_)
                              have hw := hw.symm
                              subst hw
                              refine lv_bipush (v := (-2)) hx hb dL_hangs_951 (by decide) ?_
                              refine lv_icmp_ne (tgt := 960) hx hb dL_hangs_953 (by decide) (fun c51 => ?_) (fun c51 => ?_)
                              · have h := gif_f c51 h
                                refine lv_iconst (v := 0) hx hb dL_hangs_960 (by decide) ?_
                                refine W.widen (k := 1014) (n := 6084) (Nat.le_of_ble_eq_true rfl) (Nat.le_of_ble_eq_true rfl) ?_
                                exact W.zret (ty := .boolean) hx hb hr (by decide) (fun t9 ht hW => ⟨⟨(0 : Int32), (I42, O43), rfl, (Option.some.inj h).symm, gEnd ht hP⟩, hS.F ht⟩) hS.2.2 dL_hangs_961 hlk
                              · have h := gif_t c51 h
                                refine lv_iconst (v := 1) hx hb dL_hangs_956 (by decide) ?_
                                refine lv_goto (tgt := 961) hx hb dL_hangs_957 (by decide) ?_
                                refine W.widen (k := 1014) (n := 6084) (Nat.le_of_ble_eq_true rfl) (Nat.le_of_ble_eq_true rfl) ?_
                                exact W.zret (ty := .boolean) hx hb hr (by decide) (fun t9 ht hW => ⟨⟨(1 : Int32), (I42, O43), rfl, (Option.some.inj h).symm, gEnd ht hP⟩, hS.F ht⟩) hS.2.2 dL_hangs_961 hlk
                          refine lv_if_ne (tgt := 933) hx hb dL_hangs_913 (by decide) (fun c59 => ?_) (fun c59 => ?_)
                          · have h := gif_f c59 h
                            refine W.widen (k := 1012) (n := 6072) (Nat.le_of_ble_eq_true rfl) (Nat.le_of_ble_eq_true rfl) ?_
                            exact K933 _ _ _ _ _ h hP hS (lv_sub hl [0, 1] rfl)
                          · have h := gif_t c59 h
                            refine lv_iload hx hb dL_hangs_916 (lv_at hl 2 rfl) ?_
                            refine lv_bipush (v := (-4)) hx hb dL_hangs_918 (by decide) ?_
                            refine lv_icmp_ne (tgt := 960) hx hb dL_hangs_920 (by decide) (fun c58 => ?_) (fun c58 => ?_)
                            · have h := gif_f c58 h
                              refine lv_iconst (v := 0) hx hb dL_hangs_960 (by decide) ?_
                              refine W.widen (k := 1014) (n := 6084) (Nat.le_of_ble_eq_true rfl) (Nat.le_of_ble_eq_true rfl) ?_
                              exact W.zret (ty := .boolean) hx hb hr (by decide) (fun t9 ht hW => ⟨⟨(0 : Int32), (I25, O26), rfl, (Option.some.inj h).symm, gEnd ht hP⟩, hS.F ht⟩) hS.2.2 dL_hangs_961 hlk
                            · have h := gif_t c58 h
                              refine lv_aload_n hx hb dL_hangs_923 rfl (lv_at hl 0 rfl) ?_
                              refine lv_iconst (v := 1) hx hb dL_hangs_924 (by decide) ?_
                              obtain ⟨q56, hcq56, h⟩ := hb_some h
                              refine gcSW_i (As := [.ref (b 0), .int (1 : Int32)]) (rest := []) (BH := (fun (u : (Nat → Nat → Int32) × (Nat → Nat → Option Nat)) H => va_P (dC, dI) vwCl (hW N ca b u.1 u.2 J) H)) X hP hS (c_L_pass hlf hN hA I25 O26 J (1 : Int32) q56 hcq56) (vx_cwSW 2 X.ts gL_hangs_L_pass rfl rfl rfl (by decide +kernel) ⟨Nat.le_of_ble_eq_true rfl, Nat.le_of_ble_eq_true rfl⟩) rfl hl.1 rfl (Nat.le_of_ble_eq_true rfl) dL_hangs_925 ⟨Nat.le_of_ble_eq_true rfl, Nat.le_of_ble_eq_true rfl⟩ (fun r55 u9 H locs hw hP hS => ?_)
                              obtain ⟨I53, O54⟩ := u9
                              subst hw
                              refine lv_bipush (v := (-4)) hx hb dL_hangs_928 (by decide) ?_
                              refine lv_icmp_ne (tgt := 960) hx hb dL_hangs_930 (by decide) (fun c57 => ?_) (fun c57 => ?_)
                              · have h := gif_f c57 h
                                refine lv_iconst (v := 0) hx hb dL_hangs_960 (by decide) ?_
                                refine W.widen (k := 1014) (n := 6084) (Nat.le_of_ble_eq_true rfl) (Nat.le_of_ble_eq_true rfl) ?_
                                exact W.zret (ty := .boolean) hx hb hr (by decide) (fun t9 ht hW => ⟨⟨(0 : Int32), (I53, O54), rfl, (Option.some.inj h).symm, gEnd ht hP⟩, hS.F ht⟩) hS.2.2 dL_hangs_961 hlk
                              · have h := gif_t c57 h
                                exact K933 _ _ _ _ _ h hP hS (lv_sub hl [0, 1] rfl)
                        refine lv_icmp_eq (tgt := 909) hx hb dL_hangs_883 (by decide) (fun c66 => ?_) (fun c66 => ?_)
                        · have h := gif_t c66 h
                          exact K909 _ _ _ h hP hS (lv_sub hl [0, 1, 2] rfl)
                        · have h := gif_f c66 h
                          refine lv_iload hx hb dL_hangs_886 (lv_at hl 2 rfl) ?_
                          refine lv_if_le (tgt := 960) hx hb dL_hangs_888 (by decide) (fun c65 => ?_) (fun c65 => ?_)
                          · have h := gif_t c65 h
                            refine lv_iconst (v := 0) hx hb dL_hangs_960 (by decide) ?_
                            refine W.widen (k := 1014) (n := 6084) (Nat.le_of_ble_eq_true rfl) (Nat.le_of_ble_eq_true rfl) ?_
                            exact W.zret (ty := .boolean) hx hb hr (by decide) (fun t9 ht hW => ⟨⟨(0 : Int32), (I25, O26), rfl, (Option.some.inj h).symm, gEnd ht hP⟩, hS.F ht⟩) hS.2.2 dL_hangs_961 hlk
                          · have h := gif_f c65 h
                            refine lv_iload hx hb dL_hangs_891 (lv_at hl 3 rfl) ?_
                            refine lv_if_lt (tgt := 960) hx hb dL_hangs_893 (by decide) (fun c64 => ?_) (fun c64 => ?_)
                            · have h := gif_t c64 h
                              refine lv_iconst (v := 0) hx hb dL_hangs_960 (by decide) ?_
                              refine W.widen (k := 1014) (n := 6084) (Nat.le_of_ble_eq_true rfl) (Nat.le_of_ble_eq_true rfl) ?_
                              exact W.zret (ty := .boolean) hx hb hr (by decide) (fun t9 ht hW => ⟨⟨(0 : Int32), (I25, O26), rfl, (Option.some.inj h).symm, gEnd ht hP⟩, hS.F ht⟩) hS.2.2 dL_hangs_961 hlk
                            · have h := gif_f c64 h
                              refine lv_iload hx hb dL_hangs_896 (lv_at hl 3 rfl) ?_
                              refine lv_iload_n hx hb dL_hangs_898 rfl (lv_at hl 1 rfl) ?_
                              refine lv_icmp_ge (tgt := 960) hx hb dL_hangs_899 (by decide) (fun c63 => ?_) (fun c63 => ?_)
                              · have h := gif_t c63 h
                                refine lv_iconst (v := 0) hx hb dL_hangs_960 (by decide) ?_
                                refine W.widen (k := 1014) (n := 6084) (Nat.le_of_ble_eq_true rfl) (Nat.le_of_ble_eq_true rfl) ?_
                                exact W.zret (ty := .boolean) hx hb hr (by decide) (fun t9 ht hW => ⟨⟨(0 : Int32), (I25, O26), rfl, (Option.some.inj h).symm, gEnd ht hP⟩, hS.F ht⟩) hS.2.2 dL_hangs_961 hlk
                              · have h := gif_f c63 h
                                refine lv_aload_n hx hb dL_hangs_902 rfl (lv_at hl 0 rfl) ?_
                                obtain ⟨q61, hcq61, h⟩ := hb_some h
                                refine gdV_i (As := []) (rest := []) (BH := (fun (u : Unit) H => va_P (dC, dI) vwCl (hW N ca b I25 O26 J) H)) X hP hS (c_X7_arrived hN hA I25 O26 J q61 hcq61) (cwV 0 X.ts gL_hangs_X7_arrived rfl rfl rfl (by decide +kernel) ⟨Nat.le_of_ble_eq_true rfl, Nat.le_of_ble_eq_true rfl⟩) (gr7 X hP kc_0 (sk_in hN kc_0 (by decide))) rfl hl.1 rfl (Nat.le_of_ble_eq_true rfl) dL_hangs_903 ⟨Nat.le_of_ble_eq_true rfl, Nat.le_of_ble_eq_true rfl⟩ (fun r60 u9 H locs hw hP hS => ?_)
                                have hw := hw.symm
                                subst hw
                                refine lv_if_ne (tgt := 960) hx hb dL_hangs_906 (by decide) (fun c62 => ?_) (fun c62 => ?_)
                                · have h := gif_f c62 h
                                  refine lv_iconst (v := 0) hx hb dL_hangs_960 (by decide) ?_
                                  refine W.widen (k := 1014) (n := 6084) (Nat.le_of_ble_eq_true rfl) (Nat.le_of_ble_eq_true rfl) ?_
                                  exact W.zret (ty := .boolean) hx hb hr (by decide) (fun t9 ht hW => ⟨⟨(0 : Int32), (I25, O26), rfl, (Option.some.inj h).symm, gEnd ht hP⟩, hS.F ht⟩) hS.2.2 dL_hangs_961 hlk
                                · have h := gif_t c62 h
                                  exact K909 _ _ _ h hP hS (lv_sub hl [0, 1, 2] rfl)
                      refine lv_icmp_eq (tgt := 879) hx hb dL_hangs_856 (by decide) (fun c72 => ?_) (fun c72 => ?_)
                      · have h := gif_t c72 h
                        exact K879 _ _ _ h hP hS (lv_sub hl [0, 1, 2, 3] rfl)
                      · have h := gif_f c72 h
                        refine lv_aload_n hx hb dL_hangs_859 rfl (lv_at hl 0 rfl) ?_
                        obtain ⟨q68, hcq68, h⟩ := hb_some h
                        refine gdV_i (As := []) (rest := []) (BH := (fun (u : Unit) H => va_P (dC, dI) vwCl (hW N ca b I25 O26 J) H)) X hP hS (c_X7_isRacing hN hA I25 O26 J q68 hcq68) (cwV 0 X.ts gL_hangs_X7_isRacing rfl rfl rfl (by decide +kernel) ⟨Nat.le_of_ble_eq_true rfl, Nat.le_of_ble_eq_true rfl⟩) (gr7 X hP kc_0 (sk_in hN kc_0 (by decide))) rfl hl.1 rfl (Nat.le_of_ble_eq_true rfl) dL_hangs_860 ⟨Nat.le_of_ble_eq_true rfl, Nat.le_of_ble_eq_true rfl⟩ (fun r67 u9 H locs hw hP hS => ?_)
                        have hw := hw.symm
                        subst hw
                        refine lv_if_eq (tgt := 960) hx hb dL_hangs_863 (by decide) (fun c71 => ?_) (fun c71 => ?_)
                        · have h := gif_t c71 h
                          refine lv_iconst (v := 0) hx hb dL_hangs_960 (by decide) ?_
                          refine W.widen (k := 1014) (n := 6084) (Nat.le_of_ble_eq_true rfl) (Nat.le_of_ble_eq_true rfl) ?_
                          exact W.zret (ty := .boolean) hx hb hr (by decide) (fun t9 ht hW => ⟨⟨(0 : Int32), (I25, O26), rfl, (Option.some.inj h).symm, gEnd ht hP⟩, hS.F ht⟩) hS.2.2 dL_hangs_961 hlk
                        · have h := gif_f c71 h
                          refine lv_iload hx hb dL_hangs_866 (lv_at hl 2 rfl) ?_
                          refine lv_if_le (tgt := 960) hx hb dL_hangs_868 (by decide) (fun c70 => ?_) (fun c70 => ?_)
                          · have h := gif_t c70 h
                            refine lv_iconst (v := 0) hx hb dL_hangs_960 (by decide) ?_
                            refine W.widen (k := 1014) (n := 6084) (Nat.le_of_ble_eq_true rfl) (Nat.le_of_ble_eq_true rfl) ?_
                            exact W.zret (ty := .boolean) hx hb hr (by decide) (fun t9 ht hW => ⟨⟨(0 : Int32), (I25, O26), rfl, (Option.some.inj h).symm, gEnd ht hP⟩, hS.F ht⟩) hS.2.2 dL_hangs_961 hlk
                          · have h := gif_f c70 h
                            refine lv_iload hx hb dL_hangs_871 (lv_at hl 2 rfl) ?_
                            refine lv_sipush (v := 2000) hx hb dL_hangs_873 (by decide) ?_
                            refine lv_icmp_gt (tgt := 960) hx hb dL_hangs_876 (by decide) (fun c69 => ?_) (fun c69 => ?_)
                            · have h := gif_t c69 h
                              refine lv_iconst (v := 0) hx hb dL_hangs_960 (by decide) ?_
                              refine W.widen (k := 1014) (n := 6084) (Nat.le_of_ble_eq_true rfl) (Nat.le_of_ble_eq_true rfl) ?_
                              exact W.zret (ty := .boolean) hx hb hr (by decide) (fun t9 ht hW => ⟨⟨(0 : Int32), (I25, O26), rfl, (Option.some.inj h).symm, gEnd ht hP⟩, hS.F ht⟩) hS.2.2 dL_hangs_961 hlk
                            · have h := gif_f c69 h
                              exact K879 _ _ _ h hP hS (lv_sub hl [0, 1, 2, 3] rfl)
                  have h := hv
                  refine lv_if_ne (tgt := 843) hx hb dL_hangs_836 (by decide) (fun c74 => ?_) (fun c74 => ?_)
                  · have h := gif_f c74 h
                    refine lv_iload_n hx hb dL_hangs_843 rfl (lv_at hl 4 rfl) ?_
                    refine lv_i2d hx hb dL_hangs_844 ?_
                    refine lv_iload_n hx hb dL_hangs_845 rfl (lv_at hl 3 rfl) ?_
                    refine lv_i2d hx hb dL_hangs_846 ?_
                    obtain ⟨hgn, h⟩ := hg_some h
                    refine lv_ddiv hx hb dL_hangs_847 (gnn_of hgn) ?_
                    cases h
                    exact K848 _ _ _ hP hS (lv_sub hl [2, 3, 1, 0] rfl)
                  · have h := gif_t c74 h
                    refine lv_dconst0 hx hb dL_hangs_839 ?_
                    refine lv_goto (tgt := 848) hx hb dL_hangs_840 (by decide) ?_
                    cases h
                    exact K848 _ _ _ hP hS (lv_sub hl [2, 3, 1, 0] rfl)
      have hL695 : ∀ (fuel : Nat) (p17 : Int32) (p18 : Int32) (p19 : Int32) (cn695 sn695 : Nat) (H : Heap) (locs : List Loc) (ls : Array Slot), cn695 + 9 * fuel ≤ 1008 → sn695 + 54 * fuel ≤ 6048 → f_L_hangs_L695 I15 fuel p17 p18 p19 = some p20 → va_P (dC, dI) vwCl (hW N ca b I15 O16 J) H → va_S A s.heap H locs → lv_has ls 11 [(0, .ref (b 0)), (1, .int r1), (2, .int p11), (3, .int p12), (4, .int p13), (5, .int p17), (6, .int p18), (7, .int p19)] → W p l e (headSpec wsL_hangs ({ frames := 10, cells := 1014, slots := 6084, locals := 193 } : Room)).room s m ([.ref (b 0)] : List Value).toArray below meth c H locs cn695 sn695 (MQ below (va_Qi (fun (r : Int32) (u : (Nat → Nat → Int32) × (Nat → Nat → Option Nat)) => res = (r, u)) (fun (u : (Nat → Nat → Int32) × (Nat → Nat → Option Nat)) t => va_P (dC, dI) vwCl (hW N ca b u.1 u.2 J) t.heap) A) ([.ref (b 0)] : List Value).toArray s 1014 6084 A) (F0 m 695 ls []) := by
        intro fuel
        induction fuel with
        | zero =>
          intro p17 p18 p19 cn695 sn695 H locs ls hcn695 hsn695 h hP hS hl
          rw [f_L_hangs_L695] at h
          cases h
        | succ fuel ih =>
          intro p17 p18 p19 cn695 sn695 H locs ls hcn695 hsn695 h hP hS hl
          rw [f_L_hangs_L695] at h
          refine lv_iload hx hb dL_hangs_695 (lv_at hl 7 rfl) ?_
          refine lv_aload_n hx hb dL_hangs_697 rfl (lv_at hl 0 rfl) ?_
          obtain ⟨q81, hcq81, h⟩ := hb_some h
          refine gdV_i (As := []) (rest := [.int p19]) (BH := (fun (u : Unit) H => va_P (dC, dI) vwCl (hW N ca b I15 O16 J) H)) X hP hS (c_X7_arrived hN hA I15 O16 J q81 hcq81) (cwV 0 X.ts gL_hangs_X7_arrived rfl rfl rfl (by decide +kernel) ⟨Nat.le_of_ble_eq_true rfl, Nat.le_of_ble_eq_true rfl⟩) (gr7 X hP kc_0 (sk_in hN kc_0 (by decide))) rfl hl.1 rfl (Nat.le_of_ble_eq_true rfl) dL_hangs_698 ⟨by omega, by omega⟩ (fun r80 u9 H locs hw hP hS => ?_)
          have hw := hw.symm
          subst hw
          refine lv_icmp_ge (tgt := 783) hx hb dL_hangs_701 (by decide) (fun c103 => ?_) (fun c103 => ?_)
          · have h := gif_t c103 h
            refine W.widen (k := 1008) (n := 6048) (by omega) (by omega) ?_
            cases h
            exact K783 _ _ _ hP hS (lv_sub hl [0, 1, 2, 3, 4, 6] rfl)
          · have h := gif_f c103 h
            refine lv_iload hx hb dL_hangs_704 (lv_at hl 6 rfl) ?_
            refine lv_if_eq (tgt := 783) hx hb dL_hangs_706 (by decide) (fun c102 => ?_) (fun c102 => ?_)
            · have h := gif_t c102 h
              refine W.widen (k := 1008) (n := 6048) (by omega) (by omega) ?_
              cases h
              exact K783 _ _ _ hP hS (lv_sub hl [0, 1, 2, 3, 4, 6] rfl)
            · have h := gif_f c102 h
              refine lv_aload_n hx hb dL_hangs_709 rfl (lv_at hl 0 rfl) ?_
              refine lv_iload hx hb dL_hangs_710 (lv_at hl 7 rfl) ?_
              obtain ⟨q83, hcq83, h⟩ := hb_some h
              refine gcSW_i (As := [.ref (b 0), .int p19]) (rest := []) (BH := (fun (u : Unit) H => va_P (dC, dI) vwCl (hW N ca b I15 O16 J) H)) X hP hS (c_L_arrivedAt hlf hN hA I15 O16 J p19 q83 hcq83) (vx_cwSW 2 X.ts gL_hangs_L_arrivedAt rfl rfl rfl (by decide +kernel) ⟨Nat.le_of_ble_eq_true rfl, Nat.le_of_ble_eq_true rfl⟩) rfl hl.1 rfl (Nat.le_of_ble_eq_true rfl) dL_hangs_712 ⟨by omega, by omega⟩ (fun r82 u9 H locs hw hP hS => ?_)
              have hw := hw.symm
              subst hw
              refine lv_istore (lv' := [(8, .int r82), (0, .ref (b 0)), (1, .int r1), (2, .int p11), (3, .int p12), (4, .int p13), (5, .int p17), (6, .int p18), (7, .int p19)]) hx hb dL_hangs_715 hl (by decide) rfl (fun ls hl => ?_)
              refine lv_aload_n hx hb dL_hangs_717 rfl (lv_at hl 1 rfl) ?_
              refine lv_iload hx hb dL_hangs_718 (lv_at hl 0 rfl) ?_
              obtain ⟨q85, hcq85, h⟩ := hb_some h
              refine gcSW_i (As := [.ref (b 0), .int r82]) (rest := []) (BH := (fun (u : Unit) H => va_P (dC, dI) vwCl (hW N ca b I15 O16 J) H)) X hP hS (c_L_stateOf hlf hN hA I15 O16 J r82 q85 hcq85) (vx_cwSW 2 X.ts gL_hangs_L_stateOf rfl rfl rfl (by decide +kernel) ⟨Nat.le_of_ble_eq_true rfl, Nat.le_of_ble_eq_true rfl⟩) rfl hl.1 rfl (Nat.le_of_ble_eq_true rfl) dL_hangs_720 ⟨by omega, by omega⟩ (fun r84 u9 H locs hw hP hS => ?_)
              have hw := hw.symm
              subst hw
              refine lv_iconst (v := 3) hx hb dL_hangs_723 (by decide) ?_
              obtain ⟨p86, hv, h⟩ := hb_some h
              have K767 : ∀ (H : Heap) (locs : List Loc) (ls : Array Slot), va_P (dC, dI) vwCl (hW N ca b I15 O16 J) H → va_S A s.heap H locs → lv_has ls 11 [(0, .ref (b 0)), (1, .int r1), (2, .int p11), (3, .int p12), (4, .int p13), (7, .int p19), (8, .int r82)] → W p l e (headSpec wsL_hangs ({ frames := 10, cells := 1014, slots := 6084, locals := 193 } : Room)).room s m ([.ref (b 0)] : List Value).toArray below meth c H locs (cn695 + 7) (sn695 + 42) (MQ below (va_Qi (fun (r : Int32) (u : (Nat → Nat → Int32) × (Nat → Nat → Option Nat)) => res = (r, u)) (fun (u : (Nat → Nat → Int32) × (Nat → Nat → Option Nat)) t => va_P (dC, dI) vwCl (hW N ca b u.1 u.2 J) t.heap) A) ([.ref (b 0)] : List Value).toArray s 1014 6084 A) (F0 m 767 ls [.int p86]) := by
                intro H locs ls hP hS hl
                refine lv_istore (lv' := [(6, .int p86), (0, .ref (b 0)), (1, .int r1), (2, .int p11), (3, .int p12), (4, .int p13), (7, .int p19), (8, .int r82)]) hx hb dL_hangs_767 hl (by decide) rfl (fun ls hl => ?_)
                refine lv_aload_n hx hb dL_hangs_769 rfl (lv_at hl 1 rfl) ?_
                refine lv_iload hx hb dL_hangs_770 (lv_at hl 7 rfl) ?_
                obtain ⟨q88, hcq88, h⟩ := hb_some h
                refine gcSW_i (As := [.ref (b 0), .int r82]) (rest := []) (BH := (fun (u : Unit) H => va_P (dC, dI) vwCl (hW N ca b I15 O16 J) H)) X hP hS (c_L_timeOf hlf hN hA I15 O16 J r82 q88 hcq88) (vx_cwSW 2 X.ts gL_hangs_L_timeOf rfl rfl rfl (by decide +kernel) ⟨Nat.le_of_ble_eq_true rfl, Nat.le_of_ble_eq_true rfl⟩) rfl hl.1 rfl (Nat.le_of_ble_eq_true rfl) dL_hangs_772 ⟨by omega, by omega⟩ (fun r87 u9 H locs hw hP hS => ?_)
                have hw := hw.symm
                subst hw
                refine lv_istore (lv' := [(5, .int r87), (6, .int p86), (0, .ref (b 0)), (1, .int r1), (2, .int p11), (3, .int p12), (4, .int p13), (7, .int p19), (8, .int r82)]) hx hb dL_hangs_775 hl (by decide) rfl (fun ls hl => ?_)
                obtain ⟨x89, ex89, h⟩ := hlet_ex h
                refine lv_iinc (v := x89) (lv' := [(7, .int x89), (5, .int r87), (6, .int p86), (0, .ref (b 0)), (1, .int r1), (2, .int p11), (3, .int p12), (4, .int p13), (8, .int r82)]) hx hb dL_hangs_777 hl (k := 7) rfl (by rw [ex89]; rfl) (by decide) rfl (fun ls hl => ?_)
                refine lv_goto (tgt := 695) hx hb dL_hangs_780 (by decide) ?_
                exact ih _ _ _ (cn695 + 9) (sn695 + 54) _ _ _ (by omega) (by omega) h hP hS (lv_sub hl [3, 4, 5, 6, 7, 1, 2, 0] rfl)
              have h := hv
              refine lv_icmp_ne (tgt := 766) hx hb dL_hangs_724 (by decide) (fun c101 => ?_) (fun c101 => ?_)
              · have h := gif_f c101 h
                refine lv_iconst (v := 0) hx hb dL_hangs_766 (by decide) ?_
                refine W.widen (k := (cn695 + 7)) (n := (sn695 + 42)) (by omega) (by omega) ?_
                cases h
                exact K767 _ _ _ hP hS (lv_sub hl [1, 2, 3, 4, 5, 8, 0] rfl)
              · have h := gif_t c101 h
                refine lv_aload_n hx hb dL_hangs_727 rfl (lv_at hl 1 rfl) ?_
                refine lv_iload hx hb dL_hangs_728 (lv_at hl 0 rfl) ?_
                obtain ⟨q91, hcq91, h⟩ := hb_some h
                refine gcSW_i (As := [.ref (b 0), .int r82]) (rest := []) (BH := (fun (u : Unit) H => va_P (dC, dI) vwCl (hW N ca b I15 O16 J) H)) X hP hS (c_L_placeByCounting hlf hN hA I15 O16 J r82 q91 hcq91) (vx_cwSW 2 X.ts gL_hangs_L_placeByCounting rfl rfl rfl (by decide +kernel) ⟨Nat.le_of_ble_eq_true rfl, Nat.le_of_ble_eq_true rfl⟩) rfl hl.1 rfl (Nat.le_of_ble_eq_true rfl) dL_hangs_730 ⟨by omega, by omega⟩ (fun r90 u9 H locs hw hP hS => ?_)
                have hw := hw.symm
                subst hw
                refine lv_iload hx hb dL_hangs_733 (lv_at hl 8 rfl) ?_
                refine lv_icmp_ne (tgt := 766) hx hb dL_hangs_735 (by decide) (fun c100 => ?_) (fun c100 => ?_)
                · have h := gif_f c100 h
                  refine lv_iconst (v := 0) hx hb dL_hangs_766 (by decide) ?_
                  refine W.widen (k := (cn695 + 7)) (n := (sn695 + 42)) (by omega) (by omega) ?_
                  cases h
                  exact K767 _ _ _ hP hS (lv_sub hl [1, 2, 3, 4, 5, 8, 0] rfl)
                · have h := gif_t c100 h
                  refine lv_aload_n hx hb dL_hangs_738 rfl (lv_at hl 1 rfl) ?_
                  refine lv_iload hx hb dL_hangs_739 (lv_at hl 0 rfl) ?_
                  obtain ⟨q93, hcq93, h⟩ := hb_some h
                  refine gcSW_i (As := [.ref (b 0), .int r82]) (rest := []) (BH := (fun (u : Unit) H => va_P (dC, dI) vwCl (hW N ca b I15 O16 J) H)) X hP hS (c_L_timeOf hlf hN hA I15 O16 J r82 q93 hcq93) (vx_cwSW 2 X.ts gL_hangs_L_timeOf rfl rfl rfl (by decide +kernel) ⟨Nat.le_of_ble_eq_true rfl, Nat.le_of_ble_eq_true rfl⟩) rfl hl.1 rfl (Nat.le_of_ble_eq_true rfl) dL_hangs_741 ⟨by omega, by omega⟩ (fun r92 u9 H locs hw hP hS => ?_)
                  have hw := hw.symm
                  subst hw
                  refine lv_iload hx hb dL_hangs_744 (lv_at hl 6 rfl) ?_
                  refine lv_icmp_lt (tgt := 766) hx hb dL_hangs_746 (by decide) (fun c99 => ?_) (fun c99 => ?_)
                  · have h := gif_t c99 h
                    refine lv_iconst (v := 0) hx hb dL_hangs_766 (by decide) ?_
                    refine W.widen (k := (cn695 + 7)) (n := (sn695 + 42)) (by omega) (by omega) ?_
                    cases h
                    exact K767 _ _ _ hP hS (lv_sub hl [1, 2, 3, 4, 5, 8, 0] rfl)
                  · have h := gif_f c99 h
                    refine lv_aload_n hx hb dL_hangs_749 rfl (lv_at hl 1 rfl) ?_
                    refine lv_iload hx hb dL_hangs_750 (lv_at hl 0 rfl) ?_
                    obtain ⟨q95, hcq95, h⟩ := hb_some h
                    refine gcSW_i (As := [.ref (b 0), .int r82]) (rest := []) (BH := (fun (u : Unit) H => va_P (dC, dI) vwCl (hW N ca b I15 O16 J) H)) X hP hS (c_L_timeOf hlf hN hA I15 O16 J r82 q95 hcq95) (vx_cwSW 2 X.ts gL_hangs_L_timeOf rfl rfl rfl (by decide +kernel) ⟨Nat.le_of_ble_eq_true rfl, Nat.le_of_ble_eq_true rfl⟩) rfl hl.1 rfl (Nat.le_of_ble_eq_true rfl) dL_hangs_752 ⟨by omega, by omega⟩ (fun r94 u9 H locs hw hP hS => ?_)
                    have hw := hw.symm
                    subst hw
                    refine lv_aload_n hx hb dL_hangs_755 rfl (lv_at hl 1 rfl) ?_
                    obtain ⟨q97, hcq97, h⟩ := hb_some h
                    refine gdV_i (As := []) (rest := [.int r94]) (BH := (fun (u : Unit) H => va_P (dC, dI) vwCl (hW N ca b I15 O16 J) H)) X hP hS (c_X7_seconds hN hA I15 O16 J q97 hcq97) (cwV 0 X.ts gL_hangs_X7_seconds rfl rfl rfl (by decide +kernel) ⟨Nat.le_of_ble_eq_true rfl, Nat.le_of_ble_eq_true rfl⟩) (gr7 X hP kc_0 (sk_in hN kc_0 (by decide))) rfl hl.1 rfl (Nat.le_of_ble_eq_true rfl) dL_hangs_756 ⟨by omega, by omega⟩ (fun r96 u9 H locs hw hP hS => ?_)
                    have hw := hw.symm
                    subst hw
                    refine lv_icmp_gt (tgt := 766) hx hb dL_hangs_759 (by decide) (fun c98 => ?_) (fun c98 => ?_)
                    · have h := gif_t c98 h
                      refine lv_iconst (v := 0) hx hb dL_hangs_766 (by decide) ?_
                      cases h
                      exact K767 _ _ _ hP hS (lv_sub hl [1, 2, 3, 4, 5, 8, 0] rfl)
                    · have h := gif_f c98 h
                      refine lv_iconst (v := 1) hx hb dL_hangs_762 (by decide) ?_
                      refine lv_goto (tgt := 767) hx hb dL_hangs_763 (by decide) ?_
                      cases h
                      exact K767 _ _ _ hP hS (lv_sub hl [1, 2, 3, 4, 5, 8, 0] rfl)
      exact hL695 16 _ _ _ 864 5184 _ _ _ (Nat.le_of_ble_eq_true rfl) (Nat.le_of_ble_eq_true rfl) hv hP hS (lv_sub hl [1, 2, 3, 4, 5, 6, 7, 0] rfl)
    have hL141 : ∀ (fuel : Nat) (p4 : Int32) (p5 : Int32) (p6 : Int32) (p7 : Int32) (p8 : Int32) (I9 : Nat → Nat → Int32) (O10 : Nat → Nat → Option Nat) (cn141 sn141 : Nat) (H : Heap) (locs : List Loc) (ls : Array Slot), cn141 + 54 * fuel ≤ 864 → sn141 + 324 * fuel ≤ 5184 → f_L_hangs_L141 r1 fuel p4 p5 p6 p7 p8 I9 O10 = some (p11, p12, p13, p14, I15, O16) → va_P (dC, dI) vwCl (hW N ca b I9 O10 J) H → va_S A s.heap H locs → lv_has ls 11 [(0, .ref (b 0)), (1, .int r1), (2, .int p4), (3, .int p5), (4, .int p6), (5, .int (0 : Int32)), (6, .int p7), (7, .int p8)] → W p l e (headSpec wsL_hangs ({ frames := 10, cells := 1014, slots := 6084, locals := 193 } : Room)).room s m ([.ref (b 0)] : List Value).toArray below meth c H locs cn141 sn141 (MQ below (va_Qi (fun (r : Int32) (u : (Nat → Nat → Int32) × (Nat → Nat → Option Nat)) => res = (r, u)) (fun (u : (Nat → Nat → Int32) × (Nat → Nat → Option Nat)) t => va_P (dC, dI) vwCl (hW N ca b u.1 u.2 J) t.heap) A) ([.ref (b 0)] : List Value).toArray s 1014 6084 A) (F0 m 141 ls []) := by
      intro fuel
      induction fuel with
      | zero =>
        intro p4 p5 p6 p7 p8 I9 O10 cn141 sn141 H locs ls hcn141 hsn141 h hP hS hl
        rw [f_L_hangs_L141] at h
        cases h
      | succ fuel ih =>
        intro p4 p5 p6 p7 p8 I9 O10 cn141 sn141 H locs ls hcn141 hsn141 h hP hS hl
        rw [f_L_hangs_L141] at h
        refine lv_iload hx hb dL_hangs_141 (lv_at hl 7 rfl) ?_
        refine lv_iload_n hx hb dL_hangs_143 rfl (lv_at hl 1 rfl) ?_
        refine lv_icmp_ge (tgt := 692) hx hb dL_hangs_144 (by decide) (fun c253 => ?_) (fun c253 => ?_)
        · have h := gif_t c253 h
          refine W.widen (k := 864) (n := 5184) (by omega) (by omega) ?_
          cases h
          exact K692 _ _ _ hP hS (lv_sub hl [0, 1, 2, 3, 4, 5, 6] rfl)
        · have h := gif_f c253 h
          refine lv_iload hx hb dL_hangs_147 (lv_at hl 6 rfl) ?_
          refine lv_if_eq (tgt := 692) hx hb dL_hangs_149 (by decide) (fun c252 => ?_) (fun c252 => ?_)
          · have h := gif_t c252 h
            refine W.widen (k := 864) (n := 5184) (by omega) (by omega) ?_
            cases h
            exact K692 _ _ _ hP hS (lv_sub hl [0, 1, 2, 3, 4, 5, 6] rfl)
          · have h := gif_f c252 h
            refine lv_aload_n hx hb dL_hangs_152 rfl (lv_at hl 0 rfl) ?_
            refine lv_iload hx hb dL_hangs_153 (lv_at hl 7 rfl) ?_
            obtain ⟨q105, hcq105, h⟩ := hb_some h
            refine gcSW_i (As := [.ref (b 0), .int p8]) (rest := []) (BH := (fun (u : Unit) H => va_P (dC, dI) vwCl (hW N ca b I9 O10 J) H)) X hP hS (c_L_partnerOf hlf hN hA I9 O10 J p8 q105 hcq105) (vx_cwSW 2 X.ts gL_hangs_L_partnerOf rfl rfl rfl (by decide +kernel) ⟨Nat.le_of_ble_eq_true rfl, Nat.le_of_ble_eq_true rfl⟩) rfl hl.1 rfl (Nat.le_of_ble_eq_true rfl) dL_hangs_155 ⟨by omega, by omega⟩ (fun r104 u9 H locs hw hP hS => ?_)
            have hw := hw.symm
            subst hw
            refine lv_istore (lv' := [(8, .int r104), (0, .ref (b 0)), (1, .int r1), (2, .int p4), (3, .int p5), (4, .int p6), (5, .int (0 : Int32)), (6, .int p7), (7, .int p8)]) hx hb dL_hangs_158 hl (by decide) rfl (fun ls hl => ?_)
            refine lv_aload_n hx hb dL_hangs_160 rfl (lv_at hl 1 rfl) ?_
            refine lv_iload hx hb dL_hangs_161 (lv_at hl 8 rfl) ?_
            obtain ⟨q107, hcq107, h⟩ := hb_some h
            refine gcSW_i (As := [.ref (b 0), .int p8]) (rest := []) (BH := (fun (u : Unit) H => va_P (dC, dI) vwCl (hW N ca b I9 O10 J) H)) X hP hS (c_L_gapAhead hlf hN hA I9 O10 J p8 q107 hcq107) (vx_cwSW 2 X.ts gL_hangs_L_gapAhead rfl rfl rfl (by decide +kernel) ⟨Nat.le_of_ble_eq_true rfl, Nat.le_of_ble_eq_true rfl⟩) rfl hl.1 rfl (Nat.le_of_ble_eq_true rfl) dL_hangs_163 ⟨by omega, by omega⟩ (fun r106 u9 H locs hw hP hS => ?_)
            have hw := hw.symm
            subst hw
            refine lv_istore (lv' := [(9, .int r106), (8, .int r104), (0, .ref (b 0)), (1, .int r1), (2, .int p4), (3, .int p5), (4, .int p6), (5, .int (0 : Int32)), (6, .int p7), (7, .int p8)]) hx hb dL_hangs_166 hl (by decide) rfl (fun ls hl => ?_)
            refine lv_aload_n hx hb dL_hangs_168 rfl (lv_at hl 2 rfl) ?_
            refine lv_iload hx hb dL_hangs_169 (lv_at hl 9 rfl) ?_
            obtain ⟨q109, hcq109, h⟩ := hb_some h
            refine gcSW_i (As := [.ref (b 0), .int p8]) (rest := []) (BH := (fun (u : Unit) H => va_P (dC, dI) vwCl (hW N ca b I9 O10 J) H)) X hP hS (c_L_stateOf hlf hN hA I9 O10 J p8 q109 hcq109) (vx_cwSW 2 X.ts gL_hangs_L_stateOf rfl rfl rfl (by decide +kernel) ⟨Nat.le_of_ble_eq_true rfl, Nat.le_of_ble_eq_true rfl⟩) rfl hl.1 rfl (Nat.le_of_ble_eq_true rfl) dL_hangs_171 ⟨by omega, by omega⟩ (fun r108 u9 H locs hw hP hS => ?_)
            have hw := hw.symm
            subst hw
            refine lv_istore (lv' := [(10, .int r108), (9, .int r106), (8, .int r104), (0, .ref (b 0)), (1, .int r1), (2, .int p4), (3, .int p5), (4, .int p6), (5, .int (0 : Int32)), (6, .int p7), (7, .int p8)]) hx hb dL_hangs_174 hl (by decide) rfl (fun ls hl => ?_)
            refine lv_iload_n hx hb dL_hangs_176 rfl (lv_at hl 5 rfl) ?_
            refine lv_aload_n hx hb dL_hangs_177 rfl (lv_at hl 3 rfl) ?_
            refine lv_iload hx hb dL_hangs_178 (lv_at hl 10 rfl) ?_
            obtain ⟨q111, hcq111, h⟩ := hb_some h
            refine gcSW_i (As := [.ref (b 0), .int p8]) (rest := [.int p4]) (BH := (fun (u : Unit) H => va_P (dC, dI) vwCl (hW N ca b I9 O10 J) H)) X hP hS (c_L_flown hlf hN hA I9 O10 J p8 q111 hcq111) (vx_cwSW 2 X.ts gL_hangs_L_flown rfl rfl rfl (by decide +kernel) ⟨Nat.le_of_ble_eq_true rfl, Nat.le_of_ble_eq_true rfl⟩) rfl hl.1 rfl (Nat.le_of_ble_eq_true rfl) dL_hangs_180 ⟨by omega, by omega⟩ (fun r110 u9 H locs hw hP hS => ?_)
            have hw := hw.symm
            subst hw
            refine lv_iadd hx hb dL_hangs_183 ?_
            refine lv_istore_n (lv' := [(2, .int (p4 + r110)), (10, .int r108), (9, .int r106), (8, .int r104), (0, .ref (b 0)), (1, .int r1), (3, .int p5), (4, .int p6), (5, .int (0 : Int32)), (6, .int p7), (7, .int p8)]) hx hb dL_hangs_184 rfl hl (by decide) rfl (fun ls hl => ?_)
            refine lv_iload_n hx hb dL_hangs_185 rfl (lv_at hl 6 rfl) ?_
            refine lv_iload hx hb dL_hangs_186 (lv_at hl 1 rfl) ?_
            refine lv_iconst (v := 3) hx hb dL_hangs_188 (by decide) ?_
            obtain ⟨p112, hv, h⟩ := hb_some h
            have K197 : ∀ (H : Heap) (locs : List Loc) (ls : Array Slot), va_P (dC, dI) vwCl (hW N ca b I9 O10 J) H → va_S A s.heap H locs → lv_has ls 11 [(0, .ref (b 0)), (1, .int r1), (2, .int (p4 + r110)), (4, .int p6), (5, .int (0 : Int32)), (7, .int p8), (8, .int r104), (9, .int r106), (10, .int r108)] → W p l e (headSpec wsL_hangs ({ frames := 10, cells := 1014, slots := 6084, locals := 193 } : Room)).room s m ([.ref (b 0)] : List Value).toArray below meth c H locs (cn141 + 5) (sn141 + 30) (MQ below (va_Qi (fun (r : Int32) (u : (Nat → Nat → Int32) × (Nat → Nat → Option Nat)) => res = (r, u)) (fun (u : (Nat → Nat → Int32) × (Nat → Nat → Option Nat)) t => va_P (dC, dI) vwCl (hW N ca b u.1 u.2 J) t.heap) A) ([.ref (b 0)] : List Value).toArray s 1014 6084 A) (F0 m 197 ls [.int p112, .int p5]) := by
              intro H locs ls hP hS hl
              refine lv_iadd hx hb dL_hangs_197 ?_
              refine lv_istore_n (lv' := [(3, .int (p5 + p112)), (0, .ref (b 0)), (1, .int r1), (2, .int (p4 + r110)), (4, .int p6), (5, .int (0 : Int32)), (7, .int p8), (8, .int r104), (9, .int r106), (10, .int r108)]) hx hb dL_hangs_198 rfl hl (by decide) rfl (fun ls hl => ?_)
              refine lv_iload hx hb dL_hangs_199 (lv_at hl 4 rfl) ?_
              refine lv_iload hx hb dL_hangs_201 (lv_at hl 7 rfl) ?_
              obtain ⟨p113, hv, h⟩ := hb_some h
              have K211 : ∀ (H : Heap) (locs : List Loc) (ls : Array Slot), va_P (dC, dI) vwCl (hW N ca b I9 O10 J) H → va_S A s.heap H locs → lv_has ls 11 [(0, .ref (b 0)), (1, .int r1), (2, .int (p4 + r110)), (3, .int (p5 + p112)), (5, .int (0 : Int32)), (7, .int p8), (8, .int r104), (9, .int r106), (10, .int r108)] → W p l e (headSpec wsL_hangs ({ frames := 10, cells := 1014, slots := 6084, locals := 193 } : Room)).room s m ([.ref (b 0)] : List Value).toArray below meth c H locs (cn141 + 5) (sn141 + 30) (MQ below (va_Qi (fun (r : Int32) (u : (Nat → Nat → Int32) × (Nat → Nat → Option Nat)) => res = (r, u)) (fun (u : (Nat → Nat → Int32) × (Nat → Nat → Option Nat)) t => va_P (dC, dI) vwCl (hW N ca b u.1 u.2 J) t.heap) A) ([.ref (b 0)] : List Value).toArray s 1014 6084 A) (F0 m 211 ls [.int p113, .int p6]) := by
                intro H locs ls hP hS hl
                refine lv_iadd hx hb dL_hangs_211 ?_
                refine lv_istore (lv' := [(4, .int (p6 + p113)), (0, .ref (b 0)), (1, .int r1), (2, .int (p4 + r110)), (3, .int (p5 + p112)), (5, .int (0 : Int32)), (7, .int p8), (8, .int r104), (9, .int r106), (10, .int r108)]) hx hb dL_hangs_212 hl (by decide) rfl (fun ls hl => ?_)
                refine lv_aload_n hx hb dL_hangs_214 rfl (lv_at hl 1 rfl) ?_
                refine lv_aload_n hx hb dL_hangs_215 rfl (lv_at hl 1 rfl) ?_
                refine lv_iload hx hb dL_hangs_216 (lv_at hl 6 rfl) ?_
                obtain ⟨q115, hcq115, h⟩ := hb_some h
                refine gcSW_i (As := [.ref (b 0), .int p8]) (rest := [.ref (b 0)]) (BH := (fun (u : Unit) H => va_P (dC, dI) vwCl (hW N ca b I9 O10 J) H)) X hP hS (c_L_placeByCounting hlf hN hA I9 O10 J p8 q115 hcq115) (vx_cwSW 2 X.ts gL_hangs_L_placeByCounting rfl rfl rfl (by decide +kernel) ⟨Nat.le_of_ble_eq_true rfl, Nat.le_of_ble_eq_true rfl⟩) rfl hl.1 rfl (Nat.le_of_ble_eq_true rfl) dL_hangs_218 ⟨by omega, by omega⟩ (fun r114 u9 H locs hw hP hS => ?_)
                have hw := hw.symm
                subst hw
                obtain ⟨q118, hcq118, h⟩ := hb_some h
                refine gcSW_i (As := [.ref (b 0), .int r114]) (rest := []) (BH := (fun (u : Nat → Nat → Option Nat) H => va_P (dC, dI) vwCl (hW N ca b I9 u J) H)) X hP hS (c_L_birdByOrder hlf hN hA I9 O10 J r114 q118 hcq118) (vx_cwSW 2 X.ts gL_hangs_L_birdByOrder rfl rfl rfl (by decide +kernel) ⟨Nat.le_of_ble_eq_true rfl, Nat.le_of_ble_eq_true rfl⟩) rfl hl.1 rfl (Nat.le_of_ble_eq_true rfl) dL_hangs_221 ⟨by omega, by omega⟩ (fun r117 O116 H locs hw hP hS => ?_)
                subst hw
                refine lv_iload hx hb dL_hangs_224 (lv_at hl 6 rfl) ?_
                obtain ⟨p119, hv, h⟩ := hb_some h
                have K585 : ∀ (H : Heap) (locs : List Loc) (ls : Array Slot), va_P (dC, dI) vwCl (hW N ca b I9 O116 J) H → va_S A s.heap H locs → lv_has ls 11 [(0, .ref (b 0)), (1, .int r1), (2, .int (p4 + r110)), (3, .int (p5 + p112)), (4, .int (p6 + p113)), (5, .int (0 : Int32)), (7, .int p8)] → W p l e (headSpec wsL_hangs ({ frames := 10, cells := 1014, slots := 6084, locals := 193 } : Room)).room s m ([.ref (b 0)] : List Value).toArray below meth c H locs (cn141 + 35) (sn141 + 210) (MQ below (va_Qi (fun (r : Int32) (u : (Nat → Nat → Int32) × (Nat → Nat → Option Nat)) => res = (r, u)) (fun (u : (Nat → Nat → Int32) × (Nat → Nat → Option Nat)) t => va_P (dC, dI) vwCl (hW N ca b u.1 u.2 J) t.heap) A) ([.ref (b 0)] : List Value).toArray s 1014 6084 A) (F0 m 585 ls [.int p119]) := by
                  intro H locs ls hP hS hl
                  refine lv_istore (lv' := [(6, .int p119), (0, .ref (b 0)), (1, .int r1), (2, .int (p4 + r110)), (3, .int (p5 + p112)), (4, .int (p6 + p113)), (5, .int (0 : Int32)), (7, .int p8)]) hx hb dL_hangs_585 hl (by decide) rfl (fun ls hl => ?_)
                  refine lv_iload hx hb dL_hangs_587 (lv_at hl 0 rfl) ?_
                  obtain ⟨⟨p120, I121, O122⟩, hv, h⟩ := hb_some h
                  have K684 : ∀ (H : Heap) (locs : List Loc) (ls : Array Slot), va_P (dC, dI) vwCl (hW N ca b I121 O122 J) H → va_S A s.heap H locs → lv_has ls 11 [(0, .ref (b 0)), (1, .int r1), (2, .int (p4 + r110)), (3, .int (p5 + p112)), (4, .int (p6 + p113)), (5, .int (0 : Int32)), (7, .int p8)] → W p l e (headSpec wsL_hangs ({ frames := 10, cells := 1014, slots := 6084, locals := 193 } : Room)).room s m ([.ref (b 0)] : List Value).toArray below meth c H locs (cn141 + 54) (sn141 + 324) (MQ below (va_Qi (fun (r : Int32) (u : (Nat → Nat → Int32) × (Nat → Nat → Option Nat)) => res = (r, u)) (fun (u : (Nat → Nat → Int32) × (Nat → Nat → Option Nat)) t => va_P (dC, dI) vwCl (hW N ca b u.1 u.2 J) t.heap) A) ([.ref (b 0)] : List Value).toArray s 1014 6084 A) (F0 m 684 ls [.int p120]) := by
                    intro H locs ls hP hS hl
                    refine lv_istore (lv' := [(6, .int p120), (0, .ref (b 0)), (1, .int r1), (2, .int (p4 + r110)), (3, .int (p5 + p112)), (4, .int (p6 + p113)), (5, .int (0 : Int32)), (7, .int p8)]) hx hb dL_hangs_684 hl (by decide) rfl (fun ls hl => ?_)
                    obtain ⟨x123, ex123, h⟩ := hlet_ex h
                    refine lv_iinc (v := x123) (lv' := [(7, .int x123), (6, .int p120), (0, .ref (b 0)), (1, .int r1), (2, .int (p4 + r110)), (3, .int (p5 + p112)), (4, .int (p6 + p113)), (5, .int (0 : Int32))]) hx hb dL_hangs_686 hl (k := 7) rfl (by rw [ex123]; rfl) (by decide) rfl (fun ls hl => ?_)
                    refine lv_goto (tgt := 141) hx hb dL_hangs_689 (by decide) ?_
                    exact ih _ _ _ _ _ _ _ (cn141 + 54) (sn141 + 324) _ _ _ (by omega) (by omega) h hP hS (lv_sub hl [2, 3, 4, 5, 6, 7, 1, 0] rfl)
                  have h := hv
                  refine lv_if_eq (tgt := 683) hx hb dL_hangs_589 (by decide) (fun c160 => ?_) (fun c160 => ?_)
                  · have h := gif_t c160 h
                    refine lv_iconst (v := 0) hx hb dL_hangs_683 (by decide) ?_
                    refine W.widen (k := (cn141 + 54)) (n := (sn141 + 324)) (by omega) (by omega) ?_
                    cases h
                    exact K684 _ _ _ hP hS (lv_sub hl [1, 2, 3, 4, 5, 6, 7] rfl)
                  · have h := gif_f c160 h
                    refine lv_aload_n hx hb dL_hangs_592 rfl (lv_at hl 1 rfl) ?_
                    obtain ⟨q125, hcq125, h⟩ := hb_some h
                    refine gdV_i (As := []) (rest := []) (BH := (fun (u : Unit) H => va_P (dC, dI) vwCl (hW N ca b I9 O116 J) H)) X hP hS (c_X7_isRacing hN hA I9 O116 J q125 hcq125) (cwV 0 X.ts gL_hangs_X7_isRacing rfl rfl rfl (by decide +kernel) ⟨Nat.le_of_ble_eq_true rfl, Nat.le_of_ble_eq_true rfl⟩) (gr7 X hP kc_0 (sk_in hN kc_0 (by decide))) rfl hl.1 rfl (Nat.le_of_ble_eq_true rfl) dL_hangs_593 ⟨by omega, by omega⟩ (fun r124 u9 H locs hw hP hS => ?_)
                    have hw := hw.symm
                    subst hw
                    refine lv_if_eq (tgt := 642) hx hb dL_hangs_596 (by decide) (fun c159 => ?_) (fun c159 => ?_)
                    · have h := gif_t c159 h
                      refine lv_aload_n hx hb dL_hangs_642 rfl (lv_at hl 1 rfl) ?_
                      refine lv_iload hx hb dL_hangs_643 (lv_at hl 7 rfl) ?_
                      refine lv_bipush (v := 7) hx hb dL_hangs_645 (by decide) ?_
                      obtain ⟨q129, hcq129, h⟩ := hb_some h
                      refine gcSW_i (As := [.ref (b 0), .int p8, .int (7 : Int32)]) (rest := []) (BH := (fun (u : (Nat → Nat → Int32) × (Nat → Nat → Option Nat)) H => va_P (dC, dI) vwCl (hW N ca b u.1 u.2 J) H)) X hP hS (c_L_wouldFly hlf hN hA I9 O116 J p8 (7 : Int32) q129 hcq129) (vx_cwSW 3 X.ts gL_hangs_L_wouldFly rfl rfl rfl (by decide +kernel) ⟨Nat.le_of_ble_eq_true rfl, Nat.le_of_ble_eq_true rfl⟩) rfl hl.1 rfl (Nat.le_of_ble_eq_true rfl) dL_hangs_647 ⟨by omega, by omega⟩ (fun r128 u9 H locs hw hP hS => ?_)
                      obtain ⟨I126, O127⟩ := u9
                      subst hw
                      refine lv_bipush (v := (-4)) hx hb dL_hangs_650 (by decide) ?_
                      refine lv_icmp_ne (tgt := 683) hx hb dL_hangs_652 (by decide) (fun c140 => ?_) (fun c140 => ?_)
                      · have h := gif_f c140 h
                        refine lv_iconst (v := 0) hx hb dL_hangs_683 (by decide) ?_
                        refine W.widen (k := (cn141 + 54)) (n := (sn141 + 324)) (by omega) (by omega) ?_
                        cases h
                        exact K684 _ _ _ hP hS (lv_sub hl [1, 2, 3, 4, 5, 6, 7] rfl)
                      · have h := gif_t c140 h
                        refine lv_aload_n hx hb dL_hangs_655 rfl (lv_at hl 1 rfl) ?_
                        refine lv_iload hx hb dL_hangs_656 (lv_at hl 7 rfl) ?_
                        refine lv_bipush (v := 20) hx hb dL_hangs_658 (by decide) ?_
                        obtain ⟨q133, hcq133, h⟩ := hb_some h
                        refine gcSW_i (As := [.ref (b 0), .int p8, .int (20 : Int32)]) (rest := []) (BH := (fun (u : (Nat → Nat → Int32) × (Nat → Nat → Option Nat)) H => va_P (dC, dI) vwCl (hW N ca b u.1 u.2 J) H)) X hP hS (c_L_flownWithPace hlf hN hA I126 O127 J p8 (20 : Int32) q133 hcq133) (vx_cwSW 3 X.ts gL_hangs_L_flownWithPace rfl rfl rfl (by decide +kernel) ⟨Nat.le_of_ble_eq_true rfl, Nat.le_of_ble_eq_true rfl⟩) rfl hl.1 rfl (Nat.le_of_ble_eq_true rfl) dL_hangs_660 ⟨by omega, by omega⟩ (fun r132 u9 H locs hw hP hS => ?_)
                        obtain ⟨I130, O131⟩ := u9
                        subst hw
                        refine lv_bipush (v := (-4)) hx hb dL_hangs_663 (by decide) ?_
                        refine lv_icmp_ne (tgt := 683) hx hb dL_hangs_665 (by decide) (fun c139 => ?_) (fun c139 => ?_)
                        · have h := gif_f c139 h
                          refine lv_iconst (v := 0) hx hb dL_hangs_683 (by decide) ?_
                          refine W.widen (k := (cn141 + 54)) (n := (sn141 + 324)) (by omega) (by omega) ?_
                          cases h
                          exact K684 _ _ _ hP hS (lv_sub hl [1, 2, 3, 4, 5, 6, 7] rfl)
                        · have h := gif_t c139 h
                          refine lv_aload_n hx hb dL_hangs_668 rfl (lv_at hl 1 rfl) ?_
                          refine lv_iload hx hb dL_hangs_669 (lv_at hl 7 rfl) ?_
                          obtain ⟨q137, hcq137, h⟩ := hb_some h
                          refine gcSW_i (As := [.ref (b 0), .int p8]) (rest := []) (BH := (fun (u : (Nat → Nat → Int32) × (Nat → Nat → Option Nat)) H => va_P (dC, dI) vwCl (hW N ca b u.1 u.2 J) H)) X hP hS (c_L_bestPace hlf hN hA I130 O131 J p8 q137 hcq137) (vx_cwSW 2 X.ts gL_hangs_L_bestPace rfl rfl rfl (by decide +kernel) ⟨Nat.le_of_ble_eq_true rfl, Nat.le_of_ble_eq_true rfl⟩) rfl hl.1 rfl (Nat.le_of_ble_eq_true rfl) dL_hangs_671 ⟨by omega, by omega⟩ (fun r136 u9 H locs hw hP hS => ?_)
                          obtain ⟨I134, O135⟩ := u9
                          subst hw
                          refine lv_bipush (v := (-4)) hx hb dL_hangs_674 (by decide) ?_
                          refine lv_icmp_ne (tgt := 683) hx hb dL_hangs_676 (by decide) (fun c138 => ?_) (fun c138 => ?_)
                          · have h := gif_f c138 h
                            refine lv_iconst (v := 0) hx hb dL_hangs_683 (by decide) ?_
                            refine W.widen (k := (cn141 + 54)) (n := (sn141 + 324)) (by omega) (by omega) ?_
                            cases h
                            exact K684 _ _ _ hP hS (lv_sub hl [1, 2, 3, 4, 5, 6, 7] rfl)
                          · have h := gif_t c138 h
                            refine lv_iconst (v := 1) hx hb dL_hangs_679 (by decide) ?_
                            refine lv_goto (tgt := 684) hx hb dL_hangs_680 (by decide) ?_
                            refine W.widen (k := (cn141 + 54)) (n := (sn141 + 324)) (by omega) (by omega) ?_
                            cases h
                            exact K684 _ _ _ hP hS (lv_sub hl [1, 2, 3, 4, 5, 6, 7] rfl)
                    · have h := gif_f c159 h
                      refine lv_aload_n hx hb dL_hangs_599 rfl (lv_at hl 1 rfl) ?_
                      refine lv_iload hx hb dL_hangs_600 (lv_at hl 7 rfl) ?_
                      refine lv_bipush (v := 7) hx hb dL_hangs_602 (by decide) ?_
                      obtain ⟨q144, hcq144, h⟩ := hb_some h
                      refine gcSW_i (As := [.ref (b 0), .int p8, .int (7 : Int32)]) (rest := []) (BH := (fun (u : (Nat → Nat → Int32) × (Nat → Nat → Option Nat)) H => va_P (dC, dI) vwCl (hW N ca b u.1 u.2 J) H)) X hP hS (c_L_wouldFly hlf hN hA I9 O116 J p8 (7 : Int32) q144 hcq144) (vx_cwSW 3 X.ts gL_hangs_L_wouldFly rfl rfl rfl (by decide +kernel) ⟨Nat.le_of_ble_eq_true rfl, Nat.le_of_ble_eq_true rfl⟩) rfl hl.1 rfl (Nat.le_of_ble_eq_true rfl) dL_hangs_604 ⟨by omega, by omega⟩ (fun r143 u9 H locs hw hP hS => ?_)
                      obtain ⟨I141, O142⟩ := u9
                      subst hw
                      refine lv_aload_n hx hb dL_hangs_607 rfl (lv_at hl 1 rfl) ?_
                      refine lv_iload hx hb dL_hangs_608 (lv_at hl 7 rfl) ?_
                      obtain ⟨q146, hcq146, h⟩ := hb_some h
                      refine gcSW_i (As := [.ref (b 0), .int p8]) (rest := [.int r143]) (BH := (fun (u : Unit) H => va_P (dC, dI) vwCl (hW N ca b I141 O142 J) H)) X hP hS (c_L_flown hlf hN hA I141 O142 J p8 q146 hcq146) (vx_cwSW 2 X.ts gL_hangs_L_flown rfl rfl rfl (by decide +kernel) ⟨Nat.le_of_ble_eq_true rfl, Nat.le_of_ble_eq_true rfl⟩) rfl hl.1 rfl (Nat.le_of_ble_eq_true rfl) dL_hangs_610 ⟨by omega, by omega⟩ (fun r145 u9 H locs hw hP hS => ?_)
                      have hw := hw.symm
                      subst hw
                      refine lv_icmp_lt (tgt := 683) hx hb dL_hangs_613 (by decide) (fun c158 => ?_) (fun c158 => ?_)
                      · have h := gif_t c158 h
                        refine lv_iconst (v := 0) hx hb dL_hangs_683 (by decide) ?_
                        refine W.widen (k := (cn141 + 54)) (n := (sn141 + 324)) (by omega) (by omega) ?_
                        cases h
                        exact K684 _ _ _ hP hS (lv_sub hl [1, 2, 3, 4, 5, 6, 7] rfl)
                      · have h := gif_f c158 h
                        refine lv_aload_n hx hb dL_hangs_616 rfl (lv_at hl 1 rfl) ?_
                        refine lv_iload hx hb dL_hangs_617 (lv_at hl 7 rfl) ?_
                        refine lv_aload_n hx hb dL_hangs_619 rfl (lv_at hl 1 rfl) ?_
                        refine lv_iload hx hb dL_hangs_620 (lv_at hl 7 rfl) ?_
                        obtain ⟨q148, hcq148, h⟩ := hb_some h
                        refine gcSW_i (As := [.ref (b 0), .int p8]) (rest := [.int p8, .ref (b 0)]) (BH := (fun (u : Unit) H => va_P (dC, dI) vwCl (hW N ca b I141 O142 J) H)) X hP hS (c_L_paceOf hlf hN hA I141 O142 J p8 q148 hcq148) (vx_cwSW 2 X.ts gL_hangs_L_paceOf rfl rfl rfl (by decide +kernel) ⟨Nat.le_of_ble_eq_true rfl, Nat.le_of_ble_eq_true rfl⟩) rfl hl.1 rfl (Nat.le_of_ble_eq_true rfl) dL_hangs_622 ⟨by omega, by omega⟩ (fun r147 u9 H locs hw hP hS => ?_)
                        have hw := hw.symm
                        subst hw
                        obtain ⟨q152, hcq152, h⟩ := hb_some h
                        refine gcSW_i (As := [.ref (b 0), .int p8, .int r147]) (rest := []) (BH := (fun (u : (Nat → Nat → Int32) × (Nat → Nat → Option Nat)) H => va_P (dC, dI) vwCl (hW N ca b u.1 u.2 J) H)) X hP hS (c_L_flownWithPace hlf hN hA I141 O142 J p8 r147 q152 hcq152) (vx_cwSW 3 X.ts gL_hangs_L_flownWithPace rfl rfl rfl (by decide +kernel) ⟨Nat.le_of_ble_eq_true rfl, Nat.le_of_ble_eq_true rfl⟩) rfl hl.1 rfl (Nat.le_of_ble_eq_true rfl) dL_hangs_625 ⟨by omega, by omega⟩ (fun r151 u9 H locs hw hP hS => ?_)
                        obtain ⟨I149, O150⟩ := u9
                        subst hw
                        refine lv_aload_n hx hb dL_hangs_628 rfl (lv_at hl 1 rfl) ?_
                        refine lv_iload hx hb dL_hangs_629 (lv_at hl 7 rfl) ?_
                        refine lv_bipush (v := 50) hx hb dL_hangs_631 (by decide) ?_
                        obtain ⟨q156, hcq156, h⟩ := hb_some h
                        refine gcSW_i (As := [.ref (b 0), .int p8, .int (50 : Int32)]) (rest := [.int r151]) (BH := (fun (u : (Nat → Nat → Int32) × (Nat → Nat → Option Nat)) H => va_P (dC, dI) vwCl (hW N ca b u.1 u.2 J) H)) X hP hS (c_L_wouldFly hlf hN hA I149 O150 J p8 (50 : Int32) q156 hcq156) (vx_cwSW 3 X.ts gL_hangs_L_wouldFly rfl rfl rfl (by decide +kernel) ⟨Nat.le_of_ble_eq_true rfl, Nat.le_of_ble_eq_true rfl⟩) rfl hl.1 rfl (Nat.le_of_ble_eq_true rfl) dL_hangs_633 ⟨by omega, by omega⟩ (fun r155 u9 H locs hw hP hS => ?_)
                        obtain ⟨I153, O154⟩ := u9
                        subst hw
                        refine lv_icmp_ne (tgt := 683) hx hb dL_hangs_636 (by decide) (fun c157 => ?_) (fun c157 => ?_)
                        · have h := gif_f c157 h
                          refine lv_iconst (v := 0) hx hb dL_hangs_683 (by decide) ?_
                          refine W.widen (k := (cn141 + 54)) (n := (sn141 + 324)) (by omega) (by omega) ?_
                          cases h
                          exact K684 _ _ _ hP hS (lv_sub hl [1, 2, 3, 4, 5, 6, 7] rfl)
                        · have h := gif_t c157 h
                          refine lv_goto (tgt := 679) hx hb dL_hangs_639 (by decide) ?_
                          refine lv_iconst (v := 1) hx hb dL_hangs_679 (by decide) ?_
                          refine lv_goto (tgt := 684) hx hb dL_hangs_680 (by decide) ?_
                          refine W.widen (k := (cn141 + 54)) (n := (sn141 + 324)) (by omega) (by omega) ?_
                          cases h
                          exact K684 _ _ _ hP hS (lv_sub hl [1, 2, 3, 4, 5, 6, 7] rfl)
                have h := hv
                refine lv_icmp_ne (tgt := 584) hx hb dL_hangs_226 (by decide) (fun c249 => ?_) (fun c249 => ?_)
                · have h := gif_f c249 h
                  refine lv_iconst (v := 0) hx hb dL_hangs_584 (by decide) ?_
                  refine W.widen (k := (cn141 + 35)) (n := (sn141 + 210)) (by omega) (by omega) ?_
                  cases h
                  exact K585 _ _ _ hP hS (lv_sub hl [1, 2, 3, 4, 0, 5, 6] rfl)
                · have h := gif_t c249 h
                  refine lv_aload_n hx hb dL_hangs_229 rfl (lv_at hl 1 rfl) ?_
                  refine lv_iload hx hb dL_hangs_230 (lv_at hl 6 rfl) ?_
                  obtain ⟨q162, hcq162, h⟩ := hb_some h
                  refine gcSW_i (As := [.ref (b 0), .int p8]) (rest := []) (BH := (fun (u : Unit) H => va_P (dC, dI) vwCl (hW N ca b I9 O116 J) H)) X hP hS (c_L_lapsOf hlf hN hA I9 O116 J p8 q162 hcq162) (vx_cwSW 2 X.ts gL_hangs_L_lapsOf rfl rfl rfl (by decide +kernel) ⟨Nat.le_of_ble_eq_true rfl, Nat.le_of_ble_eq_true rfl⟩) rfl hl.1 rfl (Nat.le_of_ble_eq_true rfl) dL_hangs_232 ⟨by omega, by omega⟩ (fun r161 u9 H locs hw hP hS => ?_)
                  have hw := hw.symm
                  subst hw
                  refine lv_aload_n hx hb dL_hangs_235 rfl (lv_at hl 1 rfl) ?_
                  refine lv_iload hx hb dL_hangs_236 (lv_at hl 6 rfl) ?_
                  obtain ⟨q164, hcq164, h⟩ := hb_some h
                  refine gcSW_i (As := [.ref (b 0), .int p8]) (rest := [.int r161]) (BH := (fun (u : Unit) H => va_P (dC, dI) vwCl (hW N ca b I9 O116 J) H)) X hP hS (c_L_flown hlf hN hA I9 O116 J p8 q164 hcq164) (vx_cwSW 2 X.ts gL_hangs_L_flown rfl rfl rfl (by decide +kernel) ⟨Nat.le_of_ble_eq_true rfl, Nat.le_of_ble_eq_true rfl⟩) rfl hl.1 rfl (Nat.le_of_ble_eq_true rfl) dL_hangs_238 ⟨by omega, by omega⟩ (fun r163 u9 H locs hw hP hS => ?_)
                  have hw := hw.symm
                  subst hw
                  refine lv_sipush (v := 400) hx hb dL_hangs_241 (by decide) ?_
                  refine lv_idiv hx hb dL_hangs_244 (by decide) ?_
                  refine lv_icmp_ne (tgt := 584) hx hb dL_hangs_245 (by decide) (fun c248 => ?_) (fun c248 => ?_)
                  · have h := gif_f c248 h
                    refine lv_iconst (v := 0) hx hb dL_hangs_584 (by decide) ?_
                    refine W.widen (k := (cn141 + 35)) (n := (sn141 + 210)) (by omega) (by omega) ?_
                    cases h
                    exact K585 _ _ _ hP hS (lv_sub hl [1, 2, 3, 4, 0, 5, 6] rfl)
                  · have h := gif_t c248 h
                    refine lv_aload_n hx hb dL_hangs_248 rfl (lv_at hl 1 rfl) ?_
                    refine lv_iload hx hb dL_hangs_249 (lv_at hl 6 rfl) ?_
                    obtain ⟨q166, hcq166, h⟩ := hb_some h
                    refine gcSW_i (As := [.ref (b 0), .int p8]) (rest := []) (BH := (fun (u : Unit) H => va_P (dC, dI) vwCl (hW N ca b I9 O116 J) H)) X hP hS (c_L_speedOf hlf hN hA I9 O116 J p8 q166 hcq166) (vx_cwSW 2 X.ts gL_hangs_L_speedOf rfl rfl rfl (by decide +kernel) ⟨Nat.le_of_ble_eq_true rfl, Nat.le_of_ble_eq_true rfl⟩) rfl hl.1 rfl (Nat.le_of_ble_eq_true rfl) dL_hangs_251 ⟨by omega, by omega⟩ (fun r165 u9 H locs hw hP hS => ?_)
                    have hw := hw.symm
                    subst hw
                    refine lv_if_lt (tgt := 584) hx hb dL_hangs_254 (by decide) (fun c247 => ?_) (fun c247 => ?_)
                    · have h := gif_t c247 h
                      refine lv_iconst (v := 0) hx hb dL_hangs_584 (by decide) ?_
                      refine W.widen (k := (cn141 + 35)) (n := (sn141 + 210)) (by omega) (by omega) ?_
                      cases h
                      exact K585 _ _ _ hP hS (lv_sub hl [1, 2, 3, 4, 0, 5, 6] rfl)
                    · have h := gif_f c247 h
                      refine lv_aload_n hx hb dL_hangs_257 rfl (lv_at hl 1 rfl) ?_
                      refine lv_iload hx hb dL_hangs_258 (lv_at hl 6 rfl) ?_
                      obtain ⟨q168, hcq168, h⟩ := hb_some h
                      refine gcSW_i (As := [.ref (b 0), .int p8]) (rest := []) (BH := (fun (u : Unit) H => va_P (dC, dI) vwCl (hW N ca b I9 O116 J) H)) X hP hS (c_L_speedOf hlf hN hA I9 O116 J p8 q168 hcq168) (vx_cwSW 2 X.ts gL_hangs_L_speedOf rfl rfl rfl (by decide +kernel) ⟨Nat.le_of_ble_eq_true rfl, Nat.le_of_ble_eq_true rfl⟩) rfl hl.1 rfl (Nat.le_of_ble_eq_true rfl) dL_hangs_260 ⟨by omega, by omega⟩ (fun r167 u9 H locs hw hP hS => ?_)
                      have hw := hw.symm
                      subst hw
                      refine lv_bipush (v := 42) hx hb dL_hangs_263 (by decide) ?_
                      refine lv_icmp_gt (tgt := 584) hx hb dL_hangs_265 (by decide) (fun c246 => ?_) (fun c246 => ?_)
                      · have h := gif_t c246 h
                        refine lv_iconst (v := 0) hx hb dL_hangs_584 (by decide) ?_
                        refine W.widen (k := (cn141 + 35)) (n := (sn141 + 210)) (by omega) (by omega) ?_
                        cases h
                        exact K585 _ _ _ hP hS (lv_sub hl [1, 2, 3, 4, 0, 5, 6] rfl)
                      · have h := gif_f c246 h
                        refine lv_aload_n hx hb dL_hangs_268 rfl (lv_at hl 1 rfl) ?_
                        refine lv_iload hx hb dL_hangs_269 (lv_at hl 6 rfl) ?_
                        obtain ⟨q170, hcq170, h⟩ := hb_some h
                        refine gcSW_i (As := [.ref (b 0), .int p8]) (rest := []) (BH := (fun (u : Unit) H => va_P (dC, dI) vwCl (hW N ca b I9 O116 J) H)) X hP hS (c_L_strengthOf hlf hN hA I9 O116 J p8 q170 hcq170) (vx_cwSW 2 X.ts gL_hangs_L_strengthOf rfl rfl rfl (by decide +kernel) ⟨Nat.le_of_ble_eq_true rfl, Nat.le_of_ble_eq_true rfl⟩) rfl hl.1 rfl (Nat.le_of_ble_eq_true rfl) dL_hangs_271 ⟨by omega, by omega⟩ (fun r169 u9 H locs hw hP hS => ?_)
                        have hw := hw.symm
                        subst hw
                        refine lv_if_lt (tgt := 584) hx hb dL_hangs_274 (by decide) (fun c245 => ?_) (fun c245 => ?_)
                        · have h := gif_t c245 h
                          refine lv_iconst (v := 0) hx hb dL_hangs_584 (by decide) ?_
                          refine W.widen (k := (cn141 + 35)) (n := (sn141 + 210)) (by omega) (by omega) ?_
                          cases h
                          exact K585 _ _ _ hP hS (lv_sub hl [1, 2, 3, 4, 0, 5, 6] rfl)
                        · have h := gif_f c245 h
                          refine lv_aload_n hx hb dL_hangs_277 rfl (lv_at hl 1 rfl) ?_
                          refine lv_iload hx hb dL_hangs_278 (lv_at hl 6 rfl) ?_
                          obtain ⟨q172, hcq172, h⟩ := hb_some h
                          refine gcSW_i (As := [.ref (b 0), .int p8]) (rest := []) (BH := (fun (u : Unit) H => va_P (dC, dI) vwCl (hW N ca b I9 O116 J) H)) X hP hS (c_L_strengthOf hlf hN hA I9 O116 J p8 q172 hcq172) (vx_cwSW 2 X.ts gL_hangs_L_strengthOf rfl rfl rfl (by decide +kernel) ⟨Nat.le_of_ble_eq_true rfl, Nat.le_of_ble_eq_true rfl⟩) rfl hl.1 rfl (Nat.le_of_ble_eq_true rfl) dL_hangs_280 ⟨by omega, by omega⟩ (fun r171 u9 H locs hw hP hS => ?_)
                          have hw := hw.symm
                          subst hw
                          refine lv_sipush (v := 999) hx hb dL_hangs_283 (by decide) ?_
                          refine lv_icmp_gt (tgt := 584) hx hb dL_hangs_286 (by decide) (fun c244 => ?_) (fun c244 => ?_)
                          · have h := gif_t c244 h
                            refine lv_iconst (v := 0) hx hb dL_hangs_584 (by decide) ?_
                            refine W.widen (k := (cn141 + 35)) (n := (sn141 + 210)) (by omega) (by omega) ?_
                            cases h
                            exact K585 _ _ _ hP hS (lv_sub hl [1, 2, 3, 4, 0, 5, 6] rfl)
                          · have h := gif_f c244 h
                            refine lv_aload_n hx hb dL_hangs_289 rfl (lv_at hl 1 rfl) ?_
                            refine lv_iload hx hb dL_hangs_290 (lv_at hl 6 rfl) ?_
                            obtain ⟨q174, hcq174, h⟩ := hb_some h
                            refine gcSW_i (As := [.ref (b 0), .int p8]) (rest := []) (BH := (fun (u : Unit) H => va_P (dC, dI) vwCl (hW N ca b I9 O116 J) H)) X hP hS (c_L_wearOf hlf hN hA I9 O116 J p8 q174 hcq174) (vx_cwSW 2 X.ts gL_hangs_L_wearOf rfl rfl rfl (by decide +kernel) ⟨Nat.le_of_ble_eq_true rfl, Nat.le_of_ble_eq_true rfl⟩) rfl hl.1 rfl (Nat.le_of_ble_eq_true rfl) dL_hangs_292 ⟨by omega, by omega⟩ (fun r173 u9 H locs hw hP hS => ?_)
                            have hw := hw.symm
                            subst hw
                            refine lv_if_lt (tgt := 584) hx hb dL_hangs_295 (by decide) (fun c243 => ?_) (fun c243 => ?_)
                            · have h := gif_t c243 h
                              refine lv_iconst (v := 0) hx hb dL_hangs_584 (by decide) ?_
                              refine W.widen (k := (cn141 + 35)) (n := (sn141 + 210)) (by omega) (by omega) ?_
                              cases h
                              exact K585 _ _ _ hP hS (lv_sub hl [1, 2, 3, 4, 0, 5, 6] rfl)
                            · have h := gif_f c243 h
                              refine lv_aload_n hx hb dL_hangs_298 rfl (lv_at hl 1 rfl) ?_
                              refine lv_iload hx hb dL_hangs_299 (lv_at hl 6 rfl) ?_
                              obtain ⟨q176, hcq176, h⟩ := hb_some h
                              refine gcSW_i (As := [.ref (b 0), .int p8]) (rest := []) (BH := (fun (u : Unit) H => va_P (dC, dI) vwCl (hW N ca b I9 O116 J) H)) X hP hS (c_L_wearOf hlf hN hA I9 O116 J p8 q176 hcq176) (vx_cwSW 2 X.ts gL_hangs_L_wearOf rfl rfl rfl (by decide +kernel) ⟨Nat.le_of_ble_eq_true rfl, Nat.le_of_ble_eq_true rfl⟩) rfl hl.1 rfl (Nat.le_of_ble_eq_true rfl) dL_hangs_301 ⟨by omega, by omega⟩ (fun r175 u9 H locs hw hP hS => ?_)
                              have hw := hw.symm
                              subst hw
                              refine lv_bipush (v := 100) hx hb dL_hangs_304 (by decide) ?_
                              refine lv_icmp_gt (tgt := 584) hx hb dL_hangs_306 (by decide) (fun c242 => ?_) (fun c242 => ?_)
                              · have h := gif_t c242 h
                                refine lv_iconst (v := 0) hx hb dL_hangs_584 (by decide) ?_
                                refine W.widen (k := (cn141 + 35)) (n := (sn141 + 210)) (by omega) (by omega) ?_
                                cases h
                                exact K585 _ _ _ hP hS (lv_sub hl [1, 2, 3, 4, 0, 5, 6] rfl)
                              · have h := gif_f c242 h
                                refine lv_aload_n hx hb dL_hangs_309 rfl (lv_at hl 1 rfl) ?_
                                refine lv_iload hx hb dL_hangs_310 (lv_at hl 6 rfl) ?_
                                obtain ⟨q178, hcq178, h⟩ := hb_some h
                                refine gcSW_i (As := [.ref (b 0), .int p8]) (rest := []) (BH := (fun (u : Unit) H => va_P (dC, dI) vwCl (hW N ca b I9 O116 J) H)) X hP hS (c_L_laneOf hlf hN hA I9 O116 J p8 q178 hcq178) (vx_cwSW 2 X.ts gL_hangs_L_laneOf rfl rfl rfl (by decide +kernel) ⟨Nat.le_of_ble_eq_true rfl, Nat.le_of_ble_eq_true rfl⟩) rfl hl.1 rfl (Nat.le_of_ble_eq_true rfl) dL_hangs_312 ⟨by omega, by omega⟩ (fun r177 u9 H locs hw hP hS => ?_)
                                have hw := hw.symm
                                subst hw
                                refine lv_if_lt (tgt := 584) hx hb dL_hangs_315 (by decide) (fun c241 => ?_) (fun c241 => ?_)
                                · have h := gif_t c241 h
                                  refine lv_iconst (v := 0) hx hb dL_hangs_584 (by decide) ?_
                                  refine W.widen (k := (cn141 + 35)) (n := (sn141 + 210)) (by omega) (by omega) ?_
                                  cases h
                                  exact K585 _ _ _ hP hS (lv_sub hl [1, 2, 3, 4, 0, 5, 6] rfl)
                                · have h := gif_f c241 h
                                  refine lv_aload_n hx hb dL_hangs_318 rfl (lv_at hl 1 rfl) ?_
                                  refine lv_iload hx hb dL_hangs_319 (lv_at hl 6 rfl) ?_
                                  obtain ⟨q180, hcq180, h⟩ := hb_some h
                                  refine gcSW_i (As := [.ref (b 0), .int p8]) (rest := []) (BH := (fun (u : Unit) H => va_P (dC, dI) vwCl (hW N ca b I9 O116 J) H)) X hP hS (c_L_laneOf hlf hN hA I9 O116 J p8 q180 hcq180) (vx_cwSW 2 X.ts gL_hangs_L_laneOf rfl rfl rfl (by decide +kernel) ⟨Nat.le_of_ble_eq_true rfl, Nat.le_of_ble_eq_true rfl⟩) rfl hl.1 rfl (Nat.le_of_ble_eq_true rfl) dL_hangs_321 ⟨by omega, by omega⟩ (fun r179 u9 H locs hw hP hS => ?_)
                                  have hw := hw.symm
                                  subst hw
                                  refine lv_iconst (v := 2) hx hb dL_hangs_324 (by decide) ?_
                                  refine lv_icmp_ge (tgt := 584) hx hb dL_hangs_325 (by decide) (fun c240 => ?_) (fun c240 => ?_)
                                  · have h := gif_t c240 h
                                    refine lv_iconst (v := 0) hx hb dL_hangs_584 (by decide) ?_
                                    refine W.widen (k := (cn141 + 35)) (n := (sn141 + 210)) (by omega) (by omega) ?_
                                    cases h
                                    exact K585 _ _ _ hP hS (lv_sub hl [1, 2, 3, 4, 0, 5, 6] rfl)
                                  · have h := gif_f c240 h
                                    refine lv_iload hx hb dL_hangs_328 (lv_at hl 9 rfl) ?_
                                    refine lv_if_lt (tgt := 584) hx hb dL_hangs_330 (by decide) (fun c239 => ?_) (fun c239 => ?_)
                                    · have h := gif_t c239 h
                                      refine lv_iconst (v := 0) hx hb dL_hangs_584 (by decide) ?_
                                      refine W.widen (k := (cn141 + 35)) (n := (sn141 + 210)) (by omega) (by omega) ?_
                                      cases h
                                      exact K585 _ _ _ hP hS (lv_sub hl [1, 2, 3, 4, 0, 5, 6] rfl)
                                    · have h := gif_f c239 h
                                      refine lv_iload hx hb dL_hangs_333 (lv_at hl 9 rfl) ?_
                                      refine lv_iconst (v := 4) hx hb dL_hangs_335 (by decide) ?_
                                      refine lv_icmp_ge (tgt := 584) hx hb dL_hangs_336 (by decide) (fun c238 => ?_) (fun c238 => ?_)
                                      · have h := gif_t c238 h
                                        refine lv_iconst (v := 0) hx hb dL_hangs_584 (by decide) ?_
                                        refine W.widen (k := (cn141 + 35)) (n := (sn141 + 210)) (by omega) (by omega) ?_
                                        cases h
                                        exact K585 _ _ _ hP hS (lv_sub hl [1, 2, 3, 4, 0, 5, 6] rfl)
                                      · have h := gif_f c238 h
                                        refine lv_aload_n hx hb dL_hangs_339 rfl (lv_at hl 1 rfl) ?_
                                        refine lv_iload hx hb dL_hangs_340 (lv_at hl 6 rfl) ?_
                                        obtain ⟨q182, hcq182, h⟩ := hb_some h
                                        refine gcSW_i (As := [.ref (b 0), .int p8]) (rest := []) (BH := (fun (u : Unit) H => va_P (dC, dI) vwCl (hW N ca b I9 O116 J) H)) X hP hS (c_L_paceOf hlf hN hA I9 O116 J p8 q182 hcq182) (vx_cwSW 2 X.ts gL_hangs_L_paceOf rfl rfl rfl (by decide +kernel) ⟨Nat.le_of_ble_eq_true rfl, Nat.le_of_ble_eq_true rfl⟩) rfl hl.1 rfl (Nat.le_of_ble_eq_true rfl) dL_hangs_342 ⟨by omega, by omega⟩ (fun r181 u9 H locs hw hP hS => ?_)
                                        have hw := hw.symm
                                        subst hw
                                        refine lv_bipush (v := 10) hx hb dL_hangs_345 (by decide) ?_
                                        refine lv_icmp_lt (tgt := 584) hx hb dL_hangs_347 (by decide) (fun c237 => ?_) (fun c237 => ?_)
                                        · have h := gif_t c237 h
                                          refine lv_iconst (v := 0) hx hb dL_hangs_584 (by decide) ?_
                                          refine W.widen (k := (cn141 + 35)) (n := (sn141 + 210)) (by omega) (by omega) ?_
                                          cases h
                                          exact K585 _ _ _ hP hS (lv_sub hl [1, 2, 3, 4, 0, 5, 6] rfl)
                                        · have h := gif_f c237 h
                                          refine lv_aload_n hx hb dL_hangs_350 rfl (lv_at hl 1 rfl) ?_
                                          refine lv_iload hx hb dL_hangs_351 (lv_at hl 6 rfl) ?_
                                          obtain ⟨q184, hcq184, h⟩ := hb_some h
                                          refine gcSW_i (As := [.ref (b 0), .int p8]) (rest := []) (BH := (fun (u : Unit) H => va_P (dC, dI) vwCl (hW N ca b I9 O116 J) H)) X hP hS (c_L_paceOf hlf hN hA I9 O116 J p8 q184 hcq184) (vx_cwSW 2 X.ts gL_hangs_L_paceOf rfl rfl rfl (by decide +kernel) ⟨Nat.le_of_ble_eq_true rfl, Nat.le_of_ble_eq_true rfl⟩) rfl hl.1 rfl (Nat.le_of_ble_eq_true rfl) dL_hangs_353 ⟨by omega, by omega⟩ (fun r183 u9 H locs hw hP hS => ?_)
                                          have hw := hw.symm
                                          subst hw
                                          refine lv_bipush (v := 40) hx hb dL_hangs_356 (by decide) ?_
                                          refine lv_icmp_gt (tgt := 584) hx hb dL_hangs_358 (by decide) (fun c236 => ?_) (fun c236 => ?_)
                                          · have h := gif_t c236 h
                                            refine lv_iconst (v := 0) hx hb dL_hangs_584 (by decide) ?_
                                            refine W.widen (k := (cn141 + 35)) (n := (sn141 + 210)) (by omega) (by omega) ?_
                                            cases h
                                            exact K585 _ _ _ hP hS (lv_sub hl [1, 2, 3, 4, 0, 5, 6] rfl)
                                          · have h := gif_f c236 h
                                            refine lv_iload hx hb dL_hangs_361 (lv_at hl 7 rfl) ?_
                                            refine lv_bipush (v := (-4)) hx hb dL_hangs_363 (by decide) ?_
                                            obtain ⟨j185, ej185, h⟩ := hlet_ex h
                                            have K386 : ∀ (H : Heap) (locs : List Loc) (ls : Array Slot), j185 () = some p119 → va_P (dC, dI) vwCl (hW N ca b I9 O116 J) H → va_S A s.heap H locs → lv_has ls 11 [(0, .ref (b 0)), (1, .int r1), (2, .int (p4 + r110)), (3, .int (p5 + p112)), (4, .int (p6 + p113)), (5, .int (0 : Int32)), (7, .int p8), (9, .int r106), (10, .int r108)] → W p l e (headSpec wsL_hangs ({ frames := 10, cells := 1014, slots := 6084, locals := 193 } : Room)).room s m ([.ref (b 0)] : List Value).toArray below meth c H locs (cn141 + 21) (sn141 + 126) (MQ below (va_Qi (fun (r : Int32) (u : (Nat → Nat → Int32) × (Nat → Nat → Option Nat)) => res = (r, u)) (fun (u : (Nat → Nat → Int32) × (Nat → Nat → Option Nat)) t => va_P (dC, dI) vwCl (hW N ca b u.1 u.2 J) t.heap) A) ([.ref (b 0)] : List Value).toArray s 1014 6084 A) (F0 m 386 ls []) := by
                                              intro H locs ls h hP hS hl
                                              rw [ej185] at h
                                              refine lv_iload hx hb dL_hangs_386 (lv_at hl 7 rfl) ?_
                                              refine lv_if_lt (tgt := 584) hx hb dL_hangs_388 (by decide) (fun c230 => ?_) (fun c230 => ?_)
                                              · have h := gif_t c230 h
                                                refine lv_iconst (v := 0) hx hb dL_hangs_584 (by decide) ?_
                                                refine W.widen (k := (cn141 + 35)) (n := (sn141 + 210)) (by omega) (by omega) ?_
                                                cases h
                                                exact K585 _ _ _ hP hS (lv_sub hl [0, 1, 2, 3, 4, 5, 6] rfl)
                                              · have h := gif_f c230 h
                                                refine lv_iload hx hb dL_hangs_391 (lv_at hl 7 rfl) ?_
                                                refine lv_sipush (v := 400) hx hb dL_hangs_393 (by decide) ?_
                                                refine lv_icmp_gt (tgt := 584) hx hb dL_hangs_396 (by decide) (fun c229 => ?_) (fun c229 => ?_)
                                                · have h := gif_t c229 h
                                                  refine lv_iconst (v := 0) hx hb dL_hangs_584 (by decide) ?_
                                                  refine W.widen (k := (cn141 + 35)) (n := (sn141 + 210)) (by omega) (by omega) ?_
                                                  cases h
                                                  exact K585 _ _ _ hP hS (lv_sub hl [0, 1, 2, 3, 4, 5, 6] rfl)
                                                · have h := gif_f c229 h
                                                  refine lv_aload_n hx hb dL_hangs_399 rfl (lv_at hl 0 rfl) ?_
                                                  refine lv_iload hx hb dL_hangs_400 (lv_at hl 6 rfl) ?_
                                                  obtain ⟨q187, hcq187, h⟩ := hb_some h
                                                  refine gcSW_i (As := [.ref (b 0), .int p8]) (rest := []) (BH := (fun (u : Unit) H => va_P (dC, dI) vwCl (hW N ca b I9 O116 J) H)) X hP hS (c_L_whereIs hlf hN hA I9 O116 J p8 q187 hcq187) (vx_cwSW 2 X.ts gL_hangs_L_whereIs rfl rfl rfl (by decide +kernel) ⟨Nat.le_of_ble_eq_true rfl, Nat.le_of_ble_eq_true rfl⟩) rfl hl.1 rfl (Nat.le_of_ble_eq_true rfl) dL_hangs_402 ⟨by omega, by omega⟩ (fun r186 u9 H locs hw hP hS => ?_)
                                                  have hw := hw.symm
                                                  subst hw
                                                  refine lv_aload_n hx hb dL_hangs_405 rfl (lv_at hl 0 rfl) ?_
                                                  refine lv_iload hx hb dL_hangs_406 (lv_at hl 6 rfl) ?_
                                                  obtain ⟨q189, hcq189, h⟩ := hb_some h
                                                  refine gcSW_i (As := [.ref (b 0), .int p8]) (rest := [.int r186]) (BH := (fun (u : Unit) H => va_P (dC, dI) vwCl (hW N ca b I9 O116 J) H)) X hP hS (c_L_flown hlf hN hA I9 O116 J p8 q189 hcq189) (vx_cwSW 2 X.ts gL_hangs_L_flown rfl rfl rfl (by decide +kernel) ⟨Nat.le_of_ble_eq_true rfl, Nat.le_of_ble_eq_true rfl⟩) rfl hl.1 rfl (Nat.le_of_ble_eq_true rfl) dL_hangs_408 ⟨by omega, by omega⟩ (fun r188 u9 H locs hw hP hS => ?_)
                                                  have hw := hw.symm
                                                  subst hw
                                                  refine lv_bipush (v := 100) hx hb dL_hangs_411 (by decide) ?_
                                                  refine lv_irem hx hb dL_hangs_413 (by decide) ?_
                                                  refine lv_bipush (v := 70) hx hb dL_hangs_414 (by decide) ?_
                                                  obtain ⟨p190, hv, h⟩ := hb_some h
                                                  have K450 : ∀ (H : Heap) (locs : List Loc) (ls : Array Slot), va_P (dC, dI) vwCl (hW N ca b I9 O116 J) H → va_S A s.heap H locs → lv_has ls 11 [(0, .ref (b 0)), (1, .int r1), (2, .int (p4 + r110)), (3, .int (p5 + p112)), (4, .int (p6 + p113)), (5, .int (0 : Int32)), (7, .int p8), (9, .int r106), (10, .int r108)] → W p l e (headSpec wsL_hangs ({ frames := 10, cells := 1014, slots := 6084, locals := 193 } : Room)).room s m ([.ref (b 0)] : List Value).toArray below meth c H locs (cn141 + 25) (sn141 + 150) (MQ below (va_Qi (fun (r : Int32) (u : (Nat → Nat → Int32) × (Nat → Nat → Option Nat)) => res = (r, u)) (fun (u : (Nat → Nat → Int32) × (Nat → Nat → Option Nat)) t => va_P (dC, dI) vwCl (hW N ca b u.1 u.2 J) t.heap) A) ([.ref (b 0)] : List Value).toArray s 1014 6084 A) (F0 m 450 ls [.int p190, .int r186]) := by
                                                    intro H locs ls hP hS hl
                                                    refine lv_icmp_ne (tgt := 584) hx hb dL_hangs_450 (by decide) (fun c223 => ?_) (fun c223 => ?_)
                                                    · have h := gif_f c223 h
                                                      refine lv_iconst (v := 0) hx hb dL_hangs_584 (by decide) ?_
                                                      refine W.widen (k := (cn141 + 35)) (n := (sn141 + 210)) (by omega) (by omega) ?_
                                                      cases h
                                                      exact K585 _ _ _ hP hS (lv_sub hl [0, 1, 2, 3, 4, 5, 6] rfl)
                                                    · have h := gif_t c223 h
                                                      refine lv_iload hx hb dL_hangs_453 (lv_at hl 8 rfl) ?_
                                                      refine lv_iconst (v := 3) hx hb dL_hangs_455 (by decide) ?_
                                                      obtain ⟨p191, hv, h⟩ := hb_some h
                                                      have K464 : ∀ (H : Heap) (locs : List Loc) (ls : Array Slot), va_P (dC, dI) vwCl (hW N ca b I9 O116 J) H → va_S A s.heap H locs → lv_has ls 11 [(0, .ref (b 0)), (1, .int r1), (2, .int (p4 + r110)), (3, .int (p5 + p112)), (4, .int (p6 + p113)), (5, .int (0 : Int32)), (7, .int p8), (9, .int r106), (10, .int r108)] → W p l e (headSpec wsL_hangs ({ frames := 10, cells := 1014, slots := 6084, locals := 193 } : Room)).room s m ([.ref (b 0)] : List Value).toArray below meth c H locs (cn141 + 25) (sn141 + 150) (MQ below (va_Qi (fun (r : Int32) (u : (Nat → Nat → Int32) × (Nat → Nat → Option Nat)) => res = (r, u)) (fun (u : (Nat → Nat → Int32) × (Nat → Nat → Option Nat)) t => va_P (dC, dI) vwCl (hW N ca b u.1 u.2 J) t.heap) A) ([.ref (b 0)] : List Value).toArray s 1014 6084 A) (F0 m 464 ls [.int p191]) := by
                                                        intro H locs ls hP hS hl
                                                        refine lv_aload_n hx hb dL_hangs_464 rfl (lv_at hl 0 rfl) ?_
                                                        refine lv_iload hx hb dL_hangs_465 (lv_at hl 6 rfl) ?_
                                                        obtain ⟨q193, hcq193, h⟩ := hb_some h
                                                        refine gcSW_i (As := [.ref (b 0), .int p8]) (rest := [.int p191]) (BH := (fun (u : Unit) H => va_P (dC, dI) vwCl (hW N ca b I9 O116 J) H)) X hP hS (c_L_timeOf hlf hN hA I9 O116 J p8 q193 hcq193) (vx_cwSW 2 X.ts gL_hangs_L_timeOf rfl rfl rfl (by decide +kernel) ⟨Nat.le_of_ble_eq_true rfl, Nat.le_of_ble_eq_true rfl⟩) rfl hl.1 rfl (Nat.le_of_ble_eq_true rfl) dL_hangs_467 ⟨by omega, by omega⟩ (fun r192 u9 H locs hw hP hS => ?_)
                                                        have hw := hw.symm
                                                        subst hw
                                                        obtain ⟨p194, hv, h⟩ := hb_some h
                                                        have K478 : ∀ (H : Heap) (locs : List Loc) (ls : Array Slot), va_P (dC, dI) vwCl (hW N ca b I9 O116 J) H → va_S A s.heap H locs → lv_has ls 11 [(0, .ref (b 0)), (1, .int r1), (2, .int (p4 + r110)), (3, .int (p5 + p112)), (4, .int (p6 + p113)), (5, .int (0 : Int32)), (7, .int p8), (9, .int r106), (10, .int r108)] → W p l e (headSpec wsL_hangs ({ frames := 10, cells := 1014, slots := 6084, locals := 193 } : Room)).room s m ([.ref (b 0)] : List Value).toArray below meth c H locs (cn141 + 27) (sn141 + 162) (MQ below (va_Qi (fun (r : Int32) (u : (Nat → Nat → Int32) × (Nat → Nat → Option Nat)) => res = (r, u)) (fun (u : (Nat → Nat → Int32) × (Nat → Nat → Option Nat)) t => va_P (dC, dI) vwCl (hW N ca b u.1 u.2 J) t.heap) A) ([.ref (b 0)] : List Value).toArray s 1014 6084 A) (F0 m 478 ls [.int p194, .int p191]) := by
                                                          intro H locs ls hP hS hl
                                                          refine lv_icmp_ne (tgt := 584) hx hb dL_hangs_478 (by decide) (fun c220 => ?_) (fun c220 => ?_)
                                                          · have h := gif_f c220 h
                                                            refine lv_iconst (v := 0) hx hb dL_hangs_584 (by decide) ?_
                                                            refine W.widen (k := (cn141 + 35)) (n := (sn141 + 210)) (by omega) (by omega) ?_
                                                            cases h
                                                            exact K585 _ _ _ hP hS (lv_sub hl [0, 1, 2, 3, 4, 5, 6] rfl)
                                                          · have h := gif_t c220 h
                                                            refine lv_iload hx hb dL_hangs_481 (lv_at hl 8 rfl) ?_
                                                            refine lv_iconst (v := 1) hx hb dL_hangs_483 (by decide) ?_
                                                            obtain ⟨p195, hv, h⟩ := hb_some h
                                                            have K492 : ∀ (H : Heap) (locs : List Loc) (ls : Array Slot), va_P (dC, dI) vwCl (hW N ca b I9 O116 J) H → va_S A s.heap H locs → lv_has ls 11 [(0, .ref (b 0)), (1, .int r1), (2, .int (p4 + r110)), (3, .int (p5 + p112)), (4, .int (p6 + p113)), (5, .int (0 : Int32)), (7, .int p8), (9, .int r106), (10, .int r108)] → W p l e (headSpec wsL_hangs ({ frames := 10, cells := 1014, slots := 6084, locals := 193 } : Room)).room s m ([.ref (b 0)] : List Value).toArray below meth c H locs (cn141 + 27) (sn141 + 162) (MQ below (va_Qi (fun (r : Int32) (u : (Nat → Nat → Int32) × (Nat → Nat → Option Nat)) => res = (r, u)) (fun (u : (Nat → Nat → Int32) × (Nat → Nat → Option Nat)) t => va_P (dC, dI) vwCl (hW N ca b u.1 u.2 J) t.heap) A) ([.ref (b 0)] : List Value).toArray s 1014 6084 A) (F0 m 492 ls [.int p195]) := by
                                                              intro H locs ls hP hS hl
                                                              refine lv_aload_n hx hb dL_hangs_492 rfl (lv_at hl 0 rfl) ?_
                                                              refine lv_iload hx hb dL_hangs_493 (lv_at hl 6 rfl) ?_
                                                              obtain ⟨q197, hcq197, h⟩ := hb_some h
                                                              refine gcSW_i (As := [.ref (b 0), .int p8]) (rest := [.int p195]) (BH := (fun (u : Unit) H => va_P (dC, dI) vwCl (hW N ca b I9 O116 J) H)) X hP hS (c_L_allowance hlf hN hA I9 O116 J p8 q197 hcq197) (vx_cwSW 2 X.ts gL_hangs_L_allowance rfl rfl rfl (by decide +kernel) ⟨Nat.le_of_ble_eq_true rfl, Nat.le_of_ble_eq_true rfl⟩) rfl hl.1 rfl (Nat.le_of_ble_eq_true rfl) dL_hangs_495 ⟨by omega, by omega⟩ (fun r196 u9 H locs hw hP hS => ?_)
                                                              have hw := hw.symm
                                                              subst hw
                                                              refine lv_iconst (v := 4) hx hb dL_hangs_498 (by decide) ?_
                                                              obtain ⟨p198, hv, h⟩ := hb_some h
                                                              have K507 : ∀ (H : Heap) (locs : List Loc) (ls : Array Slot), va_P (dC, dI) vwCl (hW N ca b I9 O116 J) H → va_S A s.heap H locs → lv_has ls 11 [(0, .ref (b 0)), (1, .int r1), (2, .int (p4 + r110)), (3, .int (p5 + p112)), (4, .int (p6 + p113)), (5, .int (0 : Int32)), (7, .int p8), (9, .int r106), (10, .int r108)] → W p l e (headSpec wsL_hangs ({ frames := 10, cells := 1014, slots := 6084, locals := 193 } : Room)).room s m ([.ref (b 0)] : List Value).toArray below meth c H locs (cn141 + 29) (sn141 + 174) (MQ below (va_Qi (fun (r : Int32) (u : (Nat → Nat → Int32) × (Nat → Nat → Option Nat)) => res = (r, u)) (fun (u : (Nat → Nat → Int32) × (Nat → Nat → Option Nat)) t => va_P (dC, dI) vwCl (hW N ca b u.1 u.2 J) t.heap) A) ([.ref (b 0)] : List Value).toArray s 1014 6084 A) (F0 m 507 ls [.int p198, .int p195]) := by
                                                                intro H locs ls hP hS hl
                                                                refine lv_icmp_ne (tgt := 584) hx hb dL_hangs_507 (by decide) (fun c217 => ?_) (fun c217 => ?_)
                                                                · have h := gif_f c217 h
                                                                  refine lv_iconst (v := 0) hx hb dL_hangs_584 (by decide) ?_
                                                                  refine W.widen (k := (cn141 + 35)) (n := (sn141 + 210)) (by omega) (by omega) ?_
                                                                  cases h
                                                                  exact K585 _ _ _ hP hS (lv_sub hl [0, 1, 2, 3, 4, 5, 6] rfl)
                                                                · have h := gif_t c217 h
                                                                  refine lv_iload hx hb dL_hangs_510 (lv_at hl 8 rfl) ?_
                                                                  refine lv_iconst (v := 1) hx hb dL_hangs_512 (by decide) ?_
                                                                  obtain ⟨j199, ej199, h⟩ := hlet_ex h
                                                                  have K556 : ∀ (H : Heap) (locs : List Loc) (ls : Array Slot), j199 () = some p119 → va_P (dC, dI) vwCl (hW N ca b I9 O116 J) H → va_S A s.heap H locs → lv_has ls 11 [(0, .ref (b 0)), (1, .int r1), (2, .int (p4 + r110)), (3, .int (p5 + p112)), (4, .int (p6 + p113)), (5, .int (0 : Int32)), (7, .int p8), (10, .int r108)] → W p l e (headSpec wsL_hangs ({ frames := 10, cells := 1014, slots := 6084, locals := 193 } : Room)).room s m ([.ref (b 0)] : List Value).toArray below meth c H locs (cn141 + 33) (sn141 + 198) (MQ below (va_Qi (fun (r : Int32) (u : (Nat → Nat → Int32) × (Nat → Nat → Option Nat)) => res = (r, u)) (fun (u : (Nat → Nat → Int32) × (Nat → Nat → Option Nat)) t => va_P (dC, dI) vwCl (hW N ca b u.1 u.2 J) t.heap) A) ([.ref (b 0)] : List Value).toArray s 1014 6084 A) (F0 m 556 ls []) := by
                                                                    intro H locs ls h hP hS hl
                                                                    rw [ej199] at h
                                                                    refine lv_iload hx hb dL_hangs_556 (lv_at hl 7 rfl) ?_
                                                                    refine lv_iconst (v := 3) hx hb dL_hangs_558 (by decide) ?_
                                                                    refine lv_icmp_ne (tgt := 580) hx hb dL_hangs_559 (by decide) (fun c206 => ?_) (fun c206 => ?_)
                                                                    · have h := gif_f c206 h
                                                                      refine lv_iconst (v := 1) hx hb dL_hangs_580 (by decide) ?_
                                                                      refine lv_goto (tgt := 585) hx hb dL_hangs_581 (by decide) ?_
                                                                      refine W.widen (k := (cn141 + 35)) (n := (sn141 + 210)) (by omega) (by omega) ?_
                                                                      cases h
                                                                      exact K585 _ _ _ hP hS (lv_sub hl [0, 1, 2, 3, 4, 5, 6] rfl)
                                                                    · have h := gif_t c206 h
                                                                      refine lv_aload_n hx hb dL_hangs_562 rfl (lv_at hl 0 rfl) ?_
                                                                      refine lv_iload hx hb dL_hangs_563 (lv_at hl 6 rfl) ?_
                                                                      obtain ⟨q201, hcq201, h⟩ := hb_some h
                                                                      refine gcSW_i (As := [.ref (b 0), .int p8]) (rest := []) (BH := (fun (u : Unit) H => va_P (dC, dI) vwCl (hW N ca b I9 O116 J) H)) X hP hS (c_L_isCalledIn hlf hN hA I9 O116 J p8 q201 hcq201) (vx_cwSW 2 X.ts gL_hangs_L_isCalledIn rfl rfl rfl (by decide +kernel) ⟨Nat.le_of_ble_eq_true rfl, Nat.le_of_ble_eq_true rfl⟩) rfl hl.1 rfl (Nat.le_of_ble_eq_true rfl) dL_hangs_565 ⟨by omega, by omega⟩ (fun r200 u9 H locs hw hP hS => ?_)
                                                                      have hw := hw.symm
                                                                      subst hw
                                                                      refine lv_if_eq (tgt := 580) hx hb dL_hangs_568 (by decide) (fun c205 => ?_) (fun c205 => ?_)
                                                                      · have h := gif_t c205 h
                                                                        refine lv_iconst (v := 1) hx hb dL_hangs_580 (by decide) ?_
                                                                        refine lv_goto (tgt := 585) hx hb dL_hangs_581 (by decide) ?_
                                                                        refine W.widen (k := (cn141 + 35)) (n := (sn141 + 210)) (by omega) (by omega) ?_
                                                                        cases h
                                                                        exact K585 _ _ _ hP hS (lv_sub hl [0, 1, 2, 3, 4, 5, 6] rfl)
                                                                      · have h := gif_f c205 h
                                                                        refine lv_aload_n hx hb dL_hangs_571 rfl (lv_at hl 0 rfl) ?_
                                                                        refine lv_iload hx hb dL_hangs_572 (lv_at hl 6 rfl) ?_
                                                                        obtain ⟨q203, hcq203, h⟩ := hb_some h
                                                                        refine gcSW_i (As := [.ref (b 0), .int p8]) (rest := []) (BH := (fun (u : Unit) H => va_P (dC, dI) vwCl (hW N ca b I9 O116 J) H)) X hP hS (c_L_lapsOf hlf hN hA I9 O116 J p8 q203 hcq203) (vx_cwSW 2 X.ts gL_hangs_L_lapsOf rfl rfl rfl (by decide +kernel) ⟨Nat.le_of_ble_eq_true rfl, Nat.le_of_ble_eq_true rfl⟩) rfl hl.1 rfl (Nat.le_of_ble_eq_true rfl) dL_hangs_574 ⟨by omega, by omega⟩ (fun r202 u9 H locs hw hP hS => ?_)
                                                                        have hw := hw.symm
                                                                        subst hw
                                                                        refine lv_if_le (tgt := 584) hx hb dL_hangs_577 (by decide) (fun c204 => ?_) (fun c204 => ?_)
                                                                        · have h := gif_t c204 h
                                                                          refine lv_iconst (v := 0) hx hb dL_hangs_584 (by decide) ?_
                                                                          cases h
                                                                          exact K585 _ _ _ hP hS (lv_sub hl [0, 1, 2, 3, 4, 5, 6] rfl)
                                                                        · have h := gif_f c204 h
                                                                          refine lv_iconst (v := 1) hx hb dL_hangs_580 (by decide) ?_
                                                                          refine lv_goto (tgt := 585) hx hb dL_hangs_581 (by decide) ?_
                                                                          cases h
                                                                          exact K585 _ _ _ hP hS (lv_sub hl [0, 1, 2, 3, 4, 5, 6] rfl)
                                                                  refine lv_icmp_ne (tgt := 545) hx hb dL_hangs_513 (by decide) (fun c216 => ?_) (fun c216 => ?_)
                                                                  · have h := gif_f c216 h
                                                                    refine lv_aload_n hx hb dL_hangs_545 rfl (lv_at hl 0 rfl) ?_
                                                                    refine lv_iload hx hb dL_hangs_546 (lv_at hl 6 rfl) ?_
                                                                    obtain ⟨q208, hcq208, h⟩ := hb_some h
                                                                    refine gcSW_i (As := [.ref (b 0), .int p8]) (rest := []) (BH := (fun (u : Unit) H => va_P (dC, dI) vwCl (hW N ca b I9 O116 J) H)) X hP hS (c_L_isDrafting hlf hN hA I9 O116 J p8 q208 hcq208) (vx_cwSW 2 X.ts gL_hangs_L_isDrafting rfl rfl rfl (by decide +kernel) ⟨Nat.le_of_ble_eq_true rfl, Nat.le_of_ble_eq_true rfl⟩) rfl hl.1 rfl (Nat.le_of_ble_eq_true rfl) dL_hangs_548 ⟨by omega, by omega⟩ (fun r207 u9 H locs hw hP hS => ?_)
                                                                    have hw := hw.symm
                                                                    subst hw
                                                                    refine lv_bipush (v := (-4)) hx hb dL_hangs_551 (by decide) ?_
                                                                    refine lv_icmp_ne (tgt := 584) hx hb dL_hangs_553 (by decide) (fun c209 => ?_) (fun c209 => ?_)
                                                                    · have h := gif_f c209 h
                                                                      refine lv_iconst (v := 0) hx hb dL_hangs_584 (by decide) ?_
                                                                      refine W.widen (k := (cn141 + 35)) (n := (sn141 + 210)) (by omega) (by omega) ?_
                                                                      cases h
                                                                      exact K585 _ _ _ hP hS (lv_sub hl [0, 1, 2, 3, 4, 5, 6] rfl)
                                                                    · have h := gif_t c209 h
                                                                      refine W.widen (k := (cn141 + 33)) (n := (sn141 + 198)) (by omega) (by omega) ?_
                                                                      exact K556 _ _ _ h hP hS (lv_sub hl [0, 1, 2, 3, 4, 5, 6, 8] rfl)
                                                                  · have h := gif_t c216 h
                                                                    refine lv_aload_n hx hb dL_hangs_516 rfl (lv_at hl 0 rfl) ?_
                                                                    refine lv_iload hx hb dL_hangs_517 (lv_at hl 6 rfl) ?_
                                                                    obtain ⟨q211, hcq211, h⟩ := hb_some h
                                                                    refine gcSW_i (As := [.ref (b 0), .int p8]) (rest := []) (BH := (fun (u : Unit) H => va_P (dC, dI) vwCl (hW N ca b I9 O116 J) H)) X hP hS (c_L_isDrafting hlf hN hA I9 O116 J p8 q211 hcq211) (vx_cwSW 2 X.ts gL_hangs_L_isDrafting rfl rfl rfl (by decide +kernel) ⟨Nat.le_of_ble_eq_true rfl, Nat.le_of_ble_eq_true rfl⟩) rfl hl.1 rfl (Nat.le_of_ble_eq_true rfl) dL_hangs_519 ⟨by omega, by omega⟩ (fun r210 u9 H locs hw hP hS => ?_)
                                                                    have hw := hw.symm
                                                                    subst hw
                                                                    refine lv_iload hx hb dL_hangs_522 (lv_at hl 7 rfl) ?_
                                                                    obtain ⟨p212, hv, h⟩ := hb_some h
                                                                    have K539 : ∀ (H : Heap) (locs : List Loc) (ls : Array Slot), va_P (dC, dI) vwCl (hW N ca b I9 O116 J) H → va_S A s.heap H locs → lv_has ls 11 [(0, .ref (b 0)), (1, .int r1), (2, .int (p4 + r110)), (3, .int (p5 + p112)), (4, .int (p6 + p113)), (5, .int (0 : Int32)), (7, .int p8), (10, .int r108)] → W p l e (headSpec wsL_hangs ({ frames := 10, cells := 1014, slots := 6084, locals := 193 } : Room)).room s m ([.ref (b 0)] : List Value).toArray below meth c H locs (cn141 + 31) (sn141 + 186) (MQ below (va_Qi (fun (r : Int32) (u : (Nat → Nat → Int32) × (Nat → Nat → Option Nat)) => res = (r, u)) (fun (u : (Nat → Nat → Int32) × (Nat → Nat → Option Nat)) t => va_P (dC, dI) vwCl (hW N ca b u.1 u.2 J) t.heap) A) ([.ref (b 0)] : List Value).toArray s 1014 6084 A) (F0 m 539 ls [.int p212, .int r210]) := by
                                                                      intro H locs ls hP hS hl
                                                                      refine lv_icmp_ne (tgt := 584) hx hb dL_hangs_539 (by decide) (fun c213 => ?_) (fun c213 => ?_)
                                                                      · have h := gif_f c213 h
                                                                        refine lv_iconst (v := 0) hx hb dL_hangs_584 (by decide) ?_
                                                                        refine W.widen (k := (cn141 + 35)) (n := (sn141 + 210)) (by omega) (by omega) ?_
                                                                        cases h
                                                                        exact K585 _ _ _ hP hS (lv_sub hl [0, 1, 2, 3, 4, 5, 6] rfl)
                                                                      · have h := gif_t c213 h
                                                                        refine lv_goto (tgt := 556) hx hb dL_hangs_542 (by decide) ?_
                                                                        refine W.widen (k := (cn141 + 33)) (n := (sn141 + 198)) (by omega) (by omega) ?_
                                                                        exact K556 _ _ _ h hP hS (lv_sub hl [0, 1, 2, 3, 4, 5, 6, 7] rfl)
                                                                    have h := hv
                                                                    refine lv_if_le (tgt := 538) hx hb dL_hangs_524 (by decide) (fun c215 => ?_) (fun c215 => ?_)
                                                                    · have h := gif_t c215 h
                                                                      refine lv_iconst (v := 0) hx hb dL_hangs_538 (by decide) ?_
                                                                      cases h
                                                                      exact K539 _ _ _ hP hS (lv_sub hl [0, 1, 2, 3, 4, 5, 6, 8] rfl)
                                                                    · have h := gif_f c215 h
                                                                      refine lv_iload hx hb dL_hangs_527 (lv_at hl 7 rfl) ?_
                                                                      refine lv_bipush (v := 9) hx hb dL_hangs_529 (by decide) ?_
                                                                      refine lv_icmp_ge (tgt := 538) hx hb dL_hangs_531 (by decide) (fun c214 => ?_) (fun c214 => ?_)
                                                                      · have h := gif_t c214 h
                                                                        refine lv_iconst (v := 0) hx hb dL_hangs_538 (by decide) ?_
                                                                        cases h
                                                                        exact K539 _ _ _ hP hS (lv_sub hl [0, 1, 2, 3, 4, 5, 6, 8] rfl)
                                                                      · have h := gif_f c214 h
                                                                        refine lv_iconst (v := 1) hx hb dL_hangs_534 (by decide) ?_
                                                                        refine lv_goto (tgt := 539) hx hb dL_hangs_535 (by decide) ?_
                                                                        cases h
                                                                        exact K539 _ _ _ hP hS (lv_sub hl [0, 1, 2, 3, 4, 5, 6, 8] rfl)
                                                              have h := hv
                                                              refine lv_icmp_lt (tgt := 506) hx hb dL_hangs_499 (by decide) (fun c218 => ?_) (fun c218 => ?_)
                                                              · have h := gif_t c218 h
                                                                refine lv_iconst (v := 0) hx hb dL_hangs_506 (by decide) ?_
                                                                cases h
                                                                exact K507 _ _ _ hP hS (lv_sub hl [0, 1, 2, 3, 4, 5, 6, 7, 8] rfl)
                                                              · have h := gif_f c218 h
                                                                refine lv_iconst (v := 1) hx hb dL_hangs_502 (by decide) ?_
                                                                refine lv_goto (tgt := 507) hx hb dL_hangs_503 (by decide) ?_
                                                                cases h
                                                                exact K507 _ _ _ hP hS (lv_sub hl [0, 1, 2, 3, 4, 5, 6, 7, 8] rfl)
                                                            have h := hv
                                                            refine lv_icmp_ne (tgt := 491) hx hb dL_hangs_484 (by decide) (fun c219 => ?_) (fun c219 => ?_)
                                                            · have h := gif_f c219 h
                                                              refine lv_iconst (v := 0) hx hb dL_hangs_491 (by decide) ?_
                                                              cases h
                                                              exact K492 _ _ _ hP hS (lv_sub hl [0, 1, 2, 3, 4, 5, 6, 7, 8] rfl)
                                                            · have h := gif_t c219 h
                                                              refine lv_iconst (v := 1) hx hb dL_hangs_487 (by decide) ?_
                                                              refine lv_goto (tgt := 492) hx hb dL_hangs_488 (by decide) ?_
                                                              cases h
                                                              exact K492 _ _ _ hP hS (lv_sub hl [0, 1, 2, 3, 4, 5, 6, 7, 8] rfl)
                                                        have h := hv
                                                        refine lv_if_le (tgt := 477) hx hb dL_hangs_470 (by decide) (fun c221 => ?_) (fun c221 => ?_)
                                                        · have h := gif_t c221 h
                                                          refine lv_iconst (v := 0) hx hb dL_hangs_477 (by decide) ?_
                                                          cases h
                                                          exact K478 _ _ _ hP hS (lv_sub hl [0, 1, 2, 3, 4, 5, 6, 7, 8] rfl)
                                                        · have h := gif_f c221 h
                                                          refine lv_iconst (v := 1) hx hb dL_hangs_473 (by decide) ?_
                                                          refine lv_goto (tgt := 478) hx hb dL_hangs_474 (by decide) ?_
                                                          cases h
                                                          exact K478 _ _ _ hP hS (lv_sub hl [0, 1, 2, 3, 4, 5, 6, 7, 8] rfl)
                                                      have h := hv
                                                      refine lv_icmp_ne (tgt := 463) hx hb dL_hangs_456 (by decide) (fun c222 => ?_) (fun c222 => ?_)
                                                      · have h := gif_f c222 h
                                                        refine lv_iconst (v := 0) hx hb dL_hangs_463 (by decide) ?_
                                                        cases h
                                                        exact K464 _ _ _ hP hS (lv_sub hl [0, 1, 2, 3, 4, 5, 6, 7, 8] rfl)
                                                      · have h := gif_t c222 h
                                                        refine lv_iconst (v := 1) hx hb dL_hangs_459 (by decide) ?_
                                                        refine lv_goto (tgt := 464) hx hb dL_hangs_460 (by decide) ?_
                                                        cases h
                                                        exact K464 _ _ _ hP hS (lv_sub hl [0, 1, 2, 3, 4, 5, 6, 7, 8] rfl)
                                                  have h := hv
                                                  refine lv_icmp_ge (tgt := 435) hx hb dL_hangs_416 (by decide) (fun c228 => ?_) (fun c228 => ?_)
                                                  · have h := gif_t c228 h
                                                    refine lv_iconst (v := 4) hx hb dL_hangs_435 (by decide) ?_
                                                    refine lv_aload_n hx hb dL_hangs_436 rfl (lv_at hl 0 rfl) ?_
                                                    refine lv_iload hx hb dL_hangs_437 (lv_at hl 6 rfl) ?_
                                                    obtain ⟨q225, hcq225, h⟩ := hb_some h
                                                    refine gcSW_i (As := [.ref (b 0), .int p8]) (rest := [.int (4 : Int32), .int r186]) (BH := (fun (u : Unit) H => va_P (dC, dI) vwCl (hW N ca b I9 O116 J) H)) X hP hS (c_L_flown hlf hN hA I9 O116 J p8 q225 hcq225) (vx_cwSW 2 X.ts gL_hangs_L_flown rfl rfl rfl (by decide +kernel) ⟨Nat.le_of_ble_eq_true rfl, Nat.le_of_ble_eq_true rfl⟩) rfl hl.1 rfl (Nat.le_of_ble_eq_true rfl) dL_hangs_439 ⟨by omega, by omega⟩ (fun r224 u9 H locs hw hP hS => ?_)
                                                    have hw := hw.symm
                                                    subst hw
                                                    refine lv_sipush (v := 400) hx hb dL_hangs_442 (by decide) ?_
                                                    refine lv_irem hx hb dL_hangs_445 (by decide) ?_
                                                    refine lv_bipush (v := 100) hx hb dL_hangs_446 (by decide) ?_
                                                    refine lv_idiv hx hb dL_hangs_448 (by decide) ?_
                                                    refine lv_iadd hx hb dL_hangs_449 ?_
                                                    refine W.widen (k := (cn141 + 25)) (n := (sn141 + 150)) (by omega) (by omega) ?_
                                                    cases h
                                                    exact K450 _ _ _ hP hS (lv_sub hl [0, 1, 2, 3, 4, 5, 6, 7, 8] rfl)
                                                  · have h := gif_f c228 h
                                                    refine lv_aload_n hx hb dL_hangs_419 rfl (lv_at hl 0 rfl) ?_
                                                    refine lv_iload hx hb dL_hangs_420 (lv_at hl 6 rfl) ?_
                                                    obtain ⟨q227, hcq227, h⟩ := hb_some h
                                                    refine gcSW_i (As := [.ref (b 0), .int p8]) (rest := [.int r186]) (BH := (fun (u : Unit) H => va_P (dC, dI) vwCl (hW N ca b I9 O116 J) H)) X hP hS (c_L_flown hlf hN hA I9 O116 J p8 q227 hcq227) (vx_cwSW 2 X.ts gL_hangs_L_flown rfl rfl rfl (by decide +kernel) ⟨Nat.le_of_ble_eq_true rfl, Nat.le_of_ble_eq_true rfl⟩) rfl hl.1 rfl (Nat.le_of_ble_eq_true rfl) dL_hangs_422 ⟨by omega, by omega⟩ (fun r226 u9 H locs hw hP hS => ?_)
                                                    have hw := hw.symm
                                                    subst hw
                                                    refine lv_sipush (v := 400) hx hb dL_hangs_425 (by decide) ?_
                                                    refine lv_irem hx hb dL_hangs_428 (by decide) ?_
                                                    refine lv_bipush (v := 100) hx hb dL_hangs_429 (by decide) ?_
                                                    refine lv_idiv hx hb dL_hangs_431 (by decide) ?_
                                                    refine lv_goto (tgt := 450) hx hb dL_hangs_432 (by decide) ?_
                                                    refine W.widen (k := (cn141 + 25)) (n := (sn141 + 150)) (by omega) (by omega) ?_
                                                    cases h
                                                    exact K450 _ _ _ hP hS (lv_sub hl [0, 1, 2, 3, 4, 5, 6, 7, 8] rfl)
                                            refine lv_icmp_eq (tgt := 386) hx hb dL_hangs_365 (by decide) (fun c235 => ?_) (fun c235 => ?_)
                                            · have h := gif_t c235 h
                                              refine W.widen (k := (cn141 + 21)) (n := (sn141 + 126)) (by omega) (by omega) ?_
                                              exact K386 _ _ _ h hP hS (lv_sub hl [1, 2, 3, 4, 0, 5, 6, 8, 9] rfl)
                                            · have h := gif_f c235 h
                                              refine lv_iload hx hb dL_hangs_368 (lv_at hl 7 rfl) ?_
                                              refine lv_iload hx hb dL_hangs_370 (lv_at hl 6 rfl) ?_
                                              refine lv_icmp_eq (tgt := 584) hx hb dL_hangs_372 (by decide) (fun c234 => ?_) (fun c234 => ?_)
                                              · have h := gif_t c234 h
                                                refine lv_iconst (v := 0) hx hb dL_hangs_584 (by decide) ?_
                                                refine W.widen (k := (cn141 + 35)) (n := (sn141 + 210)) (by omega) (by omega) ?_
                                                cases h
                                                exact K585 _ _ _ hP hS (lv_sub hl [1, 2, 3, 4, 0, 5, 6] rfl)
                                              · have h := gif_f c234 h
                                                refine lv_aload_n hx hb dL_hangs_375 rfl (lv_at hl 1 rfl) ?_
                                                refine lv_iload hx hb dL_hangs_376 (lv_at hl 7 rfl) ?_
                                                obtain ⟨q232, hcq232, h⟩ := hb_some h
                                                refine gcSW_i (As := [.ref (b 0), .int r104]) (rest := []) (BH := (fun (u : Unit) H => va_P (dC, dI) vwCl (hW N ca b I9 O116 J) H)) X hP hS (c_L_partnerOf hlf hN hA I9 O116 J r104 q232 hcq232) (vx_cwSW 2 X.ts gL_hangs_L_partnerOf rfl rfl rfl (by decide +kernel) ⟨Nat.le_of_ble_eq_true rfl, Nat.le_of_ble_eq_true rfl⟩) rfl hl.1 rfl (Nat.le_of_ble_eq_true rfl) dL_hangs_378 ⟨by omega, by omega⟩ (fun r231 u9 H locs hw hP hS => ?_)
                                                have hw := hw.symm
                                                subst hw
                                                refine lv_iload hx hb dL_hangs_381 (lv_at hl 6 rfl) ?_
                                                refine lv_icmp_ne (tgt := 584) hx hb dL_hangs_383 (by decide) (fun c233 => ?_) (fun c233 => ?_)
                                                · have h := gif_f c233 h
                                                  refine lv_iconst (v := 0) hx hb dL_hangs_584 (by decide) ?_
                                                  refine W.widen (k := (cn141 + 35)) (n := (sn141 + 210)) (by omega) (by omega) ?_
                                                  cases h
                                                  exact K585 _ _ _ hP hS (lv_sub hl [1, 2, 3, 4, 0, 5, 6] rfl)
                                                · have h := gif_t c233 h
                                                  exact K386 _ _ _ h hP hS (lv_sub hl [1, 2, 3, 4, 0, 5, 6, 8, 9] rfl)
              have h := hv
              refine lv_if_lt (tgt := 210) hx hb dL_hangs_203 (by decide) (fun c250 => ?_) (fun c250 => ?_)
              · have h := gif_t c250 h
                refine lv_iconst (v := 0) hx hb dL_hangs_210 (by decide) ?_
                cases h
                exact K211 _ _ _ hP hS (lv_sub hl [1, 2, 3, 0, 5, 6, 7, 8, 9] rfl)
              · have h := gif_f c250 h
                refine lv_iconst (v := 1) hx hb dL_hangs_206 (by decide) ?_
                refine lv_goto (tgt := 211) hx hb dL_hangs_207 (by decide) ?_
                cases h
                exact K211 _ _ _ hP hS (lv_sub hl [1, 2, 3, 0, 5, 6, 7, 8, 9] rfl)
            have h := hv
            refine lv_icmp_ne (tgt := 196) hx hb dL_hangs_189 (by decide) (fun c251 => ?_) (fun c251 => ?_)
            · have h := gif_f c251 h
              refine lv_iconst (v := 0) hx hb dL_hangs_196 (by decide) ?_
              cases h
              exact K197 _ _ _ hP hS (lv_sub hl [4, 5, 0, 7, 8, 10, 3, 2, 1] rfl)
            · have h := gif_t c251 h
              refine lv_iconst (v := 1) hx hb dL_hangs_192 (by decide) ?_
              refine lv_goto (tgt := 197) hx hb dL_hangs_193 (by decide) ?_
              cases h
              exact K197 _ _ _ hP hS (lv_sub hl [4, 5, 0, 7, 8, 10, 3, 2, 1] rfl)
    exact hL141 16 _ _ _ _ _ _ _ 0 0 _ _ _ (Nat.le_of_ble_eq_true rfl) (Nat.le_of_ble_eq_true rfl) hv hP hS (lv_sub hl [2, 3, 4, 5, 6, 7, 1, 0] rfl)
  have h := hv
  refine lv_if_lt (tgt := 135) hx hb dL_hangs_16 (by decide) (fun c299 => ?_) (fun c299 => ?_)
  · have h := gif_t c299 h
    refine lv_iconst (v := 0) hx hb dL_hangs_135 (by decide) ?_
    cases h
    exact K136 _ _ _ hP hS (lv_sub hl [5, 4, 3, 2, 1, 0] rfl)
  · have h := gif_f c299 h
    refine lv_iload_n hx hb dL_hangs_19 rfl (lv_at hl 4 rfl) ?_
    refine lv_bipush (v := 8) hx hb dL_hangs_20 (by decide) ?_
    refine lv_icmp_gt (tgt := 135) hx hb dL_hangs_22 (by decide) (fun c298 => ?_) (fun c298 => ?_)
    · have h := gif_t c298 h
      refine lv_iconst (v := 0) hx hb dL_hangs_135 (by decide) ?_
      cases h
      exact K136 _ _ _ hP hS (lv_sub hl [5, 4, 3, 2, 1, 0] rfl)
    · have h := gif_f c298 h
      refine lv_aload_n hx hb dL_hangs_25 rfl (lv_at hl 5 rfl) ?_
      obtain ⟨q255, hcq255, h⟩ := hb_some h
      refine gdV_i (As := []) (rest := []) (BH := (fun (u : Unit) H => va_P (dC, dI) vwCl (hW N ca b I O J) H)) X hP hS (c_X7_seconds hN hA I O J q255 hcq255) (cwV 0 X.ts gL_hangs_X7_seconds rfl rfl rfl (by decide +kernel) ⟨Nat.le_of_ble_eq_true rfl, Nat.le_of_ble_eq_true rfl⟩) (gr7 X hP kc_0 (sk_in hN kc_0 (by decide))) rfl hl.1 rfl (Nat.le_of_ble_eq_true rfl) dL_hangs_26 ⟨Nat.le_of_ble_eq_true rfl, Nat.le_of_ble_eq_true rfl⟩ (fun r254 u9 H locs hw hP hS => ?_)
      have hw := hw.symm
      subst hw
      refine lv_if_lt (tgt := 135) hx hb dL_hangs_29 (by decide) (fun c297 => ?_) (fun c297 => ?_)
      · have h := gif_t c297 h
        refine lv_iconst (v := 0) hx hb dL_hangs_135 (by decide) ?_
        cases h
        exact K136 _ _ _ hP hS (lv_sub hl [5, 4, 3, 2, 1, 0] rfl)
      · have h := gif_f c297 h
        refine lv_aload_n hx hb dL_hangs_32 rfl (lv_at hl 5 rfl) ?_
        obtain ⟨q257, hcq257, h⟩ := hb_some h
        refine gdV_i (As := []) (rest := []) (BH := (fun (u : Unit) H => va_P (dC, dI) vwCl (hW N ca b I O J) H)) X hP hS (c_X7_arrived hN hA I O J q257 hcq257) (cwV 0 X.ts gL_hangs_X7_arrived rfl rfl rfl (by decide +kernel) ⟨Nat.le_of_ble_eq_true rfl, Nat.le_of_ble_eq_true rfl⟩) (gr7 X hP kc_0 (sk_in hN kc_0 (by decide))) rfl hl.1 rfl (Nat.le_of_ble_eq_true rfl) dL_hangs_33 ⟨Nat.le_of_ble_eq_true rfl, Nat.le_of_ble_eq_true rfl⟩ (fun r256 u9 H locs hw hP hS => ?_)
        have hw := hw.symm
        subst hw
        refine lv_if_lt (tgt := 135) hx hb dL_hangs_36 (by decide) (fun c296 => ?_) (fun c296 => ?_)
        · have h := gif_t c296 h
          refine lv_iconst (v := 0) hx hb dL_hangs_135 (by decide) ?_
          cases h
          exact K136 _ _ _ hP hS (lv_sub hl [5, 4, 3, 2, 1, 0] rfl)
        · have h := gif_f c296 h
          refine lv_aload_n hx hb dL_hangs_39 rfl (lv_at hl 5 rfl) ?_
          obtain ⟨q259, hcq259, h⟩ := hb_some h
          refine gdV_i (As := []) (rest := []) (BH := (fun (u : Unit) H => va_P (dC, dI) vwCl (hW N ca b I O J) H)) X hP hS (c_X7_arrived hN hA I O J q259 hcq259) (cwV 0 X.ts gL_hangs_X7_arrived rfl rfl rfl (by decide +kernel) ⟨Nat.le_of_ble_eq_true rfl, Nat.le_of_ble_eq_true rfl⟩) (gr7 X hP kc_0 (sk_in hN kc_0 (by decide))) rfl hl.1 rfl (Nat.le_of_ble_eq_true rfl) dL_hangs_40 ⟨Nat.le_of_ble_eq_true rfl, Nat.le_of_ble_eq_true rfl⟩ (fun r258 u9 H locs hw hP hS => ?_)
          have hw := hw.symm
          subst hw
          refine lv_iload_n hx hb dL_hangs_43 rfl (lv_at hl 4 rfl) ?_
          refine lv_icmp_gt (tgt := 135) hx hb dL_hangs_44 (by decide) (fun c295 => ?_) (fun c295 => ?_)
          · have h := gif_t c295 h
            refine lv_iconst (v := 0) hx hb dL_hangs_135 (by decide) ?_
            cases h
            exact K136 _ _ _ hP hS (lv_sub hl [5, 4, 3, 2, 1, 0] rfl)
          · have h := gif_f c295 h
            refine lv_aload_n hx hb dL_hangs_47 rfl (lv_at hl 5 rfl) ?_
            obtain ⟨q261, hcq261, h⟩ := hb_some h
            refine gdV_i (As := []) (rest := []) (BH := (fun (u : Unit) H => va_P (dC, dI) vwCl (hW N ca b I O J) H)) X hP hS (c_X7_drafts hN hA I O J q261 hcq261) (cwV 0 X.ts gL_hangs_X7_drafts rfl rfl rfl (by decide +kernel) ⟨Nat.le_of_ble_eq_true rfl, Nat.le_of_ble_eq_true rfl⟩) (gr7 X hP kc_0 (sk_in hN kc_0 (by decide))) rfl hl.1 rfl (Nat.le_of_ble_eq_true rfl) dL_hangs_48 ⟨Nat.le_of_ble_eq_true rfl, Nat.le_of_ble_eq_true rfl⟩ (fun r260 u9 H locs hw hP hS => ?_)
            have hw := hw.symm
            subst hw
            refine lv_if_lt (tgt := 135) hx hb dL_hangs_51 (by decide) (fun c294 => ?_) (fun c294 => ?_)
            · have h := gif_t c294 h
              refine lv_iconst (v := 0) hx hb dL_hangs_135 (by decide) ?_
              cases h
              exact K136 _ _ _ hP hS (lv_sub hl [5, 4, 3, 2, 1, 0] rfl)
            · have h := gif_f c294 h
              refine lv_aload_n hx hb dL_hangs_54 rfl (lv_at hl 5 rfl) ?_
              obtain ⟨q263, hcq263, h⟩ := hb_some h
              refine gdV_i (As := []) (rest := []) (BH := (fun (u : Unit) H => va_P (dC, dI) vwCl (hW N ca b I O J) H)) X hP hS (c_X7_changes hN hA I O J q263 hcq263) (cwV 0 X.ts gL_hangs_X7_changes rfl rfl rfl (by decide +kernel) ⟨Nat.le_of_ble_eq_true rfl, Nat.le_of_ble_eq_true rfl⟩) (gr7 X hP kc_0 (sk_in hN kc_0 (by decide))) rfl hl.1 rfl (Nat.le_of_ble_eq_true rfl) dL_hangs_55 ⟨Nat.le_of_ble_eq_true rfl, Nat.le_of_ble_eq_true rfl⟩ (fun r262 u9 H locs hw hP hS => ?_)
              have hw := hw.symm
              subst hw
              refine lv_if_lt (tgt := 135) hx hb dL_hangs_58 (by decide) (fun c293 => ?_) (fun c293 => ?_)
              · have h := gif_t c293 h
                refine lv_iconst (v := 0) hx hb dL_hangs_135 (by decide) ?_
                cases h
                exact K136 _ _ _ hP hS (lv_sub hl [5, 4, 3, 2, 1, 0] rfl)
              · have h := gif_f c293 h
                refine lv_aload_n hx hb dL_hangs_61 rfl (lv_at hl 5 rfl) ?_
                obtain ⟨q265, hcq265, h⟩ := hb_some h
                refine gdV_i (As := []) (rest := []) (BH := (fun (u : Unit) H => va_P (dC, dI) vwCl (hW N ca b I O J) H)) X hP hS (c_X7_rests hN hA I O J q265 hcq265) (cwV 0 X.ts gL_hangs_X7_rests rfl rfl rfl (by decide +kernel) ⟨Nat.le_of_ble_eq_true rfl, Nat.le_of_ble_eq_true rfl⟩) (gr7 X hP kc_0 (sk_in hN kc_0 (by decide))) rfl hl.1 rfl (Nat.le_of_ble_eq_true rfl) dL_hangs_62 ⟨Nat.le_of_ble_eq_true rfl, Nat.le_of_ble_eq_true rfl⟩ (fun r264 u9 H locs hw hP hS => ?_)
                have hw := hw.symm
                subst hw
                refine lv_if_lt (tgt := 135) hx hb dL_hangs_65 (by decide) (fun c292 => ?_) (fun c292 => ?_)
                · have h := gif_t c292 h
                  refine lv_iconst (v := 0) hx hb dL_hangs_135 (by decide) ?_
                  cases h
                  exact K136 _ _ _ hP hS (lv_sub hl [5, 4, 3, 2, 1, 0] rfl)
                · have h := gif_f c292 h
                  refine lv_aload_n hx hb dL_hangs_68 rfl (lv_at hl 5 rfl) ?_
                  obtain ⟨q267, hcq267, h⟩ := hb_some h
                  refine gdV_i (As := []) (rest := []) (BH := (fun (u : Unit) H => va_P (dC, dI) vwCl (hW N ca b I O J) H)) X hP hS (c_X7_races hN hA I O J q267 hcq267) (cwV 0 X.ts gL_hangs_X7_races rfl rfl rfl (by decide +kernel) ⟨Nat.le_of_ble_eq_true rfl, Nat.le_of_ble_eq_true rfl⟩) (gr7 X hP kc_0 (sk_in hN kc_0 (by decide))) rfl hl.1 rfl (Nat.le_of_ble_eq_true rfl) dL_hangs_69 ⟨Nat.le_of_ble_eq_true rfl, Nat.le_of_ble_eq_true rfl⟩ (fun r266 u9 H locs hw hP hS => ?_)
                  have hw := hw.symm
                  subst hw
                  refine lv_if_lt (tgt := 135) hx hb dL_hangs_72 (by decide) (fun c291 => ?_) (fun c291 => ?_)
                  · have h := gif_t c291 h
                    refine lv_iconst (v := 0) hx hb dL_hangs_135 (by decide) ?_
                    cases h
                    exact K136 _ _ _ hP hS (lv_sub hl [5, 4, 3, 2, 1, 0] rfl)
                  · have h := gif_f c291 h
                    refine lv_aload_n hx hb dL_hangs_75 rfl (lv_at hl 5 rfl) ?_
                    obtain ⟨q269, hcq269, h⟩ := hb_some h
                    refine gdV_i (As := []) (rest := []) (BH := (fun (u : Unit) H => va_P (dC, dI) vwCl (hW N ca b I O J) H)) X hP hS (c_X7_winsInPairs hN hA I O J q269 hcq269) (cwV 0 X.ts gL_hangs_X7_winsInPairs rfl rfl rfl (by decide +kernel) ⟨Nat.le_of_ble_eq_true rfl, Nat.le_of_ble_eq_true rfl⟩) (gr7 X hP kc_0 (sk_in hN kc_0 (by decide))) rfl hl.1 rfl (Nat.le_of_ble_eq_true rfl) dL_hangs_76 ⟨Nat.le_of_ble_eq_true rfl, Nat.le_of_ble_eq_true rfl⟩ (fun r268 u9 H locs hw hP hS => ?_)
                    have hw := hw.symm
                    subst hw
                    refine lv_if_lt (tgt := 135) hx hb dL_hangs_79 (by decide) (fun c290 => ?_) (fun c290 => ?_)
                    · have h := gif_t c290 h
                      refine lv_iconst (v := 0) hx hb dL_hangs_135 (by decide) ?_
                      cases h
                      exact K136 _ _ _ hP hS (lv_sub hl [5, 4, 3, 2, 1, 0] rfl)
                    · have h := gif_f c290 h
                      refine lv_aload_n hx hb dL_hangs_82 rfl (lv_at hl 5 rfl) ?_
                      obtain ⟨q271, hcq271, h⟩ := hb_some h
                      refine gdV_i (As := []) (rest := []) (BH := (fun (u : Unit) H => va_P (dC, dI) vwCl (hW N ca b I O J) H)) X hP hS (c_X7_winsInPairs hN hA I O J q271 hcq271) (cwV 0 X.ts gL_hangs_X7_winsInPairs rfl rfl rfl (by decide +kernel) ⟨Nat.le_of_ble_eq_true rfl, Nat.le_of_ble_eq_true rfl⟩) (gr7 X hP kc_0 (sk_in hN kc_0 (by decide))) rfl hl.1 rfl (Nat.le_of_ble_eq_true rfl) dL_hangs_83 ⟨Nat.le_of_ble_eq_true rfl, Nat.le_of_ble_eq_true rfl⟩ (fun r270 u9 H locs hw hP hS => ?_)
                      have hw := hw.symm
                      subst hw
                      refine lv_aload_n hx hb dL_hangs_86 rfl (lv_at hl 5 rfl) ?_
                      obtain ⟨q273, hcq273, h⟩ := hb_some h
                      refine gdV_i (As := []) (rest := [.int r270]) (BH := (fun (u : Unit) H => va_P (dC, dI) vwCl (hW N ca b I O J) H)) X hP hS (c_X7_races hN hA I O J q273 hcq273) (cwV 0 X.ts gL_hangs_X7_races rfl rfl rfl (by decide +kernel) ⟨Nat.le_of_ble_eq_true rfl, Nat.le_of_ble_eq_true rfl⟩) (gr7 X hP kc_0 (sk_in hN kc_0 (by decide))) rfl hl.1 rfl (Nat.le_of_ble_eq_true rfl) dL_hangs_87 ⟨Nat.le_of_ble_eq_true rfl, Nat.le_of_ble_eq_true rfl⟩ (fun r272 u9 H locs hw hP hS => ?_)
                      have hw := hw.symm
                      subst hw
                      refine lv_icmp_gt (tgt := 135) hx hb dL_hangs_90 (by decide) (fun c289 => ?_) (fun c289 => ?_)
                      · have h := gif_t c289 h
                        refine lv_iconst (v := 0) hx hb dL_hangs_135 (by decide) ?_
                        cases h
                        exact K136 _ _ _ hP hS (lv_sub hl [5, 4, 3, 2, 1, 0] rfl)
                      · have h := gif_f c289 h
                        refine lv_aload_n hx hb dL_hangs_93 rfl (lv_at hl 5 rfl) ?_
                        obtain ⟨q275, hcq275, h⟩ := hb_some h
                        refine gdV_i (As := []) (rest := []) (BH := (fun (u : Unit) H => va_P (dC, dI) vwCl (hW N ca b I O J) H)) X hP hS (c_X7_savedStates hN hA I O J q275 hcq275) (cwV 0 X.ts gL_hangs_X7_savedStates rfl rfl rfl (by decide +kernel) ⟨Nat.le_of_ble_eq_true rfl, Nat.le_of_ble_eq_true rfl⟩) (gr7 X hP kc_0 (sk_in hN kc_0 (by decide))) rfl hl.1 rfl (Nat.le_of_ble_eq_true rfl) dL_hangs_94 ⟨Nat.le_of_ble_eq_true rfl, Nat.le_of_ble_eq_true rfl⟩ (fun r274 u9 H locs hw hP hS => ?_)
                        have hw := hw.symm
                        subst hw
                        refine lv_if_lt (tgt := 135) hx hb dL_hangs_97 (by decide) (fun c288 => ?_) (fun c288 => ?_)
                        · have h := gif_t c288 h
                          refine lv_iconst (v := 0) hx hb dL_hangs_135 (by decide) ?_
                          cases h
                          exact K136 _ _ _ hP hS (lv_sub hl [5, 4, 3, 2, 1, 0] rfl)
                        · have h := gif_f c288 h
                          refine lv_aload_n hx hb dL_hangs_100 rfl (lv_at hl 5 rfl) ?_
                          obtain ⟨q277, hcq277, h⟩ := hb_some h
                          refine gdV_i (As := []) (rest := []) (BH := (fun (u : Unit) H => va_P (dC, dI) vwCl (hW N ca b I O J) H)) X hP hS (c_X7_savedStates hN hA I O J q277 hcq277) (cwV 0 X.ts gL_hangs_X7_savedStates rfl rfl rfl (by decide +kernel) ⟨Nat.le_of_ble_eq_true rfl, Nat.le_of_ble_eq_true rfl⟩) (gr7 X hP kc_0 (sk_in hN kc_0 (by decide))) rfl hl.1 rfl (Nat.le_of_ble_eq_true rfl) dL_hangs_101 ⟨Nat.le_of_ble_eq_true rfl, Nat.le_of_ble_eq_true rfl⟩ (fun r276 u9 H locs hw hP hS => ?_)
                          have hw := hw.symm
                          subst hw
                          refine lv_bipush (v := 7) hx hb dL_hangs_104 (by decide) ?_
                          refine lv_icmp_ge (tgt := 135) hx hb dL_hangs_106 (by decide) (fun c287 => ?_) (fun c287 => ?_)
                          · have h := gif_t c287 h
                            refine lv_iconst (v := 0) hx hb dL_hangs_135 (by decide) ?_
                            cases h
                            exact K136 _ _ _ hP hS (lv_sub hl [5, 4, 3, 2, 1, 0] rfl)
                          · have h := gif_f c287 h
                            refine lv_aload_n hx hb dL_hangs_109 rfl (lv_at hl 5 rfl) ?_
                            obtain ⟨q279, hcq279, h⟩ := hb_some h
                            refine gdV_i (As := []) (rest := []) (BH := (fun (u : Unit) H => va_P (dC, dI) vwCl (hW N ca b I O J) H)) X hP hS (c_X7_isRacing hN hA I O J q279 hcq279) (cwV 0 X.ts gL_hangs_X7_isRacing rfl rfl rfl (by decide +kernel) ⟨Nat.le_of_ble_eq_true rfl, Nat.le_of_ble_eq_true rfl⟩) (gr7 X hP kc_0 (sk_in hN kc_0 (by decide))) rfl hl.1 rfl (Nat.le_of_ble_eq_true rfl) dL_hangs_110 ⟨Nat.le_of_ble_eq_true rfl, Nat.le_of_ble_eq_true rfl⟩ (fun r278 u9 H locs hw hP hS => ?_)
                            have hw := hw.symm
                            subst hw
                            refine lv_if_eq (tgt := 131) hx hb dL_hangs_113 (by decide) (fun c286 => ?_) (fun c286 => ?_)
                            · have h := gif_t c286 h
                              refine lv_iconst (v := 1) hx hb dL_hangs_131 (by decide) ?_
                              refine lv_goto (tgt := 136) hx hb dL_hangs_132 (by decide) ?_
                              cases h
                              exact K136 _ _ _ hP hS (lv_sub hl [5, 4, 3, 2, 1, 0] rfl)
                            · have h := gif_f c286 h
                              refine lv_aload_n hx hb dL_hangs_116 rfl (lv_at hl 5 rfl) ?_
                              obtain ⟨q281, hcq281, h⟩ := hb_some h
                              refine gdV_i (As := []) (rest := []) (BH := (fun (u : Unit) H => va_P (dC, dI) vwCl (hW N ca b I O J) H)) X hP hS (c_X7_arrived hN hA I O J q281 hcq281) (cwV 0 X.ts gL_hangs_X7_arrived rfl rfl rfl (by decide +kernel) ⟨Nat.le_of_ble_eq_true rfl, Nat.le_of_ble_eq_true rfl⟩) (gr7 X hP kc_0 (sk_in hN kc_0 (by decide))) rfl hl.1 rfl (Nat.le_of_ble_eq_true rfl) dL_hangs_117 ⟨Nat.le_of_ble_eq_true rfl, Nat.le_of_ble_eq_true rfl⟩ (fun r280 u9 H locs hw hP hS => ?_)
                              have hw := hw.symm
                              subst hw
                              refine lv_iload_n hx hb dL_hangs_120 rfl (lv_at hl 4 rfl) ?_
                              refine lv_icmp_ge (tgt := 135) hx hb dL_hangs_121 (by decide) (fun c285 => ?_) (fun c285 => ?_)
                              · have h := gif_t c285 h
                                refine lv_iconst (v := 0) hx hb dL_hangs_135 (by decide) ?_
                                cases h
                                exact K136 _ _ _ hP hS (lv_sub hl [5, 4, 3, 2, 1, 0] rfl)
                              · have h := gif_f c285 h
                                refine lv_aload_n hx hb dL_hangs_124 rfl (lv_at hl 5 rfl) ?_
                                obtain ⟨q283, hcq283, h⟩ := hb_some h
                                refine gdV_i (As := []) (rest := []) (BH := (fun (u : Unit) H => va_P (dC, dI) vwCl (hW N ca b I O J) H)) X hP hS (c_X7_races hN hA I O J q283 hcq283) (cwV 0 X.ts gL_hangs_X7_races rfl rfl rfl (by decide +kernel) ⟨Nat.le_of_ble_eq_true rfl, Nat.le_of_ble_eq_true rfl⟩) (gr7 X hP kc_0 (sk_in hN kc_0 (by decide))) rfl hl.1 rfl (Nat.le_of_ble_eq_true rfl) dL_hangs_125 ⟨Nat.le_of_ble_eq_true rfl, Nat.le_of_ble_eq_true rfl⟩ (fun r282 u9 H locs hw hP hS => ?_)
                                have hw := hw.symm
                                subst hw
                                refine lv_if_le (tgt := 135) hx hb dL_hangs_128 (by decide) (fun c284 => ?_) (fun c284 => ?_)
                                · have h := gif_t c284 h
                                  refine lv_iconst (v := 0) hx hb dL_hangs_135 (by decide) ?_
                                  cases h
                                  exact K136 _ _ _ hP hS (lv_sub hl [5, 4, 3, 2, 1, 0] rfl)
                                · have h := gif_f c284 h
                                  refine lv_iconst (v := 1) hx hb dL_hangs_131 (by decide) ?_
                                  refine lv_goto (tgt := 136) hx hb dL_hangs_132 (by decide) ?_
                                  cases h
                                  exact K136 _ _ _ hP hS (lv_sub hl [5, 4, 3, 2, 1, 0] rfl)
def f_L_refuses_L576 (a1 : Int32) : Nat → Int32 → Int32 → (Nat → Nat → Int32) → (Nat → Nat → Option Nat) → Option (Int32 × (Nat → Nat → Int32) × (Nat → Nat → Option Nat))
  | 0, _, _, _, _ => none
  | fuel + 1, p13, p14, I15, O16 =>
    (f_X7_sparrows I15).bind fun r67 =>
    if r67 ≤ p14 then
      some (p13, I15, O16)
    else
      if p13 = 0 then
        some (p13, I15, O16)
      else
        (f_L_setPace p14 ((41 : Int32) + a1) I15 O16).bind fun (r71, I69, O70) =>
        (show Option (Int32 × (Nat → Nat → Int32) × (Nat → Nat → Option Nat)) from
          if r71 = (-3 : Int32) then
            (f_L_setPace p14 ((9 : Int32) - a1) I69 O70).bind fun (r79, I77, O78) =>
            if r79 = (-3 : Int32) then
              (f_L_pair p14 p14 I77 O78).bind fun (r83, I81, O82) =>
              if r83 = (-3 : Int32) then
                (f_L_wouldFly p14 ((201 : Int32) + a1) I81 O82).bind fun (r87, I85, O86) =>
                if r87 = (-3 : Int32) then
                  (f_L_flownWithPace p14 ((9 : Int32) - a1) I85 O86).bind fun (r91, I89, O90) =>
                  if r91 = (-3 : Int32) then
                    (f_L_stateOf p14 I89).bind fun r93 =>
                    if r93 = (3 : Int32) then
                      (f_L_callIn p14 I89 O90).bind fun (r97, I95, O96) =>
                      if r97 = (-4 : Int32) then
                        some ((1 : Int32), I95, O96)
                      else
                        some ((0 : Int32), I95, O96)
                    else
                      some ((1 : Int32), I89, O90)
                  else
                    some ((0 : Int32), I89, O90)
                else
                  some ((0 : Int32), I85, O86)
              else
                some ((0 : Int32), I81, O82)
            else
              some ((0 : Int32), I77, O78)
          else
            some ((0 : Int32), I69, O70)).bind fun (p73, I74, O75) =>
        hlet (p14 + 1) fun x76 =>
        f_L_refuses_L576 a1 fuel p73 x76 I74 O75
def f_L_refuses (a1 : Int32) (I : Nat → Nat → Int32) (O : Nat → Nat → Option Nat) : Option (Int32 × (Nat → Nat → Int32) × (Nat → Nat → Option Nat)) :=
  (show Option (Int32) from
    if (a1 - a1 / (2 : Int32) * (2 : Int32)) = 0 then
      (f_X7_sparrows I).bind fun r284 =>
      some (r284 + a1)
    else
      some ((-1 : Int32) - a1)).bind fun p1 =>
  (show Option (Int32) from
    if (a1 - a1 / (2 : Int32) * (2 : Int32)) = 0 then
      some ((2 : Int32) + a1)
    else
      some ((-1 : Int32) - a1)).bind fun p2 =>
  (f_L_enter ((41 : Int32) + a1) (500 : Int32) (0 : Int32) I O).bind fun (r5, I3, O4) =>
  (show Option (Int32 × (Nat → Nat → Int32) × (Nat → Nat → Option Nat)) from
    if r5 = (-3 : Int32) then
      (f_L_enter ((9 : Int32) - a1) (500 : Int32) (0 : Int32) I3 O4).bind fun (r192, I190, O191) =>
      if r192 = (-3 : Int32) then
        (f_L_enter (20 : Int32) ((1000 : Int32) + a1) (1 : Int32) I190 O191).bind fun (r196, I194, O195) =>
        if r196 = (-3 : Int32) then
          (f_L_enter (20 : Int32) ((99 : Int32) - a1) (1 : Int32) I194 O195).bind fun (r200, I198, O199) =>
          if r200 = (-3 : Int32) then
            (f_L_enter (20 : Int32) (500 : Int32) p2 I198 O199).bind fun (r204, I202, O203) =>
            if r204 = (-3 : Int32) then
              (f_L_setPace p1 (50 : Int32) I202 O203).bind fun (r208, I206, O207) =>
              if r208 = (-2 : Int32) then
                (f_L_callIn p1 I206 O207).bind fun (r212, I210, O211) =>
                if r212 = (-2 : Int32) then
                  (f_L_pair p1 p1 I210 O211).bind fun (r216, I214, O215) =>
                  if r216 = (-2 : Int32) then
                    (f_L_setLimit ((4 : Int32) + a1) (50 : Int32) I214 O215).bind fun (r220, I218, O219) =>
                    if r220 = (-2 : Int32) then
                      (f_L_setLimit ((-1 : Int32) - a1) (20 : Int32) I218 O219).bind fun (r224, I222, O223) =>
                      if r224 = (-2 : Int32) then
                        (f_L_setLimit (0 : Int32) ((41 : Int32) + a1) I222 O223).bind fun (r228, I226, O227) =>
                        if r228 = (-3 : Int32) then
                          (f_L_setLimit (3 : Int32) ((7 : Int32) - a1) I226 O227).bind fun (r232, I230, O231) =>
                          if r232 = (-3 : Int32) then
                            (f_L_setLaps ((10 : Int32) + a1) I230 O231).bind fun (r236, I234, O235) =>
                            if r236 = (-3 : Int32) then
                              (f_L_setLaps (-a1) I234 O235).bind fun (r240, I238, O239) =>
                              if r240 = (-3 : Int32) then
                                (f_L_pass ((201 : Int32) + a1) I238 O239).bind fun (r244, I242, O243) =>
                                if r244 = (-3 : Int32) then
                                  (f_L_pass (-a1) I242 O243).bind fun (r248, I246, O247) =>
                                  if r248 = (-3 : Int32) then
                                    (f_L_append ((32 : Int32) - a1) I246).bind fun (r251, I250) =>
                                    if r251 = (-3 : Int32) then
                                      (f_L_append ((127 : Int32) + a1) I250).bind fun (r254, I253) =>
                                      if r254 = (-3 : Int32) then
                                        (f_L_keep p2 I253).bind fun (r257, I256) =>
                                        if r257 = (-3 : Int32) then
                                          (f_L_goBack p2 I256 O247).bind fun (r261, I259, O260) =>
                                          if r261 = (-3 : Int32) then
                                            some ((1 : Int32), I259, O260)
                                          else
                                            some ((0 : Int32), I259, O260)
                                        else
                                          some ((0 : Int32), I256, O247)
                                      else
                                        some ((0 : Int32), I253, O247)
                                    else
                                      some ((0 : Int32), I250, O247)
                                  else
                                    some ((0 : Int32), I246, O247)
                                else
                                  some ((0 : Int32), I242, O243)
                              else
                                some ((0 : Int32), I238, O239)
                            else
                              some ((0 : Int32), I234, O235)
                          else
                            some ((0 : Int32), I230, O231)
                        else
                          some ((0 : Int32), I226, O227)
                      else
                        some ((0 : Int32), I222, O223)
                    else
                      some ((0 : Int32), I218, O219)
                  else
                    some ((0 : Int32), I214, O215)
                else
                  some ((0 : Int32), I210, O211)
              else
                some ((0 : Int32), I206, O207)
            else
              some ((0 : Int32), I202, O203)
          else
            some ((0 : Int32), I198, O199)
        else
          some ((0 : Int32), I194, O195)
      else
        some ((0 : Int32), I190, O191)
    else
      some ((0 : Int32), I3, O4)).bind fun (p7, I8, O9) =>
  (show Option (Int32 × (Nat → Nat → Int32) × (Nat → Nat → Option Nat)) from
    if p7 = 0 then
      some ((0 : Int32), I8, O9)
    else
      (f_L_flown p1 I8).bind fun r108 =>
      if r108 = (-2 : Int32) then
        (f_L_lapsOf p1 I8).bind fun r110 =>
        if r110 = (-2 : Int32) then
          (f_L_speedOf p1 I8).bind fun r112 =>
          if r112 = (-2 : Int32) then
            (f_L_strengthOf p1 I8).bind fun r114 =>
            if r114 = (-2 : Int32) then
              (f_L_wearOf p1 I8).bind fun r116 =>
              if r116 = (-2 : Int32) then
                (f_L_laneOf p1 I8).bind fun r118 =>
                if r118 = (-2 : Int32) then
                  (f_L_stateOf p1 I8).bind fun r120 =>
                  if r120 = (-2 : Int32) then
                    (f_L_paceOf p1 I8).bind fun r122 =>
                    if r122 = (-2 : Int32) then
                      (f_L_partnerOf p1 I8).bind fun r124 =>
                      if r124 = (-2 : Int32) then
                        (f_L_isCalledIn p1 I8).bind fun r126 =>
                        if r126 = (-2 : Int32) then
                          (f_L_limitOf ((4 : Int32) + a1) I8).bind fun r128 =>
                          if r128 = (-2 : Int32) then
                            (f_L_limitOf ((-1 : Int32) - a1) I8).bind fun r130 =>
                            if r130 = (-2 : Int32) then
                              (f_L_placeByCounting p1 I8).bind fun r132 =>
                              if r132 = (-2 : Int32) then
                                (f_L_birdByOrder p1 I8 O9).bind fun (r135, O134) =>
                                if r135 = (-2 : Int32) then
                                  (f_L_gapAhead p1 I8).bind fun r137 =>
                                  if r137 = (-2 : Int32) then
                                    (f_L_isDrafting p1 I8).bind fun r139 =>
                                    if r139 = (-2 : Int32) then
                                      (f_L_whereIs p1 I8).bind fun r141 =>
                                      if r141 = (-2 : Int32) then
                                        (f_L_allowance p1 I8).bind fun r143 =>
                                        if r143 = (-2 : Int32) then
                                          (f_L_wouldFly p1 (0 : Int32) I8 O134).bind fun (r147, I145, O146) =>
                                          if r147 = (-2 : Int32) then
                                            (f_L_flownWithPace p1 (0 : Int32) I145 O146).bind fun (r151, I149, O150) =>
                                            if r151 = (-2 : Int32) then
                                              (f_L_bestPace p1 I149 O150).bind fun (r155, I153, O154) =>
                                              if r155 = (-2 : Int32) then
                                                (f_X7_arrived I153).bind fun r157 =>
                                                (f_L_arrivedAt (r157 + a1) I153).bind fun r159 =>
                                                if r159 = (-2 : Int32) then
                                                  (f_L_arrivedAt ((-1 : Int32) - a1) I153).bind fun r161 =>
                                                  if r161 = (-2 : Int32) then
                                                    (f_L_timeOf p1 I153).bind fun r163 =>
                                                    if r163 = (-2 : Int32) then
                                                      some ((1 : Int32), I153, O154)
                                                    else
                                                      some ((0 : Int32), I153, O154)
                                                  else
                                                    some ((0 : Int32), I153, O154)
                                                else
                                                  some ((0 : Int32), I153, O154)
                                              else
                                                some ((0 : Int32), I153, O154)
                                            else
                                              some ((0 : Int32), I149, O150)
                                          else
                                            some ((0 : Int32), I145, O146)
                                        else
                                          some ((0 : Int32), I8, O134)
                                      else
                                        some ((0 : Int32), I8, O134)
                                    else
                                      some ((0 : Int32), I8, O134)
                                  else
                                    some ((0 : Int32), I8, O134)
                                else
                                  some ((0 : Int32), I8, O134)
                              else
                                some ((0 : Int32), I8, O9)
                            else
                              some ((0 : Int32), I8, O9)
                          else
                            some ((0 : Int32), I8, O9)
                        else
                          some ((0 : Int32), I8, O9)
                      else
                        some ((0 : Int32), I8, O9)
                    else
                      some ((0 : Int32), I8, O9)
                  else
                    some ((0 : Int32), I8, O9)
                else
                  some ((0 : Int32), I8, O9)
              else
                some ((0 : Int32), I8, O9)
            else
              some ((0 : Int32), I8, O9)
          else
            some ((0 : Int32), I8, O9)
        else
          some ((0 : Int32), I8, O9)
      else
        some ((0 : Int32), I8, O9)).bind fun (p10, I11, O12) =>
  (f_L_refuses_L576 a1 16 p10 (0 : Int32) I11 O12).bind fun (p17, I18, O19) =>
  if p17 = 0 then
    some ((0 : Int32), I18, O19)
  else
    (f_X7_isRacing I18).bind fun r20 =>
    hlet (fun (I22 : Nat → Nat → Int32) (O23 : Nat → Nat → Option Nat) => show Option (Int32 × (Nat → Nat → Int32) × (Nat → Nat → Option Nat)) from
      (f_X7_isRacing I22).bind fun r25 =>
      hlet (fun (I27 : Nat → Nat → Int32) (O28 : Nat → Nat → Option Nat) => show Option (Int32 × (Nat → Nat → Int32) × (Nat → Nat → Option Nat)) from
        (f_X7_sparrows I27).bind fun r30 =>
        hlet (fun (I32 : Nat → Nat → Int32) (O33 : Nat → Nat → Option Nat) => show Option (Int32 × (Nat → Nat → Int32) × (Nat → Nat → Option Nat)) from
          (f_X7_sparrows I32).bind fun r35 =>
          if r35 < (8 : Int32) then
            some ((1 : Int32), I32, O33)
          else
            (f_L_enter (20 : Int32) (500 : Int32) (0 : Int32) I32 O33).bind fun (r39, I37, O38) =>
            if r39 = (-4 : Int32) then
              some ((1 : Int32), I37, O38)
            else
              some ((0 : Int32), I37, O38)) fun j34 =>
        if 0 < r30 then
          j34 I27 O28
        else
          (f_L_begin I27 O28).bind fun (r45, I43, O44) =>
          if r45 = (-4 : Int32) then
            j34 I43 O44
          else
            some ((0 : Int32), I43, O44)) fun j29 =>
      if r25 = 0 then
        (f_L_pass (5 : Int32) I22 O23).bind fun (r51, I49, O50) =>
        if r51 = (-4 : Int32) then
          j29 I49 O50
        else
          some ((0 : Int32), I49, O50)
      else
        j29 I22 O23) fun j24 =>
    if r20 = 0 then
      j24 I18 O19
    else
      (f_L_enter (20 : Int32) (500 : Int32) (0 : Int32) I18 O19).bind fun (r57, I55, O56) =>
      if r57 = (-4 : Int32) then
        (f_L_setLaps (3 : Int32) I55 O56).bind fun (r61, I59, O60) =>
        if r61 = (-4 : Int32) then
          j24 I59 O60
        else
          some ((0 : Int32), I59, O60)
      else
        some ((0 : Int32), I55, O56)
set_option maxHeartbeats 8000000 in
set_option maxRecDepth 100000 in
theorem c_L_refuses {l : Launch} (hlf : l.stackTraces = false) {dC : Nat → ClassId} {dI : Nat → Nat → Nat} {ca : Nat → ClassId} {b : Nat → Nat} {A : Nat → Prop} {N : Nat} (hN : 129 ≤ N) (hA : gAd A b N) (I : Nat → Nat → Int32) (O : Nat → Nat → Option Nat) (J : Nat → Nat → Int64) (a1 : Int32) (res : Int32 × (Nat → Nat → Int32) × (Nat → Nat → Option Nat)) (h : f_L_refuses a1 I O = some res) : Met l yL_refuses wsL_refuses ({ frames := 10, cells := 326, slots := 1956, locals := 193 } : Room) (va_Pc [.ref (b 0), .int a1] (gPre dC dI ca b A N I O J)) (va_Qi (fun (r : Int32) (u : (Nat → Nat → Int32) × (Nat → Nat → Option Nat)) => res = (r, u)) (fun (u : (Nat → Nat → Int32) × (Nat → Nat → Option Nat)) t => va_P (dC, dI) vwCl (hW N ca b u.1 u.2 J) t.heap) A) 326 1956 A := by
  refine Met.ofW (cc := cL_refuses) (maxL := 6) (ret := (some .boolean)) (by decide) rfl ?_
  intro p e s m args below meth c s₁ B hml hv
  obtain ⟨rfl, hP, hK, hA2, hth⟩ := hv
  have hx := B.exec
  have hb := B.bytes
  have hr := B.returns
  have hlk := B.notSynchronized
  have X : gCx p s m ([.ref (b 0), .int a1] : List Value).toArray c RL cL_refuses wsL_refuses 6 dC dI ca b A N := ⟨hx, hb, hml, findClass_of_methodNamed B.named, atoms_spec (ws := wsL_refuses) B.pre, hK, hA, hA2, hth⟩
  have hS : va_S A s.heap s.heap [] := va_S.rf
  have hl := lv_entry ([.ref (b 0), .int a1] : List Value) (n := 6) (Nat.le_of_ble_eq_true rfl)
  rw [lg_entry_eq]
  generalize (lg_sl ([.ref (b 0), .int a1] : List Value) ++ List.replicate (6 - (lg_sl ([.ref (b 0), .int a1] : List Value)).length) Slot.unset).toArray = ls at hl ⊢
  have hl : lv_has ls 6 [(0, .ref (b 0)), (1, .int a1)] := hl
  unfold f_L_refuses at h
  have hRc : (headSpec wsL_refuses ({ frames := 10, cells := 326, slots := 1956, locals := 193 } : Room)).room.cells = 326 := rfl
  have hRs : (headSpec wsL_refuses ({ frames := 10, cells := 326, slots := 1956, locals := 193 } : Room)).room.slots = 1956 := rfl
  refine lv_iload_n hx hb dL_refuses_0 rfl (lv_at hl 1 rfl) ?_
  refine lv_iconst (v := 2) hx hb dL_refuses_1 (by decide) ?_
  refine lv_irem hx hb dL_refuses_2 (by decide) ?_
  obtain ⟨p1, hv, h⟩ := hb_some h
  have K18 : ∀ (H : Heap) (locs : List Loc) (ls : Array Slot), va_P (dC, dI) vwCl (hW N ca b I O J) H → va_S A s.heap H locs → lv_has ls 6 [(0, .ref (b 0)), (1, .int a1)] → W p l e (headSpec wsL_refuses ({ frames := 10, cells := 326, slots := 1956, locals := 193 } : Room)).room s m ([.ref (b 0), .int a1] : List Value).toArray below meth c H locs 0 0 (MQ below (va_Qi (fun (r : Int32) (u : (Nat → Nat → Int32) × (Nat → Nat → Option Nat)) => res = (r, u)) (fun (u : (Nat → Nat → Int32) × (Nat → Nat → Option Nat)) t => va_P (dC, dI) vwCl (hW N ca b u.1 u.2 J) t.heap) A) ([.ref (b 0), .int a1] : List Value).toArray s 326 1956 A) (F0 m 18 ls [.int p1]) := by
    intro H locs ls hP hS hl
    refine lv_istore_n (lv' := [(2, .int p1), (0, .ref (b 0)), (1, .int a1)]) hx hb dL_refuses_18 rfl hl (by decide) rfl (fun ls hl => ?_)
    refine lv_iload_n hx hb dL_refuses_19 rfl (lv_at hl 2 rfl) ?_
    refine lv_iconst (v := 2) hx hb dL_refuses_20 (by decide) ?_
    refine lv_irem hx hb dL_refuses_21 (by decide) ?_
    obtain ⟨p2, hv, h⟩ := hb_some h
    have K34 : ∀ (H : Heap) (locs : List Loc) (ls : Array Slot), va_P (dC, dI) vwCl (hW N ca b I O J) H → va_S A s.heap H locs → lv_has ls 6 [(0, .ref (b 0)), (1, .int a1), (2, .int p1)] → W p l e (headSpec wsL_refuses ({ frames := 10, cells := 326, slots := 1956, locals := 193 } : Room)).room s m ([.ref (b 0), .int a1] : List Value).toArray below meth c H locs 0 0 (MQ below (va_Qi (fun (r : Int32) (u : (Nat → Nat → Int32) × (Nat → Nat → Option Nat)) => res = (r, u)) (fun (u : (Nat → Nat → Int32) × (Nat → Nat → Option Nat)) t => va_P (dC, dI) vwCl (hW N ca b u.1 u.2 J) t.heap) A) ([.ref (b 0), .int a1] : List Value).toArray s 326 1956 A) (F0 m 34 ls [.int p2]) := by
      intro H locs ls hP hS hl
      refine lv_istore_n (lv' := [(3, .int p2), (0, .ref (b 0)), (1, .int a1), (2, .int p1)]) hx hb dL_refuses_34 rfl hl (by decide) rfl (fun ls hl => ?_)
      refine lv_aload_n hx hb dL_refuses_35 rfl (lv_at hl 1 rfl) ?_
      refine lv_bipush (v := 41) hx hb dL_refuses_36 (by decide) ?_
      refine lv_iload_n hx hb dL_refuses_38 rfl (lv_at hl 2 rfl) ?_
      refine lv_iadd hx hb dL_refuses_39 ?_
      refine lv_sipush (v := 500) hx hb dL_refuses_40 (by decide) ?_
      refine lv_iconst (v := 0) hx hb dL_refuses_43 (by decide) ?_
      obtain ⟨q6, hcq6, h⟩ := hb_some h
      refine gcSW_i (As := [.ref (b 0), .int ((41 : Int32) + a1), .int (500 : Int32), .int (0 : Int32)]) (rest := []) (BH := (fun (u : (Nat → Nat → Int32) × (Nat → Nat → Option Nat)) H => va_P (dC, dI) vwCl (hW N ca b u.1 u.2 J) H)) X hP hS (c_L_enter hlf hN hA I O J ((41 : Int32) + a1) (500 : Int32) (0 : Int32) q6 hcq6) (vx_cwSW 4 X.ts gL_refuses_L_enter rfl rfl rfl (by decide +kernel) ⟨Nat.le_of_ble_eq_true rfl, Nat.le_of_ble_eq_true rfl⟩) rfl hl.1 rfl (Nat.le_of_ble_eq_true rfl) dL_refuses_44 ⟨Nat.le_of_ble_eq_true rfl, Nat.le_of_ble_eq_true rfl⟩ (fun r5 u9 H locs hw hP hS => ?_)
      obtain ⟨I3, O4⟩ := u9
      subst hw
      refine lv_bipush (v := (-3)) hx hb dL_refuses_47 (by decide) ?_
      obtain ⟨⟨p7, I8, O9⟩, hv, h⟩ := hb_some h
      have K306 : ∀ (H : Heap) (locs : List Loc) (ls : Array Slot), va_P (dC, dI) vwCl (hW N ca b I8 O9 J) H → va_S A s.heap H locs → lv_has ls 6 [(0, .ref (b 0)), (1, .int a1), (2, .int p1)] → W p l e (headSpec wsL_refuses ({ frames := 10, cells := 326, slots := 1956, locals := 193 } : Room)).room s m ([.ref (b 0), .int a1] : List Value).toArray below meth c H locs 31 186 (MQ below (va_Qi (fun (r : Int32) (u : (Nat → Nat → Int32) × (Nat → Nat → Option Nat)) => res = (r, u)) (fun (u : (Nat → Nat → Int32) × (Nat → Nat → Option Nat)) t => va_P (dC, dI) vwCl (hW N ca b u.1 u.2 J) t.heap) A) ([.ref (b 0), .int a1] : List Value).toArray s 326 1956 A) (F0 m 306 ls [.int p7]) := by
        intro H locs ls hP hS hl
        refine lv_istore (lv' := [(4, .int p7), (0, .ref (b 0)), (1, .int a1), (2, .int p1)]) hx hb dL_refuses_306 hl (by decide) rfl (fun ls hl => ?_)
        refine lv_iload hx hb dL_refuses_308 (lv_at hl 0 rfl) ?_
        obtain ⟨⟨p10, I11, O12⟩, hv, h⟩ := hb_some h
        have K571 : ∀ (H : Heap) (locs : List Loc) (ls : Array Slot), va_P (dC, dI) vwCl (hW N ca b I11 O12 J) H → va_S A s.heap H locs → lv_has ls 6 [(0, .ref (b 0)), (1, .int a1)] → W p l e (headSpec wsL_refuses ({ frames := 10, cells := 326, slots := 1956, locals := 193 } : Room)).room s m ([.ref (b 0), .int a1] : List Value).toArray below meth c H locs 64 384 (MQ below (va_Qi (fun (r : Int32) (u : (Nat → Nat → Int32) × (Nat → Nat → Option Nat)) => res = (r, u)) (fun (u : (Nat → Nat → Int32) × (Nat → Nat → Option Nat)) t => va_P (dC, dI) vwCl (hW N ca b u.1 u.2 J) t.heap) A) ([.ref (b 0), .int a1] : List Value).toArray s 326 1956 A) (F0 m 571 ls [.int p10]) := by
          intro H locs ls hP hS hl
          refine lv_istore (lv' := [(4, .int p10), (0, .ref (b 0)), (1, .int a1)]) hx hb dL_refuses_571 hl (by decide) rfl (fun ls hl => ?_)
          refine lv_iconst (v := 0) hx hb dL_refuses_573 (by decide) ?_
          refine lv_istore (lv' := [(5, .int (0 : Int32)), (4, .int p10), (0, .ref (b 0)), (1, .int a1)]) hx hb dL_refuses_574 hl (by decide) rfl (fun ls hl => ?_)
          obtain ⟨⟨p17, I18, O19⟩, hv, h⟩ := hb_some h
          have K698 : ∀ (H : Heap) (locs : List Loc) (ls : Array Slot), va_P (dC, dI) vwCl (hW N ca b I18 O19 J) H → va_S A s.heap H locs → lv_has ls 6 [(0, .ref (b 0)), (4, .int p17)] → W p l e (headSpec wsL_refuses ({ frames := 10, cells := 326, slots := 1956, locals := 193 } : Room)).room s m ([.ref (b 0), .int a1] : List Value).toArray below meth c H locs 320 1920 (MQ below (va_Qi (fun (r : Int32) (u : (Nat → Nat → Int32) × (Nat → Nat → Option Nat)) => res = (r, u)) (fun (u : (Nat → Nat → Int32) × (Nat → Nat → Option Nat)) t => va_P (dC, dI) vwCl (hW N ca b u.1 u.2 J) t.heap) A) ([.ref (b 0), .int a1] : List Value).toArray s 326 1956 A) (F0 m 698 ls []) := by
            intro H locs ls hP hS hl
            refine lv_iload hx hb dL_refuses_698 (lv_at hl 1 rfl) ?_
            refine lv_if_eq (tgt := 796) hx hb dL_refuses_700 (by decide) (fun c66 => ?_) (fun c66 => ?_)
            · have h := gif_t c66 h
              refine lv_iconst (v := 0) hx hb dL_refuses_796 (by decide) ?_
              refine W.widen (k := 326) (n := 1956) (Nat.le_of_ble_eq_true rfl) (Nat.le_of_ble_eq_true rfl) ?_
              exact W.zret (ty := .boolean) hx hb hr (by decide) (fun t9 ht hW => ⟨⟨(0 : Int32), (I18, O19), rfl, (Option.some.inj h).symm, gEnd ht hP⟩, hS.F ht⟩) hS.2.2 dL_refuses_797 hlk
            · have h := gif_f c66 h
              refine lv_aload_n hx hb dL_refuses_703 rfl (lv_at hl 0 rfl) ?_
              obtain ⟨q21, hcq21, h⟩ := hb_some h
              refine gdV_i (As := []) (rest := []) (BH := (fun (u : Unit) H => va_P (dC, dI) vwCl (hW N ca b I18 O19 J) H)) X hP hS (c_X7_isRacing hN hA I18 O19 J q21 hcq21) (cwV 0 X.ts gL_refuses_X7_isRacing rfl rfl rfl (by decide +kernel) ⟨Nat.le_of_ble_eq_true rfl, Nat.le_of_ble_eq_true rfl⟩) (gr7 X hP kc_0 (sk_in hN kc_0 (by decide))) rfl hl.1 rfl (Nat.le_of_ble_eq_true rfl) dL_refuses_704 ⟨Nat.le_of_ble_eq_true rfl, Nat.le_of_ble_eq_true rfl⟩ (fun r20 u9 H locs hw hP hS => ?_)
              have hw := hw.symm
              subst hw
              obtain ⟨j24, ej24, h⟩ := hlet_ex h
              have K735 : ∀ (I22 : Nat → Nat → Int32) (O23 : Nat → Nat → Option Nat) (H : Heap) (locs : List Loc) (ls : Array Slot), j24 I22 O23 = some res → va_P (dC, dI) vwCl (hW N ca b I22 O23 J) H → va_S A s.heap H locs → lv_has ls 6 [(0, .ref (b 0))] → W p l e (headSpec wsL_refuses ({ frames := 10, cells := 326, slots := 1956, locals := 193 } : Room)).room s m ([.ref (b 0), .int a1] : List Value).toArray below meth c H locs 322 1932 (MQ below (va_Qi (fun (r : Int32) (u : (Nat → Nat → Int32) × (Nat → Nat → Option Nat)) => res = (r, u)) (fun (u : (Nat → Nat → Int32) × (Nat → Nat → Option Nat)) t => va_P (dC, dI) vwCl (hW N ca b u.1 u.2 J) t.heap) A) ([.ref (b 0), .int a1] : List Value).toArray s 326 1956 A) (F0 m 735 ls []) := by
                intro I22 O23 H locs ls h hP hS hl
                rw [ej24] at h
                refine lv_aload_n hx hb dL_refuses_735 rfl (lv_at hl 0 rfl) ?_
                obtain ⟨q26, hcq26, h⟩ := hb_some h
                refine gdV_i (As := []) (rest := []) (BH := (fun (u : Unit) H => va_P (dC, dI) vwCl (hW N ca b I22 O23 J) H)) X hP hS (c_X7_isRacing hN hA I22 O23 J q26 hcq26) (cwV 0 X.ts gL_refuses_X7_isRacing rfl rfl rfl (by decide +kernel) ⟨Nat.le_of_ble_eq_true rfl, Nat.le_of_ble_eq_true rfl⟩) (gr7 X hP kc_0 (sk_in hN kc_0 (by decide))) rfl hl.1 rfl (Nat.le_of_ble_eq_true rfl) dL_refuses_736 ⟨Nat.le_of_ble_eq_true rfl, Nat.le_of_ble_eq_true rfl⟩ (fun r25 u9 H locs hw hP hS => ?_)
                have hw := hw.symm
                subst hw
                obtain ⟨j29, ej29, h⟩ := hlet_ex h
                have K752 : ∀ (I27 : Nat → Nat → Int32) (O28 : Nat → Nat → Option Nat) (H : Heap) (locs : List Loc) (ls : Array Slot), j29 I27 O28 = some res → va_P (dC, dI) vwCl (hW N ca b I27 O28 J) H → va_S A s.heap H locs → lv_has ls 6 [(0, .ref (b 0))] → W p l e (headSpec wsL_refuses ({ frames := 10, cells := 326, slots := 1956, locals := 193 } : Room)).room s m ([.ref (b 0), .int a1] : List Value).toArray below meth c H locs 324 1944 (MQ below (va_Qi (fun (r : Int32) (u : (Nat → Nat → Int32) × (Nat → Nat → Option Nat)) => res = (r, u)) (fun (u : (Nat → Nat → Int32) × (Nat → Nat → Option Nat)) t => va_P (dC, dI) vwCl (hW N ca b u.1 u.2 J) t.heap) A) ([.ref (b 0), .int a1] : List Value).toArray s 326 1956 A) (F0 m 752 ls []) := by
                  intro I27 O28 H locs ls h hP hS hl
                  rw [ej29] at h
                  refine lv_aload_n hx hb dL_refuses_752 rfl (lv_at hl 0 rfl) ?_
                  obtain ⟨q31, hcq31, h⟩ := hb_some h
                  refine gdV_i (As := []) (rest := []) (BH := (fun (u : Unit) H => va_P (dC, dI) vwCl (hW N ca b I27 O28 J) H)) X hP hS (c_X7_sparrows hN hA I27 O28 J q31 hcq31) (cwV 0 X.ts gL_refuses_X7_sparrows rfl rfl rfl (by decide +kernel) ⟨Nat.le_of_ble_eq_true rfl, Nat.le_of_ble_eq_true rfl⟩) (gr7 X hP kc_0 (sk_in hN kc_0 (by decide))) rfl hl.1 rfl (Nat.le_of_ble_eq_true rfl) dL_refuses_753 ⟨Nat.le_of_ble_eq_true rfl, Nat.le_of_ble_eq_true rfl⟩ (fun r30 u9 H locs hw hP hS => ?_)
                  have hw := hw.symm
                  subst hw
                  obtain ⟨j34, ej34, h⟩ := hlet_ex h
                  have K768 : ∀ (I32 : Nat → Nat → Int32) (O33 : Nat → Nat → Option Nat) (H : Heap) (locs : List Loc) (ls : Array Slot), j34 I32 O33 = some res → va_P (dC, dI) vwCl (hW N ca b I32 O33 J) H → va_S A s.heap H locs → lv_has ls 6 [(0, .ref (b 0))] → W p l e (headSpec wsL_refuses ({ frames := 10, cells := 326, slots := 1956, locals := 193 } : Room)).room s m ([.ref (b 0), .int a1] : List Value).toArray below meth c H locs 325 1950 (MQ below (va_Qi (fun (r : Int32) (u : (Nat → Nat → Int32) × (Nat → Nat → Option Nat)) => res = (r, u)) (fun (u : (Nat → Nat → Int32) × (Nat → Nat → Option Nat)) t => va_P (dC, dI) vwCl (hW N ca b u.1 u.2 J) t.heap) A) ([.ref (b 0), .int a1] : List Value).toArray s 326 1956 A) (F0 m 768 ls []) := by
                    intro I32 O33 H locs ls h hP hS hl
                    rw [ej34] at h
                    refine lv_aload_n hx hb dL_refuses_768 rfl (lv_at hl 0 rfl) ?_
                    obtain ⟨q36, hcq36, h⟩ := hb_some h
                    refine gdV_i (As := []) (rest := []) (BH := (fun (u : Unit) H => va_P (dC, dI) vwCl (hW N ca b I32 O33 J) H)) X hP hS (c_X7_sparrows hN hA I32 O33 J q36 hcq36) (cwV 0 X.ts gL_refuses_X7_sparrows rfl rfl rfl (by decide +kernel) ⟨Nat.le_of_ble_eq_true rfl, Nat.le_of_ble_eq_true rfl⟩) (gr7 X hP kc_0 (sk_in hN kc_0 (by decide))) rfl hl.1 rfl (Nat.le_of_ble_eq_true rfl) dL_refuses_769 ⟨Nat.le_of_ble_eq_true rfl, Nat.le_of_ble_eq_true rfl⟩ (fun r35 u9 H locs hw hP hS => ?_)
                    have hw := hw.symm
                    subst hw
                    refine lv_bipush (v := 8) hx hb dL_refuses_772 (by decide) ?_
                    refine lv_icmp_lt (tgt := 792) hx hb dL_refuses_774 (by decide) (fun c42 => ?_) (fun c42 => ?_)
                    · have h := gif_t c42 h
                      refine lv_iconst (v := 1) hx hb dL_refuses_792 (by decide) ?_
                      refine lv_goto (tgt := 797) hx hb dL_refuses_793 (by decide) ?_
                      refine W.widen (k := 326) (n := 1956) (Nat.le_of_ble_eq_true rfl) (Nat.le_of_ble_eq_true rfl) ?_
                      exact W.zret (ty := .boolean) hx hb hr (by decide) (fun t9 ht hW => ⟨⟨(1 : Int32), (I32, O33), rfl, (Option.some.inj h).symm, gEnd ht hP⟩, hS.F ht⟩) hS.2.2 dL_refuses_797 hlk
                    · have h := gif_f c42 h
                      refine lv_aload_n hx hb dL_refuses_777 rfl (lv_at hl 0 rfl) ?_
                      refine lv_bipush (v := 20) hx hb dL_refuses_778 (by decide) ?_
                      refine lv_sipush (v := 500) hx hb dL_refuses_780 (by decide) ?_
                      refine lv_iconst (v := 0) hx hb dL_refuses_783 (by decide) ?_
                      obtain ⟨q40, hcq40, h⟩ := hb_some h
                      refine gcSW_i (As := [.ref (b 0), .int (20 : Int32), .int (500 : Int32), .int (0 : Int32)]) (rest := []) (BH := (fun (u : (Nat → Nat → Int32) × (Nat → Nat → Option Nat)) H => va_P (dC, dI) vwCl (hW N ca b u.1 u.2 J) H)) X hP hS (c_L_enter hlf hN hA I32 O33 J (20 : Int32) (500 : Int32) (0 : Int32) q40 hcq40) (vx_cwSW 4 X.ts gL_refuses_L_enter rfl rfl rfl (by decide +kernel) ⟨Nat.le_of_ble_eq_true rfl, Nat.le_of_ble_eq_true rfl⟩) rfl hl.1 rfl (Nat.le_of_ble_eq_true rfl) dL_refuses_784 ⟨Nat.le_of_ble_eq_true rfl, Nat.le_of_ble_eq_true rfl⟩ (fun r39 u9 H locs hw hP hS => ?_)
                      obtain ⟨I37, O38⟩ := u9
                      subst hw
                      refine lv_bipush (v := (-4)) hx hb dL_refuses_787 (by decide) ?_
                      refine lv_icmp_ne (tgt := 796) hx hb dL_refuses_789 (by decide) (fun c41 => ?_) (fun c41 => ?_)
                      · have h := gif_f c41 h
                        refine lv_iconst (v := 0) hx hb dL_refuses_796 (by decide) ?_
                        refine W.widen (k := 326) (n := 1956) (Nat.le_of_ble_eq_true rfl) (Nat.le_of_ble_eq_true rfl) ?_
                        exact W.zret (ty := .boolean) hx hb hr (by decide) (fun t9 ht hW => ⟨⟨(0 : Int32), (I37, O38), rfl, (Option.some.inj h).symm, gEnd ht hP⟩, hS.F ht⟩) hS.2.2 dL_refuses_797 hlk
                      · have h := gif_t c41 h
                        refine lv_iconst (v := 1) hx hb dL_refuses_792 (by decide) ?_
                        refine lv_goto (tgt := 797) hx hb dL_refuses_793 (by decide) ?_
                        refine W.widen (k := 326) (n := 1956) (Nat.le_of_ble_eq_true rfl) (Nat.le_of_ble_eq_true rfl) ?_
                        exact W.zret (ty := .boolean) hx hb hr (by decide) (fun t9 ht hW => ⟨⟨(1 : Int32), (I37, O38), rfl, (Option.some.inj h).symm, gEnd ht hP⟩, hS.F ht⟩) hS.2.2 dL_refuses_797 hlk
                  refine lv_if_gt (tgt := 768) hx hb dL_refuses_756 (by decide) (fun c48 => ?_) (fun c48 => ?_)
                  · have h := gif_t c48 h
                    refine W.widen (k := 325) (n := 1950) (Nat.le_of_ble_eq_true rfl) (Nat.le_of_ble_eq_true rfl) ?_
                    exact K768 _ _ _ _ _ h hP hS (lv_sub hl [0] rfl)
                  · have h := gif_f c48 h
                    refine lv_aload_n hx hb dL_refuses_759 rfl (lv_at hl 0 rfl) ?_
                    obtain ⟨q46, hcq46, h⟩ := hb_some h
                    refine gcSW_i (As := [.ref (b 0)]) (rest := []) (BH := (fun (u : (Nat → Nat → Int32) × (Nat → Nat → Option Nat)) H => va_P (dC, dI) vwCl (hW N ca b u.1 u.2 J) H)) X hP hS (c_L_begin hlf hN hA I27 O28 J q46 hcq46) (vx_cwSW 1 X.ts gL_refuses_L_begin rfl rfl rfl (by decide +kernel) ⟨Nat.le_of_ble_eq_true rfl, Nat.le_of_ble_eq_true rfl⟩) rfl hl.1 rfl (Nat.le_of_ble_eq_true rfl) dL_refuses_760 ⟨Nat.le_of_ble_eq_true rfl, Nat.le_of_ble_eq_true rfl⟩ (fun r45 u9 H locs hw hP hS => ?_)
                    obtain ⟨I43, O44⟩ := u9
                    subst hw
                    refine lv_bipush (v := (-4)) hx hb dL_refuses_763 (by decide) ?_
                    refine lv_icmp_ne (tgt := 796) hx hb dL_refuses_765 (by decide) (fun c47 => ?_) (fun c47 => ?_)
                    · have h := gif_f c47 h
                      refine lv_iconst (v := 0) hx hb dL_refuses_796 (by decide) ?_
                      refine W.widen (k := 326) (n := 1956) (Nat.le_of_ble_eq_true rfl) (Nat.le_of_ble_eq_true rfl) ?_
                      exact W.zret (ty := .boolean) hx hb hr (by decide) (fun t9 ht hW => ⟨⟨(0 : Int32), (I43, O44), rfl, (Option.some.inj h).symm, gEnd ht hP⟩, hS.F ht⟩) hS.2.2 dL_refuses_797 hlk
                    · have h := gif_t c47 h
                      exact K768 _ _ _ _ _ h hP hS (lv_sub hl [0] rfl)
                refine lv_if_ne (tgt := 752) hx hb dL_refuses_739 (by decide) (fun c54 => ?_) (fun c54 => ?_)
                · have h := gif_f c54 h
                  refine W.widen (k := 324) (n := 1944) (Nat.le_of_ble_eq_true rfl) (Nat.le_of_ble_eq_true rfl) ?_
                  exact K752 _ _ _ _ _ h hP hS (lv_sub hl [0] rfl)
                · have h := gif_t c54 h
                  refine lv_aload_n hx hb dL_refuses_742 rfl (lv_at hl 0 rfl) ?_
                  refine lv_iconst (v := 5) hx hb dL_refuses_743 (by decide) ?_
                  obtain ⟨q52, hcq52, h⟩ := hb_some h
                  refine gcSW_i (As := [.ref (b 0), .int (5 : Int32)]) (rest := []) (BH := (fun (u : (Nat → Nat → Int32) × (Nat → Nat → Option Nat)) H => va_P (dC, dI) vwCl (hW N ca b u.1 u.2 J) H)) X hP hS (c_L_pass hlf hN hA I22 O23 J (5 : Int32) q52 hcq52) (vx_cwSW 2 X.ts gL_refuses_L_pass rfl rfl rfl (by decide +kernel) ⟨Nat.le_of_ble_eq_true rfl, Nat.le_of_ble_eq_true rfl⟩) rfl hl.1 rfl (Nat.le_of_ble_eq_true rfl) dL_refuses_744 ⟨Nat.le_of_ble_eq_true rfl, Nat.le_of_ble_eq_true rfl⟩ (fun r51 u9 H locs hw hP hS => ?_)
                  obtain ⟨I49, O50⟩ := u9
                  subst hw
                  refine lv_bipush (v := (-4)) hx hb dL_refuses_747 (by decide) ?_
                  refine lv_icmp_ne (tgt := 796) hx hb dL_refuses_749 (by decide) (fun c53 => ?_) (fun c53 => ?_)
                  · have h := gif_f c53 h
                    refine lv_iconst (v := 0) hx hb dL_refuses_796 (by decide) ?_
                    refine W.widen (k := 326) (n := 1956) (Nat.le_of_ble_eq_true rfl) (Nat.le_of_ble_eq_true rfl) ?_
                    exact W.zret (ty := .boolean) hx hb hr (by decide) (fun t9 ht hW => ⟨⟨(0 : Int32), (I49, O50), rfl, (Option.some.inj h).symm, gEnd ht hP⟩, hS.F ht⟩) hS.2.2 dL_refuses_797 hlk
                  · have h := gif_t c53 h
                    exact K752 _ _ _ _ _ h hP hS (lv_sub hl [0] rfl)
              refine lv_if_eq (tgt := 735) hx hb dL_refuses_707 (by decide) (fun c65 => ?_) (fun c65 => ?_)
              · have h := gif_t c65 h
                refine W.widen (k := 322) (n := 1932) (Nat.le_of_ble_eq_true rfl) (Nat.le_of_ble_eq_true rfl) ?_
                exact K735 _ _ _ _ _ h hP hS (lv_sub hl [0] rfl)
              · have h := gif_f c65 h
                refine lv_aload_n hx hb dL_refuses_710 rfl (lv_at hl 0 rfl) ?_
                refine lv_bipush (v := 20) hx hb dL_refuses_711 (by decide) ?_
                refine lv_sipush (v := 500) hx hb dL_refuses_713 (by decide) ?_
                refine lv_iconst (v := 0) hx hb dL_refuses_716 (by decide) ?_
                obtain ⟨q58, hcq58, h⟩ := hb_some h
                refine gcSW_i (As := [.ref (b 0), .int (20 : Int32), .int (500 : Int32), .int (0 : Int32)]) (rest := []) (BH := (fun (u : (Nat → Nat → Int32) × (Nat → Nat → Option Nat)) H => va_P (dC, dI) vwCl (hW N ca b u.1 u.2 J) H)) X hP hS (c_L_enter hlf hN hA I18 O19 J (20 : Int32) (500 : Int32) (0 : Int32) q58 hcq58) (vx_cwSW 4 X.ts gL_refuses_L_enter rfl rfl rfl (by decide +kernel) ⟨Nat.le_of_ble_eq_true rfl, Nat.le_of_ble_eq_true rfl⟩) rfl hl.1 rfl (Nat.le_of_ble_eq_true rfl) dL_refuses_717 ⟨Nat.le_of_ble_eq_true rfl, Nat.le_of_ble_eq_true rfl⟩ (fun r57 u9 H locs hw hP hS => ?_)
                obtain ⟨I55, O56⟩ := u9
                subst hw
                refine lv_bipush (v := (-4)) hx hb dL_refuses_720 (by decide) ?_
                refine lv_icmp_ne (tgt := 796) hx hb dL_refuses_722 (by decide) (fun c64 => ?_) (fun c64 => ?_)
                · have h := gif_f c64 h
                  refine lv_iconst (v := 0) hx hb dL_refuses_796 (by decide) ?_
                  refine W.widen (k := 326) (n := 1956) (Nat.le_of_ble_eq_true rfl) (Nat.le_of_ble_eq_true rfl) ?_
                  exact W.zret (ty := .boolean) hx hb hr (by decide) (fun t9 ht hW => ⟨⟨(0 : Int32), (I55, O56), rfl, (Option.some.inj h).symm, gEnd ht hP⟩, hS.F ht⟩) hS.2.2 dL_refuses_797 hlk
                · have h := gif_t c64 h
                  refine lv_aload_n hx hb dL_refuses_725 rfl (lv_at hl 0 rfl) ?_
                  refine lv_iconst (v := 3) hx hb dL_refuses_726 (by decide) ?_
                  obtain ⟨q62, hcq62, h⟩ := hb_some h
                  refine gcSW_i (As := [.ref (b 0), .int (3 : Int32)]) (rest := []) (BH := (fun (u : (Nat → Nat → Int32) × (Nat → Nat → Option Nat)) H => va_P (dC, dI) vwCl (hW N ca b u.1 u.2 J) H)) X hP hS (c_L_setLaps hlf hN hA I55 O56 J (3 : Int32) q62 hcq62) (vx_cwSW 2 X.ts gL_refuses_L_setLaps rfl rfl rfl (by decide +kernel) ⟨Nat.le_of_ble_eq_true rfl, Nat.le_of_ble_eq_true rfl⟩) rfl hl.1 rfl (Nat.le_of_ble_eq_true rfl) dL_refuses_727 ⟨Nat.le_of_ble_eq_true rfl, Nat.le_of_ble_eq_true rfl⟩ (fun r61 u9 H locs hw hP hS => ?_)
                  obtain ⟨I59, O60⟩ := u9
                  subst hw
                  refine lv_bipush (v := (-4)) hx hb dL_refuses_730 (by decide) ?_
                  refine lv_icmp_ne (tgt := 796) hx hb dL_refuses_732 (by decide) (fun c63 => ?_) (fun c63 => ?_)
                  · have h := gif_f c63 h
                    refine lv_iconst (v := 0) hx hb dL_refuses_796 (by decide) ?_
                    refine W.widen (k := 326) (n := 1956) (Nat.le_of_ble_eq_true rfl) (Nat.le_of_ble_eq_true rfl) ?_
                    exact W.zret (ty := .boolean) hx hb hr (by decide) (fun t9 ht hW => ⟨⟨(0 : Int32), (I59, O60), rfl, (Option.some.inj h).symm, gEnd ht hP⟩, hS.F ht⟩) hS.2.2 dL_refuses_797 hlk
                  · have h := gif_t c63 h
                    exact K735 _ _ _ _ _ h hP hS (lv_sub hl [0] rfl)
          have hL576 : ∀ (fuel : Nat) (p13 : Int32) (p14 : Int32) (I15 : Nat → Nat → Int32) (O16 : Nat → Nat → Option Nat) (cn576 sn576 : Nat) (H : Heap) (locs : List Loc) (ls : Array Slot), cn576 + 16 * fuel ≤ 320 → sn576 + 96 * fuel ≤ 1920 → f_L_refuses_L576 a1 fuel p13 p14 I15 O16 = some (p17, I18, O19) → va_P (dC, dI) vwCl (hW N ca b I15 O16 J) H → va_S A s.heap H locs → lv_has ls 6 [(0, .ref (b 0)), (1, .int a1), (4, .int p13), (5, .int p14)] → W p l e (headSpec wsL_refuses ({ frames := 10, cells := 326, slots := 1956, locals := 193 } : Room)).room s m ([.ref (b 0), .int a1] : List Value).toArray below meth c H locs cn576 sn576 (MQ below (va_Qi (fun (r : Int32) (u : (Nat → Nat → Int32) × (Nat → Nat → Option Nat)) => res = (r, u)) (fun (u : (Nat → Nat → Int32) × (Nat → Nat → Option Nat)) t => va_P (dC, dI) vwCl (hW N ca b u.1 u.2 J) t.heap) A) ([.ref (b 0), .int a1] : List Value).toArray s 326 1956 A) (F0 m 576 ls []) := by
            intro fuel
            induction fuel with
            | zero =>
              intro p13 p14 I15 O16 cn576 sn576 H locs ls hcn576 hsn576 h hP hS hl
              rw [f_L_refuses_L576] at h
              cases h
            | succ fuel ih =>
              intro p13 p14 I15 O16 cn576 sn576 H locs ls hcn576 hsn576 h hP hS hl
              rw [f_L_refuses_L576] at h
              refine lv_iload hx hb dL_refuses_576 (lv_at hl 3 rfl) ?_
              refine lv_aload_n hx hb dL_refuses_578 rfl (lv_at hl 0 rfl) ?_
              obtain ⟨q68, hcq68, h⟩ := hb_some h
              refine gdV_i (As := []) (rest := [.int p14]) (BH := (fun (u : Unit) H => va_P (dC, dI) vwCl (hW N ca b I15 O16 J) H)) X hP hS (c_X7_sparrows hN hA I15 O16 J q68 hcq68) (cwV 0 X.ts gL_refuses_X7_sparrows rfl rfl rfl (by decide +kernel) ⟨Nat.le_of_ble_eq_true rfl, Nat.le_of_ble_eq_true rfl⟩) (gr7 X hP kc_0 (sk_in hN kc_0 (by decide))) rfl hl.1 rfl (Nat.le_of_ble_eq_true rfl) dL_refuses_579 ⟨by omega, by omega⟩ (fun r67 u9 H locs hw hP hS => ?_)
              have hw := hw.symm
              subst hw
              refine lv_icmp_ge (tgt := 698) hx hb dL_refuses_582 (by decide) (fun c107 => ?_) (fun c107 => ?_)
              · have h := gif_t c107 h
                refine W.widen (k := 320) (n := 1920) (by omega) (by omega) ?_
                cases h
                exact K698 _ _ _ hP hS (lv_sub hl [0, 2] rfl)
              · have h := gif_f c107 h
                refine lv_iload hx hb dL_refuses_585 (lv_at hl 2 rfl) ?_
                refine lv_if_eq (tgt := 698) hx hb dL_refuses_587 (by decide) (fun c106 => ?_) (fun c106 => ?_)
                · have h := gif_t c106 h
                  refine W.widen (k := 320) (n := 1920) (by omega) (by omega) ?_
                  cases h
                  exact K698 _ _ _ hP hS (lv_sub hl [0, 2] rfl)
                · have h := gif_f c106 h
                  refine lv_aload_n hx hb dL_refuses_590 rfl (lv_at hl 0 rfl) ?_
                  refine lv_iload hx hb dL_refuses_591 (lv_at hl 3 rfl) ?_
                  refine lv_bipush (v := 41) hx hb dL_refuses_593 (by decide) ?_
                  refine lv_iload_n hx hb dL_refuses_595 rfl (lv_at hl 1 rfl) ?_
                  refine lv_iadd hx hb dL_refuses_596 ?_
                  obtain ⟨q72, hcq72, h⟩ := hb_some h
                  refine gcSW_i (As := [.ref (b 0), .int p14, .int ((41 : Int32) + a1)]) (rest := []) (BH := (fun (u : (Nat → Nat → Int32) × (Nat → Nat → Option Nat)) H => va_P (dC, dI) vwCl (hW N ca b u.1 u.2 J) H)) X hP hS (c_L_setPace hlf hN hA I15 O16 J p14 ((41 : Int32) + a1) q72 hcq72) (vx_cwSW 3 X.ts gL_refuses_L_setPace rfl rfl rfl (by decide +kernel) ⟨Nat.le_of_ble_eq_true rfl, Nat.le_of_ble_eq_true rfl⟩) rfl hl.1 rfl (Nat.le_of_ble_eq_true rfl) dL_refuses_597 ⟨by omega, by omega⟩ (fun r71 u9 H locs hw hP hS => ?_)
                  obtain ⟨I69, O70⟩ := u9
                  subst hw
                  refine lv_bipush (v := (-3)) hx hb dL_refuses_600 (by decide) ?_
                  obtain ⟨⟨p73, I74, O75⟩, hv, h⟩ := hb_some h
                  have K690 : ∀ (H : Heap) (locs : List Loc) (ls : Array Slot), va_P (dC, dI) vwCl (hW N ca b I74 O75 J) H → va_S A s.heap H locs → lv_has ls 6 [(0, .ref (b 0)), (1, .int a1), (5, .int p14)] → W p l e (headSpec wsL_refuses ({ frames := 10, cells := 326, slots := 1956, locals := 193 } : Room)).room s m ([.ref (b 0), .int a1] : List Value).toArray below meth c H locs (cn576 + 16) (sn576 + 96) (MQ below (va_Qi (fun (r : Int32) (u : (Nat → Nat → Int32) × (Nat → Nat → Option Nat)) => res = (r, u)) (fun (u : (Nat → Nat → Int32) × (Nat → Nat → Option Nat)) t => va_P (dC, dI) vwCl (hW N ca b u.1 u.2 J) t.heap) A) ([.ref (b 0), .int a1] : List Value).toArray s 326 1956 A) (F0 m 690 ls [.int p73]) := by
                    intro H locs ls hP hS hl
                    refine lv_istore (lv' := [(4, .int p73), (0, .ref (b 0)), (1, .int a1), (5, .int p14)]) hx hb dL_refuses_690 hl (by decide) rfl (fun ls hl => ?_)
                    obtain ⟨x76, ex76, h⟩ := hlet_ex h
                    refine lv_iinc (v := x76) (lv' := [(5, .int x76), (4, .int p73), (0, .ref (b 0)), (1, .int a1)]) hx hb dL_refuses_692 hl (k := 3) rfl (by rw [ex76]; rfl) (by decide) rfl (fun ls hl => ?_)
                    refine lv_goto (tgt := 576) hx hb dL_refuses_695 (by decide) ?_
                    exact ih _ _ _ _ (cn576 + 16) (sn576 + 96) _ _ _ (by omega) (by omega) h hP hS (lv_sub hl [2, 3, 1, 0] rfl)
                  have h := hv
                  refine lv_icmp_ne (tgt := 689) hx hb dL_refuses_602 (by decide) (fun c105 => ?_) (fun c105 => ?_)
                  · have h := gif_f c105 h
                    refine lv_iconst (v := 0) hx hb dL_refuses_689 (by decide) ?_
                    refine W.widen (k := (cn576 + 16)) (n := (sn576 + 96)) (by omega) (by omega) ?_
                    cases h
                    exact K690 _ _ _ hP hS (lv_sub hl [0, 1, 3] rfl)
                  · have h := gif_t c105 h
                    refine lv_aload_n hx hb dL_refuses_605 rfl (lv_at hl 0 rfl) ?_
                    refine lv_iload hx hb dL_refuses_606 (lv_at hl 3 rfl) ?_
                    refine lv_bipush (v := 9) hx hb dL_refuses_608 (by decide) ?_
                    refine lv_iload_n hx hb dL_refuses_610 rfl (lv_at hl 1 rfl) ?_
                    refine lv_isub hx hb dL_refuses_611 ?_
                    obtain ⟨q80, hcq80, h⟩ := hb_some h
                    refine gcSW_i (As := [.ref (b 0), .int p14, .int ((9 : Int32) - a1)]) (rest := []) (BH := (fun (u : (Nat → Nat → Int32) × (Nat → Nat → Option Nat)) H => va_P (dC, dI) vwCl (hW N ca b u.1 u.2 J) H)) X hP hS (c_L_setPace hlf hN hA I69 O70 J p14 ((9 : Int32) - a1) q80 hcq80) (vx_cwSW 3 X.ts gL_refuses_L_setPace rfl rfl rfl (by decide +kernel) ⟨Nat.le_of_ble_eq_true rfl, Nat.le_of_ble_eq_true rfl⟩) rfl hl.1 rfl (Nat.le_of_ble_eq_true rfl) dL_refuses_612 ⟨by omega, by omega⟩ (fun r79 u9 H locs hw hP hS => ?_)
                    obtain ⟨I77, O78⟩ := u9
                    subst hw
                    refine lv_bipush (v := (-3)) hx hb dL_refuses_615 (by decide) ?_
                    refine lv_icmp_ne (tgt := 689) hx hb dL_refuses_617 (by decide) (fun c104 => ?_) (fun c104 => ?_)
                    · have h := gif_f c104 h
                      refine lv_iconst (v := 0) hx hb dL_refuses_689 (by decide) ?_
                      refine W.widen (k := (cn576 + 16)) (n := (sn576 + 96)) (by omega) (by omega) ?_
                      cases h
                      exact K690 _ _ _ hP hS (lv_sub hl [0, 1, 3] rfl)
                    · have h := gif_t c104 h
                      refine lv_aload_n hx hb dL_refuses_620 rfl (lv_at hl 0 rfl) ?_
                      refine lv_iload hx hb dL_refuses_621 (lv_at hl 3 rfl) ?_
                      refine lv_iload hx hb dL_refuses_623 (lv_at hl 3 rfl) ?_
                      obtain ⟨q84, hcq84, h⟩ := hb_some h
                      refine gcSW_i (As := [.ref (b 0), .int p14, .int p14]) (rest := []) (BH := (fun (u : (Nat → Nat → Int32) × (Nat → Nat → Option Nat)) H => va_P (dC, dI) vwCl (hW N ca b u.1 u.2 J) H)) X hP hS (c_L_pair hlf hN hA I77 O78 J p14 p14 q84 hcq84) (vx_cwSW 3 X.ts gL_refuses_L_pair rfl rfl rfl (by decide +kernel) ⟨Nat.le_of_ble_eq_true rfl, Nat.le_of_ble_eq_true rfl⟩) rfl hl.1 rfl (Nat.le_of_ble_eq_true rfl) dL_refuses_625 ⟨by omega, by omega⟩ (fun r83 u9 H locs hw hP hS => ?_)
                      obtain ⟨I81, O82⟩ := u9
                      subst hw
                      refine lv_bipush (v := (-3)) hx hb dL_refuses_628 (by decide) ?_
                      refine lv_icmp_ne (tgt := 689) hx hb dL_refuses_630 (by decide) (fun c103 => ?_) (fun c103 => ?_)
                      · have h := gif_f c103 h
                        refine lv_iconst (v := 0) hx hb dL_refuses_689 (by decide) ?_
                        refine W.widen (k := (cn576 + 16)) (n := (sn576 + 96)) (by omega) (by omega) ?_
                        cases h
                        exact K690 _ _ _ hP hS (lv_sub hl [0, 1, 3] rfl)
                      · have h := gif_t c103 h
                        refine lv_aload_n hx hb dL_refuses_633 rfl (lv_at hl 0 rfl) ?_
                        refine lv_iload hx hb dL_refuses_634 (lv_at hl 3 rfl) ?_
                        refine lv_sipush (v := 201) hx hb dL_refuses_636 (by decide) ?_
                        refine lv_iload_n hx hb dL_refuses_639 rfl (lv_at hl 1 rfl) ?_
                        refine lv_iadd hx hb dL_refuses_640 ?_
                        obtain ⟨q88, hcq88, h⟩ := hb_some h
                        refine gcSW_i (As := [.ref (b 0), .int p14, .int ((201 : Int32) + a1)]) (rest := []) (BH := (fun (u : (Nat → Nat → Int32) × (Nat → Nat → Option Nat)) H => va_P (dC, dI) vwCl (hW N ca b u.1 u.2 J) H)) X hP hS (c_L_wouldFly hlf hN hA I81 O82 J p14 ((201 : Int32) + a1) q88 hcq88) (vx_cwSW 3 X.ts gL_refuses_L_wouldFly rfl rfl rfl (by decide +kernel) ⟨Nat.le_of_ble_eq_true rfl, Nat.le_of_ble_eq_true rfl⟩) rfl hl.1 rfl (Nat.le_of_ble_eq_true rfl) dL_refuses_641 ⟨by omega, by omega⟩ (fun r87 u9 H locs hw hP hS => ?_)
                        obtain ⟨I85, O86⟩ := u9
                        subst hw
                        refine lv_bipush (v := (-3)) hx hb dL_refuses_644 (by decide) ?_
                        refine lv_icmp_ne (tgt := 689) hx hb dL_refuses_646 (by decide) (fun c102 => ?_) (fun c102 => ?_)
                        · have h := gif_f c102 h
                          refine lv_iconst (v := 0) hx hb dL_refuses_689 (by decide) ?_
                          refine W.widen (k := (cn576 + 16)) (n := (sn576 + 96)) (by omega) (by omega) ?_
                          cases h
                          exact K690 _ _ _ hP hS (lv_sub hl [0, 1, 3] rfl)
                        · have h := gif_t c102 h
                          refine lv_aload_n hx hb dL_refuses_649 rfl (lv_at hl 0 rfl) ?_
                          refine lv_iload hx hb dL_refuses_650 (lv_at hl 3 rfl) ?_
                          refine lv_bipush (v := 9) hx hb dL_refuses_652 (by decide) ?_
                          refine lv_iload_n hx hb dL_refuses_654 rfl (lv_at hl 1 rfl) ?_
                          refine lv_isub hx hb dL_refuses_655 ?_
                          obtain ⟨q92, hcq92, h⟩ := hb_some h
                          refine gcSW_i (As := [.ref (b 0), .int p14, .int ((9 : Int32) - a1)]) (rest := []) (BH := (fun (u : (Nat → Nat → Int32) × (Nat → Nat → Option Nat)) H => va_P (dC, dI) vwCl (hW N ca b u.1 u.2 J) H)) X hP hS (c_L_flownWithPace hlf hN hA I85 O86 J p14 ((9 : Int32) - a1) q92 hcq92) (vx_cwSW 3 X.ts gL_refuses_L_flownWithPace rfl rfl rfl (by decide +kernel) ⟨Nat.le_of_ble_eq_true rfl, Nat.le_of_ble_eq_true rfl⟩) rfl hl.1 rfl (Nat.le_of_ble_eq_true rfl) dL_refuses_656 ⟨by omega, by omega⟩ (fun r91 u9 H locs hw hP hS => ?_)
                          obtain ⟨I89, O90⟩ := u9
                          subst hw
                          refine lv_bipush (v := (-3)) hx hb dL_refuses_659 (by decide) ?_
                          refine lv_icmp_ne (tgt := 689) hx hb dL_refuses_661 (by decide) (fun c101 => ?_) (fun c101 => ?_)
                          · have h := gif_f c101 h
                            refine lv_iconst (v := 0) hx hb dL_refuses_689 (by decide) ?_
                            refine W.widen (k := (cn576 + 16)) (n := (sn576 + 96)) (by omega) (by omega) ?_
                            cases h
                            exact K690 _ _ _ hP hS (lv_sub hl [0, 1, 3] rfl)
                          · have h := gif_t c101 h
                            refine lv_aload_n hx hb dL_refuses_664 rfl (lv_at hl 0 rfl) ?_
                            refine lv_iload hx hb dL_refuses_665 (lv_at hl 3 rfl) ?_
                            obtain ⟨q94, hcq94, h⟩ := hb_some h
                            refine gcSW_i (As := [.ref (b 0), .int p14]) (rest := []) (BH := (fun (u : Unit) H => va_P (dC, dI) vwCl (hW N ca b I89 O90 J) H)) X hP hS (c_L_stateOf hlf hN hA I89 O90 J p14 q94 hcq94) (vx_cwSW 2 X.ts gL_refuses_L_stateOf rfl rfl rfl (by decide +kernel) ⟨Nat.le_of_ble_eq_true rfl, Nat.le_of_ble_eq_true rfl⟩) rfl hl.1 rfl (Nat.le_of_ble_eq_true rfl) dL_refuses_667 ⟨by omega, by omega⟩ (fun r93 u9 H locs hw hP hS => ?_)
                            have hw := hw.symm
                            subst hw
                            refine lv_iconst (v := 3) hx hb dL_refuses_670 (by decide) ?_
                            refine lv_icmp_ne (tgt := 685) hx hb dL_refuses_671 (by decide) (fun c100 => ?_) (fun c100 => ?_)
                            · have h := gif_f c100 h
                              refine lv_iconst (v := 1) hx hb dL_refuses_685 (by decide) ?_
                              refine lv_goto (tgt := 690) hx hb dL_refuses_686 (by decide) ?_
                              refine W.widen (k := (cn576 + 16)) (n := (sn576 + 96)) (by omega) (by omega) ?_
                              cases h
                              exact K690 _ _ _ hP hS (lv_sub hl [0, 1, 3] rfl)
                            · have h := gif_t c100 h
                              refine lv_aload_n hx hb dL_refuses_674 rfl (lv_at hl 0 rfl) ?_
                              refine lv_iload hx hb dL_refuses_675 (lv_at hl 3 rfl) ?_
                              obtain ⟨q98, hcq98, h⟩ := hb_some h
                              refine gcSW_i (As := [.ref (b 0), .int p14]) (rest := []) (BH := (fun (u : (Nat → Nat → Int32) × (Nat → Nat → Option Nat)) H => va_P (dC, dI) vwCl (hW N ca b u.1 u.2 J) H)) X hP hS (c_L_callIn hlf hN hA I89 O90 J p14 q98 hcq98) (vx_cwSW 2 X.ts gL_refuses_L_callIn rfl rfl rfl (by decide +kernel) ⟨Nat.le_of_ble_eq_true rfl, Nat.le_of_ble_eq_true rfl⟩) rfl hl.1 rfl (Nat.le_of_ble_eq_true rfl) dL_refuses_677 ⟨by omega, by omega⟩ (fun r97 u9 H locs hw hP hS => ?_)
                              obtain ⟨I95, O96⟩ := u9
                              subst hw
                              refine lv_bipush (v := (-4)) hx hb dL_refuses_680 (by decide) ?_
                              refine lv_icmp_ne (tgt := 689) hx hb dL_refuses_682 (by decide) (fun c99 => ?_) (fun c99 => ?_)
                              · have h := gif_f c99 h
                                refine lv_iconst (v := 0) hx hb dL_refuses_689 (by decide) ?_
                                cases h
                                exact K690 _ _ _ hP hS (lv_sub hl [0, 1, 3] rfl)
                              · have h := gif_t c99 h
                                refine lv_iconst (v := 1) hx hb dL_refuses_685 (by decide) ?_
                                refine lv_goto (tgt := 690) hx hb dL_refuses_686 (by decide) ?_
                                cases h
                                exact K690 _ _ _ hP hS (lv_sub hl [0, 1, 3] rfl)
          exact hL576 16 _ _ _ _ 64 384 _ _ _ (Nat.le_of_ble_eq_true rfl) (Nat.le_of_ble_eq_true rfl) hv hP hS (lv_sub hl [2, 3, 1, 0] rfl)
        have h := hv
        refine lv_if_eq (tgt := 570) hx hb dL_refuses_310 (by decide) (fun c189 => ?_) (fun c189 => ?_)
        · have h := gif_t c189 h
          refine lv_iconst (v := 0) hx hb dL_refuses_570 (by decide) ?_
          refine W.widen (k := 64) (n := 384) (Nat.le_of_ble_eq_true rfl) (Nat.le_of_ble_eq_true rfl) ?_
          cases h
          exact K571 _ _ _ hP hS (lv_sub hl [1, 2] rfl)
        · have h := gif_f c189 h
          refine lv_aload_n hx hb dL_refuses_313 rfl (lv_at hl 1 rfl) ?_
          refine lv_iload_n hx hb dL_refuses_314 rfl (lv_at hl 3 rfl) ?_
          obtain ⟨q109, hcq109, h⟩ := hb_some h
          refine gcSW_i (As := [.ref (b 0), .int p1]) (rest := []) (BH := (fun (u : Unit) H => va_P (dC, dI) vwCl (hW N ca b I8 O9 J) H)) X hP hS (c_L_flown hlf hN hA I8 O9 J p1 q109 hcq109) (vx_cwSW 2 X.ts gL_refuses_L_flown rfl rfl rfl (by decide +kernel) ⟨Nat.le_of_ble_eq_true rfl, Nat.le_of_ble_eq_true rfl⟩) rfl hl.1 rfl (Nat.le_of_ble_eq_true rfl) dL_refuses_315 ⟨Nat.le_of_ble_eq_true rfl, Nat.le_of_ble_eq_true rfl⟩ (fun r108 u9 H locs hw hP hS => ?_)
          have hw := hw.symm
          subst hw
          refine lv_bipush (v := (-2)) hx hb dL_refuses_318 (by decide) ?_
          refine lv_icmp_ne (tgt := 570) hx hb dL_refuses_320 (by decide) (fun c188 => ?_) (fun c188 => ?_)
          · have h := gif_f c188 h
            refine lv_iconst (v := 0) hx hb dL_refuses_570 (by decide) ?_
            refine W.widen (k := 64) (n := 384) (Nat.le_of_ble_eq_true rfl) (Nat.le_of_ble_eq_true rfl) ?_
            cases h
            exact K571 _ _ _ hP hS (lv_sub hl [1, 2] rfl)
          · have h := gif_t c188 h
            refine lv_aload_n hx hb dL_refuses_323 rfl (lv_at hl 1 rfl) ?_
            refine lv_iload_n hx hb dL_refuses_324 rfl (lv_at hl 3 rfl) ?_
            obtain ⟨q111, hcq111, h⟩ := hb_some h
            refine gcSW_i (As := [.ref (b 0), .int p1]) (rest := []) (BH := (fun (u : Unit) H => va_P (dC, dI) vwCl (hW N ca b I8 O9 J) H)) X hP hS (c_L_lapsOf hlf hN hA I8 O9 J p1 q111 hcq111) (vx_cwSW 2 X.ts gL_refuses_L_lapsOf rfl rfl rfl (by decide +kernel) ⟨Nat.le_of_ble_eq_true rfl, Nat.le_of_ble_eq_true rfl⟩) rfl hl.1 rfl (Nat.le_of_ble_eq_true rfl) dL_refuses_325 ⟨Nat.le_of_ble_eq_true rfl, Nat.le_of_ble_eq_true rfl⟩ (fun r110 u9 H locs hw hP hS => ?_)
            have hw := hw.symm
            subst hw
            refine lv_bipush (v := (-2)) hx hb dL_refuses_328 (by decide) ?_
            refine lv_icmp_ne (tgt := 570) hx hb dL_refuses_330 (by decide) (fun c187 => ?_) (fun c187 => ?_)
            · have h := gif_f c187 h
              refine lv_iconst (v := 0) hx hb dL_refuses_570 (by decide) ?_
              refine W.widen (k := 64) (n := 384) (Nat.le_of_ble_eq_true rfl) (Nat.le_of_ble_eq_true rfl) ?_
              cases h
              exact K571 _ _ _ hP hS (lv_sub hl [1, 2] rfl)
            · have h := gif_t c187 h
              refine lv_aload_n hx hb dL_refuses_333 rfl (lv_at hl 1 rfl) ?_
              refine lv_iload_n hx hb dL_refuses_334 rfl (lv_at hl 3 rfl) ?_
              obtain ⟨q113, hcq113, h⟩ := hb_some h
              refine gcSW_i (As := [.ref (b 0), .int p1]) (rest := []) (BH := (fun (u : Unit) H => va_P (dC, dI) vwCl (hW N ca b I8 O9 J) H)) X hP hS (c_L_speedOf hlf hN hA I8 O9 J p1 q113 hcq113) (vx_cwSW 2 X.ts gL_refuses_L_speedOf rfl rfl rfl (by decide +kernel) ⟨Nat.le_of_ble_eq_true rfl, Nat.le_of_ble_eq_true rfl⟩) rfl hl.1 rfl (Nat.le_of_ble_eq_true rfl) dL_refuses_335 ⟨Nat.le_of_ble_eq_true rfl, Nat.le_of_ble_eq_true rfl⟩ (fun r112 u9 H locs hw hP hS => ?_)
              have hw := hw.symm
              subst hw
              refine lv_bipush (v := (-2)) hx hb dL_refuses_338 (by decide) ?_
              refine lv_icmp_ne (tgt := 570) hx hb dL_refuses_340 (by decide) (fun c186 => ?_) (fun c186 => ?_)
              · have h := gif_f c186 h
                refine lv_iconst (v := 0) hx hb dL_refuses_570 (by decide) ?_
                refine W.widen (k := 64) (n := 384) (Nat.le_of_ble_eq_true rfl) (Nat.le_of_ble_eq_true rfl) ?_
                cases h
                exact K571 _ _ _ hP hS (lv_sub hl [1, 2] rfl)
              · have h := gif_t c186 h
                refine lv_aload_n hx hb dL_refuses_343 rfl (lv_at hl 1 rfl) ?_
                refine lv_iload_n hx hb dL_refuses_344 rfl (lv_at hl 3 rfl) ?_
                obtain ⟨q115, hcq115, h⟩ := hb_some h
                refine gcSW_i (As := [.ref (b 0), .int p1]) (rest := []) (BH := (fun (u : Unit) H => va_P (dC, dI) vwCl (hW N ca b I8 O9 J) H)) X hP hS (c_L_strengthOf hlf hN hA I8 O9 J p1 q115 hcq115) (vx_cwSW 2 X.ts gL_refuses_L_strengthOf rfl rfl rfl (by decide +kernel) ⟨Nat.le_of_ble_eq_true rfl, Nat.le_of_ble_eq_true rfl⟩) rfl hl.1 rfl (Nat.le_of_ble_eq_true rfl) dL_refuses_345 ⟨Nat.le_of_ble_eq_true rfl, Nat.le_of_ble_eq_true rfl⟩ (fun r114 u9 H locs hw hP hS => ?_)
                have hw := hw.symm
                subst hw
                refine lv_bipush (v := (-2)) hx hb dL_refuses_348 (by decide) ?_
                refine lv_icmp_ne (tgt := 570) hx hb dL_refuses_350 (by decide) (fun c185 => ?_) (fun c185 => ?_)
                · have h := gif_f c185 h
                  refine lv_iconst (v := 0) hx hb dL_refuses_570 (by decide) ?_
                  refine W.widen (k := 64) (n := 384) (Nat.le_of_ble_eq_true rfl) (Nat.le_of_ble_eq_true rfl) ?_
                  cases h
                  exact K571 _ _ _ hP hS (lv_sub hl [1, 2] rfl)
                · have h := gif_t c185 h
                  refine lv_aload_n hx hb dL_refuses_353 rfl (lv_at hl 1 rfl) ?_
                  refine lv_iload_n hx hb dL_refuses_354 rfl (lv_at hl 3 rfl) ?_
                  obtain ⟨q117, hcq117, h⟩ := hb_some h
                  refine gcSW_i (As := [.ref (b 0), .int p1]) (rest := []) (BH := (fun (u : Unit) H => va_P (dC, dI) vwCl (hW N ca b I8 O9 J) H)) X hP hS (c_L_wearOf hlf hN hA I8 O9 J p1 q117 hcq117) (vx_cwSW 2 X.ts gL_refuses_L_wearOf rfl rfl rfl (by decide +kernel) ⟨Nat.le_of_ble_eq_true rfl, Nat.le_of_ble_eq_true rfl⟩) rfl hl.1 rfl (Nat.le_of_ble_eq_true rfl) dL_refuses_355 ⟨Nat.le_of_ble_eq_true rfl, Nat.le_of_ble_eq_true rfl⟩ (fun r116 u9 H locs hw hP hS => ?_)
                  have hw := hw.symm
                  subst hw
                  refine lv_bipush (v := (-2)) hx hb dL_refuses_358 (by decide) ?_
                  refine lv_icmp_ne (tgt := 570) hx hb dL_refuses_360 (by decide) (fun c184 => ?_) (fun c184 => ?_)
                  · have h := gif_f c184 h
                    refine lv_iconst (v := 0) hx hb dL_refuses_570 (by decide) ?_
                    refine W.widen (k := 64) (n := 384) (Nat.le_of_ble_eq_true rfl) (Nat.le_of_ble_eq_true rfl) ?_
                    cases h
                    exact K571 _ _ _ hP hS (lv_sub hl [1, 2] rfl)
                  · have h := gif_t c184 h
                    refine lv_aload_n hx hb dL_refuses_363 rfl (lv_at hl 1 rfl) ?_
                    refine lv_iload_n hx hb dL_refuses_364 rfl (lv_at hl 3 rfl) ?_
                    obtain ⟨q119, hcq119, h⟩ := hb_some h
                    refine gcSW_i (As := [.ref (b 0), .int p1]) (rest := []) (BH := (fun (u : Unit) H => va_P (dC, dI) vwCl (hW N ca b I8 O9 J) H)) X hP hS (c_L_laneOf hlf hN hA I8 O9 J p1 q119 hcq119) (vx_cwSW 2 X.ts gL_refuses_L_laneOf rfl rfl rfl (by decide +kernel) ⟨Nat.le_of_ble_eq_true rfl, Nat.le_of_ble_eq_true rfl⟩) rfl hl.1 rfl (Nat.le_of_ble_eq_true rfl) dL_refuses_365 ⟨Nat.le_of_ble_eq_true rfl, Nat.le_of_ble_eq_true rfl⟩ (fun r118 u9 H locs hw hP hS => ?_)
                    have hw := hw.symm
                    subst hw
                    refine lv_bipush (v := (-2)) hx hb dL_refuses_368 (by decide) ?_
                    refine lv_icmp_ne (tgt := 570) hx hb dL_refuses_370 (by decide) (fun c183 => ?_) (fun c183 => ?_)
                    · have h := gif_f c183 h
                      refine lv_iconst (v := 0) hx hb dL_refuses_570 (by decide) ?_
                      refine W.widen (k := 64) (n := 384) (Nat.le_of_ble_eq_true rfl) (Nat.le_of_ble_eq_true rfl) ?_
                      cases h
                      exact K571 _ _ _ hP hS (lv_sub hl [1, 2] rfl)
                    · have h := gif_t c183 h
                      refine lv_aload_n hx hb dL_refuses_373 rfl (lv_at hl 1 rfl) ?_
                      refine lv_iload_n hx hb dL_refuses_374 rfl (lv_at hl 3 rfl) ?_
                      obtain ⟨q121, hcq121, h⟩ := hb_some h
                      refine gcSW_i (As := [.ref (b 0), .int p1]) (rest := []) (BH := (fun (u : Unit) H => va_P (dC, dI) vwCl (hW N ca b I8 O9 J) H)) X hP hS (c_L_stateOf hlf hN hA I8 O9 J p1 q121 hcq121) (vx_cwSW 2 X.ts gL_refuses_L_stateOf rfl rfl rfl (by decide +kernel) ⟨Nat.le_of_ble_eq_true rfl, Nat.le_of_ble_eq_true rfl⟩) rfl hl.1 rfl (Nat.le_of_ble_eq_true rfl) dL_refuses_375 ⟨Nat.le_of_ble_eq_true rfl, Nat.le_of_ble_eq_true rfl⟩ (fun r120 u9 H locs hw hP hS => ?_)
                      have hw := hw.symm
                      subst hw
                      refine lv_bipush (v := (-2)) hx hb dL_refuses_378 (by decide) ?_
                      refine lv_icmp_ne (tgt := 570) hx hb dL_refuses_380 (by decide) (fun c182 => ?_) (fun c182 => ?_)
                      · have h := gif_f c182 h
                        refine lv_iconst (v := 0) hx hb dL_refuses_570 (by decide) ?_
                        refine W.widen (k := 64) (n := 384) (Nat.le_of_ble_eq_true rfl) (Nat.le_of_ble_eq_true rfl) ?_
                        cases h
                        exact K571 _ _ _ hP hS (lv_sub hl [1, 2] rfl)
                      · have h := gif_t c182 h
                        refine lv_aload_n hx hb dL_refuses_383 rfl (lv_at hl 1 rfl) ?_
                        refine lv_iload_n hx hb dL_refuses_384 rfl (lv_at hl 3 rfl) ?_
                        obtain ⟨q123, hcq123, h⟩ := hb_some h
                        refine gcSW_i (As := [.ref (b 0), .int p1]) (rest := []) (BH := (fun (u : Unit) H => va_P (dC, dI) vwCl (hW N ca b I8 O9 J) H)) X hP hS (c_L_paceOf hlf hN hA I8 O9 J p1 q123 hcq123) (vx_cwSW 2 X.ts gL_refuses_L_paceOf rfl rfl rfl (by decide +kernel) ⟨Nat.le_of_ble_eq_true rfl, Nat.le_of_ble_eq_true rfl⟩) rfl hl.1 rfl (Nat.le_of_ble_eq_true rfl) dL_refuses_385 ⟨Nat.le_of_ble_eq_true rfl, Nat.le_of_ble_eq_true rfl⟩ (fun r122 u9 H locs hw hP hS => ?_)
                        have hw := hw.symm
                        subst hw
                        refine lv_bipush (v := (-2)) hx hb dL_refuses_388 (by decide) ?_
                        refine lv_icmp_ne (tgt := 570) hx hb dL_refuses_390 (by decide) (fun c181 => ?_) (fun c181 => ?_)
                        · have h := gif_f c181 h
                          refine lv_iconst (v := 0) hx hb dL_refuses_570 (by decide) ?_
                          refine W.widen (k := 64) (n := 384) (Nat.le_of_ble_eq_true rfl) (Nat.le_of_ble_eq_true rfl) ?_
                          cases h
                          exact K571 _ _ _ hP hS (lv_sub hl [1, 2] rfl)
                        · have h := gif_t c181 h
                          refine lv_aload_n hx hb dL_refuses_393 rfl (lv_at hl 1 rfl) ?_
                          refine lv_iload_n hx hb dL_refuses_394 rfl (lv_at hl 3 rfl) ?_
                          obtain ⟨q125, hcq125, h⟩ := hb_some h
                          refine gcSW_i (As := [.ref (b 0), .int p1]) (rest := []) (BH := (fun (u : Unit) H => va_P (dC, dI) vwCl (hW N ca b I8 O9 J) H)) X hP hS (c_L_partnerOf hlf hN hA I8 O9 J p1 q125 hcq125) (vx_cwSW 2 X.ts gL_refuses_L_partnerOf rfl rfl rfl (by decide +kernel) ⟨Nat.le_of_ble_eq_true rfl, Nat.le_of_ble_eq_true rfl⟩) rfl hl.1 rfl (Nat.le_of_ble_eq_true rfl) dL_refuses_395 ⟨Nat.le_of_ble_eq_true rfl, Nat.le_of_ble_eq_true rfl⟩ (fun r124 u9 H locs hw hP hS => ?_)
                          have hw := hw.symm
                          subst hw
                          refine lv_bipush (v := (-2)) hx hb dL_refuses_398 (by decide) ?_
                          refine lv_icmp_ne (tgt := 570) hx hb dL_refuses_400 (by decide) (fun c180 => ?_) (fun c180 => ?_)
                          · have h := gif_f c180 h
                            refine lv_iconst (v := 0) hx hb dL_refuses_570 (by decide) ?_
                            refine W.widen (k := 64) (n := 384) (Nat.le_of_ble_eq_true rfl) (Nat.le_of_ble_eq_true rfl) ?_
                            cases h
                            exact K571 _ _ _ hP hS (lv_sub hl [1, 2] rfl)
                          · have h := gif_t c180 h
                            refine lv_aload_n hx hb dL_refuses_403 rfl (lv_at hl 1 rfl) ?_
                            refine lv_iload_n hx hb dL_refuses_404 rfl (lv_at hl 3 rfl) ?_
                            obtain ⟨q127, hcq127, h⟩ := hb_some h
                            refine gcSW_i (As := [.ref (b 0), .int p1]) (rest := []) (BH := (fun (u : Unit) H => va_P (dC, dI) vwCl (hW N ca b I8 O9 J) H)) X hP hS (c_L_isCalledIn hlf hN hA I8 O9 J p1 q127 hcq127) (vx_cwSW 2 X.ts gL_refuses_L_isCalledIn rfl rfl rfl (by decide +kernel) ⟨Nat.le_of_ble_eq_true rfl, Nat.le_of_ble_eq_true rfl⟩) rfl hl.1 rfl (Nat.le_of_ble_eq_true rfl) dL_refuses_405 ⟨Nat.le_of_ble_eq_true rfl, Nat.le_of_ble_eq_true rfl⟩ (fun r126 u9 H locs hw hP hS => ?_)
                            have hw := hw.symm
                            subst hw
                            refine lv_bipush (v := (-2)) hx hb dL_refuses_408 (by decide) ?_
                            refine lv_icmp_ne (tgt := 570) hx hb dL_refuses_410 (by decide) (fun c179 => ?_) (fun c179 => ?_)
                            · have h := gif_f c179 h
                              refine lv_iconst (v := 0) hx hb dL_refuses_570 (by decide) ?_
                              refine W.widen (k := 64) (n := 384) (Nat.le_of_ble_eq_true rfl) (Nat.le_of_ble_eq_true rfl) ?_
                              cases h
                              exact K571 _ _ _ hP hS (lv_sub hl [1, 2] rfl)
                            · have h := gif_t c179 h
                              refine lv_aload_n hx hb dL_refuses_413 rfl (lv_at hl 1 rfl) ?_
                              refine lv_iconst (v := 4) hx hb dL_refuses_414 (by decide) ?_
                              refine lv_iload_n hx hb dL_refuses_415 rfl (lv_at hl 2 rfl) ?_
                              refine lv_iadd hx hb dL_refuses_416 ?_
                              obtain ⟨q129, hcq129, h⟩ := hb_some h
                              refine gcSW_i (As := [.ref (b 0), .int ((4 : Int32) + a1)]) (rest := []) (BH := (fun (u : Unit) H => va_P (dC, dI) vwCl (hW N ca b I8 O9 J) H)) X hP hS (c_L_limitOf hlf hN hA I8 O9 J ((4 : Int32) + a1) q129 hcq129) (vx_cwSW 2 X.ts gL_refuses_L_limitOf rfl rfl rfl (by decide +kernel) ⟨Nat.le_of_ble_eq_true rfl, Nat.le_of_ble_eq_true rfl⟩) rfl hl.1 rfl (Nat.le_of_ble_eq_true rfl) dL_refuses_417 ⟨Nat.le_of_ble_eq_true rfl, Nat.le_of_ble_eq_true rfl⟩ (fun r128 u9 H locs hw hP hS => ?_)
                              have hw := hw.symm
                              subst hw
                              refine lv_bipush (v := (-2)) hx hb dL_refuses_420 (by decide) ?_
                              refine lv_icmp_ne (tgt := 570) hx hb dL_refuses_422 (by decide) (fun c178 => ?_) (fun c178 => ?_)
                              · have h := gif_f c178 h
                                refine lv_iconst (v := 0) hx hb dL_refuses_570 (by decide) ?_
                                refine W.widen (k := 64) (n := 384) (Nat.le_of_ble_eq_true rfl) (Nat.le_of_ble_eq_true rfl) ?_
                                cases h
                                exact K571 _ _ _ hP hS (lv_sub hl [1, 2] rfl)
                              · have h := gif_t c178 h
                                refine lv_aload_n hx hb dL_refuses_425 rfl (lv_at hl 1 rfl) ?_
                                refine lv_iconst (v := (-1)) hx hb dL_refuses_426 (by decide) ?_
                                refine lv_iload_n hx hb dL_refuses_427 rfl (lv_at hl 2 rfl) ?_
                                refine lv_isub hx hb dL_refuses_428 ?_
                                obtain ⟨q131, hcq131, h⟩ := hb_some h
                                refine gcSW_i (As := [.ref (b 0), .int ((-1 : Int32) - a1)]) (rest := []) (BH := (fun (u : Unit) H => va_P (dC, dI) vwCl (hW N ca b I8 O9 J) H)) X hP hS (c_L_limitOf hlf hN hA I8 O9 J ((-1 : Int32) - a1) q131 hcq131) (vx_cwSW 2 X.ts gL_refuses_L_limitOf rfl rfl rfl (by decide +kernel) ⟨Nat.le_of_ble_eq_true rfl, Nat.le_of_ble_eq_true rfl⟩) rfl hl.1 rfl (Nat.le_of_ble_eq_true rfl) dL_refuses_429 ⟨Nat.le_of_ble_eq_true rfl, Nat.le_of_ble_eq_true rfl⟩ (fun r130 u9 H locs hw hP hS => ?_)
                                have hw := hw.symm
                                subst hw
                                refine lv_bipush (v := (-2)) hx hb dL_refuses_432 (by decide) ?_
                                refine lv_icmp_ne (tgt := 570) hx hb dL_refuses_434 (by decide) (fun c177 => ?_) (fun c177 => ?_)
                                · have h := gif_f c177 h
                                  refine lv_iconst (v := 0) hx hb dL_refuses_570 (by decide) ?_
                                  refine W.widen (k := 64) (n := 384) (Nat.le_of_ble_eq_true rfl) (Nat.le_of_ble_eq_true rfl) ?_
                                  cases h
                                  exact K571 _ _ _ hP hS (lv_sub hl [1, 2] rfl)
                                · have h := gif_t c177 h
                                  refine lv_aload_n hx hb dL_refuses_437 rfl (lv_at hl 1 rfl) ?_
                                  refine lv_iload_n hx hb dL_refuses_438 rfl (lv_at hl 3 rfl) ?_
                                  obtain ⟨q133, hcq133, h⟩ := hb_some h
                                  refine gcSW_i (As := [.ref (b 0), .int p1]) (rest := []) (BH := (fun (u : Unit) H => va_P (dC, dI) vwCl (hW N ca b I8 O9 J) H)) X hP hS (c_L_placeByCounting hlf hN hA I8 O9 J p1 q133 hcq133) (vx_cwSW 2 X.ts gL_refuses_L_placeByCounting rfl rfl rfl (by decide +kernel) ⟨Nat.le_of_ble_eq_true rfl, Nat.le_of_ble_eq_true rfl⟩) rfl hl.1 rfl (Nat.le_of_ble_eq_true rfl) dL_refuses_439 ⟨Nat.le_of_ble_eq_true rfl, Nat.le_of_ble_eq_true rfl⟩ (fun r132 u9 H locs hw hP hS => ?_)
                                  have hw := hw.symm
                                  subst hw
                                  refine lv_bipush (v := (-2)) hx hb dL_refuses_442 (by decide) ?_
                                  refine lv_icmp_ne (tgt := 570) hx hb dL_refuses_444 (by decide) (fun c176 => ?_) (fun c176 => ?_)
                                  · have h := gif_f c176 h
                                    refine lv_iconst (v := 0) hx hb dL_refuses_570 (by decide) ?_
                                    refine W.widen (k := 64) (n := 384) (Nat.le_of_ble_eq_true rfl) (Nat.le_of_ble_eq_true rfl) ?_
                                    cases h
                                    exact K571 _ _ _ hP hS (lv_sub hl [1, 2] rfl)
                                  · have h := gif_t c176 h
                                    refine lv_aload_n hx hb dL_refuses_447 rfl (lv_at hl 1 rfl) ?_
                                    refine lv_iload_n hx hb dL_refuses_448 rfl (lv_at hl 3 rfl) ?_
                                    obtain ⟨q136, hcq136, h⟩ := hb_some h
                                    refine gcSW_i (As := [.ref (b 0), .int p1]) (rest := []) (BH := (fun (u : Nat → Nat → Option Nat) H => va_P (dC, dI) vwCl (hW N ca b I8 u J) H)) X hP hS (c_L_birdByOrder hlf hN hA I8 O9 J p1 q136 hcq136) (vx_cwSW 2 X.ts gL_refuses_L_birdByOrder rfl rfl rfl (by decide +kernel) ⟨Nat.le_of_ble_eq_true rfl, Nat.le_of_ble_eq_true rfl⟩) rfl hl.1 rfl (Nat.le_of_ble_eq_true rfl) dL_refuses_449 ⟨Nat.le_of_ble_eq_true rfl, Nat.le_of_ble_eq_true rfl⟩ (fun r135 O134 H locs hw hP hS => ?_)
                                    subst hw
                                    refine lv_bipush (v := (-2)) hx hb dL_refuses_452 (by decide) ?_
                                    refine lv_icmp_ne (tgt := 570) hx hb dL_refuses_454 (by decide) (fun c175 => ?_) (fun c175 => ?_)
                                    · have h := gif_f c175 h
                                      refine lv_iconst (v := 0) hx hb dL_refuses_570 (by decide) ?_
                                      refine W.widen (k := 64) (n := 384) (Nat.le_of_ble_eq_true rfl) (Nat.le_of_ble_eq_true rfl) ?_
                                      cases h
                                      exact K571 _ _ _ hP hS (lv_sub hl [1, 2] rfl)
                                    · have h := gif_t c175 h
                                      refine lv_aload_n hx hb dL_refuses_457 rfl (lv_at hl 1 rfl) ?_
                                      refine lv_iload_n hx hb dL_refuses_458 rfl (lv_at hl 3 rfl) ?_
                                      obtain ⟨q138, hcq138, h⟩ := hb_some h
                                      refine gcSW_i (As := [.ref (b 0), .int p1]) (rest := []) (BH := (fun (u : Unit) H => va_P (dC, dI) vwCl (hW N ca b I8 O134 J) H)) X hP hS (c_L_gapAhead hlf hN hA I8 O134 J p1 q138 hcq138) (vx_cwSW 2 X.ts gL_refuses_L_gapAhead rfl rfl rfl (by decide +kernel) ⟨Nat.le_of_ble_eq_true rfl, Nat.le_of_ble_eq_true rfl⟩) rfl hl.1 rfl (Nat.le_of_ble_eq_true rfl) dL_refuses_459 ⟨Nat.le_of_ble_eq_true rfl, Nat.le_of_ble_eq_true rfl⟩ (fun r137 u9 H locs hw hP hS => ?_)
                                      have hw := hw.symm
                                      subst hw
                                      refine lv_bipush (v := (-2)) hx hb dL_refuses_462 (by decide) ?_
                                      refine lv_icmp_ne (tgt := 570) hx hb dL_refuses_464 (by decide) (fun c174 => ?_) (fun c174 => ?_)
                                      · have h := gif_f c174 h
                                        refine lv_iconst (v := 0) hx hb dL_refuses_570 (by decide) ?_
                                        refine W.widen (k := 64) (n := 384) (Nat.le_of_ble_eq_true rfl) (Nat.le_of_ble_eq_true rfl) ?_
                                        cases h
                                        exact K571 _ _ _ hP hS (lv_sub hl [1, 2] rfl)
                                      · have h := gif_t c174 h
                                        refine lv_aload_n hx hb dL_refuses_467 rfl (lv_at hl 1 rfl) ?_
                                        refine lv_iload_n hx hb dL_refuses_468 rfl (lv_at hl 3 rfl) ?_
                                        obtain ⟨q140, hcq140, h⟩ := hb_some h
                                        refine gcSW_i (As := [.ref (b 0), .int p1]) (rest := []) (BH := (fun (u : Unit) H => va_P (dC, dI) vwCl (hW N ca b I8 O134 J) H)) X hP hS (c_L_isDrafting hlf hN hA I8 O134 J p1 q140 hcq140) (vx_cwSW 2 X.ts gL_refuses_L_isDrafting rfl rfl rfl (by decide +kernel) ⟨Nat.le_of_ble_eq_true rfl, Nat.le_of_ble_eq_true rfl⟩) rfl hl.1 rfl (Nat.le_of_ble_eq_true rfl) dL_refuses_469 ⟨Nat.le_of_ble_eq_true rfl, Nat.le_of_ble_eq_true rfl⟩ (fun r139 u9 H locs hw hP hS => ?_)
                                        have hw := hw.symm
                                        subst hw
                                        refine lv_bipush (v := (-2)) hx hb dL_refuses_472 (by decide) ?_
                                        refine lv_icmp_ne (tgt := 570) hx hb dL_refuses_474 (by decide) (fun c173 => ?_) (fun c173 => ?_)
                                        · have h := gif_f c173 h
                                          refine lv_iconst (v := 0) hx hb dL_refuses_570 (by decide) ?_
                                          refine W.widen (k := 64) (n := 384) (Nat.le_of_ble_eq_true rfl) (Nat.le_of_ble_eq_true rfl) ?_
                                          cases h
                                          exact K571 _ _ _ hP hS (lv_sub hl [1, 2] rfl)
                                        · have h := gif_t c173 h
                                          refine lv_aload_n hx hb dL_refuses_477 rfl (lv_at hl 1 rfl) ?_
                                          refine lv_iload_n hx hb dL_refuses_478 rfl (lv_at hl 3 rfl) ?_
                                          obtain ⟨q142, hcq142, h⟩ := hb_some h
                                          refine gcSW_i (As := [.ref (b 0), .int p1]) (rest := []) (BH := (fun (u : Unit) H => va_P (dC, dI) vwCl (hW N ca b I8 O134 J) H)) X hP hS (c_L_whereIs hlf hN hA I8 O134 J p1 q142 hcq142) (vx_cwSW 2 X.ts gL_refuses_L_whereIs rfl rfl rfl (by decide +kernel) ⟨Nat.le_of_ble_eq_true rfl, Nat.le_of_ble_eq_true rfl⟩) rfl hl.1 rfl (Nat.le_of_ble_eq_true rfl) dL_refuses_479 ⟨Nat.le_of_ble_eq_true rfl, Nat.le_of_ble_eq_true rfl⟩ (fun r141 u9 H locs hw hP hS => ?_)
                                          have hw := hw.symm
                                          subst hw
                                          refine lv_bipush (v := (-2)) hx hb dL_refuses_482 (by decide) ?_
                                          refine lv_icmp_ne (tgt := 570) hx hb dL_refuses_484 (by decide) (fun c172 => ?_) (fun c172 => ?_)
                                          · have h := gif_f c172 h
                                            refine lv_iconst (v := 0) hx hb dL_refuses_570 (by decide) ?_
                                            refine W.widen (k := 64) (n := 384) (Nat.le_of_ble_eq_true rfl) (Nat.le_of_ble_eq_true rfl) ?_
                                            cases h
                                            exact K571 _ _ _ hP hS (lv_sub hl [1, 2] rfl)
                                          · have h := gif_t c172 h
                                            refine lv_aload_n hx hb dL_refuses_487 rfl (lv_at hl 1 rfl) ?_
                                            refine lv_iload_n hx hb dL_refuses_488 rfl (lv_at hl 3 rfl) ?_
                                            obtain ⟨q144, hcq144, h⟩ := hb_some h
                                            refine gcSW_i (As := [.ref (b 0), .int p1]) (rest := []) (BH := (fun (u : Unit) H => va_P (dC, dI) vwCl (hW N ca b I8 O134 J) H)) X hP hS (c_L_allowance hlf hN hA I8 O134 J p1 q144 hcq144) (vx_cwSW 2 X.ts gL_refuses_L_allowance rfl rfl rfl (by decide +kernel) ⟨Nat.le_of_ble_eq_true rfl, Nat.le_of_ble_eq_true rfl⟩) rfl hl.1 rfl (Nat.le_of_ble_eq_true rfl) dL_refuses_489 ⟨Nat.le_of_ble_eq_true rfl, Nat.le_of_ble_eq_true rfl⟩ (fun r143 u9 H locs hw hP hS => ?_)
                                            have hw := hw.symm
                                            subst hw
                                            refine lv_bipush (v := (-2)) hx hb dL_refuses_492 (by decide) ?_
                                            refine lv_icmp_ne (tgt := 570) hx hb dL_refuses_494 (by decide) (fun c171 => ?_) (fun c171 => ?_)
                                            · have h := gif_f c171 h
                                              refine lv_iconst (v := 0) hx hb dL_refuses_570 (by decide) ?_
                                              refine W.widen (k := 64) (n := 384) (Nat.le_of_ble_eq_true rfl) (Nat.le_of_ble_eq_true rfl) ?_
                                              cases h
                                              exact K571 _ _ _ hP hS (lv_sub hl [1, 2] rfl)
                                            · have h := gif_t c171 h
                                              refine lv_aload_n hx hb dL_refuses_497 rfl (lv_at hl 1 rfl) ?_
                                              refine lv_iload_n hx hb dL_refuses_498 rfl (lv_at hl 3 rfl) ?_
                                              refine lv_iconst (v := 0) hx hb dL_refuses_499 (by decide) ?_
                                              obtain ⟨q148, hcq148, h⟩ := hb_some h
                                              refine gcSW_i (As := [.ref (b 0), .int p1, .int (0 : Int32)]) (rest := []) (BH := (fun (u : (Nat → Nat → Int32) × (Nat → Nat → Option Nat)) H => va_P (dC, dI) vwCl (hW N ca b u.1 u.2 J) H)) X hP hS (c_L_wouldFly hlf hN hA I8 O134 J p1 (0 : Int32) q148 hcq148) (vx_cwSW 3 X.ts gL_refuses_L_wouldFly rfl rfl rfl (by decide +kernel) ⟨Nat.le_of_ble_eq_true rfl, Nat.le_of_ble_eq_true rfl⟩) rfl hl.1 rfl (Nat.le_of_ble_eq_true rfl) dL_refuses_500 ⟨Nat.le_of_ble_eq_true rfl, Nat.le_of_ble_eq_true rfl⟩ (fun r147 u9 H locs hw hP hS => ?_)
                                              obtain ⟨I145, O146⟩ := u9
                                              subst hw
                                              refine lv_bipush (v := (-2)) hx hb dL_refuses_503 (by decide) ?_
                                              refine lv_icmp_ne (tgt := 570) hx hb dL_refuses_505 (by decide) (fun c170 => ?_) (fun c170 => ?_)
                                              · have h := gif_f c170 h
                                                refine lv_iconst (v := 0) hx hb dL_refuses_570 (by decide) ?_
                                                refine W.widen (k := 64) (n := 384) (Nat.le_of_ble_eq_true rfl) (Nat.le_of_ble_eq_true rfl) ?_
                                                cases h
                                                exact K571 _ _ _ hP hS (lv_sub hl [1, 2] rfl)
                                              · have h := gif_t c170 h
                                                refine lv_aload_n hx hb dL_refuses_508 rfl (lv_at hl 1 rfl) ?_
                                                refine lv_iload_n hx hb dL_refuses_509 rfl (lv_at hl 3 rfl) ?_
                                                refine lv_iconst (v := 0) hx hb dL_refuses_510 (by decide) ?_
                                                obtain ⟨q152, hcq152, h⟩ := hb_some h
                                                refine gcSW_i (As := [.ref (b 0), .int p1, .int (0 : Int32)]) (rest := []) (BH := (fun (u : (Nat → Nat → Int32) × (Nat → Nat → Option Nat)) H => va_P (dC, dI) vwCl (hW N ca b u.1 u.2 J) H)) X hP hS (c_L_flownWithPace hlf hN hA I145 O146 J p1 (0 : Int32) q152 hcq152) (vx_cwSW 3 X.ts gL_refuses_L_flownWithPace rfl rfl rfl (by decide +kernel) ⟨Nat.le_of_ble_eq_true rfl, Nat.le_of_ble_eq_true rfl⟩) rfl hl.1 rfl (Nat.le_of_ble_eq_true rfl) dL_refuses_511 ⟨Nat.le_of_ble_eq_true rfl, Nat.le_of_ble_eq_true rfl⟩ (fun r151 u9 H locs hw hP hS => ?_)
                                                obtain ⟨I149, O150⟩ := u9
                                                subst hw
                                                refine lv_bipush (v := (-2)) hx hb dL_refuses_514 (by decide) ?_
                                                refine lv_icmp_ne (tgt := 570) hx hb dL_refuses_516 (by decide) (fun c169 => ?_) (fun c169 => ?_)
                                                · have h := gif_f c169 h
                                                  refine lv_iconst (v := 0) hx hb dL_refuses_570 (by decide) ?_
                                                  refine W.widen (k := 64) (n := 384) (Nat.le_of_ble_eq_true rfl) (Nat.le_of_ble_eq_true rfl) ?_
                                                  cases h
                                                  exact K571 _ _ _ hP hS (lv_sub hl [1, 2] rfl)
                                                · have h := gif_t c169 h
                                                  refine lv_aload_n hx hb dL_refuses_519 rfl (lv_at hl 1 rfl) ?_
                                                  refine lv_iload_n hx hb dL_refuses_520 rfl (lv_at hl 3 rfl) ?_
                                                  obtain ⟨q156, hcq156, h⟩ := hb_some h
                                                  refine gcSW_i (As := [.ref (b 0), .int p1]) (rest := []) (BH := (fun (u : (Nat → Nat → Int32) × (Nat → Nat → Option Nat)) H => va_P (dC, dI) vwCl (hW N ca b u.1 u.2 J) H)) X hP hS (c_L_bestPace hlf hN hA I149 O150 J p1 q156 hcq156) (vx_cwSW 2 X.ts gL_refuses_L_bestPace rfl rfl rfl (by decide +kernel) ⟨Nat.le_of_ble_eq_true rfl, Nat.le_of_ble_eq_true rfl⟩) rfl hl.1 rfl (Nat.le_of_ble_eq_true rfl) dL_refuses_521 ⟨Nat.le_of_ble_eq_true rfl, Nat.le_of_ble_eq_true rfl⟩ (fun r155 u9 H locs hw hP hS => ?_)
                                                  obtain ⟨I153, O154⟩ := u9
                                                  subst hw
                                                  refine lv_bipush (v := (-2)) hx hb dL_refuses_524 (by decide) ?_
                                                  refine lv_icmp_ne (tgt := 570) hx hb dL_refuses_526 (by decide) (fun c168 => ?_) (fun c168 => ?_)
                                                  · have h := gif_f c168 h
                                                    refine lv_iconst (v := 0) hx hb dL_refuses_570 (by decide) ?_
                                                    refine W.widen (k := 64) (n := 384) (Nat.le_of_ble_eq_true rfl) (Nat.le_of_ble_eq_true rfl) ?_
                                                    cases h
                                                    exact K571 _ _ _ hP hS (lv_sub hl [1, 2] rfl)
                                                  · have h := gif_t c168 h
                                                    refine lv_aload_n hx hb dL_refuses_529 rfl (lv_at hl 1 rfl) ?_
                                                    refine lv_aload_n hx hb dL_refuses_530 rfl (lv_at hl 1 rfl) ?_
                                                    obtain ⟨q158, hcq158, h⟩ := hb_some h
                                                    refine gdV_i (As := []) (rest := [.ref (b 0)]) (BH := (fun (u : Unit) H => va_P (dC, dI) vwCl (hW N ca b I153 O154 J) H)) X hP hS (c_X7_arrived hN hA I153 O154 J q158 hcq158) (cwV 0 X.ts gL_refuses_X7_arrived rfl rfl rfl (by decide +kernel) ⟨Nat.le_of_ble_eq_true rfl, Nat.le_of_ble_eq_true rfl⟩) (gr7 X hP kc_0 (sk_in hN kc_0 (by decide))) rfl hl.1 rfl (Nat.le_of_ble_eq_true rfl) dL_refuses_531 ⟨Nat.le_of_ble_eq_true rfl, Nat.le_of_ble_eq_true rfl⟩ (fun r157 u9 H locs hw hP hS => ?_)
                                                    have hw := hw.symm
                                                    subst hw
                                                    refine lv_iload_n hx hb dL_refuses_534 rfl (lv_at hl 2 rfl) ?_
                                                    refine lv_iadd hx hb dL_refuses_535 ?_
                                                    obtain ⟨q160, hcq160, h⟩ := hb_some h
                                                    refine gcSW_i (As := [.ref (b 0), .int (r157 + a1)]) (rest := []) (BH := (fun (u : Unit) H => va_P (dC, dI) vwCl (hW N ca b I153 O154 J) H)) X hP hS (c_L_arrivedAt hlf hN hA I153 O154 J (r157 + a1) q160 hcq160) (vx_cwSW 2 X.ts gL_refuses_L_arrivedAt rfl rfl rfl (by decide +kernel) ⟨Nat.le_of_ble_eq_true rfl, Nat.le_of_ble_eq_true rfl⟩) rfl hl.1 rfl (Nat.le_of_ble_eq_true rfl) dL_refuses_536 ⟨Nat.le_of_ble_eq_true rfl, Nat.le_of_ble_eq_true rfl⟩ (fun r159 u9 H locs hw hP hS => ?_)
                                                    have hw := hw.symm
                                                    subst hw
                                                    refine lv_bipush (v := (-2)) hx hb dL_refuses_539 (by decide) ?_
                                                    refine lv_icmp_ne (tgt := 570) hx hb dL_refuses_541 (by decide) (fun c167 => ?_) (fun c167 => ?_)
                                                    · have h := gif_f c167 h
                                                      refine lv_iconst (v := 0) hx hb dL_refuses_570 (by decide) ?_
                                                      refine W.widen (k := 64) (n := 384) (Nat.le_of_ble_eq_true rfl) (Nat.le_of_ble_eq_true rfl) ?_
                                                      cases h
                                                      exact K571 _ _ _ hP hS (lv_sub hl [1, 2] rfl)
                                                    · have h := gif_t c167 h
                                                      refine lv_aload_n hx hb dL_refuses_544 rfl (lv_at hl 1 rfl) ?_
                                                      refine lv_iconst (v := (-1)) hx hb dL_refuses_545 (by decide) ?_
                                                      refine lv_iload_n hx hb dL_refuses_546 rfl (lv_at hl 2 rfl) ?_
                                                      refine lv_isub hx hb dL_refuses_547 ?_
                                                      obtain ⟨q162, hcq162, h⟩ := hb_some h
                                                      refine gcSW_i (As := [.ref (b 0), .int ((-1 : Int32) - a1)]) (rest := []) (BH := (fun (u : Unit) H => va_P (dC, dI) vwCl (hW N ca b I153 O154 J) H)) X hP hS (c_L_arrivedAt hlf hN hA I153 O154 J ((-1 : Int32) - a1) q162 hcq162) (vx_cwSW 2 X.ts gL_refuses_L_arrivedAt rfl rfl rfl (by decide +kernel) ⟨Nat.le_of_ble_eq_true rfl, Nat.le_of_ble_eq_true rfl⟩) rfl hl.1 rfl (Nat.le_of_ble_eq_true rfl) dL_refuses_548 ⟨Nat.le_of_ble_eq_true rfl, Nat.le_of_ble_eq_true rfl⟩ (fun r161 u9 H locs hw hP hS => ?_)
                                                      have hw := hw.symm
                                                      subst hw
                                                      refine lv_bipush (v := (-2)) hx hb dL_refuses_551 (by decide) ?_
                                                      refine lv_icmp_ne (tgt := 570) hx hb dL_refuses_553 (by decide) (fun c166 => ?_) (fun c166 => ?_)
                                                      · have h := gif_f c166 h
                                                        refine lv_iconst (v := 0) hx hb dL_refuses_570 (by decide) ?_
                                                        refine W.widen (k := 64) (n := 384) (Nat.le_of_ble_eq_true rfl) (Nat.le_of_ble_eq_true rfl) ?_
                                                        cases h
                                                        exact K571 _ _ _ hP hS (lv_sub hl [1, 2] rfl)
                                                      · have h := gif_t c166 h
                                                        refine lv_aload_n hx hb dL_refuses_556 rfl (lv_at hl 1 rfl) ?_
                                                        refine lv_iload_n hx hb dL_refuses_557 rfl (lv_at hl 3 rfl) ?_
                                                        obtain ⟨q164, hcq164, h⟩ := hb_some h
                                                        refine gcSW_i (As := [.ref (b 0), .int p1]) (rest := []) (BH := (fun (u : Unit) H => va_P (dC, dI) vwCl (hW N ca b I153 O154 J) H)) X hP hS (c_L_timeOf hlf hN hA I153 O154 J p1 q164 hcq164) (vx_cwSW 2 X.ts gL_refuses_L_timeOf rfl rfl rfl (by decide +kernel) ⟨Nat.le_of_ble_eq_true rfl, Nat.le_of_ble_eq_true rfl⟩) rfl hl.1 rfl (Nat.le_of_ble_eq_true rfl) dL_refuses_558 ⟨Nat.le_of_ble_eq_true rfl, Nat.le_of_ble_eq_true rfl⟩ (fun r163 u9 H locs hw hP hS => ?_)
                                                        have hw := hw.symm
                                                        subst hw
                                                        refine lv_bipush (v := (-2)) hx hb dL_refuses_561 (by decide) ?_
                                                        refine lv_icmp_ne (tgt := 570) hx hb dL_refuses_563 (by decide) (fun c165 => ?_) (fun c165 => ?_)
                                                        · have h := gif_f c165 h
                                                          refine lv_iconst (v := 0) hx hb dL_refuses_570 (by decide) ?_
                                                          cases h
                                                          exact K571 _ _ _ hP hS (lv_sub hl [1, 2] rfl)
                                                        · have h := gif_t c165 h
                                                          refine lv_iconst (v := 1) hx hb dL_refuses_566 (by decide) ?_
                                                          refine lv_goto (tgt := 571) hx hb dL_refuses_567 (by decide) ?_
                                                          cases h
                                                          exact K571 _ _ _ hP hS (lv_sub hl [1, 2] rfl)
      have h := hv
      refine lv_icmp_ne (tgt := 305) hx hb dL_refuses_49 (by decide) (fun c282 => ?_) (fun c282 => ?_)
      · have h := gif_f c282 h
        refine lv_iconst (v := 0) hx hb dL_refuses_305 (by decide) ?_
        refine W.widen (k := 31) (n := 186) (Nat.le_of_ble_eq_true rfl) (Nat.le_of_ble_eq_true rfl) ?_
        cases h
        exact K306 _ _ _ hP hS (lv_sub hl [1, 2, 3] rfl)
      · have h := gif_t c282 h
        refine lv_aload_n hx hb dL_refuses_52 rfl (lv_at hl 1 rfl) ?_
        refine lv_bipush (v := 9) hx hb dL_refuses_53 (by decide) ?_
        refine lv_iload_n hx hb dL_refuses_55 rfl (lv_at hl 2 rfl) ?_
        refine lv_isub hx hb dL_refuses_56 ?_
        refine lv_sipush (v := 500) hx hb dL_refuses_57 (by decide) ?_
        refine lv_iconst (v := 0) hx hb dL_refuses_60 (by decide) ?_
        obtain ⟨q193, hcq193, h⟩ := hb_some h
        refine gcSW_i (As := [.ref (b 0), .int ((9 : Int32) - a1), .int (500 : Int32), .int (0 : Int32)]) (rest := []) (BH := (fun (u : (Nat → Nat → Int32) × (Nat → Nat → Option Nat)) H => va_P (dC, dI) vwCl (hW N ca b u.1 u.2 J) H)) X hP hS (c_L_enter hlf hN hA I3 O4 J ((9 : Int32) - a1) (500 : Int32) (0 : Int32) q193 hcq193) (vx_cwSW 4 X.ts gL_refuses_L_enter rfl rfl rfl (by decide +kernel) ⟨Nat.le_of_ble_eq_true rfl, Nat.le_of_ble_eq_true rfl⟩) rfl hl.1 rfl (Nat.le_of_ble_eq_true rfl) dL_refuses_61 ⟨Nat.le_of_ble_eq_true rfl, Nat.le_of_ble_eq_true rfl⟩ (fun r192 u9 H locs hw hP hS => ?_)
        obtain ⟨I190, O191⟩ := u9
        subst hw
        refine lv_bipush (v := (-3)) hx hb dL_refuses_64 (by decide) ?_
        refine lv_icmp_ne (tgt := 305) hx hb dL_refuses_66 (by decide) (fun c281 => ?_) (fun c281 => ?_)
        · have h := gif_f c281 h
          refine lv_iconst (v := 0) hx hb dL_refuses_305 (by decide) ?_
          refine W.widen (k := 31) (n := 186) (Nat.le_of_ble_eq_true rfl) (Nat.le_of_ble_eq_true rfl) ?_
          cases h
          exact K306 _ _ _ hP hS (lv_sub hl [1, 2, 3] rfl)
        · have h := gif_t c281 h
          refine lv_aload_n hx hb dL_refuses_69 rfl (lv_at hl 1 rfl) ?_
          refine lv_bipush (v := 20) hx hb dL_refuses_70 (by decide) ?_
          refine lv_sipush (v := 1000) hx hb dL_refuses_72 (by decide) ?_
          refine lv_iload_n hx hb dL_refuses_75 rfl (lv_at hl 2 rfl) ?_
          refine lv_iadd hx hb dL_refuses_76 ?_
          refine lv_iconst (v := 1) hx hb dL_refuses_77 (by decide) ?_
          obtain ⟨q197, hcq197, h⟩ := hb_some h
          refine gcSW_i (As := [.ref (b 0), .int (20 : Int32), .int ((1000 : Int32) + a1), .int (1 : Int32)]) (rest := []) (BH := (fun (u : (Nat → Nat → Int32) × (Nat → Nat → Option Nat)) H => va_P (dC, dI) vwCl (hW N ca b u.1 u.2 J) H)) X hP hS (c_L_enter hlf hN hA I190 O191 J (20 : Int32) ((1000 : Int32) + a1) (1 : Int32) q197 hcq197) (vx_cwSW 4 X.ts gL_refuses_L_enter rfl rfl rfl (by decide +kernel) ⟨Nat.le_of_ble_eq_true rfl, Nat.le_of_ble_eq_true rfl⟩) rfl hl.1 rfl (Nat.le_of_ble_eq_true rfl) dL_refuses_78 ⟨Nat.le_of_ble_eq_true rfl, Nat.le_of_ble_eq_true rfl⟩ (fun r196 u9 H locs hw hP hS => ?_)
          obtain ⟨I194, O195⟩ := u9
          subst hw
          refine lv_bipush (v := (-3)) hx hb dL_refuses_81 (by decide) ?_
          refine lv_icmp_ne (tgt := 305) hx hb dL_refuses_83 (by decide) (fun c280 => ?_) (fun c280 => ?_)
          · have h := gif_f c280 h
            refine lv_iconst (v := 0) hx hb dL_refuses_305 (by decide) ?_
            refine W.widen (k := 31) (n := 186) (Nat.le_of_ble_eq_true rfl) (Nat.le_of_ble_eq_true rfl) ?_
            cases h
            exact K306 _ _ _ hP hS (lv_sub hl [1, 2, 3] rfl)
          · have h := gif_t c280 h
            refine lv_aload_n hx hb dL_refuses_86 rfl (lv_at hl 1 rfl) ?_
            refine lv_bipush (v := 20) hx hb dL_refuses_87 (by decide) ?_
            refine lv_bipush (v := 99) hx hb dL_refuses_89 (by decide) ?_
            refine lv_iload_n hx hb dL_refuses_91 rfl (lv_at hl 2 rfl) ?_
            refine lv_isub hx hb dL_refuses_92 ?_
            refine lv_iconst (v := 1) hx hb dL_refuses_93 (by decide) ?_
            obtain ⟨q201, hcq201, h⟩ := hb_some h
            refine gcSW_i (As := [.ref (b 0), .int (20 : Int32), .int ((99 : Int32) - a1), .int (1 : Int32)]) (rest := []) (BH := (fun (u : (Nat → Nat → Int32) × (Nat → Nat → Option Nat)) H => va_P (dC, dI) vwCl (hW N ca b u.1 u.2 J) H)) X hP hS (c_L_enter hlf hN hA I194 O195 J (20 : Int32) ((99 : Int32) - a1) (1 : Int32) q201 hcq201) (vx_cwSW 4 X.ts gL_refuses_L_enter rfl rfl rfl (by decide +kernel) ⟨Nat.le_of_ble_eq_true rfl, Nat.le_of_ble_eq_true rfl⟩) rfl hl.1 rfl (Nat.le_of_ble_eq_true rfl) dL_refuses_94 ⟨Nat.le_of_ble_eq_true rfl, Nat.le_of_ble_eq_true rfl⟩ (fun r200 u9 H locs hw hP hS => ?_)
            obtain ⟨I198, O199⟩ := u9
            subst hw
            refine lv_bipush (v := (-3)) hx hb dL_refuses_97 (by decide) ?_
            refine lv_icmp_ne (tgt := 305) hx hb dL_refuses_99 (by decide) (fun c279 => ?_) (fun c279 => ?_)
            · have h := gif_f c279 h
              refine lv_iconst (v := 0) hx hb dL_refuses_305 (by decide) ?_
              refine W.widen (k := 31) (n := 186) (Nat.le_of_ble_eq_true rfl) (Nat.le_of_ble_eq_true rfl) ?_
              cases h
              exact K306 _ _ _ hP hS (lv_sub hl [1, 2, 3] rfl)
            · have h := gif_t c279 h
              refine lv_aload_n hx hb dL_refuses_102 rfl (lv_at hl 1 rfl) ?_
              refine lv_bipush (v := 20) hx hb dL_refuses_103 (by decide) ?_
              refine lv_sipush (v := 500) hx hb dL_refuses_105 (by decide) ?_
              refine lv_iload_n hx hb dL_refuses_108 rfl (lv_at hl 0 rfl) ?_
              obtain ⟨q205, hcq205, h⟩ := hb_some h
              refine gcSW_i (As := [.ref (b 0), .int (20 : Int32), .int (500 : Int32), .int p2]) (rest := []) (BH := (fun (u : (Nat → Nat → Int32) × (Nat → Nat → Option Nat)) H => va_P (dC, dI) vwCl (hW N ca b u.1 u.2 J) H)) X hP hS (c_L_enter hlf hN hA I198 O199 J (20 : Int32) (500 : Int32) p2 q205 hcq205) (vx_cwSW 4 X.ts gL_refuses_L_enter rfl rfl rfl (by decide +kernel) ⟨Nat.le_of_ble_eq_true rfl, Nat.le_of_ble_eq_true rfl⟩) rfl hl.1 rfl (Nat.le_of_ble_eq_true rfl) dL_refuses_109 ⟨Nat.le_of_ble_eq_true rfl, Nat.le_of_ble_eq_true rfl⟩ (fun r204 u9 H locs hw hP hS => ?_)
              obtain ⟨I202, O203⟩ := u9
              subst hw
              refine lv_bipush (v := (-3)) hx hb dL_refuses_112 (by decide) ?_
              refine lv_icmp_ne (tgt := 305) hx hb dL_refuses_114 (by decide) (fun c278 => ?_) (fun c278 => ?_)
              · have h := gif_f c278 h
                refine lv_iconst (v := 0) hx hb dL_refuses_305 (by decide) ?_
                refine W.widen (k := 31) (n := 186) (Nat.le_of_ble_eq_true rfl) (Nat.le_of_ble_eq_true rfl) ?_
                cases h
                exact K306 _ _ _ hP hS (lv_sub hl [1, 2, 3] rfl)
              · have h := gif_t c278 h
                refine lv_aload_n hx hb dL_refuses_117 rfl (lv_at hl 1 rfl) ?_
                refine lv_iload_n hx hb dL_refuses_118 rfl (lv_at hl 3 rfl) ?_
                refine lv_bipush (v := 50) hx hb dL_refuses_119 (by decide) ?_
                obtain ⟨q209, hcq209, h⟩ := hb_some h
                refine gcSW_i (As := [.ref (b 0), .int p1, .int (50 : Int32)]) (rest := []) (BH := (fun (u : (Nat → Nat → Int32) × (Nat → Nat → Option Nat)) H => va_P (dC, dI) vwCl (hW N ca b u.1 u.2 J) H)) X hP hS (c_L_setPace hlf hN hA I202 O203 J p1 (50 : Int32) q209 hcq209) (vx_cwSW 3 X.ts gL_refuses_L_setPace rfl rfl rfl (by decide +kernel) ⟨Nat.le_of_ble_eq_true rfl, Nat.le_of_ble_eq_true rfl⟩) rfl hl.1 rfl (Nat.le_of_ble_eq_true rfl) dL_refuses_121 ⟨Nat.le_of_ble_eq_true rfl, Nat.le_of_ble_eq_true rfl⟩ (fun r208 u9 H locs hw hP hS => ?_)
                obtain ⟨I206, O207⟩ := u9
                subst hw
                refine lv_bipush (v := (-2)) hx hb dL_refuses_124 (by decide) ?_
                refine lv_icmp_ne (tgt := 305) hx hb dL_refuses_126 (by decide) (fun c277 => ?_) (fun c277 => ?_)
                · have h := gif_f c277 h
                  refine lv_iconst (v := 0) hx hb dL_refuses_305 (by decide) ?_
                  refine W.widen (k := 31) (n := 186) (Nat.le_of_ble_eq_true rfl) (Nat.le_of_ble_eq_true rfl) ?_
                  cases h
                  exact K306 _ _ _ hP hS (lv_sub hl [1, 2, 3] rfl)
                · have h := gif_t c277 h
                  refine lv_aload_n hx hb dL_refuses_129 rfl (lv_at hl 1 rfl) ?_
                  refine lv_iload_n hx hb dL_refuses_130 rfl (lv_at hl 3 rfl) ?_
                  obtain ⟨q213, hcq213, h⟩ := hb_some h
                  refine gcSW_i (As := [.ref (b 0), .int p1]) (rest := []) (BH := (fun (u : (Nat → Nat → Int32) × (Nat → Nat → Option Nat)) H => va_P (dC, dI) vwCl (hW N ca b u.1 u.2 J) H)) X hP hS (c_L_callIn hlf hN hA I206 O207 J p1 q213 hcq213) (vx_cwSW 2 X.ts gL_refuses_L_callIn rfl rfl rfl (by decide +kernel) ⟨Nat.le_of_ble_eq_true rfl, Nat.le_of_ble_eq_true rfl⟩) rfl hl.1 rfl (Nat.le_of_ble_eq_true rfl) dL_refuses_131 ⟨Nat.le_of_ble_eq_true rfl, Nat.le_of_ble_eq_true rfl⟩ (fun r212 u9 H locs hw hP hS => ?_)
                  obtain ⟨I210, O211⟩ := u9
                  subst hw
                  refine lv_bipush (v := (-2)) hx hb dL_refuses_134 (by decide) ?_
                  refine lv_icmp_ne (tgt := 305) hx hb dL_refuses_136 (by decide) (fun c276 => ?_) (fun c276 => ?_)
                  · have h := gif_f c276 h
                    refine lv_iconst (v := 0) hx hb dL_refuses_305 (by decide) ?_
                    refine W.widen (k := 31) (n := 186) (Nat.le_of_ble_eq_true rfl) (Nat.le_of_ble_eq_true rfl) ?_
                    cases h
                    exact K306 _ _ _ hP hS (lv_sub hl [1, 2, 3] rfl)
                  · have h := gif_t c276 h
                    refine lv_aload_n hx hb dL_refuses_139 rfl (lv_at hl 1 rfl) ?_
                    refine lv_iload_n hx hb dL_refuses_140 rfl (lv_at hl 3 rfl) ?_
                    refine lv_iload_n hx hb dL_refuses_141 rfl (lv_at hl 3 rfl) ?_
                    obtain ⟨q217, hcq217, h⟩ := hb_some h
                    refine gcSW_i (As := [.ref (b 0), .int p1, .int p1]) (rest := []) (BH := (fun (u : (Nat → Nat → Int32) × (Nat → Nat → Option Nat)) H => va_P (dC, dI) vwCl (hW N ca b u.1 u.2 J) H)) X hP hS (c_L_pair hlf hN hA I210 O211 J p1 p1 q217 hcq217) (vx_cwSW 3 X.ts gL_refuses_L_pair rfl rfl rfl (by decide +kernel) ⟨Nat.le_of_ble_eq_true rfl, Nat.le_of_ble_eq_true rfl⟩) rfl hl.1 rfl (Nat.le_of_ble_eq_true rfl) dL_refuses_142 ⟨Nat.le_of_ble_eq_true rfl, Nat.le_of_ble_eq_true rfl⟩ (fun r216 u9 H locs hw hP hS => ?_)
                    obtain ⟨I214, O215⟩ := u9
                    subst hw
                    refine lv_bipush (v := (-2)) hx hb dL_refuses_145 (by decide) ?_
                    refine lv_icmp_ne (tgt := 305) hx hb dL_refuses_147 (by decide) (fun c275 => ?_) (fun c275 => ?_)
                    · have h := gif_f c275 h
                      refine lv_iconst (v := 0) hx hb dL_refuses_305 (by decide) ?_
                      refine W.widen (k := 31) (n := 186) (Nat.le_of_ble_eq_true rfl) (Nat.le_of_ble_eq_true rfl) ?_
                      cases h
                      exact K306 _ _ _ hP hS (lv_sub hl [1, 2, 3] rfl)
                    · have h := gif_t c275 h
                      refine lv_aload_n hx hb dL_refuses_150 rfl (lv_at hl 1 rfl) ?_
                      refine lv_iconst (v := 4) hx hb dL_refuses_151 (by decide) ?_
                      refine lv_iload_n hx hb dL_refuses_152 rfl (lv_at hl 2 rfl) ?_
                      refine lv_iadd hx hb dL_refuses_153 ?_
                      refine lv_bipush (v := 50) hx hb dL_refuses_154 (by decide) ?_
                      obtain ⟨q221, hcq221, h⟩ := hb_some h
                      refine gcSW_i (As := [.ref (b 0), .int ((4 : Int32) + a1), .int (50 : Int32)]) (rest := []) (BH := (fun (u : (Nat → Nat → Int32) × (Nat → Nat → Option Nat)) H => va_P (dC, dI) vwCl (hW N ca b u.1 u.2 J) H)) X hP hS (c_L_setLimit hlf hN hA I214 O215 J ((4 : Int32) + a1) (50 : Int32) q221 hcq221) (vx_cwSW 3 X.ts gL_refuses_L_setLimit rfl rfl rfl (by decide +kernel) ⟨Nat.le_of_ble_eq_true rfl, Nat.le_of_ble_eq_true rfl⟩) rfl hl.1 rfl (Nat.le_of_ble_eq_true rfl) dL_refuses_156 ⟨Nat.le_of_ble_eq_true rfl, Nat.le_of_ble_eq_true rfl⟩ (fun r220 u9 H locs hw hP hS => ?_)
                      obtain ⟨I218, O219⟩ := u9
                      subst hw
                      refine lv_bipush (v := (-2)) hx hb dL_refuses_159 (by decide) ?_
                      refine lv_icmp_ne (tgt := 305) hx hb dL_refuses_161 (by decide) (fun c274 => ?_) (fun c274 => ?_)
                      · have h := gif_f c274 h
                        refine lv_iconst (v := 0) hx hb dL_refuses_305 (by decide) ?_
                        refine W.widen (k := 31) (n := 186) (Nat.le_of_ble_eq_true rfl) (Nat.le_of_ble_eq_true rfl) ?_
                        cases h
                        exact K306 _ _ _ hP hS (lv_sub hl [1, 2, 3] rfl)
                      · have h := gif_t c274 h
                        refine lv_aload_n hx hb dL_refuses_164 rfl (lv_at hl 1 rfl) ?_
                        refine lv_iconst (v := (-1)) hx hb dL_refuses_165 (by decide) ?_
                        refine lv_iload_n hx hb dL_refuses_166 rfl (lv_at hl 2 rfl) ?_
                        refine lv_isub hx hb dL_refuses_167 ?_
                        refine lv_bipush (v := 20) hx hb dL_refuses_168 (by decide) ?_
                        obtain ⟨q225, hcq225, h⟩ := hb_some h
                        refine gcSW_i (As := [.ref (b 0), .int ((-1 : Int32) - a1), .int (20 : Int32)]) (rest := []) (BH := (fun (u : (Nat → Nat → Int32) × (Nat → Nat → Option Nat)) H => va_P (dC, dI) vwCl (hW N ca b u.1 u.2 J) H)) X hP hS (c_L_setLimit hlf hN hA I218 O219 J ((-1 : Int32) - a1) (20 : Int32) q225 hcq225) (vx_cwSW 3 X.ts gL_refuses_L_setLimit rfl rfl rfl (by decide +kernel) ⟨Nat.le_of_ble_eq_true rfl, Nat.le_of_ble_eq_true rfl⟩) rfl hl.1 rfl (Nat.le_of_ble_eq_true rfl) dL_refuses_170 ⟨Nat.le_of_ble_eq_true rfl, Nat.le_of_ble_eq_true rfl⟩ (fun r224 u9 H locs hw hP hS => ?_)
                        obtain ⟨I222, O223⟩ := u9
                        subst hw
                        refine lv_bipush (v := (-2)) hx hb dL_refuses_173 (by decide) ?_
                        refine lv_icmp_ne (tgt := 305) hx hb dL_refuses_175 (by decide) (fun c273 => ?_) (fun c273 => ?_)
                        · have h := gif_f c273 h
                          refine lv_iconst (v := 0) hx hb dL_refuses_305 (by decide) ?_
                          refine W.widen (k := 31) (n := 186) (Nat.le_of_ble_eq_true rfl) (Nat.le_of_ble_eq_true rfl) ?_
                          cases h
                          exact K306 _ _ _ hP hS (lv_sub hl [1, 2, 3] rfl)
                        · have h := gif_t c273 h
                          refine lv_aload_n hx hb dL_refuses_178 rfl (lv_at hl 1 rfl) ?_
                          refine lv_iconst (v := 0) hx hb dL_refuses_179 (by decide) ?_
                          refine lv_bipush (v := 41) hx hb dL_refuses_180 (by decide) ?_
                          refine lv_iload_n hx hb dL_refuses_182 rfl (lv_at hl 2 rfl) ?_
                          refine lv_iadd hx hb dL_refuses_183 ?_
                          obtain ⟨q229, hcq229, h⟩ := hb_some h
                          refine gcSW_i (As := [.ref (b 0), .int (0 : Int32), .int ((41 : Int32) + a1)]) (rest := []) (BH := (fun (u : (Nat → Nat → Int32) × (Nat → Nat → Option Nat)) H => va_P (dC, dI) vwCl (hW N ca b u.1 u.2 J) H)) X hP hS (c_L_setLimit hlf hN hA I222 O223 J (0 : Int32) ((41 : Int32) + a1) q229 hcq229) (vx_cwSW 3 X.ts gL_refuses_L_setLimit rfl rfl rfl (by decide +kernel) ⟨Nat.le_of_ble_eq_true rfl, Nat.le_of_ble_eq_true rfl⟩) rfl hl.1 rfl (Nat.le_of_ble_eq_true rfl) dL_refuses_184 ⟨Nat.le_of_ble_eq_true rfl, Nat.le_of_ble_eq_true rfl⟩ (fun r228 u9 H locs hw hP hS => ?_)
                          obtain ⟨I226, O227⟩ := u9
                          subst hw
                          refine lv_bipush (v := (-3)) hx hb dL_refuses_187 (by decide) ?_
                          refine lv_icmp_ne (tgt := 305) hx hb dL_refuses_189 (by decide) (fun c272 => ?_) (fun c272 => ?_)
                          · have h := gif_f c272 h
                            refine lv_iconst (v := 0) hx hb dL_refuses_305 (by decide) ?_
                            refine W.widen (k := 31) (n := 186) (Nat.le_of_ble_eq_true rfl) (Nat.le_of_ble_eq_true rfl) ?_
                            cases h
                            exact K306 _ _ _ hP hS (lv_sub hl [1, 2, 3] rfl)
                          · have h := gif_t c272 h
                            refine lv_aload_n hx hb dL_refuses_192 rfl (lv_at hl 1 rfl) ?_
                            refine lv_iconst (v := 3) hx hb dL_refuses_193 (by decide) ?_
                            refine lv_bipush (v := 7) hx hb dL_refuses_194 (by decide) ?_
                            refine lv_iload_n hx hb dL_refuses_196 rfl (lv_at hl 2 rfl) ?_
                            refine lv_isub hx hb dL_refuses_197 ?_
                            obtain ⟨q233, hcq233, h⟩ := hb_some h
                            refine gcSW_i (As := [.ref (b 0), .int (3 : Int32), .int ((7 : Int32) - a1)]) (rest := []) (BH := (fun (u : (Nat → Nat → Int32) × (Nat → Nat → Option Nat)) H => va_P (dC, dI) vwCl (hW N ca b u.1 u.2 J) H)) X hP hS (c_L_setLimit hlf hN hA I226 O227 J (3 : Int32) ((7 : Int32) - a1) q233 hcq233) (vx_cwSW 3 X.ts gL_refuses_L_setLimit rfl rfl rfl (by decide +kernel) ⟨Nat.le_of_ble_eq_true rfl, Nat.le_of_ble_eq_true rfl⟩) rfl hl.1 rfl (Nat.le_of_ble_eq_true rfl) dL_refuses_198 ⟨Nat.le_of_ble_eq_true rfl, Nat.le_of_ble_eq_true rfl⟩ (fun r232 u9 H locs hw hP hS => ?_)
                            obtain ⟨I230, O231⟩ := u9
                            subst hw
                            refine lv_bipush (v := (-3)) hx hb dL_refuses_201 (by decide) ?_
                            refine lv_icmp_ne (tgt := 305) hx hb dL_refuses_203 (by decide) (fun c271 => ?_) (fun c271 => ?_)
                            · have h := gif_f c271 h
                              refine lv_iconst (v := 0) hx hb dL_refuses_305 (by decide) ?_
                              refine W.widen (k := 31) (n := 186) (Nat.le_of_ble_eq_true rfl) (Nat.le_of_ble_eq_true rfl) ?_
                              cases h
                              exact K306 _ _ _ hP hS (lv_sub hl [1, 2, 3] rfl)
                            · have h := gif_t c271 h
                              refine lv_aload_n hx hb dL_refuses_206 rfl (lv_at hl 1 rfl) ?_
                              refine lv_bipush (v := 10) hx hb dL_refuses_207 (by decide) ?_
                              refine lv_iload_n hx hb dL_refuses_209 rfl (lv_at hl 2 rfl) ?_
                              refine lv_iadd hx hb dL_refuses_210 ?_
                              obtain ⟨q237, hcq237, h⟩ := hb_some h
                              refine gcSW_i (As := [.ref (b 0), .int ((10 : Int32) + a1)]) (rest := []) (BH := (fun (u : (Nat → Nat → Int32) × (Nat → Nat → Option Nat)) H => va_P (dC, dI) vwCl (hW N ca b u.1 u.2 J) H)) X hP hS (c_L_setLaps hlf hN hA I230 O231 J ((10 : Int32) + a1) q237 hcq237) (vx_cwSW 2 X.ts gL_refuses_L_setLaps rfl rfl rfl (by decide +kernel) ⟨Nat.le_of_ble_eq_true rfl, Nat.le_of_ble_eq_true rfl⟩) rfl hl.1 rfl (Nat.le_of_ble_eq_true rfl) dL_refuses_211 ⟨Nat.le_of_ble_eq_true rfl, Nat.le_of_ble_eq_true rfl⟩ (fun r236 u9 H locs hw hP hS => ?_)
                              obtain ⟨I234, O235⟩ := u9
                              subst hw
                              refine lv_bipush (v := (-3)) hx hb dL_refuses_214 (by decide) ?_
                              refine lv_icmp_ne (tgt := 305) hx hb dL_refuses_216 (by decide) (fun c270 => ?_) (fun c270 => ?_)
                              · have h := gif_f c270 h
                                refine lv_iconst (v := 0) hx hb dL_refuses_305 (by decide) ?_
                                refine W.widen (k := 31) (n := 186) (Nat.le_of_ble_eq_true rfl) (Nat.le_of_ble_eq_true rfl) ?_
                                cases h
                                exact K306 _ _ _ hP hS (lv_sub hl [1, 2, 3] rfl)
                              · have h := gif_t c270 h
                                refine lv_aload_n hx hb dL_refuses_219 rfl (lv_at hl 1 rfl) ?_
                                refine lv_iload_n hx hb dL_refuses_220 rfl (lv_at hl 2 rfl) ?_
                                refine lv_ineg hx hb dL_refuses_221 ?_
                                obtain ⟨q241, hcq241, h⟩ := hb_some h
                                refine gcSW_i (As := [.ref (b 0), .int (-a1)]) (rest := []) (BH := (fun (u : (Nat → Nat → Int32) × (Nat → Nat → Option Nat)) H => va_P (dC, dI) vwCl (hW N ca b u.1 u.2 J) H)) X hP hS (c_L_setLaps hlf hN hA I234 O235 J (-a1) q241 hcq241) (vx_cwSW 2 X.ts gL_refuses_L_setLaps rfl rfl rfl (by decide +kernel) ⟨Nat.le_of_ble_eq_true rfl, Nat.le_of_ble_eq_true rfl⟩) rfl hl.1 rfl (Nat.le_of_ble_eq_true rfl) dL_refuses_222 ⟨Nat.le_of_ble_eq_true rfl, Nat.le_of_ble_eq_true rfl⟩ (fun r240 u9 H locs hw hP hS => ?_)
                                obtain ⟨I238, O239⟩ := u9
                                subst hw
                                refine lv_bipush (v := (-3)) hx hb dL_refuses_225 (by decide) ?_
                                refine lv_icmp_ne (tgt := 305) hx hb dL_refuses_227 (by decide) (fun c269 => ?_) (fun c269 => ?_)
                                · have h := gif_f c269 h
                                  refine lv_iconst (v := 0) hx hb dL_refuses_305 (by decide) ?_
                                  refine W.widen (k := 31) (n := 186) (Nat.le_of_ble_eq_true rfl) (Nat.le_of_ble_eq_true rfl) ?_
                                  cases h
                                  exact K306 _ _ _ hP hS (lv_sub hl [1, 2, 3] rfl)
                                · have h := gif_t c269 h
                                  refine lv_aload_n hx hb dL_refuses_230 rfl (lv_at hl 1 rfl) ?_
                                  refine lv_sipush (v := 201) hx hb dL_refuses_231 (by decide) ?_
                                  refine lv_iload_n hx hb dL_refuses_234 rfl (lv_at hl 2 rfl) ?_
                                  refine lv_iadd hx hb dL_refuses_235 ?_
                                  obtain ⟨q245, hcq245, h⟩ := hb_some h
                                  refine gcSW_i (As := [.ref (b 0), .int ((201 : Int32) + a1)]) (rest := []) (BH := (fun (u : (Nat → Nat → Int32) × (Nat → Nat → Option Nat)) H => va_P (dC, dI) vwCl (hW N ca b u.1 u.2 J) H)) X hP hS (c_L_pass hlf hN hA I238 O239 J ((201 : Int32) + a1) q245 hcq245) (vx_cwSW 2 X.ts gL_refuses_L_pass rfl rfl rfl (by decide +kernel) ⟨Nat.le_of_ble_eq_true rfl, Nat.le_of_ble_eq_true rfl⟩) rfl hl.1 rfl (Nat.le_of_ble_eq_true rfl) dL_refuses_236 ⟨Nat.le_of_ble_eq_true rfl, Nat.le_of_ble_eq_true rfl⟩ (fun r244 u9 H locs hw hP hS => ?_)
                                  obtain ⟨I242, O243⟩ := u9
                                  subst hw
                                  refine lv_bipush (v := (-3)) hx hb dL_refuses_239 (by decide) ?_
                                  refine lv_icmp_ne (tgt := 305) hx hb dL_refuses_241 (by decide) (fun c268 => ?_) (fun c268 => ?_)
                                  · have h := gif_f c268 h
                                    refine lv_iconst (v := 0) hx hb dL_refuses_305 (by decide) ?_
                                    refine W.widen (k := 31) (n := 186) (Nat.le_of_ble_eq_true rfl) (Nat.le_of_ble_eq_true rfl) ?_
                                    cases h
                                    exact K306 _ _ _ hP hS (lv_sub hl [1, 2, 3] rfl)
                                  · have h := gif_t c268 h
                                    refine lv_aload_n hx hb dL_refuses_244 rfl (lv_at hl 1 rfl) ?_
                                    refine lv_iload_n hx hb dL_refuses_245 rfl (lv_at hl 2 rfl) ?_
                                    refine lv_ineg hx hb dL_refuses_246 ?_
                                    obtain ⟨q249, hcq249, h⟩ := hb_some h
                                    refine gcSW_i (As := [.ref (b 0), .int (-a1)]) (rest := []) (BH := (fun (u : (Nat → Nat → Int32) × (Nat → Nat → Option Nat)) H => va_P (dC, dI) vwCl (hW N ca b u.1 u.2 J) H)) X hP hS (c_L_pass hlf hN hA I242 O243 J (-a1) q249 hcq249) (vx_cwSW 2 X.ts gL_refuses_L_pass rfl rfl rfl (by decide +kernel) ⟨Nat.le_of_ble_eq_true rfl, Nat.le_of_ble_eq_true rfl⟩) rfl hl.1 rfl (Nat.le_of_ble_eq_true rfl) dL_refuses_247 ⟨Nat.le_of_ble_eq_true rfl, Nat.le_of_ble_eq_true rfl⟩ (fun r248 u9 H locs hw hP hS => ?_)
                                    obtain ⟨I246, O247⟩ := u9
                                    subst hw
                                    refine lv_bipush (v := (-3)) hx hb dL_refuses_250 (by decide) ?_
                                    refine lv_icmp_ne (tgt := 305) hx hb dL_refuses_252 (by decide) (fun c267 => ?_) (fun c267 => ?_)
                                    · have h := gif_f c267 h
                                      refine lv_iconst (v := 0) hx hb dL_refuses_305 (by decide) ?_
                                      refine W.widen (k := 31) (n := 186) (Nat.le_of_ble_eq_true rfl) (Nat.le_of_ble_eq_true rfl) ?_
                                      cases h
                                      exact K306 _ _ _ hP hS (lv_sub hl [1, 2, 3] rfl)
                                    · have h := gif_t c267 h
                                      refine lv_aload_n hx hb dL_refuses_255 rfl (lv_at hl 1 rfl) ?_
                                      refine lv_bipush (v := 32) hx hb dL_refuses_256 (by decide) ?_
                                      refine lv_iload_n hx hb dL_refuses_258 rfl (lv_at hl 2 rfl) ?_
                                      refine lv_isub hx hb dL_refuses_259 ?_
                                      obtain ⟨q252, hcq252, h⟩ := hb_some h
                                      refine gcSW_i (As := [.ref (b 0), .int ((32 : Int32) - a1)]) (rest := []) (BH := (fun (u : Nat → Nat → Int32) H => va_P (dC, dI) vwCl (hW N ca b u O247 J) H)) X hP hS (c_L_append hlf hN hA I246 O247 J ((32 : Int32) - a1) q252 hcq252) (vx_cwSW 2 X.ts gL_refuses_L_append rfl rfl rfl (by decide +kernel) ⟨Nat.le_of_ble_eq_true rfl, Nat.le_of_ble_eq_true rfl⟩) rfl hl.1 rfl (Nat.le_of_ble_eq_true rfl) dL_refuses_260 ⟨Nat.le_of_ble_eq_true rfl, Nat.le_of_ble_eq_true rfl⟩ (fun r251 I250 H locs hw hP hS => ?_)
                                      subst hw
                                      refine lv_bipush (v := (-3)) hx hb dL_refuses_263 (by decide) ?_
                                      refine lv_icmp_ne (tgt := 305) hx hb dL_refuses_265 (by decide) (fun c266 => ?_) (fun c266 => ?_)
                                      · have h := gif_f c266 h
                                        refine lv_iconst (v := 0) hx hb dL_refuses_305 (by decide) ?_
                                        refine W.widen (k := 31) (n := 186) (Nat.le_of_ble_eq_true rfl) (Nat.le_of_ble_eq_true rfl) ?_
                                        cases h
                                        exact K306 _ _ _ hP hS (lv_sub hl [1, 2, 3] rfl)
                                      · have h := gif_t c266 h
                                        refine lv_aload_n hx hb dL_refuses_268 rfl (lv_at hl 1 rfl) ?_
                                        refine lv_bipush (v := 127) hx hb dL_refuses_269 (by decide) ?_
                                        refine lv_iload_n hx hb dL_refuses_271 rfl (lv_at hl 2 rfl) ?_
                                        refine lv_iadd hx hb dL_refuses_272 ?_
                                        obtain ⟨q255, hcq255, h⟩ := hb_some h
                                        refine gcSW_i (As := [.ref (b 0), .int ((127 : Int32) + a1)]) (rest := []) (BH := (fun (u : Nat → Nat → Int32) H => va_P (dC, dI) vwCl (hW N ca b u O247 J) H)) X hP hS (c_L_append hlf hN hA I250 O247 J ((127 : Int32) + a1) q255 hcq255) (vx_cwSW 2 X.ts gL_refuses_L_append rfl rfl rfl (by decide +kernel) ⟨Nat.le_of_ble_eq_true rfl, Nat.le_of_ble_eq_true rfl⟩) rfl hl.1 rfl (Nat.le_of_ble_eq_true rfl) dL_refuses_273 ⟨Nat.le_of_ble_eq_true rfl, Nat.le_of_ble_eq_true rfl⟩ (fun r254 I253 H locs hw hP hS => ?_)
                                        subst hw
                                        refine lv_bipush (v := (-3)) hx hb dL_refuses_276 (by decide) ?_
                                        refine lv_icmp_ne (tgt := 305) hx hb dL_refuses_278 (by decide) (fun c265 => ?_) (fun c265 => ?_)
                                        · have h := gif_f c265 h
                                          refine lv_iconst (v := 0) hx hb dL_refuses_305 (by decide) ?_
                                          refine W.widen (k := 31) (n := 186) (Nat.le_of_ble_eq_true rfl) (Nat.le_of_ble_eq_true rfl) ?_
                                          cases h
                                          exact K306 _ _ _ hP hS (lv_sub hl [1, 2, 3] rfl)
                                        · have h := gif_t c265 h
                                          refine lv_aload_n hx hb dL_refuses_281 rfl (lv_at hl 1 rfl) ?_
                                          refine lv_iload_n hx hb dL_refuses_282 rfl (lv_at hl 0 rfl) ?_
                                          obtain ⟨q258, hcq258, h⟩ := hb_some h
                                          refine gcSW_i (As := [.ref (b 0), .int p2]) (rest := []) (BH := (fun (u : Nat → Nat → Int32) H => va_P (dC, dI) vwCl (hW N ca b u O247 J) H)) X hP hS (c_L_keep hlf hN hA I253 O247 J p2 q258 hcq258) (vx_cwSW 2 X.ts gL_refuses_L_keep rfl rfl rfl (by decide +kernel) ⟨Nat.le_of_ble_eq_true rfl, Nat.le_of_ble_eq_true rfl⟩) rfl hl.1 rfl (Nat.le_of_ble_eq_true rfl) dL_refuses_283 ⟨Nat.le_of_ble_eq_true rfl, Nat.le_of_ble_eq_true rfl⟩ (fun r257 I256 H locs hw hP hS => ?_)
                                          subst hw
                                          refine lv_bipush (v := (-3)) hx hb dL_refuses_286 (by decide) ?_
                                          refine lv_icmp_ne (tgt := 305) hx hb dL_refuses_288 (by decide) (fun c264 => ?_) (fun c264 => ?_)
                                          · have h := gif_f c264 h
                                            refine lv_iconst (v := 0) hx hb dL_refuses_305 (by decide) ?_
                                            refine W.widen (k := 31) (n := 186) (Nat.le_of_ble_eq_true rfl) (Nat.le_of_ble_eq_true rfl) ?_
                                            cases h
                                            exact K306 _ _ _ hP hS (lv_sub hl [1, 2, 3] rfl)
                                          · have h := gif_t c264 h
                                            refine lv_aload_n hx hb dL_refuses_291 rfl (lv_at hl 1 rfl) ?_
                                            refine lv_iload_n hx hb dL_refuses_292 rfl (lv_at hl 0 rfl) ?_
                                            obtain ⟨q262, hcq262, h⟩ := hb_some h
                                            refine gcSW_i (As := [.ref (b 0), .int p2]) (rest := []) (BH := (fun (u : (Nat → Nat → Int32) × (Nat → Nat → Option Nat)) H => va_P (dC, dI) vwCl (hW N ca b u.1 u.2 J) H)) X hP hS (c_L_goBack hlf hN hA I256 O247 J p2 q262 hcq262) (vx_cwSW 2 X.ts gL_refuses_L_goBack rfl rfl rfl (by decide +kernel) ⟨Nat.le_of_ble_eq_true rfl, Nat.le_of_ble_eq_true rfl⟩) rfl hl.1 rfl (Nat.le_of_ble_eq_true rfl) dL_refuses_293 ⟨Nat.le_of_ble_eq_true rfl, Nat.le_of_ble_eq_true rfl⟩ (fun r261 u9 H locs hw hP hS => ?_)
                                            obtain ⟨I259, O260⟩ := u9
                                            subst hw
                                            refine lv_bipush (v := (-3)) hx hb dL_refuses_296 (by decide) ?_
                                            refine lv_icmp_ne (tgt := 305) hx hb dL_refuses_298 (by decide) (fun c263 => ?_) (fun c263 => ?_)
                                            · have h := gif_f c263 h
                                              refine lv_iconst (v := 0) hx hb dL_refuses_305 (by decide) ?_
                                              cases h
                                              exact K306 _ _ _ hP hS (lv_sub hl [1, 2, 3] rfl)
                                            · have h := gif_t c263 h
                                              refine lv_iconst (v := 1) hx hb dL_refuses_301 (by decide) ?_
                                              refine lv_goto (tgt := 306) hx hb dL_refuses_302 (by decide) ?_
                                              cases h
                                              exact K306 _ _ _ hP hS (lv_sub hl [1, 2, 3] rfl)
    have h := hv
    refine lv_if_ne (tgt := 31) hx hb dL_refuses_22 (by decide) (fun c283 => ?_) (fun c283 => ?_)
    · have h := gif_f c283 h
      refine lv_iconst (v := (-1)) hx hb dL_refuses_31 (by decide) ?_
      refine lv_iload_n hx hb dL_refuses_32 rfl (lv_at hl 2 rfl) ?_
      refine lv_isub hx hb dL_refuses_33 ?_
      obtain rfl := Option.some.inj h
      exact K34 _ _ _ hP hS (lv_sub hl [1, 2, 0] rfl)
    · have h := gif_t c283 h
      refine lv_iconst (v := 2) hx hb dL_refuses_25 (by decide) ?_
      refine lv_iload_n hx hb dL_refuses_26 rfl (lv_at hl 2 rfl) ?_
      refine lv_iadd hx hb dL_refuses_27 ?_
      refine lv_goto (tgt := 34) hx hb dL_refuses_28 (by decide) ?_
      cases h
      exact K34 _ _ _ hP hS (lv_sub hl [1, 2, 0] rfl)
  have h := hv
  refine lv_if_ne (tgt := 15) hx hb dL_refuses_3 (by decide) (fun c286 => ?_) (fun c286 => ?_)
  · have h := gif_f c286 h
    refine lv_iconst (v := (-1)) hx hb dL_refuses_15 (by decide) ?_
    refine lv_iload_n hx hb dL_refuses_16 rfl (lv_at hl 1 rfl) ?_
    refine lv_isub hx hb dL_refuses_17 ?_
    obtain rfl := Option.some.inj h
    exact K18 _ _ _ hP hS (lv_sub hl [0, 1] rfl)
  · have h := gif_t c286 h
    refine lv_aload_n hx hb dL_refuses_6 rfl (lv_at hl 0 rfl) ?_
    obtain ⟨q285, hcq285, h⟩ := hb_some h
    refine gdV_i (As := []) (rest := []) (BH := (fun (u : Unit) H => va_P (dC, dI) vwCl (hW N ca b I O J) H)) X hP hS (c_X7_sparrows hN hA I O J q285 hcq285) (cwV 0 X.ts gL_refuses_X7_sparrows rfl rfl rfl (by decide +kernel) ⟨Nat.le_of_ble_eq_true rfl, Nat.le_of_ble_eq_true rfl⟩) (gr7 X hP kc_0 (sk_in hN kc_0 (by decide))) rfl hl.1 rfl (Nat.le_of_ble_eq_true rfl) dL_refuses_7 ⟨Nat.le_of_ble_eq_true rfl, Nat.le_of_ble_eq_true rfl⟩ (fun r284 u9 H locs hw hP hS => ?_)
    have hw := hw.symm
    subst hw
    refine lv_iload_n hx hb dL_refuses_10 rfl (lv_at hl 1 rfl) ?_
    refine lv_iadd hx hb dL_refuses_11 ?_
    refine lv_goto (tgt := 18) hx hb dL_refuses_12 (by decide) ?_
    cases h
    exact K18 _ _ _ hP hS (lv_sub hl [0, 1] rfl)
