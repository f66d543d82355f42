def f_X8_thrown (I : Nat → Nat → Int32) : Option (Int32) :=
  some (I 129 8)
set_option maxHeartbeats 8000000 in
set_option maxRecDepth 100000 in
theorem c_X8_thrown {l : Launch} {dC : Nat → ClassId} {dI : Nat → Nat → Nat} {ca : Nat → ClassId} {b : Nat → Nat} {A : Nat → Prop} {N : Nat} (hN : 138 ≤ N) (hA : gAd A b N) (I : Nat → Nat → Int32) (O : Nat → Nat → Option Nat) (J : Nat → Nat → Int64) (res : Int32) (h : f_X8_thrown I = some res) : Met l yX8_thrown wsX8_thrown ({ frames := 0, cells := 0, slots := 0, locals := 0 } : Room) (va_Pc [.ref (b 129)] (gPre dC dI ca b A N I O J)) (va_Qi (fun (r : Int32) (u : Unit) => res = r) (fun (u : Unit) t => va_P (dC, dI) vwCl (hW N ca b I O J) t.heap) A) 0 0 A := by
  refine Met.ofW (cc := cX8_thrown) (maxL := 1) (ret := (some .int)) (by decide) rfl ?_
  intro p e s m args below meth c s₁ B hml hv
  obtain ⟨rfl, hP, hK, hA2, hth⟩ := hv
  have hx := B.exec
  have hb := B.bytes
  have hr := B.returns
  have hlk := B.notSynchronized
  have X : gCx p s m ([.ref (b 129)] : List Value).toArray c RX8 cX8_thrown wsX8_thrown 1 dC dI ca b A N := ⟨hx, hb, hml, findClass_of_methodNamed B.named, atoms_spec (ws := wsX8_thrown) B.pre, hK, hA, hA2, hth⟩
  have hi8 : ∀ w ∈ wsX80, w ∈ wsX8_thrown := (fun w h => List.mem_cons_of_mem _ (List.mem_append_right _ h))
  have hS : va_S A s.heap s.heap [] := va_S.rf
  have hl := lv_entry ([.ref (b 129)] : List Value) (n := 1) (Nat.le_of_ble_eq_true rfl)
  rw [lg_entry_eq]
  generalize (lg_sl ([.ref (b 129)] : List Value) ++ List.replicate (1 - (lg_sl ([.ref (b 129)] : List Value)).length) Slot.unset).toArray = ls at hl ⊢
  have hl : lv_has ls 1 [(0, .ref (b 129))] := hl
  unfold f_X8_thrown at h
  refine lv_aload_n hx hb dX8_thrown_0 rfl (lv_at hl 0 rfl) ?_
  refine gg8_8 X hP kc_129 (sk_in hN kc_129 (by decide)) hi8 (List.mem_of_getElem? (i := 1) rfl) dX8_thrown_1 ?_
  exact W.iret hx hb hr (fun t9 ht hW => ⟨⟨(I 129 8), (), rfl, (Option.some.inj h).symm, gEnd ht hP⟩, hS.F ht⟩) hS.2.2 dX8_thrown_4 hlk
def f_X8_refused (a1 : Int32) (I : Nat → Nat → Int32) : Option (Int32 × (Nat → Nat → Int32)) :=
  hlet (gup I 129 8 a1) fun I1 =>
  if a1 ≤ 0 then
    some ((0 : Int32), I1)
  else
    some ((1 : Int32), I1)
set_option maxHeartbeats 8000000 in
set_option maxRecDepth 100000 in
theorem c_X8_refused {l : Launch} {dC : Nat → ClassId} {dI : Nat → Nat → Nat} {ca : Nat → ClassId} {b : Nat → Nat} {A : Nat → Prop} {N : Nat} (hN : 138 ≤ N) (hA : gAd A b N) (I : Nat → Nat → Int32) (O : Nat → Nat → Option Nat) (J : Nat → Nat → Int64) (a1 : Int32) (res : Int32 × (Nat → Nat → Int32)) (h : f_X8_refused a1 I = some res) : Met l yX8_refused wsX8_refused ({ frames := 0, cells := 0, slots := 0, locals := 0 } : Room) (va_Pc [.ref (b 129), .int a1] (gPre dC dI ca b A N I O J)) (va_Qi (fun (r : Int32) (u : Nat → Nat → Int32) => res = (r, u)) (fun (u : Nat → Nat → Int32) t => va_P (dC, dI) vwCl (hW N ca b u O J) t.heap) A) 0 0 A := by
  refine Met.ofW (cc := cX8_refused) (maxL := 2) (ret := (some .boolean)) (by decide) rfl ?_
  intro p e s m args below meth c s₁ B hml hv
  obtain ⟨rfl, hP, hK, hA2, hth⟩ := hv
  have hx := B.exec
  have hb := B.bytes
  have hr := B.returns
  have hlk := B.notSynchronized
  have X : gCx p s m ([.ref (b 129), .int a1] : List Value).toArray c RX8 cX8_refused wsX8_refused 2 dC dI ca b A N := ⟨hx, hb, hml, findClass_of_methodNamed B.named, atoms_spec (ws := wsX8_refused) B.pre, hK, hA, hA2, hth⟩
  have hi8 : ∀ w ∈ wsX80, w ∈ wsX8_refused := (fun w h => List.mem_cons_of_mem _ (List.mem_append_right _ h))
  have hS : va_S A s.heap s.heap [] := va_S.rf
  have hl := lv_entry ([.ref (b 129), .int a1] : List Value) (n := 2) (Nat.le_of_ble_eq_true rfl)
  rw [lg_entry_eq]
  generalize (lg_sl ([.ref (b 129), .int a1] : List Value) ++ List.replicate (2 - (lg_sl ([.ref (b 129), .int a1] : List Value)).length) Slot.unset).toArray = ls at hl ⊢
  have hl : lv_has ls 2 [(0, .ref (b 129)), (1, .int a1)] := hl
  unfold f_X8_refused at h
  refine lv_aload_n hx hb dX8_refused_0 rfl (lv_at hl 0 rfl) ?_
  refine lv_iload_n hx hb dX8_refused_1 rfl (lv_at hl 1 rfl) ?_
  refine gp8_8 X hP hS kc_129 (sk_in hN kc_129 (by decide)) hi8 (List.mem_of_getElem? (i := 1) rfl) dX8_refused_2 (fun H locs hP hS => ?_)
  obtain ⟨I1, eI1, h⟩ := hlet_ex h
  rw [← eI1] at hP
  refine lv_iload_n hx hb dX8_refused_5 rfl (lv_at hl 1 rfl) ?_
  refine lv_if_le (tgt := 13) hx hb dX8_refused_6 (by decide) (fun c2 => ?_) (fun c2 => ?_)
  · have h := gif_t c2 h
    refine lv_iconst (v := 0) hx hb dX8_refused_13 (by decide) ?_
    exact W.zret (ty := .boolean) hx hb hr (by decide) (fun t9 ht hW => ⟨⟨(0 : Int32), I1, rfl, (Option.some.inj h).symm, gEnd ht hP⟩, hS.F ht⟩) hS.2.2 dX8_refused_14 hlk
  · have h := gif_f c2 h
    refine lv_iconst (v := 1) hx hb dX8_refused_9 (by decide) ?_
    refine lv_goto (tgt := 14) hx hb dX8_refused_10 (by decide) ?_
    exact W.zret (ty := .boolean) hx hb hr (by decide) (fun t9 ht hW => ⟨⟨(1 : Int32), I1, rfl, (Option.some.inj h).symm, gEnd ht hP⟩, hS.F ht⟩) hS.2.2 dX8_refused_14 hlk
def f_X8_told (a1 : Int32) (I : Nat → Nat → Int32) : Option (Int32 × (Nat → Nat → Int32)) :=
  hlet (gup I 129 8 (0 : Int32)) fun I1 =>
  some (a1, I1)
set_option maxHeartbeats 8000000 in
set_option maxRecDepth 100000 in
theorem c_X8_told {l : Launch} {dC : Nat → ClassId} {dI : Nat → Nat → Nat} {ca : Nat → ClassId} {b : Nat → Nat} {A : Nat → Prop} {N : Nat} (hN : 138 ≤ N) (hA : gAd A b N) (I : Nat → Nat → Int32) (O : Nat → Nat → Option Nat) (J : Nat → Nat → Int64) (a1 : Int32) (res : Int32 × (Nat → Nat → Int32)) (h : f_X8_told a1 I = some res) : Met l yX8_told wsX8_told ({ frames := 0, cells := 0, slots := 0, locals := 0 } : Room) (va_Pc [.ref (b 129), .int a1] (gPre dC dI ca b A N I O J)) (va_Qi (fun (r : Int32) (u : Nat → Nat → Int32) => res = (r, u)) (fun (u : Nat → Nat → Int32) t => va_P (dC, dI) vwCl (hW N ca b u O J) t.heap) A) 0 0 A := by
  refine Met.ofW (cc := cX8_told) (maxL := 2) (ret := (some .int)) (by decide) rfl ?_
  intro p e s m args below meth c s₁ B hml hv
  obtain ⟨rfl, hP, hK, hA2, hth⟩ := hv
  have hx := B.exec
  have hb := B.bytes
  have hr := B.returns
  have hlk := B.notSynchronized
  have X : gCx p s m ([.ref (b 129), .int a1] : List Value).toArray c RX8 cX8_told wsX8_told 2 dC dI ca b A N := ⟨hx, hb, hml, findClass_of_methodNamed B.named, atoms_spec (ws := wsX8_told) B.pre, hK, hA, hA2, hth⟩
  have hi8 : ∀ w ∈ wsX80, w ∈ wsX8_told := (fun w h => List.mem_cons_of_mem _ (List.mem_append_right _ h))
  have hS : va_S A s.heap s.heap [] := va_S.rf
  have hl := lv_entry ([.ref (b 129), .int a1] : List Value) (n := 2) (Nat.le_of_ble_eq_true rfl)
  rw [lg_entry_eq]
  generalize (lg_sl ([.ref (b 129), .int a1] : List Value) ++ List.replicate (2 - (lg_sl ([.ref (b 129), .int a1] : List Value)).length) Slot.unset).toArray = ls at hl ⊢
  have hl : lv_has ls 2 [(0, .ref (b 129)), (1, .int a1)] := hl
  unfold f_X8_told at h
  refine lv_aload_n hx hb dX8_told_0 rfl (lv_at hl 0 rfl) ?_
  refine lv_iconst (v := 0) hx hb dX8_told_1 (by decide) ?_
  refine gp8_8 X hP hS kc_129 (sk_in hN kc_129 (by decide)) hi8 (List.mem_of_getElem? (i := 1) rfl) dX8_told_2 (fun H locs hP hS => ?_)
  obtain ⟨I1, eI1, h⟩ := hlet_ex h
  rw [← eI1] at hP
  refine lv_iload_n hx hb dX8_told_5 rfl (lv_at hl 1 rfl) ?_
  exact W.iret hx hb hr (fun t9 ht hW => ⟨⟨a1, I1, rfl, (Option.some.inj h).symm, gEnd ht hP⟩, hS.F ht⟩) hS.2.2 dX8_told_6 hlk
def f_X8_in (a0 : Int32) (a1 : Int32) (a2 : Int32) : Option (Int32) :=
  if a0 < a1 then
    some (0 : Int32)
  else
    if a2 < a0 then
      some (0 : Int32)
    else
      some (1 : Int32)
set_option maxHeartbeats 8000000 in
set_option maxRecDepth 100000 in
theorem c_X8_in {l : Launch} {dC : Nat → ClassId} {dI : Nat → Nat → Nat} {ca : Nat → ClassId} {b : Nat → Nat} {A : Nat → Prop} {N : Nat} (hN : 138 ≤ N) (hA : gAd A b N) (I : Nat → Nat → Int32) (O : Nat → Nat → Option Nat) (J : Nat → Nat → Int64) (a0 : Int32) (a1 : Int32) (a2 : Int32) (res : Int32) (h : f_X8_in a0 a1 a2 = some res) : Met l yX8_in wsX8_in ({ frames := 0, cells := 0, slots := 0, locals := 0 } : Room) (va_Pc [.int a0, .int a1, .int a2] (gPre dC dI ca b A N I O J)) (va_Qi (fun (r : Int32) (u : Unit) => res = r) (fun (u : Unit) t => va_P (dC, dI) vwCl (hW N ca b I O J) t.heap) A) 0 0 A := by
  refine Met.ofW (cc := cX8_in) (maxL := 3) (ret := (some .boolean)) (by decide) rfl ?_
  intro p e s m args below meth c s₁ B hml hv
  obtain ⟨rfl, hP, hK, hA2, hth⟩ := hv
  have hx := B.exec
  have hb := B.bytes
  have hr := B.returns
  have hlk := B.notSynchronized
  have X : gCx p s m ([.int a0, .int a1, .int a2] : List Value).toArray c RX8 cX8_in wsX8_in 3 dC dI ca b A N := ⟨hx, hb, hml, findClass_of_methodNamed B.named, atoms_spec (ws := wsX8_in) B.pre, hK, hA, hA2, hth⟩
  have hS : va_S A s.heap s.heap [] := va_S.rf
  have hl := lv_entry ([.int a0, .int a1, .int a2] : List Value) (n := 3) (Nat.le_of_ble_eq_true rfl)
  rw [lg_entry_eq]
  generalize (lg_sl ([.int a0, .int a1, .int a2] : List Value) ++ List.replicate (3 - (lg_sl ([.int a0, .int a1, .int a2] : List Value)).length) Slot.unset).toArray = ls at hl ⊢
  have hl : lv_has ls 3 [(0, .int a0), (1, .int a1), (2, .int a2)] := hl
  unfold f_X8_in at h
  refine lv_iload_n hx hb dX8_in_0 rfl (lv_at hl 0 rfl) ?_
  refine lv_iload_n hx hb dX8_in_1 rfl (lv_at hl 1 rfl) ?_
  refine lv_icmp_lt (tgt := 14) hx hb dX8_in_2 (by decide) (fun c2 => ?_) (fun c2 => ?_)
  · have h := gif_t c2 h
    refine lv_iconst (v := 0) hx hb dX8_in_14 (by decide) ?_
    exact W.zret (ty := .boolean) hx hb hr (by decide) (fun t9 ht hW => ⟨⟨(0 : Int32), (), rfl, (Option.some.inj h).symm, gEnd ht hP⟩, hS.F ht⟩) hS.2.2 dX8_in_15 hlk
  · have h := gif_f c2 h
    refine lv_iload_n hx hb dX8_in_5 rfl (lv_at hl 0 rfl) ?_
    refine lv_iload_n hx hb dX8_in_6 rfl (lv_at hl 2 rfl) ?_
    refine lv_icmp_gt (tgt := 14) hx hb dX8_in_7 (by decide) (fun c1 => ?_) (fun c1 => ?_)
    · have h := gif_t c1 h
      refine lv_iconst (v := 0) hx hb dX8_in_14 (by decide) ?_
      exact W.zret (ty := .boolean) hx hb hr (by decide) (fun t9 ht hW => ⟨⟨(0 : Int32), (), rfl, (Option.some.inj h).symm, gEnd ht hP⟩, hS.F ht⟩) hS.2.2 dX8_in_15 hlk
    · have h := gif_f c1 h
      refine lv_iconst (v := 1) hx hb dX8_in_10 (by decide) ?_
      refine lv_goto (tgt := 15) hx hb dX8_in_11 (by decide) ?_
      exact W.zret (ty := .boolean) hx hb hr (by decide) (fun t9 ht hW => ⟨⟨(1 : Int32), (), rfl, (Option.some.inj h).symm, gEnd ht hP⟩, hS.F ht⟩) hS.2.2 dX8_in_15 hlk
def f_X8_isBird (a1 : Int32) (I : Nat → Nat → Int32) : Option (Int32) :=
  (f_X8_in a1 (0 : Int32) ((I 130 ((128 : Int32).toNatClampNeg)) - (1 : Int32))).bind fun r1 =>
  hg (gz r1) <|
  some r1
set_option maxHeartbeats 8000000 in
set_option maxRecDepth 100000 in
theorem c_X8_isBird {l : Launch} {dC : Nat → ClassId} {dI : Nat → Nat → Nat} {ca : Nat → ClassId} {b : Nat → Nat} {A : Nat → Prop} {N : Nat} (hN : 138 ≤ N) (hA : gAd A b N) (I : Nat → Nat → Int32) (O : Nat → Nat → Option Nat) (J : Nat → Nat → Int64) (a1 : Int32) (res : Int32) (h : f_X8_isBird a1 I = some res) : Met l yX8_isBird wsX8_isBird ({ frames := 1, cells := 0, slots := 0, locals := 22 } : Room) (va_Pc [.ref (b 129), .int a1] (gPre dC dI ca b A N I O J)) (va_Qi (fun (r : Int32) (u : Unit) => res = r) (fun (u : Unit) t => va_P (dC, dI) vwCl (hW N ca b I O J) t.heap) A) 0 0 A := by
  refine Met.ofW (cc := cX8_isBird) (maxL := 2) (ret := (some .boolean)) (by decide) rfl ?_
  intro p e s m args below meth c s₁ B hml hv
  obtain ⟨rfl, hP, hK, hA2, hth⟩ := hv
  have hx := B.exec
  have hb := B.bytes
  have hr := B.returns
  have hlk := B.notSynchronized
  have X : gCx p s m ([.ref (b 129), .int a1] : List Value).toArray c RX8 cX8_isBird wsX8_isBird 2 dC dI ca b A N := ⟨hx, hb, hml, findClass_of_methodNamed B.named, atoms_spec (ws := wsX8_isBird) B.pre, hK, hA, hA2, hth⟩
  have hi8 : ∀ w ∈ wsX80, w ∈ wsX8_isBird := (fun w h => List.mem_cons_of_mem _ (List.mem_append_right _ h))
  have hS : va_S A s.heap s.heap [] := va_S.rf
  have hl := lv_entry ([.ref (b 129), .int a1] : List Value) (n := 2) (Nat.le_of_ble_eq_true rfl)
  rw [lg_entry_eq]
  generalize (lg_sl ([.ref (b 129), .int a1] : List Value) ++ List.replicate (2 - (lg_sl ([.ref (b 129), .int a1] : List Value)).length) Slot.unset).toArray = ls at hl ⊢
  have hl : lv_has ls 2 [(0, .ref (b 129)), (1, .int a1)] := hl
  unfold f_X8_isBird at h
  refine lv_iload_n hx hb dX8_isBird_0 rfl (lv_at hl 1 rfl) ?_
  refine lv_iconst (v := 0) hx hb dX8_isBird_1 (by decide) ?_
  refine lv_aload_n hx hb dX8_isBird_2 rfl (lv_at hl 0 rfl) ?_
  refine gg8_0 X hP kc_129 (sk_in hN kc_129 (by decide)) hi8 (List.mem_of_getElem? (i := 1) rfl) dX8_isBird_3 ?_
  refine lv_sipush (v := 128) hx hb dX8_isBird_6 (by decide) ?_
  refine ga20 X hP kc_130 (sk_in hN kc_130 (by decide)) (L := 151) (by decide) (by decide) dX8_isBird_9 ?_
  refine lv_iconst (v := 1) hx hb dX8_isBird_10 (by decide) ?_
  refine lv_isub hx hb dX8_isBird_11 ?_
  obtain ⟨q2, hcq2, h⟩ := hb_some h
  refine gdS_i (As := [.int a1, .int (0 : Int32), .int ((I 130 ((128 : Int32).toNatClampNeg)) - (1 : Int32))]) (rest := []) (BH := (fun (u : Unit) H => va_P (dC, dI) vwCl (hW N ca b I O J) H)) X hP hS (c_X8_in hN hA I O J a1 (0 : Int32) ((I 130 ((128 : Int32).toNatClampNeg)) - (1 : Int32)) q2 hcq2) (va_cwS 3 X.ts gX8_isBird_X8_in rfl rfl rfl (by decide +kernel) ⟨Nat.le_of_ble_eq_true rfl, Nat.le_of_ble_eq_true rfl⟩) rfl hl.1 rfl (Nat.le_of_ble_eq_true rfl) dX8_isBird_12 ⟨Nat.le_of_ble_eq_true rfl, Nat.le_of_ble_eq_true rfl⟩ (fun r1 u9 H locs hw hP hS => ?_)
  have hw := hw.symm
  subst hw
  obtain ⟨hgz, h⟩ := hg_some h
  exact W.zret (ty := .boolean) hx hb hr (gz_nar hgz) (fun t9 ht hW => ⟨⟨r1, (), rfl, (Option.some.inj h).symm, gEnd ht hP⟩, hS.F ht⟩) hS.2.2 dX8_isBird_15 hlk
def f_X8_of (a1 : Int32) (a2 : Int32) (I : Nat → Nat → Int32) : Option (Int32) :=
  hg (gin (((16 : Int32) * a1) + a2) 151) <|
  some (I 130 ((((16 : Int32) * a1) + a2).toNatClampNeg))
set_option maxHeartbeats 8000000 in
set_option maxRecDepth 100000 in
theorem c_X8_of {l : Launch} {dC : Nat → ClassId} {dI : Nat → Nat → Nat} {ca : Nat → ClassId} {b : Nat → Nat} {A : Nat → Prop} {N : Nat} (hN : 138 ≤ N) (hA : gAd A b N) (I : Nat → Nat → Int32) (O : Nat → Nat → Option Nat) (J : Nat → Nat → Int64) (a1 : Int32) (a2 : Int32) (res : Int32) (h : f_X8_of a1 a2 I = some res) : Met l yX8_of wsX8_of ({ frames := 0, cells := 0, slots := 0, locals := 0 } : Room) (va_Pc [.ref (b 129), .int a1, .int a2] (gPre dC dI ca b A N I O J)) (va_Qi (fun (r : Int32) (u : Unit) => res = r) (fun (u : Unit) t => va_P (dC, dI) vwCl (hW N ca b I O J) t.heap) A) 0 0 A := by
  refine Met.ofW (cc := cX8_of) (maxL := 3) (ret := (some .int)) (by decide) rfl ?_
  intro p e s m args below meth c s₁ B hml hv
  obtain ⟨rfl, hP, hK, hA2, hth⟩ := hv
  have hx := B.exec
  have hb := B.bytes
  have hr := B.returns
  have hlk := B.notSynchronized
  have X : gCx p s m ([.ref (b 129), .int a1, .int a2] : List Value).toArray c RX8 cX8_of wsX8_of 3 dC dI ca b A N := ⟨hx, hb, hml, findClass_of_methodNamed B.named, atoms_spec (ws := wsX8_of) B.pre, hK, hA, hA2, hth⟩
  have hi8 : ∀ w ∈ wsX80, w ∈ wsX8_of := (fun w h => List.mem_cons_of_mem _ (List.mem_append_right _ h))
  have hS : va_S A s.heap s.heap [] := va_S.rf
  have hl := lv_entry ([.ref (b 129), .int a1, .int a2] : List Value) (n := 3) (Nat.le_of_ble_eq_true rfl)
  rw [lg_entry_eq]
  generalize (lg_sl ([.ref (b 129), .int a1, .int a2] : List Value) ++ List.replicate (3 - (lg_sl ([.ref (b 129), .int a1, .int a2] : List Value)).length) Slot.unset).toArray = ls at hl ⊢
  have hl : lv_has ls 3 [(0, .ref (b 129)), (1, .int a1), (2, .int a2)] := hl
  unfold f_X8_of at h
  refine lv_aload_n hx hb dX8_of_0 rfl (lv_at hl 0 rfl) ?_
  refine gg8_0 X hP kc_129 (sk_in hN kc_129 (by decide)) hi8 (List.mem_of_getElem? (i := 1) rfl) dX8_of_1 ?_
  refine lv_bipush (v := 16) hx hb dX8_of_4 (by decide) ?_
  refine lv_iload_n hx hb dX8_of_6 rfl (lv_at hl 1 rfl) ?_
  refine lv_imul hx hb dX8_of_7 ?_
  refine lv_iload_n hx hb dX8_of_8 rfl (lv_at hl 2 rfl) ?_
  refine lv_iadd hx hb dX8_of_9 ?_
  obtain ⟨hgi1, h⟩ := hg_some h
  refine ga20 X hP kc_130 (sk_in hN kc_130 (by decide)) (L := 151) (by decide) hgi1 dX8_of_10 ?_
  exact W.iret hx hb hr (fun t9 ht hW => ⟨⟨(I 130 ((((16 : Int32) * a1) + a2).toNatClampNeg)), (), rfl, (Option.some.inj h).symm, gEnd ht hP⟩, hS.F ht⟩) hS.2.2 dX8_of_11 hlk
def f_X8_flies (a1 : Int32) (I : Nat → Nat → Int32) : Option (Int32) :=
  (f_X8_of a1 (6 : Int32) I).bind fun r1 =>
  if r1 = (1 : Int32) then
    some (1 : Int32)
  else
    some (0 : Int32)
set_option maxHeartbeats 8000000 in
set_option maxRecDepth 100000 in
theorem c_X8_flies {l : Launch} {dC : Nat → ClassId} {dI : Nat → Nat → Nat} {ca : Nat → ClassId} {b : Nat → Nat} {A : Nat → Prop} {N : Nat} (hN : 138 ≤ N) (hA : gAd A b N) (I : Nat → Nat → Int32) (O : Nat → Nat → Option Nat) (J : Nat → Nat → Int64) (a1 : Int32) (res : Int32) (h : f_X8_flies a1 I = some res) : Met l yX8_flies wsX8_flies ({ frames := 1, cells := 0, slots := 0, locals := 22 } : Room) (va_Pc [.ref (b 129), .int a1] (gPre dC dI ca b A N I O J)) (va_Qi (fun (r : Int32) (u : Unit) => res = r) (fun (u : Unit) t => va_P (dC, dI) vwCl (hW N ca b I O J) t.heap) A) 0 0 A := by
  refine Met.ofW (cc := cX8_flies) (maxL := 2) (ret := (some .boolean)) (by decide) rfl ?_
  intro p e s m args below meth c s₁ B hml hv
  obtain ⟨rfl, hP, hK, hA2, hth⟩ := hv
  have hx := B.exec
  have hb := B.bytes
  have hr := B.returns
  have hlk := B.notSynchronized
  have X : gCx p s m ([.ref (b 129), .int a1] : List Value).toArray c RX8 cX8_flies wsX8_flies 2 dC dI ca b A N := ⟨hx, hb, hml, findClass_of_methodNamed B.named, atoms_spec (ws := wsX8_flies) B.pre, hK, hA, hA2, hth⟩
  have hS : va_S A s.heap s.heap [] := va_S.rf
  have hl := lv_entry ([.ref (b 129), .int a1] : List Value) (n := 2) (Nat.le_of_ble_eq_true rfl)
  rw [lg_entry_eq]
  generalize (lg_sl ([.ref (b 129), .int a1] : List Value) ++ List.replicate (2 - (lg_sl ([.ref (b 129), .int a1] : List Value)).length) Slot.unset).toArray = ls at hl ⊢
  have hl : lv_has ls 2 [(0, .ref (b 129)), (1, .int a1)] := hl
  unfold f_X8_flies at h
  refine lv_aload_n hx hb dX8_flies_0 rfl (lv_at hl 0 rfl) ?_
  refine lv_iload_n hx hb dX8_flies_1 rfl (lv_at hl 1 rfl) ?_
  refine lv_bipush (v := 6) hx hb dX8_flies_2 (by decide) ?_
  obtain ⟨q2, hcq2, h⟩ := hb_some h
  refine gdV_i (As := [.int a1, .int (6 : Int32)]) (rest := []) (BH := (fun (u : Unit) H => va_P (dC, dI) vwCl (hW N ca b I O J) H)) X hP hS (c_X8_of hN hA I O J a1 (6 : Int32) q2 hcq2) (cwV 2 X.ts gX8_flies_X8_of rfl rfl rfl (by decide +kernel) ⟨Nat.le_of_ble_eq_true rfl, Nat.le_of_ble_eq_true rfl⟩) (gr8 X hP kc_129 (sk_in hN kc_129 (by decide))) rfl hl.1 rfl (Nat.le_of_ble_eq_true rfl) dX8_flies_4 ⟨Nat.le_of_ble_eq_true rfl, Nat.le_of_ble_eq_true rfl⟩ (fun r1 u9 H locs hw hP hS => ?_)
  have hw := hw.symm
  subst hw
  refine lv_iconst (v := 1) hx hb dX8_flies_7 (by decide) ?_
  refine lv_icmp_ne (tgt := 15) hx hb dX8_flies_8 (by decide) (fun c3 => ?_) (fun c3 => ?_)
  · have h := gif_f c3 h
    refine lv_iconst (v := 0) hx hb dX8_flies_15 (by decide) ?_
    exact W.zret (ty := .boolean) hx hb hr (by decide) (fun t9 ht hW => ⟨⟨(0 : Int32), (), rfl, (Option.some.inj h).symm, gEnd ht hP⟩, hS.F ht⟩) hS.2.2 dX8_flies_16 hlk
  · have h := gif_t c3 h
    refine lv_iconst (v := 1) hx hb dX8_flies_11 (by decide) ?_
    refine lv_goto (tgt := 16) hx hb dX8_flies_12 (by decide) ?_
    exact W.zret (ty := .boolean) hx hb hr (by decide) (fun t9 ht hW => ⟨⟨(1 : Int32), (), rfl, (Option.some.inj h).symm, gEnd ht hP⟩, hS.F ht⟩) hS.2.2 dX8_flies_16 hlk
def f_X8_isOver (a1 : Int32) (I : Nat → Nat → Int32) : Option (Int32) :=
  (f_X8_of a1 (6 : Int32) I).bind fun r1 =>
  if r1 = (3 : Int32) then
    some (1 : Int32)
  else
    some (0 : Int32)
set_option maxHeartbeats 8000000 in
set_option maxRecDepth 100000 in
theorem c_X8_isOver {l : Launch} {dC : Nat → ClassId} {dI : Nat → Nat → Nat} {ca : Nat → ClassId} {b : Nat → Nat} {A : Nat → Prop} {N : Nat} (hN : 138 ≤ N) (hA : gAd A b N) (I : Nat → Nat → Int32) (O : Nat → Nat → Option Nat) (J : Nat → Nat → Int64) (a1 : Int32) (res : Int32) (h : f_X8_isOver a1 I = some res) : Met l yX8_isOver wsX8_isOver ({ frames := 1, cells := 0, slots := 0, locals := 22 } : Room) (va_Pc [.ref (b 129), .int a1] (gPre dC dI ca b A N I O J)) (va_Qi (fun (r : Int32) (u : Unit) => res = r) (fun (u : Unit) t => va_P (dC, dI) vwCl (hW N ca b I O J) t.heap) A) 0 0 A := by
  refine Met.ofW (cc := cX8_isOver) (maxL := 2) (ret := (some .boolean)) (by decide) rfl ?_
  intro p e s m args below meth c s₁ B hml hv
  obtain ⟨rfl, hP, hK, hA2, hth⟩ := hv
  have hx := B.exec
  have hb := B.bytes
  have hr := B.returns
  have hlk := B.notSynchronized
  have X : gCx p s m ([.ref (b 129), .int a1] : List Value).toArray c RX8 cX8_isOver wsX8_isOver 2 dC dI ca b A N := ⟨hx, hb, hml, findClass_of_methodNamed B.named, atoms_spec (ws := wsX8_isOver) B.pre, hK, hA, hA2, hth⟩
  have hS : va_S A s.heap s.heap [] := va_S.rf
  have hl := lv_entry ([.ref (b 129), .int a1] : List Value) (n := 2) (Nat.le_of_ble_eq_true rfl)
  rw [lg_entry_eq]
  generalize (lg_sl ([.ref (b 129), .int a1] : List Value) ++ List.replicate (2 - (lg_sl ([.ref (b 129), .int a1] : List Value)).length) Slot.unset).toArray = ls at hl ⊢
  have hl : lv_has ls 2 [(0, .ref (b 129)), (1, .int a1)] := hl
  unfold f_X8_isOver at h
  refine lv_aload_n hx hb dX8_isOver_0 rfl (lv_at hl 0 rfl) ?_
  refine lv_iload_n hx hb dX8_isOver_1 rfl (lv_at hl 1 rfl) ?_
  refine lv_bipush (v := 6) hx hb dX8_isOver_2 (by decide) ?_
  obtain ⟨q2, hcq2, h⟩ := hb_some h
  refine gdV_i (As := [.int a1, .int (6 : Int32)]) (rest := []) (BH := (fun (u : Unit) H => va_P (dC, dI) vwCl (hW N ca b I O J) H)) X hP hS (c_X8_of hN hA I O J a1 (6 : Int32) q2 hcq2) (cwV 2 X.ts gX8_isOver_X8_of rfl rfl rfl (by decide +kernel) ⟨Nat.le_of_ble_eq_true rfl, Nat.le_of_ble_eq_true rfl⟩) (gr8 X hP kc_129 (sk_in hN kc_129 (by decide))) rfl hl.1 rfl (Nat.le_of_ble_eq_true rfl) dX8_isOver_4 ⟨Nat.le_of_ble_eq_true rfl, Nat.le_of_ble_eq_true rfl⟩ (fun r1 u9 H locs hw hP hS => ?_)
  have hw := hw.symm
  subst hw
  refine lv_iconst (v := 3) hx hb dX8_isOver_7 (by decide) ?_
  refine lv_icmp_ne (tgt := 15) hx hb dX8_isOver_8 (by decide) (fun c3 => ?_) (fun c3 => ?_)
  · have h := gif_f c3 h
    refine lv_iconst (v := 0) hx hb dX8_isOver_15 (by decide) ?_
    exact W.zret (ty := .boolean) hx hb hr (by decide) (fun t9 ht hW => ⟨⟨(0 : Int32), (), rfl, (Option.some.inj h).symm, gEnd ht hP⟩, hS.F ht⟩) hS.2.2 dX8_isOver_16 hlk
  · have h := gif_t c3 h
    refine lv_iconst (v := 1) hx hb dX8_isOver_11 (by decide) ?_
    refine lv_goto (tgt := 16) hx hb dX8_isOver_12 (by decide) ?_
    exact W.zret (ty := .boolean) hx hb hr (by decide) (fun t9 ht hW => ⟨⟨(1 : Int32), (), rfl, (Option.some.inj h).symm, gEnd ht hP⟩, hS.F ht⟩) hS.2.2 dX8_isOver_16 hlk
def f_X8_records_L52 : Nat → Int32 → (Nat → Nat → Int32) → Option (Nat → Nat → Int32)
  | 0, _, _ => none
  | fuel + 1, p2, I3 =>
    if (151 : Int32) ≤ p2 then
      some I3
    else
      hg (gin p2 151) <|
      hg (gin (((151 : Int32) * (I3 129 3)) + p2) 906) <|
      hlet (gup I3 132 ((((151 : Int32) * (I3 129 3)) + p2).toNatClampNeg) (I3 130 (p2.toNatClampNeg))) fun I8 =>
      hlet (p2 + 1) fun x9 =>
      f_X8_records_L52 fuel x9 I8
def f_X8_records_L11 : Nat → Int32 → (Nat → Nat → Int32) → Option (Nat → Nat → Int32)
  | 0, _, _ => none
  | fuel + 1, p11, I12 =>
    if (755 : Int32) ≤ p11 then
      some I12
    else
      hg (gin ((151 : Int32) + p11) 906) <|
      hg (gin p11 906) <|
      hlet (gup I12 132 (p11.toNatClampNeg) (I12 132 (((151 : Int32) + p11).toNatClampNeg))) fun I17 =>
      hlet (p11 + 1) fun x18 =>
      f_X8_records_L11 fuel x18 I17
def f_X8_records (I : Nat → Nat → Int32) : Option (Nat → Nat → Int32) :=
  (show Option (Nat → Nat → Int32) from
    if (I 129 3) = (6 : Int32) then
      (f_X8_records_L11  FU (0 : Int32) I).bind fun I13 =>
      hlet (gup I13 129 3 ((I13 129 3) - (1 : Int32))) fun I14 =>
      some I14
    else
      some I).bind fun I1 =>
  (f_X8_records_L52  FU (0 : Int32) I1).bind fun I4 =>
  hlet (gup I4 129 3 ((I4 129 3) + (1 : Int32))) fun I5 =>
  some I5
set_option maxHeartbeats 8000000 in
set_option maxRecDepth 100000 in
theorem c_X8_records {l : Launch} {dC : Nat → ClassId} {dI : Nat → Nat → Nat} {ca : Nat → ClassId} {b : Nat → Nat} {A : Nat → Prop} {N : Nat} (hN : 138 ≤ N) (hA : gAd A b N) (I : Nat → Nat → Int32) (O : Nat → Nat → Option Nat) (J : Nat → Nat → Int64) (res : Nat → Nat → Int32) (h : f_X8_records I = some res) : Met l yX8_records wsX8_records ({ frames := 0, cells := 0, slots := 0, locals := 0 } : Room) (va_Pc [.ref (b 129)] (gPre dC dI ca b A N I O J)) (va_Qv (fun (u : Nat → Nat → Int32) => res = u) (fun (u : Nat → Nat → Int32) t => va_P (dC, dI) vwCl (hW N ca b u O J) t.heap) A) 0 0 A := by
  refine Met.ofW (cc := cX8_records) (maxL := 2) (ret := none) (by decide) rfl ?_
  intro p e s m args below meth c s₁ B hml hv
  obtain ⟨rfl, hP, hK, hA2, hth⟩ := hv
  have hx := B.exec
  have hb := B.bytes
  have hr := B.returns
  have hlk := B.notSynchronized
  have X : gCx p s m ([.ref (b 129)] : List Value).toArray c RX8 cX8_records wsX8_records 2 dC dI ca b A N := ⟨hx, hb, hml, findClass_of_methodNamed B.named, atoms_spec (ws := wsX8_records) B.pre, hK, hA, hA2, hth⟩
  have hi8 : ∀ w ∈ wsX80, w ∈ wsX8_records := (fun w h => List.mem_cons_of_mem _ (List.mem_append_right _ h))
  have hS : va_S A s.heap s.heap [] := va_S.rf
  have hl := lv_entry ([.ref (b 129)] : List Value) (n := 2) (Nat.le_of_ble_eq_true rfl)
  rw [lg_entry_eq]
  generalize (lg_sl ([.ref (b 129)] : List Value) ++ List.replicate (2 - (lg_sl ([.ref (b 129)] : List Value)).length) Slot.unset).toArray = ls at hl ⊢
  have hl : lv_has ls 2 [(0, .ref (b 129))] := hl
  unfold f_X8_records at h
  refine lv_aload_n hx hb dX8_records_0 rfl (lv_at hl 0 rfl) ?_
  refine gg8_3 X hP kc_129 (sk_in hN kc_129 (by decide)) hi8 (List.mem_of_getElem? (i := 1) rfl) dX8_records_1 ?_
  refine lv_bipush (v := 6) hx hb dX8_records_4 (by decide) ?_
  obtain ⟨I1, hv, h⟩ := hb_some h
  have K50 : ∀ (H : Heap) (locs : List Loc) (ls : Array Slot), va_P (dC, dI) vwCl (hW N ca b I1 O J) H → va_S A s.heap H locs → lv_has ls 2 [(0, .ref (b 129))] → W p l e (headSpec wsX8_records ({ frames := 0, cells := 0, slots := 0, locals := 0 } : Room)).room s m ([.ref (b 129)] : List Value).toArray below meth c H locs 0 0 (MQ below (va_Qv (fun (u : Nat → Nat → Int32) => res = u) (fun (u : Nat → Nat → Int32) t => va_P (dC, dI) vwCl (hW N ca b u O J) t.heap) A) ([.ref (b 129)] : List Value).toArray s 0 0 A) (F0 m 50 ls []) := by
    intro H locs ls hP hS hl
    refine lv_iconst (v := 0) hx hb dX8_records_50 (by decide) ?_
    refine lv_istore_n (lv' := [(1, .int (0 : Int32)), (0, .ref (b 129))]) hx hb dX8_records_51 rfl hl (by decide) rfl (fun ls hl => ?_)
    obtain ⟨I4, hv, h⟩ := hb_some h
    have K86 : ∀ (H : Heap) (locs : List Loc) (ls : Array Slot), va_P (dC, dI) vwCl (hW N ca b I4 O J) H → va_S A s.heap H locs → lv_has ls 2 [(0, .ref (b 129))] → W p l e (headSpec wsX8_records ({ frames := 0, cells := 0, slots := 0, locals := 0 } : Room)).room s m ([.ref (b 129)] : List Value).toArray below meth c H locs 0 0 (MQ below (va_Qv (fun (u : Nat → Nat → Int32) => res = u) (fun (u : Nat → Nat → Int32) t => va_P (dC, dI) vwCl (hW N ca b u O J) t.heap) A) ([.ref (b 129)] : List Value).toArray s 0 0 A) (F0 m 86 ls []) := by
      intro H locs ls hP hS hl
      refine lv_aload_n hx hb dX8_records_86 rfl (lv_at hl 0 rfl) ?_
      refine lv_dup hx hb dX8_records_87 rfl ?_
      refine gg8_3 X hP kc_129 (sk_in hN kc_129 (by decide)) hi8 (List.mem_of_getElem? (i := 1) rfl) dX8_records_88 ?_
      refine lv_iconst (v := 1) hx hb dX8_records_91 (by decide) ?_
      refine lv_iadd hx hb dX8_records_92 ?_
      refine gp8_3 X hP hS kc_129 (sk_in hN kc_129 (by decide)) hi8 (List.mem_of_getElem? (i := 1) rfl) dX8_records_93 (fun H locs hP hS => ?_)
      obtain ⟨I5, eI5, h⟩ := hlet_ex h
      rw [← eI5] at hP
      exact W.vret hx hb hr (fun t9 ht hW => ⟨⟨I5, rfl, (Option.some.inj h).symm, gEnd ht hP⟩, hS.F ht⟩) hS.2.2 dX8_records_96 hlk
    have hL52 : ∀ (fuel : Nat) (p2 : Int32) (I3 : Nat → Nat → Int32) (H : Heap) (locs : List Loc) (ls : Array Slot), f_X8_records_L52  fuel p2 I3 = some I4 → va_P (dC, dI) vwCl (hW N ca b I3 O J) H → va_S A s.heap H locs → lv_has ls 2 [(0, .ref (b 129)), (1, .int p2)] → W p l e (headSpec wsX8_records ({ frames := 0, cells := 0, slots := 0, locals := 0 } : Room)).room s m ([.ref (b 129)] : List Value).toArray below meth c H locs 0 0 (MQ below (va_Qv (fun (u : Nat → Nat → Int32) => res = u) (fun (u : Nat → Nat → Int32) t => va_P (dC, dI) vwCl (hW N ca b u O J) t.heap) A) ([.ref (b 129)] : List Value).toArray s 0 0 A) (F0 m 52 ls []) := by
      intro fuel
      induction fuel with
      | zero =>
        intro p2 I3 H locs ls h hP hS hl
        rw [f_X8_records_L52] at h
        cases h
      | succ fuel ih =>
        intro p2 I3 H locs ls h hP hS hl
        rw [f_X8_records_L52] at h
        refine lv_iload_n hx hb dX8_records_52 rfl (lv_at hl 1 rfl) ?_
        refine lv_sipush (v := 151) hx hb dX8_records_53 (by decide) ?_
        refine lv_icmp_ge (tgt := 86) hx hb dX8_records_56 (by decide) (fun c10 => ?_) (fun c10 => ?_)
        · have h := gif_t c10 h
          cases h
          exact K86 _ _ _ hP hS (lv_sub hl [0] rfl)
        · have h := gif_f c10 h
          refine lv_aload_n hx hb dX8_records_59 rfl (lv_at hl 0 rfl) ?_
          refine gg8_2 X hP kc_129 (sk_in hN kc_129 (by decide)) hi8 (List.mem_of_getElem? (i := 2) rfl) dX8_records_60 ?_
          refine lv_sipush (v := 151) hx hb dX8_records_63 (by decide) ?_
          refine lv_aload_n hx hb dX8_records_66 rfl (lv_at hl 0 rfl) ?_
          refine gg8_3 X hP kc_129 (sk_in hN kc_129 (by decide)) hi8 (List.mem_of_getElem? (i := 1) rfl) dX8_records_67 ?_
          refine lv_imul hx hb dX8_records_70 ?_
          refine lv_iload_n hx hb dX8_records_71 rfl (lv_at hl 1 rfl) ?_
          refine lv_iadd hx hb dX8_records_72 ?_
          refine lv_aload_n hx hb dX8_records_73 rfl (lv_at hl 0 rfl) ?_
          refine gg8_0 X hP kc_129 (sk_in hN kc_129 (by decide)) hi8 (List.mem_of_getElem? (i := 3) rfl) dX8_records_74 ?_
          refine lv_iload_n hx hb dX8_records_77 rfl (lv_at hl 1 rfl) ?_
          obtain ⟨hgi6, h⟩ := hg_some h
          refine ga20 X hP kc_130 (sk_in hN kc_130 (by decide)) (L := 151) (by decide) hgi6 dX8_records_78 ?_
          obtain ⟨hgi7, h⟩ := hg_some h
          refine gs20 X hP hS kc_132 (sk_in hN kc_132 (by decide)) (L := 906) (by decide) hgi7 dX8_records_79 (fun H locs hP hS => ?_)
          obtain ⟨I8, eI8, h⟩ := hlet_ex h
          rw [← eI8] at hP
          obtain ⟨x9, ex9, h⟩ := hlet_ex h
          refine lv_iinc (v := x9) (lv' := [(1, .int x9), (0, .ref (b 129))]) hx hb dX8_records_80 hl (k := 1) rfl (by rw [ex9]; rfl) (by decide) rfl (fun ls hl => ?_)
          refine lv_goto (tgt := 52) hx hb dX8_records_83 (by decide) ?_
          exact ih _ _ _ _ _ h hP hS (lv_sub hl [1, 0] rfl)
    exact hL52 FU _ _ _ _ _ hv hP hS (lv_sub hl [1, 0] rfl)
  have h := hv
  refine lv_icmp_ne (tgt := 50) hx hb dX8_records_6 (by decide) (fun c20 => ?_) (fun c20 => ?_)
  · have h := gif_f c20 h
    cases h
    exact K50 _ _ _ hP hS (lv_sub hl [0] rfl)
  · have h := gif_t c20 h
    refine lv_iconst (v := 0) hx hb dX8_records_9 (by decide) ?_
    refine lv_istore_n (lv' := [(1, .int (0 : Int32)), (0, .ref (b 129))]) hx hb dX8_records_10 rfl hl (by decide) rfl (fun ls hl => ?_)
    obtain ⟨I13, hv, h⟩ := hb_some h
    have K40 : ∀ (H : Heap) (locs : List Loc) (ls : Array Slot), va_P (dC, dI) vwCl (hW N ca b I13 O J) H → va_S A s.heap H locs → lv_has ls 2 [(0, .ref (b 129))] → W p l e (headSpec wsX8_records ({ frames := 0, cells := 0, slots := 0, locals := 0 } : Room)).room s m ([.ref (b 129)] : List Value).toArray below meth c H locs 0 0 (MQ below (va_Qv (fun (u : Nat → Nat → Int32) => res = u) (fun (u : Nat → Nat → Int32) t => va_P (dC, dI) vwCl (hW N ca b u O J) t.heap) A) ([.ref (b 129)] : List Value).toArray s 0 0 A) (F0 m 40 ls []) := by
      intro H locs ls hP hS hl
      refine lv_aload_n hx hb dX8_records_40 rfl (lv_at hl 0 rfl) ?_
      refine lv_dup hx hb dX8_records_41 rfl ?_
      refine gg8_3 X hP kc_129 (sk_in hN kc_129 (by decide)) hi8 (List.mem_of_getElem? (i := 1) rfl) dX8_records_42 ?_
      refine lv_iconst (v := 1) hx hb dX8_records_45 (by decide) ?_
      refine lv_isub hx hb dX8_records_46 ?_
      refine gp8_3 X hP hS kc_129 (sk_in hN kc_129 (by decide)) hi8 (List.mem_of_getElem? (i := 1) rfl) dX8_records_47 (fun H locs hP hS => ?_)
      obtain ⟨I14, eI14, h⟩ := hlet_ex h
      rw [← eI14] at hP
      cases h
      exact K50 _ _ _ hP hS (lv_sub hl [0] rfl)
    have hL11 : ∀ (fuel : Nat) (p11 : Int32) (I12 : Nat → Nat → Int32) (H : Heap) (locs : List Loc) (ls : Array Slot), f_X8_records_L11  fuel p11 I12 = some I13 → va_P (dC, dI) vwCl (hW N ca b I12 O J) H → va_S A s.heap H locs → lv_has ls 2 [(0, .ref (b 129)), (1, .int p11)] → W p l e (headSpec wsX8_records ({ frames := 0, cells := 0, slots := 0, locals := 0 } : Room)).room s m ([.ref (b 129)] : List Value).toArray below meth c H locs 0 0 (MQ below (va_Qv (fun (u : Nat → Nat → Int32) => res = u) (fun (u : Nat → Nat → Int32) t => va_P (dC, dI) vwCl (hW N ca b u O J) t.heap) A) ([.ref (b 129)] : List Value).toArray s 0 0 A) (F0 m 11 ls []) := by
      intro fuel
      induction fuel with
      | zero =>
        intro p11 I12 H locs ls h hP hS hl
        rw [f_X8_records_L11] at h
        cases h
      | succ fuel ih =>
        intro p11 I12 H locs ls h hP hS hl
        rw [f_X8_records_L11] at h
        refine lv_iload_n hx hb dX8_records_11 rfl (lv_at hl 1 rfl) ?_
        refine lv_sipush (v := 755) hx hb dX8_records_12 (by decide) ?_
        refine lv_icmp_ge (tgt := 40) hx hb dX8_records_15 (by decide) (fun c19 => ?_) (fun c19 => ?_)
        · have h := gif_t c19 h
          cases h
          exact K40 _ _ _ hP hS (lv_sub hl [0] rfl)
        · have h := gif_f c19 h
          refine lv_aload_n hx hb dX8_records_18 rfl (lv_at hl 0 rfl) ?_
          refine gg8_2 X hP kc_129 (sk_in hN kc_129 (by decide)) hi8 (List.mem_of_getElem? (i := 2) rfl) dX8_records_19 ?_
          refine lv_iload_n hx hb dX8_records_22 rfl (lv_at hl 1 rfl) ?_
          refine lv_aload_n hx hb dX8_records_23 rfl (lv_at hl 0 rfl) ?_
          refine gg8_2 X hP kc_129 (sk_in hN kc_129 (by decide)) hi8 (List.mem_of_getElem? (i := 2) rfl) dX8_records_24 ?_
          refine lv_sipush (v := 151) hx hb dX8_records_27 (by decide) ?_
          refine lv_iload_n hx hb dX8_records_30 rfl (lv_at hl 1 rfl) ?_
          refine lv_iadd hx hb dX8_records_31 ?_
          obtain ⟨hgi15, h⟩ := hg_some h
          refine ga20 X hP kc_132 (sk_in hN kc_132 (by decide)) (L := 906) (by decide) hgi15 dX8_records_32 ?_
          obtain ⟨hgi16, h⟩ := hg_some h
          refine gs20 X hP hS kc_132 (sk_in hN kc_132 (by decide)) (L := 906) (by decide) hgi16 dX8_records_33 (fun H locs hP hS => ?_)
          obtain ⟨I17, eI17, h⟩ := hlet_ex h
          rw [← eI17] at hP
          obtain ⟨x18, ex18, h⟩ := hlet_ex h
          refine lv_iinc (v := x18) (lv' := [(1, .int x18), (0, .ref (b 129))]) hx hb dX8_records_34 hl (k := 1) rfl (by rw [ex18]; rfl) (by decide) rfl (fun ls hl => ?_)
          refine lv_goto (tgt := 11) hx hb dX8_records_37 (by decide) ?_
          exact ih _ _ _ _ _ h hP hS (lv_sub hl [1, 0] rfl)
    exact hL11 FU _ _ _ _ _ hv hP hS (lv_sub hl [1, 0] rfl)
def f_X8_putAside_L2 : Nat → Int32 → (Nat → Nat → Int32) → Option (Nat → Nat → Int32)
  | 0, _, _ => none
  | fuel + 1, p1, I2 =>
    if (151 : Int32) ≤ p1 then
      some I2
    else
      hg (gin p1 151) <|
      hg (gin p1 151) <|
      hlet (gup I2 131 (p1.toNatClampNeg) (I2 130 (p1.toNatClampNeg))) fun I6 =>
      hlet (p1 + 1) fun x7 =>
      f_X8_putAside_L2 fuel x7 I6
def f_X8_putAside (I : Nat → Nat → Int32) : Option (Nat → Nat → Int32) :=
  (f_X8_putAside_L2  FU (0 : Int32) I).bind fun I3 =>
  some I3
set_option maxHeartbeats 8000000 in
set_option maxRecDepth 100000 in
theorem c_X8_putAside {l : Launch} {dC : Nat → ClassId} {dI : Nat → Nat → Nat} {ca : Nat → ClassId} {b : Nat → Nat} {A : Nat → Prop} {N : Nat} (hN : 138 ≤ N) (hA : gAd A b N) (I : Nat → Nat → Int32) (O : Nat → Nat → Option Nat) (J : Nat → Nat → Int64) (res : Nat → Nat → Int32) (h : f_X8_putAside I = some res) : Met l yX8_putAside wsX8_putAside ({ frames := 0, cells := 0, slots := 0, locals := 0 } : Room) (va_Pc [.ref (b 129)] (gPre dC dI ca b A N I O J)) (va_Qv (fun (u : Nat → Nat → Int32) => res = u) (fun (u : Nat → Nat → Int32) t => va_P (dC, dI) vwCl (hW N ca b u O J) t.heap) A) 0 0 A := by
  refine Met.ofW (cc := cX8_putAside) (maxL := 2) (ret := none) (by decide) rfl ?_
  intro p e s m args below meth c s₁ B hml hv
  obtain ⟨rfl, hP, hK, hA2, hth⟩ := hv
  have hx := B.exec
  have hb := B.bytes
  have hr := B.returns
  have hlk := B.notSynchronized
  have X : gCx p s m ([.ref (b 129)] : List Value).toArray c RX8 cX8_putAside wsX8_putAside 2 dC dI ca b A N := ⟨hx, hb, hml, findClass_of_methodNamed B.named, atoms_spec (ws := wsX8_putAside) B.pre, hK, hA, hA2, hth⟩
  have hi8 : ∀ w ∈ wsX80, w ∈ wsX8_putAside := (fun w h => List.mem_cons_of_mem _ (List.mem_append_right _ h))
  have hS : va_S A s.heap s.heap [] := va_S.rf
  have hl := lv_entry ([.ref (b 129)] : List Value) (n := 2) (Nat.le_of_ble_eq_true rfl)
  rw [lg_entry_eq]
  generalize (lg_sl ([.ref (b 129)] : List Value) ++ List.replicate (2 - (lg_sl ([.ref (b 129)] : List Value)).length) Slot.unset).toArray = ls at hl ⊢
  have hl : lv_has ls 2 [(0, .ref (b 129))] := hl
  unfold f_X8_putAside at h
  refine lv_iconst (v := 0) hx hb dX8_putAside_0 (by decide) ?_
  refine lv_istore_n (lv' := [(1, .int (0 : Int32)), (0, .ref (b 129))]) hx hb dX8_putAside_1 rfl hl (by decide) rfl (fun ls hl => ?_)
  obtain ⟨I3, hv, h⟩ := hb_some h
  have K27 : ∀ (H : Heap) (locs : List Loc) (ls : Array Slot), va_P (dC, dI) vwCl (hW N ca b I3 O J) H → va_S A s.heap H locs → lv_has ls 2 [] → W p l e (headSpec wsX8_putAside ({ frames := 0, cells := 0, slots := 0, locals := 0 } : Room)).room s m ([.ref (b 129)] : List Value).toArray below meth c H locs 0 0 (MQ below (va_Qv (fun (u : Nat → Nat → Int32) => res = u) (fun (u : Nat → Nat → Int32) t => va_P (dC, dI) vwCl (hW N ca b u O J) t.heap) A) ([.ref (b 129)] : List Value).toArray s 0 0 A) (F0 m 27 ls []) := by
    intro H locs ls hP hS hl
    exact W.vret hx hb hr (fun t9 ht hW => ⟨⟨I3, rfl, (Option.some.inj h).symm, gEnd ht hP⟩, hS.F ht⟩) hS.2.2 dX8_putAside_27 hlk
  have hL2 : ∀ (fuel : Nat) (p1 : Int32) (I2 : Nat → Nat → Int32) (H : Heap) (locs : List Loc) (ls : Array Slot), f_X8_putAside_L2  fuel p1 I2 = some I3 → va_P (dC, dI) vwCl (hW N ca b I2 O J) H → va_S A s.heap H locs → lv_has ls 2 [(0, .ref (b 129)), (1, .int p1)] → W p l e (headSpec wsX8_putAside ({ frames := 0, cells := 0, slots := 0, locals := 0 } : Room)).room s m ([.ref (b 129)] : List Value).toArray below meth c H locs 0 0 (MQ below (va_Qv (fun (u : Nat → Nat → Int32) => res = u) (fun (u : Nat → Nat → Int32) t => va_P (dC, dI) vwCl (hW N ca b u O J) t.heap) A) ([.ref (b 129)] : List Value).toArray s 0 0 A) (F0 m 2 ls []) := by
    intro fuel
    induction fuel with
    | zero =>
      intro p1 I2 H locs ls h hP hS hl
      rw [f_X8_putAside_L2] at h
      cases h
    | succ fuel ih =>
      intro p1 I2 H locs ls h hP hS hl
      rw [f_X8_putAside_L2] at h
      refine lv_iload_n hx hb dX8_putAside_2 rfl (lv_at hl 1 rfl) ?_
      refine lv_sipush (v := 151) hx hb dX8_putAside_3 (by decide) ?_
      refine lv_icmp_ge (tgt := 27) hx hb dX8_putAside_6 (by decide) (fun c8 => ?_) (fun c8 => ?_)
      · have h := gif_t c8 h
        cases h
        exact K27 _ _ _ hP hS (lv_sub hl [] rfl)
      · have h := gif_f c8 h
        refine lv_aload_n hx hb dX8_putAside_9 rfl (lv_at hl 0 rfl) ?_
        refine gg8_1 X hP kc_129 (sk_in hN kc_129 (by decide)) hi8 (List.mem_of_getElem? (i := 1) rfl) dX8_putAside_10 ?_
        refine lv_iload_n hx hb dX8_putAside_13 rfl (lv_at hl 1 rfl) ?_
        refine lv_aload_n hx hb dX8_putAside_14 rfl (lv_at hl 0 rfl) ?_
        refine gg8_0 X hP kc_129 (sk_in hN kc_129 (by decide)) hi8 (List.mem_of_getElem? (i := 2) rfl) dX8_putAside_15 ?_
        refine lv_iload_n hx hb dX8_putAside_18 rfl (lv_at hl 1 rfl) ?_
        obtain ⟨hgi4, h⟩ := hg_some h
        refine ga20 X hP kc_130 (sk_in hN kc_130 (by decide)) (L := 151) (by decide) hgi4 dX8_putAside_19 ?_
        obtain ⟨hgi5, h⟩ := hg_some h
        refine gs20 X hP hS kc_131 (sk_in hN kc_131 (by decide)) (L := 151) (by decide) hgi5 dX8_putAside_20 (fun H locs hP hS => ?_)
        obtain ⟨I6, eI6, h⟩ := hlet_ex h
        rw [← eI6] at hP
        obtain ⟨x7, ex7, h⟩ := hlet_ex h
        refine lv_iinc (v := x7) (lv' := [(1, .int x7), (0, .ref (b 129))]) hx hb dX8_putAside_21 hl (k := 1) rfl (by rw [ex7]; rfl) (by decide) rfl (fun ls hl => ?_)
        refine lv_goto (tgt := 2) hx hb dX8_putAside_24 (by decide) ?_
        exact ih _ _ _ _ _ h hP hS (lv_sub hl [1, 0] rfl)
  exact hL2 FU _ _ _ _ _ hv hP hS (lv_sub hl [1, 0] rfl)
def f_X8_putBack_L2 : Nat → Int32 → (Nat → Nat → Int32) → Option (Nat → Nat → Int32)
  | 0, _, _ => none
  | fuel + 1, p1, I2 =>
    if (151 : Int32) ≤ p1 then
      some I2
    else
      hg (gin p1 151) <|
      hg (gin p1 151) <|
      hlet (gup I2 130 (p1.toNatClampNeg) (I2 131 (p1.toNatClampNeg))) fun I6 =>
      hlet (p1 + 1) fun x7 =>
      f_X8_putBack_L2 fuel x7 I6
def f_X8_putBack (I : Nat → Nat → Int32) : Option (Nat → Nat → Int32) :=
  (f_X8_putBack_L2  FU (0 : Int32) I).bind fun I3 =>
  some I3
set_option maxHeartbeats 8000000 in
set_option maxRecDepth 100000 in
theorem c_X8_putBack {l : Launch} {dC : Nat → ClassId} {dI : Nat → Nat → Nat} {ca : Nat → ClassId} {b : Nat → Nat} {A : Nat → Prop} {N : Nat} (hN : 138 ≤ N) (hA : gAd A b N) (I : Nat → Nat → Int32) (O : Nat → Nat → Option Nat) (J : Nat → Nat → Int64) (res : Nat → Nat → Int32) (h : f_X8_putBack I = some res) : Met l yX8_putBack wsX8_putBack ({ frames := 0, cells := 0, slots := 0, locals := 0 } : Room) (va_Pc [.ref (b 129)] (gPre dC dI ca b A N I O J)) (va_Qv (fun (u : Nat → Nat → Int32) => res = u) (fun (u : Nat → Nat → Int32) t => va_P (dC, dI) vwCl (hW N ca b u O J) t.heap) A) 0 0 A := by
  refine Met.ofW (cc := cX8_putBack) (maxL := 2) (ret := none) (by decide) rfl ?_
  intro p e s m args below meth c s₁ B hml hv
  obtain ⟨rfl, hP, hK, hA2, hth⟩ := hv
  have hx := B.exec
  have hb := B.bytes
  have hr := B.returns
  have hlk := B.notSynchronized
  have X : gCx p s m ([.ref (b 129)] : List Value).toArray c RX8 cX8_putBack wsX8_putBack 2 dC dI ca b A N := ⟨hx, hb, hml, findClass_of_methodNamed B.named, atoms_spec (ws := wsX8_putBack) B.pre, hK, hA, hA2, hth⟩
  have hi8 : ∀ w ∈ wsX80, w ∈ wsX8_putBack := (fun w h => List.mem_cons_of_mem _ (List.mem_append_right _ h))
  have hS : va_S A s.heap s.heap [] := va_S.rf
  have hl := lv_entry ([.ref (b 129)] : List Value) (n := 2) (Nat.le_of_ble_eq_true rfl)
  rw [lg_entry_eq]
  generalize (lg_sl ([.ref (b 129)] : List Value) ++ List.replicate (2 - (lg_sl ([.ref (b 129)] : List Value)).length) Slot.unset).toArray = ls at hl ⊢
  have hl : lv_has ls 2 [(0, .ref (b 129))] := hl
  unfold f_X8_putBack at h
  refine lv_iconst (v := 0) hx hb dX8_putBack_0 (by decide) ?_
  refine lv_istore_n (lv' := [(1, .int (0 : Int32)), (0, .ref (b 129))]) hx hb dX8_putBack_1 rfl hl (by decide) rfl (fun ls hl => ?_)
  obtain ⟨I3, hv, h⟩ := hb_some h
  have K27 : ∀ (H : Heap) (locs : List Loc) (ls : Array Slot), va_P (dC, dI) vwCl (hW N ca b I3 O J) H → va_S A s.heap H locs → lv_has ls 2 [] → W p l e (headSpec wsX8_putBack ({ frames := 0, cells := 0, slots := 0, locals := 0 } : Room)).room s m ([.ref (b 129)] : List Value).toArray below meth c H locs 0 0 (MQ below (va_Qv (fun (u : Nat → Nat → Int32) => res = u) (fun (u : Nat → Nat → Int32) t => va_P (dC, dI) vwCl (hW N ca b u O J) t.heap) A) ([.ref (b 129)] : List Value).toArray s 0 0 A) (F0 m 27 ls []) := by
    intro H locs ls hP hS hl
    exact W.vret hx hb hr (fun t9 ht hW => ⟨⟨I3, rfl, (Option.some.inj h).symm, gEnd ht hP⟩, hS.F ht⟩) hS.2.2 dX8_putBack_27 hlk
  have hL2 : ∀ (fuel : Nat) (p1 : Int32) (I2 : Nat → Nat → Int32) (H : Heap) (locs : List Loc) (ls : Array Slot), f_X8_putBack_L2  fuel p1 I2 = some I3 → va_P (dC, dI) vwCl (hW N ca b I2 O J) H → va_S A s.heap H locs → lv_has ls 2 [(0, .ref (b 129)), (1, .int p1)] → W p l e (headSpec wsX8_putBack ({ frames := 0, cells := 0, slots := 0, locals := 0 } : Room)).room s m ([.ref (b 129)] : List Value).toArray below meth c H locs 0 0 (MQ below (va_Qv (fun (u : Nat → Nat → Int32) => res = u) (fun (u : Nat → Nat → Int32) t => va_P (dC, dI) vwCl (hW N ca b u O J) t.heap) A) ([.ref (b 129)] : List Value).toArray s 0 0 A) (F0 m 2 ls []) := by
    intro fuel
    induction fuel with
    | zero =>
      intro p1 I2 H locs ls h hP hS hl
      rw [f_X8_putBack_L2] at h
      cases h
    | succ fuel ih =>
      intro p1 I2 H locs ls h hP hS hl
      rw [f_X8_putBack_L2] at h
      refine lv_iload_n hx hb dX8_putBack_2 rfl (lv_at hl 1 rfl) ?_
      refine lv_sipush (v := 151) hx hb dX8_putBack_3 (by decide) ?_
      refine lv_icmp_ge (tgt := 27) hx hb dX8_putBack_6 (by decide) (fun c8 => ?_) (fun c8 => ?_)
      · have h := gif_t c8 h
        cases h
        exact K27 _ _ _ hP hS (lv_sub hl [] rfl)
      · have h := gif_f c8 h
        refine lv_aload_n hx hb dX8_putBack_9 rfl (lv_at hl 0 rfl) ?_
        refine gg8_0 X hP kc_129 (sk_in hN kc_129 (by decide)) hi8 (List.mem_of_getElem? (i := 1) rfl) dX8_putBack_10 ?_
        refine lv_iload_n hx hb dX8_putBack_13 rfl (lv_at hl 1 rfl) ?_
        refine lv_aload_n hx hb dX8_putBack_14 rfl (lv_at hl 0 rfl) ?_
        refine gg8_1 X hP kc_129 (sk_in hN kc_129 (by decide)) hi8 (List.mem_of_getElem? (i := 2) rfl) dX8_putBack_15 ?_
        refine lv_iload_n hx hb dX8_putBack_18 rfl (lv_at hl 1 rfl) ?_
        obtain ⟨hgi4, h⟩ := hg_some h
        refine ga20 X hP kc_131 (sk_in hN kc_131 (by decide)) (L := 151) (by decide) hgi4 dX8_putBack_19 ?_
        obtain ⟨hgi5, h⟩ := hg_some h
        refine gs20 X hP hS kc_130 (sk_in hN kc_130 (by decide)) (L := 151) (by decide) hgi5 dX8_putBack_20 (fun H locs hP hS => ?_)
        obtain ⟨I6, eI6, h⟩ := hlet_ex h
        rw [← eI6] at hP
        obtain ⟨x7, ex7, h⟩ := hlet_ex h
        refine lv_iinc (v := x7) (lv' := [(1, .int x7), (0, .ref (b 129))]) hx hb dX8_putBack_21 hl (k := 1) rfl (by rw [ex7]; rfl) (by decide) rfl (fun ls hl => ?_)
        refine lv_goto (tgt := 2) hx hb dX8_putBack_24 (by decide) ?_
        exact ih _ _ _ _ _ h hP hS (lv_sub hl [1, 0] rfl)
  exact hL2 FU _ _ _ _ _ hv hP hS (lv_sub hl [1, 0] rfl)
def f_X8_arrival_L5 (a1 : Int32) (I : Nat → Nat → Int32) : Nat → Int32 → Int32 → Option (Int32)
  | 0, _, _ => none
  | fuel + 1, p1, p2 =>
    if (I 130 ((135 : Int32).toNatClampNeg)) ≤ p2 then
      some p1
    else
      hg (gin ((136 : Int32) + p2) 151) <|
      (show Option (Int32) from
        if (I 130 (((136 : Int32) + p2).toNatClampNeg)) = a1 then
          some p2
        else
          some p1).bind fun p5 =>
      hlet (p2 + 1) fun x6 =>
      f_X8_arrival_L5 a1 I fuel p5 x6
def f_X8_arrival (a1 : Int32) (I : Nat → Nat → Int32) : Option (Int32) :=
  (f_X8_arrival_L5 a1 I FU (8 : Int32) (0 : Int32)).bind fun p3 =>
  some p3
set_option maxHeartbeats 8000000 in
set_option maxRecDepth 100000 in
theorem c_X8_arrival {l : Launch} {dC : Nat → ClassId} {dI : Nat → Nat → Nat} {ca : Nat → ClassId} {b : Nat → Nat} {A : Nat → Prop} {N : Nat} (hN : 138 ≤ N) (hA : gAd A b N) (I : Nat → Nat → Int32) (O : Nat → Nat → Option Nat) (J : Nat → Nat → Int64) (a1 : Int32) (res : Int32) (h : f_X8_arrival a1 I = some res) : Met l yX8_arrival wsX8_arrival ({ frames := 0, cells := 0, slots := 0, locals := 0 } : Room) (va_Pc [.ref (b 129), .int a1] (gPre dC dI ca b A N I O J)) (va_Qi (fun (r : Int32) (u : Unit) => res = r) (fun (u : Unit) t => va_P (dC, dI) vwCl (hW N ca b I O J) t.heap) A) 0 0 A := by
  refine Met.ofW (cc := cX8_arrival) (maxL := 4) (ret := (some .int)) (by decide) rfl ?_
  intro p e s m args below meth c s₁ B hml hv
  obtain ⟨rfl, hP, hK, hA2, hth⟩ := hv
  have hx := B.exec
  have hb := B.bytes
  have hr := B.returns
  have hlk := B.notSynchronized
  have X : gCx p s m ([.ref (b 129), .int a1] : List Value).toArray c RX8 cX8_arrival wsX8_arrival 4 dC dI ca b A N := ⟨hx, hb, hml, findClass_of_methodNamed B.named, atoms_spec (ws := wsX8_arrival) B.pre, hK, hA, hA2, hth⟩
  have hi8 : ∀ w ∈ wsX80, w ∈ wsX8_arrival := (fun w h => List.mem_cons_of_mem _ (List.mem_append_right _ h))
  have hS : va_S A s.heap s.heap [] := va_S.rf
  have hl := lv_entry ([.ref (b 129), .int a1] : List Value) (n := 4) (Nat.le_of_ble_eq_true rfl)
  rw [lg_entry_eq]
  generalize (lg_sl ([.ref (b 129), .int a1] : List Value) ++ List.replicate (4 - (lg_sl ([.ref (b 129), .int a1] : List Value)).length) Slot.unset).toArray = ls at hl ⊢
  have hl : lv_has ls 4 [(0, .ref (b 129)), (1, .int a1)] := hl
  unfold f_X8_arrival at h
  refine lv_bipush (v := 8) hx hb dX8_arrival_0 (by decide) ?_
  refine lv_istore_n (lv' := [(2, .int (8 : Int32)), (0, .ref (b 129)), (1, .int a1)]) hx hb dX8_arrival_2 rfl hl (by decide) rfl (fun ls hl => ?_)
  refine lv_iconst (v := 0) hx hb dX8_arrival_3 (by decide) ?_
  refine lv_istore_n (lv' := [(3, .int (0 : Int32)), (2, .int (8 : Int32)), (0, .ref (b 129)), (1, .int a1)]) hx hb dX8_arrival_4 rfl hl (by decide) rfl (fun ls hl => ?_)
  obtain ⟨p3, hv, h⟩ := hb_some h
  have K43 : ∀ (H : Heap) (locs : List Loc) (ls : Array Slot), va_P (dC, dI) vwCl (hW N ca b I O J) H → va_S A s.heap H locs → lv_has ls 4 [(2, .int p3)] → W p l e (headSpec wsX8_arrival ({ frames := 0, cells := 0, slots := 0, locals := 0 } : Room)).room s m ([.ref (b 129), .int a1] : List Value).toArray below meth c H locs 0 0 (MQ below (va_Qi (fun (r : Int32) (u : Unit) => res = r) (fun (u : Unit) t => va_P (dC, dI) vwCl (hW N ca b I O J) t.heap) A) ([.ref (b 129), .int a1] : List Value).toArray s 0 0 A) (F0 m 43 ls []) := by
    intro H locs ls hP hS hl
    refine lv_iload_n hx hb dX8_arrival_43 rfl (lv_at hl 0 rfl) ?_
    exact W.iret hx hb hr (fun t9 ht hW => ⟨⟨p3, (), rfl, (Option.some.inj h).symm, gEnd ht hP⟩, hS.F ht⟩) hS.2.2 dX8_arrival_44 hlk
  have hL5 : ∀ (fuel : Nat) (p1 : Int32) (p2 : Int32) (H : Heap) (locs : List Loc) (ls : Array Slot), f_X8_arrival_L5 a1 I fuel p1 p2 = some p3 → va_P (dC, dI) vwCl (hW N ca b I O J) H → va_S A s.heap H locs → lv_has ls 4 [(0, .ref (b 129)), (1, .int a1), (2, .int p1), (3, .int p2)] → W p l e (headSpec wsX8_arrival ({ frames := 0, cells := 0, slots := 0, locals := 0 } : Room)).room s m ([.ref (b 129), .int a1] : List Value).toArray below meth c H locs 0 0 (MQ below (va_Qi (fun (r : Int32) (u : Unit) => res = r) (fun (u : Unit) t => va_P (dC, dI) vwCl (hW N ca b I O J) t.heap) A) ([.ref (b 129), .int a1] : List Value).toArray s 0 0 A) (F0 m 5 ls []) := by
    intro fuel
    induction fuel with
    | zero =>
      intro p1 p2 H locs ls h hP hS hl
      rw [f_X8_arrival_L5] at h
      cases h
    | succ fuel ih =>
      intro p1 p2 H locs ls h hP hS hl
      rw [f_X8_arrival_L5] at h
      refine lv_iload_n hx hb dX8_arrival_5 rfl (lv_at hl 3 rfl) ?_
      refine lv_aload_n hx hb dX8_arrival_6 rfl (lv_at hl 0 rfl) ?_
      refine gg8_0 X hP kc_129 (sk_in hN kc_129 (by decide)) hi8 (List.mem_of_getElem? (i := 1) rfl) dX8_arrival_7 ?_
      refine lv_sipush (v := 135) hx hb dX8_arrival_10 (by decide) ?_
      refine ga20 X hP kc_130 (sk_in hN kc_130 (by decide)) (L := 151) (by decide) (by decide) dX8_arrival_13 ?_
      refine lv_icmp_ge (tgt := 43) hx hb dX8_arrival_14 (by decide) (fun c8 => ?_) (fun c8 => ?_)
      · have h := gif_t c8 h
        cases h
        exact K43 _ _ _ hP hS (lv_sub hl [2] rfl)
      · have h := gif_f c8 h
        refine lv_aload_n hx hb dX8_arrival_17 rfl (lv_at hl 0 rfl) ?_
        refine gg8_0 X hP kc_129 (sk_in hN kc_129 (by decide)) hi8 (List.mem_of_getElem? (i := 1) rfl) dX8_arrival_18 ?_
        refine lv_sipush (v := 136) hx hb dX8_arrival_21 (by decide) ?_
        refine lv_iload_n hx hb dX8_arrival_24 rfl (lv_at hl 3 rfl) ?_
        refine lv_iadd hx hb dX8_arrival_25 ?_
        obtain ⟨hgi4, h⟩ := hg_some h
        refine ga20 X hP kc_130 (sk_in hN kc_130 (by decide)) (L := 151) (by decide) hgi4 dX8_arrival_26 ?_
        refine lv_iload_n hx hb dX8_arrival_27 rfl (lv_at hl 1 rfl) ?_
        obtain ⟨p5, hv, h⟩ := hb_some h
        have K36 : ∀ (H : Heap) (locs : List Loc) (ls : Array Slot), va_P (dC, dI) vwCl (hW N ca b I O J) H → va_S A s.heap H locs → lv_has ls 4 [(0, .ref (b 129)), (1, .int a1), (3, .int p2)] → W p l e (headSpec wsX8_arrival ({ frames := 0, cells := 0, slots := 0, locals := 0 } : Room)).room s m ([.ref (b 129), .int a1] : List Value).toArray below meth c H locs 0 0 (MQ below (va_Qi (fun (r : Int32) (u : Unit) => res = r) (fun (u : Unit) t => va_P (dC, dI) vwCl (hW N ca b I O J) t.heap) A) ([.ref (b 129), .int a1] : List Value).toArray s 0 0 A) (F0 m 36 ls [.int p5]) := by
          intro H locs ls hP hS hl
          refine lv_istore_n (lv' := [(2, .int p5), (0, .ref (b 129)), (1, .int a1), (3, .int p2)]) hx hb dX8_arrival_36 rfl hl (by decide) rfl (fun ls hl => ?_)
          obtain ⟨x6, ex6, h⟩ := hlet_ex h
          refine lv_iinc (v := x6) (lv' := [(3, .int x6), (2, .int p5), (0, .ref (b 129)), (1, .int a1)]) hx hb dX8_arrival_37 hl (k := 3) rfl (by rw [ex6]; rfl) (by decide) rfl (fun ls hl => ?_)
          refine lv_goto (tgt := 5) hx hb dX8_arrival_40 (by decide) ?_
          exact ih _ _ _ _ _ h hP hS (lv_sub hl [2, 3, 1, 0] rfl)
        have h := hv
        refine lv_icmp_ne (tgt := 35) hx hb dX8_arrival_28 (by decide) (fun c7 => ?_) (fun c7 => ?_)
        · have h := gif_f c7 h
          refine lv_iload_n hx hb dX8_arrival_35 rfl (lv_at hl 2 rfl) ?_
          cases h
          exact K36 _ _ _ hP hS (lv_sub hl [0, 1, 3] rfl)
        · have h := gif_t c7 h
          refine lv_iload_n hx hb dX8_arrival_31 rfl (lv_at hl 3 rfl) ?_
          refine lv_goto (tgt := 36) hx hb dX8_arrival_32 (by decide) ?_
          cases h
          exact K36 _ _ _ hP hS (lv_sub hl [0, 1, 3] rfl)
  exact hL5 FU _ _ _ _ _ hv hP hS (lv_sub hl [2, 3, 1, 0] rfl)
def f_X8_isAhead (a1 : Int32) (a2 : Int32) (I : Nat → Nat → Int32) : Option (Int32) :=
  (f_X8_isOver a1 I).bind fun r1 =>
  hlet (fun (_ : Unit) => show Option (Int32) from
    (f_X8_isOver a1 I).bind fun r4 =>
    if r4 = 0 then
      some (0 : Int32)
    else
      (f_X8_isOver a2 I).bind fun r6 =>
      if r6 = 0 then
        some (1 : Int32)
      else
        (f_X8_arrival a1 I).bind fun r8 =>
        (f_X8_arrival a2 I).bind fun r10 =>
        if r10 ≤ r8 then
          some (0 : Int32)
        else
          some (1 : Int32)) fun j3 =>
  if r1 = 0 then
    (f_X8_isOver a2 I).bind fun r15 =>
    if r15 = 0 then
      (f_X8_of a1 (7 : Int32) I).bind fun r17 =>
      (f_X8_of a2 (7 : Int32) I).bind fun r19 =>
      if r17 = r19 then
        if a2 ≤ a1 then
          some (0 : Int32)
        else
          some (1 : Int32)
      else
        (f_X8_of a1 (7 : Int32) I).bind fun r22 =>
        (f_X8_of a2 (7 : Int32) I).bind fun r24 =>
        if r22 ≤ r24 then
          some (0 : Int32)
        else
          some (1 : Int32)
    else
      j3 ()
  else
    j3 ()
set_option maxHeartbeats 8000000 in
set_option maxRecDepth 100000 in
theorem c_X8_isAhead {l : Launch} {dC : Nat → ClassId} {dI : Nat → Nat → Nat} {ca : Nat → ClassId} {b : Nat → Nat} {A : Nat → Prop} {N : Nat} (hN : 138 ≤ N) (hA : gAd A b N) (I : Nat → Nat → Int32) (O : Nat → Nat → Option Nat) (J : Nat → Nat → Int64) (a1 : Int32) (a2 : Int32) (res : Int32) (h : f_X8_isAhead a1 a2 I = some res) : Met l yX8_isAhead wsX8_isAhead ({ frames := 2, cells := 0, slots := 0, locals := 43 } : Room) (va_Pc [.ref (b 129), .int a1, .int a2] (gPre dC dI ca b A N I O J)) (va_Qi (fun (r : Int32) (u : Unit) => res = r) (fun (u : Unit) t => va_P (dC, dI) vwCl (hW N ca b I O J) t.heap) A) 0 0 A := by
  refine Met.ofW (cc := cX8_isAhead) (maxL := 3) (ret := (some .boolean)) (by decide) rfl ?_
  intro p e s m args below meth c s₁ B hml hv
  obtain ⟨rfl, hP, hK, hA2, hth⟩ := hv
  have hx := B.exec
  have hb := B.bytes
  have hr := B.returns
  have hlk := B.notSynchronized
  have X : gCx p s m ([.ref (b 129), .int a1, .int a2] : List Value).toArray c RX8 cX8_isAhead wsX8_isAhead 3 dC dI ca b A N := ⟨hx, hb, hml, findClass_of_methodNamed B.named, atoms_spec (ws := wsX8_isAhead) B.pre, hK, hA, hA2, hth⟩
  have hS : va_S A s.heap s.heap [] := va_S.rf
  have hl := lv_entry ([.ref (b 129), .int a1, .int a2] : List Value) (n := 3) (Nat.le_of_ble_eq_true rfl)
  rw [lg_entry_eq]
  generalize (lg_sl ([.ref (b 129), .int a1, .int a2] : List Value) ++ List.replicate (3 - (lg_sl ([.ref (b 129), .int a1, .int a2] : List Value)).length) Slot.unset).toArray = ls at hl ⊢
  have hl : lv_has ls 3 [(0, .ref (b 129)), (1, .int a1), (2, .int a2)] := hl
  unfold f_X8_isAhead at h
  refine lv_aload_n hx hb dX8_isAhead_0 rfl (lv_at hl 0 rfl) ?_
  refine lv_iload_n hx hb dX8_isAhead_1 rfl (lv_at hl 1 rfl) ?_
  obtain ⟨q2, hcq2, h⟩ := hb_some h
  refine gdV_i (As := [.int a1]) (rest := []) (BH := (fun (u : Unit) H => va_P (dC, dI) vwCl (hW N ca b I O J) H)) X hP hS (c_X8_isOver hN hA I O J a1 q2 hcq2) (cwV 1 X.ts gX8_isAhead_X8_isOver rfl rfl rfl (by decide +kernel) ⟨Nat.le_of_ble_eq_true rfl, Nat.le_of_ble_eq_true rfl⟩) (gr8 X hP kc_129 (sk_in hN kc_129 (by decide))) rfl hl.1 rfl (Nat.le_of_ble_eq_true rfl) dX8_isAhead_2 ⟨Nat.le_of_ble_eq_true rfl, Nat.le_of_ble_eq_true rfl⟩ (fun r1 u9 H locs hw hP hS => ?_)
  have hw := hw.symm
  subst hw
  obtain ⟨j3, ej3, h⟩ := hlet_ex h
  have K16 : ∀ (H : Heap) (locs : List Loc) (ls : Array Slot), j3 () = some res → va_P (dC, dI) vwCl (hW N ca b I O J) H → va_S A s.heap H locs → lv_has ls 3 [(0, .ref (b 129)), (1, .int a1), (2, .int a2)] → W p l e (headSpec wsX8_isAhead ({ frames := 2, cells := 0, slots := 0, locals := 43 } : Room)).room s m ([.ref (b 129), .int a1, .int a2] : List Value).toArray below meth c H locs 0 0 (MQ below (va_Qi (fun (r : Int32) (u : Unit) => res = r) (fun (u : Unit) t => va_P (dC, dI) vwCl (hW N ca b I O J) t.heap) A) ([.ref (b 129), .int a1, .int a2] : List Value).toArray s 0 0 A) (F0 m 16 ls []) := by
    intro H locs ls h hP hS hl
    rw [ej3] at h
    refine lv_aload_n hx hb dX8_isAhead_16 rfl (lv_at hl 0 rfl) ?_
    refine lv_iload_n hx hb dX8_isAhead_17 rfl (lv_at hl 1 rfl) ?_
    obtain ⟨q5, hcq5, h⟩ := hb_some h
    refine gdV_i (As := [.int a1]) (rest := []) (BH := (fun (u : Unit) H => va_P (dC, dI) vwCl (hW N ca b I O J) H)) X hP hS (c_X8_isOver hN hA I O J a1 q5 hcq5) (cwV 1 X.ts gX8_isAhead_X8_isOver rfl rfl rfl (by decide +kernel) ⟨Nat.le_of_ble_eq_true rfl, Nat.le_of_ble_eq_true rfl⟩) (gr8 X hP kc_129 (sk_in hN kc_129 (by decide))) rfl hl.1 rfl (Nat.le_of_ble_eq_true rfl) dX8_isAhead_18 ⟨Nat.le_of_ble_eq_true rfl, Nat.le_of_ble_eq_true rfl⟩ (fun r4 u9 H locs hw hP hS => ?_)
    have hw := hw.symm
    subst hw
    refine lv_if_eq (tgt := 49) hx hb dX8_isAhead_21 (by decide) (fun c14 => ?_) (fun c14 => ?_)
    · have h := gif_t c14 h
      refine lv_iconst (v := 0) hx hb dX8_isAhead_49 (by decide) ?_
      exact W.zret (ty := .boolean) hx hb hr (by decide) (fun t9 ht hW => ⟨⟨(0 : Int32), (), rfl, (Option.some.inj h).symm, gEnd ht hP⟩, hS.F ht⟩) hS.2.2 dX8_isAhead_50 hlk
    · have h := gif_f c14 h
      refine lv_aload_n hx hb dX8_isAhead_24 rfl (lv_at hl 0 rfl) ?_
      refine lv_iload_n hx hb dX8_isAhead_25 rfl (lv_at hl 2 rfl) ?_
      obtain ⟨q7, hcq7, h⟩ := hb_some h
      refine gdV_i (As := [.int a2]) (rest := []) (BH := (fun (u : Unit) H => va_P (dC, dI) vwCl (hW N ca b I O J) H)) X hP hS (c_X8_isOver hN hA I O J a2 q7 hcq7) (cwV 1 X.ts gX8_isAhead_X8_isOver rfl rfl rfl (by decide +kernel) ⟨Nat.le_of_ble_eq_true rfl, Nat.le_of_ble_eq_true rfl⟩) (gr8 X hP kc_129 (sk_in hN kc_129 (by decide))) rfl hl.1 rfl (Nat.le_of_ble_eq_true rfl) dX8_isAhead_26 ⟨Nat.le_of_ble_eq_true rfl, Nat.le_of_ble_eq_true rfl⟩ (fun r6 u9 H locs hw hP hS => ?_)
      have hw := hw.symm
      subst hw
      refine lv_if_eq (tgt := 45) hx hb dX8_isAhead_29 (by decide) (fun c13 => ?_) (fun c13 => ?_)
      · have h := gif_t c13 h
        refine lv_iconst (v := 1) hx hb dX8_isAhead_45 (by decide) ?_
        refine lv_goto (tgt := 50) hx hb dX8_isAhead_46 (by decide) ?_
        exact W.zret (ty := .boolean) hx hb hr (by decide) (fun t9 ht hW => ⟨⟨(1 : Int32), (), rfl, (Option.some.inj h).symm, gEnd ht hP⟩, hS.F ht⟩) hS.2.2 dX8_isAhead_50 hlk
      · have h := gif_f c13 h
        refine lv_aload_n hx hb dX8_isAhead_32 rfl (lv_at hl 0 rfl) ?_
        refine lv_iload_n hx hb dX8_isAhead_33 rfl (lv_at hl 1 rfl) ?_
        obtain ⟨q9, hcq9, h⟩ := hb_some h
        refine gdV_i (As := [.int a1]) (rest := []) (BH := (fun (u : Unit) H => va_P (dC, dI) vwCl (hW N ca b I O J) H)) X hP hS (c_X8_arrival hN hA I O J a1 q9 hcq9) (cwV 1 X.ts gX8_isAhead_X8_arrival rfl rfl rfl (by decide +kernel) ⟨Nat.le_of_ble_eq_true rfl, Nat.le_of_ble_eq_true rfl⟩) (gr8 X hP kc_129 (sk_in hN kc_129 (by decide))) rfl hl.1 rfl (Nat.le_of_ble_eq_true rfl) dX8_isAhead_34 ⟨Nat.le_of_ble_eq_true rfl, Nat.le_of_ble_eq_true rfl⟩ (fun r8 u9 H locs hw hP hS => ?_)
        have hw := hw.symm
        subst hw
        refine lv_aload_n hx hb dX8_isAhead_37 rfl (lv_at hl 0 rfl) ?_
        refine lv_iload_n hx hb dX8_isAhead_38 rfl (lv_at hl 2 rfl) ?_
        obtain ⟨q11, hcq11, h⟩ := hb_some h
        refine gdV_i (As := [.int a2]) (rest := [.int r8]) (BH := (fun (u : Unit) H => va_P (dC, dI) vwCl (hW N ca b I O J) H)) X hP hS (c_X8_arrival hN hA I O J a2 q11 hcq11) (cwV 1 X.ts gX8_isAhead_X8_arrival rfl rfl rfl (by decide +kernel) ⟨Nat.le_of_ble_eq_true rfl, Nat.le_of_ble_eq_true rfl⟩) (gr8 X hP kc_129 (sk_in hN kc_129 (by decide))) rfl hl.1 rfl (Nat.le_of_ble_eq_true rfl) dX8_isAhead_39 ⟨Nat.le_of_ble_eq_true rfl, Nat.le_of_ble_eq_true rfl⟩ (fun r10 u9 H locs hw hP hS => ?_)
        have hw := hw.symm
        subst hw
        refine lv_icmp_ge (tgt := 49) hx hb dX8_isAhead_42 (by decide) (fun c12 => ?_) (fun c12 => ?_)
        · have h := gif_t c12 h
          refine lv_iconst (v := 0) hx hb dX8_isAhead_49 (by decide) ?_
          exact W.zret (ty := .boolean) hx hb hr (by decide) (fun t9 ht hW => ⟨⟨(0 : Int32), (), rfl, (Option.some.inj h).symm, gEnd ht hP⟩, hS.F ht⟩) hS.2.2 dX8_isAhead_50 hlk
        · have h := gif_f c12 h
          refine lv_iconst (v := 1) hx hb dX8_isAhead_45 (by decide) ?_
          refine lv_goto (tgt := 50) hx hb dX8_isAhead_46 (by decide) ?_
          exact W.zret (ty := .boolean) hx hb hr (by decide) (fun t9 ht hW => ⟨⟨(1 : Int32), (), rfl, (Option.some.inj h).symm, gEnd ht hP⟩, hS.F ht⟩) hS.2.2 dX8_isAhead_50 hlk
  refine lv_if_ne (tgt := 16) hx hb dX8_isAhead_5 (by decide) (fun c29 => ?_) (fun c29 => ?_)
  · have h := gif_f c29 h
    exact K16 _ _ _ h hP hS (lv_sub hl [0, 1, 2] rfl)
  · have h := gif_t c29 h
    refine lv_aload_n hx hb dX8_isAhead_8 rfl (lv_at hl 0 rfl) ?_
    refine lv_iload_n hx hb dX8_isAhead_9 rfl (lv_at hl 2 rfl) ?_
    obtain ⟨q16, hcq16, h⟩ := hb_some h
    refine gdV_i (As := [.int a2]) (rest := []) (BH := (fun (u : Unit) H => va_P (dC, dI) vwCl (hW N ca b I O J) H)) X hP hS (c_X8_isOver hN hA I O J a2 q16 hcq16) (cwV 1 X.ts gX8_isAhead_X8_isOver rfl rfl rfl (by decide +kernel) ⟨Nat.le_of_ble_eq_true rfl, Nat.le_of_ble_eq_true rfl⟩) (gr8 X hP kc_129 (sk_in hN kc_129 (by decide))) rfl hl.1 rfl (Nat.le_of_ble_eq_true rfl) dX8_isAhead_10 ⟨Nat.le_of_ble_eq_true rfl, Nat.le_of_ble_eq_true rfl⟩ (fun r15 u9 H locs hw hP hS => ?_)
    have hw := hw.symm
    subst hw
    refine lv_if_eq (tgt := 51) hx hb dX8_isAhead_13 (by decide) (fun c28 => ?_) (fun c28 => ?_)
    · have h := gif_t c28 h
      refine lv_aload_n hx hb dX8_isAhead_51 rfl (lv_at hl 0 rfl) ?_
      refine lv_iload_n hx hb dX8_isAhead_52 rfl (lv_at hl 1 rfl) ?_
      refine lv_bipush (v := 7) hx hb dX8_isAhead_53 (by decide) ?_
      obtain ⟨q18, hcq18, h⟩ := hb_some h
      refine gdV_i (As := [.int a1, .int (7 : Int32)]) (rest := []) (BH := (fun (u : Unit) H => va_P (dC, dI) vwCl (hW N ca b I O J) H)) X hP hS (c_X8_of hN hA I O J a1 (7 : Int32) q18 hcq18) (cwV 2 X.ts gX8_isAhead_X8_of rfl rfl rfl (by decide +kernel) ⟨Nat.le_of_ble_eq_true rfl, Nat.le_of_ble_eq_true rfl⟩) (gr8 X hP kc_129 (sk_in hN kc_129 (by decide))) rfl hl.1 rfl (Nat.le_of_ble_eq_true rfl) dX8_isAhead_55 ⟨Nat.le_of_ble_eq_true rfl, Nat.le_of_ble_eq_true rfl⟩ (fun r17 u9 H locs hw hP hS => ?_)
      have hw := hw.symm
      subst hw
      refine lv_aload_n hx hb dX8_isAhead_58 rfl (lv_at hl 0 rfl) ?_
      refine lv_iload_n hx hb dX8_isAhead_59 rfl (lv_at hl 2 rfl) ?_
      refine lv_bipush (v := 7) hx hb dX8_isAhead_60 (by decide) ?_
      obtain ⟨q20, hcq20, h⟩ := hb_some h
      refine gdV_i (As := [.int a2, .int (7 : Int32)]) (rest := [.int r17]) (BH := (fun (u : Unit) H => va_P (dC, dI) vwCl (hW N ca b I O J) H)) X hP hS (c_X8_of hN hA I O J a2 (7 : Int32) q20 hcq20) (cwV 2 X.ts gX8_isAhead_X8_of rfl rfl rfl (by decide +kernel) ⟨Nat.le_of_ble_eq_true rfl, Nat.le_of_ble_eq_true rfl⟩) (gr8 X hP kc_129 (sk_in hN kc_129 (by decide))) rfl hl.1 rfl (Nat.le_of_ble_eq_true rfl) dX8_isAhead_62 ⟨Nat.le_of_ble_eq_true rfl, Nat.le_of_ble_eq_true rfl⟩ (fun r19 u9 H locs hw hP hS => ?_)
      have hw := hw.symm
      subst hw
      refine lv_icmp_eq (tgt := 93) hx hb dX8_isAhead_65 (by decide) (fun c27 => ?_) (fun c27 => ?_)
      · have h := gif_t c27 h
        refine lv_iload_n hx hb dX8_isAhead_93 rfl (lv_at hl 1 rfl) ?_
        refine lv_iload_n hx hb dX8_isAhead_94 rfl (lv_at hl 2 rfl) ?_
        refine lv_icmp_ge (tgt := 102) hx hb dX8_isAhead_95 (by decide) (fun c21 => ?_) (fun c21 => ?_)
        · have h := gif_t c21 h
          refine lv_iconst (v := 0) hx hb dX8_isAhead_102 (by decide) ?_
          exact W.zret (ty := .boolean) hx hb hr (by decide) (fun t9 ht hW => ⟨⟨(0 : Int32), (), rfl, (Option.some.inj h).symm, gEnd ht hP⟩, hS.F ht⟩) hS.2.2 dX8_isAhead_103 hlk
        · have h := gif_f c21 h
          refine lv_iconst (v := 1) hx hb dX8_isAhead_98 (by decide) ?_
          refine lv_goto (tgt := 103) hx hb dX8_isAhead_99 (by decide) ?_
          exact W.zret (ty := .boolean) hx hb hr (by decide) (fun t9 ht hW => ⟨⟨(1 : Int32), (), rfl, (Option.some.inj h).symm, gEnd ht hP⟩, hS.F ht⟩) hS.2.2 dX8_isAhead_103 hlk
      · have h := gif_f c27 h
        refine lv_aload_n hx hb dX8_isAhead_68 rfl (lv_at hl 0 rfl) ?_
        refine lv_iload_n hx hb dX8_isAhead_69 rfl (lv_at hl 1 rfl) ?_
        refine lv_bipush (v := 7) hx hb dX8_isAhead_70 (by decide) ?_
        obtain ⟨q23, hcq23, h⟩ := hb_some h
        refine gdV_i (As := [.int a1, .int (7 : Int32)]) (rest := []) (BH := (fun (u : Unit) H => va_P (dC, dI) vwCl (hW N ca b I O J) H)) X hP hS (c_X8_of hN hA I O J a1 (7 : Int32) q23 hcq23) (cwV 2 X.ts gX8_isAhead_X8_of rfl rfl rfl (by decide +kernel) ⟨Nat.le_of_ble_eq_true rfl, Nat.le_of_ble_eq_true rfl⟩) (gr8 X hP kc_129 (sk_in hN kc_129 (by decide))) rfl hl.1 rfl (Nat.le_of_ble_eq_true rfl) dX8_isAhead_72 ⟨Nat.le_of_ble_eq_true rfl, Nat.le_of_ble_eq_true rfl⟩ (fun r22 u9 H locs hw hP hS => ?_)
        have hw := hw.symm
        subst hw
        refine lv_aload_n hx hb dX8_isAhead_75 rfl (lv_at hl 0 rfl) ?_
        refine lv_iload_n hx hb dX8_isAhead_76 rfl (lv_at hl 2 rfl) ?_
        refine lv_bipush (v := 7) hx hb dX8_isAhead_77 (by decide) ?_
        obtain ⟨q25, hcq25, h⟩ := hb_some h
        refine gdV_i (As := [.int a2, .int (7 : Int32)]) (rest := [.int r22]) (BH := (fun (u : Unit) H => va_P (dC, dI) vwCl (hW N ca b I O J) H)) X hP hS (c_X8_of hN hA I O J a2 (7 : Int32) q25 hcq25) (cwV 2 X.ts gX8_isAhead_X8_of rfl rfl rfl (by decide +kernel) ⟨Nat.le_of_ble_eq_true rfl, Nat.le_of_ble_eq_true rfl⟩) (gr8 X hP kc_129 (sk_in hN kc_129 (by decide))) rfl hl.1 rfl (Nat.le_of_ble_eq_true rfl) dX8_isAhead_79 ⟨Nat.le_of_ble_eq_true rfl, Nat.le_of_ble_eq_true rfl⟩ (fun r24 u9 H locs hw hP hS => ?_)
        have hw := hw.symm
        subst hw
        refine lv_icmp_le (tgt := 89) hx hb dX8_isAhead_82 (by decide) (fun c26 => ?_) (fun c26 => ?_)
        · have h := gif_t c26 h
          refine lv_iconst (v := 0) hx hb dX8_isAhead_89 (by decide) ?_
          refine lv_goto (tgt := 103) hx hb dX8_isAhead_90 (by decide) ?_
          exact W.zret (ty := .boolean) hx hb hr (by decide) (fun t9 ht hW => ⟨⟨(0 : Int32), (), rfl, (Option.some.inj h).symm, gEnd ht hP⟩, hS.F ht⟩) hS.2.2 dX8_isAhead_103 hlk
        · have h := gif_f c26 h
          refine lv_iconst (v := 1) hx hb dX8_isAhead_85 (by decide) ?_
          refine lv_goto (tgt := 103) hx hb dX8_isAhead_86 (by decide) ?_
          exact W.zret (ty := .boolean) hx hb hr (by decide) (fun t9 ht hW => ⟨⟨(1 : Int32), (), rfl, (Option.some.inj h).symm, gEnd ht hP⟩, hS.F ht⟩) hS.2.2 dX8_isAhead_103 hlk
    · have h := gif_f c28 h
      exact K16 _ _ _ h hP hS (lv_sub hl [0, 1, 2] rfl)
def f_X8_place_L4 (a1 : Int32) (I : Nat → Nat → Int32) : Nat → Int32 → Int32 → Option (Int32)
  | 0, _, _ => none
  | fuel + 1, p1, p2 =>
    if (I 130 ((128 : Int32).toNatClampNeg)) ≤ p2 then
      some p1
    else
      (show Option (Int32) from
        if p2 = a1 then
          some (0 : Int32)
        else
          (f_X8_isAhead p2 a1 I).bind fun r6 =>
          if r6 = 0 then
            some (0 : Int32)
          else
            some (1 : Int32)).bind fun p4 =>
      hlet (p2 + 1) fun x5 =>
      f_X8_place_L4 a1 I fuel (p1 + p4) x5
def f_X8_place (a1 : Int32) (I : Nat → Nat → Int32) : Option (Int32) :=
  (f_X8_place_L4 a1 I FU (0 : Int32) (0 : Int32)).bind fun p3 =>
  some p3
set_option maxHeartbeats 8000000 in
set_option maxRecDepth 100000 in
theorem c_X8_place {l : Launch} {dC : Nat → ClassId} {dI : Nat → Nat → Nat} {ca : Nat → ClassId} {b : Nat → Nat} {A : Nat → Prop} {N : Nat} (hN : 138 ≤ N) (hA : gAd A b N) (I : Nat → Nat → Int32) (O : Nat → Nat → Option Nat) (J : Nat → Nat → Int64) (a1 : Int32) (res : Int32) (h : f_X8_place a1 I = some res) : Met l yX8_place wsX8_place ({ frames := 3, cells := 0, slots := 0, locals := 65 } : Room) (va_Pc [.ref (b 129), .int a1] (gPre dC dI ca b A N I O J)) (va_Qi (fun (r : Int32) (u : Unit) => res = r) (fun (u : Unit) t => va_P (dC, dI) vwCl (hW N ca b I O J) t.heap) A) 0 0 A := by
  refine Met.ofW (cc := cX8_place) (maxL := 4) (ret := (some .int)) (by decide) rfl ?_
  intro p e s m args below meth c s₁ B hml hv
  obtain ⟨rfl, hP, hK, hA2, hth⟩ := hv
  have hx := B.exec
  have hb := B.bytes
  have hr := B.returns
  have hlk := B.notSynchronized
  have X : gCx p s m ([.ref (b 129), .int a1] : List Value).toArray c RX8 cX8_place wsX8_place 4 dC dI ca b A N := ⟨hx, hb, hml, findClass_of_methodNamed B.named, atoms_spec (ws := wsX8_place) B.pre, hK, hA, hA2, hth⟩
  have hi8 : ∀ w ∈ wsX80, w ∈ wsX8_place := (fun w h => List.mem_cons_of_mem _ (List.mem_append_right _ h))
  have hS : va_S A s.heap s.heap [] := va_S.rf
  have hl := lv_entry ([.ref (b 129), .int a1] : List Value) (n := 4) (Nat.le_of_ble_eq_true rfl)
  rw [lg_entry_eq]
  generalize (lg_sl ([.ref (b 129), .int a1] : List Value) ++ List.replicate (4 - (lg_sl ([.ref (b 129), .int a1] : List Value)).length) Slot.unset).toArray = ls at hl ⊢
  have hl : lv_has ls 4 [(0, .ref (b 129)), (1, .int a1)] := hl
  unfold f_X8_place at h
  refine lv_iconst (v := 0) hx hb dX8_place_0 (by decide) ?_
  refine lv_istore_n (lv' := [(2, .int (0 : Int32)), (0, .ref (b 129)), (1, .int a1)]) hx hb dX8_place_1 rfl hl (by decide) rfl (fun ls hl => ?_)
  refine lv_iconst (v := 0) hx hb dX8_place_2 (by decide) ?_
  refine lv_istore_n (lv' := [(3, .int (0 : Int32)), (2, .int (0 : Int32)), (0, .ref (b 129)), (1, .int a1)]) hx hb dX8_place_3 rfl hl (by decide) rfl (fun ls hl => ?_)
  obtain ⟨p3, hv, h⟩ := hb_some h
  have K44 : ∀ (H : Heap) (locs : List Loc) (ls : Array Slot), va_P (dC, dI) vwCl (hW N ca b I O J) H → va_S A s.heap H locs → lv_has ls 4 [(2, .int p3)] → W p l e (headSpec wsX8_place ({ frames := 3, cells := 0, slots := 0, locals := 65 } : Room)).room s m ([.ref (b 129), .int a1] : List Value).toArray below meth c H locs 0 0 (MQ below (va_Qi (fun (r : Int32) (u : Unit) => res = r) (fun (u : Unit) t => va_P (dC, dI) vwCl (hW N ca b I O J) t.heap) A) ([.ref (b 129), .int a1] : List Value).toArray s 0 0 A) (F0 m 44 ls []) := by
    intro H locs ls hP hS hl
    refine lv_iload_n hx hb dX8_place_44 rfl (lv_at hl 0 rfl) ?_
    exact W.iret hx hb hr (fun t9 ht hW => ⟨⟨p3, (), rfl, (Option.some.inj h).symm, gEnd ht hP⟩, hS.F ht⟩) hS.2.2 dX8_place_45 hlk
  have hL4 : ∀ (fuel : Nat) (p1 : Int32) (p2 : Int32) (H : Heap) (locs : List Loc) (ls : Array Slot), f_X8_place_L4 a1 I fuel p1 p2 = some p3 → va_P (dC, dI) vwCl (hW N ca b I O J) H → va_S A s.heap H locs → lv_has ls 4 [(0, .ref (b 129)), (1, .int a1), (2, .int p1), (3, .int p2)] → W p l e (headSpec wsX8_place ({ frames := 3, cells := 0, slots := 0, locals := 65 } : Room)).room s m ([.ref (b 129), .int a1] : List Value).toArray below meth c H locs 0 0 (MQ below (va_Qi (fun (r : Int32) (u : Unit) => res = r) (fun (u : Unit) t => va_P (dC, dI) vwCl (hW N ca b I O J) t.heap) A) ([.ref (b 129), .int a1] : List Value).toArray s 0 0 A) (F0 m 4 ls []) := by
    intro fuel
    induction fuel with
    | zero =>
      intro p1 p2 H locs ls h hP hS hl
      rw [f_X8_place_L4] at h
      cases h
    | succ fuel ih =>
      intro p1 p2 H locs ls h hP hS hl
      rw [f_X8_place_L4] at h
      refine lv_iload_n hx hb dX8_place_4 rfl (lv_at hl 3 rfl) ?_
      refine lv_aload_n hx hb dX8_place_5 rfl (lv_at hl 0 rfl) ?_
      refine gg8_0 X hP kc_129 (sk_in hN kc_129 (by decide)) hi8 (List.mem_of_getElem? (i := 1) rfl) dX8_place_6 ?_
      refine lv_sipush (v := 128) hx hb dX8_place_9 (by decide) ?_
      refine ga20 X hP kc_130 (sk_in hN kc_130 (by decide)) (L := 151) (by decide) (by decide) dX8_place_12 ?_
      refine lv_icmp_ge (tgt := 44) hx hb dX8_place_13 (by decide) (fun c10 => ?_) (fun c10 => ?_)
      · have h := gif_t c10 h
        cases h
        exact K44 _ _ _ hP hS (lv_sub hl [2] rfl)
      · have h := gif_f c10 h
        refine lv_iload_n hx hb dX8_place_16 rfl (lv_at hl 2 rfl) ?_
        refine lv_iload_n hx hb dX8_place_17 rfl (lv_at hl 3 rfl) ?_
        refine lv_iload_n hx hb dX8_place_18 rfl (lv_at hl 1 rfl) ?_
        obtain ⟨p4, hv, h⟩ := hb_some h
        have K36 : ∀ (H : Heap) (locs : List Loc) (ls : Array Slot), va_P (dC, dI) vwCl (hW N ca b I O J) H → va_S A s.heap H locs → lv_has ls 4 [(0, .ref (b 129)), (1, .int a1), (3, .int p2)] → W p l e (headSpec wsX8_place ({ frames := 3, cells := 0, slots := 0, locals := 65 } : Room)).room s m ([.ref (b 129), .int a1] : List Value).toArray below meth c H locs 0 0 (MQ below (va_Qi (fun (r : Int32) (u : Unit) => res = r) (fun (u : Unit) t => va_P (dC, dI) vwCl (hW N ca b I O J) t.heap) A) ([.ref (b 129), .int a1] : List Value).toArray s 0 0 A) (F0 m 36 ls [.int p4, .int p1]) := by
          intro H locs ls hP hS hl
          refine lv_iadd hx hb dX8_place_36 ?_
          refine lv_istore_n (lv' := [(2, .int (p1 + p4)), (0, .ref (b 129)), (1, .int a1), (3, .int p2)]) hx hb dX8_place_37 rfl hl (by decide) rfl (fun ls hl => ?_)
          obtain ⟨x5, ex5, h⟩ := hlet_ex h
          refine lv_iinc (v := x5) (lv' := [(3, .int x5), (2, .int (p1 + p4)), (0, .ref (b 129)), (1, .int a1)]) hx hb dX8_place_38 hl (k := 3) rfl (by rw [ex5]; rfl) (by decide) rfl (fun ls hl => ?_)
          refine lv_goto (tgt := 4) hx hb dX8_place_41 (by decide) ?_
          exact ih _ _ _ _ _ h hP hS (lv_sub hl [2, 3, 1, 0] rfl)
        have h := hv
        refine lv_icmp_eq (tgt := 35) hx hb dX8_place_19 (by decide) (fun c9 => ?_) (fun c9 => ?_)
        · have h := gif_t c9 h
          refine lv_iconst (v := 0) hx hb dX8_place_35 (by decide) ?_
          cases h
          exact K36 _ _ _ hP hS (lv_sub hl [0, 1, 3] rfl)
        · have h := gif_f c9 h
          refine lv_aload_n hx hb dX8_place_22 rfl (lv_at hl 0 rfl) ?_
          refine lv_iload_n hx hb dX8_place_23 rfl (lv_at hl 3 rfl) ?_
          refine lv_iload_n hx hb dX8_place_24 rfl (lv_at hl 1 rfl) ?_
          obtain ⟨q7, hcq7, h⟩ := hb_some h
          refine gdV_i (As := [.int p2, .int a1]) (rest := [.int p1]) (BH := (fun (u : Unit) H => va_P (dC, dI) vwCl (hW N ca b I O J) H)) X hP hS (c_X8_isAhead hN hA I O J p2 a1 q7 hcq7) (cwV 2 X.ts gX8_place_X8_isAhead rfl rfl rfl (by decide +kernel) ⟨Nat.le_of_ble_eq_true rfl, Nat.le_of_ble_eq_true rfl⟩) (gr8 X hP kc_129 (sk_in hN kc_129 (by decide))) rfl hl.1 rfl (Nat.le_of_ble_eq_true rfl) dX8_place_25 ⟨Nat.le_of_ble_eq_true rfl, Nat.le_of_ble_eq_true rfl⟩ (fun r6 u9 H locs hw hP hS => ?_)
          have hw := hw.symm
          subst hw
          refine lv_if_eq (tgt := 35) hx hb dX8_place_28 (by decide) (fun c8 => ?_) (fun c8 => ?_)
          · have h := gif_t c8 h
            refine lv_iconst (v := 0) hx hb dX8_place_35 (by decide) ?_
            cases h
            exact K36 _ _ _ hP hS (lv_sub hl [0, 1, 3] rfl)
          · have h := gif_f c8 h
            refine lv_iconst (v := 1) hx hb dX8_place_31 (by decide) ?_
            refine lv_goto (tgt := 36) hx hb dX8_place_32 (by decide) ?_
            cases h
            exact K36 _ _ _ hP hS (lv_sub hl [0, 1, 3] rfl)
  exact hL4 FU _ _ _ _ _ hv hP hS (lv_sub hl [2, 3, 1, 0] rfl)
def f_X8_birdAt_L4 (a1 : Int32) (I : Nat → Nat → Int32) : Nat → Int32 → Int32 → Option (Int32)
  | 0, _, _ => none
  | fuel + 1, p1, p2 =>
    if (I 130 ((128 : Int32).toNatClampNeg)) ≤ p2 then
      some p1
    else
      (f_X8_place p2 I).bind fun r4 =>
      (show Option (Int32) from
        if r4 = a1 then
          some p2
        else
          some p1).bind fun p6 =>
      hlet (p2 + 1) fun x7 =>
      f_X8_birdAt_L4 a1 I fuel p6 x7
def f_X8_birdAt (a1 : Int32) (I : Nat → Nat → Int32) : Option (Int32) :=
  (f_X8_birdAt_L4 a1 I FU (-1 : Int32) (0 : Int32)).bind fun p3 =>
  some p3
set_option maxHeartbeats 8000000 in
set_option maxRecDepth 100000 in
theorem c_X8_birdAt {l : Launch} {dC : Nat → ClassId} {dI : Nat → Nat → Nat} {ca : Nat → ClassId} {b : Nat → Nat} {A : Nat → Prop} {N : Nat} (hN : 138 ≤ N) (hA : gAd A b N) (I : Nat → Nat → Int32) (O : Nat → Nat → Option Nat) (J : Nat → Nat → Int64) (a1 : Int32) (res : Int32) (h : f_X8_birdAt a1 I = some res) : Met l yX8_birdAt wsX8_birdAt ({ frames := 4, cells := 0, slots := 0, locals := 88 } : Room) (va_Pc [.ref (b 129), .int a1] (gPre dC dI ca b A N I O J)) (va_Qi (fun (r : Int32) (u : Unit) => res = r) (fun (u : Unit) t => va_P (dC, dI) vwCl (hW N ca b I O J) t.heap) A) 0 0 A := by
  refine Met.ofW (cc := cX8_birdAt) (maxL := 4) (ret := (some .int)) (by decide) rfl ?_
  intro p e s m args below meth c s₁ B hml hv
  obtain ⟨rfl, hP, hK, hA2, hth⟩ := hv
  have hx := B.exec
  have hb := B.bytes
  have hr := B.returns
  have hlk := B.notSynchronized
  have X : gCx p s m ([.ref (b 129), .int a1] : List Value).toArray c RX8 cX8_birdAt wsX8_birdAt 4 dC dI ca b A N := ⟨hx, hb, hml, findClass_of_methodNamed B.named, atoms_spec (ws := wsX8_birdAt) B.pre, hK, hA, hA2, hth⟩
  have hi8 : ∀ w ∈ wsX80, w ∈ wsX8_birdAt := (fun w h => List.mem_cons_of_mem _ (List.mem_append_right _ h))
  have hS : va_S A s.heap s.heap [] := va_S.rf
  have hl := lv_entry ([.ref (b 129), .int a1] : List Value) (n := 4) (Nat.le_of_ble_eq_true rfl)
  rw [lg_entry_eq]
  generalize (lg_sl ([.ref (b 129), .int a1] : List Value) ++ List.replicate (4 - (lg_sl ([.ref (b 129), .int a1] : List Value)).length) Slot.unset).toArray = ls at hl ⊢
  have hl : lv_has ls 4 [(0, .ref (b 129)), (1, .int a1)] := hl
  unfold f_X8_birdAt at h
  refine lv_iconst (v := (-1)) hx hb dX8_birdAt_0 (by decide) ?_
  refine lv_istore_n (lv' := [(2, .int (-1 : Int32)), (0, .ref (b 129)), (1, .int a1)]) hx hb dX8_birdAt_1 rfl hl (by decide) rfl (fun ls hl => ?_)
  refine lv_iconst (v := 0) hx hb dX8_birdAt_2 (by decide) ?_
  refine lv_istore_n (lv' := [(3, .int (0 : Int32)), (2, .int (-1 : Int32)), (0, .ref (b 129)), (1, .int a1)]) hx hb dX8_birdAt_3 rfl hl (by decide) rfl (fun ls hl => ?_)
  obtain ⟨p3, hv, h⟩ := hb_some h
  have K37 : ∀ (H : Heap) (locs : List Loc) (ls : Array Slot), va_P (dC, dI) vwCl (hW N ca b I O J) H → va_S A s.heap H locs → lv_has ls 4 [(2, .int p3)] → W p l e (headSpec wsX8_birdAt ({ frames := 4, cells := 0, slots := 0, locals := 88 } : Room)).room s m ([.ref (b 129), .int a1] : List Value).toArray below meth c H locs 0 0 (MQ below (va_Qi (fun (r : Int32) (u : Unit) => res = r) (fun (u : Unit) t => va_P (dC, dI) vwCl (hW N ca b I O J) t.heap) A) ([.ref (b 129), .int a1] : List Value).toArray s 0 0 A) (F0 m 37 ls []) := by
    intro H locs ls hP hS hl
    refine lv_iload_n hx hb dX8_birdAt_37 rfl (lv_at hl 0 rfl) ?_
    exact W.iret hx hb hr (fun t9 ht hW => ⟨⟨p3, (), rfl, (Option.some.inj h).symm, gEnd ht hP⟩, hS.F ht⟩) hS.2.2 dX8_birdAt_38 hlk
  have hL4 : ∀ (fuel : Nat) (p1 : Int32) (p2 : Int32) (H : Heap) (locs : List Loc) (ls : Array Slot), f_X8_birdAt_L4 a1 I fuel p1 p2 = some p3 → va_P (dC, dI) vwCl (hW N ca b I O J) H → va_S A s.heap H locs → lv_has ls 4 [(0, .ref (b 129)), (1, .int a1), (2, .int p1), (3, .int p2)] → W p l e (headSpec wsX8_birdAt ({ frames := 4, cells := 0, slots := 0, locals := 88 } : Room)).room s m ([.ref (b 129), .int a1] : List Value).toArray below meth c H locs 0 0 (MQ below (va_Qi (fun (r : Int32) (u : Unit) => res = r) (fun (u : Unit) t => va_P (dC, dI) vwCl (hW N ca b I O J) t.heap) A) ([.ref (b 129), .int a1] : List Value).toArray s 0 0 A) (F0 m 4 ls []) := by
    intro fuel
    induction fuel with
    | zero =>
      intro p1 p2 H locs ls h hP hS hl
      rw [f_X8_birdAt_L4] at h
      cases h
    | succ fuel ih =>
      intro p1 p2 H locs ls h hP hS hl
      rw [f_X8_birdAt_L4] at h
      refine lv_iload_n hx hb dX8_birdAt_4 rfl (lv_at hl 3 rfl) ?_
      refine lv_aload_n hx hb dX8_birdAt_5 rfl (lv_at hl 0 rfl) ?_
      refine gg8_0 X hP kc_129 (sk_in hN kc_129 (by decide)) hi8 (List.mem_of_getElem? (i := 1) rfl) dX8_birdAt_6 ?_
      refine lv_sipush (v := 128) hx hb dX8_birdAt_9 (by decide) ?_
      refine ga20 X hP kc_130 (sk_in hN kc_130 (by decide)) (L := 151) (by decide) (by decide) dX8_birdAt_12 ?_
      refine lv_icmp_ge (tgt := 37) hx hb dX8_birdAt_13 (by decide) (fun c9 => ?_) (fun c9 => ?_)
      · have h := gif_t c9 h
        cases h
        exact K37 _ _ _ hP hS (lv_sub hl [2] rfl)
      · have h := gif_f c9 h
        refine lv_aload_n hx hb dX8_birdAt_16 rfl (lv_at hl 0 rfl) ?_
        refine lv_iload_n hx hb dX8_birdAt_17 rfl (lv_at hl 3 rfl) ?_
        obtain ⟨q5, hcq5, h⟩ := hb_some h
        refine gdV_i (As := [.int p2]) (rest := []) (BH := (fun (u : Unit) H => va_P (dC, dI) vwCl (hW N ca b I O J) H)) X hP hS (c_X8_place hN hA I O J p2 q5 hcq5) (cwV 1 X.ts gX8_birdAt_X8_place rfl rfl rfl (by decide +kernel) ⟨Nat.le_of_ble_eq_true rfl, Nat.le_of_ble_eq_true rfl⟩) (gr8 X hP kc_129 (sk_in hN kc_129 (by decide))) rfl hl.1 rfl (Nat.le_of_ble_eq_true rfl) dX8_birdAt_18 ⟨Nat.le_of_ble_eq_true rfl, Nat.le_of_ble_eq_true rfl⟩ (fun r4 u9 H locs hw hP hS => ?_)
        have hw := hw.symm
        subst hw
        refine lv_iload_n hx hb dX8_birdAt_21 rfl (lv_at hl 1 rfl) ?_
        obtain ⟨p6, hv, h⟩ := hb_some h
        have K30 : ∀ (H : Heap) (locs : List Loc) (ls : Array Slot), va_P (dC, dI) vwCl (hW N ca b I O J) H → va_S A s.heap H locs → lv_has ls 4 [(0, .ref (b 129)), (1, .int a1), (3, .int p2)] → W p l e (headSpec wsX8_birdAt ({ frames := 4, cells := 0, slots := 0, locals := 88 } : Room)).room s m ([.ref (b 129), .int a1] : List Value).toArray below meth c H locs 0 0 (MQ below (va_Qi (fun (r : Int32) (u : Unit) => res = r) (fun (u : Unit) t => va_P (dC, dI) vwCl (hW N ca b I O J) t.heap) A) ([.ref (b 129), .int a1] : List Value).toArray s 0 0 A) (F0 m 30 ls [.int p6]) := by
          intro H locs ls hP hS hl
          refine lv_istore_n (lv' := [(2, .int p6), (0, .ref (b 129)), (1, .int a1), (3, .int p2)]) hx hb dX8_birdAt_30 rfl hl (by decide) rfl (fun ls hl => ?_)
          obtain ⟨x7, ex7, h⟩ := hlet_ex h
          refine lv_iinc (v := x7) (lv' := [(3, .int x7), (2, .int p6), (0, .ref (b 129)), (1, .int a1)]) hx hb dX8_birdAt_31 hl (k := 3) rfl (by rw [ex7]; rfl) (by decide) rfl (fun ls hl => ?_)
          refine lv_goto (tgt := 4) hx hb dX8_birdAt_34 (by decide) ?_
          exact ih _ _ _ _ _ h hP hS (lv_sub hl [2, 3, 1, 0] rfl)
        have h := hv
        refine lv_icmp_ne (tgt := 29) hx hb dX8_birdAt_22 (by decide) (fun c8 => ?_) (fun c8 => ?_)
        · have h := gif_f c8 h
          refine lv_iload_n hx hb dX8_birdAt_29 rfl (lv_at hl 2 rfl) ?_
          cases h
          exact K30 _ _ _ hP hS (lv_sub hl [0, 1, 3] rfl)
        · have h := gif_t c8 h
          refine lv_iload_n hx hb dX8_birdAt_25 rfl (lv_at hl 3 rfl) ?_
          refine lv_goto (tgt := 30) hx hb dX8_birdAt_26 (by decide) ?_
          cases h
          exact K30 _ _ _ hP hS (lv_sub hl [0, 1, 3] rfl)
  exact hL4 FU _ _ _ _ _ hv hP hS (lv_sub hl [2, 3, 1, 0] rfl)
def f_X8_ahead (a1 : Int32) (a2 : Int32) (I : Nat → Nat → Int32) : Option (Int32) :=
  (f_X8_of a1 (7 : Int32) I).bind fun r1 =>
  (f_X8_of a2 (7 : Int32) I).bind fun r3 =>
  if 0 ≤ ((r1 - r3) - (r1 - r3) / (400 : Int32) * (400 : Int32)) then
    some ((r1 - r3) - (r1 - r3) / (400 : Int32) * (400 : Int32))
  else
    some (((r1 - r3) - (r1 - r3) / (400 : Int32) * (400 : Int32)) + (400 : Int32))
set_option maxHeartbeats 8000000 in
set_option maxRecDepth 100000 in
theorem c_X8_ahead {l : Launch} {dC : Nat → ClassId} {dI : Nat → Nat → Nat} {ca : Nat → ClassId} {b : Nat → Nat} {A : Nat → Prop} {N : Nat} (hN : 138 ≤ N) (hA : gAd A b N) (I : Nat → Nat → Int32) (O : Nat → Nat → Option Nat) (J : Nat → Nat → Int64) (a1 : Int32) (a2 : Int32) (res : Int32) (h : f_X8_ahead a1 a2 I = some res) : Met l yX8_ahead wsX8_ahead ({ frames := 1, cells := 0, slots := 0, locals := 22 } : Room) (va_Pc [.ref (b 129), .int a1, .int a2] (gPre dC dI ca b A N I O J)) (va_Qi (fun (r : Int32) (u : Unit) => res = r) (fun (u : Unit) t => va_P (dC, dI) vwCl (hW N ca b I O J) t.heap) A) 0 0 A := by
  refine Met.ofW (cc := cX8_ahead) (maxL := 4) (ret := (some .int)) (by decide) rfl ?_
  intro p e s m args below meth c s₁ B hml hv
  obtain ⟨rfl, hP, hK, hA2, hth⟩ := hv
  have hx := B.exec
  have hb := B.bytes
  have hr := B.returns
  have hlk := B.notSynchronized
  have X : gCx p s m ([.ref (b 129), .int a1, .int a2] : List Value).toArray c RX8 cX8_ahead wsX8_ahead 4 dC dI ca b A N := ⟨hx, hb, hml, findClass_of_methodNamed B.named, atoms_spec (ws := wsX8_ahead) B.pre, hK, hA, hA2, hth⟩
  have hS : va_S A s.heap s.heap [] := va_S.rf
  have hl := lv_entry ([.ref (b 129), .int a1, .int a2] : List Value) (n := 4) (Nat.le_of_ble_eq_true rfl)
  rw [lg_entry_eq]
  generalize (lg_sl ([.ref (b 129), .int a1, .int a2] : List Value) ++ List.replicate (4 - (lg_sl ([.ref (b 129), .int a1, .int a2] : List Value)).length) Slot.unset).toArray = ls at hl ⊢
  have hl : lv_has ls 4 [(0, .ref (b 129)), (1, .int a1), (2, .int a2)] := hl
  unfold f_X8_ahead at h
  refine lv_aload_n hx hb dX8_ahead_0 rfl (lv_at hl 0 rfl) ?_
  refine lv_iload_n hx hb dX8_ahead_1 rfl (lv_at hl 1 rfl) ?_
  refine lv_bipush (v := 7) hx hb dX8_ahead_2 (by decide) ?_
  obtain ⟨q2, hcq2, h⟩ := hb_some h
  refine gdV_i (As := [.int a1, .int (7 : Int32)]) (rest := []) (BH := (fun (u : Unit) H => va_P (dC, dI) vwCl (hW N ca b I O J) H)) X hP hS (c_X8_of hN hA I O J a1 (7 : Int32) q2 hcq2) (cwV 2 X.ts gX8_ahead_X8_of rfl rfl rfl (by decide +kernel) ⟨Nat.le_of_ble_eq_true rfl, Nat.le_of_ble_eq_true rfl⟩) (gr8 X hP kc_129 (sk_in hN kc_129 (by decide))) rfl hl.1 rfl (Nat.le_of_ble_eq_true rfl) dX8_ahead_4 ⟨Nat.le_of_ble_eq_true rfl, Nat.le_of_ble_eq_true rfl⟩ (fun r1 u9 H locs hw hP hS => ?_)
  have hw := hw.symm
  subst hw
  refine lv_aload_n hx hb dX8_ahead_7 rfl (lv_at hl 0 rfl) ?_
  refine lv_iload_n hx hb dX8_ahead_8 rfl (lv_at hl 2 rfl) ?_
  refine lv_bipush (v := 7) hx hb dX8_ahead_9 (by decide) ?_
  obtain ⟨q4, hcq4, h⟩ := hb_some h
  refine gdV_i (As := [.int a2, .int (7 : Int32)]) (rest := [.int r1]) (BH := (fun (u : Unit) H => va_P (dC, dI) vwCl (hW N ca b I O J) H)) X hP hS (c_X8_of hN hA I O J a2 (7 : Int32) q4 hcq4) (cwV 2 X.ts gX8_ahead_X8_of rfl rfl rfl (by decide +kernel) ⟨Nat.le_of_ble_eq_true rfl, Nat.le_of_ble_eq_true rfl⟩) (gr8 X hP kc_129 (sk_in hN kc_129 (by decide))) rfl hl.1 rfl (Nat.le_of_ble_eq_true rfl) dX8_ahead_11 ⟨Nat.le_of_ble_eq_true rfl, Nat.le_of_ble_eq_true rfl⟩ (fun r3 u9 H locs hw hP hS => ?_)
  have hw := hw.symm
  subst hw
  refine lv_isub hx hb dX8_ahead_14 ?_
  refine lv_sipush (v := 400) hx hb dX8_ahead_15 (by decide) ?_
  refine lv_irem hx hb dX8_ahead_18 (by decide) ?_
  refine lv_istore_n (lv' := [(3, .int ((r1 - r3) - (r1 - r3) / (400 : Int32) * (400 : Int32))), (0, .ref (b 129)), (1, .int a1), (2, .int a2)]) hx hb dX8_ahead_19 rfl hl (by decide) rfl (fun ls hl => ?_)
  refine lv_iload_n hx hb dX8_ahead_20 rfl (lv_at hl 0 rfl) ?_
  refine lv_if_ge (tgt := 32) hx hb dX8_ahead_21 (by decide) (fun c5 => ?_) (fun c5 => ?_)
  · have h := gif_t c5 h
    refine lv_iload_n hx hb dX8_ahead_32 rfl (lv_at hl 0 rfl) ?_
    exact W.iret hx hb hr (fun t9 ht hW => ⟨⟨((r1 - r3) - (r1 - r3) / (400 : Int32) * (400 : Int32)), (), rfl, (Option.some.inj h).symm, gEnd ht hP⟩, hS.F ht⟩) hS.2.2 dX8_ahead_33 hlk
  · have h := gif_f c5 h
    refine lv_iload_n hx hb dX8_ahead_24 rfl (lv_at hl 0 rfl) ?_
    refine lv_sipush (v := 400) hx hb dX8_ahead_25 (by decide) ?_
    refine lv_iadd hx hb dX8_ahead_28 ?_
    refine lv_goto (tgt := 33) hx hb dX8_ahead_29 (by decide) ?_
    exact W.iret hx hb hr (fun t9 ht hW => ⟨⟨(((r1 - r3) - (r1 - r3) / (400 : Int32) * (400 : Int32)) + (400 : Int32)), (), rfl, (Option.some.inj h).symm, gEnd ht hP⟩, hS.F ht⟩) hS.2.2 dX8_ahead_33 hlk
def f_X8_gap_L5 (a1 : Int32) (a2 : Int32) (I : Nat → Nat → Int32) : Nat → Int32 → Int32 → Option (Int32)
  | 0, _, _ => none
  | fuel + 1, p1, p2 =>
    if (I 130 ((128 : Int32).toNatClampNeg)) ≤ p2 then
      some p1
    else
      (show Option (Int32) from
        if p2 = a1 then
          some p1
        else
          (f_X8_flies p2 I).bind fun r6 =>
          if r6 = 0 then
            some p1
          else
            (f_X8_of p2 (5 : Int32) I).bind fun r8 =>
            if r8 = a2 then
              (f_X8_ahead p2 a1 I).bind fun r10 =>
              (show Option (Int32) from
                if r10 = 0 then
                  some (400 : Int32)
                else
                  (f_X8_ahead p2 a1 I).bind fun r16 =>
                  some r16).bind fun p12 =>
              (show Option (Int32) from
                if p1 = 0 then
                  some p12
                else
                  if p1 ≤ p12 then
                    some p1
                  else
                    some p12).bind fun p13 =>
              some p13
            else
              some p1).bind fun p4 =>
      hlet (p2 + 1) fun x5 =>
      f_X8_gap_L5 a1 a2 I fuel p4 x5
def f_X8_gap (a1 : Int32) (a2 : Int32) (I : Nat → Nat → Int32) : Option (Int32) :=
  (f_X8_gap_L5 a1 a2 I FU (0 : Int32) (0 : Int32)).bind fun p3 =>
  some p3
set_option maxHeartbeats 8000000 in
set_option maxRecDepth 100000 in
theorem c_X8_gap {l : Launch} {dC : Nat → ClassId} {dI : Nat → Nat → Nat} {ca : Nat → ClassId} {b : Nat → Nat} {A : Nat → Prop} {N : Nat} (hN : 138 ≤ N) (hA : gAd A b N) (I : Nat → Nat → Int32) (O : Nat → Nat → Option Nat) (J : Nat → Nat → Int64) (a1 : Int32) (a2 : Int32) (res : Int32) (h : f_X8_gap a1 a2 I = some res) : Met l yX8_gap wsX8_gap ({ frames := 2, cells := 0, slots := 0, locals := 45 } : Room) (va_Pc [.ref (b 129), .int a1, .int a2] (gPre dC dI ca b A N I O J)) (va_Qi (fun (r : Int32) (u : Unit) => res = r) (fun (u : Unit) t => va_P (dC, dI) vwCl (hW N ca b I O J) t.heap) A) 0 0 A := by
  refine Met.ofW (cc := cX8_gap) (maxL := 6) (ret := (some .int)) (by decide) rfl ?_
  intro p e s m args below meth c s₁ B hml hv
  obtain ⟨rfl, hP, hK, hA2, hth⟩ := hv
  have hx := B.exec
  have hb := B.bytes
  have hr := B.returns
  have hlk := B.notSynchronized
  have X : gCx p s m ([.ref (b 129), .int a1, .int a2] : List Value).toArray c RX8 cX8_gap wsX8_gap 6 dC dI ca b A N := ⟨hx, hb, hml, findClass_of_methodNamed B.named, atoms_spec (ws := wsX8_gap) B.pre, hK, hA, hA2, hth⟩
  have hi8 : ∀ w ∈ wsX80, w ∈ wsX8_gap := (fun w h => List.mem_cons_of_mem _ (List.mem_append_right _ h))
  have hS : va_S A s.heap s.heap [] := va_S.rf
  have hl := lv_entry ([.ref (b 129), .int a1, .int a2] : List Value) (n := 6) (Nat.le_of_ble_eq_true rfl)
  rw [lg_entry_eq]
  generalize (lg_sl ([.ref (b 129), .int a1, .int a2] : List Value) ++ List.replicate (6 - (lg_sl ([.ref (b 129), .int a1, .int a2] : List Value)).length) Slot.unset).toArray = ls at hl ⊢
  have hl : lv_has ls 6 [(0, .ref (b 129)), (1, .int a1), (2, .int a2)] := hl
  unfold f_X8_gap at h
  refine lv_iconst (v := 0) hx hb dX8_gap_0 (by decide) ?_
  refine lv_istore_n (lv' := [(3, .int (0 : Int32)), (0, .ref (b 129)), (1, .int a1), (2, .int a2)]) hx hb dX8_gap_1 rfl hl (by decide) rfl (fun ls hl => ?_)
  refine lv_iconst (v := 0) hx hb dX8_gap_2 (by decide) ?_
  refine lv_istore (lv' := [(4, .int (0 : Int32)), (3, .int (0 : Int32)), (0, .ref (b 129)), (1, .int a1), (2, .int a2)]) hx hb dX8_gap_3 hl (by decide) rfl (fun ls hl => ?_)
  obtain ⟨p3, hv, h⟩ := hb_some h
  have K92 : ∀ (H : Heap) (locs : List Loc) (ls : Array Slot), va_P (dC, dI) vwCl (hW N ca b I O J) H → va_S A s.heap H locs → lv_has ls 6 [(3, .int p3)] → W p l e (headSpec wsX8_gap ({ frames := 2, cells := 0, slots := 0, locals := 45 } : Room)).room s m ([.ref (b 129), .int a1, .int a2] : List Value).toArray below meth c H locs 0 0 (MQ below (va_Qi (fun (r : Int32) (u : Unit) => res = r) (fun (u : Unit) t => va_P (dC, dI) vwCl (hW N ca b I O J) t.heap) A) ([.ref (b 129), .int a1, .int a2] : List Value).toArray s 0 0 A) (F0 m 92 ls []) := by
    intro H locs ls hP hS hl
    refine lv_iload_n hx hb dX8_gap_92 rfl (lv_at hl 0 rfl) ?_
    exact W.iret hx hb hr (fun t9 ht hW => ⟨⟨p3, (), rfl, (Option.some.inj h).symm, gEnd ht hP⟩, hS.F ht⟩) hS.2.2 dX8_gap_93 hlk
  have hL5 : ∀ (fuel : Nat) (p1 : Int32) (p2 : Int32) (H : Heap) (locs : List Loc) (ls : Array Slot), f_X8_gap_L5 a1 a2 I fuel p1 p2 = some p3 → va_P (dC, dI) vwCl (hW N ca b I O J) H → va_S A s.heap H locs → lv_has ls 6 [(0, .ref (b 129)), (1, .int a1), (2, .int a2), (3, .int p1), (4, .int p2)] → W p l e (headSpec wsX8_gap ({ frames := 2, cells := 0, slots := 0, locals := 45 } : Room)).room s m ([.ref (b 129), .int a1, .int a2] : List Value).toArray below meth c H locs 0 0 (MQ below (va_Qi (fun (r : Int32) (u : Unit) => res = r) (fun (u : Unit) t => va_P (dC, dI) vwCl (hW N ca b I O J) t.heap) A) ([.ref (b 129), .int a1, .int a2] : List Value).toArray s 0 0 A) (F0 m 5 ls []) := by
    intro fuel
    induction fuel with
    | zero =>
      intro p1 p2 H locs ls h hP hS hl
      rw [f_X8_gap_L5] at h
      cases h
    | succ fuel ih =>
      intro p1 p2 H locs ls h hP hS hl
      rw [f_X8_gap_L5] at h
      refine lv_iload hx hb dX8_gap_5 (lv_at hl 4 rfl) ?_
      refine lv_aload_n hx hb dX8_gap_7 rfl (lv_at hl 0 rfl) ?_
      refine gg8_0 X hP kc_129 (sk_in hN kc_129 (by decide)) hi8 (List.mem_of_getElem? (i := 1) rfl) dX8_gap_8 ?_
      refine lv_sipush (v := 128) hx hb dX8_gap_11 (by decide) ?_
      refine ga20 X hP kc_130 (sk_in hN kc_130 (by decide)) (L := 151) (by decide) (by decide) dX8_gap_14 ?_
      refine lv_icmp_ge (tgt := 92) hx hb dX8_gap_15 (by decide) (fun c22 => ?_) (fun c22 => ?_)
      · have h := gif_t c22 h
        cases h
        exact K92 _ _ _ hP hS (lv_sub hl [3] rfl)
      · have h := gif_f c22 h
        refine lv_iload hx hb dX8_gap_18 (lv_at hl 4 rfl) ?_
        refine lv_iload_n hx hb dX8_gap_20 rfl (lv_at hl 1 rfl) ?_
        obtain ⟨p4, hv, h⟩ := hb_some h
        have K86 : ∀ (H : Heap) (locs : List Loc) (ls : Array Slot), va_P (dC, dI) vwCl (hW N ca b I O J) H → va_S A s.heap H locs → lv_has ls 6 [(0, .ref (b 129)), (1, .int a1), (2, .int a2), (3, .int p4), (4, .int p2)] → W p l e (headSpec wsX8_gap ({ frames := 2, cells := 0, slots := 0, locals := 45 } : Room)).room s m ([.ref (b 129), .int a1, .int a2] : List Value).toArray below meth c H locs 0 0 (MQ below (va_Qi (fun (r : Int32) (u : Unit) => res = r) (fun (u : Unit) t => va_P (dC, dI) vwCl (hW N ca b I O J) t.heap) A) ([.ref (b 129), .int a1, .int a2] : List Value).toArray s 0 0 A) (F0 m 86 ls []) := by
          intro H locs ls hP hS hl
          obtain ⟨x5, ex5, h⟩ := hlet_ex h
          refine lv_iinc (v := x5) (lv' := [(4, .int x5), (0, .ref (b 129)), (1, .int a1), (2, .int a2), (3, .int p4)]) hx hb dX8_gap_86 hl (k := 4) rfl (by rw [ex5]; rfl) (by decide) rfl (fun ls hl => ?_)
          refine lv_goto (tgt := 5) hx hb dX8_gap_89 (by decide) ?_
          exact ih _ _ _ _ _ h hP hS (lv_sub hl [1, 2, 3, 4, 0] rfl)
        have h := hv
        refine lv_icmp_eq (tgt := 86) hx hb dX8_gap_21 (by decide) (fun c21 => ?_) (fun c21 => ?_)
        · have h := gif_t c21 h
          cases h
          exact K86 _ _ _ hP hS (lv_sub hl [0, 1, 2, 3, 4] rfl)
        · have h := gif_f c21 h
          refine lv_aload_n hx hb dX8_gap_24 rfl (lv_at hl 0 rfl) ?_
          refine lv_iload hx hb dX8_gap_25 (lv_at hl 4 rfl) ?_
          obtain ⟨q7, hcq7, h⟩ := hb_some h
          refine gdV_i (As := [.int p2]) (rest := []) (BH := (fun (u : Unit) H => va_P (dC, dI) vwCl (hW N ca b I O J) H)) X hP hS (c_X8_flies hN hA I O J p2 q7 hcq7) (cwV 1 X.ts gX8_gap_X8_flies rfl rfl rfl (by decide +kernel) ⟨Nat.le_of_ble_eq_true rfl, Nat.le_of_ble_eq_true rfl⟩) (gr8 X hP kc_129 (sk_in hN kc_129 (by decide))) rfl hl.1 rfl (Nat.le_of_ble_eq_true rfl) dX8_gap_27 ⟨Nat.le_of_ble_eq_true rfl, Nat.le_of_ble_eq_true rfl⟩ (fun r6 u9 H locs hw hP hS => ?_)
          have hw := hw.symm
          subst hw
          refine lv_if_eq (tgt := 86) hx hb dX8_gap_30 (by decide) (fun c20 => ?_) (fun c20 => ?_)
          · have h := gif_t c20 h
            cases h
            exact K86 _ _ _ hP hS (lv_sub hl [0, 1, 2, 3, 4] rfl)
          · have h := gif_f c20 h
            refine lv_aload_n hx hb dX8_gap_33 rfl (lv_at hl 0 rfl) ?_
            refine lv_iload hx hb dX8_gap_34 (lv_at hl 4 rfl) ?_
            refine lv_iconst (v := 5) hx hb dX8_gap_36 (by decide) ?_
            obtain ⟨q9, hcq9, h⟩ := hb_some h
            refine gdV_i (As := [.int p2, .int (5 : Int32)]) (rest := []) (BH := (fun (u : Unit) H => va_P (dC, dI) vwCl (hW N ca b I O J) H)) X hP hS (c_X8_of hN hA I O J p2 (5 : Int32) q9 hcq9) (cwV 2 X.ts gX8_gap_X8_of rfl rfl rfl (by decide +kernel) ⟨Nat.le_of_ble_eq_true rfl, Nat.le_of_ble_eq_true rfl⟩) (gr8 X hP kc_129 (sk_in hN kc_129 (by decide))) rfl hl.1 rfl (Nat.le_of_ble_eq_true rfl) dX8_gap_37 ⟨Nat.le_of_ble_eq_true rfl, Nat.le_of_ble_eq_true rfl⟩ (fun r8 u9 H locs hw hP hS => ?_)
            have hw := hw.symm
            subst hw
            refine lv_iload_n hx hb dX8_gap_40 rfl (lv_at hl 2 rfl) ?_
            refine lv_icmp_ne (tgt := 86) hx hb dX8_gap_41 (by decide) (fun c19 => ?_) (fun c19 => ?_)
            · have h := gif_f c19 h
              cases h
              exact K86 _ _ _ hP hS (lv_sub hl [0, 1, 2, 3, 4] rfl)
            · have h := gif_t c19 h
              refine lv_aload_n hx hb dX8_gap_44 rfl (lv_at hl 0 rfl) ?_
              refine lv_iload hx hb dX8_gap_45 (lv_at hl 4 rfl) ?_
              refine lv_iload_n hx hb dX8_gap_47 rfl (lv_at hl 1 rfl) ?_
              obtain ⟨q11, hcq11, h⟩ := hb_some h
              refine gdV_i (As := [.int p2, .int a1]) (rest := []) (BH := (fun (u : Unit) H => va_P (dC, dI) vwCl (hW N ca b I O J) H)) X hP hS (c_X8_ahead hN hA I O J p2 a1 q11 hcq11) (cwV 2 X.ts gX8_gap_X8_ahead rfl rfl rfl (by decide +kernel) ⟨Nat.le_of_ble_eq_true rfl, Nat.le_of_ble_eq_true rfl⟩) (gr8 X hP kc_129 (sk_in hN kc_129 (by decide))) rfl hl.1 rfl (Nat.le_of_ble_eq_true rfl) dX8_gap_48 ⟨Nat.le_of_ble_eq_true rfl, Nat.le_of_ble_eq_true rfl⟩ (fun r10 u9 H locs hw hP hS => ?_)
              have hw := hw.symm
              subst hw
              obtain ⟨p12, hv, h⟩ := hb_some h
              have K67 : ∀ (H : Heap) (locs : List Loc) (ls : Array Slot), va_P (dC, dI) vwCl (hW N ca b I O J) H → va_S A s.heap H locs → lv_has ls 6 [(0, .ref (b 129)), (1, .int a1), (2, .int a2), (3, .int p1), (4, .int p2)] → W p l e (headSpec wsX8_gap ({ frames := 2, cells := 0, slots := 0, locals := 45 } : Room)).room s m ([.ref (b 129), .int a1, .int a2] : List Value).toArray below meth c H locs 0 0 (MQ below (va_Qi (fun (r : Int32) (u : Unit) => res = r) (fun (u : Unit) t => va_P (dC, dI) vwCl (hW N ca b I O J) t.heap) A) ([.ref (b 129), .int a1, .int a2] : List Value).toArray s 0 0 A) (F0 m 67 ls [.int p12]) := by
                intro H locs ls hP hS hl
                refine lv_istore (lv' := [(5, .int p12), (0, .ref (b 129)), (1, .int a1), (2, .int a2), (3, .int p1), (4, .int p2)]) hx hb dX8_gap_67 hl (by decide) rfl (fun ls hl => ?_)
                refine lv_iload_n hx hb dX8_gap_69 rfl (lv_at hl 4 rfl) ?_
                obtain ⟨p13, hv, h⟩ := hb_some h
                have K85 : ∀ (H : Heap) (locs : List Loc) (ls : Array Slot), va_P (dC, dI) vwCl (hW N ca b I O J) H → va_S A s.heap H locs → lv_has ls 6 [(0, .ref (b 129)), (1, .int a1), (2, .int a2), (4, .int p2)] → W p l e (headSpec wsX8_gap ({ frames := 2, cells := 0, slots := 0, locals := 45 } : Room)).room s m ([.ref (b 129), .int a1, .int a2] : List Value).toArray below meth c H locs 0 0 (MQ below (va_Qi (fun (r : Int32) (u : Unit) => res = r) (fun (u : Unit) t => va_P (dC, dI) vwCl (hW N ca b I O J) t.heap) A) ([.ref (b 129), .int a1, .int a2] : List Value).toArray s 0 0 A) (F0 m 85 ls [.int p13]) := by
                  intro H locs ls hP hS hl
                  refine lv_istore_n (lv' := [(3, .int p13), (0, .ref (b 129)), (1, .int a1), (2, .int a2), (4, .int p2)]) hx hb dX8_gap_85 rfl hl (by decide) rfl (fun ls hl => ?_)
                  cases h
                  exact K86 _ _ _ hP hS (lv_sub hl [1, 2, 3, 0, 4] rfl)
                have h := hv
                refine lv_if_eq (tgt := 79) hx hb dX8_gap_70 (by decide) (fun c15 => ?_) (fun c15 => ?_)
                · have h := gif_t c15 h
                  refine lv_iload hx hb dX8_gap_79 (lv_at hl 0 rfl) ?_
                  refine lv_goto (tgt := 85) hx hb dX8_gap_81 (by decide) ?_
                  cases h
                  exact K85 _ _ _ hP hS (lv_sub hl [1, 2, 3, 5] rfl)
                · have h := gif_f c15 h
                  refine lv_iload hx hb dX8_gap_73 (lv_at hl 0 rfl) ?_
                  refine lv_iload_n hx hb dX8_gap_75 rfl (lv_at hl 4 rfl) ?_
                  refine lv_icmp_ge (tgt := 84) hx hb dX8_gap_76 (by decide) (fun c14 => ?_) (fun c14 => ?_)
                  · have h := gif_t c14 h
                    refine lv_iload_n hx hb dX8_gap_84 rfl (lv_at hl 4 rfl) ?_
                    cases h
                    exact K85 _ _ _ hP hS (lv_sub hl [1, 2, 3, 5] rfl)
                  · have h := gif_f c14 h
                    refine lv_iload hx hb dX8_gap_79 (lv_at hl 0 rfl) ?_
                    refine lv_goto (tgt := 85) hx hb dX8_gap_81 (by decide) ?_
                    cases h
                    exact K85 _ _ _ hP hS (lv_sub hl [1, 2, 3, 5] rfl)
              have h := hv
              refine lv_if_ne (tgt := 60) hx hb dX8_gap_51 (by decide) (fun c18 => ?_) (fun c18 => ?_)
              · have h := gif_f c18 h
                refine lv_aload_n hx hb dX8_gap_60 rfl (lv_at hl 0 rfl) ?_
                refine lv_iload hx hb dX8_gap_61 (lv_at hl 4 rfl) ?_
                refine lv_iload_n hx hb dX8_gap_63 rfl (lv_at hl 1 rfl) ?_
                obtain ⟨q17, hcq17, h⟩ := hb_some h
                refine gdV_i (As := [.int p2, .int a1]) (rest := []) (BH := (fun (u : Unit) H => va_P (dC, dI) vwCl (hW N ca b I O J) H)) X hP hS (c_X8_ahead hN hA I O J p2 a1 q17 hcq17) (cwV 2 X.ts gX8_gap_X8_ahead rfl rfl rfl (by decide +kernel) ⟨Nat.le_of_ble_eq_true rfl, Nat.le_of_ble_eq_true rfl⟩) (gr8 X hP kc_129 (sk_in hN kc_129 (by decide))) rfl hl.1 rfl (Nat.le_of_ble_eq_true rfl) dX8_gap_64 ⟨Nat.le_of_ble_eq_true rfl, Nat.le_of_ble_eq_true rfl⟩ (fun r16 u9 H locs hw hP hS => ?_)
                have hw := hw.symm
                subst hw
                cases h
                exact K67 _ _ _ hP hS (lv_sub hl [0, 1, 2, 3, 4] rfl)
              · have h := gif_t c18 h
                refine lv_sipush (v := 400) hx hb dX8_gap_54 (by decide) ?_
                refine lv_goto (tgt := 67) hx hb dX8_gap_57 (by decide) ?_
                cases h
                exact K67 _ _ _ hP hS (lv_sub hl [0, 1, 2, 3, 4] rfl)
  exact hL5 FU _ _ _ _ _ hv hP hS (lv_sub hl [2, 3, 4, 1, 0] rfl)
def f_X8_isDrafted (a1 : Int32) (I : Nat → Nat → Int32) : Option (Int32) :=
  (f_X8_of a1 (5 : Int32) I).bind fun r1 =>
  (f_X8_gap a1 r1 I).bind fun r3 =>
  (f_X8_in r3 (1 : Int32) (8 : Int32)).bind fun r5 =>
  hg (gz r5) <|
  some r5
set_option maxHeartbeats 8000000 in
set_option maxRecDepth 100000 in
theorem c_X8_isDrafted {l : Launch} {dC : Nat → ClassId} {dI : Nat → Nat → Nat} {ca : Nat → ClassId} {b : Nat → Nat} {A : Nat → Prop} {N : Nat} (hN : 138 ≤ N) (hA : gAd A b N) (I : Nat → Nat → Int32) (O : Nat → Nat → Option Nat) (J : Nat → Nat → Int64) (a1 : Int32) (res : Int32) (h : f_X8_isDrafted a1 I = some res) : Met l yX8_isDrafted wsX8_isDrafted ({ frames := 3, cells := 0, slots := 0, locals := 70 } : Room) (va_Pc [.ref (b 129), .int a1] (gPre dC dI ca b A N I O J)) (va_Qi (fun (r : Int32) (u : Unit) => res = r) (fun (u : Unit) t => va_P (dC, dI) vwCl (hW N ca b I O J) t.heap) A) 0 0 A := by
  refine Met.ofW (cc := cX8_isDrafted) (maxL := 2) (ret := (some .boolean)) (by decide) rfl ?_
  intro p e s m args below meth c s₁ B hml hv
  obtain ⟨rfl, hP, hK, hA2, hth⟩ := hv
  have hx := B.exec
  have hb := B.bytes
  have hr := B.returns
  have hlk := B.notSynchronized
  have X : gCx p s m ([.ref (b 129), .int a1] : List Value).toArray c RX8 cX8_isDrafted wsX8_isDrafted 2 dC dI ca b A N := ⟨hx, hb, hml, findClass_of_methodNamed B.named, atoms_spec (ws := wsX8_isDrafted) B.pre, hK, hA, hA2, hth⟩
  have hS : va_S A s.heap s.heap [] := va_S.rf
  have hl := lv_entry ([.ref (b 129), .int a1] : List Value) (n := 2) (Nat.le_of_ble_eq_true rfl)
  rw [lg_entry_eq]
  generalize (lg_sl ([.ref (b 129), .int a1] : List Value) ++ List.replicate (2 - (lg_sl ([.ref (b 129), .int a1] : List Value)).length) Slot.unset).toArray = ls at hl ⊢
  have hl : lv_has ls 2 [(0, .ref (b 129)), (1, .int a1)] := hl
  unfold f_X8_isDrafted at h
  refine lv_aload_n hx hb dX8_isDrafted_0 rfl (lv_at hl 0 rfl) ?_
  refine lv_iload_n hx hb dX8_isDrafted_1 rfl (lv_at hl 1 rfl) ?_
  refine lv_aload_n hx hb dX8_isDrafted_2 rfl (lv_at hl 0 rfl) ?_
  refine lv_iload_n hx hb dX8_isDrafted_3 rfl (lv_at hl 1 rfl) ?_
  refine lv_iconst (v := 5) hx hb dX8_isDrafted_4 (by decide) ?_
  obtain ⟨q2, hcq2, h⟩ := hb_some h
  refine gdV_i (As := [.int a1, .int (5 : Int32)]) (rest := [.int a1, .ref (b 129)]) (BH := (fun (u : Unit) H => va_P (dC, dI) vwCl (hW N ca b I O J) H)) X hP hS (c_X8_of hN hA I O J a1 (5 : Int32) q2 hcq2) (cwV 2 X.ts gX8_isDrafted_X8_of rfl rfl rfl (by decide +kernel) ⟨Nat.le_of_ble_eq_true rfl, Nat.le_of_ble_eq_true rfl⟩) (gr8 X hP kc_129 (sk_in hN kc_129 (by decide))) rfl hl.1 rfl (Nat.le_of_ble_eq_true rfl) dX8_isDrafted_5 ⟨Nat.le_of_ble_eq_true rfl, Nat.le_of_ble_eq_true rfl⟩ (fun r1 u9 H locs hw hP hS => ?_)
  have hw := hw.symm
  subst hw
  obtain ⟨q4, hcq4, h⟩ := hb_some h
  refine gdV_i (As := [.int a1, .int r1]) (rest := []) (BH := (fun (u : Unit) H => va_P (dC, dI) vwCl (hW N ca b I O J) H)) X hP hS (c_X8_gap hN hA I O J a1 r1 q4 hcq4) (cwV 2 X.ts gX8_isDrafted_X8_gap rfl rfl rfl (by decide +kernel) ⟨Nat.le_of_ble_eq_true rfl, Nat.le_of_ble_eq_true rfl⟩) (gr8 X hP kc_129 (sk_in hN kc_129 (by decide))) rfl hl.1 rfl (Nat.le_of_ble_eq_true rfl) dX8_isDrafted_8 ⟨Nat.le_of_ble_eq_true rfl, Nat.le_of_ble_eq_true rfl⟩ (fun r3 u9 H locs hw hP hS => ?_)
  have hw := hw.symm
  subst hw
  refine lv_iconst (v := 1) hx hb dX8_isDrafted_11 (by decide) ?_
  refine lv_bipush (v := 8) hx hb dX8_isDrafted_12 (by decide) ?_
  obtain ⟨q6, hcq6, h⟩ := hb_some h
  refine gdS_i (As := [.int r3, .int (1 : Int32), .int (8 : Int32)]) (rest := []) (BH := (fun (u : Unit) H => va_P (dC, dI) vwCl (hW N ca b I O J) H)) X hP hS (c_X8_in hN hA I O J r3 (1 : Int32) (8 : Int32) q6 hcq6) (va_cwS 3 X.ts gX8_isDrafted_X8_in rfl rfl rfl (by decide +kernel) ⟨Nat.le_of_ble_eq_true rfl, Nat.le_of_ble_eq_true rfl⟩) rfl hl.1 rfl (Nat.le_of_ble_eq_true rfl) dX8_isDrafted_14 ⟨Nat.le_of_ble_eq_true rfl, Nat.le_of_ble_eq_true rfl⟩ (fun r5 u9 H locs hw hP hS => ?_)
  have hw := hw.symm
  subst hw
  obtain ⟨hgz, h⟩ := hg_some h
  exact W.zret (ty := .boolean) hx hb hr (gz_nar hgz) (fun t9 ht hW => ⟨⟨r5, (), rfl, (Option.some.inj h).symm, gEnd ht hP⟩, hS.F ht⟩) hS.2.2 dX8_isDrafted_17 hlk
def f_X8_isPartnerNext_L26 (a1 : Int32) (I : Nat → Nat → Int32) (r3 : Int32) : Nat → Int32 → Int32 → Option (Int32)
  | 0, _, _ => none
  | fuel + 1, p5, p6 =>
    if p6 < 0 then
      some p5
    else
      (show Option (Int32) from
        if p6 = a1 then
          some p5
        else
          (f_X8_flies p6 I).bind fun r14 =>
          if r14 = 0 then
            some p5
          else
            (f_X8_of p6 (5 : Int32) I).bind fun r16 =>
            (f_X8_of a1 (5 : Int32) I).bind fun r18 =>
            if r16 = r18 then
              (f_X8_ahead p6 a1 I).bind fun r20 =>
              if r20 = r3 then
                some p6
              else
                some p5
            else
              some p5).bind fun p12 =>
      hlet (p6 + (-1)) fun x13 =>
      f_X8_isPartnerNext_L26 a1 I r3 fuel p12 x13
def f_X8_isPartnerNext (a1 : Int32) (I : Nat → Nat → Int32) : Option (Int32) :=
  (f_X8_of a1 (5 : Int32) I).bind fun r1 =>
  (f_X8_gap a1 r1 I).bind fun r3 =>
  (f_X8_isPartnerNext_L26 a1 I r3 FU (-1 : Int32) ((I 130 ((128 : Int32).toNatClampNeg)) - (1 : Int32))).bind fun p7 =>
  if p7 < 0 then
    some (0 : Int32)
  else
    (f_X8_of a1 (10 : Int32) I).bind fun r8 =>
    if p7 = (r8 - (1 : Int32)) then
      some (1 : Int32)
    else
      some (0 : Int32)
set_option maxHeartbeats 8000000 in
set_option maxRecDepth 100000 in
theorem c_X8_isPartnerNext {l : Launch} {dC : Nat → ClassId} {dI : Nat → Nat → Nat} {ca : Nat → ClassId} {b : Nat → Nat} {A : Nat → Prop} {N : Nat} (hN : 138 ≤ N) (hA : gAd A b N) (I : Nat → Nat → Int32) (O : Nat → Nat → Option Nat) (J : Nat → Nat → Int64) (a1 : Int32) (res : Int32) (h : f_X8_isPartnerNext a1 I = some res) : Met l yX8_isPartnerNext wsX8_isPartnerNext ({ frames := 3, cells := 0, slots := 0, locals := 70 } : Room) (va_Pc [.ref (b 129), .int a1] (gPre dC dI ca b A N I O J)) (va_Qi (fun (r : Int32) (u : Unit) => res = r) (fun (u : Unit) t => va_P (dC, dI) vwCl (hW N ca b I O J) t.heap) A) 0 0 A := by
  refine Met.ofW (cc := cX8_isPartnerNext) (maxL := 5) (ret := (some .boolean)) (by decide) rfl ?_
  intro p e s m args below meth c s₁ B hml hv
  obtain ⟨rfl, hP, hK, hA2, hth⟩ := hv
  have hx := B.exec
  have hb := B.bytes
  have hr := B.returns
  have hlk := B.notSynchronized
  have X : gCx p s m ([.ref (b 129), .int a1] : List Value).toArray c RX8 cX8_isPartnerNext wsX8_isPartnerNext 5 dC dI ca b A N := ⟨hx, hb, hml, findClass_of_methodNamed B.named, atoms_spec (ws := wsX8_isPartnerNext) B.pre, hK, hA, hA2, hth⟩
  have hi8 : ∀ w ∈ wsX80, w ∈ wsX8_isPartnerNext := (fun w h => List.mem_cons_of_mem _ (List.mem_append_right _ h))
  have hS : va_S A s.heap s.heap [] := va_S.rf
  have hl := lv_entry ([.ref (b 129), .int a1] : List Value) (n := 5) (Nat.le_of_ble_eq_true rfl)
  rw [lg_entry_eq]
  generalize (lg_sl ([.ref (b 129), .int a1] : List Value) ++ List.replicate (5 - (lg_sl ([.ref (b 129), .int a1] : List Value)).length) Slot.unset).toArray = ls at hl ⊢
  have hl : lv_has ls 5 [(0, .ref (b 129)), (1, .int a1)] := hl
  unfold f_X8_isPartnerNext at h
  refine lv_aload_n hx hb dX8_isPartnerNext_0 rfl (lv_at hl 0 rfl) ?_
  refine lv_iload_n hx hb dX8_isPartnerNext_1 rfl (lv_at hl 1 rfl) ?_
  refine lv_aload_n hx hb dX8_isPartnerNext_2 rfl (lv_at hl 0 rfl) ?_
  refine lv_iload_n hx hb dX8_isPartnerNext_3 rfl (lv_at hl 1 rfl) ?_
  refine lv_iconst (v := 5) hx hb dX8_isPartnerNext_4 (by decide) ?_
  obtain ⟨q2, hcq2, h⟩ := hb_some h
  refine gdV_i (As := [.int a1, .int (5 : Int32)]) (rest := [.int a1, .ref (b 129)]) (BH := (fun (u : Unit) H => va_P (dC, dI) vwCl (hW N ca b I O J) H)) X hP hS (c_X8_of hN hA I O J a1 (5 : Int32) q2 hcq2) (cwV 2 X.ts gX8_isPartnerNext_X8_of rfl rfl rfl (by decide +kernel) ⟨Nat.le_of_ble_eq_true rfl, Nat.le_of_ble_eq_true rfl⟩) (gr8 X hP kc_129 (sk_in hN kc_129 (by decide))) rfl hl.1 rfl (Nat.le_of_ble_eq_true rfl) dX8_isPartnerNext_5 ⟨Nat.le_of_ble_eq_true rfl, Nat.le_of_ble_eq_true rfl⟩ (fun r1 u9 H locs hw hP hS => ?_)
  have hw := hw.symm
  subst hw
  obtain ⟨q4, hcq4, h⟩ := hb_some h
  refine gdV_i (As := [.int a1, .int r1]) (rest := []) (BH := (fun (u : Unit) H => va_P (dC, dI) vwCl (hW N ca b I O J) H)) X hP hS (c_X8_gap hN hA I O J a1 r1 q4 hcq4) (cwV 2 X.ts gX8_isPartnerNext_X8_gap rfl rfl rfl (by decide +kernel) ⟨Nat.le_of_ble_eq_true rfl, Nat.le_of_ble_eq_true rfl⟩) (gr8 X hP kc_129 (sk_in hN kc_129 (by decide))) rfl hl.1 rfl (Nat.le_of_ble_eq_true rfl) dX8_isPartnerNext_8 ⟨Nat.le_of_ble_eq_true rfl, Nat.le_of_ble_eq_true rfl⟩ (fun r3 u9 H locs hw hP hS => ?_)
  have hw := hw.symm
  subst hw
  refine lv_istore_n (lv' := [(2, .int r3), (0, .ref (b 129)), (1, .int a1)]) hx hb dX8_isPartnerNext_11 rfl hl (by decide) rfl (fun ls hl => ?_)
  refine lv_iconst (v := (-1)) hx hb dX8_isPartnerNext_12 (by decide) ?_
  refine lv_istore_n (lv' := [(3, .int (-1 : Int32)), (2, .int r3), (0, .ref (b 129)), (1, .int a1)]) hx hb dX8_isPartnerNext_13 rfl hl (by decide) rfl (fun ls hl => ?_)
  refine lv_aload_n hx hb dX8_isPartnerNext_14 rfl (lv_at hl 2 rfl) ?_
  refine gg8_0 X hP kc_129 (sk_in hN kc_129 (by decide)) hi8 (List.mem_of_getElem? (i := 1) rfl) dX8_isPartnerNext_15 ?_
  refine lv_sipush (v := 128) hx hb dX8_isPartnerNext_18 (by decide) ?_
  refine ga20 X hP kc_130 (sk_in hN kc_130 (by decide)) (L := 151) (by decide) (by decide) dX8_isPartnerNext_21 ?_
  refine lv_iconst (v := 1) hx hb dX8_isPartnerNext_22 (by decide) ?_
  refine lv_isub hx hb dX8_isPartnerNext_23 ?_
  refine lv_istore (lv' := [(4, .int ((I 130 ((128 : Int32).toNatClampNeg)) - (1 : Int32))), (3, .int (-1 : Int32)), (2, .int r3), (0, .ref (b 129)), (1, .int a1)]) hx hb dX8_isPartnerNext_24 hl (by decide) rfl (fun ls hl => ?_)
  obtain ⟨p7, hv, h⟩ := hb_some h
  have K86 : ∀ (H : Heap) (locs : List Loc) (ls : Array Slot), va_P (dC, dI) vwCl (hW N ca b I O J) H → va_S A s.heap H locs → lv_has ls 5 [(0, .ref (b 129)), (1, .int a1), (3, .int p7)] → W p l e (headSpec wsX8_isPartnerNext ({ frames := 3, cells := 0, slots := 0, locals := 70 } : Room)).room s m ([.ref (b 129), .int a1] : List Value).toArray below meth c H locs 0 0 (MQ below (va_Qi (fun (r : Int32) (u : Unit) => res = r) (fun (u : Unit) t => va_P (dC, dI) vwCl (hW N ca b I O J) t.heap) A) ([.ref (b 129), .int a1] : List Value).toArray s 0 0 A) (F0 m 86 ls []) := by
    intro H locs ls hP hS hl
    refine lv_iload_n hx hb dX8_isPartnerNext_86 rfl (lv_at hl 2 rfl) ?_
    refine lv_if_lt (tgt := 107) hx hb dX8_isPartnerNext_87 (by decide) (fun c11 => ?_) (fun c11 => ?_)
    · have h := gif_t c11 h
      refine lv_iconst (v := 0) hx hb dX8_isPartnerNext_107 (by decide) ?_
      exact W.zret (ty := .boolean) hx hb hr (by decide) (fun t9 ht hW => ⟨⟨(0 : Int32), (), rfl, (Option.some.inj h).symm, gEnd ht hP⟩, hS.F ht⟩) hS.2.2 dX8_isPartnerNext_108 hlk
    · have h := gif_f c11 h
      refine lv_iload_n hx hb dX8_isPartnerNext_90 rfl (lv_at hl 2 rfl) ?_
      refine lv_aload_n hx hb dX8_isPartnerNext_91 rfl (lv_at hl 0 rfl) ?_
      refine lv_iload_n hx hb dX8_isPartnerNext_92 rfl (lv_at hl 1 rfl) ?_
      refine lv_bipush (v := 10) hx hb dX8_isPartnerNext_93 (by decide) ?_
      obtain ⟨q9, hcq9, h⟩ := hb_some h
      refine gdV_i (As := [.int a1, .int (10 : Int32)]) (rest := [.int p7]) (BH := (fun (u : Unit) H => va_P (dC, dI) vwCl (hW N ca b I O J) H)) X hP hS (c_X8_of hN hA I O J a1 (10 : Int32) q9 hcq9) (cwV 2 X.ts gX8_isPartnerNext_X8_of rfl rfl rfl (by decide +kernel) ⟨Nat.le_of_ble_eq_true rfl, Nat.le_of_ble_eq_true rfl⟩) (gr8 X hP kc_129 (sk_in hN kc_129 (by decide))) rfl hl.1 rfl (Nat.le_of_ble_eq_true rfl) dX8_isPartnerNext_95 ⟨Nat.le_of_ble_eq_true rfl, Nat.le_of_ble_eq_true rfl⟩ (fun r8 u9 H locs hw hP hS => ?_)
      have hw := hw.symm
      subst hw
      refine lv_iconst (v := 1) hx hb dX8_isPartnerNext_98 (by decide) ?_
      refine lv_isub hx hb dX8_isPartnerNext_99 ?_
      refine lv_icmp_ne (tgt := 107) hx hb dX8_isPartnerNext_100 (by decide) (fun c10 => ?_) (fun c10 => ?_)
      · have h := gif_f c10 h
        refine lv_iconst (v := 0) hx hb dX8_isPartnerNext_107 (by decide) ?_
        exact W.zret (ty := .boolean) hx hb hr (by decide) (fun t9 ht hW => ⟨⟨(0 : Int32), (), rfl, (Option.some.inj h).symm, gEnd ht hP⟩, hS.F ht⟩) hS.2.2 dX8_isPartnerNext_108 hlk
      · have h := gif_t c10 h
        refine lv_iconst (v := 1) hx hb dX8_isPartnerNext_103 (by decide) ?_
        refine lv_goto (tgt := 108) hx hb dX8_isPartnerNext_104 (by decide) ?_
        exact W.zret (ty := .boolean) hx hb hr (by decide) (fun t9 ht hW => ⟨⟨(1 : Int32), (), rfl, (Option.some.inj h).symm, gEnd ht hP⟩, hS.F ht⟩) hS.2.2 dX8_isPartnerNext_108 hlk
  have hL26 : ∀ (fuel : Nat) (p5 : Int32) (p6 : Int32) (H : Heap) (locs : List Loc) (ls : Array Slot), f_X8_isPartnerNext_L26 a1 I r3 fuel p5 p6 = some p7 → va_P (dC, dI) vwCl (hW N ca b I O J) H → va_S A s.heap H locs → lv_has ls 5 [(0, .ref (b 129)), (1, .int a1), (2, .int r3), (3, .int p5), (4, .int p6)] → W p l e (headSpec wsX8_isPartnerNext ({ frames := 3, cells := 0, slots := 0, locals := 70 } : Room)).room s m ([.ref (b 129), .int a1] : List Value).toArray below meth c H locs 0 0 (MQ below (va_Qi (fun (r : Int32) (u : Unit) => res = r) (fun (u : Unit) t => va_P (dC, dI) vwCl (hW N ca b I O J) t.heap) A) ([.ref (b 129), .int a1] : List Value).toArray s 0 0 A) (F0 m 26 ls []) := by
    intro fuel
    induction fuel with
    | zero =>
      intro p5 p6 H locs ls h hP hS hl
      rw [f_X8_isPartnerNext_L26] at h
      cases h
    | succ fuel ih =>
      intro p5 p6 H locs ls h hP hS hl
      rw [f_X8_isPartnerNext_L26] at h
      refine lv_iload hx hb dX8_isPartnerNext_26 (lv_at hl 4 rfl) ?_
      refine lv_if_lt (tgt := 86) hx hb dX8_isPartnerNext_28 (by decide) (fun c26 => ?_) (fun c26 => ?_)
      · have h := gif_t c26 h
        cases h
        exact K86 _ _ _ hP hS (lv_sub hl [0, 1, 3] rfl)
      · have h := gif_f c26 h
        refine lv_iload hx hb dX8_isPartnerNext_31 (lv_at hl 4 rfl) ?_
        refine lv_iload_n hx hb dX8_isPartnerNext_33 rfl (lv_at hl 1 rfl) ?_
        obtain ⟨p12, hv, h⟩ := hb_some h
        have K79 : ∀ (H : Heap) (locs : List Loc) (ls : Array Slot), va_P (dC, dI) vwCl (hW N ca b I O J) H → va_S A s.heap H locs → lv_has ls 5 [(0, .ref (b 129)), (1, .int a1), (2, .int r3), (4, .int p6)] → W p l e (headSpec wsX8_isPartnerNext ({ frames := 3, cells := 0, slots := 0, locals := 70 } : Room)).room s m ([.ref (b 129), .int a1] : List Value).toArray below meth c H locs 0 0 (MQ below (va_Qi (fun (r : Int32) (u : Unit) => res = r) (fun (u : Unit) t => va_P (dC, dI) vwCl (hW N ca b I O J) t.heap) A) ([.ref (b 129), .int a1] : List Value).toArray s 0 0 A) (F0 m 79 ls [.int p12]) := by
          intro H locs ls hP hS hl
          refine lv_istore_n (lv' := [(3, .int p12), (0, .ref (b 129)), (1, .int a1), (2, .int r3), (4, .int p6)]) hx hb dX8_isPartnerNext_79 rfl hl (by decide) rfl (fun ls hl => ?_)
          obtain ⟨x13, ex13, h⟩ := hlet_ex h
          refine lv_iinc (v := x13) (lv' := [(4, .int x13), (3, .int p12), (0, .ref (b 129)), (1, .int a1), (2, .int r3)]) hx hb dX8_isPartnerNext_80 hl (k := 4) rfl (by rw [ex13]; rfl) (by decide) rfl (fun ls hl => ?_)
          refine lv_goto (tgt := 26) hx hb dX8_isPartnerNext_83 (by decide) ?_
          exact ih _ _ _ _ _ h hP hS (lv_sub hl [2, 3, 4, 1, 0] rfl)
        have h := hv
        refine lv_icmp_eq (tgt := 78) hx hb dX8_isPartnerNext_34 (by decide) (fun c25 => ?_) (fun c25 => ?_)
        · have h := gif_t c25 h
          refine lv_iload_n hx hb dX8_isPartnerNext_78 rfl (lv_at hl 3 rfl) ?_
          cases h
          exact K79 _ _ _ hP hS (lv_sub hl [0, 1, 2, 4] rfl)
        · have h := gif_f c25 h
          refine lv_aload_n hx hb dX8_isPartnerNext_37 rfl (lv_at hl 0 rfl) ?_
          refine lv_iload hx hb dX8_isPartnerNext_38 (lv_at hl 4 rfl) ?_
          obtain ⟨q15, hcq15, h⟩ := hb_some h
          refine gdV_i (As := [.int p6]) (rest := []) (BH := (fun (u : Unit) H => va_P (dC, dI) vwCl (hW N ca b I O J) H)) X hP hS (c_X8_flies hN hA I O J p6 q15 hcq15) (cwV 1 X.ts gX8_isPartnerNext_X8_flies rfl rfl rfl (by decide +kernel) ⟨Nat.le_of_ble_eq_true rfl, Nat.le_of_ble_eq_true rfl⟩) (gr8 X hP kc_129 (sk_in hN kc_129 (by decide))) rfl hl.1 rfl (Nat.le_of_ble_eq_true rfl) dX8_isPartnerNext_40 ⟨Nat.le_of_ble_eq_true rfl, Nat.le_of_ble_eq_true rfl⟩ (fun r14 u9 H locs hw hP hS => ?_)
          have hw := hw.symm
          subst hw
          refine lv_if_eq (tgt := 78) hx hb dX8_isPartnerNext_43 (by decide) (fun c24 => ?_) (fun c24 => ?_)
          · have h := gif_t c24 h
            refine lv_iload_n hx hb dX8_isPartnerNext_78 rfl (lv_at hl 3 rfl) ?_
            cases h
            exact K79 _ _ _ hP hS (lv_sub hl [0, 1, 2, 4] rfl)
          · have h := gif_f c24 h
            refine lv_aload_n hx hb dX8_isPartnerNext_46 rfl (lv_at hl 0 rfl) ?_
            refine lv_iload hx hb dX8_isPartnerNext_47 (lv_at hl 4 rfl) ?_
            refine lv_iconst (v := 5) hx hb dX8_isPartnerNext_49 (by decide) ?_
            obtain ⟨q17, hcq17, h⟩ := hb_some h
            refine gdV_i (As := [.int p6, .int (5 : Int32)]) (rest := []) (BH := (fun (u : Unit) H => va_P (dC, dI) vwCl (hW N ca b I O J) H)) X hP hS (c_X8_of hN hA I O J p6 (5 : Int32) q17 hcq17) (cwV 2 X.ts gX8_isPartnerNext_X8_of rfl rfl rfl (by decide +kernel) ⟨Nat.le_of_ble_eq_true rfl, Nat.le_of_ble_eq_true rfl⟩) (gr8 X hP kc_129 (sk_in hN kc_129 (by decide))) rfl hl.1 rfl (Nat.le_of_ble_eq_true rfl) dX8_isPartnerNext_50 ⟨Nat.le_of_ble_eq_true rfl, Nat.le_of_ble_eq_true rfl⟩ (fun r16 u9 H locs hw hP hS => ?_)
            have hw := hw.symm
            subst hw
            refine lv_aload_n hx hb dX8_isPartnerNext_53 rfl (lv_at hl 0 rfl) ?_
            refine lv_iload_n hx hb dX8_isPartnerNext_54 rfl (lv_at hl 1 rfl) ?_
            refine lv_iconst (v := 5) hx hb dX8_isPartnerNext_55 (by decide) ?_
            obtain ⟨q19, hcq19, h⟩ := hb_some h
            refine gdV_i (As := [.int a1, .int (5 : Int32)]) (rest := [.int r16]) (BH := (fun (u : Unit) H => va_P (dC, dI) vwCl (hW N ca b I O J) H)) X hP hS (c_X8_of hN hA I O J a1 (5 : Int32) q19 hcq19) (cwV 2 X.ts gX8_isPartnerNext_X8_of rfl rfl rfl (by decide +kernel) ⟨Nat.le_of_ble_eq_true rfl, Nat.le_of_ble_eq_true rfl⟩) (gr8 X hP kc_129 (sk_in hN kc_129 (by decide))) rfl hl.1 rfl (Nat.le_of_ble_eq_true rfl) dX8_isPartnerNext_56 ⟨Nat.le_of_ble_eq_true rfl, Nat.le_of_ble_eq_true rfl⟩ (fun r18 u9 H locs hw hP hS => ?_)
            have hw := hw.symm
            subst hw
            refine lv_icmp_ne (tgt := 78) hx hb dX8_isPartnerNext_59 (by decide) (fun c23 => ?_) (fun c23 => ?_)
            · have h := gif_f c23 h
              refine lv_iload_n hx hb dX8_isPartnerNext_78 rfl (lv_at hl 3 rfl) ?_
              cases h
              exact K79 _ _ _ hP hS (lv_sub hl [0, 1, 2, 4] rfl)
            · have h := gif_t c23 h
              refine lv_aload_n hx hb dX8_isPartnerNext_62 rfl (lv_at hl 0 rfl) ?_
              refine lv_iload hx hb dX8_isPartnerNext_63 (lv_at hl 4 rfl) ?_
              refine lv_iload_n hx hb dX8_isPartnerNext_65 rfl (lv_at hl 1 rfl) ?_
              obtain ⟨q21, hcq21, h⟩ := hb_some h
              refine gdV_i (As := [.int p6, .int a1]) (rest := []) (BH := (fun (u : Unit) H => va_P (dC, dI) vwCl (hW N ca b I O J) H)) X hP hS (c_X8_ahead hN hA I O J p6 a1 q21 hcq21) (cwV 2 X.ts gX8_isPartnerNext_X8_ahead rfl rfl rfl (by decide +kernel) ⟨Nat.le_of_ble_eq_true rfl, Nat.le_of_ble_eq_true rfl⟩) (gr8 X hP kc_129 (sk_in hN kc_129 (by decide))) rfl hl.1 rfl (Nat.le_of_ble_eq_true rfl) dX8_isPartnerNext_66 ⟨Nat.le_of_ble_eq_true rfl, Nat.le_of_ble_eq_true rfl⟩ (fun r20 u9 H locs hw hP hS => ?_)
              have hw := hw.symm
              subst hw
              refine lv_iload_n hx hb dX8_isPartnerNext_69 rfl (lv_at hl 2 rfl) ?_
              refine lv_icmp_ne (tgt := 78) hx hb dX8_isPartnerNext_70 (by decide) (fun c22 => ?_) (fun c22 => ?_)
              · have h := gif_f c22 h
                refine lv_iload_n hx hb dX8_isPartnerNext_78 rfl (lv_at hl 3 rfl) ?_
                cases h
                exact K79 _ _ _ hP hS (lv_sub hl [0, 1, 2, 4] rfl)
              · have h := gif_t c22 h
                refine lv_iload hx hb dX8_isPartnerNext_73 (lv_at hl 4 rfl) ?_
                refine lv_goto (tgt := 79) hx hb dX8_isPartnerNext_75 (by decide) ?_
                cases h
                exact K79 _ _ _ hP hS (lv_sub hl [0, 1, 2, 4] rfl)
  exact hL26 FU _ _ _ _ _ hv hP hS (lv_sub hl [3, 4, 2, 1, 0] rfl)
def f_X8_where (a1 : Int32) (I : Nat → Nat → Int32) : Option (Int32) :=
  (f_X8_of a1 (7 : Int32) I).bind fun r1 =>
  if (70 : Int32) ≤ ((r1 - r1 / (400 : Int32) * (400 : Int32)) - (r1 - r1 / (400 : Int32) * (400 : Int32)) / (100 : Int32) * (100 : Int32)) then
    some ((4 : Int32) + ((r1 - r1 / (400 : Int32) * (400 : Int32)) / (100 : Int32)))
  else
    some ((r1 - r1 / (400 : Int32) * (400 : Int32)) / (100 : Int32))
set_option maxHeartbeats 8000000 in
set_option maxRecDepth 100000 in
theorem c_X8_where {l : Launch} {dC : Nat → ClassId} {dI : Nat → Nat → Nat} {ca : Nat → ClassId} {b : Nat → Nat} {A : Nat → Prop} {N : Nat} (hN : 138 ≤ N) (hA : gAd A b N) (I : Nat → Nat → Int32) (O : Nat → Nat → Option Nat) (J : Nat → Nat → Int64) (a1 : Int32) (res : Int32) (h : f_X8_where a1 I = some res) : Met l yX8_where wsX8_where ({ frames := 1, cells := 0, slots := 0, locals := 22 } : Room) (va_Pc [.ref (b 129), .int a1] (gPre dC dI ca b A N I O J)) (va_Qi (fun (r : Int32) (u : Unit) => res = r) (fun (u : Unit) t => va_P (dC, dI) vwCl (hW N ca b I O J) t.heap) A) 0 0 A := by
  refine Met.ofW (cc := cX8_where) (maxL := 3) (ret := (some .int)) (by decide) rfl ?_
  intro p e s m args below meth c s₁ B hml hv
  obtain ⟨rfl, hP, hK, hA2, hth⟩ := hv
  have hx := B.exec
  have hb := B.bytes
  have hr := B.returns
  have hlk := B.notSynchronized
  have X : gCx p s m ([.ref (b 129), .int a1] : List Value).toArray c RX8 cX8_where wsX8_where 3 dC dI ca b A N := ⟨hx, hb, hml, findClass_of_methodNamed B.named, atoms_spec (ws := wsX8_where) B.pre, hK, hA, hA2, hth⟩
  have hS : va_S A s.heap s.heap [] := va_S.rf
  have hl := lv_entry ([.ref (b 129), .int a1] : List Value) (n := 3) (Nat.le_of_ble_eq_true rfl)
  rw [lg_entry_eq]
  generalize (lg_sl ([.ref (b 129), .int a1] : List Value) ++ List.replicate (3 - (lg_sl ([.ref (b 129), .int a1] : List Value)).length) Slot.unset).toArray = ls at hl ⊢
  have hl : lv_has ls 3 [(0, .ref (b 129)), (1, .int a1)] := hl
  unfold f_X8_where at h
  refine lv_aload_n hx hb dX8_where_0 rfl (lv_at hl 0 rfl) ?_
  refine lv_iload_n hx hb dX8_where_1 rfl (lv_at hl 1 rfl) ?_
  refine lv_bipush (v := 7) hx hb dX8_where_2 (by decide) ?_
  obtain ⟨q2, hcq2, h⟩ := hb_some h
  refine gdV_i (As := [.int a1, .int (7 : Int32)]) (rest := []) (BH := (fun (u : Unit) H => va_P (dC, dI) vwCl (hW N ca b I O J) H)) X hP hS (c_X8_of hN hA I O J a1 (7 : Int32) q2 hcq2) (cwV 2 X.ts gX8_where_X8_of rfl rfl rfl (by decide +kernel) ⟨Nat.le_of_ble_eq_true rfl, Nat.le_of_ble_eq_true rfl⟩) (gr8 X hP kc_129 (sk_in hN kc_129 (by decide))) rfl hl.1 rfl (Nat.le_of_ble_eq_true rfl) dX8_where_4 ⟨Nat.le_of_ble_eq_true rfl, Nat.le_of_ble_eq_true rfl⟩ (fun r1 u9 H locs hw hP hS => ?_)
  have hw := hw.symm
  subst hw
  refine lv_sipush (v := 400) hx hb dX8_where_7 (by decide) ?_
  refine lv_irem hx hb dX8_where_10 (by decide) ?_
  refine lv_istore_n (lv' := [(2, .int (r1 - r1 / (400 : Int32) * (400 : Int32))), (0, .ref (b 129)), (1, .int a1)]) hx hb dX8_where_11 rfl hl (by decide) rfl (fun ls hl => ?_)
  refine lv_iload_n hx hb dX8_where_12 rfl (lv_at hl 0 rfl) ?_
  refine lv_bipush (v := 100) hx hb dX8_where_13 (by decide) ?_
  refine lv_irem hx hb dX8_where_15 (by decide) ?_
  refine lv_bipush (v := 70) hx hb dX8_where_16 (by decide) ?_
  refine lv_icmp_ge (tgt := 28) hx hb dX8_where_18 (by decide) (fun c3 => ?_) (fun c3 => ?_)
  · have h := gif_t c3 h
    refine lv_iconst (v := 4) hx hb dX8_where_28 (by decide) ?_
    refine lv_iload_n hx hb dX8_where_29 rfl (lv_at hl 0 rfl) ?_
    refine lv_bipush (v := 100) hx hb dX8_where_30 (by decide) ?_
    refine lv_idiv hx hb dX8_where_32 (by decide) ?_
    refine lv_iadd hx hb dX8_where_33 ?_
    exact W.iret hx hb hr (fun t9 ht hW => ⟨⟨((4 : Int32) + ((r1 - r1 / (400 : Int32) * (400 : Int32)) / (100 : Int32))), (), rfl, (Option.some.inj h).symm, gEnd ht hP⟩, hS.F ht⟩) hS.2.2 dX8_where_34 hlk
  · have h := gif_f c3 h
    refine lv_iload_n hx hb dX8_where_21 rfl (lv_at hl 0 rfl) ?_
    refine lv_bipush (v := 100) hx hb dX8_where_22 (by decide) ?_
    refine lv_idiv hx hb dX8_where_24 (by decide) ?_
    refine lv_goto (tgt := 34) hx hb dX8_where_25 (by decide) ?_
    exact W.iret hx hb hr (fun t9 ht hW => ⟨⟨((r1 - r1 / (400 : Int32) * (400 : Int32)) / (100 : Int32)), (), rfl, (Option.some.inj h).symm, gEnd ht hP⟩, hS.F ht⟩) hS.2.2 dX8_where_34 hlk
def f_X8_allowed (a1 : Int32) (I : Nat → Nat → Int32) : Option (Int32) :=
  (f_X8_where a1 I).bind fun r1 =>
  (show Option (Int32) from
    if (4 : Int32) ≤ r1 then
      hg (gin (((129 : Int32) + r1) - (4 : Int32)) 151) <|
      (f_X8_of a1 (5 : Int32) I).bind fun r14 =>
      some ((I 130 ((((129 : Int32) + r1) - (4 : Int32)).toNatClampNeg)) + ((2 : Int32) * r14))
    else
      (f_X8_of a1 (0 : Int32) I).bind fun r16 =>
      some r16).bind fun p3 =>
  (f_X8_of a1 (0 : Int32) I).bind fun r4 =>
  (show Option (Int32) from
    if p3 ≤ r4 then
      some p3
    else
      (f_X8_of a1 (0 : Int32) I).bind fun r10 =>
      some r10).bind fun p6 =>
  (f_X8_of a1 (4 : Int32) I).bind fun r7 =>
  if (4 : Int32) ≤ (p6 - (r7 / (10 : Int32))) then
    some (p6 - (r7 / (10 : Int32)))
  else
    some (4 : Int32)
set_option maxHeartbeats 8000000 in
set_option maxRecDepth 100000 in
theorem c_X8_allowed {l : Launch} {dC : Nat → ClassId} {dI : Nat → Nat → Nat} {ca : Nat → ClassId} {b : Nat → Nat} {A : Nat → Prop} {N : Nat} (hN : 138 ≤ N) (hA : gAd A b N) (I : Nat → Nat → Int32) (O : Nat → Nat → Option Nat) (J : Nat → Nat → Int64) (a1 : Int32) (res : Int32) (h : f_X8_allowed a1 I = some res) : Met l yX8_allowed wsX8_allowed ({ frames := 2, cells := 0, slots := 0, locals := 44 } : Room) (va_Pc [.ref (b 129), .int a1] (gPre dC dI ca b A N I O J)) (va_Qi (fun (r : Int32) (u : Unit) => res = r) (fun (u : Unit) t => va_P (dC, dI) vwCl (hW N ca b I O J) t.heap) A) 0 0 A := by
  refine Met.ofW (cc := cX8_allowed) (maxL := 5) (ret := (some .int)) (by decide) rfl ?_
  intro p e s m args below meth c s₁ B hml hv
  obtain ⟨rfl, hP, hK, hA2, hth⟩ := hv
  have hx := B.exec
  have hb := B.bytes
  have hr := B.returns
  have hlk := B.notSynchronized
  have X : gCx p s m ([.ref (b 129), .int a1] : List Value).toArray c RX8 cX8_allowed wsX8_allowed 5 dC dI ca b A N := ⟨hx, hb, hml, findClass_of_methodNamed B.named, atoms_spec (ws := wsX8_allowed) B.pre, hK, hA, hA2, hth⟩
  have hi8 : ∀ w ∈ wsX80, w ∈ wsX8_allowed := (fun w h => List.mem_cons_of_mem _ (List.mem_append_right _ h))
  have hS : va_S A s.heap s.heap [] := va_S.rf
  have hl := lv_entry ([.ref (b 129), .int a1] : List Value) (n := 5) (Nat.le_of_ble_eq_true rfl)
  rw [lg_entry_eq]
  generalize (lg_sl ([.ref (b 129), .int a1] : List Value) ++ List.replicate (5 - (lg_sl ([.ref (b 129), .int a1] : List Value)).length) Slot.unset).toArray = ls at hl ⊢
  have hl : lv_has ls 5 [(0, .ref (b 129)), (1, .int a1)] := hl
  unfold f_X8_allowed at h
  refine lv_aload_n hx hb dX8_allowed_0 rfl (lv_at hl 0 rfl) ?_
  refine lv_iload_n hx hb dX8_allowed_1 rfl (lv_at hl 1 rfl) ?_
  obtain ⟨q2, hcq2, h⟩ := hb_some h
  refine gdV_i (As := [.int a1]) (rest := []) (BH := (fun (u : Unit) H => va_P (dC, dI) vwCl (hW N ca b I O J) H)) X hP hS (c_X8_where hN hA I O J a1 q2 hcq2) (cwV 1 X.ts gX8_allowed_X8_where rfl rfl rfl (by decide +kernel) ⟨Nat.le_of_ble_eq_true rfl, Nat.le_of_ble_eq_true rfl⟩) (gr8 X hP kc_129 (sk_in hN kc_129 (by decide))) rfl hl.1 rfl (Nat.le_of_ble_eq_true rfl) dX8_allowed_2 ⟨Nat.le_of_ble_eq_true rfl, Nat.le_of_ble_eq_true rfl⟩ (fun r1 u9 H locs hw hP hS => ?_)
  have hw := hw.symm
  subst hw
  refine lv_istore_n (lv' := [(2, .int r1), (0, .ref (b 129)), (1, .int a1)]) hx hb dX8_allowed_5 rfl hl (by decide) rfl (fun ls hl => ?_)
  refine lv_iload_n hx hb dX8_allowed_6 rfl (lv_at hl 0 rfl) ?_
  refine lv_iconst (v := 4) hx hb dX8_allowed_7 (by decide) ?_
  obtain ⟨p3, hv, h⟩ := hb_some h
  have K41 : ∀ (H : Heap) (locs : List Loc) (ls : Array Slot), va_P (dC, dI) vwCl (hW N ca b I O J) H → va_S A s.heap H locs → lv_has ls 5 [(0, .ref (b 129)), (1, .int a1)] → W p l e (headSpec wsX8_allowed ({ frames := 2, cells := 0, slots := 0, locals := 44 } : Room)).room s m ([.ref (b 129), .int a1] : List Value).toArray below meth c H locs 0 0 (MQ below (va_Qi (fun (r : Int32) (u : Unit) => res = r) (fun (u : Unit) t => va_P (dC, dI) vwCl (hW N ca b I O J) t.heap) A) ([.ref (b 129), .int a1] : List Value).toArray s 0 0 A) (F0 m 41 ls [.int p3]) := by
    intro H locs ls hP hS hl
    refine lv_istore_n (lv' := [(3, .int p3), (0, .ref (b 129)), (1, .int a1)]) hx hb dX8_allowed_41 rfl hl (by decide) rfl (fun ls hl => ?_)
    refine lv_aload_n hx hb dX8_allowed_42 rfl (lv_at hl 1 rfl) ?_
    refine lv_iload_n hx hb dX8_allowed_43 rfl (lv_at hl 2 rfl) ?_
    refine lv_iconst (v := 0) hx hb dX8_allowed_44 (by decide) ?_
    obtain ⟨q5, hcq5, h⟩ := hb_some h
    refine gdV_i (As := [.int a1, .int (0 : Int32)]) (rest := []) (BH := (fun (u : Unit) H => va_P (dC, dI) vwCl (hW N ca b I O J) H)) X hP hS (c_X8_of hN hA I O J a1 (0 : Int32) q5 hcq5) (cwV 2 X.ts gX8_allowed_X8_of rfl rfl rfl (by decide +kernel) ⟨Nat.le_of_ble_eq_true rfl, Nat.le_of_ble_eq_true rfl⟩) (gr8 X hP kc_129 (sk_in hN kc_129 (by decide))) rfl hl.1 rfl (Nat.le_of_ble_eq_true rfl) dX8_allowed_45 ⟨Nat.le_of_ble_eq_true rfl, Nat.le_of_ble_eq_true rfl⟩ (fun r4 u9 H locs hw hP hS => ?_)
    have hw := hw.symm
    subst hw
    refine lv_iload_n hx hb dX8_allowed_48 rfl (lv_at hl 0 rfl) ?_
    obtain ⟨p6, hv, h⟩ := hb_some h
    have K62 : ∀ (H : Heap) (locs : List Loc) (ls : Array Slot), va_P (dC, dI) vwCl (hW N ca b I O J) H → va_S A s.heap H locs → lv_has ls 5 [(0, .ref (b 129)), (1, .int a1)] → W p l e (headSpec wsX8_allowed ({ frames := 2, cells := 0, slots := 0, locals := 44 } : Room)).room s m ([.ref (b 129), .int a1] : List Value).toArray below meth c H locs 0 0 (MQ below (va_Qi (fun (r : Int32) (u : Unit) => res = r) (fun (u : Unit) t => va_P (dC, dI) vwCl (hW N ca b I O J) t.heap) A) ([.ref (b 129), .int a1] : List Value).toArray s 0 0 A) (F0 m 62 ls [.int p6]) := by
      intro H locs ls hP hS hl
      refine lv_aload_n hx hb dX8_allowed_62 rfl (lv_at hl 0 rfl) ?_
      refine lv_iload_n hx hb dX8_allowed_63 rfl (lv_at hl 1 rfl) ?_
      refine lv_iconst (v := 4) hx hb dX8_allowed_64 (by decide) ?_
      obtain ⟨q8, hcq8, h⟩ := hb_some h
      refine gdV_i (As := [.int a1, .int (4 : Int32)]) (rest := [.int p6]) (BH := (fun (u : Unit) H => va_P (dC, dI) vwCl (hW N ca b I O J) H)) X hP hS (c_X8_of hN hA I O J a1 (4 : Int32) q8 hcq8) (cwV 2 X.ts gX8_allowed_X8_of rfl rfl rfl (by decide +kernel) ⟨Nat.le_of_ble_eq_true rfl, Nat.le_of_ble_eq_true rfl⟩) (gr8 X hP kc_129 (sk_in hN kc_129 (by decide))) rfl hl.1 rfl (Nat.le_of_ble_eq_true rfl) dX8_allowed_65 ⟨Nat.le_of_ble_eq_true rfl, Nat.le_of_ble_eq_true rfl⟩ (fun r7 u9 H locs hw hP hS => ?_)
      have hw := hw.symm
      subst hw
      refine lv_bipush (v := 10) hx hb dX8_allowed_68 (by decide) ?_
      refine lv_idiv hx hb dX8_allowed_70 (by decide) ?_
      refine lv_isub hx hb dX8_allowed_71 ?_
      refine lv_istore (lv' := [(4, .int (p6 - (r7 / (10 : Int32)))), (0, .ref (b 129)), (1, .int a1)]) hx hb dX8_allowed_72 hl (by decide) rfl (fun ls hl => ?_)
      refine lv_iload hx hb dX8_allowed_74 (lv_at hl 0 rfl) ?_
      refine lv_iconst (v := 4) hx hb dX8_allowed_76 (by decide) ?_
      refine lv_icmp_ge (tgt := 84) hx hb dX8_allowed_77 (by decide) (fun c9 => ?_) (fun c9 => ?_)
      · have h := gif_t c9 h
        refine lv_iload hx hb dX8_allowed_84 (lv_at hl 0 rfl) ?_
        exact W.iret hx hb hr (fun t9 ht hW => ⟨⟨(p6 - (r7 / (10 : Int32))), (), rfl, (Option.some.inj h).symm, gEnd ht hP⟩, hS.F ht⟩) hS.2.2 dX8_allowed_86 hlk
      · have h := gif_f c9 h
        refine lv_iconst (v := 4) hx hb dX8_allowed_80 (by decide) ?_
        refine lv_goto (tgt := 86) hx hb dX8_allowed_81 (by decide) ?_
        exact W.iret hx hb hr (fun t9 ht hW => ⟨⟨(4 : Int32), (), rfl, (Option.some.inj h).symm, gEnd ht hP⟩, hS.F ht⟩) hS.2.2 dX8_allowed_86 hlk
    have h := hv
    refine lv_icmp_ge (tgt := 61) hx hb dX8_allowed_49 (by decide) (fun c12 => ?_) (fun c12 => ?_)
    · have h := gif_t c12 h
      refine lv_iload_n hx hb dX8_allowed_61 rfl (lv_at hl 0 rfl) ?_
      cases h
      exact K62 _ _ _ hP hS (lv_sub hl [1, 2] rfl)
    · have h := gif_f c12 h
      refine lv_aload_n hx hb dX8_allowed_52 rfl (lv_at hl 1 rfl) ?_
      refine lv_iload_n hx hb dX8_allowed_53 rfl (lv_at hl 2 rfl) ?_
      refine lv_iconst (v := 0) hx hb dX8_allowed_54 (by decide) ?_
      obtain ⟨q11, hcq11, h⟩ := hb_some h
      refine gdV_i (As := [.int a1, .int (0 : Int32)]) (rest := []) (BH := (fun (u : Unit) H => va_P (dC, dI) vwCl (hW N ca b I O J) H)) X hP hS (c_X8_of hN hA I O J a1 (0 : Int32) q11 hcq11) (cwV 2 X.ts gX8_allowed_X8_of rfl rfl rfl (by decide +kernel) ⟨Nat.le_of_ble_eq_true rfl, Nat.le_of_ble_eq_true rfl⟩) (gr8 X hP kc_129 (sk_in hN kc_129 (by decide))) rfl hl.1 rfl (Nat.le_of_ble_eq_true rfl) dX8_allowed_55 ⟨Nat.le_of_ble_eq_true rfl, Nat.le_of_ble_eq_true rfl⟩ (fun r10 u9 H locs hw hP hS => ?_)
      have hw := hw.symm
      subst hw
      refine lv_goto (tgt := 62) hx hb dX8_allowed_58 (by decide) ?_
      cases h
      exact K62 _ _ _ hP hS (lv_sub hl [1, 2] rfl)
  have h := hv
  refine lv_icmp_ge (tgt := 20) hx hb dX8_allowed_8 (by decide) (fun c18 => ?_) (fun c18 => ?_)
  · have h := gif_t c18 h
    refine lv_aload_n hx hb dX8_allowed_20 rfl (lv_at hl 1 rfl) ?_
    refine gg8_0 X hP kc_129 (sk_in hN kc_129 (by decide)) hi8 (List.mem_of_getElem? (i := 1) rfl) dX8_allowed_21 ?_
    refine lv_sipush (v := 129) hx hb dX8_allowed_24 (by decide) ?_
    refine lv_iload_n hx hb dX8_allowed_27 rfl (lv_at hl 0 rfl) ?_
    refine lv_iadd hx hb dX8_allowed_28 ?_
    refine lv_iconst (v := 4) hx hb dX8_allowed_29 (by decide) ?_
    refine lv_isub hx hb dX8_allowed_30 ?_
    obtain ⟨hgi13, h⟩ := hg_some h
    refine ga20 X hP kc_130 (sk_in hN kc_130 (by decide)) (L := 151) (by decide) hgi13 dX8_allowed_31 ?_
    refine lv_iconst (v := 2) hx hb dX8_allowed_32 (by decide) ?_
    refine lv_aload_n hx hb dX8_allowed_33 rfl (lv_at hl 1 rfl) ?_
    refine lv_iload_n hx hb dX8_allowed_34 rfl (lv_at hl 2 rfl) ?_
    refine lv_iconst (v := 5) hx hb dX8_allowed_35 (by decide) ?_
    obtain ⟨q15, hcq15, h⟩ := hb_some h
    refine gdV_i (As := [.int a1, .int (5 : Int32)]) (rest := [.int (2 : Int32), .int (I 130 ((((129 : Int32) + r1) - (4 : Int32)).toNatClampNeg))]) (BH := (fun (u : Unit) H => va_P (dC, dI) vwCl (hW N ca b I O J) H)) X hP hS (c_X8_of hN hA I O J a1 (5 : Int32) q15 hcq15) (cwV 2 X.ts gX8_allowed_X8_of rfl rfl rfl (by decide +kernel) ⟨Nat.le_of_ble_eq_true rfl, Nat.le_of_ble_eq_true rfl⟩) (gr8 X hP kc_129 (sk_in hN kc_129 (by decide))) rfl hl.1 rfl (Nat.le_of_ble_eq_true rfl) dX8_allowed_36 ⟨Nat.le_of_ble_eq_true rfl, Nat.le_of_ble_eq_true rfl⟩ (fun r14 u9 H locs hw hP hS => ?_)
    have hw := hw.symm
    subst hw
    refine lv_imul hx hb dX8_allowed_39 ?_
    refine lv_iadd hx hb dX8_allowed_40 ?_
    cases h
    exact K41 _ _ _ hP hS (lv_sub hl [1, 2] rfl)
  · have h := gif_f c18 h
    refine lv_aload_n hx hb dX8_allowed_11 rfl (lv_at hl 1 rfl) ?_
    refine lv_iload_n hx hb dX8_allowed_12 rfl (lv_at hl 2 rfl) ?_
    refine lv_iconst (v := 0) hx hb dX8_allowed_13 (by decide) ?_
    obtain ⟨q17, hcq17, h⟩ := hb_some h
    refine gdV_i (As := [.int a1, .int (0 : Int32)]) (rest := []) (BH := (fun (u : Unit) H => va_P (dC, dI) vwCl (hW N ca b I O J) H)) X hP hS (c_X8_of hN hA I O J a1 (0 : Int32) q17 hcq17) (cwV 2 X.ts gX8_allowed_X8_of rfl rfl rfl (by decide +kernel) ⟨Nat.le_of_ble_eq_true rfl, Nat.le_of_ble_eq_true rfl⟩) (gr8 X hP kc_129 (sk_in hN kc_129 (by decide))) rfl hl.1 rfl (Nat.le_of_ble_eq_true rfl) dX8_allowed_14 ⟨Nat.le_of_ble_eq_true rfl, Nat.le_of_ble_eq_true rfl⟩ (fun r16 u9 H locs hw hP hS => ?_)
    have hw := hw.symm
    subst hw
    refine lv_goto (tgt := 41) hx hb dX8_allowed_17 (by decide) ?_
    cases h
    exact K41 _ _ _ hP hS (lv_sub hl [1, 2] rfl)
def f_X8_isFree_L2 (a1 : Int32) (a2 : Int32) (I : Nat → Nat → Int32) : Nat → Int32 → Option (Int32)
  | 0, _ => none
  | fuel + 1, p1 =>
    if (I 130 ((128 : Int32).toNatClampNeg)) ≤ p1 then
      some (1 : Int32)
    else
      (f_X8_ahead p1 a1 I).bind fun r2 =>
      hlet (fun (_ : Unit) => show Option (Int32) from
        hlet (p1 + 1) fun x5 =>
        f_X8_isFree_L2 a1 a2 I fuel x5) fun j4 =>
      if p1 = a1 then
        j4 ()
      else
        (f_X8_flies p1 I).bind fun r6 =>
        if r6 = 0 then
          j4 ()
        else
          (f_X8_of p1 (5 : Int32) I).bind fun r8 =>
          if r8 = a2 then
            if r2 ≤ (3 : Int32) then
              some (0 : Int32)
            else
              if r2 < (397 : Int32) then
                j4 ()
              else
                some (0 : Int32)
          else
            j4 ()
def f_X8_isFree (a1 : Int32) (a2 : Int32) (I : Nat → Nat → Int32) : Option (Int32) :=
  f_X8_isFree_L2 a1 a2 I FU (0 : Int32)
set_option maxHeartbeats 8000000 in
set_option maxRecDepth 100000 in
theorem c_X8_isFree {l : Launch} {dC : Nat → ClassId} {dI : Nat → Nat → Nat} {ca : Nat → ClassId} {b : Nat → Nat} {A : Nat → Prop} {N : Nat} (hN : 138 ≤ N) (hA : gAd A b N) (I : Nat → Nat → Int32) (O : Nat → Nat → Option Nat) (J : Nat → Nat → Int64) (a1 : Int32) (a2 : Int32) (res : Int32) (h : f_X8_isFree a1 a2 I = some res) : Met l yX8_isFree wsX8_isFree ({ frames := 2, cells := 0, slots := 0, locals := 45 } : Room) (va_Pc [.ref (b 129), .int a1, .int a2] (gPre dC dI ca b A N I O J)) (va_Qi (fun (r : Int32) (u : Unit) => res = r) (fun (u : Unit) t => va_P (dC, dI) vwCl (hW N ca b I O J) t.heap) A) 0 0 A := by
  refine Met.ofW (cc := cX8_isFree) (maxL := 5) (ret := (some .boolean)) (by decide) rfl ?_
  intro p e s m args below meth c s₁ B hml hv
  obtain ⟨rfl, hP, hK, hA2, hth⟩ := hv
  have hx := B.exec
  have hb := B.bytes
  have hr := B.returns
  have hlk := B.notSynchronized
  have X : gCx p s m ([.ref (b 129), .int a1, .int a2] : List Value).toArray c RX8 cX8_isFree wsX8_isFree 5 dC dI ca b A N := ⟨hx, hb, hml, findClass_of_methodNamed B.named, atoms_spec (ws := wsX8_isFree) B.pre, hK, hA, hA2, hth⟩
  have hi8 : ∀ w ∈ wsX80, w ∈ wsX8_isFree := (fun w h => List.mem_cons_of_mem _ (List.mem_append_right _ h))
  have hS : va_S A s.heap s.heap [] := va_S.rf
  have hl := lv_entry ([.ref (b 129), .int a1, .int a2] : List Value) (n := 5) (Nat.le_of_ble_eq_true rfl)
  rw [lg_entry_eq]
  generalize (lg_sl ([.ref (b 129), .int a1, .int a2] : List Value) ++ List.replicate (5 - (lg_sl ([.ref (b 129), .int a1, .int a2] : List Value)).length) Slot.unset).toArray = ls at hl ⊢
  have hl : lv_has ls 5 [(0, .ref (b 129)), (1, .int a1), (2, .int a2)] := hl
  unfold f_X8_isFree at h
  refine lv_iconst (v := 0) hx hb dX8_isFree_0 (by decide) ?_
  refine lv_istore_n (lv' := [(3, .int (0 : Int32)), (0, .ref (b 129)), (1, .int a1), (2, .int a2)]) hx hb dX8_isFree_1 rfl hl (by decide) rfl (fun ls hl => ?_)
  have hL2 : ∀ (fuel : Nat) (p1 : Int32) (H : Heap) (locs : List Loc) (ls : Array Slot), f_X8_isFree_L2 a1 a2 I fuel p1 = some res → va_P (dC, dI) vwCl (hW N ca b I O J) H → va_S A s.heap H locs → lv_has ls 5 [(0, .ref (b 129)), (1, .int a1), (2, .int a2), (3, .int p1)] → W p l e (headSpec wsX8_isFree ({ frames := 2, cells := 0, slots := 0, locals := 45 } : Room)).room s m ([.ref (b 129), .int a1, .int a2] : List Value).toArray below meth c H locs 0 0 (MQ below (va_Qi (fun (r : Int32) (u : Unit) => res = r) (fun (u : Unit) t => va_P (dC, dI) vwCl (hW N ca b I O J) t.heap) A) ([.ref (b 129), .int a1, .int a2] : List Value).toArray s 0 0 A) (F0 m 2 ls []) := by
    intro fuel
    induction fuel with
    | zero =>
      intro p1 H locs ls h hP hS hl
      rw [f_X8_isFree_L2] at h
      cases h
    | succ fuel ih =>
      intro p1 H locs ls h hP hS hl
      rw [f_X8_isFree_L2] at h
      refine lv_iload_n hx hb dX8_isFree_2 rfl (lv_at hl 3 rfl) ?_
      refine lv_aload_n hx hb dX8_isFree_3 rfl (lv_at hl 0 rfl) ?_
      refine gg8_0 X hP kc_129 (sk_in hN kc_129 (by decide)) hi8 (List.mem_of_getElem? (i := 1) rfl) dX8_isFree_4 ?_
      refine lv_sipush (v := 128) hx hb dX8_isFree_7 (by decide) ?_
      refine ga20 X hP kc_130 (sk_in hN kc_130 (by decide)) (L := 151) (by decide) (by decide) dX8_isFree_10 ?_
      refine lv_icmp_ge (tgt := 67) hx hb dX8_isFree_11 (by decide) (fun c15 => ?_) (fun c15 => ?_)
      · have h := gif_t c15 h
        refine lv_iconst (v := 1) hx hb dX8_isFree_67 (by decide) ?_
        exact W.zret (ty := .boolean) hx hb hr (by decide) (fun t9 ht hW => ⟨⟨(1 : Int32), (), rfl, (Option.some.inj h).symm, gEnd ht hP⟩, hS.F ht⟩) hS.2.2 dX8_isFree_68 hlk
      · have h := gif_f c15 h
        refine lv_aload_n hx hb dX8_isFree_14 rfl (lv_at hl 0 rfl) ?_
        refine lv_iload_n hx hb dX8_isFree_15 rfl (lv_at hl 3 rfl) ?_
        refine lv_iload_n hx hb dX8_isFree_16 rfl (lv_at hl 1 rfl) ?_
        obtain ⟨q3, hcq3, h⟩ := hb_some h
        refine gdV_i (As := [.int p1, .int a1]) (rest := []) (BH := (fun (u : Unit) H => va_P (dC, dI) vwCl (hW N ca b I O J) H)) X hP hS (c_X8_ahead hN hA I O J p1 a1 q3 hcq3) (cwV 2 X.ts gX8_isFree_X8_ahead rfl rfl rfl (by decide +kernel) ⟨Nat.le_of_ble_eq_true rfl, Nat.le_of_ble_eq_true rfl⟩) (gr8 X hP kc_129 (sk_in hN kc_129 (by decide))) rfl hl.1 rfl (Nat.le_of_ble_eq_true rfl) dX8_isFree_17 ⟨Nat.le_of_ble_eq_true rfl, Nat.le_of_ble_eq_true rfl⟩ (fun r2 u9 H locs hw hP hS => ?_)
        have hw := hw.symm
        subst hw
        refine lv_istore (lv' := [(4, .int r2), (0, .ref (b 129)), (1, .int a1), (2, .int a2), (3, .int p1)]) hx hb dX8_isFree_20 hl (by decide) rfl (fun ls hl => ?_)
        refine lv_iload_n hx hb dX8_isFree_22 rfl (lv_at hl 4 rfl) ?_
        refine lv_iload_n hx hb dX8_isFree_23 rfl (lv_at hl 2 rfl) ?_
        obtain ⟨j4, ej4, h⟩ := hlet_ex h
        have K61 : ∀ (H : Heap) (locs : List Loc) (ls : Array Slot), j4 () = some res → va_P (dC, dI) vwCl (hW N ca b I O J) H → va_S A s.heap H locs → lv_has ls 5 [(0, .ref (b 129)), (1, .int a1), (2, .int a2), (3, .int p1)] → W p l e (headSpec wsX8_isFree ({ frames := 2, cells := 0, slots := 0, locals := 45 } : Room)).room s m ([.ref (b 129), .int a1, .int a2] : List Value).toArray below meth c H locs 0 0 (MQ below (va_Qi (fun (r : Int32) (u : Unit) => res = r) (fun (u : Unit) t => va_P (dC, dI) vwCl (hW N ca b I O J) t.heap) A) ([.ref (b 129), .int a1, .int a2] : List Value).toArray s 0 0 A) (F0 m 61 ls []) := by
          intro H locs ls h hP hS hl
          rw [ej4] at h
          obtain ⟨x5, ex5, h⟩ := hlet_ex h
          refine lv_iinc (v := x5) (lv' := [(3, .int x5), (0, .ref (b 129)), (1, .int a1), (2, .int a2)]) hx hb dX8_isFree_61 hl (k := 3) rfl (by rw [ex5]; rfl) (by decide) rfl (fun ls hl => ?_)
          refine lv_goto (tgt := 2) hx hb dX8_isFree_64 (by decide) ?_
          exact ih _ _ _ _ h hP hS (lv_sub hl [1, 2, 3, 0] rfl)
        refine lv_icmp_eq (tgt := 61) hx hb dX8_isFree_24 (by decide) (fun c14 => ?_) (fun c14 => ?_)
        · have h := gif_t c14 h
          exact K61 _ _ _ h hP hS (lv_sub hl [1, 2, 3, 4] rfl)
        · have h := gif_f c14 h
          refine lv_aload_n hx hb dX8_isFree_27 rfl (lv_at hl 1 rfl) ?_
          refine lv_iload_n hx hb dX8_isFree_28 rfl (lv_at hl 4 rfl) ?_
          obtain ⟨q7, hcq7, h⟩ := hb_some h
          refine gdV_i (As := [.int p1]) (rest := []) (BH := (fun (u : Unit) H => va_P (dC, dI) vwCl (hW N ca b I O J) H)) X hP hS (c_X8_flies hN hA I O J p1 q7 hcq7) (cwV 1 X.ts gX8_isFree_X8_flies rfl rfl rfl (by decide +kernel) ⟨Nat.le_of_ble_eq_true rfl, Nat.le_of_ble_eq_true rfl⟩) (gr8 X hP kc_129 (sk_in hN kc_129 (by decide))) rfl hl.1 rfl (Nat.le_of_ble_eq_true rfl) dX8_isFree_29 ⟨Nat.le_of_ble_eq_true rfl, Nat.le_of_ble_eq_true rfl⟩ (fun r6 u9 H locs hw hP hS => ?_)
          have hw := hw.symm
          subst hw
          refine lv_if_eq (tgt := 61) hx hb dX8_isFree_32 (by decide) (fun c13 => ?_) (fun c13 => ?_)
          · have h := gif_t c13 h
            exact K61 _ _ _ h hP hS (lv_sub hl [1, 2, 3, 4] rfl)
          · have h := gif_f c13 h
            refine lv_aload_n hx hb dX8_isFree_35 rfl (lv_at hl 1 rfl) ?_
            refine lv_iload_n hx hb dX8_isFree_36 rfl (lv_at hl 4 rfl) ?_
            refine lv_iconst (v := 5) hx hb dX8_isFree_37 (by decide) ?_
            obtain ⟨q9, hcq9, h⟩ := hb_some h
            refine gdV_i (As := [.int p1, .int (5 : Int32)]) (rest := []) (BH := (fun (u : Unit) H => va_P (dC, dI) vwCl (hW N ca b I O J) H)) X hP hS (c_X8_of hN hA I O J p1 (5 : Int32) q9 hcq9) (cwV 2 X.ts gX8_isFree_X8_of rfl rfl rfl (by decide +kernel) ⟨Nat.le_of_ble_eq_true rfl, Nat.le_of_ble_eq_true rfl⟩) (gr8 X hP kc_129 (sk_in hN kc_129 (by decide))) rfl hl.1 rfl (Nat.le_of_ble_eq_true rfl) dX8_isFree_38 ⟨Nat.le_of_ble_eq_true rfl, Nat.le_of_ble_eq_true rfl⟩ (fun r8 u9 H locs hw hP hS => ?_)
            have hw := hw.symm
            subst hw
            refine lv_iload_n hx hb dX8_isFree_41 rfl (lv_at hl 3 rfl) ?_
            refine lv_icmp_ne (tgt := 61) hx hb dX8_isFree_42 (by decide) (fun c12 => ?_) (fun c12 => ?_)
            · have h := gif_f c12 h
              exact K61 _ _ _ h hP hS (lv_sub hl [1, 2, 3, 4] rfl)
            · have h := gif_t c12 h
              refine lv_iload hx hb dX8_isFree_45 (lv_at hl 0 rfl) ?_
              refine lv_iconst (v := 3) hx hb dX8_isFree_47 (by decide) ?_
              refine lv_icmp_le (tgt := 59) hx hb dX8_isFree_48 (by decide) (fun c11 => ?_) (fun c11 => ?_)
              · have h := gif_t c11 h
                refine lv_iconst (v := 0) hx hb dX8_isFree_59 (by decide) ?_
                exact W.zret (ty := .boolean) hx hb hr (by decide) (fun t9 ht hW => ⟨⟨(0 : Int32), (), rfl, (Option.some.inj h).symm, gEnd ht hP⟩, hS.F ht⟩) hS.2.2 dX8_isFree_60 hlk
              · have h := gif_f c11 h
                refine lv_iload hx hb dX8_isFree_51 (lv_at hl 0 rfl) ?_
                refine lv_sipush (v := 397) hx hb dX8_isFree_53 (by decide) ?_
                refine lv_icmp_lt (tgt := 61) hx hb dX8_isFree_56 (by decide) (fun c10 => ?_) (fun c10 => ?_)
                · have h := gif_t c10 h
                  exact K61 _ _ _ h hP hS (lv_sub hl [1, 2, 3, 4] rfl)
                · have h := gif_f c10 h
                  refine lv_iconst (v := 0) hx hb dX8_isFree_59 (by decide) ?_
                  exact W.zret (ty := .boolean) hx hb hr (by decide) (fun t9 ht hW => ⟨⟨(0 : Int32), (), rfl, (Option.some.inj h).symm, gEnd ht hP⟩, hS.F ht⟩) hS.2.2 dX8_isFree_60 hlk
  exact hL2 FU _ _ _ _ h hP hS (lv_sub hl [1, 2, 3, 0] rfl)
def f_X8_atMost (a1 : Int32) (a2 : Int32) : Option (Int32) :=
  if a2 = 0 then
    some a1
  else
    if a2 ≤ a1 then
      some (a2 - (1 : Int32))
    else
      some a1
set_option maxHeartbeats 8000000 in
set_option maxRecDepth 100000 in
theorem c_X8_atMost {l : Launch} {dC : Nat → ClassId} {dI : Nat → Nat → Nat} {ca : Nat → ClassId} {b : Nat → Nat} {A : Nat → Prop} {N : Nat} (hN : 138 ≤ N) (hA : gAd A b N) (I : Nat → Nat → Int32) (O : Nat → Nat → Option Nat) (J : Nat → Nat → Int64) (a1 : Int32) (a2 : Int32) (res : Int32) (h : f_X8_atMost a1 a2 = some res) : Met l yX8_atMost wsX8_atMost ({ frames := 0, cells := 0, slots := 0, locals := 0 } : Room) (va_Pc [.ref (b 129), .int a1, .int a2] (gPre dC dI ca b A N I O J)) (va_Qi (fun (r : Int32) (u : Unit) => res = r) (fun (u : Unit) t => va_P (dC, dI) vwCl (hW N ca b I O J) t.heap) A) 0 0 A := by
  refine Met.ofW (cc := cX8_atMost) (maxL := 3) (ret := (some .int)) (by decide) rfl ?_
  intro p e s m args below meth c s₁ B hml hv
  obtain ⟨rfl, hP, hK, hA2, hth⟩ := hv
  have hx := B.exec
  have hb := B.bytes
  have hr := B.returns
  have hlk := B.notSynchronized
  have X : gCx p s m ([.ref (b 129), .int a1, .int a2] : List Value).toArray c RX8 cX8_atMost wsX8_atMost 3 dC dI ca b A N := ⟨hx, hb, hml, findClass_of_methodNamed B.named, atoms_spec (ws := wsX8_atMost) B.pre, hK, hA, hA2, hth⟩
  have hS : va_S A s.heap s.heap [] := va_S.rf
  have hl := lv_entry ([.ref (b 129), .int a1, .int a2] : List Value) (n := 3) (Nat.le_of_ble_eq_true rfl)
  rw [lg_entry_eq]
  generalize (lg_sl ([.ref (b 129), .int a1, .int a2] : List Value) ++ List.replicate (3 - (lg_sl ([.ref (b 129), .int a1, .int a2] : List Value)).length) Slot.unset).toArray = ls at hl ⊢
  have hl : lv_has ls 3 [(0, .ref (b 129)), (1, .int a1), (2, .int a2)] := hl
  unfold f_X8_atMost at h
  refine lv_iload_n hx hb dX8_atMost_0 rfl (lv_at hl 2 rfl) ?_
  refine lv_if_eq (tgt := 9) hx hb dX8_atMost_1 (by decide) (fun c2 => ?_) (fun c2 => ?_)
  · have h := gif_t c2 h
    refine lv_iload_n hx hb dX8_atMost_9 rfl (lv_at hl 1 rfl) ?_
    refine lv_goto (tgt := 16) hx hb dX8_atMost_10 (by decide) ?_
    exact W.iret hx hb hr (fun t9 ht hW => ⟨⟨a1, (), rfl, (Option.some.inj h).symm, gEnd ht hP⟩, hS.F ht⟩) hS.2.2 dX8_atMost_16 hlk
  · have h := gif_f c2 h
    refine lv_iload_n hx hb dX8_atMost_4 rfl (lv_at hl 1 rfl) ?_
    refine lv_iload_n hx hb dX8_atMost_5 rfl (lv_at hl 2 rfl) ?_
    refine lv_icmp_ge (tgt := 13) hx hb dX8_atMost_6 (by decide) (fun c1 => ?_) (fun c1 => ?_)
    · have h := gif_t c1 h
      refine lv_iload_n hx hb dX8_atMost_13 rfl (lv_at hl 2 rfl) ?_
      refine lv_iconst (v := 1) hx hb dX8_atMost_14 (by decide) ?_
      refine lv_isub hx hb dX8_atMost_15 ?_
      exact W.iret hx hb hr (fun t9 ht hW => ⟨⟨(a2 - (1 : Int32)), (), rfl, (Option.some.inj h).symm, gEnd ht hP⟩, hS.F ht⟩) hS.2.2 dX8_atMost_16 hlk
    · have h := gif_f c1 h
      refine lv_iload_n hx hb dX8_atMost_9 rfl (lv_at hl 1 rfl) ?_
      refine lv_goto (tgt := 16) hx hb dX8_atMost_10 (by decide) ?_
      exact W.iret hx hb hr (fun t9 ht hW => ⟨⟨a1, (), rfl, (Option.some.inj h).symm, gEnd ht hP⟩, hS.F ht⟩) hS.2.2 dX8_atMost_16 hlk
def f_X8_fly (a1 : Int32) (I : Nat → Nat → Int32) : Option (Int32 × (Nat → Nat → Int32)) :=
  hg (gin (((16 : Int32) * a1) + (7 : Int32)) 151) <|
  hg (gin (((16 : Int32) * a1) + (5 : Int32)) 151) <|
  (f_X8_gap a1 (I 130 ((((16 : Int32) * a1) + (5 : Int32)).toNatClampNeg)) I).bind fun r3 =>
  (f_X8_isDrafted a1 I).bind fun r5 =>
  (f_X8_allowed a1 I).bind fun r7 =>
  (show Option (Int32) from
    if r5 = 0 then
      some (0 : Int32)
    else
      (f_X8_isPartnerNext a1 I).bind fun r99 =>
      if r99 = 0 then
        some (1 : Int32)
      else
        some (2 : Int32)).bind fun p9 =>
  (show Option (Int32) from
    if r5 = 0 then
      some (0 : Int32)
    else
      some (1 : Int32)).bind fun p10 =>
  hlet (gup I 130 ((145 : Int32).toNatClampNeg) ((I 130 ((145 : Int32).toNatClampNeg)) + p10)) fun I11 =>
  (show Option (Int32 × (Nat → Nat → Int32)) from
    if r3 ≤ 0 then
      some ((r7 + p9), I11)
    else
      if (1 : Int32) < (r3 - (r7 + p9)) then
        some ((r7 + p9), I11)
      else
        hg (gin (((16 : Int32) * a1) + (5 : Int32)) 151) <|
        (f_X8_where a1 I11).bind fun r81 =>
        (show Option (Int32 × (Nat → Nat → Int32)) from
          if (4 : Int32) ≤ r81 then
            some (r3, I11)
          else
            (f_X8_isFree a1 ((1 : Int32) - (I11 130 ((((16 : Int32) * a1) + (5 : Int32)).toNatClampNeg))) I11).bind fun r87 =>
            if r87 = 0 then
              some (r3, I11)
            else
              hg (gin (((16 : Int32) * a1) + (5 : Int32)) 151) <|
              hlet (gup I11 130 ((((16 : Int32) * a1) + (5 : Int32)).toNatClampNeg) ((1 : Int32) - (I11 130 ((((16 : Int32) * a1) + (5 : Int32)).toNatClampNeg)))) fun I90 =>
              hlet (gup I90 130 ((146 : Int32).toNatClampNeg) ((I90 130 ((146 : Int32).toNatClampNeg)) + (1 : Int32))) fun I91 =>
              (f_X8_gap a1 ((1 : Int32) - (I11 130 ((((16 : Int32) * a1) + (5 : Int32)).toNatClampNeg))) I91).bind fun r92 =>
              some (r92, I91)).bind fun (p83, I84) =>
        (f_X8_atMost (r7 + p9) p83).bind fun r85 =>
        some (r85, I84)).bind fun (p12, I13) =>
  (show Option (Int32) from
    if r5 = 0 then
      some (((p12 * p12) / (40 : Int32)) + (1 : Int32))
    else
      some (((((p12 * p12) / (40 : Int32)) + (1 : Int32)) * (3 : Int32)) / (5 : Int32))).bind fun p14 =>
  hg (gin (((16 : Int32) * a1) + (3 : Int32)) 151) <|
  (show Option (Int32 × (Nat → Nat → Int32)) from
    if p14 ≤ (I13 130 ((((16 : Int32) * a1) + (3 : Int32)).toNatClampNeg)) then
      hg (gin (((16 : Int32) * a1) + (3 : Int32)) 151) <|
      hg (gin (((16 : Int32) * a1) + (3 : Int32)) 151) <|
      hlet (gup I13 130 ((((16 : Int32) * a1) + (3 : Int32)).toNatClampNeg) ((I13 130 ((((16 : Int32) * a1) + (3 : Int32)).toNatClampNeg)) - p14)) fun I75 =>
      some (p12, I75)
    else
      (show Option (Int32) from
        if p12 ≤ (4 : Int32) then
          some p12
        else
          some (4 : Int32)).bind fun p76 =>
      some (p76, I13)).bind fun (p16, I17) =>
  hg (gin (((16 : Int32) * a1) + (4 : Int32)) 151) <|
  (show Option (Int32) from
    if p16 < (15 : Int32) then
      some (0 : Int32)
    else
      hg (gin (((16 : Int32) * a1) + (4 : Int32)) 151) <|
      if (100 : Int32) ≤ (I17 130 ((((16 : Int32) * a1) + (4 : Int32)).toNatClampNeg)) then
        some (0 : Int32)
      else
        some (1 : Int32)).bind fun p19 =>
  hg (gin (((16 : Int32) * a1) + (4 : Int32)) 151) <|
  hlet (gup I17 130 ((((16 : Int32) * a1) + (4 : Int32)).toNatClampNeg) ((I17 130 ((((16 : Int32) * a1) + (4 : Int32)).toNatClampNeg)) + p19)) fun I21 =>
  (show Option (Int32) from
    if ((I 130 ((((16 : Int32) * a1) + (7 : Int32)).toNatClampNeg)) + p16) < ((400 : Int32) * (((I 130 ((((16 : Int32) * a1) + (7 : Int32)).toNatClampNeg)) / (400 : Int32)) + (1 : Int32))) then
      some (0 : Int32)
    else
      some (1 : Int32)).bind fun p22 =>
  (show Option (Int32) from
    if p22 = 0 then
      some (0 : Int32)
    else
      if (((I 130 ((((16 : Int32) * a1) + (7 : Int32)).toNatClampNeg)) / (400 : Int32)) + (1 : Int32)) = (I21 130 ((133 : Int32).toNatClampNeg)) then
        some (1 : Int32)
      else
        some (0 : Int32)).bind fun p23 =>
  (show Option (Int32) from
    if p22 = 0 then
      some (0 : Int32)
    else
      if p23 = 0 then
        hg (gin (((16 : Int32) * a1) + (9 : Int32)) 151) <|
        if (I21 130 ((((16 : Int32) * a1) + (9 : Int32)).toNatClampNeg)) = (1 : Int32) then
          some (1 : Int32)
        else
          some (0 : Int32)
      else
        some (0 : Int32)).bind fun p24 =>
  (show Option (Int32) from
    if p23 = 0 then
      if p24 = 0 then
        some ((I 130 ((((16 : Int32) * a1) + (7 : Int32)).toNatClampNeg)) + p16)
      else
        some ((400 : Int32) * (((I 130 ((((16 : Int32) * a1) + (7 : Int32)).toNatClampNeg)) / (400 : Int32)) + (1 : Int32)))
    else
      some ((400 : Int32) * (((I 130 ((((16 : Int32) * a1) + (7 : Int32)).toNatClampNeg)) / (400 : Int32)) + (1 : Int32)))).bind fun p25 =>
  hg (gin (((16 : Int32) * a1) + (7 : Int32)) 151) <|
  hlet (gup I21 130 ((((16 : Int32) * a1) + (7 : Int32)).toNatClampNeg) p25) fun I27 =>
  hg (gin (((16 : Int32) * a1) + (8 : Int32)) 151) <|
  hlet (gup I27 130 ((((16 : Int32) * a1) + (8 : Int32)).toNatClampNeg) (p25 - (I 130 ((((16 : Int32) * a1) + (7 : Int32)).toNatClampNeg)))) fun I29 =>
  hlet (gup I29 130 ((144 : Int32).toNatClampNeg) ((I29 130 ((144 : Int32).toNatClampNeg)) + (p25 - (I 130 ((((16 : Int32) * a1) + (7 : Int32)).toNatClampNeg))))) fun I30 =>
  (show Option (Nat → Nat → Int32) from
    if p24 = 0 then
      some I30
    else
      hg (gin (((16 : Int32) * a1) + (6 : Int32)) 151) <|
      hlet (gup I30 130 ((((16 : Int32) * a1) + (6 : Int32)).toNatClampNeg) (2 : Int32)) fun I46 =>
      hg (gin (((16 : Int32) * a1) + (12 : Int32)) 151) <|
      hlet (gup I46 130 ((((16 : Int32) * a1) + (12 : Int32)).toNatClampNeg) (12 : Int32)) fun I48 =>
      hg (gin (((16 : Int32) * a1) + (9 : Int32)) 151) <|
      hlet (gup I48 130 ((((16 : Int32) * a1) + (9 : Int32)).toNatClampNeg) (0 : Int32)) fun I50 =>
      hg (gin (((16 : Int32) * a1) + (4 : Int32)) 151) <|
      hlet (gup I50 130 ((((16 : Int32) * a1) + (4 : Int32)).toNatClampNeg) (0 : Int32)) fun I52 =>
      hg (gin (((16 : Int32) * a1) + (3 : Int32)) 151) <|
      (show Option (Int32) from
        if ((I52 130 ((((16 : Int32) * a1) + (3 : Int32)).toNatClampNeg)) + (300 : Int32)) ≤ (999 : Int32) then
          hg (gin (((16 : Int32) * a1) + (3 : Int32)) 151) <|
          some ((I52 130 ((((16 : Int32) * a1) + (3 : Int32)).toNatClampNeg)) + (300 : Int32))
        else
          some (999 : Int32)).bind fun p54 =>
      hg (gin (((16 : Int32) * a1) + (3 : Int32)) 151) <|
      hlet (gup I52 130 ((((16 : Int32) * a1) + (3 : Int32)).toNatClampNeg) p54) fun I56 =>
      hlet (gup I56 130 ((147 : Int32).toNatClampNeg) ((I56 130 ((147 : Int32).toNatClampNeg)) + (1 : Int32))) fun I57 =>
      some I57).bind fun I31 =>
  if p23 = 0 then
    hg (gz p23) <|
    some (p23, I31)
  else
    hg (gin (((16 : Int32) * a1) + (6 : Int32)) 151) <|
    hlet (gup I31 130 ((((16 : Int32) * a1) + (6 : Int32)).toNatClampNeg) (3 : Int32)) fun I33 =>
    hg (gin (((16 : Int32) * a1) + (11 : Int32)) 151) <|
    hlet (gup I33 130 ((((16 : Int32) * a1) + (11 : Int32)).toNatClampNeg) ((I33 130 ((134 : Int32).toNatClampNeg)) + (1 : Int32))) fun I35 =>
    (show Option (Int32) from
      if (I35 130 ((135 : Int32).toNatClampNeg)) = 0 then
        hg (gin (((16 : Int32) * a1) + (10 : Int32)) 151) <|
        if (I35 130 ((((16 : Int32) * a1) + (10 : Int32)).toNatClampNeg)) ≤ 0 then
          some (0 : Int32)
        else
          some (1 : Int32)
      else
        some (0 : Int32)).bind fun p36 =>
    hlet (gup I35 130 ((149 : Int32).toNatClampNeg) ((I35 130 ((149 : Int32).toNatClampNeg)) + p36)) fun I37 =>
    hg (gin ((136 : Int32) + (I37 130 ((135 : Int32).toNatClampNeg))) 151) <|
    hlet (gup I37 130 (((136 : Int32) + (I37 130 ((135 : Int32).toNatClampNeg))).toNatClampNeg) a1) fun I39 =>
    hlet (gup I39 130 ((135 : Int32).toNatClampNeg) ((I39 130 ((135 : Int32).toNatClampNeg)) + (1 : Int32))) fun I40 =>
    hg (gz p23) <|
    some (p23, I40)
set_option maxHeartbeats 8000000 in
set_option maxRecDepth 100000 in
theorem c_X8_fly {l : Launch} {dC : Nat → ClassId} {dI : Nat → Nat → Nat} {ca : Nat → ClassId} {b : Nat → Nat} {A : Nat → Prop} {N : Nat} (hN : 138 ≤ N) (hA : gAd A b N) (I : Nat → Nat → Int32) (O : Nat → Nat → Option Nat) (J : Nat → Nat → Int64) (a1 : Int32) (res : Int32 × (Nat → Nat → Int32)) (h : f_X8_fly a1 I = some res) : Met l yX8_fly wsX8_fly ({ frames := 4, cells := 0, slots := 0, locals := 94 } : Room) (va_Pc [.ref (b 129), .int a1] (gPre dC dI ca b A N I O J)) (va_Qi (fun (r : Int32) (u : Nat → Nat → Int32) => res = (r, u)) (fun (u : Nat → Nat → Int32) t => va_P (dC, dI) vwCl (hW N ca b u O J) t.heap) A) 0 0 A := by
  refine Met.ofW (cc := cX8_fly) (maxL := 13) (ret := (some .boolean)) (by decide) rfl ?_
  intro p e s m args below meth c s₁ B hml hv
  obtain ⟨rfl, hP, hK, hA2, hth⟩ := hv
  have hx := B.exec
  have hb := B.bytes
  have hr := B.returns
  have hlk := B.notSynchronized
  have X : gCx p s m ([.ref (b 129), .int a1] : List Value).toArray c RX8 cX8_fly wsX8_fly 13 dC dI ca b A N := ⟨hx, hb, hml, findClass_of_methodNamed B.named, atoms_spec (ws := wsX8_fly) B.pre, hK, hA, hA2, hth⟩
  have hi8 : ∀ w ∈ wsX80, w ∈ wsX8_fly := (fun w h => List.mem_cons_of_mem _ (List.mem_append_right _ h))
  have hS : va_S A s.heap s.heap [] := va_S.rf
  have hl := lv_entry ([.ref (b 129), .int a1] : List Value) (n := 13) (Nat.le_of_ble_eq_true rfl)
  rw [lg_entry_eq]
  generalize (lg_sl ([.ref (b 129), .int a1] : List Value) ++ List.replicate (13 - (lg_sl ([.ref (b 129), .int a1] : List Value)).length) Slot.unset).toArray = ls at hl ⊢
  have hl : lv_has ls 13 [(0, .ref (b 129)), (1, .int a1)] := hl
  unfold f_X8_fly at h
  refine lv_bipush (v := 16) hx hb dX8_fly_0 (by decide) ?_
  refine lv_iload_n hx hb dX8_fly_2 rfl (lv_at hl 1 rfl) ?_
  refine lv_imul hx hb dX8_fly_3 ?_
  refine lv_istore_n (lv' := [(2, .int ((16 : Int32) * a1)), (0, .ref (b 129)), (1, .int a1)]) hx hb dX8_fly_4 rfl hl (by decide) rfl (fun ls hl => ?_)
  refine lv_aload_n hx hb dX8_fly_5 rfl (lv_at hl 1 rfl) ?_
  refine gg8_0 X hP kc_129 (sk_in hN kc_129 (by decide)) hi8 (List.mem_of_getElem? (i := 1) rfl) dX8_fly_6 ?_
  refine lv_iload_n hx hb dX8_fly_9 rfl (lv_at hl 0 rfl) ?_
  refine lv_bipush (v := 7) hx hb dX8_fly_10 (by decide) ?_
  refine lv_iadd hx hb dX8_fly_12 ?_
  obtain ⟨hgi1, h⟩ := hg_some h
  refine ga20 X hP kc_130 (sk_in hN kc_130 (by decide)) (L := 151) (by decide) hgi1 dX8_fly_13 ?_
  refine lv_istore_n (lv' := [(3, .int (I 130 ((((16 : Int32) * a1) + (7 : Int32)).toNatClampNeg))), (2, .int ((16 : Int32) * a1)), (0, .ref (b 129)), (1, .int a1)]) hx hb dX8_fly_14 rfl hl (by decide) rfl (fun ls hl => ?_)
  refine lv_aload_n hx hb dX8_fly_15 rfl (lv_at hl 2 rfl) ?_
  refine lv_iload_n hx hb dX8_fly_16 rfl (lv_at hl 3 rfl) ?_
  refine lv_aload_n hx hb dX8_fly_17 rfl (lv_at hl 2 rfl) ?_
  refine gg8_0 X hP kc_129 (sk_in hN kc_129 (by decide)) hi8 (List.mem_of_getElem? (i := 1) rfl) dX8_fly_18 ?_
  refine lv_iload_n hx hb dX8_fly_21 rfl (lv_at hl 1 rfl) ?_
  refine lv_iconst (v := 5) hx hb dX8_fly_22 (by decide) ?_
  refine lv_iadd hx hb dX8_fly_23 ?_
  obtain ⟨hgi2, h⟩ := hg_some h
  refine ga20 X hP kc_130 (sk_in hN kc_130 (by decide)) (L := 151) (by decide) hgi2 dX8_fly_24 ?_
  obtain ⟨q4, hcq4, h⟩ := hb_some h
  refine gdV_i (As := [.int a1, .int (I 130 ((((16 : Int32) * a1) + (5 : Int32)).toNatClampNeg))]) (rest := []) (BH := (fun (u : Unit) H => va_P (dC, dI) vwCl (hW N ca b I O J) H)) X hP hS (c_X8_gap hN hA I O J a1 (I 130 ((((16 : Int32) * a1) + (5 : Int32)).toNatClampNeg)) q4 hcq4) (cwV 2 X.ts gX8_fly_X8_gap rfl rfl rfl (by decide +kernel) ⟨Nat.le_of_ble_eq_true rfl, Nat.le_of_ble_eq_true rfl⟩) (gr8 X hP kc_129 (sk_in hN kc_129 (by decide))) rfl hl.1 rfl (Nat.le_of_ble_eq_true rfl) dX8_fly_25 ⟨Nat.le_of_ble_eq_true rfl, Nat.le_of_ble_eq_true rfl⟩ (fun r3 u9 H locs hw hP hS => ?_)
  have hw := hw.symm
  subst hw
  refine lv_istore (lv' := [(4, .int r3), (3, .int (I 130 ((((16 : Int32) * a1) + (7 : Int32)).toNatClampNeg))), (2, .int ((16 : Int32) * a1)), (0, .ref (b 129)), (1, .int a1)]) hx hb dX8_fly_28 hl (by decide) rfl (fun ls hl => ?_)
  refine lv_aload_n hx hb dX8_fly_30 rfl (lv_at hl 3 rfl) ?_
  refine lv_iload_n hx hb dX8_fly_31 rfl (lv_at hl 4 rfl) ?_
  obtain ⟨q6, hcq6, h⟩ := hb_some h
  refine gdV_i (As := [.int a1]) (rest := []) (BH := (fun (u : Unit) H => va_P (dC, dI) vwCl (hW N ca b I O J) H)) X hP hS (c_X8_isDrafted hN hA I O J a1 q6 hcq6) (cwV 1 X.ts gX8_fly_X8_isDrafted rfl rfl rfl (by decide +kernel) ⟨Nat.le_of_ble_eq_true rfl, Nat.le_of_ble_eq_true rfl⟩) (gr8 X hP kc_129 (sk_in hN kc_129 (by decide))) rfl hl.1 rfl (Nat.le_of_ble_eq_true rfl) dX8_fly_32 ⟨Nat.le_of_ble_eq_true rfl, Nat.le_of_ble_eq_true rfl⟩ (fun r5 u9 H locs hw hP hS => ?_)
  have hw := hw.symm
  subst hw
  refine lv_istore (lv' := [(5, .int r5), (4, .int r3), (3, .int (I 130 ((((16 : Int32) * a1) + (7 : Int32)).toNatClampNeg))), (2, .int ((16 : Int32) * a1)), (0, .ref (b 129)), (1, .int a1)]) hx hb dX8_fly_35 hl (by decide) rfl (fun ls hl => ?_)
  refine lv_aload_n hx hb dX8_fly_37 rfl (lv_at hl 4 rfl) ?_
  refine lv_iload_n hx hb dX8_fly_38 rfl (lv_at hl 5 rfl) ?_
  obtain ⟨q8, hcq8, h⟩ := hb_some h
  refine gdV_i (As := [.int a1]) (rest := []) (BH := (fun (u : Unit) H => va_P (dC, dI) vwCl (hW N ca b I O J) H)) X hP hS (c_X8_allowed hN hA I O J a1 q8 hcq8) (cwV 1 X.ts gX8_fly_X8_allowed rfl rfl rfl (by decide +kernel) ⟨Nat.le_of_ble_eq_true rfl, Nat.le_of_ble_eq_true rfl⟩) (gr8 X hP kc_129 (sk_in hN kc_129 (by decide))) rfl hl.1 rfl (Nat.le_of_ble_eq_true rfl) dX8_fly_39 ⟨Nat.le_of_ble_eq_true rfl, Nat.le_of_ble_eq_true rfl⟩ (fun r7 u9 H locs hw hP hS => ?_)
  have hw := hw.symm
  subst hw
  refine lv_iload hx hb dX8_fly_42 (lv_at hl 0 rfl) ?_
  obtain ⟨p9, hv, h⟩ := hb_some h
  have K64 : ∀ (H : Heap) (locs : List Loc) (ls : Array Slot), va_P (dC, dI) vwCl (hW N ca b I O J) H → va_S A s.heap H locs → lv_has ls 13 [(0, .ref (b 129)), (1, .int a1), (2, .int ((16 : Int32) * a1)), (3, .int (I 130 ((((16 : Int32) * a1) + (7 : Int32)).toNatClampNeg))), (4, .int r3), (5, .int r5)] → W p l e (headSpec wsX8_fly ({ frames := 4, cells := 0, slots := 0, locals := 94 } : Room)).room s m ([.ref (b 129), .int a1] : List Value).toArray below meth c H locs 0 0 (MQ below (va_Qi (fun (r : Int32) (u : Nat → Nat → Int32) => res = (r, u)) (fun (u : Nat → Nat → Int32) t => va_P (dC, dI) vwCl (hW N ca b u O J) t.heap) A) ([.ref (b 129), .int a1] : List Value).toArray s 0 0 A) (F0 m 64 ls [.int p9, .int r7]) := by
    intro H locs ls hP hS hl
    refine lv_iadd hx hb dX8_fly_64 ?_
    refine lv_istore (lv' := [(6, .int (r7 + p9)), (0, .ref (b 129)), (1, .int a1), (2, .int ((16 : Int32) * a1)), (3, .int (I 130 ((((16 : Int32) * a1) + (7 : Int32)).toNatClampNeg))), (4, .int r3), (5, .int r5)]) hx hb dX8_fly_65 hl (by decide) rfl (fun ls hl => ?_)
    refine lv_aload_n hx hb dX8_fly_67 rfl (lv_at hl 1 rfl) ?_
    refine gg8_0 X hP kc_129 (sk_in hN kc_129 (by decide)) hi8 (List.mem_of_getElem? (i := 1) rfl) dX8_fly_68 ?_
    refine lv_sipush (v := 145) hx hb dX8_fly_71 (by decide) ?_
    refine lv_dup2_11 hx hb dX8_fly_74 rfl rfl ?_
    refine ga20 X hP kc_130 (sk_in hN kc_130 (by decide)) (L := 151) (by decide) (by decide) dX8_fly_75 ?_
    refine lv_iload hx hb dX8_fly_76 (lv_at hl 6 rfl) ?_
    obtain ⟨p10, hv, h⟩ := hb_some h
    have K86 : ∀ (H : Heap) (locs : List Loc) (ls : Array Slot), va_P (dC, dI) vwCl (hW N ca b I O J) H → va_S A s.heap H locs → lv_has ls 13 [(0, .ref (b 129)), (1, .int a1), (2, .int ((16 : Int32) * a1)), (3, .int (I 130 ((((16 : Int32) * a1) + (7 : Int32)).toNatClampNeg))), (4, .int r3), (5, .int r5), (6, .int (r7 + p9))] → W p l e (headSpec wsX8_fly ({ frames := 4, cells := 0, slots := 0, locals := 94 } : Room)).room s m ([.ref (b 129), .int a1] : List Value).toArray below meth c H locs 0 0 (MQ below (va_Qi (fun (r : Int32) (u : Nat → Nat → Int32) => res = (r, u)) (fun (u : Nat → Nat → Int32) t => va_P (dC, dI) vwCl (hW N ca b u O J) t.heap) A) ([.ref (b 129), .int a1] : List Value).toArray s 0 0 A) (F0 m 86 ls [.int p10, .int (I 130 ((145 : Int32).toNatClampNeg)), .int (145 : Int32), .ref (b 130)]) := by
      intro H locs ls hP hS hl
      refine lv_iadd hx hb dX8_fly_86 ?_
      refine gs20 X hP hS kc_130 (sk_in hN kc_130 (by decide)) (L := 151) (by decide) (by decide) dX8_fly_87 (fun H locs hP hS => ?_)
      obtain ⟨I11, eI11, h⟩ := hlet_ex h
      rw [← eI11] at hP
      refine lv_iload hx hb dX8_fly_88 (lv_at hl 4 rfl) ?_
      obtain ⟨⟨p12, I13⟩, hv, h⟩ := hb_some h
      have K174 : ∀ (H : Heap) (locs : List Loc) (ls : Array Slot), va_P (dC, dI) vwCl (hW N ca b I13 O J) H → va_S A s.heap H locs → lv_has ls 13 [(0, .ref (b 129)), (1, .int a1), (2, .int ((16 : Int32) * a1)), (3, .int (I 130 ((((16 : Int32) * a1) + (7 : Int32)).toNatClampNeg))), (5, .int r5), (6, .int p12)] → W p l e (headSpec wsX8_fly ({ frames := 4, cells := 0, slots := 0, locals := 94 } : Room)).room s m ([.ref (b 129), .int a1] : List Value).toArray below meth c H locs 0 0 (MQ below (va_Qi (fun (r : Int32) (u : Nat → Nat → Int32) => res = (r, u)) (fun (u : Nat → Nat → Int32) t => va_P (dC, dI) vwCl (hW N ca b u O J) t.heap) A) ([.ref (b 129), .int a1] : List Value).toArray s 0 0 A) (F0 m 174 ls []) := by
        intro H locs ls hP hS hl
        refine lv_iload hx hb dX8_fly_174 (lv_at hl 5 rfl) ?_
        refine lv_iload hx hb dX8_fly_176 (lv_at hl 5 rfl) ?_
        refine lv_imul hx hb dX8_fly_178 ?_
        refine lv_bipush (v := 40) hx hb dX8_fly_179 (by decide) ?_
        refine lv_idiv hx hb dX8_fly_181 (by decide) ?_
        refine lv_iconst (v := 1) hx hb dX8_fly_182 (by decide) ?_
        refine lv_iadd hx hb dX8_fly_183 ?_
        refine lv_istore (lv' := [(7, .int (((p12 * p12) / (40 : Int32)) + (1 : Int32))), (0, .ref (b 129)), (1, .int a1), (2, .int ((16 : Int32) * a1)), (3, .int (I 130 ((((16 : Int32) * a1) + (7 : Int32)).toNatClampNeg))), (5, .int r5), (6, .int p12)]) hx hb dX8_fly_184 hl (by decide) rfl (fun ls hl => ?_)
        refine lv_iload hx hb dX8_fly_186 (lv_at hl 5 rfl) ?_
        obtain ⟨p14, hv, h⟩ := hb_some h
        have K202 : ∀ (H : Heap) (locs : List Loc) (ls : Array Slot), va_P (dC, dI) vwCl (hW N ca b I13 O J) H → va_S A s.heap H locs → lv_has ls 13 [(0, .ref (b 129)), (1, .int a1), (2, .int ((16 : Int32) * a1)), (3, .int (I 130 ((((16 : Int32) * a1) + (7 : Int32)).toNatClampNeg))), (6, .int p12)] → W p l e (headSpec wsX8_fly ({ frames := 4, cells := 0, slots := 0, locals := 94 } : Room)).room s m ([.ref (b 129), .int a1] : List Value).toArray below meth c H locs 0 0 (MQ below (va_Qi (fun (r : Int32) (u : Nat → Nat → Int32) => res = (r, u)) (fun (u : Nat → Nat → Int32) t => va_P (dC, dI) vwCl (hW N ca b u O J) t.heap) A) ([.ref (b 129), .int a1] : List Value).toArray s 0 0 A) (F0 m 202 ls [.int p14]) := by
          intro H locs ls hP hS hl
          refine lv_istore (lv' := [(7, .int p14), (0, .ref (b 129)), (1, .int a1), (2, .int ((16 : Int32) * a1)), (3, .int (I 130 ((((16 : Int32) * a1) + (7 : Int32)).toNatClampNeg))), (6, .int p12)]) hx hb dX8_fly_202 hl (by decide) rfl (fun ls hl => ?_)
          refine lv_aload_n hx hb dX8_fly_204 rfl (lv_at hl 1 rfl) ?_
          refine gg8_0 X hP kc_129 (sk_in hN kc_129 (by decide)) hi8 (List.mem_of_getElem? (i := 1) rfl) dX8_fly_205 ?_
          refine lv_iload_n hx hb dX8_fly_208 rfl (lv_at hl 3 rfl) ?_
          refine lv_iconst (v := 3) hx hb dX8_fly_209 (by decide) ?_
          refine lv_iadd hx hb dX8_fly_210 ?_
          obtain ⟨hgi15, h⟩ := hg_some h
          refine ga20 X hP kc_130 (sk_in hN kc_130 (by decide)) (L := 151) (by decide) hgi15 dX8_fly_211 ?_
          refine lv_iload hx hb dX8_fly_212 (lv_at hl 0 rfl) ?_
          obtain ⟨⟨p16, I17⟩, hv, h⟩ := hb_some h
          have K247 : ∀ (H : Heap) (locs : List Loc) (ls : Array Slot), va_P (dC, dI) vwCl (hW N ca b I17 O J) H → va_S A s.heap H locs → lv_has ls 13 [(0, .ref (b 129)), (1, .int a1), (2, .int ((16 : Int32) * a1)), (3, .int (I 130 ((((16 : Int32) * a1) + (7 : Int32)).toNatClampNeg))), (6, .int p16)] → W p l e (headSpec wsX8_fly ({ frames := 4, cells := 0, slots := 0, locals := 94 } : Room)).room s m ([.ref (b 129), .int a1] : List Value).toArray below meth c H locs 0 0 (MQ below (va_Qi (fun (r : Int32) (u : Nat → Nat → Int32) => res = (r, u)) (fun (u : Nat → Nat → Int32) t => va_P (dC, dI) vwCl (hW N ca b u O J) t.heap) A) ([.ref (b 129), .int a1] : List Value).toArray s 0 0 A) (F0 m 247 ls []) := by
            intro H locs ls hP hS hl
            refine lv_aload_n hx hb dX8_fly_247 rfl (lv_at hl 0 rfl) ?_
            refine gg8_0 X hP kc_129 (sk_in hN kc_129 (by decide)) hi8 (List.mem_of_getElem? (i := 1) rfl) dX8_fly_248 ?_
            refine lv_iload_n hx hb dX8_fly_251 rfl (lv_at hl 2 rfl) ?_
            refine lv_iconst (v := 4) hx hb dX8_fly_252 (by decide) ?_
            refine lv_iadd hx hb dX8_fly_253 ?_
            refine lv_dup2_11 hx hb dX8_fly_254 rfl rfl ?_
            obtain ⟨hgi18, h⟩ := hg_some h
            refine ga20 X hP kc_130 (sk_in hN kc_130 (by decide)) (L := 151) (by decide) hgi18 dX8_fly_255 ?_
            refine lv_iload hx hb dX8_fly_256 (lv_at hl 4 rfl) ?_
            refine lv_bipush (v := 15) hx hb dX8_fly_258 (by decide) ?_
            obtain ⟨p19, hv, h⟩ := hb_some h
            have K281 : ∀ (H : Heap) (locs : List Loc) (ls : Array Slot), va_P (dC, dI) vwCl (hW N ca b I17 O J) H → va_S A s.heap H locs → lv_has ls 13 [(0, .ref (b 129)), (1, .int a1), (2, .int ((16 : Int32) * a1)), (3, .int (I 130 ((((16 : Int32) * a1) + (7 : Int32)).toNatClampNeg))), (6, .int p16)] → W p l e (headSpec wsX8_fly ({ frames := 4, cells := 0, slots := 0, locals := 94 } : Room)).room s m ([.ref (b 129), .int a1] : List Value).toArray below meth c H locs 0 0 (MQ below (va_Qi (fun (r : Int32) (u : Nat → Nat → Int32) => res = (r, u)) (fun (u : Nat → Nat → Int32) t => va_P (dC, dI) vwCl (hW N ca b u O J) t.heap) A) ([.ref (b 129), .int a1] : List Value).toArray s 0 0 A) (F0 m 281 ls [.int p19, .int (I17 130 ((((16 : Int32) * a1) + (4 : Int32)).toNatClampNeg)), .int (((16 : Int32) * a1) + (4 : Int32)), .ref (b 130)]) := by
              intro H locs ls hP hS hl
              refine lv_iadd hx hb dX8_fly_281 ?_
              obtain ⟨hgi20, h⟩ := hg_some h
              refine gs20 X hP hS kc_130 (sk_in hN kc_130 (by decide)) (L := 151) (by decide) hgi20 dX8_fly_282 (fun H locs hP hS => ?_)
              obtain ⟨I21, eI21, h⟩ := hlet_ex h
              rw [← eI21] at hP
              refine lv_iload_n hx hb dX8_fly_283 rfl (lv_at hl 3 rfl) ?_
              refine lv_sipush (v := 400) hx hb dX8_fly_284 (by decide) ?_
              refine lv_idiv hx hb dX8_fly_287 (by decide) ?_
              refine lv_iconst (v := 1) hx hb dX8_fly_288 (by decide) ?_
              refine lv_iadd hx hb dX8_fly_289 ?_
              refine lv_istore (lv' := [(8, .int (((I 130 ((((16 : Int32) * a1) + (7 : Int32)).toNatClampNeg)) / (400 : Int32)) + (1 : Int32))), (0, .ref (b 129)), (1, .int a1), (2, .int ((16 : Int32) * a1)), (3, .int (I 130 ((((16 : Int32) * a1) + (7 : Int32)).toNatClampNeg))), (6, .int p16)]) hx hb dX8_fly_290 hl (by decide) rfl (fun ls hl => ?_)
              refine lv_iload_n hx hb dX8_fly_292 rfl (lv_at hl 4 rfl) ?_
              refine lv_iload hx hb dX8_fly_293 (lv_at hl 5 rfl) ?_
              refine lv_iadd hx hb dX8_fly_295 ?_
              refine lv_istore (lv' := [(9, .int ((I 130 ((((16 : Int32) * a1) + (7 : Int32)).toNatClampNeg)) + p16)), (8, .int (((I 130 ((((16 : Int32) * a1) + (7 : Int32)).toNatClampNeg)) / (400 : Int32)) + (1 : Int32))), (0, .ref (b 129)), (1, .int a1), (2, .int ((16 : Int32) * a1)), (3, .int (I 130 ((((16 : Int32) * a1) + (7 : Int32)).toNatClampNeg))), (6, .int p16)]) hx hb dX8_fly_296 hl (by decide) rfl (fun ls hl => ?_)
              refine lv_iload hx hb dX8_fly_298 (lv_at hl 0 rfl) ?_
              refine lv_sipush (v := 400) hx hb dX8_fly_300 (by decide) ?_
              refine lv_iload hx hb dX8_fly_303 (lv_at hl 1 rfl) ?_
              refine lv_imul hx hb dX8_fly_305 ?_
              obtain ⟨p22, hv, h⟩ := hb_some h
              have K314 : ∀ (H : Heap) (locs : List Loc) (ls : Array Slot), va_P (dC, dI) vwCl (hW N ca b I21 O J) H → va_S A s.heap H locs → lv_has ls 13 [(0, .ref (b 129)), (1, .int a1), (2, .int ((16 : Int32) * a1)), (3, .int (I 130 ((((16 : Int32) * a1) + (7 : Int32)).toNatClampNeg))), (8, .int (((I 130 ((((16 : Int32) * a1) + (7 : Int32)).toNatClampNeg)) / (400 : Int32)) + (1 : Int32))), (9, .int ((I 130 ((((16 : Int32) * a1) + (7 : Int32)).toNatClampNeg)) + p16))] → W p l e (headSpec wsX8_fly ({ frames := 4, cells := 0, slots := 0, locals := 94 } : Room)).room s m ([.ref (b 129), .int a1] : List Value).toArray below meth c H locs 0 0 (MQ below (va_Qi (fun (r : Int32) (u : Nat → Nat → Int32) => res = (r, u)) (fun (u : Nat → Nat → Int32) t => va_P (dC, dI) vwCl (hW N ca b u O J) t.heap) A) ([.ref (b 129), .int a1] : List Value).toArray s 0 0 A) (F0 m 314 ls [.int p22]) := by
                intro H locs ls hP hS hl
                refine lv_istore (lv' := [(10, .int p22), (0, .ref (b 129)), (1, .int a1), (2, .int ((16 : Int32) * a1)), (3, .int (I 130 ((((16 : Int32) * a1) + (7 : Int32)).toNatClampNeg))), (8, .int (((I 130 ((((16 : Int32) * a1) + (7 : Int32)).toNatClampNeg)) / (400 : Int32)) + (1 : Int32))), (9, .int ((I 130 ((((16 : Int32) * a1) + (7 : Int32)).toNatClampNeg)) + p16))]) hx hb dX8_fly_314 hl (by decide) rfl (fun ls hl => ?_)
                refine lv_iload hx hb dX8_fly_316 (lv_at hl 0 rfl) ?_
                obtain ⟨p23, hv, h⟩ := hb_some h
                have K339 : ∀ (H : Heap) (locs : List Loc) (ls : Array Slot), va_P (dC, dI) vwCl (hW N ca b I21 O J) H → va_S A s.heap H locs → lv_has ls 13 [(0, .ref (b 129)), (1, .int a1), (2, .int ((16 : Int32) * a1)), (3, .int (I 130 ((((16 : Int32) * a1) + (7 : Int32)).toNatClampNeg))), (8, .int (((I 130 ((((16 : Int32) * a1) + (7 : Int32)).toNatClampNeg)) / (400 : Int32)) + (1 : Int32))), (9, .int ((I 130 ((((16 : Int32) * a1) + (7 : Int32)).toNatClampNeg)) + p16)), (10, .int p22)] → W p l e (headSpec wsX8_fly ({ frames := 4, cells := 0, slots := 0, locals := 94 } : Room)).room s m ([.ref (b 129), .int a1] : List Value).toArray below meth c H locs 0 0 (MQ below (va_Qi (fun (r : Int32) (u : Nat → Nat → Int32) => res = (r, u)) (fun (u : Nat → Nat → Int32) t => va_P (dC, dI) vwCl (hW N ca b u O J) t.heap) A) ([.ref (b 129), .int a1] : List Value).toArray s 0 0 A) (F0 m 339 ls [.int p23]) := by
                  intro H locs ls hP hS hl
                  refine lv_istore (lv' := [(11, .int p23), (0, .ref (b 129)), (1, .int a1), (2, .int ((16 : Int32) * a1)), (3, .int (I 130 ((((16 : Int32) * a1) + (7 : Int32)).toNatClampNeg))), (8, .int (((I 130 ((((16 : Int32) * a1) + (7 : Int32)).toNatClampNeg)) / (400 : Int32)) + (1 : Int32))), (9, .int ((I 130 ((((16 : Int32) * a1) + (7 : Int32)).toNatClampNeg)) + p16)), (10, .int p22)]) hx hb dX8_fly_339 hl (by decide) rfl (fun ls hl => ?_)
                  refine lv_iload hx hb dX8_fly_341 (lv_at hl 7 rfl) ?_
                  obtain ⟨p24, hv, h⟩ := hb_some h
                  have K369 : ∀ (H : Heap) (locs : List Loc) (ls : Array Slot), va_P (dC, dI) vwCl (hW N ca b I21 O J) H → va_S A s.heap H locs → lv_has ls 13 [(0, .ref (b 129)), (1, .int a1), (2, .int ((16 : Int32) * a1)), (3, .int (I 130 ((((16 : Int32) * a1) + (7 : Int32)).toNatClampNeg))), (8, .int (((I 130 ((((16 : Int32) * a1) + (7 : Int32)).toNatClampNeg)) / (400 : Int32)) + (1 : Int32))), (9, .int ((I 130 ((((16 : Int32) * a1) + (7 : Int32)).toNatClampNeg)) + p16)), (11, .int p23)] → W p l e (headSpec wsX8_fly ({ frames := 4, cells := 0, slots := 0, locals := 94 } : Room)).room s m ([.ref (b 129), .int a1] : List Value).toArray below meth c H locs 0 0 (MQ below (va_Qi (fun (r : Int32) (u : Nat → Nat → Int32) => res = (r, u)) (fun (u : Nat → Nat → Int32) t => va_P (dC, dI) vwCl (hW N ca b u O J) t.heap) A) ([.ref (b 129), .int a1] : List Value).toArray s 0 0 A) (F0 m 369 ls [.int p24]) := by
                    intro H locs ls hP hS hl
                    refine lv_istore (lv' := [(12, .int p24), (0, .ref (b 129)), (1, .int a1), (2, .int ((16 : Int32) * a1)), (3, .int (I 130 ((((16 : Int32) * a1) + (7 : Int32)).toNatClampNeg))), (8, .int (((I 130 ((((16 : Int32) * a1) + (7 : Int32)).toNatClampNeg)) / (400 : Int32)) + (1 : Int32))), (9, .int ((I 130 ((((16 : Int32) * a1) + (7 : Int32)).toNatClampNeg)) + p16)), (11, .int p23)]) hx hb dX8_fly_369 hl (by decide) rfl (fun ls hl => ?_)
                    refine lv_iload hx hb dX8_fly_371 (lv_at hl 7 rfl) ?_
                    obtain ⟨p25, hv, h⟩ := hb_some h
                    have K392 : ∀ (H : Heap) (locs : List Loc) (ls : Array Slot), va_P (dC, dI) vwCl (hW N ca b I21 O J) H → va_S A s.heap H locs → lv_has ls 13 [(0, .ref (b 129)), (1, .int a1), (2, .int ((16 : Int32) * a1)), (3, .int (I 130 ((((16 : Int32) * a1) + (7 : Int32)).toNatClampNeg))), (11, .int p23), (12, .int p24)] → W p l e (headSpec wsX8_fly ({ frames := 4, cells := 0, slots := 0, locals := 94 } : Room)).room s m ([.ref (b 129), .int a1] : List Value).toArray below meth c H locs 0 0 (MQ below (va_Qi (fun (r : Int32) (u : Nat → Nat → Int32) => res = (r, u)) (fun (u : Nat → Nat → Int32) t => va_P (dC, dI) vwCl (hW N ca b u O J) t.heap) A) ([.ref (b 129), .int a1] : List Value).toArray s 0 0 A) (F0 m 392 ls [.int p25]) := by
                      intro H locs ls hP hS hl
                      refine lv_istore (lv' := [(9, .int p25), (0, .ref (b 129)), (1, .int a1), (2, .int ((16 : Int32) * a1)), (3, .int (I 130 ((((16 : Int32) * a1) + (7 : Int32)).toNatClampNeg))), (11, .int p23), (12, .int p24)]) hx hb dX8_fly_392 hl (by decide) rfl (fun ls hl => ?_)
                      refine lv_aload_n hx hb dX8_fly_394 rfl (lv_at hl 1 rfl) ?_
                      refine gg8_0 X hP kc_129 (sk_in hN kc_129 (by decide)) hi8 (List.mem_of_getElem? (i := 1) rfl) dX8_fly_395 ?_
                      refine lv_iload_n hx hb dX8_fly_398 rfl (lv_at hl 3 rfl) ?_
                      refine lv_bipush (v := 7) hx hb dX8_fly_399 (by decide) ?_
                      refine lv_iadd hx hb dX8_fly_401 ?_
                      refine lv_iload hx hb dX8_fly_402 (lv_at hl 0 rfl) ?_
                      obtain ⟨hgi26, h⟩ := hg_some h
                      refine gs20 X hP hS kc_130 (sk_in hN kc_130 (by decide)) (L := 151) (by decide) hgi26 dX8_fly_404 (fun H locs hP hS => ?_)
                      obtain ⟨I27, eI27, h⟩ := hlet_ex h
                      rw [← eI27] at hP
                      refine lv_aload_n hx hb dX8_fly_405 rfl (lv_at hl 1 rfl) ?_
                      refine gg8_0 X hP kc_129 (sk_in hN kc_129 (by decide)) hi8 (List.mem_of_getElem? (i := 1) rfl) dX8_fly_406 ?_
                      refine lv_iload_n hx hb dX8_fly_409 rfl (lv_at hl 3 rfl) ?_
                      refine lv_bipush (v := 8) hx hb dX8_fly_410 (by decide) ?_
                      refine lv_iadd hx hb dX8_fly_412 ?_
                      refine lv_iload hx hb dX8_fly_413 (lv_at hl 0 rfl) ?_
                      refine lv_iload_n hx hb dX8_fly_415 rfl (lv_at hl 4 rfl) ?_
                      refine lv_isub hx hb dX8_fly_416 ?_
                      obtain ⟨hgi28, h⟩ := hg_some h
                      refine gs20 X hP hS kc_130 (sk_in hN kc_130 (by decide)) (L := 151) (by decide) hgi28 dX8_fly_417 (fun H locs hP hS => ?_)
                      obtain ⟨I29, eI29, h⟩ := hlet_ex h
                      rw [← eI29] at hP
                      refine lv_aload_n hx hb dX8_fly_418 rfl (lv_at hl 1 rfl) ?_
                      refine gg8_0 X hP kc_129 (sk_in hN kc_129 (by decide)) hi8 (List.mem_of_getElem? (i := 1) rfl) dX8_fly_419 ?_
                      refine lv_sipush (v := 144) hx hb dX8_fly_422 (by decide) ?_
                      refine lv_dup2_11 hx hb dX8_fly_425 rfl rfl ?_
                      refine ga20 X hP kc_130 (sk_in hN kc_130 (by decide)) (L := 151) (by decide) (by decide) dX8_fly_426 ?_
                      refine lv_iload hx hb dX8_fly_427 (lv_at hl 0 rfl) ?_
                      refine lv_iload_n hx hb dX8_fly_429 rfl (lv_at hl 4 rfl) ?_
                      refine lv_isub hx hb dX8_fly_430 ?_
                      refine lv_iadd hx hb dX8_fly_431 ?_
                      refine gs20 X hP hS kc_130 (sk_in hN kc_130 (by decide)) (L := 151) (by decide) (by decide) dX8_fly_432 (fun H locs hP hS => ?_)
                      obtain ⟨I30, eI30, h⟩ := hlet_ex h
                      rw [← eI30] at hP
                      refine lv_iload hx hb dX8_fly_433 (lv_at hl 6 rfl) ?_
                      obtain ⟨I31, hv, h⟩ := hb_some h
                      have K534 : ∀ (H : Heap) (locs : List Loc) (ls : Array Slot), va_P (dC, dI) vwCl (hW N ca b I31 O J) H → va_S A s.heap H locs → lv_has ls 13 [(0, .ref (b 129)), (1, .int a1), (2, .int ((16 : Int32) * a1)), (11, .int p23)] → W p l e (headSpec wsX8_fly ({ frames := 4, cells := 0, slots := 0, locals := 94 } : Room)).room s m ([.ref (b 129), .int a1] : List Value).toArray below meth c H locs 0 0 (MQ below (va_Qi (fun (r : Int32) (u : Nat → Nat → Int32) => res = (r, u)) (fun (u : Nat → Nat → Int32) t => va_P (dC, dI) vwCl (hW N ca b u O J) t.heap) A) ([.ref (b 129), .int a1] : List Value).toArray s 0 0 A) (F0 m 534 ls []) := by
                        intro H locs ls hP hS hl
                        refine lv_iload hx hb dX8_fly_534 (lv_at hl 3 rfl) ?_
                        refine lv_if_eq (tgt := 637) hx hb dX8_fly_536 (by decide) (fun c44 => ?_) (fun c44 => ?_)
                        · have h := gif_t c44 h
                          refine lv_iload hx hb dX8_fly_637 (lv_at hl 3 rfl) ?_
                          obtain ⟨hgz, h⟩ := hg_some h
                          exact W.zret (ty := .boolean) hx hb hr (gz_nar hgz) (fun t9 ht hW => ⟨⟨p23, I31, rfl, (Option.some.inj h).symm, gEnd ht hP⟩, hS.F ht⟩) hS.2.2 dX8_fly_639 hlk
                        · have h := gif_f c44 h
                          refine lv_aload_n hx hb dX8_fly_539 rfl (lv_at hl 0 rfl) ?_
                          refine gg8_0 X hP kc_129 (sk_in hN kc_129 (by decide)) hi8 (List.mem_of_getElem? (i := 1) rfl) dX8_fly_540 ?_
                          refine lv_iload_n hx hb dX8_fly_543 rfl (lv_at hl 2 rfl) ?_
                          refine lv_bipush (v := 6) hx hb dX8_fly_544 (by decide) ?_
                          refine lv_iadd hx hb dX8_fly_546 ?_
                          refine lv_iconst (v := 3) hx hb dX8_fly_547 (by decide) ?_
                          obtain ⟨hgi32, h⟩ := hg_some h
                          refine gs20 X hP hS kc_130 (sk_in hN kc_130 (by decide)) (L := 151) (by decide) hgi32 dX8_fly_548 (fun H locs hP hS => ?_)
                          obtain ⟨I33, eI33, h⟩ := hlet_ex h
                          rw [← eI33] at hP
                          refine lv_aload_n hx hb dX8_fly_549 rfl (lv_at hl 0 rfl) ?_
                          refine gg8_0 X hP kc_129 (sk_in hN kc_129 (by decide)) hi8 (List.mem_of_getElem? (i := 1) rfl) dX8_fly_550 ?_
                          refine lv_iload_n hx hb dX8_fly_553 rfl (lv_at hl 2 rfl) ?_
                          refine lv_bipush (v := 11) hx hb dX8_fly_554 (by decide) ?_
                          refine lv_iadd hx hb dX8_fly_556 ?_
                          refine lv_aload_n hx hb dX8_fly_557 rfl (lv_at hl 0 rfl) ?_
                          refine gg8_0 X hP kc_129 (sk_in hN kc_129 (by decide)) hi8 (List.mem_of_getElem? (i := 1) rfl) dX8_fly_558 ?_
                          refine lv_sipush (v := 134) hx hb dX8_fly_561 (by decide) ?_
                          refine ga20 X hP kc_130 (sk_in hN kc_130 (by decide)) (L := 151) (by decide) (by decide) dX8_fly_564 ?_
                          refine lv_iconst (v := 1) hx hb dX8_fly_565 (by decide) ?_
                          refine lv_iadd hx hb dX8_fly_566 ?_
                          obtain ⟨hgi34, h⟩ := hg_some h
                          refine gs20 X hP hS kc_130 (sk_in hN kc_130 (by decide)) (L := 151) (by decide) hgi34 dX8_fly_567 (fun H locs hP hS => ?_)
                          obtain ⟨I35, eI35, h⟩ := hlet_ex h
                          rw [← eI35] at hP
                          refine lv_aload_n hx hb dX8_fly_568 rfl (lv_at hl 0 rfl) ?_
                          refine gg8_0 X hP kc_129 (sk_in hN kc_129 (by decide)) hi8 (List.mem_of_getElem? (i := 1) rfl) dX8_fly_569 ?_
                          refine lv_sipush (v := 149) hx hb dX8_fly_572 (by decide) ?_
                          refine lv_dup2_11 hx hb dX8_fly_575 rfl rfl ?_
                          refine ga20 X hP kc_130 (sk_in hN kc_130 (by decide)) (L := 151) (by decide) (by decide) dX8_fly_576 ?_
                          refine lv_aload_n hx hb dX8_fly_577 rfl (lv_at hl 0 rfl) ?_
                          refine gg8_0 X hP kc_129 (sk_in hN kc_129 (by decide)) hi8 (List.mem_of_getElem? (i := 1) rfl) dX8_fly_578 ?_
                          refine lv_sipush (v := 135) hx hb dX8_fly_581 (by decide) ?_
                          refine ga20 X hP kc_130 (sk_in hN kc_130 (by decide)) (L := 151) (by decide) (by decide) dX8_fly_584 ?_
                          obtain ⟨p36, hv, h⟩ := hb_some h
                          have K605 : ∀ (H : Heap) (locs : List Loc) (ls : Array Slot), va_P (dC, dI) vwCl (hW N ca b I35 O J) H → va_S A s.heap H locs → lv_has ls 13 [(0, .ref (b 129)), (1, .int a1), (11, .int p23)] → W p l e (headSpec wsX8_fly ({ frames := 4, cells := 0, slots := 0, locals := 94 } : Room)).room s m ([.ref (b 129), .int a1] : List Value).toArray below meth c H locs 0 0 (MQ below (va_Qi (fun (r : Int32) (u : Nat → Nat → Int32) => res = (r, u)) (fun (u : Nat → Nat → Int32) t => va_P (dC, dI) vwCl (hW N ca b u O J) t.heap) A) ([.ref (b 129), .int a1] : List Value).toArray s 0 0 A) (F0 m 605 ls [.int p36, .int (I35 130 ((149 : Int32).toNatClampNeg)), .int (149 : Int32), .ref (b 130)]) := by
                            intro H locs ls hP hS hl
                            refine lv_iadd hx hb dX8_fly_605 ?_
                            refine gs20 X hP hS kc_130 (sk_in hN kc_130 (by decide)) (L := 151) (by decide) (by decide) dX8_fly_606 (fun H locs hP hS => ?_)
                            obtain ⟨I37, eI37, h⟩ := hlet_ex h
                            rw [← eI37] at hP
                            refine lv_aload_n hx hb dX8_fly_607 rfl (lv_at hl 0 rfl) ?_
                            refine gg8_0 X hP kc_129 (sk_in hN kc_129 (by decide)) hi8 (List.mem_of_getElem? (i := 1) rfl) dX8_fly_608 ?_
                            refine lv_sipush (v := 136) hx hb dX8_fly_611 (by decide) ?_
                            refine lv_aload_n hx hb dX8_fly_614 rfl (lv_at hl 0 rfl) ?_
                            refine gg8_0 X hP kc_129 (sk_in hN kc_129 (by decide)) hi8 (List.mem_of_getElem? (i := 1) rfl) dX8_fly_615 ?_
                            refine lv_sipush (v := 135) hx hb dX8_fly_618 (by decide) ?_
                            refine ga20 X hP kc_130 (sk_in hN kc_130 (by decide)) (L := 151) (by decide) (by decide) dX8_fly_621 ?_
                            refine lv_iadd hx hb dX8_fly_622 ?_
                            refine lv_iload_n hx hb dX8_fly_623 rfl (lv_at hl 1 rfl) ?_
                            obtain ⟨hgi38, h⟩ := hg_some h
                            refine gs20 X hP hS kc_130 (sk_in hN kc_130 (by decide)) (L := 151) (by decide) hgi38 dX8_fly_624 (fun H locs hP hS => ?_)
                            obtain ⟨I39, eI39, h⟩ := hlet_ex h
                            rw [← eI39] at hP
                            refine lv_aload_n hx hb dX8_fly_625 rfl (lv_at hl 0 rfl) ?_
                            refine gg8_0 X hP kc_129 (sk_in hN kc_129 (by decide)) hi8 (List.mem_of_getElem? (i := 1) rfl) dX8_fly_626 ?_
                            refine lv_sipush (v := 135) hx hb dX8_fly_629 (by decide) ?_
                            refine lv_dup2_11 hx hb dX8_fly_632 rfl rfl ?_
                            refine ga20 X hP kc_130 (sk_in hN kc_130 (by decide)) (L := 151) (by decide) (by decide) dX8_fly_633 ?_
                            refine lv_iconst (v := 1) hx hb dX8_fly_634 (by decide) ?_
                            refine lv_iadd hx hb dX8_fly_635 ?_
                            refine gs20 X hP hS kc_130 (sk_in hN kc_130 (by decide)) (L := 151) (by decide) (by decide) dX8_fly_636 (fun H locs hP hS => ?_)
                            obtain ⟨I40, eI40, h⟩ := hlet_ex h
                            rw [← eI40] at hP
                            refine lv_iload hx hb dX8_fly_637 (lv_at hl 2 rfl) ?_
                            obtain ⟨hgz, h⟩ := hg_some h
                            exact W.zret (ty := .boolean) hx hb hr (gz_nar hgz) (fun t9 ht hW => ⟨⟨p23, I40, rfl, (Option.some.inj h).symm, gEnd ht hP⟩, hS.F ht⟩) hS.2.2 dX8_fly_639 hlk
                          have h := hv
                          refine lv_if_ne (tgt := 604) hx hb dX8_fly_585 (by decide) (fun c43 => ?_) (fun c43 => ?_)
                          · have h := gif_f c43 h
                            refine lv_iconst (v := 0) hx hb dX8_fly_604 (by decide) ?_
                            cases h
                            exact K605 _ _ _ hP hS (lv_sub hl [0, 1, 3] rfl)
                          · have h := gif_t c43 h
                            refine lv_aload_n hx hb dX8_fly_588 rfl (lv_at hl 0 rfl) ?_
                            refine gg8_0 X hP kc_129 (sk_in hN kc_129 (by decide)) hi8 (List.mem_of_getElem? (i := 1) rfl) dX8_fly_589 ?_
                            refine lv_iload_n hx hb dX8_fly_592 rfl (lv_at hl 2 rfl) ?_
                            refine lv_bipush (v := 10) hx hb dX8_fly_593 (by decide) ?_
                            refine lv_iadd hx hb dX8_fly_595 ?_
                            obtain ⟨hgi41, h⟩ := hg_some h
                            refine ga20 X hP kc_130 (sk_in hN kc_130 (by decide)) (L := 151) (by decide) hgi41 dX8_fly_596 ?_
                            refine lv_if_le (tgt := 604) hx hb dX8_fly_597 (by decide) (fun c42 => ?_) (fun c42 => ?_)
                            · have h := gif_t c42 h
                              refine lv_iconst (v := 0) hx hb dX8_fly_604 (by decide) ?_
                              cases h
                              exact K605 _ _ _ hP hS (lv_sub hl [0, 1, 3] rfl)
                            · have h := gif_f c42 h
                              refine lv_iconst (v := 1) hx hb dX8_fly_600 (by decide) ?_
                              refine lv_goto (tgt := 605) hx hb dX8_fly_601 (by decide) ?_
                              cases h
                              exact K605 _ _ _ hP hS (lv_sub hl [0, 1, 3] rfl)
                      have h := hv
                      refine lv_if_eq (tgt := 534) hx hb dX8_fly_435 (by decide) (fun c60 => ?_) (fun c60 => ?_)
                      · have h := gif_t c60 h
                        cases h
                        exact K534 _ _ _ hP hS (lv_sub hl [1, 2, 3, 5] rfl)
                      · have h := gif_f c60 h
                        refine lv_aload_n hx hb dX8_fly_438 rfl (lv_at hl 1 rfl) ?_
                        refine gg8_0 X hP kc_129 (sk_in hN kc_129 (by decide)) hi8 (List.mem_of_getElem? (i := 1) rfl) dX8_fly_439 ?_
                        refine lv_iload_n hx hb dX8_fly_442 rfl (lv_at hl 3 rfl) ?_
                        refine lv_bipush (v := 6) hx hb dX8_fly_443 (by decide) ?_
                        refine lv_iadd hx hb dX8_fly_445 ?_
                        refine lv_iconst (v := 2) hx hb dX8_fly_446 (by decide) ?_
                        obtain ⟨hgi45, h⟩ := hg_some h
                        refine gs20 X hP hS kc_130 (sk_in hN kc_130 (by decide)) (L := 151) (by decide) hgi45 dX8_fly_447 (fun H locs hP hS => ?_)
                        obtain ⟨I46, eI46, h⟩ := hlet_ex h
                        rw [← eI46] at hP
                        refine lv_aload_n hx hb dX8_fly_448 rfl (lv_at hl 1 rfl) ?_
                        refine gg8_0 X hP kc_129 (sk_in hN kc_129 (by decide)) hi8 (List.mem_of_getElem? (i := 1) rfl) dX8_fly_449 ?_
                        refine lv_iload_n hx hb dX8_fly_452 rfl (lv_at hl 3 rfl) ?_
                        refine lv_bipush (v := 12) hx hb dX8_fly_453 (by decide) ?_
                        refine lv_iadd hx hb dX8_fly_455 ?_
                        refine lv_bipush (v := 12) hx hb dX8_fly_456 (by decide) ?_
                        obtain ⟨hgi47, h⟩ := hg_some h
                        refine gs20 X hP hS kc_130 (sk_in hN kc_130 (by decide)) (L := 151) (by decide) hgi47 dX8_fly_458 (fun H locs hP hS => ?_)
                        obtain ⟨I48, eI48, h⟩ := hlet_ex h
                        rw [← eI48] at hP
                        refine lv_aload_n hx hb dX8_fly_459 rfl (lv_at hl 1 rfl) ?_
                        refine gg8_0 X hP kc_129 (sk_in hN kc_129 (by decide)) hi8 (List.mem_of_getElem? (i := 1) rfl) dX8_fly_460 ?_
                        refine lv_iload_n hx hb dX8_fly_463 rfl (lv_at hl 3 rfl) ?_
                        refine lv_bipush (v := 9) hx hb dX8_fly_464 (by decide) ?_
                        refine lv_iadd hx hb dX8_fly_466 ?_
                        refine lv_iconst (v := 0) hx hb dX8_fly_467 (by decide) ?_
                        obtain ⟨hgi49, h⟩ := hg_some h
                        refine gs20 X hP hS kc_130 (sk_in hN kc_130 (by decide)) (L := 151) (by decide) hgi49 dX8_fly_468 (fun H locs hP hS => ?_)
                        obtain ⟨I50, eI50, h⟩ := hlet_ex h
                        rw [← eI50] at hP
                        refine lv_aload_n hx hb dX8_fly_469 rfl (lv_at hl 1 rfl) ?_
                        refine gg8_0 X hP kc_129 (sk_in hN kc_129 (by decide)) hi8 (List.mem_of_getElem? (i := 1) rfl) dX8_fly_470 ?_
                        refine lv_iload_n hx hb dX8_fly_473 rfl (lv_at hl 3 rfl) ?_
                        refine lv_iconst (v := 4) hx hb dX8_fly_474 (by decide) ?_
                        refine lv_iadd hx hb dX8_fly_475 ?_
                        refine lv_iconst (v := 0) hx hb dX8_fly_476 (by decide) ?_
                        obtain ⟨hgi51, h⟩ := hg_some h
                        refine gs20 X hP hS kc_130 (sk_in hN kc_130 (by decide)) (L := 151) (by decide) hgi51 dX8_fly_477 (fun H locs hP hS => ?_)
                        obtain ⟨I52, eI52, h⟩ := hlet_ex h
                        rw [← eI52] at hP
                        refine lv_aload_n hx hb dX8_fly_478 rfl (lv_at hl 1 rfl) ?_
                        refine gg8_0 X hP kc_129 (sk_in hN kc_129 (by decide)) hi8 (List.mem_of_getElem? (i := 1) rfl) dX8_fly_479 ?_
                        refine lv_iload_n hx hb dX8_fly_482 rfl (lv_at hl 3 rfl) ?_
                        refine lv_iconst (v := 3) hx hb dX8_fly_483 (by decide) ?_
                        refine lv_iadd hx hb dX8_fly_484 ?_
                        refine lv_aload_n hx hb dX8_fly_485 rfl (lv_at hl 1 rfl) ?_
                        refine gg8_0 X hP kc_129 (sk_in hN kc_129 (by decide)) hi8 (List.mem_of_getElem? (i := 1) rfl) dX8_fly_486 ?_
                        refine lv_iload_n hx hb dX8_fly_489 rfl (lv_at hl 3 rfl) ?_
                        refine lv_iconst (v := 3) hx hb dX8_fly_490 (by decide) ?_
                        refine lv_iadd hx hb dX8_fly_491 ?_
                        obtain ⟨hgi53, h⟩ := hg_some h
                        refine ga20 X hP kc_130 (sk_in hN kc_130 (by decide)) (L := 151) (by decide) hgi53 dX8_fly_492 ?_
                        refine lv_sipush (v := 300) hx hb dX8_fly_493 (by decide) ?_
                        refine lv_iadd hx hb dX8_fly_496 ?_
                        refine lv_sipush (v := 999) hx hb dX8_fly_497 (by decide) ?_
                        obtain ⟨p54, hv, h⟩ := hb_some h
                        have K521 : ∀ (H : Heap) (locs : List Loc) (ls : Array Slot), va_P (dC, dI) vwCl (hW N ca b I52 O J) H → va_S A s.heap H locs → lv_has ls 13 [(0, .ref (b 129)), (1, .int a1), (2, .int ((16 : Int32) * a1)), (11, .int p23)] → W p l e (headSpec wsX8_fly ({ frames := 4, cells := 0, slots := 0, locals := 94 } : Room)).room s m ([.ref (b 129), .int a1] : List Value).toArray below meth c H locs 0 0 (MQ below (va_Qi (fun (r : Int32) (u : Nat → Nat → Int32) => res = (r, u)) (fun (u : Nat → Nat → Int32) t => va_P (dC, dI) vwCl (hW N ca b u O J) t.heap) A) ([.ref (b 129), .int a1] : List Value).toArray s 0 0 A) (F0 m 521 ls [.int p54, .int (((16 : Int32) * a1) + (3 : Int32)), .ref (b 130)]) := by
                          intro H locs ls hP hS hl
                          obtain ⟨hgi55, h⟩ := hg_some h
                          refine gs20 X hP hS kc_130 (sk_in hN kc_130 (by decide)) (L := 151) (by decide) hgi55 dX8_fly_521 (fun H locs hP hS => ?_)
                          obtain ⟨I56, eI56, h⟩ := hlet_ex h
                          rw [← eI56] at hP
                          refine lv_aload_n hx hb dX8_fly_522 rfl (lv_at hl 0 rfl) ?_
                          refine gg8_0 X hP kc_129 (sk_in hN kc_129 (by decide)) hi8 (List.mem_of_getElem? (i := 1) rfl) dX8_fly_523 ?_
                          refine lv_sipush (v := 147) hx hb dX8_fly_526 (by decide) ?_
                          refine lv_dup2_11 hx hb dX8_fly_529 rfl rfl ?_
                          refine ga20 X hP kc_130 (sk_in hN kc_130 (by decide)) (L := 151) (by decide) (by decide) dX8_fly_530 ?_
                          refine lv_iconst (v := 1) hx hb dX8_fly_531 (by decide) ?_
                          refine lv_iadd hx hb dX8_fly_532 ?_
                          refine gs20 X hP hS kc_130 (sk_in hN kc_130 (by decide)) (L := 151) (by decide) (by decide) dX8_fly_533 (fun H locs hP hS => ?_)
                          obtain ⟨I57, eI57, h⟩ := hlet_ex h
                          rw [← eI57] at hP
                          cases h
                          exact K534 _ _ _ hP hS (lv_sub hl [0, 1, 2, 3] rfl)
                        have h := hv
                        refine lv_icmp_le (tgt := 509) hx hb dX8_fly_500 (by decide) (fun c59 => ?_) (fun c59 => ?_)
                        · have h := gif_t c59 h
                          refine lv_aload_n hx hb dX8_fly_509 rfl (lv_at hl 1 rfl) ?_
                          refine gg8_0 X hP kc_129 (sk_in hN kc_129 (by decide)) hi8 (List.mem_of_getElem? (i := 1) rfl) dX8_fly_510 ?_
                          refine lv_iload_n hx hb dX8_fly_513 rfl (lv_at hl 3 rfl) ?_
                          refine lv_iconst (v := 3) hx hb dX8_fly_514 (by decide) ?_
                          refine lv_iadd hx hb dX8_fly_515 ?_
                          obtain ⟨hgi58, h⟩ := hg_some h
                          refine ga20 X hP kc_130 (sk_in hN kc_130 (by decide)) (L := 151) (by decide) hgi58 dX8_fly_516 ?_
                          refine lv_sipush (v := 300) hx hb dX8_fly_517 (by decide) ?_
                          refine lv_iadd hx hb dX8_fly_520 ?_
                          cases h
                          exact K521 _ _ _ hP hS (lv_sub hl [1, 2, 3, 5] rfl)
                        · have h := gif_f c59 h
                          refine lv_sipush (v := 999) hx hb dX8_fly_503 (by decide) ?_
                          refine lv_goto (tgt := 521) hx hb dX8_fly_506 (by decide) ?_
                          cases h
                          exact K521 _ _ _ hP hS (lv_sub hl [1, 2, 3, 5] rfl)
                    have h := hv
                    refine lv_if_ne (tgt := 381) hx hb dX8_fly_373 (by decide) (fun c62 => ?_) (fun c62 => ?_)
                    · have h := gif_f c62 h
                      refine lv_sipush (v := 400) hx hb dX8_fly_381 (by decide) ?_
                      refine lv_iload hx hb dX8_fly_384 (lv_at hl 5 rfl) ?_
                      refine lv_imul hx hb dX8_fly_386 ?_
                      refine lv_goto (tgt := 392) hx hb dX8_fly_387 (by decide) ?_
                      cases h
                      exact K392 _ _ _ hP hS (lv_sub hl [1, 2, 3, 4, 7, 0] rfl)
                    · have h := gif_t c62 h
                      refine lv_iload hx hb dX8_fly_376 (lv_at hl 0 rfl) ?_
                      refine lv_if_eq (tgt := 390) hx hb dX8_fly_378 (by decide) (fun c61 => ?_) (fun c61 => ?_)
                      · have h := gif_t c61 h
                        refine lv_iload hx hb dX8_fly_390 (lv_at hl 6 rfl) ?_
                        cases h
                        exact K392 _ _ _ hP hS (lv_sub hl [1, 2, 3, 4, 7, 0] rfl)
                      · have h := gif_f c61 h
                        refine lv_sipush (v := 400) hx hb dX8_fly_381 (by decide) ?_
                        refine lv_iload hx hb dX8_fly_384 (lv_at hl 5 rfl) ?_
                        refine lv_imul hx hb dX8_fly_386 ?_
                        refine lv_goto (tgt := 392) hx hb dX8_fly_387 (by decide) ?_
                        cases h
                        exact K392 _ _ _ hP hS (lv_sub hl [1, 2, 3, 4, 7, 0] rfl)
                  have h := hv
                  refine lv_if_eq (tgt := 368) hx hb dX8_fly_343 (by decide) (fun c66 => ?_) (fun c66 => ?_)
                  · have h := gif_t c66 h
                    refine lv_iconst (v := 0) hx hb dX8_fly_368 (by decide) ?_
                    cases h
                    exact K369 _ _ _ hP hS (lv_sub hl [1, 2, 3, 4, 5, 6, 0] rfl)
                  · have h := gif_f c66 h
                    refine lv_iload hx hb dX8_fly_346 (lv_at hl 0 rfl) ?_
                    refine lv_if_ne (tgt := 368) hx hb dX8_fly_348 (by decide) (fun c65 => ?_) (fun c65 => ?_)
                    · have h := gif_f c65 h
                      refine lv_iconst (v := 0) hx hb dX8_fly_368 (by decide) ?_
                      cases h
                      exact K369 _ _ _ hP hS (lv_sub hl [1, 2, 3, 4, 5, 6, 0] rfl)
                    · have h := gif_t c65 h
                      refine lv_aload_n hx hb dX8_fly_351 rfl (lv_at hl 1 rfl) ?_
                      refine gg8_0 X hP kc_129 (sk_in hN kc_129 (by decide)) hi8 (List.mem_of_getElem? (i := 1) rfl) dX8_fly_352 ?_
                      refine lv_iload_n hx hb dX8_fly_355 rfl (lv_at hl 3 rfl) ?_
                      refine lv_bipush (v := 9) hx hb dX8_fly_356 (by decide) ?_
                      refine lv_iadd hx hb dX8_fly_358 ?_
                      obtain ⟨hgi63, h⟩ := hg_some h
                      refine ga20 X hP kc_130 (sk_in hN kc_130 (by decide)) (L := 151) (by decide) hgi63 dX8_fly_359 ?_
                      refine lv_iconst (v := 1) hx hb dX8_fly_360 (by decide) ?_
                      refine lv_icmp_ne (tgt := 368) hx hb dX8_fly_361 (by decide) (fun c64 => ?_) (fun c64 => ?_)
                      · have h := gif_f c64 h
                        refine lv_iconst (v := 0) hx hb dX8_fly_368 (by decide) ?_
                        cases h
                        exact K369 _ _ _ hP hS (lv_sub hl [1, 2, 3, 4, 5, 6, 0] rfl)
                      · have h := gif_t c64 h
                        refine lv_iconst (v := 1) hx hb dX8_fly_364 (by decide) ?_
                        refine lv_goto (tgt := 369) hx hb dX8_fly_365 (by decide) ?_
                        cases h
                        exact K369 _ _ _ hP hS (lv_sub hl [1, 2, 3, 4, 5, 6, 0] rfl)
                have h := hv
                refine lv_if_eq (tgt := 338) hx hb dX8_fly_318 (by decide) (fun c68 => ?_) (fun c68 => ?_)
                · have h := gif_t c68 h
                  refine lv_iconst (v := 0) hx hb dX8_fly_338 (by decide) ?_
                  cases h
                  exact K339 _ _ _ hP hS (lv_sub hl [1, 2, 3, 4, 5, 6, 0] rfl)
                · have h := gif_f c68 h
                  refine lv_iload hx hb dX8_fly_321 (lv_at hl 5 rfl) ?_
                  refine lv_aload_n hx hb dX8_fly_323 rfl (lv_at hl 1 rfl) ?_
                  refine gg8_0 X hP kc_129 (sk_in hN kc_129 (by decide)) hi8 (List.mem_of_getElem? (i := 1) rfl) dX8_fly_324 ?_
                  refine lv_sipush (v := 133) hx hb dX8_fly_327 (by decide) ?_
                  refine ga20 X hP kc_130 (sk_in hN kc_130 (by decide)) (L := 151) (by decide) (by decide) dX8_fly_330 ?_
                  refine lv_icmp_ne (tgt := 338) hx hb dX8_fly_331 (by decide) (fun c67 => ?_) (fun c67 => ?_)
                  · have h := gif_f c67 h
                    refine lv_iconst (v := 0) hx hb dX8_fly_338 (by decide) ?_
                    cases h
                    exact K339 _ _ _ hP hS (lv_sub hl [1, 2, 3, 4, 5, 6, 0] rfl)
                  · have h := gif_t c67 h
                    refine lv_iconst (v := 1) hx hb dX8_fly_334 (by decide) ?_
                    refine lv_goto (tgt := 339) hx hb dX8_fly_335 (by decide) ?_
                    cases h
                    exact K339 _ _ _ hP hS (lv_sub hl [1, 2, 3, 4, 5, 6, 0] rfl)
              have h := hv
              refine lv_icmp_lt (tgt := 313) hx hb dX8_fly_306 (by decide) (fun c69 => ?_) (fun c69 => ?_)
              · have h := gif_t c69 h
                refine lv_iconst (v := 0) hx hb dX8_fly_313 (by decide) ?_
                cases h
                exact K314 _ _ _ hP hS (lv_sub hl [2, 3, 4, 5, 1, 0] rfl)
              · have h := gif_f c69 h
                refine lv_iconst (v := 1) hx hb dX8_fly_309 (by decide) ?_
                refine lv_goto (tgt := 314) hx hb dX8_fly_310 (by decide) ?_
                cases h
                exact K314 _ _ _ hP hS (lv_sub hl [2, 3, 4, 5, 1, 0] rfl)
            have h := hv
            refine lv_icmp_lt (tgt := 280) hx hb dX8_fly_260 (by decide) (fun c72 => ?_) (fun c72 => ?_)
            · have h := gif_t c72 h
              refine lv_iconst (v := 0) hx hb dX8_fly_280 (by decide) ?_
              cases h
              exact K281 _ _ _ hP hS (lv_sub hl [0, 1, 2, 3, 4] rfl)
            · have h := gif_f c72 h
              refine lv_aload_n hx hb dX8_fly_263 rfl (lv_at hl 0 rfl) ?_
              refine gg8_0 X hP kc_129 (sk_in hN kc_129 (by decide)) hi8 (List.mem_of_getElem? (i := 1) rfl) dX8_fly_264 ?_
              refine lv_iload_n hx hb dX8_fly_267 rfl (lv_at hl 2 rfl) ?_
              refine lv_iconst (v := 4) hx hb dX8_fly_268 (by decide) ?_
              refine lv_iadd hx hb dX8_fly_269 ?_
              obtain ⟨hgi70, h⟩ := hg_some h
              refine ga20 X hP kc_130 (sk_in hN kc_130 (by decide)) (L := 151) (by decide) hgi70 dX8_fly_270 ?_
              refine lv_bipush (v := 100) hx hb dX8_fly_271 (by decide) ?_
              refine lv_icmp_ge (tgt := 280) hx hb dX8_fly_273 (by decide) (fun c71 => ?_) (fun c71 => ?_)
              · have h := gif_t c71 h
                refine lv_iconst (v := 0) hx hb dX8_fly_280 (by decide) ?_
                cases h
                exact K281 _ _ _ hP hS (lv_sub hl [0, 1, 2, 3, 4] rfl)
              · have h := gif_f c71 h
                refine lv_iconst (v := 1) hx hb dX8_fly_276 (by decide) ?_
                refine lv_goto (tgt := 281) hx hb dX8_fly_277 (by decide) ?_
                cases h
                exact K281 _ _ _ hP hS (lv_sub hl [0, 1, 2, 3, 4] rfl)
          have h := hv
          refine lv_icmp_ge (tgt := 234) hx hb dX8_fly_214 (by decide) (fun c78 => ?_) (fun c78 => ?_)
          · have h := gif_t c78 h
            refine lv_aload_n hx hb dX8_fly_234 rfl (lv_at hl 1 rfl) ?_
            refine gg8_0 X hP kc_129 (sk_in hN kc_129 (by decide)) hi8 (List.mem_of_getElem? (i := 1) rfl) dX8_fly_235 ?_
            refine lv_iload_n hx hb dX8_fly_238 rfl (lv_at hl 3 rfl) ?_
            refine lv_iconst (v := 3) hx hb dX8_fly_239 (by decide) ?_
            refine lv_iadd hx hb dX8_fly_240 ?_
            refine lv_dup2_11 hx hb dX8_fly_241 rfl rfl ?_
            obtain ⟨hgi73, h⟩ := hg_some h
            refine ga20 X hP kc_130 (sk_in hN kc_130 (by decide)) (L := 151) (by decide) hgi73 dX8_fly_242 ?_
            refine lv_iload hx hb dX8_fly_243 (lv_at hl 0 rfl) ?_
            refine lv_isub hx hb dX8_fly_245 ?_
            obtain ⟨hgi74, h⟩ := hg_some h
            refine gs20 X hP hS kc_130 (sk_in hN kc_130 (by decide)) (L := 151) (by decide) hgi74 dX8_fly_246 (fun H locs hP hS => ?_)
            obtain ⟨I75, eI75, h⟩ := hlet_ex h
            rw [← eI75] at hP
            cases h
            exact K247 _ _ _ hP hS (lv_sub hl [1, 2, 3, 4, 5] rfl)
          · have h := gif_f c78 h
            refine lv_iload hx hb dX8_fly_217 (lv_at hl 5 rfl) ?_
            refine lv_iconst (v := 4) hx hb dX8_fly_219 (by decide) ?_
            obtain ⟨p76, hv, h⟩ := hb_some h
            have K229 : ∀ (H : Heap) (locs : List Loc) (ls : Array Slot), va_P (dC, dI) vwCl (hW N ca b I13 O J) H → va_S A s.heap H locs → lv_has ls 13 [(0, .ref (b 129)), (1, .int a1), (2, .int ((16 : Int32) * a1)), (3, .int (I 130 ((((16 : Int32) * a1) + (7 : Int32)).toNatClampNeg)))] → W p l e (headSpec wsX8_fly ({ frames := 4, cells := 0, slots := 0, locals := 94 } : Room)).room s m ([.ref (b 129), .int a1] : List Value).toArray below meth c H locs 0 0 (MQ below (va_Qi (fun (r : Int32) (u : Nat → Nat → Int32) => res = (r, u)) (fun (u : Nat → Nat → Int32) t => va_P (dC, dI) vwCl (hW N ca b u O J) t.heap) A) ([.ref (b 129), .int a1] : List Value).toArray s 0 0 A) (F0 m 229 ls [.int p76]) := by
              intro H locs ls hP hS hl
              refine lv_istore (lv' := [(6, .int p76), (0, .ref (b 129)), (1, .int a1), (2, .int ((16 : Int32) * a1)), (3, .int (I 130 ((((16 : Int32) * a1) + (7 : Int32)).toNatClampNeg)))]) hx hb dX8_fly_229 hl (by decide) rfl (fun ls hl => ?_)
              refine lv_goto (tgt := 247) hx hb dX8_fly_231 (by decide) ?_
              cases h
              exact K247 _ _ _ hP hS (lv_sub hl [1, 2, 3, 4, 0] rfl)
            have h := hv
            refine lv_icmp_le (tgt := 227) hx hb dX8_fly_220 (by decide) (fun c77 => ?_) (fun c77 => ?_)
            · have h := gif_t c77 h
              refine lv_iload hx hb dX8_fly_227 (lv_at hl 5 rfl) ?_
              cases h
              exact K229 _ _ _ hP hS (lv_sub hl [1, 2, 3, 4] rfl)
            · have h := gif_f c77 h
              refine lv_iconst (v := 4) hx hb dX8_fly_223 (by decide) ?_
              refine lv_goto (tgt := 229) hx hb dX8_fly_224 (by decide) ?_
              cases h
              exact K229 _ _ _ hP hS (lv_sub hl [1, 2, 3, 4] rfl)
        have h := hv
        refine lv_if_eq (tgt := 200) hx hb dX8_fly_188 (by decide) (fun c79 => ?_) (fun c79 => ?_)
        · have h := gif_t c79 h
          refine lv_iload hx hb dX8_fly_200 (lv_at hl 0 rfl) ?_
          cases h
          exact K202 _ _ _ hP hS (lv_sub hl [1, 2, 3, 4, 6] rfl)
        · have h := gif_f c79 h
          refine lv_iload hx hb dX8_fly_191 (lv_at hl 0 rfl) ?_
          refine lv_iconst (v := 3) hx hb dX8_fly_193 (by decide) ?_
          refine lv_imul hx hb dX8_fly_194 ?_
          refine lv_iconst (v := 5) hx hb dX8_fly_195 (by decide) ?_
          refine lv_idiv hx hb dX8_fly_196 (by decide) ?_
          refine lv_goto (tgt := 202) hx hb dX8_fly_197 (by decide) ?_
          cases h
          exact K202 _ _ _ hP hS (lv_sub hl [1, 2, 3, 4, 6] rfl)
      have h := hv
      refine lv_if_le (tgt := 174) hx hb dX8_fly_90 (by decide) (fun c97 => ?_) (fun c97 => ?_)
      · have h := gif_t c97 h
        cases h
        exact K174 _ _ _ hP hS (lv_sub hl [0, 1, 2, 3, 5, 6] rfl)
      · have h := gif_f c97 h
        refine lv_iload hx hb dX8_fly_93 (lv_at hl 4 rfl) ?_
        refine lv_iload hx hb dX8_fly_95 (lv_at hl 6 rfl) ?_
        refine lv_isub hx hb dX8_fly_97 ?_
        refine lv_iconst (v := 1) hx hb dX8_fly_98 (by decide) ?_
        refine lv_icmp_gt (tgt := 174) hx hb dX8_fly_99 (by decide) (fun c96 => ?_) (fun c96 => ?_)
        · have h := gif_t c96 h
          cases h
          exact K174 _ _ _ hP hS (lv_sub hl [0, 1, 2, 3, 5, 6] rfl)
        · have h := gif_f c96 h
          refine lv_iconst (v := 1) hx hb dX8_fly_102 (by decide) ?_
          refine lv_aload_n hx hb dX8_fly_103 rfl (lv_at hl 0 rfl) ?_
          refine gg8_0 X hP kc_129 (sk_in hN kc_129 (by decide)) hi8 (List.mem_of_getElem? (i := 1) rfl) dX8_fly_104 ?_
          refine lv_iload_n hx hb dX8_fly_107 rfl (lv_at hl 2 rfl) ?_
          refine lv_iconst (v := 5) hx hb dX8_fly_108 (by decide) ?_
          refine lv_iadd hx hb dX8_fly_109 ?_
          obtain ⟨hgi80, h⟩ := hg_some h
          refine ga20 X hP kc_130 (sk_in hN kc_130 (by decide)) (L := 151) (by decide) hgi80 dX8_fly_110 ?_
          refine lv_isub hx hb dX8_fly_111 ?_
          refine lv_istore (lv' := [(7, .int ((1 : Int32) - (I11 130 ((((16 : Int32) * a1) + (5 : Int32)).toNatClampNeg)))), (0, .ref (b 129)), (1, .int a1), (2, .int ((16 : Int32) * a1)), (3, .int (I 130 ((((16 : Int32) * a1) + (7 : Int32)).toNatClampNeg))), (4, .int r3), (5, .int r5), (6, .int (r7 + p9))]) hx hb dX8_fly_112 hl (by decide) rfl (fun ls hl => ?_)
          refine lv_aload_n hx hb dX8_fly_114 rfl (lv_at hl 1 rfl) ?_
          refine lv_iload_n hx hb dX8_fly_115 rfl (lv_at hl 2 rfl) ?_
          obtain ⟨q82, hcq82, h⟩ := hb_some h
          refine gdV_i (As := [.int a1]) (rest := []) (BH := (fun (u : Unit) H => va_P (dC, dI) vwCl (hW N ca b I11 O J) H)) X hP hS (c_X8_where hN hA I11 O J a1 q82 hcq82) (cwV 1 X.ts gX8_fly_X8_where rfl rfl rfl (by decide +kernel) ⟨Nat.le_of_ble_eq_true rfl, Nat.le_of_ble_eq_true rfl⟩) (gr8 X hP kc_129 (sk_in hN kc_129 (by decide))) rfl hl.1 rfl (Nat.le_of_ble_eq_true rfl) dX8_fly_116 ⟨Nat.le_of_ble_eq_true rfl, Nat.le_of_ble_eq_true rfl⟩ (fun r81 u9 H locs hw hP hS => ?_)
          have hw := hw.symm
          subst hw
          refine lv_iconst (v := 4) hx hb dX8_fly_119 (by decide) ?_
          obtain ⟨⟨p83, I84⟩, hv, h⟩ := hb_some h
          have K164 : ∀ (H : Heap) (locs : List Loc) (ls : Array Slot), va_P (dC, dI) vwCl (hW N ca b I84 O J) H → va_S A s.heap H locs → lv_has ls 13 [(0, .ref (b 129)), (1, .int a1), (2, .int ((16 : Int32) * a1)), (3, .int (I 130 ((((16 : Int32) * a1) + (7 : Int32)).toNatClampNeg))), (4, .int p83), (5, .int r5), (6, .int (r7 + p9))] → W p l e (headSpec wsX8_fly ({ frames := 4, cells := 0, slots := 0, locals := 94 } : Room)).room s m ([.ref (b 129), .int a1] : List Value).toArray below meth c H locs 0 0 (MQ below (va_Qi (fun (r : Int32) (u : Nat → Nat → Int32) => res = (r, u)) (fun (u : Nat → Nat → Int32) t => va_P (dC, dI) vwCl (hW N ca b u O J) t.heap) A) ([.ref (b 129), .int a1] : List Value).toArray s 0 0 A) (F0 m 164 ls []) := by
            intro H locs ls hP hS hl
            refine lv_aload_n hx hb dX8_fly_164 rfl (lv_at hl 0 rfl) ?_
            refine lv_iload hx hb dX8_fly_165 (lv_at hl 6 rfl) ?_
            refine lv_iload hx hb dX8_fly_167 (lv_at hl 4 rfl) ?_
            obtain ⟨q86, hcq86, h⟩ := hb_some h
            refine gdV_i (As := [.int (r7 + p9), .int p83]) (rest := []) (BH := (fun (u : Unit) H => va_P (dC, dI) vwCl (hW N ca b I84 O J) H)) X hP hS (c_X8_atMost hN hA I84 O J (r7 + p9) p83 q86 hcq86) (cwV 2 X.ts gX8_fly_X8_atMost rfl rfl rfl (by decide +kernel) ⟨Nat.le_of_ble_eq_true rfl, Nat.le_of_ble_eq_true rfl⟩) (gr8 X hP kc_129 (sk_in hN kc_129 (by decide))) rfl hl.1 rfl (Nat.le_of_ble_eq_true rfl) dX8_fly_169 ⟨Nat.le_of_ble_eq_true rfl, Nat.le_of_ble_eq_true rfl⟩ (fun r85 u9 H locs hw hP hS => ?_)
            have hw := hw.symm
            subst hw
            refine lv_istore (lv' := [(6, .int r85), (0, .ref (b 129)), (1, .int a1), (2, .int ((16 : Int32) * a1)), (3, .int (I 130 ((((16 : Int32) * a1) + (7 : Int32)).toNatClampNeg))), (4, .int p83), (5, .int r5)]) hx hb dX8_fly_172 hl (by decide) rfl (fun ls hl => ?_)
            cases h
            exact K174 _ _ _ hP hS (lv_sub hl [1, 2, 3, 4, 6, 0] rfl)
          have h := hv
          refine lv_icmp_ge (tgt := 164) hx hb dX8_fly_120 (by decide) (fun c95 => ?_) (fun c95 => ?_)
          · have h := gif_t c95 h
            cases h
            exact K164 _ _ _ hP hS (lv_sub hl [1, 2, 3, 4, 5, 6, 7] rfl)
          · have h := gif_f c95 h
            refine lv_aload_n hx hb dX8_fly_123 rfl (lv_at hl 1 rfl) ?_
            refine lv_iload_n hx hb dX8_fly_124 rfl (lv_at hl 2 rfl) ?_
            refine lv_iload hx hb dX8_fly_125 (lv_at hl 0 rfl) ?_
            obtain ⟨q88, hcq88, h⟩ := hb_some h
            refine gdV_i (As := [.int a1, .int ((1 : Int32) - (I11 130 ((((16 : Int32) * a1) + (5 : Int32)).toNatClampNeg)))]) (rest := []) (BH := (fun (u : Unit) H => va_P (dC, dI) vwCl (hW N ca b I11 O J) H)) X hP hS (c_X8_isFree hN hA I11 O J a1 ((1 : Int32) - (I11 130 ((((16 : Int32) * a1) + (5 : Int32)).toNatClampNeg))) q88 hcq88) (cwV 2 X.ts gX8_fly_X8_isFree rfl rfl rfl (by decide +kernel) ⟨Nat.le_of_ble_eq_true rfl, Nat.le_of_ble_eq_true rfl⟩) (gr8 X hP kc_129 (sk_in hN kc_129 (by decide))) rfl hl.1 rfl (Nat.le_of_ble_eq_true rfl) dX8_fly_127 ⟨Nat.le_of_ble_eq_true rfl, Nat.le_of_ble_eq_true rfl⟩ (fun r87 u9 H locs hw hP hS => ?_)
            have hw := hw.symm
            subst hw
            refine lv_if_eq (tgt := 164) hx hb dX8_fly_130 (by decide) (fun c94 => ?_) (fun c94 => ?_)
            · have h := gif_t c94 h
              cases h
              exact K164 _ _ _ hP hS (lv_sub hl [1, 2, 3, 4, 5, 6, 7] rfl)
            · have h := gif_f c94 h
              refine lv_aload_n hx hb dX8_fly_133 rfl (lv_at hl 1 rfl) ?_
              refine gg8_0 X hP kc_129 (sk_in hN kc_129 (by decide)) hi8 (List.mem_of_getElem? (i := 1) rfl) dX8_fly_134 ?_
              refine lv_iload_n hx hb dX8_fly_137 rfl (lv_at hl 3 rfl) ?_
              refine lv_iconst (v := 5) hx hb dX8_fly_138 (by decide) ?_
              refine lv_iadd hx hb dX8_fly_139 ?_
              refine lv_iload hx hb dX8_fly_140 (lv_at hl 0 rfl) ?_
              obtain ⟨hgi89, h⟩ := hg_some h
              refine gs20 X hP hS kc_130 (sk_in hN kc_130 (by decide)) (L := 151) (by decide) hgi89 dX8_fly_142 (fun H locs hP hS => ?_)
              obtain ⟨I90, eI90, h⟩ := hlet_ex h
              rw [← eI90] at hP
              refine lv_aload_n hx hb dX8_fly_143 rfl (lv_at hl 1 rfl) ?_
              refine gg8_0 X hP kc_129 (sk_in hN kc_129 (by decide)) hi8 (List.mem_of_getElem? (i := 1) rfl) dX8_fly_144 ?_
              refine lv_sipush (v := 146) hx hb dX8_fly_147 (by decide) ?_
              refine lv_dup2_11 hx hb dX8_fly_150 rfl rfl ?_
              refine ga20 X hP kc_130 (sk_in hN kc_130 (by decide)) (L := 151) (by decide) (by decide) dX8_fly_151 ?_
              refine lv_iconst (v := 1) hx hb dX8_fly_152 (by decide) ?_
              refine lv_iadd hx hb dX8_fly_153 ?_
              refine gs20 X hP hS kc_130 (sk_in hN kc_130 (by decide)) (L := 151) (by decide) (by decide) dX8_fly_154 (fun H locs hP hS => ?_)
              obtain ⟨I91, eI91, h⟩ := hlet_ex h
              rw [← eI91] at hP
              refine lv_aload_n hx hb dX8_fly_155 rfl (lv_at hl 1 rfl) ?_
              refine lv_iload_n hx hb dX8_fly_156 rfl (lv_at hl 2 rfl) ?_
              refine lv_iload hx hb dX8_fly_157 (lv_at hl 0 rfl) ?_
              obtain ⟨q93, hcq93, h⟩ := hb_some h
              refine gdV_i (As := [.int a1, .int ((1 : Int32) - (I11 130 ((((16 : Int32) * a1) + (5 : Int32)).toNatClampNeg)))]) (rest := []) (BH := (fun (u : Unit) H => va_P (dC, dI) vwCl (hW N ca b I91 O J) H)) X hP hS (c_X8_gap hN hA I91 O J a1 ((1 : Int32) - (I11 130 ((((16 : Int32) * a1) + (5 : Int32)).toNatClampNeg))) q93 hcq93) (cwV 2 X.ts gX8_fly_X8_gap rfl rfl rfl (by decide +kernel) ⟨Nat.le_of_ble_eq_true rfl, Nat.le_of_ble_eq_true rfl⟩) (gr8 X hP kc_129 (sk_in hN kc_129 (by decide))) rfl hl.1 rfl (Nat.le_of_ble_eq_true rfl) dX8_fly_159 ⟨Nat.le_of_ble_eq_true rfl, Nat.le_of_ble_eq_true rfl⟩ (fun r92 u9 H locs hw hP hS => ?_)
              have hw := hw.symm
              subst hw
              refine lv_istore (lv' := [(4, .int r92), (7, .int ((1 : Int32) - (I11 130 ((((16 : Int32) * a1) + (5 : Int32)).toNatClampNeg)))), (0, .ref (b 129)), (1, .int a1), (2, .int ((16 : Int32) * a1)), (3, .int (I 130 ((((16 : Int32) * a1) + (7 : Int32)).toNatClampNeg))), (5, .int r5), (6, .int (r7 + p9))]) hx hb dX8_fly_162 hl (by decide) rfl (fun ls hl => ?_)
              cases h
              exact K164 _ _ _ hP hS (lv_sub hl [2, 3, 4, 5, 0, 6, 7] rfl)
    have h := hv
    refine lv_if_eq (tgt := 85) hx hb dX8_fly_78 (by decide) (fun c98 => ?_) (fun c98 => ?_)
    · have h := gif_t c98 h
      refine lv_iconst (v := 0) hx hb dX8_fly_85 (by decide) ?_
      cases h
      exact K86 _ _ _ hP hS (lv_sub hl [1, 2, 3, 4, 5, 6, 0] rfl)
    · have h := gif_f c98 h
      refine lv_iconst (v := 1) hx hb dX8_fly_81 (by decide) ?_
      refine lv_goto (tgt := 86) hx hb dX8_fly_82 (by decide) ?_
      cases h
      exact K86 _ _ _ hP hS (lv_sub hl [1, 2, 3, 4, 5, 6, 0] rfl)
  have h := hv
  refine lv_if_eq (tgt := 63) hx hb dX8_fly_44 (by decide) (fun c102 => ?_) (fun c102 => ?_)
  · have h := gif_t c102 h
    refine lv_iconst (v := 0) hx hb dX8_fly_63 (by decide) ?_
    cases h
    exact K64 _ _ _ hP hS (lv_sub hl [4, 5, 3, 2, 1, 0] rfl)
  · have h := gif_f c102 h
    refine lv_aload_n hx hb dX8_fly_47 rfl (lv_at hl 4 rfl) ?_
    refine lv_iload_n hx hb dX8_fly_48 rfl (lv_at hl 5 rfl) ?_
    obtain ⟨q100, hcq100, h⟩ := hb_some h
    refine gdV_i (As := [.int a1]) (rest := [.int r7]) (BH := (fun (u : Unit) H => va_P (dC, dI) vwCl (hW N ca b I O J) H)) X hP hS (c_X8_isPartnerNext hN hA I O J a1 q100 hcq100) (cwV 1 X.ts gX8_fly_X8_isPartnerNext rfl rfl rfl (by decide +kernel) ⟨Nat.le_of_ble_eq_true rfl, Nat.le_of_ble_eq_true rfl⟩) (gr8 X hP kc_129 (sk_in hN kc_129 (by decide))) rfl hl.1 rfl (Nat.le_of_ble_eq_true rfl) dX8_fly_49 ⟨Nat.le_of_ble_eq_true rfl, Nat.le_of_ble_eq_true rfl⟩ (fun r99 u9 H locs hw hP hS => ?_)
    have hw := hw.symm
    subst hw
    refine lv_if_eq (tgt := 59) hx hb dX8_fly_52 (by decide) (fun c101 => ?_) (fun c101 => ?_)
    · have h := gif_t c101 h
      refine lv_iconst (v := 1) hx hb dX8_fly_59 (by decide) ?_
      refine lv_goto (tgt := 64) hx hb dX8_fly_60 (by decide) ?_
      cases h
      exact K64 _ _ _ hP hS (lv_sub hl [4, 5, 3, 2, 1, 0] rfl)
    · have h := gif_f c101 h
      refine lv_iconst (v := 2) hx hb dX8_fly_55 (by decide) ?_
      refine lv_goto (tgt := 64) hx hb dX8_fly_56 (by decide) ?_
      cases h
      exact K64 _ _ _ hP hS (lv_sub hl [4, 5, 3, 2, 1, 0] rfl)
def f_X8_second_L37 (I : Nat → Nat → Int32) : Nat → Int32 → Int32 → (Nat → Nat → Int32) → Option (Int32 × (Nat → Nat → Int32))
  | 0, _, _, _ => none
  | fuel + 1, p4, p5, I6 =>
    if (I 130 ((128 : Int32).toNatClampNeg)) ≤ p5 then
      some (p4, I6)
    else
      hg (gin p5 8) <|
      hg (gin (((16 : Int32) * (I6 136 (p5.toNatClampNeg))) + (8 : Int32)) 151) <|
      hlet (gup I6 130 ((((16 : Int32) * (I6 136 (p5.toNatClampNeg))) + (8 : Int32)).toNatClampNeg) (0 : Int32)) fun I15 =>
      (f_X8_of (I6 136 (p5.toNatClampNeg)) (6 : Int32) I15).bind fun r16 =>
      (show Option (Int32 × (Nat → Nat → Int32)) from
        if r16 = (2 : Int32) then
          hg (gin (((16 : Int32) * (I6 136 (p5.toNatClampNeg))) + (12 : Int32)) 151) <|
          hg (gin (((16 : Int32) * (I6 136 (p5.toNatClampNeg))) + (12 : Int32)) 151) <|
          hlet (gup I15 130 ((((16 : Int32) * (I6 136 (p5.toNatClampNeg))) + (12 : Int32)).toNatClampNeg) ((I15 130 ((((16 : Int32) * (I6 136 (p5.toNatClampNeg))) + (12 : Int32)).toNatClampNeg)) - (1 : Int32))) fun I31 =>
          (f_X8_of (I6 136 (p5.toNatClampNeg)) (12 : Int32) I31).bind fun r32 =>
          (show Option (Int32) from
            if r32 = 0 then
              some (1 : Int32)
            else
              some (2 : Int32)).bind fun p34 =>
          hg (gin (((16 : Int32) * (I6 136 (p5.toNatClampNeg))) + (6 : Int32)) 151) <|
          hlet (gup I31 130 ((((16 : Int32) * (I6 136 (p5.toNatClampNeg))) + (6 : Int32)).toNatClampNeg) p34) fun I36 =>
          some (p4, I36)
        else
          (f_X8_flies (I6 136 (p5.toNatClampNeg)) I15).bind fun r21 =>
          if r21 = 0 then
            some (p4, I15)
          else
            (f_X8_fly (I6 136 (p5.toNatClampNeg)) I15).bind fun (r24, I23) =>
            (show Option (Int32) from
              if r24 = 0 then
                some (0 : Int32)
              else
                some (1 : Int32)).bind fun p26 =>
            some ((p4 + p26), I23)).bind fun (p18, I19) =>
      hlet (p5 + 1) fun x20 =>
      f_X8_second_L37 I fuel p18 x20 I19
def f_X8_second_L13 (I : Nat → Nat → Int32) : Nat → Int32 → (Nat → Nat → Int32) → Option (Nat → Nat → Int32)
  | 0, _, _ => none
  | fuel + 1, p1, I2 =>
    if (I 130 ((128 : Int32).toNatClampNeg)) ≤ p1 then
      some I2
    else
      (f_X8_place p1 I2).bind fun r40 =>
      hg (gin r40 8) <|
      hlet (gup I2 136 (r40.toNatClampNeg) p1) fun I43 =>
      hlet (p1 + 1) fun x44 =>
      f_X8_second_L13 I fuel x44 I43
def f_X8_second (I : Nat → Nat → Int32) : Option (Int32 × (Nat → Nat → Int32)) :=
  (f_X8_second_L13 I FU (0 : Int32) I).bind fun I3 =>
  (f_X8_second_L37 I FU (0 : Int32) (0 : Int32) I3).bind fun (p7, I8) =>
  hlet (gup I8 130 ((134 : Int32).toNatClampNeg) ((I8 130 ((134 : Int32).toNatClampNeg)) + (1 : Int32))) fun I9 =>
  if (I9 130 ((135 : Int32).toNatClampNeg)) = (I 130 ((128 : Int32).toNatClampNeg)) then
    hlet (gup I9 130 ((150 : Int32).toNatClampNeg) (0 : Int32)) fun I11 =>
    some (p7, I11)
  else
    hlet (gup I9 130 ((150 : Int32).toNatClampNeg) (1 : Int32)) fun I10 =>
    some (p7, I10)
set_option maxHeartbeats 8000000 in
set_option maxRecDepth 100000 in
theorem c_X8_second {l : Launch} {dC : Nat → ClassId} {dI : Nat → Nat → Nat} {ca : Nat → ClassId} {b : Nat → Nat} {A : Nat → Prop} {N : Nat} (hN : 138 ≤ N) (hA : gAd A b N) (I : Nat → Nat → Int32) (O : Nat → Nat → Option Nat) (J : Nat → Nat → Int64) (res : Int32 × (Nat → Nat → Int32)) (h : f_X8_second I = some res) : Met l yX8_second wsX8_second ({ frames := 5, cells := 0, slots := 0, locals := 126 } : Room) (va_Pc [.ref (b 129)] (gPre dC dI ca b A N I O J)) (va_Qi (fun (r : Int32) (u : Nat → Nat → Int32) => res = (r, u)) (fun (u : Nat → Nat → Int32) t => va_P (dC, dI) vwCl (hW N ca b u O J) t.heap) A) 0 0 A := by
  refine Met.ofW (cc := cX8_second) (maxL := 5) (ret := (some .int)) (by decide) rfl ?_
  intro p e s m args below meth c s₁ B hml hv
  obtain ⟨rfl, hP, hK, hA2, hth⟩ := hv
  have hx := B.exec
  have hb := B.bytes
  have hr := B.returns
  have hlk := B.notSynchronized
  have X : gCx p s m ([.ref (b 129)] : List Value).toArray c RX8 cX8_second wsX8_second 5 dC dI ca b A N := ⟨hx, hb, hml, findClass_of_methodNamed B.named, atoms_spec (ws := wsX8_second) B.pre, hK, hA, hA2, hth⟩
  have hi8 : ∀ w ∈ wsX80, w ∈ wsX8_second := (fun w h => List.mem_cons_of_mem _ (List.mem_append_right _ h))
  have hS : va_S A s.heap s.heap [] := va_S.rf
  have hl := lv_entry ([.ref (b 129)] : List Value) (n := 5) (Nat.le_of_ble_eq_true rfl)
  rw [lg_entry_eq]
  generalize (lg_sl ([.ref (b 129)] : List Value) ++ List.replicate (5 - (lg_sl ([.ref (b 129)] : List Value)).length) Slot.unset).toArray = ls at hl ⊢
  have hl : lv_has ls 5 [(0, .ref (b 129))] := hl
  unfold f_X8_second at h
  refine lv_aload_n hx hb dX8_second_0 rfl (lv_at hl 0 rfl) ?_
  refine gg8_0 X hP kc_129 (sk_in hN kc_129 (by decide)) hi8 (List.mem_of_getElem? (i := 1) rfl) dX8_second_1 ?_
  refine lv_sipush (v := 128) hx hb dX8_second_4 (by decide) ?_
  refine ga20 X hP kc_130 (sk_in hN kc_130 (by decide)) (L := 151) (by decide) (by decide) dX8_second_7 ?_
  refine lv_istore_n (lv' := [(1, .int (I 130 ((128 : Int32).toNatClampNeg))), (0, .ref (b 129))]) hx hb dX8_second_8 rfl hl (by decide) rfl (fun ls hl => ?_)
  refine lv_iconst (v := 0) hx hb dX8_second_9 (by decide) ?_
  refine lv_istore_n (lv' := [(2, .int (0 : Int32)), (1, .int (I 130 ((128 : Int32).toNatClampNeg))), (0, .ref (b 129))]) hx hb dX8_second_10 rfl hl (by decide) rfl (fun ls hl => ?_)
  refine lv_iconst (v := 0) hx hb dX8_second_11 (by decide) ?_
  refine lv_istore_n (lv' := [(3, .int (0 : Int32)), (2, .int (0 : Int32)), (1, .int (I 130 ((128 : Int32).toNatClampNeg))), (0, .ref (b 129))]) hx hb dX8_second_12 rfl hl (by decide) rfl (fun ls hl => ?_)
  obtain ⟨I3, hv, h⟩ := hb_some h
  have K35 : ∀ (H : Heap) (locs : List Loc) (ls : Array Slot), va_P (dC, dI) vwCl (hW N ca b I3 O J) H → va_S A s.heap H locs → lv_has ls 5 [(0, .ref (b 129)), (1, .int (I 130 ((128 : Int32).toNatClampNeg))), (2, .int (0 : Int32))] → W p l e (headSpec wsX8_second ({ frames := 5, cells := 0, slots := 0, locals := 126 } : Room)).room s m ([.ref (b 129)] : List Value).toArray below meth c H locs 0 0 (MQ below (va_Qi (fun (r : Int32) (u : Nat → Nat → Int32) => res = (r, u)) (fun (u : Nat → Nat → Int32) t => va_P (dC, dI) vwCl (hW N ca b u O J) t.heap) A) ([.ref (b 129)] : List Value).toArray s 0 0 A) (F0 m 35 ls []) := by
    intro H locs ls hP hS hl
    refine lv_iconst (v := 0) hx hb dX8_second_35 (by decide) ?_
    refine lv_istore_n (lv' := [(3, .int (0 : Int32)), (0, .ref (b 129)), (1, .int (I 130 ((128 : Int32).toNatClampNeg))), (2, .int (0 : Int32))]) hx hb dX8_second_36 rfl hl (by decide) rfl (fun ls hl => ?_)
    obtain ⟨⟨p7, I8⟩, hv, h⟩ := hb_some h
    have K157 : ∀ (H : Heap) (locs : List Loc) (ls : Array Slot), va_P (dC, dI) vwCl (hW N ca b I8 O J) H → va_S A s.heap H locs → lv_has ls 5 [(0, .ref (b 129)), (1, .int (I 130 ((128 : Int32).toNatClampNeg))), (2, .int p7)] → W p l e (headSpec wsX8_second ({ frames := 5, cells := 0, slots := 0, locals := 126 } : Room)).room s m ([.ref (b 129)] : List Value).toArray below meth c H locs 0 0 (MQ below (va_Qi (fun (r : Int32) (u : Nat → Nat → Int32) => res = (r, u)) (fun (u : Nat → Nat → Int32) t => va_P (dC, dI) vwCl (hW N ca b u O J) t.heap) A) ([.ref (b 129)] : List Value).toArray s 0 0 A) (F0 m 157 ls []) := by
      intro H locs ls hP hS hl
      refine lv_aload_n hx hb dX8_second_157 rfl (lv_at hl 0 rfl) ?_
      refine gg8_0 X hP kc_129 (sk_in hN kc_129 (by decide)) hi8 (List.mem_of_getElem? (i := 1) rfl) dX8_second_158 ?_
      refine lv_sipush (v := 134) hx hb dX8_second_161 (by decide) ?_
      refine lv_dup2_11 hx hb dX8_second_164 rfl rfl ?_
      refine ga20 X hP kc_130 (sk_in hN kc_130 (by decide)) (L := 151) (by decide) (by decide) dX8_second_165 ?_
      refine lv_iconst (v := 1) hx hb dX8_second_166 (by decide) ?_
      refine lv_iadd hx hb dX8_second_167 ?_
      refine gs20 X hP hS kc_130 (sk_in hN kc_130 (by decide)) (L := 151) (by decide) (by decide) dX8_second_168 (fun H locs hP hS => ?_)
      obtain ⟨I9, eI9, h⟩ := hlet_ex h
      rw [← eI9] at hP
      refine lv_aload_n hx hb dX8_second_169 rfl (lv_at hl 0 rfl) ?_
      refine gg8_0 X hP kc_129 (sk_in hN kc_129 (by decide)) hi8 (List.mem_of_getElem? (i := 1) rfl) dX8_second_170 ?_
      refine lv_sipush (v := 150) hx hb dX8_second_173 (by decide) ?_
      refine lv_aload_n hx hb dX8_second_176 rfl (lv_at hl 0 rfl) ?_
      refine gg8_0 X hP kc_129 (sk_in hN kc_129 (by decide)) hi8 (List.mem_of_getElem? (i := 1) rfl) dX8_second_177 ?_
      refine lv_sipush (v := 135) hx hb dX8_second_180 (by decide) ?_
      refine ga20 X hP kc_130 (sk_in hN kc_130 (by decide)) (L := 151) (by decide) (by decide) dX8_second_183 ?_
      refine lv_iload_n hx hb dX8_second_184 rfl (lv_at hl 1 rfl) ?_
      refine lv_icmp_ne (tgt := 192) hx hb dX8_second_185 (by decide) (fun c12 => ?_) (fun c12 => ?_)
      · have h := gif_f c12 h
        refine lv_iconst (v := 1) hx hb dX8_second_192 (by decide) ?_
        refine gs20 X hP hS kc_130 (sk_in hN kc_130 (by decide)) (L := 151) (by decide) (by decide) dX8_second_193 (fun H locs hP hS => ?_)
        obtain ⟨I10, eI10, h⟩ := hlet_ex h
        rw [← eI10] at hP
        refine lv_iload_n hx hb dX8_second_194 rfl (lv_at hl 2 rfl) ?_
        exact W.iret hx hb hr (fun t9 ht hW => ⟨⟨p7, I10, rfl, (Option.some.inj h).symm, gEnd ht hP⟩, hS.F ht⟩) hS.2.2 dX8_second_195 hlk
      · have h := gif_t c12 h
        refine lv_iconst (v := 0) hx hb dX8_second_188 (by decide) ?_
        refine lv_goto (tgt := 193) hx hb dX8_second_189 (by decide) ?_
        refine gs20 X hP hS kc_130 (sk_in hN kc_130 (by decide)) (L := 151) (by decide) (by decide) dX8_second_193 (fun H locs hP hS => ?_)
        obtain ⟨I11, eI11, h⟩ := hlet_ex h
        rw [← eI11] at hP
        refine lv_iload_n hx hb dX8_second_194 rfl (lv_at hl 2 rfl) ?_
        exact W.iret hx hb hr (fun t9 ht hW => ⟨⟨p7, I11, rfl, (Option.some.inj h).symm, gEnd ht hP⟩, hS.F ht⟩) hS.2.2 dX8_second_195 hlk
    have hL37 : ∀ (fuel : Nat) (p4 : Int32) (p5 : Int32) (I6 : Nat → Nat → Int32) (H : Heap) (locs : List Loc) (ls : Array Slot), f_X8_second_L37 I fuel p4 p5 I6 = some (p7, I8) → va_P (dC, dI) vwCl (hW N ca b I6 O J) H → va_S A s.heap H locs → lv_has ls 5 [(0, .ref (b 129)), (1, .int (I 130 ((128 : Int32).toNatClampNeg))), (2, .int p4), (3, .int p5)] → W p l e (headSpec wsX8_second ({ frames := 5, cells := 0, slots := 0, locals := 126 } : Room)).room s m ([.ref (b 129)] : List Value).toArray below meth c H locs 0 0 (MQ below (va_Qi (fun (r : Int32) (u : Nat → Nat → Int32) => res = (r, u)) (fun (u : Nat → Nat → Int32) t => va_P (dC, dI) vwCl (hW N ca b u O J) t.heap) A) ([.ref (b 129)] : List Value).toArray s 0 0 A) (F0 m 37 ls []) := by
      intro fuel
      induction fuel with
      | zero =>
        intro p4 p5 I6 H locs ls h hP hS hl
        rw [f_X8_second_L37] at h
        cases h
      | succ fuel ih =>
        intro p4 p5 I6 H locs ls h hP hS hl
        rw [f_X8_second_L37] at h
        refine lv_iload_n hx hb dX8_second_37 rfl (lv_at hl 3 rfl) ?_
        refine lv_iload_n hx hb dX8_second_38 rfl (lv_at hl 1 rfl) ?_
        refine lv_icmp_ge (tgt := 157) hx hb dX8_second_39 (by decide) (fun c39 => ?_) (fun c39 => ?_)
        · have h := gif_t c39 h
          cases h
          exact K157 _ _ _ hP hS (lv_sub hl [0, 1, 2] rfl)
        · have h := gif_f c39 h
          refine lv_aload_n hx hb dX8_second_42 rfl (lv_at hl 0 rfl) ?_
          refine gg8_9 X hP kc_129 (sk_in hN kc_129 (by decide)) hi8 (List.mem_of_getElem? (i := 2) rfl) dX8_second_43 ?_
          refine lv_iload_n hx hb dX8_second_46 rfl (lv_at hl 3 rfl) ?_
          obtain ⟨hgi13, h⟩ := hg_some h
          refine ga20 X hP kc_136 (sk_in hN kc_136 (by decide)) (L := 8) (by decide) hgi13 dX8_second_47 ?_
          refine lv_istore (lv' := [(4, .int (I6 136 (p5.toNatClampNeg))), (0, .ref (b 129)), (1, .int (I 130 ((128 : Int32).toNatClampNeg))), (2, .int p4), (3, .int p5)]) hx hb dX8_second_48 hl (by decide) rfl (fun ls hl => ?_)
          refine lv_aload_n hx hb dX8_second_50 rfl (lv_at hl 1 rfl) ?_
          refine gg8_0 X hP kc_129 (sk_in hN kc_129 (by decide)) hi8 (List.mem_of_getElem? (i := 1) rfl) dX8_second_51 ?_
          refine lv_bipush (v := 16) hx hb dX8_second_54 (by decide) ?_
          refine lv_iload hx hb dX8_second_56 (lv_at hl 0 rfl) ?_
          refine lv_imul hx hb dX8_second_58 ?_
          refine lv_bipush (v := 8) hx hb dX8_second_59 (by decide) ?_
          refine lv_iadd hx hb dX8_second_61 ?_
          refine lv_iconst (v := 0) hx hb dX8_second_62 (by decide) ?_
          obtain ⟨hgi14, h⟩ := hg_some h
          refine gs20 X hP hS kc_130 (sk_in hN kc_130 (by decide)) (L := 151) (by decide) hgi14 dX8_second_63 (fun H locs hP hS => ?_)
          obtain ⟨I15, eI15, h⟩ := hlet_ex h
          rw [← eI15] at hP
          refine lv_aload_n hx hb dX8_second_64 rfl (lv_at hl 1 rfl) ?_
          refine lv_iload hx hb dX8_second_65 (lv_at hl 0 rfl) ?_
          refine lv_bipush (v := 6) hx hb dX8_second_67 (by decide) ?_
          obtain ⟨q17, hcq17, h⟩ := hb_some h
          refine gdV_i (As := [.int (I6 136 (p5.toNatClampNeg)), .int (6 : Int32)]) (rest := []) (BH := (fun (u : Unit) H => va_P (dC, dI) vwCl (hW N ca b I15 O J) H)) X hP hS (c_X8_of hN hA I15 O J (I6 136 (p5.toNatClampNeg)) (6 : Int32) q17 hcq17) (cwV 2 X.ts gX8_second_X8_of rfl rfl rfl (by decide +kernel) ⟨Nat.le_of_ble_eq_true rfl, Nat.le_of_ble_eq_true rfl⟩) (gr8 X hP kc_129 (sk_in hN kc_129 (by decide))) rfl hl.1 rfl (Nat.le_of_ble_eq_true rfl) dX8_second_69 ⟨Nat.le_of_ble_eq_true rfl, Nat.le_of_ble_eq_true rfl⟩ (fun r16 u9 H locs hw hP hS => ?_)
          have hw := hw.symm
          subst hw
          refine lv_iconst (v := 2) hx hb dX8_second_72 (by decide) ?_
          obtain ⟨⟨p18, I19⟩, hv, h⟩ := hb_some h
          have K151 : ∀ (H : Heap) (locs : List Loc) (ls : Array Slot), va_P (dC, dI) vwCl (hW N ca b I19 O J) H → va_S A s.heap H locs → lv_has ls 5 [(0, .ref (b 129)), (1, .int (I 130 ((128 : Int32).toNatClampNeg))), (2, .int p18), (3, .int p5)] → W p l e (headSpec wsX8_second ({ frames := 5, cells := 0, slots := 0, locals := 126 } : Room)).room s m ([.ref (b 129)] : List Value).toArray below meth c H locs 0 0 (MQ below (va_Qi (fun (r : Int32) (u : Nat → Nat → Int32) => res = (r, u)) (fun (u : Nat → Nat → Int32) t => va_P (dC, dI) vwCl (hW N ca b u O J) t.heap) A) ([.ref (b 129)] : List Value).toArray s 0 0 A) (F0 m 151 ls []) := by
            intro H locs ls hP hS hl
            obtain ⟨x20, ex20, h⟩ := hlet_ex h
            refine lv_iinc (v := x20) (lv' := [(3, .int x20), (0, .ref (b 129)), (1, .int (I 130 ((128 : Int32).toNatClampNeg))), (2, .int p18)]) hx hb dX8_second_151 hl (k := 3) rfl (by rw [ex20]; rfl) (by decide) rfl (fun ls hl => ?_)
            refine lv_goto (tgt := 37) hx hb dX8_second_154 (by decide) ?_
            exact ih _ _ _ _ _ _ h hP hS (lv_sub hl [1, 2, 3, 0] rfl)
          have h := hv
          refine lv_icmp_ne (tgt := 125) hx hb dX8_second_73 (by decide) (fun c38 => ?_) (fun c38 => ?_)
          · have h := gif_f c38 h
            refine lv_aload_n hx hb dX8_second_125 rfl (lv_at hl 1 rfl) ?_
            refine lv_iload hx hb dX8_second_126 (lv_at hl 0 rfl) ?_
            obtain ⟨q22, hcq22, h⟩ := hb_some h
            refine gdV_i (As := [.int (I6 136 (p5.toNatClampNeg))]) (rest := []) (BH := (fun (u : Unit) H => va_P (dC, dI) vwCl (hW N ca b I15 O J) H)) X hP hS (c_X8_flies hN hA I15 O J (I6 136 (p5.toNatClampNeg)) q22 hcq22) (cwV 1 X.ts gX8_second_X8_flies rfl rfl rfl (by decide +kernel) ⟨Nat.le_of_ble_eq_true rfl, Nat.le_of_ble_eq_true rfl⟩) (gr8 X hP kc_129 (sk_in hN kc_129 (by decide))) rfl hl.1 rfl (Nat.le_of_ble_eq_true rfl) dX8_second_128 ⟨Nat.le_of_ble_eq_true rfl, Nat.le_of_ble_eq_true rfl⟩ (fun r21 u9 H locs hw hP hS => ?_)
            have hw := hw.symm
            subst hw
            refine lv_if_eq (tgt := 151) hx hb dX8_second_131 (by decide) (fun c28 => ?_) (fun c28 => ?_)
            · have h := gif_t c28 h
              cases h
              exact K151 _ _ _ hP hS (lv_sub hl [1, 2, 3, 4] rfl)
            · have h := gif_f c28 h
              refine lv_iload_n hx hb dX8_second_134 rfl (lv_at hl 3 rfl) ?_
              refine lv_aload_n hx hb dX8_second_135 rfl (lv_at hl 1 rfl) ?_
              refine lv_iload hx hb dX8_second_136 (lv_at hl 0 rfl) ?_
              obtain ⟨q25, hcq25, h⟩ := hb_some h
              refine gdV_i (As := [.int (I6 136 (p5.toNatClampNeg))]) (rest := [.int p4]) (BH := (fun (u : Nat → Nat → Int32) H => va_P (dC, dI) vwCl (hW N ca b u O J) H)) X hP hS (c_X8_fly hN hA I15 O J (I6 136 (p5.toNatClampNeg)) q25 hcq25) (cwV 1 X.ts gX8_second_X8_fly rfl rfl rfl (by decide +kernel) ⟨Nat.le_of_ble_eq_true rfl, Nat.le_of_ble_eq_true rfl⟩) (gr8 X hP kc_129 (sk_in hN kc_129 (by decide))) rfl hl.1 rfl (Nat.le_of_ble_eq_true rfl) dX8_second_138 ⟨Nat.le_of_ble_eq_true rfl, Nat.le_of_ble_eq_true rfl⟩ (fun r24 I23 H locs hw hP hS => ?_)
              subst hw
              obtain ⟨p26, hv, h⟩ := hb_some h
              have K149 : ∀ (H : Heap) (locs : List Loc) (ls : Array Slot), va_P (dC, dI) vwCl (hW N ca b I23 O J) H → va_S A s.heap H locs → lv_has ls 5 [(0, .ref (b 129)), (1, .int (I 130 ((128 : Int32).toNatClampNeg))), (3, .int p5)] → W p l e (headSpec wsX8_second ({ frames := 5, cells := 0, slots := 0, locals := 126 } : Room)).room s m ([.ref (b 129)] : List Value).toArray below meth c H locs 0 0 (MQ below (va_Qi (fun (r : Int32) (u : Nat → Nat → Int32) => res = (r, u)) (fun (u : Nat → Nat → Int32) t => va_P (dC, dI) vwCl (hW N ca b u O J) t.heap) A) ([.ref (b 129)] : List Value).toArray s 0 0 A) (F0 m 149 ls [.int p26, .int p4]) := by
                intro H locs ls hP hS hl
                refine lv_iadd hx hb dX8_second_149 ?_
                refine lv_istore_n (lv' := [(2, .int (p4 + p26)), (0, .ref (b 129)), (1, .int (I 130 ((128 : Int32).toNatClampNeg))), (3, .int p5)]) hx hb dX8_second_150 rfl hl (by decide) rfl (fun ls hl => ?_)
                cases h
                exact K151 _ _ _ hP hS (lv_sub hl [1, 2, 0, 3] rfl)
              have h := hv
              refine lv_if_eq (tgt := 148) hx hb dX8_second_141 (by decide) (fun c27 => ?_) (fun c27 => ?_)
              · have h := gif_t c27 h
                refine lv_iconst (v := 0) hx hb dX8_second_148 (by decide) ?_
                cases h
                exact K149 _ _ _ hP hS (lv_sub hl [1, 2, 4] rfl)
              · have h := gif_f c27 h
                refine lv_iconst (v := 1) hx hb dX8_second_144 (by decide) ?_
                refine lv_goto (tgt := 149) hx hb dX8_second_145 (by decide) ?_
                cases h
                exact K149 _ _ _ hP hS (lv_sub hl [1, 2, 4] rfl)
          · have h := gif_t c38 h
            refine lv_aload_n hx hb dX8_second_76 rfl (lv_at hl 1 rfl) ?_
            refine gg8_0 X hP kc_129 (sk_in hN kc_129 (by decide)) hi8 (List.mem_of_getElem? (i := 1) rfl) dX8_second_77 ?_
            refine lv_bipush (v := 16) hx hb dX8_second_80 (by decide) ?_
            refine lv_iload hx hb dX8_second_82 (lv_at hl 0 rfl) ?_
            refine lv_imul hx hb dX8_second_84 ?_
            refine lv_bipush (v := 12) hx hb dX8_second_85 (by decide) ?_
            refine lv_iadd hx hb dX8_second_87 ?_
            refine lv_dup2_11 hx hb dX8_second_88 rfl rfl ?_
            obtain ⟨hgi29, h⟩ := hg_some h
            refine ga20 X hP kc_130 (sk_in hN kc_130 (by decide)) (L := 151) (by decide) hgi29 dX8_second_89 ?_
            refine lv_iconst (v := 1) hx hb dX8_second_90 (by decide) ?_
            refine lv_isub hx hb dX8_second_91 ?_
            obtain ⟨hgi30, h⟩ := hg_some h
            refine gs20 X hP hS kc_130 (sk_in hN kc_130 (by decide)) (L := 151) (by decide) hgi30 dX8_second_92 (fun H locs hP hS => ?_)
            obtain ⟨I31, eI31, h⟩ := hlet_ex h
            rw [← eI31] at hP
            refine lv_aload_n hx hb dX8_second_93 rfl (lv_at hl 1 rfl) ?_
            refine gg8_0 X hP kc_129 (sk_in hN kc_129 (by decide)) hi8 (List.mem_of_getElem? (i := 1) rfl) dX8_second_94 ?_
            refine lv_bipush (v := 16) hx hb dX8_second_97 (by decide) ?_
            refine lv_iload hx hb dX8_second_99 (lv_at hl 0 rfl) ?_
            refine lv_imul hx hb dX8_second_101 ?_
            refine lv_bipush (v := 6) hx hb dX8_second_102 (by decide) ?_
            refine lv_iadd hx hb dX8_second_104 ?_
            refine lv_aload_n hx hb dX8_second_105 rfl (lv_at hl 1 rfl) ?_
            refine lv_iload hx hb dX8_second_106 (lv_at hl 0 rfl) ?_
            refine lv_bipush (v := 12) hx hb dX8_second_108 (by decide) ?_
            obtain ⟨q33, hcq33, h⟩ := hb_some h
            refine gdV_i (As := [.int (I6 136 (p5.toNatClampNeg)), .int (12 : Int32)]) (rest := [.int (((16 : Int32) * (I6 136 (p5.toNatClampNeg))) + (6 : Int32)), .ref (b 130)]) (BH := (fun (u : Unit) H => va_P (dC, dI) vwCl (hW N ca b I31 O J) H)) X hP hS (c_X8_of hN hA I31 O J (I6 136 (p5.toNatClampNeg)) (12 : Int32) q33 hcq33) (cwV 2 X.ts gX8_second_X8_of rfl rfl rfl (by decide +kernel) ⟨Nat.le_of_ble_eq_true rfl, Nat.le_of_ble_eq_true rfl⟩) (gr8 X hP kc_129 (sk_in hN kc_129 (by decide))) rfl hl.1 rfl (Nat.le_of_ble_eq_true rfl) dX8_second_110 ⟨Nat.le_of_ble_eq_true rfl, Nat.le_of_ble_eq_true rfl⟩ (fun r32 u9 H locs hw hP hS => ?_)
            have hw := hw.symm
            subst hw
            obtain ⟨p34, hv, h⟩ := hb_some h
            have K121 : ∀ (H : Heap) (locs : List Loc) (ls : Array Slot), va_P (dC, dI) vwCl (hW N ca b I31 O J) H → va_S A s.heap H locs → lv_has ls 5 [(0, .ref (b 129)), (1, .int (I 130 ((128 : Int32).toNatClampNeg))), (2, .int p4), (3, .int p5)] → W p l e (headSpec wsX8_second ({ frames := 5, cells := 0, slots := 0, locals := 126 } : Room)).room s m ([.ref (b 129)] : List Value).toArray below meth c H locs 0 0 (MQ below (va_Qi (fun (r : Int32) (u : Nat → Nat → Int32) => res = (r, u)) (fun (u : Nat → Nat → Int32) t => va_P (dC, dI) vwCl (hW N ca b u O J) t.heap) A) ([.ref (b 129)] : List Value).toArray s 0 0 A) (F0 m 121 ls [.int p34, .int (((16 : Int32) * (I6 136 (p5.toNatClampNeg))) + (6 : Int32)), .ref (b 130)]) := by
              intro H locs ls hP hS hl
              obtain ⟨hgi35, h⟩ := hg_some h
              refine gs20 X hP hS kc_130 (sk_in hN kc_130 (by decide)) (L := 151) (by decide) hgi35 dX8_second_121 (fun H locs hP hS => ?_)
              obtain ⟨I36, eI36, h⟩ := hlet_ex h
              rw [← eI36] at hP
              refine lv_goto (tgt := 151) hx hb dX8_second_122 (by decide) ?_
              cases h
              exact K151 _ _ _ hP hS (lv_sub hl [0, 1, 2, 3] rfl)
            have h := hv
            refine lv_if_ne (tgt := 120) hx hb dX8_second_113 (by decide) (fun c37 => ?_) (fun c37 => ?_)
            · have h := gif_f c37 h
              refine lv_iconst (v := 2) hx hb dX8_second_120 (by decide) ?_
              cases h
              exact K121 _ _ _ hP hS (lv_sub hl [1, 2, 3, 4] rfl)
            · have h := gif_t c37 h
              refine lv_iconst (v := 1) hx hb dX8_second_116 (by decide) ?_
              refine lv_goto (tgt := 121) hx hb dX8_second_117 (by decide) ?_
              cases h
              exact K121 _ _ _ hP hS (lv_sub hl [1, 2, 3, 4] rfl)
    exact hL37 FU _ _ _ _ _ _ hv hP hS (lv_sub hl [1, 2, 3, 0] rfl)
  have hL13 : ∀ (fuel : Nat) (p1 : Int32) (I2 : Nat → Nat → Int32) (H : Heap) (locs : List Loc) (ls : Array Slot), f_X8_second_L13 I fuel p1 I2 = some I3 → va_P (dC, dI) vwCl (hW N ca b I2 O J) H → va_S A s.heap H locs → lv_has ls 5 [(0, .ref (b 129)), (1, .int (I 130 ((128 : Int32).toNatClampNeg))), (2, .int (0 : Int32)), (3, .int p1)] → W p l e (headSpec wsX8_second ({ frames := 5, cells := 0, slots := 0, locals := 126 } : Room)).room s m ([.ref (b 129)] : List Value).toArray below meth c H locs 0 0 (MQ below (va_Qi (fun (r : Int32) (u : Nat → Nat → Int32) => res = (r, u)) (fun (u : Nat → Nat → Int32) t => va_P (dC, dI) vwCl (hW N ca b u O J) t.heap) A) ([.ref (b 129)] : List Value).toArray s 0 0 A) (F0 m 13 ls []) := by
    intro fuel
    induction fuel with
    | zero =>
      intro p1 I2 H locs ls h hP hS hl
      rw [f_X8_second_L13] at h
      cases h
    | succ fuel ih =>
      intro p1 I2 H locs ls h hP hS hl
      rw [f_X8_second_L13] at h
      refine lv_iload_n hx hb dX8_second_13 rfl (lv_at hl 3 rfl) ?_
      refine lv_iload_n hx hb dX8_second_14 rfl (lv_at hl 1 rfl) ?_
      refine lv_icmp_ge (tgt := 35) hx hb dX8_second_15 (by decide) (fun c45 => ?_) (fun c45 => ?_)
      · have h := gif_t c45 h
        cases h
        exact K35 _ _ _ hP hS (lv_sub hl [0, 1, 2] rfl)
      · have h := gif_f c45 h
        refine lv_aload_n hx hb dX8_second_18 rfl (lv_at hl 0 rfl) ?_
        refine gg8_9 X hP kc_129 (sk_in hN kc_129 (by decide)) hi8 (List.mem_of_getElem? (i := 2) rfl) dX8_second_19 ?_
        refine lv_aload_n hx hb dX8_second_22 rfl (lv_at hl 0 rfl) ?_
        refine lv_iload_n hx hb dX8_second_23 rfl (lv_at hl 3 rfl) ?_
        obtain ⟨q41, hcq41, h⟩ := hb_some h
        refine gdV_i (As := [.int p1]) (rest := [.ref (b 136)]) (BH := (fun (u : Unit) H => va_P (dC, dI) vwCl (hW N ca b I2 O J) H)) X hP hS (c_X8_place hN hA I2 O J p1 q41 hcq41) (cwV 1 X.ts gX8_second_X8_place rfl rfl rfl (by decide +kernel) ⟨Nat.le_of_ble_eq_true rfl, Nat.le_of_ble_eq_true rfl⟩) (gr8 X hP kc_129 (sk_in hN kc_129 (by decide))) rfl hl.1 rfl (Nat.le_of_ble_eq_true rfl) dX8_second_24 ⟨Nat.le_of_ble_eq_true rfl, Nat.le_of_ble_eq_true rfl⟩ (fun r40 u9 H locs hw hP hS => ?_)
        have hw := hw.symm
        subst hw
        refine lv_iload_n hx hb dX8_second_27 rfl (lv_at hl 3 rfl) ?_
        obtain ⟨hgi42, h⟩ := hg_some h
        refine gs20 X hP hS kc_136 (sk_in hN kc_136 (by decide)) (L := 8) (by decide) hgi42 dX8_second_28 (fun H locs hP hS => ?_)
        obtain ⟨I43, eI43, h⟩ := hlet_ex h
        rw [← eI43] at hP
        obtain ⟨x44, ex44, h⟩ := hlet_ex h
        refine lv_iinc (v := x44) (lv' := [(3, .int x44), (0, .ref (b 129)), (1, .int (I 130 ((128 : Int32).toNatClampNeg))), (2, .int (0 : Int32))]) hx hb dX8_second_29 hl (k := 3) rfl (by rw [ex44]; rfl) (by decide) rfl (fun ls hl => ?_)
        refine lv_goto (tgt := 13) hx hb dX8_second_32 (by decide) ?_
        exact ih _ _ _ _ _ h hP hS (lv_sub hl [1, 2, 3, 0] rfl)
  exact hL13 FU _ _ _ _ _ hv hP hS (lv_sub hl [3, 2, 1, 0] rfl)
def f_X8_passes_L4 (a1 : Int32) : Nat → Int32 → Int32 → (Nat → Nat → Int32) → Option (Int32 × (Nat → Nat → Int32))
  | 0, _, _, _ => none
  | fuel + 1, p1, p2, I3 =>
    if a1 ≤ p2 then
      some (p1, I3)
    else
      if (I3 130 ((150 : Int32).toNatClampNeg)) = (1 : Int32) then
        (f_X8_second I3).bind fun (r7, I6) =>
        hlet (p2 + 1) fun x9 =>
        f_X8_passes_L4 a1 fuel (p1 + r7) x9 I6
      else
        some (p1, I3)
def f_X8_passes (a1 : Int32) (I : Nat → Nat → Int32) : Option (Int32 × (Nat → Nat → Int32)) :=
  (f_X8_passes_L4 a1 FU (0 : Int32) (0 : Int32) I).bind fun (p4, I5) =>
  some (p4, I5)
set_option maxHeartbeats 8000000 in
set_option maxRecDepth 100000 in
theorem c_X8_passes {l : Launch} {dC : Nat → ClassId} {dI : Nat → Nat → Nat} {ca : Nat → ClassId} {b : Nat → Nat} {A : Nat → Prop} {N : Nat} (hN : 138 ≤ N) (hA : gAd A b N) (I : Nat → Nat → Int32) (O : Nat → Nat → Option Nat) (J : Nat → Nat → Int64) (a1 : Int32) (res : Int32 × (Nat → Nat → Int32)) (h : f_X8_passes a1 I = some res) : Met l yX8_passes wsX8_passes ({ frames := 6, cells := 0, slots := 0, locals := 150 } : Room) (va_Pc [.ref (b 129), .int a1] (gPre dC dI ca b A N I O J)) (va_Qi (fun (r : Int32) (u : Nat → Nat → Int32) => res = (r, u)) (fun (u : Nat → Nat → Int32) t => va_P (dC, dI) vwCl (hW N ca b u O J) t.heap) A) 0 0 A := by
  refine Met.ofW (cc := cX8_passes) (maxL := 4) (ret := (some .int)) (by decide) rfl ?_
  intro p e s m args below meth c s₁ B hml hv
  obtain ⟨rfl, hP, hK, hA2, hth⟩ := hv
  have hx := B.exec
  have hb := B.bytes
  have hr := B.returns
  have hlk := B.notSynchronized
  have X : gCx p s m ([.ref (b 129), .int a1] : List Value).toArray c RX8 cX8_passes wsX8_passes 4 dC dI ca b A N := ⟨hx, hb, hml, findClass_of_methodNamed B.named, atoms_spec (ws := wsX8_passes) B.pre, hK, hA, hA2, hth⟩
  have hi8 : ∀ w ∈ wsX80, w ∈ wsX8_passes := (fun w h => List.mem_cons_of_mem _ (List.mem_append_right _ h))
  have hS : va_S A s.heap s.heap [] := va_S.rf
  have hl := lv_entry ([.ref (b 129), .int a1] : List Value) (n := 4) (Nat.le_of_ble_eq_true rfl)
  rw [lg_entry_eq]
  generalize (lg_sl ([.ref (b 129), .int a1] : List Value) ++ List.replicate (4 - (lg_sl ([.ref (b 129), .int a1] : List Value)).length) Slot.unset).toArray = ls at hl ⊢
  have hl : lv_has ls 4 [(0, .ref (b 129)), (1, .int a1)] := hl
  unfold f_X8_passes at h
  refine lv_iconst (v := 0) hx hb dX8_passes_0 (by decide) ?_
  refine lv_istore_n (lv' := [(2, .int (0 : Int32)), (0, .ref (b 129)), (1, .int a1)]) hx hb dX8_passes_1 rfl hl (by decide) rfl (fun ls hl => ?_)
  refine lv_iconst (v := 0) hx hb dX8_passes_2 (by decide) ?_
  refine lv_istore_n (lv' := [(3, .int (0 : Int32)), (2, .int (0 : Int32)), (0, .ref (b 129)), (1, .int a1)]) hx hb dX8_passes_3 rfl hl (by decide) rfl (fun ls hl => ?_)
  obtain ⟨⟨p4, I5⟩, hv, h⟩ := hb_some h
  have K34 : ∀ (H : Heap) (locs : List Loc) (ls : Array Slot), va_P (dC, dI) vwCl (hW N ca b I5 O J) H → va_S A s.heap H locs → lv_has ls 4 [(2, .int p4)] → W p l e (headSpec wsX8_passes ({ frames := 6, cells := 0, slots := 0, locals := 150 } : Room)).room s m ([.ref (b 129), .int a1] : List Value).toArray below meth c H locs 0 0 (MQ below (va_Qi (fun (r : Int32) (u : Nat → Nat → Int32) => res = (r, u)) (fun (u : Nat → Nat → Int32) t => va_P (dC, dI) vwCl (hW N ca b u O J) t.heap) A) ([.ref (b 129), .int a1] : List Value).toArray s 0 0 A) (F0 m 34 ls []) := by
    intro H locs ls hP hS hl
    refine lv_iload_n hx hb dX8_passes_34 rfl (lv_at hl 0 rfl) ?_
    exact W.iret hx hb hr (fun t9 ht hW => ⟨⟨p4, I5, rfl, (Option.some.inj h).symm, gEnd ht hP⟩, hS.F ht⟩) hS.2.2 dX8_passes_35 hlk
  have hL4 : ∀ (fuel : Nat) (p1 : Int32) (p2 : Int32) (I3 : Nat → Nat → Int32) (H : Heap) (locs : List Loc) (ls : Array Slot), f_X8_passes_L4 a1 fuel p1 p2 I3 = some (p4, I5) → va_P (dC, dI) vwCl (hW N ca b I3 O J) H → va_S A s.heap H locs → lv_has ls 4 [(0, .ref (b 129)), (1, .int a1), (2, .int p1), (3, .int p2)] → W p l e (headSpec wsX8_passes ({ frames := 6, cells := 0, slots := 0, locals := 150 } : Room)).room s m ([.ref (b 129), .int a1] : List Value).toArray below meth c H locs 0 0 (MQ below (va_Qi (fun (r : Int32) (u : Nat → Nat → Int32) => res = (r, u)) (fun (u : Nat → Nat → Int32) t => va_P (dC, dI) vwCl (hW N ca b u O J) t.heap) A) ([.ref (b 129), .int a1] : List Value).toArray s 0 0 A) (F0 m 4 ls []) := by
    intro fuel
    induction fuel with
    | zero =>
      intro p1 p2 I3 H locs ls h hP hS hl
      rw [f_X8_passes_L4] at h
      cases h
    | succ fuel ih =>
      intro p1 p2 I3 H locs ls h hP hS hl
      rw [f_X8_passes_L4] at h
      refine lv_iload_n hx hb dX8_passes_4 rfl (lv_at hl 3 rfl) ?_
      refine lv_iload_n hx hb dX8_passes_5 rfl (lv_at hl 1 rfl) ?_
      refine lv_icmp_ge (tgt := 34) hx hb dX8_passes_6 (by decide) (fun c11 => ?_) (fun c11 => ?_)
      · have h := gif_t c11 h
        cases h
        exact K34 _ _ _ hP hS (lv_sub hl [2] rfl)
      · have h := gif_f c11 h
        refine lv_aload_n hx hb dX8_passes_9 rfl (lv_at hl 0 rfl) ?_
        refine gg8_0 X hP kc_129 (sk_in hN kc_129 (by decide)) hi8 (List.mem_of_getElem? (i := 1) rfl) dX8_passes_10 ?_
        refine lv_sipush (v := 150) hx hb dX8_passes_13 (by decide) ?_
        refine ga20 X hP kc_130 (sk_in hN kc_130 (by decide)) (L := 151) (by decide) (by decide) dX8_passes_16 ?_
        refine lv_iconst (v := 1) hx hb dX8_passes_17 (by decide) ?_
        refine lv_icmp_ne (tgt := 34) hx hb dX8_passes_18 (by decide) (fun c10 => ?_) (fun c10 => ?_)
        · have h := gif_f c10 h
          cases h
          exact K34 _ _ _ hP hS (lv_sub hl [2] rfl)
        · have h := gif_t c10 h
          refine lv_iload_n hx hb dX8_passes_21 rfl (lv_at hl 2 rfl) ?_
          refine lv_aload_n hx hb dX8_passes_22 rfl (lv_at hl 0 rfl) ?_
          obtain ⟨q8, hcq8, h⟩ := hb_some h
          refine gdV_i (As := []) (rest := [.int p1]) (BH := (fun (u : Nat → Nat → Int32) H => va_P (dC, dI) vwCl (hW N ca b u O J) H)) X hP hS (c_X8_second hN hA I3 O J q8 hcq8) (cwV 0 X.ts gX8_passes_X8_second rfl rfl rfl (by decide +kernel) ⟨Nat.le_of_ble_eq_true rfl, Nat.le_of_ble_eq_true rfl⟩) (gr8 X hP kc_129 (sk_in hN kc_129 (by decide))) rfl hl.1 rfl (Nat.le_of_ble_eq_true rfl) dX8_passes_23 ⟨Nat.le_of_ble_eq_true rfl, Nat.le_of_ble_eq_true rfl⟩ (fun r7 I6 H locs hw hP hS => ?_)
          subst hw
          refine lv_iadd hx hb dX8_passes_26 ?_
          refine lv_istore_n (lv' := [(2, .int (p1 + r7)), (0, .ref (b 129)), (1, .int a1), (3, .int p2)]) hx hb dX8_passes_27 rfl hl (by decide) rfl (fun ls hl => ?_)
          obtain ⟨x9, ex9, h⟩ := hlet_ex h
          refine lv_iinc (v := x9) (lv' := [(3, .int x9), (2, .int (p1 + r7)), (0, .ref (b 129)), (1, .int a1)]) hx hb dX8_passes_28 hl (k := 3) rfl (by rw [ex9]; rfl) (by decide) rfl (fun ls hl => ?_)
          refine lv_goto (tgt := 4) hx hb dX8_passes_31 (by decide) ?_
          exact ih _ _ _ _ _ _ h hP hS (lv_sub hl [2, 3, 1, 0] rfl)
  exact hL4 FU _ _ _ _ _ _ hv hP hS (lv_sub hl [2, 3, 1, 0] rfl)
def f_X8_enter_L95 (I7 : Nat → Nat → Int32) : Nat → Int32 → (Nat → Nat → Int32) → Option (Nat → Nat → Int32)
  | 0, _, _ => none
  | fuel + 1, p9, I10 =>
    if (16 : Int32) ≤ p9 then
      some I10
    else
      hg (gin (((16 : Int32) * (I7 130 ((128 : Int32).toNatClampNeg))) + p9) 151) <|
      hlet (gup I10 130 ((((16 : Int32) * (I7 130 ((128 : Int32).toNatClampNeg))) + p9).toNatClampNeg) (0 : Int32)) fun I24 =>
      hlet (p9 + 1) fun x25 =>
      f_X8_enter_L95 I7 fuel x25 I24
def f_X8_enter (a1 : Int32) (a2 : Int32) (a3 : Int32) (I : Nat → Nat → Int32) : Option (Int32 × (Nat → Nat → Int32)) :=
  (f_X8_in a1 (10 : Int32) (40 : Int32)).bind fun r1 =>
  (show Option (Int32) from
    if r1 = 0 then
      some (1 : Int32)
    else
      (f_X8_in a2 (100 : Int32) (999 : Int32)).bind fun r28 =>
      if r28 = 0 then
        some (1 : Int32)
      else
        (f_X8_in a3 (0 : Int32) (1 : Int32)).bind fun r30 =>
        if r30 = 0 then
          some (1 : Int32)
        else
          if (I 130 ((128 : Int32).toNatClampNeg)) = (8 : Int32) then
            some (2 : Int32)
          else
            if (I 130 ((150 : Int32).toNatClampNeg)) = (1 : Int32) then
              some (2 : Int32)
            else
              some (0 : Int32)).bind fun p3 =>
  (f_X8_refused p3 I).bind fun (r5, I4) =>
  if r5 = 0 then
    (f_X8_records I4).bind fun I7 =>
    (f_X8_enter_L95 I7 FU (0 : Int32) I7).bind fun I11 =>
    hg (gin ((16 : Int32) * (I7 130 ((128 : Int32).toNatClampNeg))) 151) <|
    hlet (gup I11 130 (((16 : Int32) * (I7 130 ((128 : Int32).toNatClampNeg))).toNatClampNeg) a1) fun I13 =>
    hg (gin (((16 : Int32) * (I7 130 ((128 : Int32).toNatClampNeg))) + (1 : Int32)) 151) <|
    hlet (gup I13 130 ((((16 : Int32) * (I7 130 ((128 : Int32).toNatClampNeg))) + (1 : Int32)).toNatClampNeg) a2) fun I15 =>
    hg (gin (((16 : Int32) * (I7 130 ((128 : Int32).toNatClampNeg))) + (2 : Int32)) 151) <|
    hlet (gup I15 130 ((((16 : Int32) * (I7 130 ((128 : Int32).toNatClampNeg))) + (2 : Int32)).toNatClampNeg) a3) fun I17 =>
    hg (gin (((16 : Int32) * (I7 130 ((128 : Int32).toNatClampNeg))) + (3 : Int32)) 151) <|
    hlet (gup I17 130 ((((16 : Int32) * (I7 130 ((128 : Int32).toNatClampNeg))) + (3 : Int32)).toNatClampNeg) a2) fun I19 =>
    hg (gin (((16 : Int32) * (I7 130 ((128 : Int32).toNatClampNeg))) + (5 : Int32)) 151) <|
    hlet (gup I19 130 ((((16 : Int32) * (I7 130 ((128 : Int32).toNatClampNeg))) + (5 : Int32)).toNatClampNeg) a3) fun I21 =>
    hlet (gup I21 130 ((128 : Int32).toNatClampNeg) ((I21 130 ((128 : Int32).toNatClampNeg)) + (1 : Int32))) fun I22 =>
    some (((I22 130 ((128 : Int32).toNatClampNeg)) - (1 : Int32)), I22)
  else
    some ((0 : Int32), I4)
set_option maxHeartbeats 8000000 in
set_option maxRecDepth 100000 in
theorem c_X8_enter {l : Launch} {dC : Nat → ClassId} {dI : Nat → Nat → Nat} {ca : Nat → ClassId} {b : Nat → Nat} {A : Nat → Prop} {N : Nat} (hN : 138 ≤ N) (hA : gAd A b N) (I : Nat → Nat → Int32) (O : Nat → Nat → Option Nat) (J : Nat → Nat → Int64) (a1 : Int32) (a2 : Int32) (a3 : Int32) (res : Int32 × (Nat → Nat → Int32)) (h : f_X8_enter a1 a2 a3 I = some res) : Met l yX8_enter wsX8_enter ({ frames := 1, cells := 0, slots := 0, locals := 22 } : Room) (va_Pc [.ref (b 129), .int a1, .int a2, .int a3] (gPre dC dI ca b A N I O J)) (va_Qi (fun (r : Int32) (u : Nat → Nat → Int32) => res = (r, u)) (fun (u : Nat → Nat → Int32) t => va_P (dC, dI) vwCl (hW N ca b u O J) t.heap) A) 0 0 A := by
  refine Met.ofW (cc := cX8_enter) (maxL := 6) (ret := (some .int)) (by decide) rfl ?_
  intro p e s m args below meth c s₁ B hml hv
  obtain ⟨rfl, hP, hK, hA2, hth⟩ := hv
  have hx := B.exec
  have hb := B.bytes
  have hr := B.returns
  have hlk := B.notSynchronized
  have X : gCx p s m ([.ref (b 129), .int a1, .int a2, .int a3] : List Value).toArray c RX8 cX8_enter wsX8_enter 6 dC dI ca b A N := ⟨hx, hb, hml, findClass_of_methodNamed B.named, atoms_spec (ws := wsX8_enter) B.pre, hK, hA, hA2, hth⟩
  have hi8 : ∀ w ∈ wsX80, w ∈ wsX8_enter := (fun w h => List.mem_cons_of_mem _ (List.mem_append_right _ h))
  have hS : va_S A s.heap s.heap [] := va_S.rf
  have hl := lv_entry ([.ref (b 129), .int a1, .int a2, .int a3] : List Value) (n := 6) (Nat.le_of_ble_eq_true rfl)
  rw [lg_entry_eq]
  generalize (lg_sl ([.ref (b 129), .int a1, .int a2, .int a3] : List Value) ++ List.replicate (6 - (lg_sl ([.ref (b 129), .int a1, .int a2, .int a3] : List Value)).length) Slot.unset).toArray = ls at hl ⊢
  have hl : lv_has ls 6 [(0, .ref (b 129)), (1, .int a1), (2, .int a2), (3, .int a3)] := hl
  unfold f_X8_enter at h
  refine lv_aload_n hx hb dX8_enter_0 rfl (lv_at hl 0 rfl) ?_
  refine lv_iload_n hx hb dX8_enter_1 rfl (lv_at hl 1 rfl) ?_
  refine lv_bipush (v := 10) hx hb dX8_enter_2 (by decide) ?_
  refine lv_bipush (v := 40) hx hb dX8_enter_4 (by decide) ?_
  obtain ⟨q2, hcq2, h⟩ := hb_some h
  refine gdS_i (As := [.int a1, .int (10 : Int32), .int (40 : Int32)]) (rest := [.ref (b 129)]) (BH := (fun (u : Unit) H => va_P (dC, dI) vwCl (hW N ca b I O J) H)) X hP hS (c_X8_in hN hA I O J a1 (10 : Int32) (40 : Int32) q2 hcq2) (va_cwS 3 X.ts gX8_enter_X8_in rfl rfl rfl (by decide +kernel) ⟨Nat.le_of_ble_eq_true rfl, Nat.le_of_ble_eq_true rfl⟩) rfl hl.1 rfl (Nat.le_of_ble_eq_true rfl) dX8_enter_6 ⟨Nat.le_of_ble_eq_true rfl, Nat.le_of_ble_eq_true rfl⟩ (fun r1 u9 H locs hw hP hS => ?_)
  have hw := hw.symm
  subst hw
  obtain ⟨p3, hv, h⟩ := hb_some h
  have K67 : ∀ (H : Heap) (locs : List Loc) (ls : Array Slot), va_P (dC, dI) vwCl (hW N ca b I O J) H → va_S A s.heap H locs → lv_has ls 6 [(0, .ref (b 129)), (1, .int a1), (2, .int a2), (3, .int a3)] → W p l e (headSpec wsX8_enter ({ frames := 1, cells := 0, slots := 0, locals := 22 } : Room)).room s m ([.ref (b 129), .int a1, .int a2, .int a3] : List Value).toArray below meth c H locs 0 0 (MQ below (va_Qi (fun (r : Int32) (u : Nat → Nat → Int32) => res = (r, u)) (fun (u : Nat → Nat → Int32) t => va_P (dC, dI) vwCl (hW N ca b u O J) t.heap) A) ([.ref (b 129), .int a1, .int a2, .int a3] : List Value).toArray s 0 0 A) (F0 m 67 ls [.int p3, .ref (b 129)]) := by
    intro H locs ls hP hS hl
    obtain ⟨q6, hcq6, h⟩ := hb_some h
    refine gdV_i (As := [.int p3]) (rest := []) (BH := (fun (u : Nat → Nat → Int32) H => va_P (dC, dI) vwCl (hW N ca b u O J) H)) X hP hS (c_X8_refused hN hA I O J p3 q6 hcq6) (cwV 1 X.ts gX8_enter_X8_refused rfl rfl rfl (by decide +kernel) ⟨Nat.le_of_ble_eq_true rfl, Nat.le_of_ble_eq_true rfl⟩) (gr8 X hP kc_129 (sk_in hN kc_129 (by decide))) rfl hl.1 rfl (Nat.le_of_ble_eq_true rfl) dX8_enter_67 ⟨Nat.le_of_ble_eq_true rfl, Nat.le_of_ble_eq_true rfl⟩ (fun r5 I4 H locs hw hP hS => ?_)
    subst hw
    refine lv_if_eq (tgt := 75) hx hb dX8_enter_70 (by decide) (fun c27 => ?_) (fun c27 => ?_)
    · have h := gif_t c27 h
      refine lv_aload_n hx hb dX8_enter_75 rfl (lv_at hl 0 rfl) ?_
      obtain ⟨q8, hcq8, h⟩ := hb_some h
      refine gdV_v (As := []) (rest := []) (BH := (fun (u : Nat → Nat → Int32) H => va_P (dC, dI) vwCl (hW N ca b u O J) H)) X hP hS (c_X8_records hN hA I4 O J q8 hcq8) (cwV 0 X.ts gX8_enter_X8_records rfl rfl rfl (by decide +kernel) ⟨Nat.le_of_ble_eq_true rfl, Nat.le_of_ble_eq_true rfl⟩) (gr8 X hP kc_129 (sk_in hN kc_129 (by decide))) rfl hl.1 rfl (Nat.le_of_ble_eq_true rfl) dX8_enter_76 ⟨Nat.le_of_ble_eq_true rfl, Nat.le_of_ble_eq_true rfl⟩ (fun I7 H locs hw hP hS => ?_)
      have hw := hw.symm
      subst hw
      refine lv_bipush (v := 16) hx hb dX8_enter_79 (by decide) ?_
      refine lv_aload_n hx hb dX8_enter_81 rfl (lv_at hl 0 rfl) ?_
      refine gg8_0 X hP kc_129 (sk_in hN kc_129 (by decide)) hi8 (List.mem_of_getElem? (i := 1) rfl) dX8_enter_82 ?_
      refine lv_sipush (v := 128) hx hb dX8_enter_85 (by decide) ?_
      refine ga20 X hP kc_130 (sk_in hN kc_130 (by decide)) (L := 151) (by decide) (by decide) dX8_enter_88 ?_
      refine lv_imul hx hb dX8_enter_89 ?_
      refine lv_istore (lv' := [(4, .int ((16 : Int32) * (I7 130 ((128 : Int32).toNatClampNeg)))), (0, .ref (b 129)), (1, .int a1), (2, .int a2), (3, .int a3)]) hx hb dX8_enter_90 hl (by decide) rfl (fun ls hl => ?_)
      refine lv_iconst (v := 0) hx hb dX8_enter_92 (by decide) ?_
      refine lv_istore (lv' := [(5, .int (0 : Int32)), (4, .int ((16 : Int32) * (I7 130 ((128 : Int32).toNatClampNeg)))), (0, .ref (b 129)), (1, .int a1), (2, .int a2), (3, .int a3)]) hx hb dX8_enter_93 hl (by decide) rfl (fun ls hl => ?_)
      obtain ⟨I11, hv, h⟩ := hb_some h
      have K119 : ∀ (H : Heap) (locs : List Loc) (ls : Array Slot), va_P (dC, dI) vwCl (hW N ca b I11 O J) H → va_S A s.heap H locs → lv_has ls 6 [(0, .ref (b 129)), (1, .int a1), (2, .int a2), (3, .int a3), (4, .int ((16 : Int32) * (I7 130 ((128 : Int32).toNatClampNeg))))] → W p l e (headSpec wsX8_enter ({ frames := 1, cells := 0, slots := 0, locals := 22 } : Room)).room s m ([.ref (b 129), .int a1, .int a2, .int a3] : List Value).toArray below meth c H locs 0 0 (MQ below (va_Qi (fun (r : Int32) (u : Nat → Nat → Int32) => res = (r, u)) (fun (u : Nat → Nat → Int32) t => va_P (dC, dI) vwCl (hW N ca b u O J) t.heap) A) ([.ref (b 129), .int a1, .int a2, .int a3] : List Value).toArray s 0 0 A) (F0 m 119 ls []) := by
        intro H locs ls hP hS hl
        refine lv_aload_n hx hb dX8_enter_119 rfl (lv_at hl 0 rfl) ?_
        refine gg8_0 X hP kc_129 (sk_in hN kc_129 (by decide)) hi8 (List.mem_of_getElem? (i := 1) rfl) dX8_enter_120 ?_
        refine lv_iload hx hb dX8_enter_123 (lv_at hl 4 rfl) ?_
        refine lv_iload_n hx hb dX8_enter_125 rfl (lv_at hl 1 rfl) ?_
        obtain ⟨hgi12, h⟩ := hg_some h
        refine gs20 X hP hS kc_130 (sk_in hN kc_130 (by decide)) (L := 151) (by decide) hgi12 dX8_enter_126 (fun H locs hP hS => ?_)
        obtain ⟨I13, eI13, h⟩ := hlet_ex h
        rw [← eI13] at hP
        refine lv_aload_n hx hb dX8_enter_127 rfl (lv_at hl 0 rfl) ?_
        refine gg8_0 X hP kc_129 (sk_in hN kc_129 (by decide)) hi8 (List.mem_of_getElem? (i := 1) rfl) dX8_enter_128 ?_
        refine lv_iload hx hb dX8_enter_131 (lv_at hl 4 rfl) ?_
        refine lv_iconst (v := 1) hx hb dX8_enter_133 (by decide) ?_
        refine lv_iadd hx hb dX8_enter_134 ?_
        refine lv_iload_n hx hb dX8_enter_135 rfl (lv_at hl 2 rfl) ?_
        obtain ⟨hgi14, h⟩ := hg_some h
        refine gs20 X hP hS kc_130 (sk_in hN kc_130 (by decide)) (L := 151) (by decide) hgi14 dX8_enter_136 (fun H locs hP hS => ?_)
        obtain ⟨I15, eI15, h⟩ := hlet_ex h
        rw [← eI15] at hP
        refine lv_aload_n hx hb dX8_enter_137 rfl (lv_at hl 0 rfl) ?_
        refine gg8_0 X hP kc_129 (sk_in hN kc_129 (by decide)) hi8 (List.mem_of_getElem? (i := 1) rfl) dX8_enter_138 ?_
        refine lv_iload hx hb dX8_enter_141 (lv_at hl 4 rfl) ?_
        refine lv_iconst (v := 2) hx hb dX8_enter_143 (by decide) ?_
        refine lv_iadd hx hb dX8_enter_144 ?_
        refine lv_iload_n hx hb dX8_enter_145 rfl (lv_at hl 3 rfl) ?_
        obtain ⟨hgi16, h⟩ := hg_some h
        refine gs20 X hP hS kc_130 (sk_in hN kc_130 (by decide)) (L := 151) (by decide) hgi16 dX8_enter_146 (fun H locs hP hS => ?_)
        obtain ⟨I17, eI17, h⟩ := hlet_ex h
        rw [← eI17] at hP
        refine lv_aload_n hx hb dX8_enter_147 rfl (lv_at hl 0 rfl) ?_
        refine gg8_0 X hP kc_129 (sk_in hN kc_129 (by decide)) hi8 (List.mem_of_getElem? (i := 1) rfl) dX8_enter_148 ?_
        refine lv_iload hx hb dX8_enter_151 (lv_at hl 4 rfl) ?_
        refine lv_iconst (v := 3) hx hb dX8_enter_153 (by decide) ?_
        refine lv_iadd hx hb dX8_enter_154 ?_
        refine lv_iload_n hx hb dX8_enter_155 rfl (lv_at hl 2 rfl) ?_
        obtain ⟨hgi18, h⟩ := hg_some h
        refine gs20 X hP hS kc_130 (sk_in hN kc_130 (by decide)) (L := 151) (by decide) hgi18 dX8_enter_156 (fun H locs hP hS => ?_)
        obtain ⟨I19, eI19, h⟩ := hlet_ex h
        rw [← eI19] at hP
        refine lv_aload_n hx hb dX8_enter_157 rfl (lv_at hl 0 rfl) ?_
        refine gg8_0 X hP kc_129 (sk_in hN kc_129 (by decide)) hi8 (List.mem_of_getElem? (i := 1) rfl) dX8_enter_158 ?_
        refine lv_iload hx hb dX8_enter_161 (lv_at hl 4 rfl) ?_
        refine lv_iconst (v := 5) hx hb dX8_enter_163 (by decide) ?_
        refine lv_iadd hx hb dX8_enter_164 ?_
        refine lv_iload_n hx hb dX8_enter_165 rfl (lv_at hl 3 rfl) ?_
        obtain ⟨hgi20, h⟩ := hg_some h
        refine gs20 X hP hS kc_130 (sk_in hN kc_130 (by decide)) (L := 151) (by decide) hgi20 dX8_enter_166 (fun H locs hP hS => ?_)
        obtain ⟨I21, eI21, h⟩ := hlet_ex h
        rw [← eI21] at hP
        refine lv_aload_n hx hb dX8_enter_167 rfl (lv_at hl 0 rfl) ?_
        refine gg8_0 X hP kc_129 (sk_in hN kc_129 (by decide)) hi8 (List.mem_of_getElem? (i := 1) rfl) dX8_enter_168 ?_
        refine lv_sipush (v := 128) hx hb dX8_enter_171 (by decide) ?_
        refine lv_dup2_11 hx hb dX8_enter_174 rfl rfl ?_
        refine ga20 X hP kc_130 (sk_in hN kc_130 (by decide)) (L := 151) (by decide) (by decide) dX8_enter_175 ?_
        refine lv_iconst (v := 1) hx hb dX8_enter_176 (by decide) ?_
        refine lv_iadd hx hb dX8_enter_177 ?_
        refine gs20 X hP hS kc_130 (sk_in hN kc_130 (by decide)) (L := 151) (by decide) (by decide) dX8_enter_178 (fun H locs hP hS => ?_)
        obtain ⟨I22, eI22, h⟩ := hlet_ex h
        rw [← eI22] at hP
        refine lv_aload_n hx hb dX8_enter_179 rfl (lv_at hl 0 rfl) ?_
        refine gg8_0 X hP kc_129 (sk_in hN kc_129 (by decide)) hi8 (List.mem_of_getElem? (i := 1) rfl) dX8_enter_180 ?_
        refine lv_sipush (v := 128) hx hb dX8_enter_183 (by decide) ?_
        refine ga20 X hP kc_130 (sk_in hN kc_130 (by decide)) (L := 151) (by decide) (by decide) dX8_enter_186 ?_
        refine lv_iconst (v := 1) hx hb dX8_enter_187 (by decide) ?_
        refine lv_isub hx hb dX8_enter_188 ?_
        exact W.iret hx hb hr (fun t9 ht hW => ⟨⟨((I22 130 ((128 : Int32).toNatClampNeg)) - (1 : Int32)), I22, rfl, (Option.some.inj h).symm, gEnd ht hP⟩, hS.F ht⟩) hS.2.2 dX8_enter_189 hlk
      have hL95 : ∀ (fuel : Nat) (p9 : Int32) (I10 : Nat → Nat → Int32) (H : Heap) (locs : List Loc) (ls : Array Slot), f_X8_enter_L95 I7 fuel p9 I10 = some I11 → va_P (dC, dI) vwCl (hW N ca b I10 O J) H → va_S A s.heap H locs → lv_has ls 6 [(0, .ref (b 129)), (1, .int a1), (2, .int a2), (3, .int a3), (4, .int ((16 : Int32) * (I7 130 ((128 : Int32).toNatClampNeg)))), (5, .int p9)] → W p l e (headSpec wsX8_enter ({ frames := 1, cells := 0, slots := 0, locals := 22 } : Room)).room s m ([.ref (b 129), .int a1, .int a2, .int a3] : List Value).toArray below meth c H locs 0 0 (MQ below (va_Qi (fun (r : Int32) (u : Nat → Nat → Int32) => res = (r, u)) (fun (u : Nat → Nat → Int32) t => va_P (dC, dI) vwCl (hW N ca b u O J) t.heap) A) ([.ref (b 129), .int a1, .int a2, .int a3] : List Value).toArray s 0 0 A) (F0 m 95 ls []) := by
        intro fuel
        induction fuel with
        | zero =>
          intro p9 I10 H locs ls h hP hS hl
          rw [f_X8_enter_L95] at h
          cases h
        | succ fuel ih =>
          intro p9 I10 H locs ls h hP hS hl
          rw [f_X8_enter_L95] at h
          refine lv_iload hx hb dX8_enter_95 (lv_at hl 5 rfl) ?_
          refine lv_bipush (v := 16) hx hb dX8_enter_97 (by decide) ?_
          refine lv_icmp_ge (tgt := 119) hx hb dX8_enter_99 (by decide) (fun c26 => ?_) (fun c26 => ?_)
          · have h := gif_t c26 h
            cases h
            exact K119 _ _ _ hP hS (lv_sub hl [0, 1, 2, 3, 4] rfl)
          · have h := gif_f c26 h
            refine lv_aload_n hx hb dX8_enter_102 rfl (lv_at hl 0 rfl) ?_
            refine gg8_0 X hP kc_129 (sk_in hN kc_129 (by decide)) hi8 (List.mem_of_getElem? (i := 1) rfl) dX8_enter_103 ?_
            refine lv_iload hx hb dX8_enter_106 (lv_at hl 4 rfl) ?_
            refine lv_iload hx hb dX8_enter_108 (lv_at hl 5 rfl) ?_
            refine lv_iadd hx hb dX8_enter_110 ?_
            refine lv_iconst (v := 0) hx hb dX8_enter_111 (by decide) ?_
            obtain ⟨hgi23, h⟩ := hg_some h
            refine gs20 X hP hS kc_130 (sk_in hN kc_130 (by decide)) (L := 151) (by decide) hgi23 dX8_enter_112 (fun H locs hP hS => ?_)
            obtain ⟨I24, eI24, h⟩ := hlet_ex h
            rw [← eI24] at hP
            obtain ⟨x25, ex25, h⟩ := hlet_ex h
            refine lv_iinc (v := x25) (lv' := [(5, .int x25), (0, .ref (b 129)), (1, .int a1), (2, .int a2), (3, .int a3), (4, .int ((16 : Int32) * (I7 130 ((128 : Int32).toNatClampNeg))))]) hx hb dX8_enter_113 hl (k := 5) rfl (by rw [ex25]; rfl) (by decide) rfl (fun ls hl => ?_)
            refine lv_goto (tgt := 95) hx hb dX8_enter_116 (by decide) ?_
            exact ih _ _ _ _ _ h hP hS (lv_sub hl [1, 2, 3, 4, 5, 0] rfl)
      exact hL95 FU _ _ _ _ _ hv hP hS (lv_sub hl [2, 3, 4, 5, 1, 0] rfl)
    · have h := gif_f c27 h
      refine lv_iconst (v := 0) hx hb dX8_enter_73 (by decide) ?_
      exact W.iret hx hb hr (fun t9 ht hW => ⟨⟨(0 : Int32), I4, rfl, (Option.some.inj h).symm, gEnd ht hP⟩, hS.F ht⟩) hS.2.2 dX8_enter_74 hlk
  have h := hv
  refine lv_if_eq (tgt := 33) hx hb dX8_enter_9 (by decide) (fun c36 => ?_) (fun c36 => ?_)
  · have h := gif_t c36 h
    refine lv_iconst (v := 1) hx hb dX8_enter_33 (by decide) ?_
    refine lv_goto (tgt := 67) hx hb dX8_enter_34 (by decide) ?_
    cases h
    exact K67 _ _ _ hP hS (lv_sub hl [0, 1, 2, 3] rfl)
  · have h := gif_f c36 h
    refine lv_iload_n hx hb dX8_enter_12 rfl (lv_at hl 2 rfl) ?_
    refine lv_bipush (v := 100) hx hb dX8_enter_13 (by decide) ?_
    refine lv_sipush (v := 999) hx hb dX8_enter_15 (by decide) ?_
    obtain ⟨q29, hcq29, h⟩ := hb_some h
    refine gdS_i (As := [.int a2, .int (100 : Int32), .int (999 : Int32)]) (rest := [.ref (b 129)]) (BH := (fun (u : Unit) H => va_P (dC, dI) vwCl (hW N ca b I O J) H)) X hP hS (c_X8_in hN hA I O J a2 (100 : Int32) (999 : Int32) q29 hcq29) (va_cwS 3 X.ts gX8_enter_X8_in rfl rfl rfl (by decide +kernel) ⟨Nat.le_of_ble_eq_true rfl, Nat.le_of_ble_eq_true rfl⟩) rfl hl.1 rfl (Nat.le_of_ble_eq_true rfl) dX8_enter_18 ⟨Nat.le_of_ble_eq_true rfl, Nat.le_of_ble_eq_true rfl⟩ (fun r28 u9 H locs hw hP hS => ?_)
    have hw := hw.symm
    subst hw
    refine lv_if_eq (tgt := 33) hx hb dX8_enter_21 (by decide) (fun c35 => ?_) (fun c35 => ?_)
    · have h := gif_t c35 h
      refine lv_iconst (v := 1) hx hb dX8_enter_33 (by decide) ?_
      refine lv_goto (tgt := 67) hx hb dX8_enter_34 (by decide) ?_
      cases h
      exact K67 _ _ _ hP hS (lv_sub hl [0, 1, 2, 3] rfl)
    · have h := gif_f c35 h
      refine lv_iload_n hx hb dX8_enter_24 rfl (lv_at hl 3 rfl) ?_
      refine lv_iconst (v := 0) hx hb dX8_enter_25 (by decide) ?_
      refine lv_iconst (v := 1) hx hb dX8_enter_26 (by decide) ?_
      obtain ⟨q31, hcq31, h⟩ := hb_some h
      refine gdS_i (As := [.int a3, .int (0 : Int32), .int (1 : Int32)]) (rest := [.ref (b 129)]) (BH := (fun (u : Unit) H => va_P (dC, dI) vwCl (hW N ca b I O J) H)) X hP hS (c_X8_in hN hA I O J a3 (0 : Int32) (1 : Int32) q31 hcq31) (va_cwS 3 X.ts gX8_enter_X8_in rfl rfl rfl (by decide +kernel) ⟨Nat.le_of_ble_eq_true rfl, Nat.le_of_ble_eq_true rfl⟩) rfl hl.1 rfl (Nat.le_of_ble_eq_true rfl) dX8_enter_27 ⟨Nat.le_of_ble_eq_true rfl, Nat.le_of_ble_eq_true rfl⟩ (fun r30 u9 H locs hw hP hS => ?_)
      have hw := hw.symm
      subst hw
      refine lv_if_ne (tgt := 37) hx hb dX8_enter_30 (by decide) (fun c34 => ?_) (fun c34 => ?_)
      · have h := gif_f c34 h
        refine lv_aload_n hx hb dX8_enter_37 rfl (lv_at hl 0 rfl) ?_
        refine gg8_0 X hP kc_129 (sk_in hN kc_129 (by decide)) hi8 (List.mem_of_getElem? (i := 1) rfl) dX8_enter_38 ?_
        refine lv_sipush (v := 128) hx hb dX8_enter_41 (by decide) ?_
        refine ga20 X hP kc_130 (sk_in hN kc_130 (by decide)) (L := 151) (by decide) (by decide) dX8_enter_44 ?_
        refine lv_bipush (v := 8) hx hb dX8_enter_45 (by decide) ?_
        refine lv_icmp_eq (tgt := 62) hx hb dX8_enter_47 (by decide) (fun c33 => ?_) (fun c33 => ?_)
        · have h := gif_t c33 h
          refine lv_iconst (v := 2) hx hb dX8_enter_62 (by decide) ?_
          refine lv_goto (tgt := 67) hx hb dX8_enter_63 (by decide) ?_
          cases h
          exact K67 _ _ _ hP hS (lv_sub hl [0, 1, 2, 3] rfl)
        · have h := gif_f c33 h
          refine lv_aload_n hx hb dX8_enter_50 rfl (lv_at hl 0 rfl) ?_
          refine gg8_0 X hP kc_129 (sk_in hN kc_129 (by decide)) hi8 (List.mem_of_getElem? (i := 1) rfl) dX8_enter_51 ?_
          refine lv_sipush (v := 150) hx hb dX8_enter_54 (by decide) ?_
          refine ga20 X hP kc_130 (sk_in hN kc_130 (by decide)) (L := 151) (by decide) (by decide) dX8_enter_57 ?_
          refine lv_iconst (v := 1) hx hb dX8_enter_58 (by decide) ?_
          refine lv_icmp_ne (tgt := 66) hx hb dX8_enter_59 (by decide) (fun c32 => ?_) (fun c32 => ?_)
          · have h := gif_f c32 h
            refine lv_iconst (v := 0) hx hb dX8_enter_66 (by decide) ?_
            cases h
            exact K67 _ _ _ hP hS (lv_sub hl [0, 1, 2, 3] rfl)
          · have h := gif_t c32 h
            refine lv_iconst (v := 2) hx hb dX8_enter_62 (by decide) ?_
            refine lv_goto (tgt := 67) hx hb dX8_enter_63 (by decide) ?_
            cases h
            exact K67 _ _ _ hP hS (lv_sub hl [0, 1, 2, 3] rfl)
      · have h := gif_t c34 h
        refine lv_iconst (v := 1) hx hb dX8_enter_33 (by decide) ?_
        refine lv_goto (tgt := 67) hx hb dX8_enter_34 (by decide) ?_
        cases h
        exact K67 _ _ _ hP hS (lv_sub hl [0, 1, 2, 3] rfl)
def f_X8_setsPace (a1 : Int32) (a2 : Int32) (I : Nat → Nat → Int32) : Option (Int32 × (Nat → Nat → Int32)) :=
  (f_X8_of a1 (0 : Int32) I).bind fun r1 =>
  hg (gin ((16 : Int32) * a1) 151) <|
  hlet (gup I 130 (((16 : Int32) * a1).toNatClampNeg) a2) fun I4 =>
  some (r1, I4)
set_option maxHeartbeats 8000000 in
set_option maxRecDepth 100000 in
theorem c_X8_setsPace {l : Launch} {dC : Nat → ClassId} {dI : Nat → Nat → Nat} {ca : Nat → ClassId} {b : Nat → Nat} {A : Nat → Prop} {N : Nat} (hN : 138 ≤ N) (hA : gAd A b N) (I : Nat → Nat → Int32) (O : Nat → Nat → Option Nat) (J : Nat → Nat → Int64) (a1 : Int32) (a2 : Int32) (res : Int32 × (Nat → Nat → Int32)) (h : f_X8_setsPace a1 a2 I = some res) : Met l yX8_setsPace wsX8_setsPace ({ frames := 1, cells := 0, slots := 0, locals := 22 } : Room) (va_Pc [.ref (b 129), .int a1, .int a2] (gPre dC dI ca b A N I O J)) (va_Qi (fun (r : Int32) (u : Nat → Nat → Int32) => res = (r, u)) (fun (u : Nat → Nat → Int32) t => va_P (dC, dI) vwCl (hW N ca b u O J) t.heap) A) 0 0 A := by
  refine Met.ofW (cc := cX8_setsPace) (maxL := 4) (ret := (some .int)) (by decide) rfl ?_
  intro p e s m args below meth c s₁ B hml hv
  obtain ⟨rfl, hP, hK, hA2, hth⟩ := hv
  have hx := B.exec
  have hb := B.bytes
  have hr := B.returns
  have hlk := B.notSynchronized
  have X : gCx p s m ([.ref (b 129), .int a1, .int a2] : List Value).toArray c RX8 cX8_setsPace wsX8_setsPace 4 dC dI ca b A N := ⟨hx, hb, hml, findClass_of_methodNamed B.named, atoms_spec (ws := wsX8_setsPace) B.pre, hK, hA, hA2, hth⟩
  have hi8 : ∀ w ∈ wsX80, w ∈ wsX8_setsPace := (fun w h => List.mem_cons_of_mem _ (List.mem_append_right _ h))
  have hS : va_S A s.heap s.heap [] := va_S.rf
  have hl := lv_entry ([.ref (b 129), .int a1, .int a2] : List Value) (n := 4) (Nat.le_of_ble_eq_true rfl)
  rw [lg_entry_eq]
  generalize (lg_sl ([.ref (b 129), .int a1, .int a2] : List Value) ++ List.replicate (4 - (lg_sl ([.ref (b 129), .int a1, .int a2] : List Value)).length) Slot.unset).toArray = ls at hl ⊢
  have hl : lv_has ls 4 [(0, .ref (b 129)), (1, .int a1), (2, .int a2)] := hl
  unfold f_X8_setsPace at h
  refine lv_aload_n hx hb dX8_setsPace_0 rfl (lv_at hl 0 rfl) ?_
  refine lv_iload_n hx hb dX8_setsPace_1 rfl (lv_at hl 1 rfl) ?_
  refine lv_iconst (v := 0) hx hb dX8_setsPace_2 (by decide) ?_
  obtain ⟨q2, hcq2, h⟩ := hb_some h
  refine gdV_i (As := [.int a1, .int (0 : Int32)]) (rest := []) (BH := (fun (u : Unit) H => va_P (dC, dI) vwCl (hW N ca b I O J) H)) X hP hS (c_X8_of hN hA I O J a1 (0 : Int32) q2 hcq2) (cwV 2 X.ts gX8_setsPace_X8_of rfl rfl rfl (by decide +kernel) ⟨Nat.le_of_ble_eq_true rfl, Nat.le_of_ble_eq_true rfl⟩) (gr8 X hP kc_129 (sk_in hN kc_129 (by decide))) rfl hl.1 rfl (Nat.le_of_ble_eq_true rfl) dX8_setsPace_3 ⟨Nat.le_of_ble_eq_true rfl, Nat.le_of_ble_eq_true rfl⟩ (fun r1 u9 H locs hw hP hS => ?_)
  have hw := hw.symm
  subst hw
  refine lv_istore_n (lv' := [(3, .int r1), (0, .ref (b 129)), (1, .int a1), (2, .int a2)]) hx hb dX8_setsPace_6 rfl hl (by decide) rfl (fun ls hl => ?_)
  refine lv_aload_n hx hb dX8_setsPace_7 rfl (lv_at hl 1 rfl) ?_
  refine gg8_0 X hP kc_129 (sk_in hN kc_129 (by decide)) hi8 (List.mem_of_getElem? (i := 1) rfl) dX8_setsPace_8 ?_
  refine lv_bipush (v := 16) hx hb dX8_setsPace_11 (by decide) ?_
  refine lv_iload_n hx hb dX8_setsPace_13 rfl (lv_at hl 2 rfl) ?_
  refine lv_imul hx hb dX8_setsPace_14 ?_
  refine lv_iload_n hx hb dX8_setsPace_15 rfl (lv_at hl 3 rfl) ?_
  obtain ⟨hgi3, h⟩ := hg_some h
  refine gs20 X hP hS kc_130 (sk_in hN kc_130 (by decide)) (L := 151) (by decide) hgi3 dX8_setsPace_16 (fun H locs hP hS => ?_)
  obtain ⟨I4, eI4, h⟩ := hlet_ex h
  rw [← eI4] at hP
  refine lv_iload_n hx hb dX8_setsPace_17 rfl (lv_at hl 0 rfl) ?_
  exact W.iret hx hb hr (fun t9 ht hW => ⟨⟨r1, I4, rfl, (Option.some.inj h).symm, gEnd ht hP⟩, hS.F ht⟩) hS.2.2 dX8_setsPace_18 hlk
def f_X8_setPace (a1 : Int32) (a2 : Int32) (I : Nat → Nat → Int32) : Option (Int32 × (Nat → Nat → Int32)) :=
  (f_X8_isBird a1 I).bind fun r1 =>
  (show Option (Int32) from
    if r1 = 0 then
      some (1 : Int32)
    else
      (f_X8_in a2 (10 : Int32) (40 : Int32)).bind fun r13 =>
      if r13 = 0 then
        some (2 : Int32)
      else
        some (0 : Int32)).bind fun p3 =>
  (f_X8_refused p3 I).bind fun (r5, I4) =>
  if r5 = 0 then
    (f_X8_records I4).bind fun I7 =>
    (f_X8_setsPace a1 a2 I7).bind fun (r10, I9) =>
    some (r10, I9)
  else
    some ((0 : Int32), I4)
set_option maxHeartbeats 8000000 in
set_option maxRecDepth 100000 in
theorem c_X8_setPace {l : Launch} {dC : Nat → ClassId} {dI : Nat → Nat → Nat} {ca : Nat → ClassId} {b : Nat → Nat} {A : Nat → Prop} {N : Nat} (hN : 138 ≤ N) (hA : gAd A b N) (I : Nat → Nat → Int32) (O : Nat → Nat → Option Nat) (J : Nat → Nat → Int64) (a1 : Int32) (a2 : Int32) (res : Int32 × (Nat → Nat → Int32)) (h : f_X8_setPace a1 a2 I = some res) : Met l yX8_setPace wsX8_setPace ({ frames := 2, cells := 0, slots := 0, locals := 45 } : Room) (va_Pc [.ref (b 129), .int a1, .int a2] (gPre dC dI ca b A N I O J)) (va_Qi (fun (r : Int32) (u : Nat → Nat → Int32) => res = (r, u)) (fun (u : Nat → Nat → Int32) t => va_P (dC, dI) vwCl (hW N ca b u O J) t.heap) A) 0 0 A := by
  refine Met.ofW (cc := cX8_setPace) (maxL := 3) (ret := (some .int)) (by decide) rfl ?_
  intro p e s m args below meth c s₁ B hml hv
  obtain ⟨rfl, hP, hK, hA2, hth⟩ := hv
  have hx := B.exec
  have hb := B.bytes
  have hr := B.returns
  have hlk := B.notSynchronized
  have X : gCx p s m ([.ref (b 129), .int a1, .int a2] : List Value).toArray c RX8 cX8_setPace wsX8_setPace 3 dC dI ca b A N := ⟨hx, hb, hml, findClass_of_methodNamed B.named, atoms_spec (ws := wsX8_setPace) B.pre, hK, hA, hA2, hth⟩
  have hS : va_S A s.heap s.heap [] := va_S.rf
  have hl := lv_entry ([.ref (b 129), .int a1, .int a2] : List Value) (n := 3) (Nat.le_of_ble_eq_true rfl)
  rw [lg_entry_eq]
  generalize (lg_sl ([.ref (b 129), .int a1, .int a2] : List Value) ++ List.replicate (3 - (lg_sl ([.ref (b 129), .int a1, .int a2] : List Value)).length) Slot.unset).toArray = ls at hl ⊢
  have hl : lv_has ls 3 [(0, .ref (b 129)), (1, .int a1), (2, .int a2)] := hl
  unfold f_X8_setPace at h
  refine lv_aload_n hx hb dX8_setPace_0 rfl (lv_at hl 0 rfl) ?_
  refine lv_aload_n hx hb dX8_setPace_1 rfl (lv_at hl 0 rfl) ?_
  refine lv_iload_n hx hb dX8_setPace_2 rfl (lv_at hl 1 rfl) ?_
  obtain ⟨q2, hcq2, h⟩ := hb_some h
  refine gdV_i (As := [.int a1]) (rest := [.ref (b 129)]) (BH := (fun (u : Unit) H => va_P (dC, dI) vwCl (hW N ca b I O J) H)) X hP hS (c_X8_isBird hN hA I O J a1 q2 hcq2) (cwV 1 X.ts gX8_setPace_X8_isBird rfl rfl rfl (by decide +kernel) ⟨Nat.le_of_ble_eq_true rfl, Nat.le_of_ble_eq_true rfl⟩) (gr8 X hP kc_129 (sk_in hN kc_129 (by decide))) rfl hl.1 rfl (Nat.le_of_ble_eq_true rfl) dX8_setPace_3 ⟨Nat.le_of_ble_eq_true rfl, Nat.le_of_ble_eq_true rfl⟩ (fun r1 u9 H locs hw hP hS => ?_)
  have hw := hw.symm
  subst hw
  obtain ⟨p3, hv, h⟩ := hb_some h
  have K29 : ∀ (H : Heap) (locs : List Loc) (ls : Array Slot), va_P (dC, dI) vwCl (hW N ca b I O J) H → va_S A s.heap H locs → lv_has ls 3 [(0, .ref (b 129)), (1, .int a1), (2, .int a2)] → W p l e (headSpec wsX8_setPace ({ frames := 2, cells := 0, slots := 0, locals := 45 } : Room)).room s m ([.ref (b 129), .int a1, .int a2] : List Value).toArray below meth c H locs 0 0 (MQ below (va_Qi (fun (r : Int32) (u : Nat → Nat → Int32) => res = (r, u)) (fun (u : Nat → Nat → Int32) t => va_P (dC, dI) vwCl (hW N ca b u O J) t.heap) A) ([.ref (b 129), .int a1, .int a2] : List Value).toArray s 0 0 A) (F0 m 29 ls [.int p3, .ref (b 129)]) := by
    intro H locs ls hP hS hl
    obtain ⟨q6, hcq6, h⟩ := hb_some h
    refine gdV_i (As := [.int p3]) (rest := []) (BH := (fun (u : Nat → Nat → Int32) H => va_P (dC, dI) vwCl (hW N ca b u O J) H)) X hP hS (c_X8_refused hN hA I O J p3 q6 hcq6) (cwV 1 X.ts gX8_setPace_X8_refused rfl rfl rfl (by decide +kernel) ⟨Nat.le_of_ble_eq_true rfl, Nat.le_of_ble_eq_true rfl⟩) (gr8 X hP kc_129 (sk_in hN kc_129 (by decide))) rfl hl.1 rfl (Nat.le_of_ble_eq_true rfl) dX8_setPace_29 ⟨Nat.le_of_ble_eq_true rfl, Nat.le_of_ble_eq_true rfl⟩ (fun r5 I4 H locs hw hP hS => ?_)
    subst hw
    refine lv_if_eq (tgt := 37) hx hb dX8_setPace_32 (by decide) (fun c12 => ?_) (fun c12 => ?_)
    · have h := gif_t c12 h
      refine lv_aload_n hx hb dX8_setPace_37 rfl (lv_at hl 0 rfl) ?_
      obtain ⟨q8, hcq8, h⟩ := hb_some h
      refine gdV_v (As := []) (rest := []) (BH := (fun (u : Nat → Nat → Int32) H => va_P (dC, dI) vwCl (hW N ca b u O J) H)) X hP hS (c_X8_records hN hA I4 O J q8 hcq8) (cwV 0 X.ts gX8_setPace_X8_records rfl rfl rfl (by decide +kernel) ⟨Nat.le_of_ble_eq_true rfl, Nat.le_of_ble_eq_true rfl⟩) (gr8 X hP kc_129 (sk_in hN kc_129 (by decide))) rfl hl.1 rfl (Nat.le_of_ble_eq_true rfl) dX8_setPace_38 ⟨Nat.le_of_ble_eq_true rfl, Nat.le_of_ble_eq_true rfl⟩ (fun I7 H locs hw hP hS => ?_)
      have hw := hw.symm
      subst hw
      refine lv_aload_n hx hb dX8_setPace_41 rfl (lv_at hl 0 rfl) ?_
      refine lv_iload_n hx hb dX8_setPace_42 rfl (lv_at hl 1 rfl) ?_
      refine lv_iload_n hx hb dX8_setPace_43 rfl (lv_at hl 2 rfl) ?_
      obtain ⟨q11, hcq11, h⟩ := hb_some h
      refine gdV_i (As := [.int a1, .int a2]) (rest := []) (BH := (fun (u : Nat → Nat → Int32) H => va_P (dC, dI) vwCl (hW N ca b u O J) H)) X hP hS (c_X8_setsPace hN hA I7 O J a1 a2 q11 hcq11) (cwV 2 X.ts gX8_setPace_X8_setsPace rfl rfl rfl (by decide +kernel) ⟨Nat.le_of_ble_eq_true rfl, Nat.le_of_ble_eq_true rfl⟩) (gr8 X hP kc_129 (sk_in hN kc_129 (by decide))) rfl hl.1 rfl (Nat.le_of_ble_eq_true rfl) dX8_setPace_44 ⟨Nat.le_of_ble_eq_true rfl, Nat.le_of_ble_eq_true rfl⟩ (fun r10 I9 H locs hw hP hS => ?_)
      subst hw
      exact W.iret hx hb hr (fun t9 ht hW => ⟨⟨r10, I9, rfl, (Option.some.inj h).symm, gEnd ht hP⟩, hS.F ht⟩) hS.2.2 dX8_setPace_47 hlk
    · have h := gif_f c12 h
      refine lv_iconst (v := 0) hx hb dX8_setPace_35 (by decide) ?_
      exact W.iret hx hb hr (fun t9 ht hW => ⟨⟨(0 : Int32), I4, rfl, (Option.some.inj h).symm, gEnd ht hP⟩, hS.F ht⟩) hS.2.2 dX8_setPace_36 hlk
  have h := hv
  refine lv_if_ne (tgt := 13) hx hb dX8_setPace_6 (by decide) (fun c16 => ?_) (fun c16 => ?_)
  · have h := gif_f c16 h
    refine lv_iload_n hx hb dX8_setPace_13 rfl (lv_at hl 2 rfl) ?_
    refine lv_bipush (v := 10) hx hb dX8_setPace_14 (by decide) ?_
    refine lv_bipush (v := 40) hx hb dX8_setPace_16 (by decide) ?_
    obtain ⟨q14, hcq14, h⟩ := hb_some h
    refine gdS_i (As := [.int a2, .int (10 : Int32), .int (40 : Int32)]) (rest := [.ref (b 129)]) (BH := (fun (u : Unit) H => va_P (dC, dI) vwCl (hW N ca b I O J) H)) X hP hS (c_X8_in hN hA I O J a2 (10 : Int32) (40 : Int32) q14 hcq14) (va_cwS 3 X.ts gX8_setPace_X8_in rfl rfl rfl (by decide +kernel) ⟨Nat.le_of_ble_eq_true rfl, Nat.le_of_ble_eq_true rfl⟩) rfl hl.1 rfl (Nat.le_of_ble_eq_true rfl) dX8_setPace_18 ⟨Nat.le_of_ble_eq_true rfl, Nat.le_of_ble_eq_true rfl⟩ (fun r13 u9 H locs hw hP hS => ?_)
    have hw := hw.symm
    subst hw
    refine lv_if_eq (tgt := 28) hx hb dX8_setPace_21 (by decide) (fun c15 => ?_) (fun c15 => ?_)
    · have h := gif_t c15 h
      refine lv_iconst (v := 2) hx hb dX8_setPace_28 (by decide) ?_
      cases h
      exact K29 _ _ _ hP hS (lv_sub hl [0, 1, 2] rfl)
    · have h := gif_f c15 h
      refine lv_iconst (v := 0) hx hb dX8_setPace_24 (by decide) ?_
      refine lv_goto (tgt := 29) hx hb dX8_setPace_25 (by decide) ?_
      cases h
      exact K29 _ _ _ hP hS (lv_sub hl [0, 1, 2] rfl)
  · have h := gif_t c16 h
    refine lv_iconst (v := 1) hx hb dX8_setPace_9 (by decide) ?_
    refine lv_goto (tgt := 29) hx hb dX8_setPace_10 (by decide) ?_
    cases h
    exact K29 _ _ _ hP hS (lv_sub hl [0, 1, 2] rfl)
def f_X8_calls (a1 : Int32) (I : Nat → Nat → Int32) : Option (Int32 × (Nat → Nat → Int32)) :=
  (f_X8_of a1 (9 : Int32) I).bind fun r1 =>
  hg (gin (((16 : Int32) * a1) + (9 : Int32)) 151) <|
  hlet (gup I 130 ((((16 : Int32) * a1) + (9 : Int32)).toNatClampNeg) ((1 : Int32) - r1)) fun I4 =>
  (f_X8_of a1 (9 : Int32) I4).bind fun r5 =>
  some (r5, I4)
set_option maxHeartbeats 8000000 in
set_option maxRecDepth 100000 in
theorem c_X8_calls {l : Launch} {dC : Nat → ClassId} {dI : Nat → Nat → Nat} {ca : Nat → ClassId} {b : Nat → Nat} {A : Nat → Prop} {N : Nat} (hN : 138 ≤ N) (hA : gAd A b N) (I : Nat → Nat → Int32) (O : Nat → Nat → Option Nat) (J : Nat → Nat → Int64) (a1 : Int32) (res : Int32 × (Nat → Nat → Int32)) (h : f_X8_calls a1 I = some res) : Met l yX8_calls wsX8_calls ({ frames := 1, cells := 0, slots := 0, locals := 22 } : Room) (va_Pc [.ref (b 129), .int a1] (gPre dC dI ca b A N I O J)) (va_Qi (fun (r : Int32) (u : Nat → Nat → Int32) => res = (r, u)) (fun (u : Nat → Nat → Int32) t => va_P (dC, dI) vwCl (hW N ca b u O J) t.heap) A) 0 0 A := by
  refine Met.ofW (cc := cX8_calls) (maxL := 2) (ret := (some .int)) (by decide) rfl ?_
  intro p e s m args below meth c s₁ B hml hv
  obtain ⟨rfl, hP, hK, hA2, hth⟩ := hv
  have hx := B.exec
  have hb := B.bytes
  have hr := B.returns
  have hlk := B.notSynchronized
  have X : gCx p s m ([.ref (b 129), .int a1] : List Value).toArray c RX8 cX8_calls wsX8_calls 2 dC dI ca b A N := ⟨hx, hb, hml, findClass_of_methodNamed B.named, atoms_spec (ws := wsX8_calls) B.pre, hK, hA, hA2, hth⟩
  have hi8 : ∀ w ∈ wsX80, w ∈ wsX8_calls := (fun w h => List.mem_cons_of_mem _ (List.mem_append_right _ h))
  have hS : va_S A s.heap s.heap [] := va_S.rf
  have hl := lv_entry ([.ref (b 129), .int a1] : List Value) (n := 2) (Nat.le_of_ble_eq_true rfl)
  rw [lg_entry_eq]
  generalize (lg_sl ([.ref (b 129), .int a1] : List Value) ++ List.replicate (2 - (lg_sl ([.ref (b 129), .int a1] : List Value)).length) Slot.unset).toArray = ls at hl ⊢
  have hl : lv_has ls 2 [(0, .ref (b 129)), (1, .int a1)] := hl
  unfold f_X8_calls at h
  refine lv_aload_n hx hb dX8_calls_0 rfl (lv_at hl 0 rfl) ?_
  refine gg8_0 X hP kc_129 (sk_in hN kc_129 (by decide)) hi8 (List.mem_of_getElem? (i := 1) rfl) dX8_calls_1 ?_
  refine lv_bipush (v := 16) hx hb dX8_calls_4 (by decide) ?_
  refine lv_iload_n hx hb dX8_calls_6 rfl (lv_at hl 1 rfl) ?_
  refine lv_imul hx hb dX8_calls_7 ?_
  refine lv_bipush (v := 9) hx hb dX8_calls_8 (by decide) ?_
  refine lv_iadd hx hb dX8_calls_10 ?_
  refine lv_iconst (v := 1) hx hb dX8_calls_11 (by decide) ?_
  refine lv_aload_n hx hb dX8_calls_12 rfl (lv_at hl 0 rfl) ?_
  refine lv_iload_n hx hb dX8_calls_13 rfl (lv_at hl 1 rfl) ?_
  refine lv_bipush (v := 9) hx hb dX8_calls_14 (by decide) ?_
  obtain ⟨q2, hcq2, h⟩ := hb_some h
  refine gdV_i (As := [.int a1, .int (9 : Int32)]) (rest := [.int (1 : Int32), .int (((16 : Int32) * a1) + (9 : Int32)), .ref (b 130)]) (BH := (fun (u : Unit) H => va_P (dC, dI) vwCl (hW N ca b I O J) H)) X hP hS (c_X8_of hN hA I O J a1 (9 : Int32) q2 hcq2) (cwV 2 X.ts gX8_calls_X8_of rfl rfl rfl (by decide +kernel) ⟨Nat.le_of_ble_eq_true rfl, Nat.le_of_ble_eq_true rfl⟩) (gr8 X hP kc_129 (sk_in hN kc_129 (by decide))) rfl hl.1 rfl (Nat.le_of_ble_eq_true rfl) dX8_calls_16 ⟨Nat.le_of_ble_eq_true rfl, Nat.le_of_ble_eq_true rfl⟩ (fun r1 u9 H locs hw hP hS => ?_)
  have hw := hw.symm
  subst hw
  refine lv_isub hx hb dX8_calls_19 ?_
  obtain ⟨hgi3, h⟩ := hg_some h
  refine gs20 X hP hS kc_130 (sk_in hN kc_130 (by decide)) (L := 151) (by decide) hgi3 dX8_calls_20 (fun H locs hP hS => ?_)
  obtain ⟨I4, eI4, h⟩ := hlet_ex h
  rw [← eI4] at hP
  refine lv_aload_n hx hb dX8_calls_21 rfl (lv_at hl 0 rfl) ?_
  refine lv_iload_n hx hb dX8_calls_22 rfl (lv_at hl 1 rfl) ?_
  refine lv_bipush (v := 9) hx hb dX8_calls_23 (by decide) ?_
  obtain ⟨q6, hcq6, h⟩ := hb_some h
  refine gdV_i (As := [.int a1, .int (9 : Int32)]) (rest := []) (BH := (fun (u : Unit) H => va_P (dC, dI) vwCl (hW N ca b I4 O J) H)) X hP hS (c_X8_of hN hA I4 O J a1 (9 : Int32) q6 hcq6) (cwV 2 X.ts gX8_calls_X8_of rfl rfl rfl (by decide +kernel) ⟨Nat.le_of_ble_eq_true rfl, Nat.le_of_ble_eq_true rfl⟩) (gr8 X hP kc_129 (sk_in hN kc_129 (by decide))) rfl hl.1 rfl (Nat.le_of_ble_eq_true rfl) dX8_calls_25 ⟨Nat.le_of_ble_eq_true rfl, Nat.le_of_ble_eq_true rfl⟩ (fun r5 u9 H locs hw hP hS => ?_)
  have hw := hw.symm
  subst hw
  exact W.iret hx hb hr (fun t9 ht hW => ⟨⟨r5, I4, rfl, (Option.some.inj h).symm, gEnd ht hP⟩, hS.F ht⟩) hS.2.2 dX8_calls_28 hlk
def f_X8_callIn (a1 : Int32) (I : Nat → Nat → Int32) : Option (Int32 × (Nat → Nat → Int32)) :=
  (f_X8_isBird a1 I).bind fun r1 =>
  (show Option (Int32) from
    if r1 = 0 then
      some (1 : Int32)
    else
      (f_X8_isOver a1 I).bind fun r14 =>
      if r14 = 0 then
        some (0 : Int32)
      else
        some (2 : Int32)).bind fun p3 =>
  (f_X8_refused p3 I).bind fun (r5, I4) =>
  if r5 = 0 then
    (f_X8_records I4).bind fun I7 =>
    (f_X8_calls a1 I7).bind fun (r10, I9) =>
    if r10 = (1 : Int32) then
      some ((1 : Int32), I9)
    else
      some ((0 : Int32), I9)
  else
    some ((0 : Int32), I4)
set_option maxHeartbeats 8000000 in
set_option maxRecDepth 100000 in
theorem c_X8_callIn {l : Launch} {dC : Nat → ClassId} {dI : Nat → Nat → Nat} {ca : Nat → ClassId} {b : Nat → Nat} {A : Nat → Prop} {N : Nat} (hN : 138 ≤ N) (hA : gAd A b N) (I : Nat → Nat → Int32) (O : Nat → Nat → Option Nat) (J : Nat → Nat → Int64) (a1 : Int32) (res : Int32 × (Nat → Nat → Int32)) (h : f_X8_callIn a1 I = some res) : Met l yX8_callIn wsX8_callIn ({ frames := 2, cells := 0, slots := 0, locals := 43 } : Room) (va_Pc [.ref (b 129), .int a1] (gPre dC dI ca b A N I O J)) (va_Qi (fun (r : Int32) (u : Nat → Nat → Int32) => res = (r, u)) (fun (u : Nat → Nat → Int32) t => va_P (dC, dI) vwCl (hW N ca b u O J) t.heap) A) 0 0 A := by
  refine Met.ofW (cc := cX8_callIn) (maxL := 2) (ret := (some .boolean)) (by decide) rfl ?_
  intro p e s m args below meth c s₁ B hml hv
  obtain ⟨rfl, hP, hK, hA2, hth⟩ := hv
  have hx := B.exec
  have hb := B.bytes
  have hr := B.returns
  have hlk := B.notSynchronized
  have X : gCx p s m ([.ref (b 129), .int a1] : List Value).toArray c RX8 cX8_callIn wsX8_callIn 2 dC dI ca b A N := ⟨hx, hb, hml, findClass_of_methodNamed B.named, atoms_spec (ws := wsX8_callIn) B.pre, hK, hA, hA2, hth⟩
  have hS : va_S A s.heap s.heap [] := va_S.rf
  have hl := lv_entry ([.ref (b 129), .int a1] : List Value) (n := 2) (Nat.le_of_ble_eq_true rfl)
  rw [lg_entry_eq]
  generalize (lg_sl ([.ref (b 129), .int a1] : List Value) ++ List.replicate (2 - (lg_sl ([.ref (b 129), .int a1] : List Value)).length) Slot.unset).toArray = ls at hl ⊢
  have hl : lv_has ls 2 [(0, .ref (b 129)), (1, .int a1)] := hl
  unfold f_X8_callIn at h
  refine lv_aload_n hx hb dX8_callIn_0 rfl (lv_at hl 0 rfl) ?_
  refine lv_aload_n hx hb dX8_callIn_1 rfl (lv_at hl 0 rfl) ?_
  refine lv_iload_n hx hb dX8_callIn_2 rfl (lv_at hl 1 rfl) ?_
  obtain ⟨q2, hcq2, h⟩ := hb_some h
  refine gdV_i (As := [.int a1]) (rest := [.ref (b 129)]) (BH := (fun (u : Unit) H => va_P (dC, dI) vwCl (hW N ca b I O J) H)) X hP hS (c_X8_isBird hN hA I O J a1 q2 hcq2) (cwV 1 X.ts gX8_callIn_X8_isBird rfl rfl rfl (by decide +kernel) ⟨Nat.le_of_ble_eq_true rfl, Nat.le_of_ble_eq_true rfl⟩) (gr8 X hP kc_129 (sk_in hN kc_129 (by decide))) rfl hl.1 rfl (Nat.le_of_ble_eq_true rfl) dX8_callIn_3 ⟨Nat.le_of_ble_eq_true rfl, Nat.le_of_ble_eq_true rfl⟩ (fun r1 u9 H locs hw hP hS => ?_)
  have hw := hw.symm
  subst hw
  obtain ⟨p3, hv, h⟩ := hb_some h
  have K26 : ∀ (H : Heap) (locs : List Loc) (ls : Array Slot), va_P (dC, dI) vwCl (hW N ca b I O J) H → va_S A s.heap H locs → lv_has ls 2 [(0, .ref (b 129)), (1, .int a1)] → W p l e (headSpec wsX8_callIn ({ frames := 2, cells := 0, slots := 0, locals := 43 } : Room)).room s m ([.ref (b 129), .int a1] : List Value).toArray below meth c H locs 0 0 (MQ below (va_Qi (fun (r : Int32) (u : Nat → Nat → Int32) => res = (r, u)) (fun (u : Nat → Nat → Int32) t => va_P (dC, dI) vwCl (hW N ca b u O J) t.heap) A) ([.ref (b 129), .int a1] : List Value).toArray s 0 0 A) (F0 m 26 ls [.int p3, .ref (b 129)]) := by
    intro H locs ls hP hS hl
    obtain ⟨q6, hcq6, h⟩ := hb_some h
    refine gdV_i (As := [.int p3]) (rest := []) (BH := (fun (u : Nat → Nat → Int32) H => va_P (dC, dI) vwCl (hW N ca b u O J) H)) X hP hS (c_X8_refused hN hA I O J p3 q6 hcq6) (cwV 1 X.ts gX8_callIn_X8_refused rfl rfl rfl (by decide +kernel) ⟨Nat.le_of_ble_eq_true rfl, Nat.le_of_ble_eq_true rfl⟩) (gr8 X hP kc_129 (sk_in hN kc_129 (by decide))) rfl hl.1 rfl (Nat.le_of_ble_eq_true rfl) dX8_callIn_26 ⟨Nat.le_of_ble_eq_true rfl, Nat.le_of_ble_eq_true rfl⟩ (fun r5 I4 H locs hw hP hS => ?_)
    subst hw
    refine lv_if_eq (tgt := 34) hx hb dX8_callIn_29 (by decide) (fun c13 => ?_) (fun c13 => ?_)
    · have h := gif_t c13 h
      refine lv_aload_n hx hb dX8_callIn_34 rfl (lv_at hl 0 rfl) ?_
      obtain ⟨q8, hcq8, h⟩ := hb_some h
      refine gdV_v (As := []) (rest := []) (BH := (fun (u : Nat → Nat → Int32) H => va_P (dC, dI) vwCl (hW N ca b u O J) H)) X hP hS (c_X8_records hN hA I4 O J q8 hcq8) (cwV 0 X.ts gX8_callIn_X8_records rfl rfl rfl (by decide +kernel) ⟨Nat.le_of_ble_eq_true rfl, Nat.le_of_ble_eq_true rfl⟩) (gr8 X hP kc_129 (sk_in hN kc_129 (by decide))) rfl hl.1 rfl (Nat.le_of_ble_eq_true rfl) dX8_callIn_35 ⟨Nat.le_of_ble_eq_true rfl, Nat.le_of_ble_eq_true rfl⟩ (fun I7 H locs hw hP hS => ?_)
      have hw := hw.symm
      subst hw
      refine lv_aload_n hx hb dX8_callIn_38 rfl (lv_at hl 0 rfl) ?_
      refine lv_iload_n hx hb dX8_callIn_39 rfl (lv_at hl 1 rfl) ?_
      obtain ⟨q11, hcq11, h⟩ := hb_some h
      refine gdV_i (As := [.int a1]) (rest := []) (BH := (fun (u : Nat → Nat → Int32) H => va_P (dC, dI) vwCl (hW N ca b u O J) H)) X hP hS (c_X8_calls hN hA I7 O J a1 q11 hcq11) (cwV 1 X.ts gX8_callIn_X8_calls rfl rfl rfl (by decide +kernel) ⟨Nat.le_of_ble_eq_true rfl, Nat.le_of_ble_eq_true rfl⟩) (gr8 X hP kc_129 (sk_in hN kc_129 (by decide))) rfl hl.1 rfl (Nat.le_of_ble_eq_true rfl) dX8_callIn_40 ⟨Nat.le_of_ble_eq_true rfl, Nat.le_of_ble_eq_true rfl⟩ (fun r10 I9 H locs hw hP hS => ?_)
      subst hw
      refine lv_iconst (v := 1) hx hb dX8_callIn_43 (by decide) ?_
      refine lv_icmp_ne (tgt := 51) hx hb dX8_callIn_44 (by decide) (fun c12 => ?_) (fun c12 => ?_)
      · have h := gif_f c12 h
        refine lv_iconst (v := 0) hx hb dX8_callIn_51 (by decide) ?_
        exact W.zret (ty := .boolean) hx hb hr (by decide) (fun t9 ht hW => ⟨⟨(0 : Int32), I9, rfl, (Option.some.inj h).symm, gEnd ht hP⟩, hS.F ht⟩) hS.2.2 dX8_callIn_52 hlk
      · have h := gif_t c12 h
        refine lv_iconst (v := 1) hx hb dX8_callIn_47 (by decide) ?_
        refine lv_goto (tgt := 52) hx hb dX8_callIn_48 (by decide) ?_
        exact W.zret (ty := .boolean) hx hb hr (by decide) (fun t9 ht hW => ⟨⟨(1 : Int32), I9, rfl, (Option.some.inj h).symm, gEnd ht hP⟩, hS.F ht⟩) hS.2.2 dX8_callIn_52 hlk
    · have h := gif_f c13 h
      refine lv_iconst (v := 0) hx hb dX8_callIn_32 (by decide) ?_
      exact W.zret (ty := .boolean) hx hb hr (by decide) (fun t9 ht hW => ⟨⟨(0 : Int32), I4, rfl, (Option.some.inj h).symm, gEnd ht hP⟩, hS.F ht⟩) hS.2.2 dX8_callIn_33 hlk
  have h := hv
  refine lv_if_ne (tgt := 13) hx hb dX8_callIn_6 (by decide) (fun c17 => ?_) (fun c17 => ?_)
  · have h := gif_f c17 h
    refine lv_aload_n hx hb dX8_callIn_13 rfl (lv_at hl 0 rfl) ?_
    refine lv_iload_n hx hb dX8_callIn_14 rfl (lv_at hl 1 rfl) ?_
    obtain ⟨q15, hcq15, h⟩ := hb_some h
    refine gdV_i (As := [.int a1]) (rest := [.ref (b 129)]) (BH := (fun (u : Unit) H => va_P (dC, dI) vwCl (hW N ca b I O J) H)) X hP hS (c_X8_isOver hN hA I O J a1 q15 hcq15) (cwV 1 X.ts gX8_callIn_X8_isOver rfl rfl rfl (by decide +kernel) ⟨Nat.le_of_ble_eq_true rfl, Nat.le_of_ble_eq_true rfl⟩) (gr8 X hP kc_129 (sk_in hN kc_129 (by decide))) rfl hl.1 rfl (Nat.le_of_ble_eq_true rfl) dX8_callIn_15 ⟨Nat.le_of_ble_eq_true rfl, Nat.le_of_ble_eq_true rfl⟩ (fun r14 u9 H locs hw hP hS => ?_)
    have hw := hw.symm
    subst hw
    refine lv_if_eq (tgt := 25) hx hb dX8_callIn_18 (by decide) (fun c16 => ?_) (fun c16 => ?_)
    · have h := gif_t c16 h
      refine lv_iconst (v := 0) hx hb dX8_callIn_25 (by decide) ?_
      cases h
      exact K26 _ _ _ hP hS (lv_sub hl [0, 1] rfl)
    · have h := gif_f c16 h
      refine lv_iconst (v := 2) hx hb dX8_callIn_21 (by decide) ?_
      refine lv_goto (tgt := 26) hx hb dX8_callIn_22 (by decide) ?_
      cases h
      exact K26 _ _ _ hP hS (lv_sub hl [0, 1] rfl)
  · have h := gif_t c17 h
    refine lv_iconst (v := 1) hx hb dX8_callIn_9 (by decide) ?_
    refine lv_goto (tgt := 26) hx hb dX8_callIn_10 (by decide) ?_
    cases h
    exact K26 _ _ _ hP hS (lv_sub hl [0, 1] rfl)
def f_X8_leaves (a1 : Int32) (I : Nat → Nat → Int32) : Option (Nat → Nat → Int32) :=
  (f_X8_of a1 (10 : Int32) I).bind fun r1 =>
  (show Option (Nat → Nat → Int32) from
    if (r1 - (1 : Int32)) < 0 then
      some I
    else
      hg (gin (((16 : Int32) * (r1 - (1 : Int32))) + (10 : Int32)) 151) <|
      hlet (gup I 130 ((((16 : Int32) * (r1 - (1 : Int32))) + (10 : Int32)).toNatClampNeg) (0 : Int32)) fun I7 =>
      some I7).bind fun I3 =>
  hg (gin (((16 : Int32) * a1) + (10 : Int32)) 151) <|
  hlet (gup I3 130 ((((16 : Int32) * a1) + (10 : Int32)).toNatClampNeg) (0 : Int32)) fun I5 =>
  some I5
set_option maxHeartbeats 8000000 in
set_option maxRecDepth 100000 in
theorem c_X8_leaves {l : Launch} {dC : Nat → ClassId} {dI : Nat → Nat → Nat} {ca : Nat → ClassId} {b : Nat → Nat} {A : Nat → Prop} {N : Nat} (hN : 138 ≤ N) (hA : gAd A b N) (I : Nat → Nat → Int32) (O : Nat → Nat → Option Nat) (J : Nat → Nat → Int64) (a1 : Int32) (res : Nat → Nat → Int32) (h : f_X8_leaves a1 I = some res) : Met l yX8_leaves wsX8_leaves ({ frames := 1, cells := 0, slots := 0, locals := 22 } : Room) (va_Pc [.ref (b 129), .int a1] (gPre dC dI ca b A N I O J)) (va_Qv (fun (u : Nat → Nat → Int32) => res = u) (fun (u : Nat → Nat → Int32) t => va_P (dC, dI) vwCl (hW N ca b u O J) t.heap) A) 0 0 A := by
  refine Met.ofW (cc := cX8_leaves) (maxL := 3) (ret := none) (by decide) rfl ?_
  intro p e s m args below meth c s₁ B hml hv
  obtain ⟨rfl, hP, hK, hA2, hth⟩ := hv
  have hx := B.exec
  have hb := B.bytes
  have hr := B.returns
  have hlk := B.notSynchronized
  have X : gCx p s m ([.ref (b 129), .int a1] : List Value).toArray c RX8 cX8_leaves wsX8_leaves 3 dC dI ca b A N := ⟨hx, hb, hml, findClass_of_methodNamed B.named, atoms_spec (ws := wsX8_leaves) B.pre, hK, hA, hA2, hth⟩
  have hi8 : ∀ w ∈ wsX80, w ∈ wsX8_leaves := (fun w h => List.mem_cons_of_mem _ (List.mem_append_right _ h))
  have hS : va_S A s.heap s.heap [] := va_S.rf
  have hl := lv_entry ([.ref (b 129), .int a1] : List Value) (n := 3) (Nat.le_of_ble_eq_true rfl)
  rw [lg_entry_eq]
  generalize (lg_sl ([.ref (b 129), .int a1] : List Value) ++ List.replicate (3 - (lg_sl ([.ref (b 129), .int a1] : List Value)).length) Slot.unset).toArray = ls at hl ⊢
  have hl : lv_has ls 3 [(0, .ref (b 129)), (1, .int a1)] := hl
  unfold f_X8_leaves at h
  refine lv_aload_n hx hb dX8_leaves_0 rfl (lv_at hl 0 rfl) ?_
  refine lv_iload_n hx hb dX8_leaves_1 rfl (lv_at hl 1 rfl) ?_
  refine lv_bipush (v := 10) hx hb dX8_leaves_2 (by decide) ?_
  obtain ⟨q2, hcq2, h⟩ := hb_some h
  refine gdV_i (As := [.int a1, .int (10 : Int32)]) (rest := []) (BH := (fun (u : Unit) H => va_P (dC, dI) vwCl (hW N ca b I O J) H)) X hP hS (c_X8_of hN hA I O J a1 (10 : Int32) q2 hcq2) (cwV 2 X.ts gX8_leaves_X8_of rfl rfl rfl (by decide +kernel) ⟨Nat.le_of_ble_eq_true rfl, Nat.le_of_ble_eq_true rfl⟩) (gr8 X hP kc_129 (sk_in hN kc_129 (by decide))) rfl hl.1 rfl (Nat.le_of_ble_eq_true rfl) dX8_leaves_4 ⟨Nat.le_of_ble_eq_true rfl, Nat.le_of_ble_eq_true rfl⟩ (fun r1 u9 H locs hw hP hS => ?_)
  have hw := hw.symm
  subst hw
  refine lv_iconst (v := 1) hx hb dX8_leaves_7 (by decide) ?_
  refine lv_isub hx hb dX8_leaves_8 ?_
  refine lv_istore_n (lv' := [(2, .int (r1 - (1 : Int32))), (0, .ref (b 129)), (1, .int a1)]) hx hb dX8_leaves_9 rfl hl (by decide) rfl (fun ls hl => ?_)
  refine lv_iload_n hx hb dX8_leaves_10 rfl (lv_at hl 0 rfl) ?_
  obtain ⟨I3, hv, h⟩ := hb_some h
  have K27 : ∀ (H : Heap) (locs : List Loc) (ls : Array Slot), va_P (dC, dI) vwCl (hW N ca b I3 O J) H → va_S A s.heap H locs → lv_has ls 3 [(0, .ref (b 129)), (1, .int a1)] → W p l e (headSpec wsX8_leaves ({ frames := 1, cells := 0, slots := 0, locals := 22 } : Room)).room s m ([.ref (b 129), .int a1] : List Value).toArray below meth c H locs 0 0 (MQ below (va_Qv (fun (u : Nat → Nat → Int32) => res = u) (fun (u : Nat → Nat → Int32) t => va_P (dC, dI) vwCl (hW N ca b u O J) t.heap) A) ([.ref (b 129), .int a1] : List Value).toArray s 0 0 A) (F0 m 27 ls []) := by
    intro H locs ls hP hS hl
    refine lv_aload_n hx hb dX8_leaves_27 rfl (lv_at hl 0 rfl) ?_
    refine gg8_0 X hP kc_129 (sk_in hN kc_129 (by decide)) hi8 (List.mem_of_getElem? (i := 1) rfl) dX8_leaves_28 ?_
    refine lv_bipush (v := 16) hx hb dX8_leaves_31 (by decide) ?_
    refine lv_iload_n hx hb dX8_leaves_33 rfl (lv_at hl 1 rfl) ?_
    refine lv_imul hx hb dX8_leaves_34 ?_
    refine lv_bipush (v := 10) hx hb dX8_leaves_35 (by decide) ?_
    refine lv_iadd hx hb dX8_leaves_37 ?_
    refine lv_iconst (v := 0) hx hb dX8_leaves_38 (by decide) ?_
    obtain ⟨hgi4, h⟩ := hg_some h
    refine gs20 X hP hS kc_130 (sk_in hN kc_130 (by decide)) (L := 151) (by decide) hgi4 dX8_leaves_39 (fun H locs hP hS => ?_)
    obtain ⟨I5, eI5, h⟩ := hlet_ex h
    rw [← eI5] at hP
    exact W.vret hx hb hr (fun t9 ht hW => ⟨⟨I5, rfl, (Option.some.inj h).symm, gEnd ht hP⟩, hS.F ht⟩) hS.2.2 dX8_leaves_40 hlk
  have h := hv
  refine lv_if_lt (tgt := 27) hx hb dX8_leaves_11 (by decide) (fun c8 => ?_) (fun c8 => ?_)
  · have h := gif_t c8 h
    cases h
    exact K27 _ _ _ hP hS (lv_sub hl [1, 2] rfl)
  · have h := gif_f c8 h
    refine lv_aload_n hx hb dX8_leaves_14 rfl (lv_at hl 1 rfl) ?_
    refine gg8_0 X hP kc_129 (sk_in hN kc_129 (by decide)) hi8 (List.mem_of_getElem? (i := 1) rfl) dX8_leaves_15 ?_
    refine lv_bipush (v := 16) hx hb dX8_leaves_18 (by decide) ?_
    refine lv_iload_n hx hb dX8_leaves_20 rfl (lv_at hl 0 rfl) ?_
    refine lv_imul hx hb dX8_leaves_21 ?_
    refine lv_bipush (v := 10) hx hb dX8_leaves_22 (by decide) ?_
    refine lv_iadd hx hb dX8_leaves_24 ?_
    refine lv_iconst (v := 0) hx hb dX8_leaves_25 (by decide) ?_
    obtain ⟨hgi6, h⟩ := hg_some h
    refine gs20 X hP hS kc_130 (sk_in hN kc_130 (by decide)) (L := 151) (by decide) hgi6 dX8_leaves_26 (fun H locs hP hS => ?_)
    obtain ⟨I7, eI7, h⟩ := hlet_ex h
    rw [← eI7] at hP
    cases h
    exact K27 _ _ _ hP hS (lv_sub hl [1, 2] rfl)
def f_X8_pair_L88 (I16 : Nat → Nat → Int32) : Nat → Int32 → Int32 → Option (Int32)
  | 0, _, _ => none
  | fuel + 1, p17, p18 =>
    if (I16 130 ((128 : Int32).toNatClampNeg)) ≤ p18 then
      some p17
    else
      (f_X8_of p18 (10 : Int32) I16).bind fun r20 =>
      (show Option (Int32) from
        if r20 ≤ 0 then
          some (0 : Int32)
        else
          some (1 : Int32)).bind fun p22 =>
      hlet (p18 + 1) fun x23 =>
      f_X8_pair_L88 I16 fuel (p17 + p22) x23
def f_X8_pair (a1 : Int32) (a2 : Int32) (I : Nat → Nat → Int32) : Option (Int32 × (Nat → Nat → Int32)) :=
  (f_X8_isBird a1 I).bind fun r1 =>
  (show Option (Int32) from
    if r1 = 0 then
      some (1 : Int32)
    else
      (f_X8_isBird a2 I).bind fun r27 =>
      if r27 = 0 then
        some (1 : Int32)
      else
        if a1 = a2 then
          some (2 : Int32)
        else
          some (0 : Int32)).bind fun p3 =>
  (f_X8_refused p3 I).bind fun (r5, I4) =>
  if r5 = 0 then
    (f_X8_records I4).bind fun I7 =>
    (f_X8_leaves a1 I7).bind fun I9 =>
    (f_X8_leaves a2 I9).bind fun I11 =>
    hg (gin (((16 : Int32) * a1) + (10 : Int32)) 151) <|
    hlet (gup I11 130 ((((16 : Int32) * a1) + (10 : Int32)).toNatClampNeg) (a2 + (1 : Int32))) fun I14 =>
    hg (gin (((16 : Int32) * a2) + (10 : Int32)) 151) <|
    hlet (gup I14 130 ((((16 : Int32) * a2) + (10 : Int32)).toNatClampNeg) (a1 + (1 : Int32))) fun I16 =>
    (f_X8_pair_L88 I16 FU (0 : Int32) (0 : Int32)).bind fun p19 =>
    some ((p19 / (2 : Int32)), I16)
  else
    some ((0 : Int32), I4)
set_option maxHeartbeats 8000000 in
set_option maxRecDepth 100000 in
theorem c_X8_pair {l : Launch} {dC : Nat → ClassId} {dI : Nat → Nat → Nat} {ca : Nat → ClassId} {b : Nat → Nat} {A : Nat → Prop} {N : Nat} (hN : 138 ≤ N) (hA : gAd A b N) (I : Nat → Nat → Int32) (O : Nat → Nat → Option Nat) (J : Nat → Nat → Int64) (a1 : Int32) (a2 : Int32) (res : Int32 × (Nat → Nat → Int32)) (h : f_X8_pair a1 a2 I = some res) : Met l yX8_pair wsX8_pair ({ frames := 2, cells := 0, slots := 0, locals := 44 } : Room) (va_Pc [.ref (b 129), .int a1, .int a2] (gPre dC dI ca b A N I O J)) (va_Qi (fun (r : Int32) (u : Nat → Nat → Int32) => res = (r, u)) (fun (u : Nat → Nat → Int32) t => va_P (dC, dI) vwCl (hW N ca b u O J) t.heap) A) 0 0 A := by
  refine Met.ofW (cc := cX8_pair) (maxL := 5) (ret := (some .int)) (by decide) rfl ?_
  intro p e s m args below meth c s₁ B hml hv
  obtain ⟨rfl, hP, hK, hA2, hth⟩ := hv
  have hx := B.exec
  have hb := B.bytes
  have hr := B.returns
  have hlk := B.notSynchronized
  have X : gCx p s m ([.ref (b 129), .int a1, .int a2] : List Value).toArray c RX8 cX8_pair wsX8_pair 5 dC dI ca b A N := ⟨hx, hb, hml, findClass_of_methodNamed B.named, atoms_spec (ws := wsX8_pair) B.pre, hK, hA, hA2, hth⟩
  have hi8 : ∀ w ∈ wsX80, w ∈ wsX8_pair := (fun w h => List.mem_cons_of_mem _ (List.mem_append_right _ h))
  have hS : va_S A s.heap s.heap [] := va_S.rf
  have hl := lv_entry ([.ref (b 129), .int a1, .int a2] : List Value) (n := 5) (Nat.le_of_ble_eq_true rfl)
  rw [lg_entry_eq]
  generalize (lg_sl ([.ref (b 129), .int a1, .int a2] : List Value) ++ List.replicate (5 - (lg_sl ([.ref (b 129), .int a1, .int a2] : List Value)).length) Slot.unset).toArray = ls at hl ⊢
  have hl : lv_has ls 5 [(0, .ref (b 129)), (1, .int a1), (2, .int a2)] := hl
  unfold f_X8_pair at h
  refine lv_aload_n hx hb dX8_pair_0 rfl (lv_at hl 0 rfl) ?_
  refine lv_aload_n hx hb dX8_pair_1 rfl (lv_at hl 0 rfl) ?_
  refine lv_iload_n hx hb dX8_pair_2 rfl (lv_at hl 1 rfl) ?_
  obtain ⟨q2, hcq2, h⟩ := hb_some h
  refine gdV_i (As := [.int a1]) (rest := [.ref (b 129)]) (BH := (fun (u : Unit) H => va_P (dC, dI) vwCl (hW N ca b I O J) H)) X hP hS (c_X8_isBird hN hA I O J a1 q2 hcq2) (cwV 1 X.ts gX8_pair_X8_isBird rfl rfl rfl (by decide +kernel) ⟨Nat.le_of_ble_eq_true rfl, Nat.le_of_ble_eq_true rfl⟩) (gr8 X hP kc_129 (sk_in hN kc_129 (by decide))) rfl hl.1 rfl (Nat.le_of_ble_eq_true rfl) dX8_pair_3 ⟨Nat.le_of_ble_eq_true rfl, Nat.le_of_ble_eq_true rfl⟩ (fun r1 u9 H locs hw hP hS => ?_)
  have hw := hw.symm
  subst hw
  obtain ⟨p3, hv, h⟩ := hb_some h
  have K31 : ∀ (H : Heap) (locs : List Loc) (ls : Array Slot), va_P (dC, dI) vwCl (hW N ca b I O J) H → va_S A s.heap H locs → lv_has ls 5 [(0, .ref (b 129)), (1, .int a1), (2, .int a2)] → W p l e (headSpec wsX8_pair ({ frames := 2, cells := 0, slots := 0, locals := 44 } : Room)).room s m ([.ref (b 129), .int a1, .int a2] : List Value).toArray below meth c H locs 0 0 (MQ below (va_Qi (fun (r : Int32) (u : Nat → Nat → Int32) => res = (r, u)) (fun (u : Nat → Nat → Int32) t => va_P (dC, dI) vwCl (hW N ca b u O J) t.heap) A) ([.ref (b 129), .int a1, .int a2] : List Value).toArray s 0 0 A) (F0 m 31 ls [.int p3, .ref (b 129)]) := by
    intro H locs ls hP hS hl
    obtain ⟨q6, hcq6, h⟩ := hb_some h
    refine gdV_i (As := [.int p3]) (rest := []) (BH := (fun (u : Nat → Nat → Int32) H => va_P (dC, dI) vwCl (hW N ca b u O J) H)) X hP hS (c_X8_refused hN hA I O J p3 q6 hcq6) (cwV 1 X.ts gX8_pair_X8_refused rfl rfl rfl (by decide +kernel) ⟨Nat.le_of_ble_eq_true rfl, Nat.le_of_ble_eq_true rfl⟩) (gr8 X hP kc_129 (sk_in hN kc_129 (by decide))) rfl hl.1 rfl (Nat.le_of_ble_eq_true rfl) dX8_pair_31 ⟨Nat.le_of_ble_eq_true rfl, Nat.le_of_ble_eq_true rfl⟩ (fun r5 I4 H locs hw hP hS => ?_)
    subst hw
    refine lv_if_eq (tgt := 39) hx hb dX8_pair_34 (by decide) (fun c26 => ?_) (fun c26 => ?_)
    · have h := gif_t c26 h
      refine lv_aload_n hx hb dX8_pair_39 rfl (lv_at hl 0 rfl) ?_
      obtain ⟨q8, hcq8, h⟩ := hb_some h
      refine gdV_v (As := []) (rest := []) (BH := (fun (u : Nat → Nat → Int32) H => va_P (dC, dI) vwCl (hW N ca b u O J) H)) X hP hS (c_X8_records hN hA I4 O J q8 hcq8) (cwV 0 X.ts gX8_pair_X8_records rfl rfl rfl (by decide +kernel) ⟨Nat.le_of_ble_eq_true rfl, Nat.le_of_ble_eq_true rfl⟩) (gr8 X hP kc_129 (sk_in hN kc_129 (by decide))) rfl hl.1 rfl (Nat.le_of_ble_eq_true rfl) dX8_pair_40 ⟨Nat.le_of_ble_eq_true rfl, Nat.le_of_ble_eq_true rfl⟩ (fun I7 H locs hw hP hS => ?_)
      have hw := hw.symm
      subst hw
      refine lv_aload_n hx hb dX8_pair_43 rfl (lv_at hl 0 rfl) ?_
      refine lv_iload_n hx hb dX8_pair_44 rfl (lv_at hl 1 rfl) ?_
      obtain ⟨q10, hcq10, h⟩ := hb_some h
      refine gdV_v (As := [.int a1]) (rest := []) (BH := (fun (u : Nat → Nat → Int32) H => va_P (dC, dI) vwCl (hW N ca b u O J) H)) X hP hS (c_X8_leaves hN hA I7 O J a1 q10 hcq10) (cwV 1 X.ts gX8_pair_X8_leaves rfl rfl rfl (by decide +kernel) ⟨Nat.le_of_ble_eq_true rfl, Nat.le_of_ble_eq_true rfl⟩) (gr8 X hP kc_129 (sk_in hN kc_129 (by decide))) rfl hl.1 rfl (Nat.le_of_ble_eq_true rfl) dX8_pair_45 ⟨Nat.le_of_ble_eq_true rfl, Nat.le_of_ble_eq_true rfl⟩ (fun I9 H locs hw hP hS => ?_)
      have hw := hw.symm
      subst hw
      refine lv_aload_n hx hb dX8_pair_48 rfl (lv_at hl 0 rfl) ?_
      refine lv_iload_n hx hb dX8_pair_49 rfl (lv_at hl 2 rfl) ?_
      obtain ⟨q12, hcq12, h⟩ := hb_some h
      refine gdV_v (As := [.int a2]) (rest := []) (BH := (fun (u : Nat → Nat → Int32) H => va_P (dC, dI) vwCl (hW N ca b u O J) H)) X hP hS (c_X8_leaves hN hA I9 O J a2 q12 hcq12) (cwV 1 X.ts gX8_pair_X8_leaves rfl rfl rfl (by decide +kernel) ⟨Nat.le_of_ble_eq_true rfl, Nat.le_of_ble_eq_true rfl⟩) (gr8 X hP kc_129 (sk_in hN kc_129 (by decide))) rfl hl.1 rfl (Nat.le_of_ble_eq_true rfl) dX8_pair_50 ⟨Nat.le_of_ble_eq_true rfl, Nat.le_of_ble_eq_true rfl⟩ (fun I11 H locs hw hP hS => ?_)
      have hw := hw.symm
      subst hw
      refine lv_aload_n hx hb dX8_pair_53 rfl (lv_at hl 0 rfl) ?_
      refine gg8_0 X hP kc_129 (sk_in hN kc_129 (by decide)) hi8 (List.mem_of_getElem? (i := 1) rfl) dX8_pair_54 ?_
      refine lv_bipush (v := 16) hx hb dX8_pair_57 (by decide) ?_
      refine lv_iload_n hx hb dX8_pair_59 rfl (lv_at hl 1 rfl) ?_
      refine lv_imul hx hb dX8_pair_60 ?_
      refine lv_bipush (v := 10) hx hb dX8_pair_61 (by decide) ?_
      refine lv_iadd hx hb dX8_pair_63 ?_
      refine lv_iload_n hx hb dX8_pair_64 rfl (lv_at hl 2 rfl) ?_
      refine lv_iconst (v := 1) hx hb dX8_pair_65 (by decide) ?_
      refine lv_iadd hx hb dX8_pair_66 ?_
      obtain ⟨hgi13, h⟩ := hg_some h
      refine gs20 X hP hS kc_130 (sk_in hN kc_130 (by decide)) (L := 151) (by decide) hgi13 dX8_pair_67 (fun H locs hP hS => ?_)
      obtain ⟨I14, eI14, h⟩ := hlet_ex h
      rw [← eI14] at hP
      refine lv_aload_n hx hb dX8_pair_68 rfl (lv_at hl 0 rfl) ?_
      refine gg8_0 X hP kc_129 (sk_in hN kc_129 (by decide)) hi8 (List.mem_of_getElem? (i := 1) rfl) dX8_pair_69 ?_
      refine lv_bipush (v := 16) hx hb dX8_pair_72 (by decide) ?_
      refine lv_iload_n hx hb dX8_pair_74 rfl (lv_at hl 2 rfl) ?_
      refine lv_imul hx hb dX8_pair_75 ?_
      refine lv_bipush (v := 10) hx hb dX8_pair_76 (by decide) ?_
      refine lv_iadd hx hb dX8_pair_78 ?_
      refine lv_iload_n hx hb dX8_pair_79 rfl (lv_at hl 1 rfl) ?_
      refine lv_iconst (v := 1) hx hb dX8_pair_80 (by decide) ?_
      refine lv_iadd hx hb dX8_pair_81 ?_
      obtain ⟨hgi15, h⟩ := hg_some h
      refine gs20 X hP hS kc_130 (sk_in hN kc_130 (by decide)) (L := 151) (by decide) hgi15 dX8_pair_82 (fun H locs hP hS => ?_)
      obtain ⟨I16, eI16, h⟩ := hlet_ex h
      rw [← eI16] at hP
      refine lv_iconst (v := 0) hx hb dX8_pair_83 (by decide) ?_
      refine lv_istore_n (lv' := [(3, .int (0 : Int32)), (0, .ref (b 129)), (1, .int a1), (2, .int a2)]) hx hb dX8_pair_84 rfl hl (by decide) rfl (fun ls hl => ?_)
      refine lv_iconst (v := 0) hx hb dX8_pair_85 (by decide) ?_
      refine lv_istore (lv' := [(4, .int (0 : Int32)), (3, .int (0 : Int32)), (0, .ref (b 129)), (1, .int a1), (2, .int a2)]) hx hb dX8_pair_86 hl (by decide) rfl (fun ls hl => ?_)
      obtain ⟨p19, hv, h⟩ := hb_some h
      have K126 : ∀ (H : Heap) (locs : List Loc) (ls : Array Slot), va_P (dC, dI) vwCl (hW N ca b I16 O J) H → va_S A s.heap H locs → lv_has ls 5 [(3, .int p19)] → W p l e (headSpec wsX8_pair ({ frames := 2, cells := 0, slots := 0, locals := 44 } : Room)).room s m ([.ref (b 129), .int a1, .int a2] : List Value).toArray below meth c H locs 0 0 (MQ below (va_Qi (fun (r : Int32) (u : Nat → Nat → Int32) => res = (r, u)) (fun (u : Nat → Nat → Int32) t => va_P (dC, dI) vwCl (hW N ca b u O J) t.heap) A) ([.ref (b 129), .int a1, .int a2] : List Value).toArray s 0 0 A) (F0 m 126 ls []) := by
        intro H locs ls hP hS hl
        refine lv_iload_n hx hb dX8_pair_126 rfl (lv_at hl 0 rfl) ?_
        refine lv_iconst (v := 2) hx hb dX8_pair_127 (by decide) ?_
        refine lv_idiv hx hb dX8_pair_128 (by decide) ?_
        exact W.iret hx hb hr (fun t9 ht hW => ⟨⟨(p19 / (2 : Int32)), I16, rfl, (Option.some.inj h).symm, gEnd ht hP⟩, hS.F ht⟩) hS.2.2 dX8_pair_129 hlk
      have hL88 : ∀ (fuel : Nat) (p17 : Int32) (p18 : Int32) (H : Heap) (locs : List Loc) (ls : Array Slot), f_X8_pair_L88 I16 fuel p17 p18 = some p19 → va_P (dC, dI) vwCl (hW N ca b I16 O J) H → va_S A s.heap H locs → lv_has ls 5 [(0, .ref (b 129)), (3, .int p17), (4, .int p18)] → W p l e (headSpec wsX8_pair ({ frames := 2, cells := 0, slots := 0, locals := 44 } : Room)).room s m ([.ref (b 129), .int a1, .int a2] : List Value).toArray below meth c H locs 0 0 (MQ below (va_Qi (fun (r : Int32) (u : Nat → Nat → Int32) => res = (r, u)) (fun (u : Nat → Nat → Int32) t => va_P (dC, dI) vwCl (hW N ca b u O J) t.heap) A) ([.ref (b 129), .int a1, .int a2] : List Value).toArray s 0 0 A) (F0 m 88 ls []) := by
        intro fuel
        induction fuel with
        | zero =>
          intro p17 p18 H locs ls h hP hS hl
          rw [f_X8_pair_L88] at h
          cases h
        | succ fuel ih =>
          intro p17 p18 H locs ls h hP hS hl
          rw [f_X8_pair_L88] at h
          refine lv_iload hx hb dX8_pair_88 (lv_at hl 2 rfl) ?_
          refine lv_aload_n hx hb dX8_pair_90 rfl (lv_at hl 0 rfl) ?_
          refine gg8_0 X hP kc_129 (sk_in hN kc_129 (by decide)) hi8 (List.mem_of_getElem? (i := 1) rfl) dX8_pair_91 ?_
          refine lv_sipush (v := 128) hx hb dX8_pair_94 (by decide) ?_
          refine ga20 X hP kc_130 (sk_in hN kc_130 (by decide)) (L := 151) (by decide) (by decide) dX8_pair_97 ?_
          refine lv_icmp_ge (tgt := 126) hx hb dX8_pair_98 (by decide) (fun c25 => ?_) (fun c25 => ?_)
          · have h := gif_t c25 h
            cases h
            exact K126 _ _ _ hP hS (lv_sub hl [1] rfl)
          · have h := gif_f c25 h
            refine lv_iload_n hx hb dX8_pair_101 rfl (lv_at hl 1 rfl) ?_
            refine lv_aload_n hx hb dX8_pair_102 rfl (lv_at hl 0 rfl) ?_
            refine lv_iload hx hb dX8_pair_103 (lv_at hl 2 rfl) ?_
            refine lv_bipush (v := 10) hx hb dX8_pair_105 (by decide) ?_
            obtain ⟨q21, hcq21, h⟩ := hb_some h
            refine gdV_i (As := [.int p18, .int (10 : Int32)]) (rest := [.int p17]) (BH := (fun (u : Unit) H => va_P (dC, dI) vwCl (hW N ca b I16 O J) H)) X hP hS (c_X8_of hN hA I16 O J p18 (10 : Int32) q21 hcq21) (cwV 2 X.ts gX8_pair_X8_of rfl rfl rfl (by decide +kernel) ⟨Nat.le_of_ble_eq_true rfl, Nat.le_of_ble_eq_true rfl⟩) (gr8 X hP kc_129 (sk_in hN kc_129 (by decide))) rfl hl.1 rfl (Nat.le_of_ble_eq_true rfl) dX8_pair_107 ⟨Nat.le_of_ble_eq_true rfl, Nat.le_of_ble_eq_true rfl⟩ (fun r20 u9 H locs hw hP hS => ?_)
            have hw := hw.symm
            subst hw
            obtain ⟨p22, hv, h⟩ := hb_some h
            have K118 : ∀ (H : Heap) (locs : List Loc) (ls : Array Slot), va_P (dC, dI) vwCl (hW N ca b I16 O J) H → va_S A s.heap H locs → lv_has ls 5 [(0, .ref (b 129)), (4, .int p18)] → W p l e (headSpec wsX8_pair ({ frames := 2, cells := 0, slots := 0, locals := 44 } : Room)).room s m ([.ref (b 129), .int a1, .int a2] : List Value).toArray below meth c H locs 0 0 (MQ below (va_Qi (fun (r : Int32) (u : Nat → Nat → Int32) => res = (r, u)) (fun (u : Nat → Nat → Int32) t => va_P (dC, dI) vwCl (hW N ca b u O J) t.heap) A) ([.ref (b 129), .int a1, .int a2] : List Value).toArray s 0 0 A) (F0 m 118 ls [.int p22, .int p17]) := by
              intro H locs ls hP hS hl
              refine lv_iadd hx hb dX8_pair_118 ?_
              refine lv_istore_n (lv' := [(3, .int (p17 + p22)), (0, .ref (b 129)), (4, .int p18)]) hx hb dX8_pair_119 rfl hl (by decide) rfl (fun ls hl => ?_)
              obtain ⟨x23, ex23, h⟩ := hlet_ex h
              refine lv_iinc (v := x23) (lv' := [(4, .int x23), (3, .int (p17 + p22)), (0, .ref (b 129))]) hx hb dX8_pair_120 hl (k := 2) rfl (by rw [ex23]; rfl) (by decide) rfl (fun ls hl => ?_)
              refine lv_goto (tgt := 88) hx hb dX8_pair_123 (by decide) ?_
              exact ih _ _ _ _ _ h hP hS (lv_sub hl [2, 1, 0] rfl)
            have h := hv
            refine lv_if_le (tgt := 117) hx hb dX8_pair_110 (by decide) (fun c24 => ?_) (fun c24 => ?_)
            · have h := gif_t c24 h
              refine lv_iconst (v := 0) hx hb dX8_pair_117 (by decide) ?_
              cases h
              exact K118 _ _ _ hP hS (lv_sub hl [0, 2] rfl)
            · have h := gif_f c24 h
              refine lv_iconst (v := 1) hx hb dX8_pair_113 (by decide) ?_
              refine lv_goto (tgt := 118) hx hb dX8_pair_114 (by decide) ?_
              cases h
              exact K118 _ _ _ hP hS (lv_sub hl [0, 2] rfl)
      exact hL88 FU _ _ _ _ _ hv hP hS (lv_sub hl [2, 1, 0] rfl)
    · have h := gif_f c26 h
      refine lv_iconst (v := 0) hx hb dX8_pair_37 (by decide) ?_
      exact W.iret hx hb hr (fun t9 ht hW => ⟨⟨(0 : Int32), I4, rfl, (Option.some.inj h).symm, gEnd ht hP⟩, hS.F ht⟩) hS.2.2 dX8_pair_38 hlk
  have h := hv
  refine lv_if_eq (tgt := 17) hx hb dX8_pair_6 (by decide) (fun c31 => ?_) (fun c31 => ?_)
  · have h := gif_t c31 h
    refine lv_iconst (v := 1) hx hb dX8_pair_17 (by decide) ?_
    refine lv_goto (tgt := 31) hx hb dX8_pair_18 (by decide) ?_
    cases h
    exact K31 _ _ _ hP hS (lv_sub hl [0, 1, 2] rfl)
  · have h := gif_f c31 h
    refine lv_aload_n hx hb dX8_pair_9 rfl (lv_at hl 0 rfl) ?_
    refine lv_iload_n hx hb dX8_pair_10 rfl (lv_at hl 2 rfl) ?_
    obtain ⟨q28, hcq28, h⟩ := hb_some h
    refine gdV_i (As := [.int a2]) (rest := [.ref (b 129)]) (BH := (fun (u : Unit) H => va_P (dC, dI) vwCl (hW N ca b I O J) H)) X hP hS (c_X8_isBird hN hA I O J a2 q28 hcq28) (cwV 1 X.ts gX8_pair_X8_isBird rfl rfl rfl (by decide +kernel) ⟨Nat.le_of_ble_eq_true rfl, Nat.le_of_ble_eq_true rfl⟩) (gr8 X hP kc_129 (sk_in hN kc_129 (by decide))) rfl hl.1 rfl (Nat.le_of_ble_eq_true rfl) dX8_pair_11 ⟨Nat.le_of_ble_eq_true rfl, Nat.le_of_ble_eq_true rfl⟩ (fun r27 u9 H locs hw hP hS => ?_)
    have hw := hw.symm
    subst hw
    refine lv_if_ne (tgt := 21) hx hb dX8_pair_14 (by decide) (fun c30 => ?_) (fun c30 => ?_)
    · have h := gif_f c30 h
      refine lv_iload_n hx hb dX8_pair_21 rfl (lv_at hl 1 rfl) ?_
      refine lv_iload_n hx hb dX8_pair_22 rfl (lv_at hl 2 rfl) ?_
      refine lv_icmp_ne (tgt := 30) hx hb dX8_pair_23 (by decide) (fun c29 => ?_) (fun c29 => ?_)
      · have h := gif_f c29 h
        refine lv_iconst (v := 0) hx hb dX8_pair_30 (by decide) ?_
        cases h
        exact K31 _ _ _ hP hS (lv_sub hl [0, 1, 2] rfl)
      · have h := gif_t c29 h
        refine lv_iconst (v := 2) hx hb dX8_pair_26 (by decide) ?_
        refine lv_goto (tgt := 31) hx hb dX8_pair_27 (by decide) ?_
        cases h
        exact K31 _ _ _ hP hS (lv_sub hl [0, 1, 2] rfl)
    · have h := gif_t c30 h
      refine lv_iconst (v := 1) hx hb dX8_pair_17 (by decide) ?_
      refine lv_goto (tgt := 31) hx hb dX8_pair_18 (by decide) ?_
      cases h
      exact K31 _ _ _ hP hS (lv_sub hl [0, 1, 2] rfl)
def f_X8_sets (a1 : Int32) (a2 : Int32) (I : Nat → Nat → Int32) : Option (Int32 × (Nat → Nat → Int32)) :=
  hg (gin a1 151) <|
  hg (gin a1 151) <|
  hlet (gup I 130 (a1.toNatClampNeg) a2) fun I3 =>
  some ((I 130 (a1.toNatClampNeg)), I3)
set_option maxHeartbeats 8000000 in
set_option maxRecDepth 100000 in
theorem c_X8_sets {l : Launch} {dC : Nat → ClassId} {dI : Nat → Nat → Nat} {ca : Nat → ClassId} {b : Nat → Nat} {A : Nat → Prop} {N : Nat} (hN : 138 ≤ N) (hA : gAd A b N) (I : Nat → Nat → Int32) (O : Nat → Nat → Option Nat) (J : Nat → Nat → Int64) (a1 : Int32) (a2 : Int32) (res : Int32 × (Nat → Nat → Int32)) (h : f_X8_sets a1 a2 I = some res) : Met l yX8_sets wsX8_sets ({ frames := 0, cells := 0, slots := 0, locals := 0 } : Room) (va_Pc [.ref (b 129), .int a1, .int a2] (gPre dC dI ca b A N I O J)) (va_Qi (fun (r : Int32) (u : Nat → Nat → Int32) => res = (r, u)) (fun (u : Nat → Nat → Int32) t => va_P (dC, dI) vwCl (hW N ca b u O J) t.heap) A) 0 0 A := by
  refine Met.ofW (cc := cX8_sets) (maxL := 4) (ret := (some .int)) (by decide) rfl ?_
  intro p e s m args below meth c s₁ B hml hv
  obtain ⟨rfl, hP, hK, hA2, hth⟩ := hv
  have hx := B.exec
  have hb := B.bytes
  have hr := B.returns
  have hlk := B.notSynchronized
  have X : gCx p s m ([.ref (b 129), .int a1, .int a2] : List Value).toArray c RX8 cX8_sets wsX8_sets 4 dC dI ca b A N := ⟨hx, hb, hml, findClass_of_methodNamed B.named, atoms_spec (ws := wsX8_sets) B.pre, hK, hA, hA2, hth⟩
  have hi8 : ∀ w ∈ wsX80, w ∈ wsX8_sets := (fun w h => List.mem_cons_of_mem _ (List.mem_append_right _ h))
  have hS : va_S A s.heap s.heap [] := va_S.rf
  have hl := lv_entry ([.ref (b 129), .int a1, .int a2] : List Value) (n := 4) (Nat.le_of_ble_eq_true rfl)
  rw [lg_entry_eq]
  generalize (lg_sl ([.ref (b 129), .int a1, .int a2] : List Value) ++ List.replicate (4 - (lg_sl ([.ref (b 129), .int a1, .int a2] : List Value)).length) Slot.unset).toArray = ls at hl ⊢
  have hl : lv_has ls 4 [(0, .ref (b 129)), (1, .int a1), (2, .int a2)] := hl
  unfold f_X8_sets at h
  refine lv_aload_n hx hb dX8_sets_0 rfl (lv_at hl 0 rfl) ?_
  refine gg8_0 X hP kc_129 (sk_in hN kc_129 (by decide)) hi8 (List.mem_of_getElem? (i := 1) rfl) dX8_sets_1 ?_
  refine lv_iload_n hx hb dX8_sets_4 rfl (lv_at hl 1 rfl) ?_
  obtain ⟨hgi1, h⟩ := hg_some h
  refine ga20 X hP kc_130 (sk_in hN kc_130 (by decide)) (L := 151) (by decide) hgi1 dX8_sets_5 ?_
  refine lv_istore_n (lv' := [(3, .int (I 130 (a1.toNatClampNeg))), (0, .ref (b 129)), (1, .int a1), (2, .int a2)]) hx hb dX8_sets_6 rfl hl (by decide) rfl (fun ls hl => ?_)
  refine lv_aload_n hx hb dX8_sets_7 rfl (lv_at hl 1 rfl) ?_
  refine gg8_0 X hP kc_129 (sk_in hN kc_129 (by decide)) hi8 (List.mem_of_getElem? (i := 1) rfl) dX8_sets_8 ?_
  refine lv_iload_n hx hb dX8_sets_11 rfl (lv_at hl 2 rfl) ?_
  refine lv_iload_n hx hb dX8_sets_12 rfl (lv_at hl 3 rfl) ?_
  obtain ⟨hgi2, h⟩ := hg_some h
  refine gs20 X hP hS kc_130 (sk_in hN kc_130 (by decide)) (L := 151) (by decide) hgi2 dX8_sets_13 (fun H locs hP hS => ?_)
  obtain ⟨I3, eI3, h⟩ := hlet_ex h
  rw [← eI3] at hP
  refine lv_iload_n hx hb dX8_sets_14 rfl (lv_at hl 0 rfl) ?_
  exact W.iret hx hb hr (fun t9 ht hW => ⟨⟨(I 130 (a1.toNatClampNeg)), I3, rfl, (Option.some.inj h).symm, gEnd ht hP⟩, hS.F ht⟩) hS.2.2 dX8_sets_15 hlk
def f_X8_setLimit (a1 : Int32) (a2 : Int32) (I : Nat → Nat → Int32) : Option (Int32 × (Nat → Nat → Int32)) :=
  (f_X8_in a1 (0 : Int32) (3 : Int32)).bind fun r1 =>
  (show Option (Int32) from
    if r1 = 0 then
      some (1 : Int32)
    else
      (f_X8_in a2 (8 : Int32) (40 : Int32)).bind fun r13 =>
      if r13 = 0 then
        some (2 : Int32)
      else
        some (0 : Int32)).bind fun p3 =>
  (f_X8_refused p3 I).bind fun (r5, I4) =>
  if r5 = 0 then
    (f_X8_records I4).bind fun I7 =>
    (f_X8_sets ((129 : Int32) + a1) a2 I7).bind fun (r10, I9) =>
    some (r10, I9)
  else
    some ((0 : Int32), I4)
set_option maxHeartbeats 8000000 in
set_option maxRecDepth 100000 in
theorem c_X8_setLimit {l : Launch} {dC : Nat → ClassId} {dI : Nat → Nat → Nat} {ca : Nat → ClassId} {b : Nat → Nat} {A : Nat → Prop} {N : Nat} (hN : 138 ≤ N) (hA : gAd A b N) (I : Nat → Nat → Int32) (O : Nat → Nat → Option Nat) (J : Nat → Nat → Int64) (a1 : Int32) (a2 : Int32) (res : Int32 × (Nat → Nat → Int32)) (h : f_X8_setLimit a1 a2 I = some res) : Met l yX8_setLimit wsX8_setLimit ({ frames := 1, cells := 0, slots := 0, locals := 23 } : Room) (va_Pc [.ref (b 129), .int a1, .int a2] (gPre dC dI ca b A N I O J)) (va_Qi (fun (r : Int32) (u : Nat → Nat → Int32) => res = (r, u)) (fun (u : Nat → Nat → Int32) t => va_P (dC, dI) vwCl (hW N ca b u O J) t.heap) A) 0 0 A := by
  refine Met.ofW (cc := cX8_setLimit) (maxL := 3) (ret := (some .int)) (by decide) rfl ?_
  intro p e s m args below meth c s₁ B hml hv
  obtain ⟨rfl, hP, hK, hA2, hth⟩ := hv
  have hx := B.exec
  have hb := B.bytes
  have hr := B.returns
  have hlk := B.notSynchronized
  have X : gCx p s m ([.ref (b 129), .int a1, .int a2] : List Value).toArray c RX8 cX8_setLimit wsX8_setLimit 3 dC dI ca b A N := ⟨hx, hb, hml, findClass_of_methodNamed B.named, atoms_spec (ws := wsX8_setLimit) B.pre, hK, hA, hA2, hth⟩
  have hS : va_S A s.heap s.heap [] := va_S.rf
  have hl := lv_entry ([.ref (b 129), .int a1, .int a2] : List Value) (n := 3) (Nat.le_of_ble_eq_true rfl)
  rw [lg_entry_eq]
  generalize (lg_sl ([.ref (b 129), .int a1, .int a2] : List Value) ++ List.replicate (3 - (lg_sl ([.ref (b 129), .int a1, .int a2] : List Value)).length) Slot.unset).toArray = ls at hl ⊢
  have hl : lv_has ls 3 [(0, .ref (b 129)), (1, .int a1), (2, .int a2)] := hl
  unfold f_X8_setLimit at h
  refine lv_aload_n hx hb dX8_setLimit_0 rfl (lv_at hl 0 rfl) ?_
  refine lv_iload_n hx hb dX8_setLimit_1 rfl (lv_at hl 1 rfl) ?_
  refine lv_iconst (v := 0) hx hb dX8_setLimit_2 (by decide) ?_
  refine lv_iconst (v := 3) hx hb dX8_setLimit_3 (by decide) ?_
  obtain ⟨q2, hcq2, h⟩ := hb_some h
  refine gdS_i (As := [.int a1, .int (0 : Int32), .int (3 : Int32)]) (rest := [.ref (b 129)]) (BH := (fun (u : Unit) H => va_P (dC, dI) vwCl (hW N ca b I O J) H)) X hP hS (c_X8_in hN hA I O J a1 (0 : Int32) (3 : Int32) q2 hcq2) (va_cwS 3 X.ts gX8_setLimit_X8_in rfl rfl rfl (by decide +kernel) ⟨Nat.le_of_ble_eq_true rfl, Nat.le_of_ble_eq_true rfl⟩) rfl hl.1 rfl (Nat.le_of_ble_eq_true rfl) dX8_setLimit_4 ⟨Nat.le_of_ble_eq_true rfl, Nat.le_of_ble_eq_true rfl⟩ (fun r1 u9 H locs hw hP hS => ?_)
  have hw := hw.symm
  subst hw
  obtain ⟨p3, hv, h⟩ := hb_some h
  have K30 : ∀ (H : Heap) (locs : List Loc) (ls : Array Slot), va_P (dC, dI) vwCl (hW N ca b I O J) H → va_S A s.heap H locs → lv_has ls 3 [(0, .ref (b 129)), (1, .int a1), (2, .int a2)] → W p l e (headSpec wsX8_setLimit ({ frames := 1, cells := 0, slots := 0, locals := 23 } : Room)).room s m ([.ref (b 129), .int a1, .int a2] : List Value).toArray below meth c H locs 0 0 (MQ below (va_Qi (fun (r : Int32) (u : Nat → Nat → Int32) => res = (r, u)) (fun (u : Nat → Nat → Int32) t => va_P (dC, dI) vwCl (hW N ca b u O J) t.heap) A) ([.ref (b 129), .int a1, .int a2] : List Value).toArray s 0 0 A) (F0 m 30 ls [.int p3, .ref (b 129)]) := by
    intro H locs ls hP hS hl
    obtain ⟨q6, hcq6, h⟩ := hb_some h
    refine gdV_i (As := [.int p3]) (rest := []) (BH := (fun (u : Nat → Nat → Int32) H => va_P (dC, dI) vwCl (hW N ca b u O J) H)) X hP hS (c_X8_refused hN hA I O J p3 q6 hcq6) (cwV 1 X.ts gX8_setLimit_X8_refused rfl rfl rfl (by decide +kernel) ⟨Nat.le_of_ble_eq_true rfl, Nat.le_of_ble_eq_true rfl⟩) (gr8 X hP kc_129 (sk_in hN kc_129 (by decide))) rfl hl.1 rfl (Nat.le_of_ble_eq_true rfl) dX8_setLimit_30 ⟨Nat.le_of_ble_eq_true rfl, Nat.le_of_ble_eq_true rfl⟩ (fun r5 I4 H locs hw hP hS => ?_)
    subst hw
    refine lv_if_eq (tgt := 38) hx hb dX8_setLimit_33 (by decide) (fun c12 => ?_) (fun c12 => ?_)
    · have h := gif_t c12 h
      refine lv_aload_n hx hb dX8_setLimit_38 rfl (lv_at hl 0 rfl) ?_
      obtain ⟨q8, hcq8, h⟩ := hb_some h
      refine gdV_v (As := []) (rest := []) (BH := (fun (u : Nat → Nat → Int32) H => va_P (dC, dI) vwCl (hW N ca b u O J) H)) X hP hS (c_X8_records hN hA I4 O J q8 hcq8) (cwV 0 X.ts gX8_setLimit_X8_records rfl rfl rfl (by decide +kernel) ⟨Nat.le_of_ble_eq_true rfl, Nat.le_of_ble_eq_true rfl⟩) (gr8 X hP kc_129 (sk_in hN kc_129 (by decide))) rfl hl.1 rfl (Nat.le_of_ble_eq_true rfl) dX8_setLimit_39 ⟨Nat.le_of_ble_eq_true rfl, Nat.le_of_ble_eq_true rfl⟩ (fun I7 H locs hw hP hS => ?_)
      have hw := hw.symm
      subst hw
      refine lv_aload_n hx hb dX8_setLimit_42 rfl (lv_at hl 0 rfl) ?_
      refine lv_sipush (v := 129) hx hb dX8_setLimit_43 (by decide) ?_
      refine lv_iload_n hx hb dX8_setLimit_46 rfl (lv_at hl 1 rfl) ?_
      refine lv_iadd hx hb dX8_setLimit_47 ?_
      refine lv_iload_n hx hb dX8_setLimit_48 rfl (lv_at hl 2 rfl) ?_
      obtain ⟨q11, hcq11, h⟩ := hb_some h
      refine gdV_i (As := [.int ((129 : Int32) + a1), .int a2]) (rest := []) (BH := (fun (u : Nat → Nat → Int32) H => va_P (dC, dI) vwCl (hW N ca b u O J) H)) X hP hS (c_X8_sets hN hA I7 O J ((129 : Int32) + a1) a2 q11 hcq11) (cwV 2 X.ts gX8_setLimit_X8_sets rfl rfl rfl (by decide +kernel) ⟨Nat.le_of_ble_eq_true rfl, Nat.le_of_ble_eq_true rfl⟩) (gr8 X hP kc_129 (sk_in hN kc_129 (by decide))) rfl hl.1 rfl (Nat.le_of_ble_eq_true rfl) dX8_setLimit_49 ⟨Nat.le_of_ble_eq_true rfl, Nat.le_of_ble_eq_true rfl⟩ (fun r10 I9 H locs hw hP hS => ?_)
      subst hw
      exact W.iret hx hb hr (fun t9 ht hW => ⟨⟨r10, I9, rfl, (Option.some.inj h).symm, gEnd ht hP⟩, hS.F ht⟩) hS.2.2 dX8_setLimit_52 hlk
    · have h := gif_f c12 h
      refine lv_iconst (v := 0) hx hb dX8_setLimit_36 (by decide) ?_
      exact W.iret hx hb hr (fun t9 ht hW => ⟨⟨(0 : Int32), I4, rfl, (Option.some.inj h).symm, gEnd ht hP⟩, hS.F ht⟩) hS.2.2 dX8_setLimit_37 hlk
  have h := hv
  refine lv_if_ne (tgt := 14) hx hb dX8_setLimit_7 (by decide) (fun c16 => ?_) (fun c16 => ?_)
  · have h := gif_f c16 h
    refine lv_iload_n hx hb dX8_setLimit_14 rfl (lv_at hl 2 rfl) ?_
    refine lv_bipush (v := 8) hx hb dX8_setLimit_15 (by decide) ?_
    refine lv_bipush (v := 40) hx hb dX8_setLimit_17 (by decide) ?_
    obtain ⟨q14, hcq14, h⟩ := hb_some h
    refine gdS_i (As := [.int a2, .int (8 : Int32), .int (40 : Int32)]) (rest := [.ref (b 129)]) (BH := (fun (u : Unit) H => va_P (dC, dI) vwCl (hW N ca b I O J) H)) X hP hS (c_X8_in hN hA I O J a2 (8 : Int32) (40 : Int32) q14 hcq14) (va_cwS 3 X.ts gX8_setLimit_X8_in rfl rfl rfl (by decide +kernel) ⟨Nat.le_of_ble_eq_true rfl, Nat.le_of_ble_eq_true rfl⟩) rfl hl.1 rfl (Nat.le_of_ble_eq_true rfl) dX8_setLimit_19 ⟨Nat.le_of_ble_eq_true rfl, Nat.le_of_ble_eq_true rfl⟩ (fun r13 u9 H locs hw hP hS => ?_)
    have hw := hw.symm
    subst hw
    refine lv_if_eq (tgt := 29) hx hb dX8_setLimit_22 (by decide) (fun c15 => ?_) (fun c15 => ?_)
    · have h := gif_t c15 h
      refine lv_iconst (v := 2) hx hb dX8_setLimit_29 (by decide) ?_
      cases h
      exact K30 _ _ _ hP hS (lv_sub hl [0, 1, 2] rfl)
    · have h := gif_f c15 h
      refine lv_iconst (v := 0) hx hb dX8_setLimit_25 (by decide) ?_
      refine lv_goto (tgt := 30) hx hb dX8_setLimit_26 (by decide) ?_
      cases h
      exact K30 _ _ _ hP hS (lv_sub hl [0, 1, 2] rfl)
  · have h := gif_t c16 h
    refine lv_iconst (v := 1) hx hb dX8_setLimit_10 (by decide) ?_
    refine lv_goto (tgt := 30) hx hb dX8_setLimit_11 (by decide) ?_
    cases h
    exact K30 _ _ _ hP hS (lv_sub hl [0, 1, 2] rfl)
def f_X8_setLaps (a1 : Int32) (I : Nat → Nat → Int32) : Option (Int32 × (Nat → Nat → Int32)) :=
  (f_X8_in a1 (1 : Int32) (9 : Int32)).bind fun r1 =>
  (show Option (Int32) from
    if r1 = 0 then
      some (1 : Int32)
    else
      if (I 130 ((150 : Int32).toNatClampNeg)) = (1 : Int32) then
        some (2 : Int32)
      else
        some (0 : Int32)).bind fun p3 =>
  (f_X8_refused p3 I).bind fun (r5, I4) =>
  if r5 = 0 then
    (f_X8_records I4).bind fun I7 =>
    (f_X8_sets (133 : Int32) a1 I7).bind fun (r10, I9) =>
    some (r10, I9)
  else
    some ((0 : Int32), I4)
set_option maxHeartbeats 8000000 in
set_option maxRecDepth 100000 in
theorem c_X8_setLaps {l : Launch} {dC : Nat → ClassId} {dI : Nat → Nat → Nat} {ca : Nat → ClassId} {b : Nat → Nat} {A : Nat → Prop} {N : Nat} (hN : 138 ≤ N) (hA : gAd A b N) (I : Nat → Nat → Int32) (O : Nat → Nat → Option Nat) (J : Nat → Nat → Int64) (a1 : Int32) (res : Int32 × (Nat → Nat → Int32)) (h : f_X8_setLaps a1 I = some res) : Met l yX8_setLaps wsX8_setLaps ({ frames := 1, cells := 0, slots := 0, locals := 23 } : Room) (va_Pc [.ref (b 129), .int a1] (gPre dC dI ca b A N I O J)) (va_Qi (fun (r : Int32) (u : Nat → Nat → Int32) => res = (r, u)) (fun (u : Nat → Nat → Int32) t => va_P (dC, dI) vwCl (hW N ca b u O J) t.heap) A) 0 0 A := by
  refine Met.ofW (cc := cX8_setLaps) (maxL := 2) (ret := (some .int)) (by decide) rfl ?_
  intro p e s m args below meth c s₁ B hml hv
  obtain ⟨rfl, hP, hK, hA2, hth⟩ := hv
  have hx := B.exec
  have hb := B.bytes
  have hr := B.returns
  have hlk := B.notSynchronized
  have X : gCx p s m ([.ref (b 129), .int a1] : List Value).toArray c RX8 cX8_setLaps wsX8_setLaps 2 dC dI ca b A N := ⟨hx, hb, hml, findClass_of_methodNamed B.named, atoms_spec (ws := wsX8_setLaps) B.pre, hK, hA, hA2, hth⟩
  have hi8 : ∀ w ∈ wsX80, w ∈ wsX8_setLaps := (fun w h => List.mem_cons_of_mem _ (List.mem_append_right _ h))
  have hS : va_S A s.heap s.heap [] := va_S.rf
  have hl := lv_entry ([.ref (b 129), .int a1] : List Value) (n := 2) (Nat.le_of_ble_eq_true rfl)
  rw [lg_entry_eq]
  generalize (lg_sl ([.ref (b 129), .int a1] : List Value) ++ List.replicate (2 - (lg_sl ([.ref (b 129), .int a1] : List Value)).length) Slot.unset).toArray = ls at hl ⊢
  have hl : lv_has ls 2 [(0, .ref (b 129)), (1, .int a1)] := hl
  unfold f_X8_setLaps at h
  refine lv_aload_n hx hb dX8_setLaps_0 rfl (lv_at hl 0 rfl) ?_
  refine lv_iload_n hx hb dX8_setLaps_1 rfl (lv_at hl 1 rfl) ?_
  refine lv_iconst (v := 1) hx hb dX8_setLaps_2 (by decide) ?_
  refine lv_bipush (v := 9) hx hb dX8_setLaps_3 (by decide) ?_
  obtain ⟨q2, hcq2, h⟩ := hb_some h
  refine gdS_i (As := [.int a1, .int (1 : Int32), .int (9 : Int32)]) (rest := [.ref (b 129)]) (BH := (fun (u : Unit) H => va_P (dC, dI) vwCl (hW N ca b I O J) H)) X hP hS (c_X8_in hN hA I O J a1 (1 : Int32) (9 : Int32) q2 hcq2) (va_cwS 3 X.ts gX8_setLaps_X8_in rfl rfl rfl (by decide +kernel) ⟨Nat.le_of_ble_eq_true rfl, Nat.le_of_ble_eq_true rfl⟩) rfl hl.1 rfl (Nat.le_of_ble_eq_true rfl) dX8_setLaps_5 ⟨Nat.le_of_ble_eq_true rfl, Nat.le_of_ble_eq_true rfl⟩ (fun r1 u9 H locs hw hP hS => ?_)
  have hw := hw.symm
  subst hw
  obtain ⟨p3, hv, h⟩ := hb_some h
  have K32 : ∀ (H : Heap) (locs : List Loc) (ls : Array Slot), va_P (dC, dI) vwCl (hW N ca b I O J) H → va_S A s.heap H locs → lv_has ls 2 [(0, .ref (b 129)), (1, .int a1)] → W p l e (headSpec wsX8_setLaps ({ frames := 1, cells := 0, slots := 0, locals := 23 } : Room)).room s m ([.ref (b 129), .int a1] : List Value).toArray below meth c H locs 0 0 (MQ below (va_Qi (fun (r : Int32) (u : Nat → Nat → Int32) => res = (r, u)) (fun (u : Nat → Nat → Int32) t => va_P (dC, dI) vwCl (hW N ca b u O J) t.heap) A) ([.ref (b 129), .int a1] : List Value).toArray s 0 0 A) (F0 m 32 ls [.int p3, .ref (b 129)]) := by
    intro H locs ls hP hS hl
    obtain ⟨q6, hcq6, h⟩ := hb_some h
    refine gdV_i (As := [.int p3]) (rest := []) (BH := (fun (u : Nat → Nat → Int32) H => va_P (dC, dI) vwCl (hW N ca b u O J) H)) X hP hS (c_X8_refused hN hA I O J p3 q6 hcq6) (cwV 1 X.ts gX8_setLaps_X8_refused rfl rfl rfl (by decide +kernel) ⟨Nat.le_of_ble_eq_true rfl, Nat.le_of_ble_eq_true rfl⟩) (gr8 X hP kc_129 (sk_in hN kc_129 (by decide))) rfl hl.1 rfl (Nat.le_of_ble_eq_true rfl) dX8_setLaps_32 ⟨Nat.le_of_ble_eq_true rfl, Nat.le_of_ble_eq_true rfl⟩ (fun r5 I4 H locs hw hP hS => ?_)
    subst hw
    refine lv_if_eq (tgt := 40) hx hb dX8_setLaps_35 (by decide) (fun c12 => ?_) (fun c12 => ?_)
    · have h := gif_t c12 h
      refine lv_aload_n hx hb dX8_setLaps_40 rfl (lv_at hl 0 rfl) ?_
      obtain ⟨q8, hcq8, h⟩ := hb_some h
      refine gdV_v (As := []) (rest := []) (BH := (fun (u : Nat → Nat → Int32) H => va_P (dC, dI) vwCl (hW N ca b u O J) H)) X hP hS (c_X8_records hN hA I4 O J q8 hcq8) (cwV 0 X.ts gX8_setLaps_X8_records rfl rfl rfl (by decide +kernel) ⟨Nat.le_of_ble_eq_true rfl, Nat.le_of_ble_eq_true rfl⟩) (gr8 X hP kc_129 (sk_in hN kc_129 (by decide))) rfl hl.1 rfl (Nat.le_of_ble_eq_true rfl) dX8_setLaps_41 ⟨Nat.le_of_ble_eq_true rfl, Nat.le_of_ble_eq_true rfl⟩ (fun I7 H locs hw hP hS => ?_)
      have hw := hw.symm
      subst hw
      refine lv_aload_n hx hb dX8_setLaps_44 rfl (lv_at hl 0 rfl) ?_
      refine lv_sipush (v := 133) hx hb dX8_setLaps_45 (by decide) ?_
      refine lv_iload_n hx hb dX8_setLaps_48 rfl (lv_at hl 1 rfl) ?_
      obtain ⟨q11, hcq11, h⟩ := hb_some h
      refine gdV_i (As := [.int (133 : Int32), .int a1]) (rest := []) (BH := (fun (u : Nat → Nat → Int32) H => va_P (dC, dI) vwCl (hW N ca b u O J) H)) X hP hS (c_X8_sets hN hA I7 O J (133 : Int32) a1 q11 hcq11) (cwV 2 X.ts gX8_setLaps_X8_sets rfl rfl rfl (by decide +kernel) ⟨Nat.le_of_ble_eq_true rfl, Nat.le_of_ble_eq_true rfl⟩) (gr8 X hP kc_129 (sk_in hN kc_129 (by decide))) rfl hl.1 rfl (Nat.le_of_ble_eq_true rfl) dX8_setLaps_49 ⟨Nat.le_of_ble_eq_true rfl, Nat.le_of_ble_eq_true rfl⟩ (fun r10 I9 H locs hw hP hS => ?_)
      subst hw
      exact W.iret hx hb hr (fun t9 ht hW => ⟨⟨r10, I9, rfl, (Option.some.inj h).symm, gEnd ht hP⟩, hS.F ht⟩) hS.2.2 dX8_setLaps_52 hlk
    · have h := gif_f c12 h
      refine lv_iconst (v := 0) hx hb dX8_setLaps_38 (by decide) ?_
      exact W.iret hx hb hr (fun t9 ht hW => ⟨⟨(0 : Int32), I4, rfl, (Option.some.inj h).symm, gEnd ht hP⟩, hS.F ht⟩) hS.2.2 dX8_setLaps_39 hlk
  have h := hv
  refine lv_if_ne (tgt := 15) hx hb dX8_setLaps_8 (by decide) (fun c14 => ?_) (fun c14 => ?_)
  · have h := gif_f c14 h
    refine lv_aload_n hx hb dX8_setLaps_15 rfl (lv_at hl 0 rfl) ?_
    refine gg8_0 X hP kc_129 (sk_in hN kc_129 (by decide)) hi8 (List.mem_of_getElem? (i := 1) rfl) dX8_setLaps_16 ?_
    refine lv_sipush (v := 150) hx hb dX8_setLaps_19 (by decide) ?_
    refine ga20 X hP kc_130 (sk_in hN kc_130 (by decide)) (L := 151) (by decide) (by decide) dX8_setLaps_22 ?_
    refine lv_iconst (v := 1) hx hb dX8_setLaps_23 (by decide) ?_
    refine lv_icmp_ne (tgt := 31) hx hb dX8_setLaps_24 (by decide) (fun c13 => ?_) (fun c13 => ?_)
    · have h := gif_f c13 h
      refine lv_iconst (v := 0) hx hb dX8_setLaps_31 (by decide) ?_
      cases h
      exact K32 _ _ _ hP hS (lv_sub hl [0, 1] rfl)
    · have h := gif_t c13 h
      refine lv_iconst (v := 2) hx hb dX8_setLaps_27 (by decide) ?_
      refine lv_goto (tgt := 32) hx hb dX8_setLaps_28 (by decide) ?_
      cases h
      exact K32 _ _ _ hP hS (lv_sub hl [0, 1] rfl)
  · have h := gif_t c14 h
    refine lv_iconst (v := 1) hx hb dX8_setLaps_11 (by decide) ?_
    refine lv_goto (tgt := 32) hx hb dX8_setLaps_12 (by decide) ?_
    cases h
    exact K32 _ _ _ hP hS (lv_sub hl [0, 1] rfl)
def f_X8_begin_L177 : Nat → Int32 → (Nat → Nat → Int32) → Option (Nat → Nat → Int32)
  | 0, _, _ => none
  | fuel + 1, p12, I13 =>
    if (147 : Int32) < p12 then
      some I13
    else
      hg (gin p12 151) <|
      hlet (gup I13 130 (p12.toNatClampNeg) (0 : Int32)) fun I18 =>
      hlet (p12 + 1) fun x19 =>
      f_X8_begin_L177 fuel x19 I18
def f_X8_begin_L31 : Nat → Int32 → (Nat → Nat → Int32) → Option (Nat → Nat → Int32)
  | 0, _, _ => none
  | fuel + 1, p7, I8 =>
    if (I8 130 ((128 : Int32).toNatClampNeg)) ≤ p7 then
      some I8
    else
      hg (gin (((16 : Int32) * p7) + (1 : Int32)) 151) <|
      hg (gin (((16 : Int32) * p7) + (3 : Int32)) 151) <|
      hlet (gup I8 130 ((((16 : Int32) * p7) + (3 : Int32)).toNatClampNeg) (I8 130 ((((16 : Int32) * p7) + (1 : Int32)).toNatClampNeg))) fun I23 =>
      hg (gin (((16 : Int32) * p7) + (2 : Int32)) 151) <|
      hg (gin (((16 : Int32) * p7) + (5 : Int32)) 151) <|
      hlet (gup I23 130 ((((16 : Int32) * p7) + (5 : Int32)).toNatClampNeg) (I23 130 ((((16 : Int32) * p7) + (2 : Int32)).toNatClampNeg))) fun I26 =>
      hg (gin (((16 : Int32) * p7) + (4 : Int32)) 151) <|
      hlet (gup I26 130 ((((16 : Int32) * p7) + (4 : Int32)).toNatClampNeg) (0 : Int32)) fun I28 =>
      hg (gin (((16 : Int32) * p7) + (6 : Int32)) 151) <|
      hlet (gup I28 130 ((((16 : Int32) * p7) + (6 : Int32)).toNatClampNeg) (1 : Int32)) fun I30 =>
      hg (gin (((16 : Int32) * p7) + (7 : Int32)) 151) <|
      hlet (gup I30 130 ((((16 : Int32) * p7) + (7 : Int32)).toNatClampNeg) (0 : Int32)) fun I32 =>
      hg (gin (((16 : Int32) * p7) + (8 : Int32)) 151) <|
      hlet (gup I32 130 ((((16 : Int32) * p7) + (8 : Int32)).toNatClampNeg) (0 : Int32)) fun I34 =>
      hg (gin (((16 : Int32) * p7) + (9 : Int32)) 151) <|
      hlet (gup I34 130 ((((16 : Int32) * p7) + (9 : Int32)).toNatClampNeg) (0 : Int32)) fun I36 =>
      hg (gin (((16 : Int32) * p7) + (11 : Int32)) 151) <|
      hlet (gup I36 130 ((((16 : Int32) * p7) + (11 : Int32)).toNatClampNeg) (0 : Int32)) fun I38 =>
      hg (gin (((16 : Int32) * p7) + (12 : Int32)) 151) <|
      hlet (gup I38 130 ((((16 : Int32) * p7) + (12 : Int32)).toNatClampNeg) (0 : Int32)) fun I40 =>
      hlet (p7 + 1) fun x41 =>
      f_X8_begin_L31 fuel x41 I40
def f_X8_begin (I : Nat → Nat → Int32) : Option (Int32 × (Nat → Nat → Int32)) :=
  (show Option (Int32) from
    if (I 130 ((128 : Int32).toNatClampNeg)) = 0 then
      some (1 : Int32)
    else
      some (0 : Int32)).bind fun p1 =>
  (f_X8_refused p1 I).bind fun (r3, I2) =>
  if r3 = 0 then
    (f_X8_records I2).bind fun I5 =>
    (f_X8_begin_L31  FU (0 : Int32) I5).bind fun I9 =>
    hlet (gup I9 130 ((134 : Int32).toNatClampNeg) (0 : Int32)) fun I10 =>
    hlet (gup I10 130 ((135 : Int32).toNatClampNeg) (0 : Int32)) fun I11 =>
    (f_X8_begin_L177  FU (144 : Int32) I11).bind fun I14 =>
    hlet (gup I14 130 ((148 : Int32).toNatClampNeg) ((I14 130 ((148 : Int32).toNatClampNeg)) + (1 : Int32))) fun I15 =>
    hlet (gup I15 130 ((150 : Int32).toNatClampNeg) (1 : Int32)) fun I16 =>
    some ((I16 130 ((128 : Int32).toNatClampNeg)), I16)
  else
    some ((0 : Int32), I2)
set_option maxHeartbeats 8000000 in
set_option maxRecDepth 100000 in
theorem c_X8_begin {l : Launch} {dC : Nat → ClassId} {dI : Nat → Nat → Nat} {ca : Nat → ClassId} {b : Nat → Nat} {A : Nat → Prop} {N : Nat} (hN : 138 ≤ N) (hA : gAd A b N) (I : Nat → Nat → Int32) (O : Nat → Nat → Option Nat) (J : Nat → Nat → Int64) (res : Int32 × (Nat → Nat → Int32)) (h : f_X8_begin I = some res) : Met l yX8_begin wsX8_begin ({ frames := 1, cells := 0, slots := 0, locals := 21 } : Room) (va_Pc [.ref (b 129)] (gPre dC dI ca b A N I O J)) (va_Qi (fun (r : Int32) (u : Nat → Nat → Int32) => res = (r, u)) (fun (u : Nat → Nat → Int32) t => va_P (dC, dI) vwCl (hW N ca b u O J) t.heap) A) 0 0 A := by
  refine Met.ofW (cc := cX8_begin) (maxL := 3) (ret := (some .int)) (by decide) rfl ?_
  intro p e s m args below meth c s₁ B hml hv
  obtain ⟨rfl, hP, hK, hA2, hth⟩ := hv
  have hx := B.exec
  have hb := B.bytes
  have hr := B.returns
  have hlk := B.notSynchronized
  have X : gCx p s m ([.ref (b 129)] : List Value).toArray c RX8 cX8_begin wsX8_begin 3 dC dI ca b A N := ⟨hx, hb, hml, findClass_of_methodNamed B.named, atoms_spec (ws := wsX8_begin) B.pre, hK, hA, hA2, hth⟩
  have hi8 : ∀ w ∈ wsX80, w ∈ wsX8_begin := (fun w h => List.mem_cons_of_mem _ (List.mem_append_right _ h))
  have hS : va_S A s.heap s.heap [] := va_S.rf
  have hl := lv_entry ([.ref (b 129)] : List Value) (n := 3) (Nat.le_of_ble_eq_true rfl)
  rw [lg_entry_eq]
  generalize (lg_sl ([.ref (b 129)] : List Value) ++ List.replicate (3 - (lg_sl ([.ref (b 129)] : List Value)).length) Slot.unset).toArray = ls at hl ⊢
  have hl : lv_has ls 3 [(0, .ref (b 129))] := hl
  unfold f_X8_begin at h
  refine lv_aload_n hx hb dX8_begin_0 rfl (lv_at hl 0 rfl) ?_
  refine lv_aload_n hx hb dX8_begin_1 rfl (lv_at hl 0 rfl) ?_
  refine gg8_0 X hP kc_129 (sk_in hN kc_129 (by decide)) hi8 (List.mem_of_getElem? (i := 1) rfl) dX8_begin_2 ?_
  refine lv_sipush (v := 128) hx hb dX8_begin_5 (by decide) ?_
  refine ga20 X hP kc_130 (sk_in hN kc_130 (by decide)) (L := 151) (by decide) (by decide) dX8_begin_8 ?_
  obtain ⟨p1, hv, h⟩ := hb_some h
  have K17 : ∀ (H : Heap) (locs : List Loc) (ls : Array Slot), va_P (dC, dI) vwCl (hW N ca b I O J) H → va_S A s.heap H locs → lv_has ls 3 [(0, .ref (b 129))] → W p l e (headSpec wsX8_begin ({ frames := 1, cells := 0, slots := 0, locals := 21 } : Room)).room s m ([.ref (b 129)] : List Value).toArray below meth c H locs 0 0 (MQ below (va_Qi (fun (r : Int32) (u : Nat → Nat → Int32) => res = (r, u)) (fun (u : Nat → Nat → Int32) t => va_P (dC, dI) vwCl (hW N ca b u O J) t.heap) A) ([.ref (b 129)] : List Value).toArray s 0 0 A) (F0 m 17 ls [.int p1, .ref (b 129)]) := by
    intro H locs ls hP hS hl
    obtain ⟨q4, hcq4, h⟩ := hb_some h
    refine gdV_i (As := [.int p1]) (rest := []) (BH := (fun (u : Nat → Nat → Int32) H => va_P (dC, dI) vwCl (hW N ca b u O J) H)) X hP hS (c_X8_refused hN hA I O J p1 q4 hcq4) (cwV 1 X.ts gX8_begin_X8_refused rfl rfl rfl (by decide +kernel) ⟨Nat.le_of_ble_eq_true rfl, Nat.le_of_ble_eq_true rfl⟩) (gr8 X hP kc_129 (sk_in hN kc_129 (by decide))) rfl hl.1 rfl (Nat.le_of_ble_eq_true rfl) dX8_begin_17 ⟨Nat.le_of_ble_eq_true rfl, Nat.le_of_ble_eq_true rfl⟩ (fun r3 I2 H locs hw hP hS => ?_)
    subst hw
    refine lv_if_eq (tgt := 25) hx hb dX8_begin_20 (by decide) (fun c43 => ?_) (fun c43 => ?_)
    · have h := gif_t c43 h
      refine lv_aload_n hx hb dX8_begin_25 rfl (lv_at hl 0 rfl) ?_
      obtain ⟨q6, hcq6, h⟩ := hb_some h
      refine gdV_v (As := []) (rest := []) (BH := (fun (u : Nat → Nat → Int32) H => va_P (dC, dI) vwCl (hW N ca b u O J) H)) X hP hS (c_X8_records hN hA I2 O J q6 hcq6) (cwV 0 X.ts gX8_begin_X8_records rfl rfl rfl (by decide +kernel) ⟨Nat.le_of_ble_eq_true rfl, Nat.le_of_ble_eq_true rfl⟩) (gr8 X hP kc_129 (sk_in hN kc_129 (by decide))) rfl hl.1 rfl (Nat.le_of_ble_eq_true rfl) dX8_begin_26 ⟨Nat.le_of_ble_eq_true rfl, Nat.le_of_ble_eq_true rfl⟩ (fun I5 H locs hw hP hS => ?_)
      have hw := hw.symm
      subst hw
      refine lv_iconst (v := 0) hx hb dX8_begin_29 (by decide) ?_
      refine lv_istore_n (lv' := [(1, .int (0 : Int32)), (0, .ref (b 129))]) hx hb dX8_begin_30 rfl hl (by decide) rfl (fun ls hl => ?_)
      obtain ⟨I9, hv, h⟩ := hb_some h
      have K155 : ∀ (H : Heap) (locs : List Loc) (ls : Array Slot), va_P (dC, dI) vwCl (hW N ca b I9 O J) H → va_S A s.heap H locs → lv_has ls 3 [(0, .ref (b 129))] → W p l e (headSpec wsX8_begin ({ frames := 1, cells := 0, slots := 0, locals := 21 } : Room)).room s m ([.ref (b 129)] : List Value).toArray below meth c H locs 0 0 (MQ below (va_Qi (fun (r : Int32) (u : Nat → Nat → Int32) => res = (r, u)) (fun (u : Nat → Nat → Int32) t => va_P (dC, dI) vwCl (hW N ca b u O J) t.heap) A) ([.ref (b 129)] : List Value).toArray s 0 0 A) (F0 m 155 ls []) := by
        intro H locs ls hP hS hl
        refine lv_aload_n hx hb dX8_begin_155 rfl (lv_at hl 0 rfl) ?_
        refine gg8_0 X hP kc_129 (sk_in hN kc_129 (by decide)) hi8 (List.mem_of_getElem? (i := 1) rfl) dX8_begin_156 ?_
        refine lv_sipush (v := 134) hx hb dX8_begin_159 (by decide) ?_
        refine lv_iconst (v := 0) hx hb dX8_begin_162 (by decide) ?_
        refine gs20 X hP hS kc_130 (sk_in hN kc_130 (by decide)) (L := 151) (by decide) (by decide) dX8_begin_163 (fun H locs hP hS => ?_)
        obtain ⟨I10, eI10, h⟩ := hlet_ex h
        rw [← eI10] at hP
        refine lv_aload_n hx hb dX8_begin_164 rfl (lv_at hl 0 rfl) ?_
        refine gg8_0 X hP kc_129 (sk_in hN kc_129 (by decide)) hi8 (List.mem_of_getElem? (i := 1) rfl) dX8_begin_165 ?_
        refine lv_sipush (v := 135) hx hb dX8_begin_168 (by decide) ?_
        refine lv_iconst (v := 0) hx hb dX8_begin_171 (by decide) ?_
        refine gs20 X hP hS kc_130 (sk_in hN kc_130 (by decide)) (L := 151) (by decide) (by decide) dX8_begin_172 (fun H locs hP hS => ?_)
        obtain ⟨I11, eI11, h⟩ := hlet_ex h
        rw [← eI11] at hP
        refine lv_sipush (v := 144) hx hb dX8_begin_173 (by decide) ?_
        refine lv_istore_n (lv' := [(1, .int (144 : Int32)), (0, .ref (b 129))]) hx hb dX8_begin_176 rfl hl (by decide) rfl (fun ls hl => ?_)
        obtain ⟨I14, hv, h⟩ := hb_some h
        have K197 : ∀ (H : Heap) (locs : List Loc) (ls : Array Slot), va_P (dC, dI) vwCl (hW N ca b I14 O J) H → va_S A s.heap H locs → lv_has ls 3 [(0, .ref (b 129))] → W p l e (headSpec wsX8_begin ({ frames := 1, cells := 0, slots := 0, locals := 21 } : Room)).room s m ([.ref (b 129)] : List Value).toArray below meth c H locs 0 0 (MQ below (va_Qi (fun (r : Int32) (u : Nat → Nat → Int32) => res = (r, u)) (fun (u : Nat → Nat → Int32) t => va_P (dC, dI) vwCl (hW N ca b u O J) t.heap) A) ([.ref (b 129)] : List Value).toArray s 0 0 A) (F0 m 197 ls []) := by
          intro H locs ls hP hS hl
          refine lv_aload_n hx hb dX8_begin_197 rfl (lv_at hl 0 rfl) ?_
          refine gg8_0 X hP kc_129 (sk_in hN kc_129 (by decide)) hi8 (List.mem_of_getElem? (i := 1) rfl) dX8_begin_198 ?_
          refine lv_sipush (v := 148) hx hb dX8_begin_201 (by decide) ?_
          refine lv_dup2_11 hx hb dX8_begin_204 rfl rfl ?_
          refine ga20 X hP kc_130 (sk_in hN kc_130 (by decide)) (L := 151) (by decide) (by decide) dX8_begin_205 ?_
          refine lv_iconst (v := 1) hx hb dX8_begin_206 (by decide) ?_
          refine lv_iadd hx hb dX8_begin_207 ?_
          refine gs20 X hP hS kc_130 (sk_in hN kc_130 (by decide)) (L := 151) (by decide) (by decide) dX8_begin_208 (fun H locs hP hS => ?_)
          obtain ⟨I15, eI15, h⟩ := hlet_ex h
          rw [← eI15] at hP
          refine lv_aload_n hx hb dX8_begin_209 rfl (lv_at hl 0 rfl) ?_
          refine gg8_0 X hP kc_129 (sk_in hN kc_129 (by decide)) hi8 (List.mem_of_getElem? (i := 1) rfl) dX8_begin_210 ?_
          refine lv_sipush (v := 150) hx hb dX8_begin_213 (by decide) ?_
          refine lv_iconst (v := 1) hx hb dX8_begin_216 (by decide) ?_
          refine gs20 X hP hS kc_130 (sk_in hN kc_130 (by decide)) (L := 151) (by decide) (by decide) dX8_begin_217 (fun H locs hP hS => ?_)
          obtain ⟨I16, eI16, h⟩ := hlet_ex h
          rw [← eI16] at hP
          refine lv_aload_n hx hb dX8_begin_218 rfl (lv_at hl 0 rfl) ?_
          refine gg8_0 X hP kc_129 (sk_in hN kc_129 (by decide)) hi8 (List.mem_of_getElem? (i := 1) rfl) dX8_begin_219 ?_
          refine lv_sipush (v := 128) hx hb dX8_begin_222 (by decide) ?_
          refine ga20 X hP kc_130 (sk_in hN kc_130 (by decide)) (L := 151) (by decide) (by decide) dX8_begin_225 ?_
          exact W.iret hx hb hr (fun t9 ht hW => ⟨⟨(I16 130 ((128 : Int32).toNatClampNeg)), I16, rfl, (Option.some.inj h).symm, gEnd ht hP⟩, hS.F ht⟩) hS.2.2 dX8_begin_226 hlk
        have hL177 : ∀ (fuel : Nat) (p12 : Int32) (I13 : Nat → Nat → Int32) (H : Heap) (locs : List Loc) (ls : Array Slot), f_X8_begin_L177  fuel p12 I13 = some I14 → va_P (dC, dI) vwCl (hW N ca b I13 O J) H → va_S A s.heap H locs → lv_has ls 3 [(0, .ref (b 129)), (1, .int p12)] → W p l e (headSpec wsX8_begin ({ frames := 1, cells := 0, slots := 0, locals := 21 } : Room)).room s m ([.ref (b 129)] : List Value).toArray below meth c H locs 0 0 (MQ below (va_Qi (fun (r : Int32) (u : Nat → Nat → Int32) => res = (r, u)) (fun (u : Nat → Nat → Int32) t => va_P (dC, dI) vwCl (hW N ca b u O J) t.heap) A) ([.ref (b 129)] : List Value).toArray s 0 0 A) (F0 m 177 ls []) := by
          intro fuel
          induction fuel with
          | zero =>
            intro p12 I13 H locs ls h hP hS hl
            rw [f_X8_begin_L177] at h
            cases h
          | succ fuel ih =>
            intro p12 I13 H locs ls h hP hS hl
            rw [f_X8_begin_L177] at h
            refine lv_iload_n hx hb dX8_begin_177 rfl (lv_at hl 1 rfl) ?_
            refine lv_sipush (v := 147) hx hb dX8_begin_178 (by decide) ?_
            refine lv_icmp_gt (tgt := 197) hx hb dX8_begin_181 (by decide) (fun c20 => ?_) (fun c20 => ?_)
            · have h := gif_t c20 h
              cases h
              exact K197 _ _ _ hP hS (lv_sub hl [0] rfl)
            · have h := gif_f c20 h
              refine lv_aload_n hx hb dX8_begin_184 rfl (lv_at hl 0 rfl) ?_
              refine gg8_0 X hP kc_129 (sk_in hN kc_129 (by decide)) hi8 (List.mem_of_getElem? (i := 1) rfl) dX8_begin_185 ?_
              refine lv_iload_n hx hb dX8_begin_188 rfl (lv_at hl 1 rfl) ?_
              refine lv_iconst (v := 0) hx hb dX8_begin_189 (by decide) ?_
              obtain ⟨hgi17, h⟩ := hg_some h
              refine gs20 X hP hS kc_130 (sk_in hN kc_130 (by decide)) (L := 151) (by decide) hgi17 dX8_begin_190 (fun H locs hP hS => ?_)
              obtain ⟨I18, eI18, h⟩ := hlet_ex h
              rw [← eI18] at hP
              obtain ⟨x19, ex19, h⟩ := hlet_ex h
              refine lv_iinc (v := x19) (lv' := [(1, .int x19), (0, .ref (b 129))]) hx hb dX8_begin_191 hl (k := 1) rfl (by rw [ex19]; rfl) (by decide) rfl (fun ls hl => ?_)
              refine lv_goto (tgt := 177) hx hb dX8_begin_194 (by decide) ?_
              exact ih _ _ _ _ _ h hP hS (lv_sub hl [1, 0] rfl)
        exact hL177 FU _ _ _ _ _ hv hP hS (lv_sub hl [1, 0] rfl)
      have hL31 : ∀ (fuel : Nat) (p7 : Int32) (I8 : Nat → Nat → Int32) (H : Heap) (locs : List Loc) (ls : Array Slot), f_X8_begin_L31  fuel p7 I8 = some I9 → va_P (dC, dI) vwCl (hW N ca b I8 O J) H → va_S A s.heap H locs → lv_has ls 3 [(0, .ref (b 129)), (1, .int p7)] → W p l e (headSpec wsX8_begin ({ frames := 1, cells := 0, slots := 0, locals := 21 } : Room)).room s m ([.ref (b 129)] : List Value).toArray below meth c H locs 0 0 (MQ below (va_Qi (fun (r : Int32) (u : Nat → Nat → Int32) => res = (r, u)) (fun (u : Nat → Nat → Int32) t => va_P (dC, dI) vwCl (hW N ca b u O J) t.heap) A) ([.ref (b 129)] : List Value).toArray s 0 0 A) (F0 m 31 ls []) := by
        intro fuel
        induction fuel with
        | zero =>
          intro p7 I8 H locs ls h hP hS hl
          rw [f_X8_begin_L31] at h
          cases h
        | succ fuel ih =>
          intro p7 I8 H locs ls h hP hS hl
          rw [f_X8_begin_L31] at h
          refine lv_iload_n hx hb dX8_begin_31 rfl (lv_at hl 1 rfl) ?_
          refine lv_aload_n hx hb dX8_begin_32 rfl (lv_at hl 0 rfl) ?_
          refine gg8_0 X hP kc_129 (sk_in hN kc_129 (by decide)) hi8 (List.mem_of_getElem? (i := 1) rfl) dX8_begin_33 ?_
          refine lv_sipush (v := 128) hx hb dX8_begin_36 (by decide) ?_
          refine ga20 X hP kc_130 (sk_in hN kc_130 (by decide)) (L := 151) (by decide) (by decide) dX8_begin_39 ?_
          refine lv_icmp_ge (tgt := 155) hx hb dX8_begin_40 (by decide) (fun c42 => ?_) (fun c42 => ?_)
          · have h := gif_t c42 h
            cases h
            exact K155 _ _ _ hP hS (lv_sub hl [0] rfl)
          · have h := gif_f c42 h
            refine lv_bipush (v := 16) hx hb dX8_begin_43 (by decide) ?_
            refine lv_iload_n hx hb dX8_begin_45 rfl (lv_at hl 1 rfl) ?_
            refine lv_imul hx hb dX8_begin_46 ?_
            refine lv_istore_n (lv' := [(2, .int ((16 : Int32) * p7)), (0, .ref (b 129)), (1, .int p7)]) hx hb dX8_begin_47 rfl hl (by decide) rfl (fun ls hl => ?_)
            refine lv_aload_n hx hb dX8_begin_48 rfl (lv_at hl 1 rfl) ?_
            refine gg8_0 X hP kc_129 (sk_in hN kc_129 (by decide)) hi8 (List.mem_of_getElem? (i := 1) rfl) dX8_begin_49 ?_
            refine lv_iload_n hx hb dX8_begin_52 rfl (lv_at hl 0 rfl) ?_
            refine lv_iconst (v := 3) hx hb dX8_begin_53 (by decide) ?_
            refine lv_iadd hx hb dX8_begin_54 ?_
            refine lv_aload_n hx hb dX8_begin_55 rfl (lv_at hl 1 rfl) ?_
            refine gg8_0 X hP kc_129 (sk_in hN kc_129 (by decide)) hi8 (List.mem_of_getElem? (i := 1) rfl) dX8_begin_56 ?_
            refine lv_iload_n hx hb dX8_begin_59 rfl (lv_at hl 0 rfl) ?_
            refine lv_iconst (v := 1) hx hb dX8_begin_60 (by decide) ?_
            refine lv_iadd hx hb dX8_begin_61 ?_
            obtain ⟨hgi21, h⟩ := hg_some h
            refine ga20 X hP kc_130 (sk_in hN kc_130 (by decide)) (L := 151) (by decide) hgi21 dX8_begin_62 ?_
            obtain ⟨hgi22, h⟩ := hg_some h
            refine gs20 X hP hS kc_130 (sk_in hN kc_130 (by decide)) (L := 151) (by decide) hgi22 dX8_begin_63 (fun H locs hP hS => ?_)
            obtain ⟨I23, eI23, h⟩ := hlet_ex h
            rw [← eI23] at hP
            refine lv_aload_n hx hb dX8_begin_64 rfl (lv_at hl 1 rfl) ?_
            refine gg8_0 X hP kc_129 (sk_in hN kc_129 (by decide)) hi8 (List.mem_of_getElem? (i := 1) rfl) dX8_begin_65 ?_
            refine lv_iload_n hx hb dX8_begin_68 rfl (lv_at hl 0 rfl) ?_
            refine lv_iconst (v := 5) hx hb dX8_begin_69 (by decide) ?_
            refine lv_iadd hx hb dX8_begin_70 ?_
            refine lv_aload_n hx hb dX8_begin_71 rfl (lv_at hl 1 rfl) ?_
            refine gg8_0 X hP kc_129 (sk_in hN kc_129 (by decide)) hi8 (List.mem_of_getElem? (i := 1) rfl) dX8_begin_72 ?_
            refine lv_iload_n hx hb dX8_begin_75 rfl (lv_at hl 0 rfl) ?_
            refine lv_iconst (v := 2) hx hb dX8_begin_76 (by decide) ?_
            refine lv_iadd hx hb dX8_begin_77 ?_
            obtain ⟨hgi24, h⟩ := hg_some h
            refine ga20 X hP kc_130 (sk_in hN kc_130 (by decide)) (L := 151) (by decide) hgi24 dX8_begin_78 ?_
            obtain ⟨hgi25, h⟩ := hg_some h
            refine gs20 X hP hS kc_130 (sk_in hN kc_130 (by decide)) (L := 151) (by decide) hgi25 dX8_begin_79 (fun H locs hP hS => ?_)
            obtain ⟨I26, eI26, h⟩ := hlet_ex h
            rw [← eI26] at hP
            refine lv_aload_n hx hb dX8_begin_80 rfl (lv_at hl 1 rfl) ?_
            refine gg8_0 X hP kc_129 (sk_in hN kc_129 (by decide)) hi8 (List.mem_of_getElem? (i := 1) rfl) dX8_begin_81 ?_
            refine lv_iload_n hx hb dX8_begin_84 rfl (lv_at hl 0 rfl) ?_
            refine lv_iconst (v := 4) hx hb dX8_begin_85 (by decide) ?_
            refine lv_iadd hx hb dX8_begin_86 ?_
            refine lv_iconst (v := 0) hx hb dX8_begin_87 (by decide) ?_
            obtain ⟨hgi27, h⟩ := hg_some h
            refine gs20 X hP hS kc_130 (sk_in hN kc_130 (by decide)) (L := 151) (by decide) hgi27 dX8_begin_88 (fun H locs hP hS => ?_)
            obtain ⟨I28, eI28, h⟩ := hlet_ex h
            rw [← eI28] at hP
            refine lv_aload_n hx hb dX8_begin_89 rfl (lv_at hl 1 rfl) ?_
            refine gg8_0 X hP kc_129 (sk_in hN kc_129 (by decide)) hi8 (List.mem_of_getElem? (i := 1) rfl) dX8_begin_90 ?_
            refine lv_iload_n hx hb dX8_begin_93 rfl (lv_at hl 0 rfl) ?_
            refine lv_bipush (v := 6) hx hb dX8_begin_94 (by decide) ?_
            refine lv_iadd hx hb dX8_begin_96 ?_
            refine lv_iconst (v := 1) hx hb dX8_begin_97 (by decide) ?_
            obtain ⟨hgi29, h⟩ := hg_some h
            refine gs20 X hP hS kc_130 (sk_in hN kc_130 (by decide)) (L := 151) (by decide) hgi29 dX8_begin_98 (fun H locs hP hS => ?_)
            obtain ⟨I30, eI30, h⟩ := hlet_ex h
            rw [← eI30] at hP
            refine lv_aload_n hx hb dX8_begin_99 rfl (lv_at hl 1 rfl) ?_
            refine gg8_0 X hP kc_129 (sk_in hN kc_129 (by decide)) hi8 (List.mem_of_getElem? (i := 1) rfl) dX8_begin_100 ?_
            refine lv_iload_n hx hb dX8_begin_103 rfl (lv_at hl 0 rfl) ?_
            refine lv_bipush (v := 7) hx hb dX8_begin_104 (by decide) ?_
            refine lv_iadd hx hb dX8_begin_106 ?_
            refine lv_iconst (v := 0) hx hb dX8_begin_107 (by decide) ?_
            obtain ⟨hgi31, h⟩ := hg_some h
            refine gs20 X hP hS kc_130 (sk_in hN kc_130 (by decide)) (L := 151) (by decide) hgi31 dX8_begin_108 (fun H locs hP hS => ?_)
            obtain ⟨I32, eI32, h⟩ := hlet_ex h
            rw [← eI32] at hP
            refine lv_aload_n hx hb dX8_begin_109 rfl (lv_at hl 1 rfl) ?_
            refine gg8_0 X hP kc_129 (sk_in hN kc_129 (by decide)) hi8 (List.mem_of_getElem? (i := 1) rfl) dX8_begin_110 ?_
            refine lv_iload_n hx hb dX8_begin_113 rfl (lv_at hl 0 rfl) ?_
            refine lv_bipush (v := 8) hx hb dX8_begin_114 (by decide) ?_
            refine lv_iadd hx hb dX8_begin_116 ?_
            refine lv_iconst (v := 0) hx hb dX8_begin_117 (by decide) ?_
            obtain ⟨hgi33, h⟩ := hg_some h
            refine gs20 X hP hS kc_130 (sk_in hN kc_130 (by decide)) (L := 151) (by decide) hgi33 dX8_begin_118 (fun H locs hP hS => ?_)
            obtain ⟨I34, eI34, h⟩ := hlet_ex h
            rw [← eI34] at hP
            refine lv_aload_n hx hb dX8_begin_119 rfl (lv_at hl 1 rfl) ?_
            refine gg8_0 X hP kc_129 (sk_in hN kc_129 (by decide)) hi8 (List.mem_of_getElem? (i := 1) rfl) dX8_begin_120 ?_
            refine lv_iload_n hx hb dX8_begin_123 rfl (lv_at hl 0 rfl) ?_
            refine lv_bipush (v := 9) hx hb dX8_begin_124 (by decide) ?_
            refine lv_iadd hx hb dX8_begin_126 ?_
            refine lv_iconst (v := 0) hx hb dX8_begin_127 (by decide) ?_
            obtain ⟨hgi35, h⟩ := hg_some h
            refine gs20 X hP hS kc_130 (sk_in hN kc_130 (by decide)) (L := 151) (by decide) hgi35 dX8_begin_128 (fun H locs hP hS => ?_)
            obtain ⟨I36, eI36, h⟩ := hlet_ex h
            rw [← eI36] at hP
            refine lv_aload_n hx hb dX8_begin_129 rfl (lv_at hl 1 rfl) ?_
            refine gg8_0 X hP kc_129 (sk_in hN kc_129 (by decide)) hi8 (List.mem_of_getElem? (i := 1) rfl) dX8_begin_130 ?_
            refine lv_iload_n hx hb dX8_begin_133 rfl (lv_at hl 0 rfl) ?_
            refine lv_bipush (v := 11) hx hb dX8_begin_134 (by decide) ?_
            refine lv_iadd hx hb dX8_begin_136 ?_
            refine lv_iconst (v := 0) hx hb dX8_begin_137 (by decide) ?_
            obtain ⟨hgi37, h⟩ := hg_some h
            refine gs20 X hP hS kc_130 (sk_in hN kc_130 (by decide)) (L := 151) (by decide) hgi37 dX8_begin_138 (fun H locs hP hS => ?_)
            obtain ⟨I38, eI38, h⟩ := hlet_ex h
            rw [← eI38] at hP
            refine lv_aload_n hx hb dX8_begin_139 rfl (lv_at hl 1 rfl) ?_
            refine gg8_0 X hP kc_129 (sk_in hN kc_129 (by decide)) hi8 (List.mem_of_getElem? (i := 1) rfl) dX8_begin_140 ?_
            refine lv_iload_n hx hb dX8_begin_143 rfl (lv_at hl 0 rfl) ?_
            refine lv_bipush (v := 12) hx hb dX8_begin_144 (by decide) ?_
            refine lv_iadd hx hb dX8_begin_146 ?_
            refine lv_iconst (v := 0) hx hb dX8_begin_147 (by decide) ?_
            obtain ⟨hgi39, h⟩ := hg_some h
            refine gs20 X hP hS kc_130 (sk_in hN kc_130 (by decide)) (L := 151) (by decide) hgi39 dX8_begin_148 (fun H locs hP hS => ?_)
            obtain ⟨I40, eI40, h⟩ := hlet_ex h
            rw [← eI40] at hP
            obtain ⟨x41, ex41, h⟩ := hlet_ex h
            refine lv_iinc (v := x41) (lv' := [(1, .int x41), (2, .int ((16 : Int32) * p7)), (0, .ref (b 129))]) hx hb dX8_begin_149 hl (k := 2) rfl (by rw [ex41]; rfl) (by decide) rfl (fun ls hl => ?_)
            refine lv_goto (tgt := 31) hx hb dX8_begin_152 (by decide) ?_
            exact ih _ _ _ _ _ h hP hS (lv_sub hl [2, 0] rfl)
      exact hL31 FU _ _ _ _ _ hv hP hS (lv_sub hl [1, 0] rfl)
    · have h := gif_f c43 h
      refine lv_iconst (v := 0) hx hb dX8_begin_23 (by decide) ?_
      exact W.iret hx hb hr (fun t9 ht hW => ⟨⟨(0 : Int32), I2, rfl, (Option.some.inj h).symm, gEnd ht hP⟩, hS.F ht⟩) hS.2.2 dX8_begin_24 hlk
  have h := hv
  refine lv_if_ne (tgt := 16) hx hb dX8_begin_9 (by decide) (fun c44 => ?_) (fun c44 => ?_)
  · have h := gif_f c44 h
    refine lv_iconst (v := 0) hx hb dX8_begin_16 (by decide) ?_
    cases h
    exact K17 _ _ _ hP hS (lv_sub hl [0] rfl)
  · have h := gif_t c44 h
    refine lv_iconst (v := 1) hx hb dX8_begin_12 (by decide) ?_
    refine lv_goto (tgt := 17) hx hb dX8_begin_13 (by decide) ?_
    cases h
    exact K17 _ _ _ hP hS (lv_sub hl [0] rfl)
def f_X8_pass (a1 : Int32) (I : Nat → Nat → Int32) : Option (Int32 × (Nat → Nat → Int32)) :=
  (f_X8_in a1 (1 : Int32) (200 : Int32)).bind fun r1 =>
  (show Option (Int32) from
    if r1 = 0 then
      some (1 : Int32)
    else
      if (I 130 ((150 : Int32).toNatClampNeg)) = (1 : Int32) then
        some (0 : Int32)
      else
        some (2 : Int32)).bind fun p3 =>
  (f_X8_refused p3 I).bind fun (r5, I4) =>
  if r5 = 0 then
    (f_X8_records I4).bind fun I7 =>
    (f_X8_passes a1 I7).bind fun (r10, I9) =>
    some (r10, I9)
  else
    some ((0 : Int32), I4)
set_option maxHeartbeats 8000000 in
set_option maxRecDepth 100000 in
theorem c_X8_pass {l : Launch} {dC : Nat → ClassId} {dI : Nat → Nat → Nat} {ca : Nat → ClassId} {b : Nat → Nat} {A : Nat → Prop} {N : Nat} (hN : 138 ≤ N) (hA : gAd A b N) (I : Nat → Nat → Int32) (O : Nat → Nat → Option Nat) (J : Nat → Nat → Int64) (a1 : Int32) (res : Int32 × (Nat → Nat → Int32)) (h : f_X8_pass a1 I = some res) : Met l yX8_pass wsX8_pass ({ frames := 7, cells := 0, slots := 0, locals := 173 } : Room) (va_Pc [.ref (b 129), .int a1] (gPre dC dI ca b A N I O J)) (va_Qi (fun (r : Int32) (u : Nat → Nat → Int32) => res = (r, u)) (fun (u : Nat → Nat → Int32) t => va_P (dC, dI) vwCl (hW N ca b u O J) t.heap) A) 0 0 A := by
  refine Met.ofW (cc := cX8_pass) (maxL := 2) (ret := (some .int)) (by decide) rfl ?_
  intro p e s m args below meth c s₁ B hml hv
  obtain ⟨rfl, hP, hK, hA2, hth⟩ := hv
  have hx := B.exec
  have hb := B.bytes
  have hr := B.returns
  have hlk := B.notSynchronized
  have X : gCx p s m ([.ref (b 129), .int a1] : List Value).toArray c RX8 cX8_pass wsX8_pass 2 dC dI ca b A N := ⟨hx, hb, hml, findClass_of_methodNamed B.named, atoms_spec (ws := wsX8_pass) B.pre, hK, hA, hA2, hth⟩
  have hi8 : ∀ w ∈ wsX80, w ∈ wsX8_pass := (fun w h => List.mem_cons_of_mem _ (List.mem_append_right _ h))
  have hS : va_S A s.heap s.heap [] := va_S.rf
  have hl := lv_entry ([.ref (b 129), .int a1] : List Value) (n := 2) (Nat.le_of_ble_eq_true rfl)
  rw [lg_entry_eq]
  generalize (lg_sl ([.ref (b 129), .int a1] : List Value) ++ List.replicate (2 - (lg_sl ([.ref (b 129), .int a1] : List Value)).length) Slot.unset).toArray = ls at hl ⊢
  have hl : lv_has ls 2 [(0, .ref (b 129)), (1, .int a1)] := hl
  unfold f_X8_pass at h
  refine lv_aload_n hx hb dX8_pass_0 rfl (lv_at hl 0 rfl) ?_
  refine lv_iload_n hx hb dX8_pass_1 rfl (lv_at hl 1 rfl) ?_
  refine lv_iconst (v := 1) hx hb dX8_pass_2 (by decide) ?_
  refine lv_sipush (v := 200) hx hb dX8_pass_3 (by decide) ?_
  obtain ⟨q2, hcq2, h⟩ := hb_some h
  refine gdS_i (As := [.int a1, .int (1 : Int32), .int (200 : Int32)]) (rest := [.ref (b 129)]) (BH := (fun (u : Unit) H => va_P (dC, dI) vwCl (hW N ca b I O J) H)) X hP hS (c_X8_in hN hA I O J a1 (1 : Int32) (200 : Int32) q2 hcq2) (va_cwS 3 X.ts gX8_pass_X8_in rfl rfl rfl (by decide +kernel) ⟨Nat.le_of_ble_eq_true rfl, Nat.le_of_ble_eq_true rfl⟩) rfl hl.1 rfl (Nat.le_of_ble_eq_true rfl) dX8_pass_6 ⟨Nat.le_of_ble_eq_true rfl, Nat.le_of_ble_eq_true rfl⟩ (fun r1 u9 H locs hw hP hS => ?_)
  have hw := hw.symm
  subst hw
  obtain ⟨p3, hv, h⟩ := hb_some h
  have K33 : ∀ (H : Heap) (locs : List Loc) (ls : Array Slot), va_P (dC, dI) vwCl (hW N ca b I O J) H → va_S A s.heap H locs → lv_has ls 2 [(0, .ref (b 129)), (1, .int a1)] → W p l e (headSpec wsX8_pass ({ frames := 7, cells := 0, slots := 0, locals := 173 } : Room)).room s m ([.ref (b 129), .int a1] : List Value).toArray below meth c H locs 0 0 (MQ below (va_Qi (fun (r : Int32) (u : Nat → Nat → Int32) => res = (r, u)) (fun (u : Nat → Nat → Int32) t => va_P (dC, dI) vwCl (hW N ca b u O J) t.heap) A) ([.ref (b 129), .int a1] : List Value).toArray s 0 0 A) (F0 m 33 ls [.int p3, .ref (b 129)]) := by
    intro H locs ls hP hS hl
    obtain ⟨q6, hcq6, h⟩ := hb_some h
    refine gdV_i (As := [.int p3]) (rest := []) (BH := (fun (u : Nat → Nat → Int32) H => va_P (dC, dI) vwCl (hW N ca b u O J) H)) X hP hS (c_X8_refused hN hA I O J p3 q6 hcq6) (cwV 1 X.ts gX8_pass_X8_refused rfl rfl rfl (by decide +kernel) ⟨Nat.le_of_ble_eq_true rfl, Nat.le_of_ble_eq_true rfl⟩) (gr8 X hP kc_129 (sk_in hN kc_129 (by decide))) rfl hl.1 rfl (Nat.le_of_ble_eq_true rfl) dX8_pass_33 ⟨Nat.le_of_ble_eq_true rfl, Nat.le_of_ble_eq_true rfl⟩ (fun r5 I4 H locs hw hP hS => ?_)
    subst hw
    refine lv_if_eq (tgt := 41) hx hb dX8_pass_36 (by decide) (fun c12 => ?_) (fun c12 => ?_)
    · have h := gif_t c12 h
      refine lv_aload_n hx hb dX8_pass_41 rfl (lv_at hl 0 rfl) ?_
      obtain ⟨q8, hcq8, h⟩ := hb_some h
      refine gdV_v (As := []) (rest := []) (BH := (fun (u : Nat → Nat → Int32) H => va_P (dC, dI) vwCl (hW N ca b u O J) H)) X hP hS (c_X8_records hN hA I4 O J q8 hcq8) (cwV 0 X.ts gX8_pass_X8_records rfl rfl rfl (by decide +kernel) ⟨Nat.le_of_ble_eq_true rfl, Nat.le_of_ble_eq_true rfl⟩) (gr8 X hP kc_129 (sk_in hN kc_129 (by decide))) rfl hl.1 rfl (Nat.le_of_ble_eq_true rfl) dX8_pass_42 ⟨Nat.le_of_ble_eq_true rfl, Nat.le_of_ble_eq_true rfl⟩ (fun I7 H locs hw hP hS => ?_)
      have hw := hw.symm
      subst hw
      refine lv_aload_n hx hb dX8_pass_45 rfl (lv_at hl 0 rfl) ?_
      refine lv_iload_n hx hb dX8_pass_46 rfl (lv_at hl 1 rfl) ?_
      obtain ⟨q11, hcq11, h⟩ := hb_some h
      refine gdV_i (As := [.int a1]) (rest := []) (BH := (fun (u : Nat → Nat → Int32) H => va_P (dC, dI) vwCl (hW N ca b u O J) H)) X hP hS (c_X8_passes hN hA I7 O J a1 q11 hcq11) (cwV 1 X.ts gX8_pass_X8_passes rfl rfl rfl (by decide +kernel) ⟨Nat.le_of_ble_eq_true rfl, Nat.le_of_ble_eq_true rfl⟩) (gr8 X hP kc_129 (sk_in hN kc_129 (by decide))) rfl hl.1 rfl (Nat.le_of_ble_eq_true rfl) dX8_pass_47 ⟨Nat.le_of_ble_eq_true rfl, Nat.le_of_ble_eq_true rfl⟩ (fun r10 I9 H locs hw hP hS => ?_)
      subst hw
      exact W.iret hx hb hr (fun t9 ht hW => ⟨⟨r10, I9, rfl, (Option.some.inj h).symm, gEnd ht hP⟩, hS.F ht⟩) hS.2.2 dX8_pass_50 hlk
    · have h := gif_f c12 h
      refine lv_iconst (v := 0) hx hb dX8_pass_39 (by decide) ?_
      exact W.iret hx hb hr (fun t9 ht hW => ⟨⟨(0 : Int32), I4, rfl, (Option.some.inj h).symm, gEnd ht hP⟩, hS.F ht⟩) hS.2.2 dX8_pass_40 hlk
  have h := hv
  refine lv_if_ne (tgt := 16) hx hb dX8_pass_9 (by decide) (fun c14 => ?_) (fun c14 => ?_)
  · have h := gif_f c14 h
    refine lv_aload_n hx hb dX8_pass_16 rfl (lv_at hl 0 rfl) ?_
    refine gg8_0 X hP kc_129 (sk_in hN kc_129 (by decide)) hi8 (List.mem_of_getElem? (i := 1) rfl) dX8_pass_17 ?_
    refine lv_sipush (v := 150) hx hb dX8_pass_20 (by decide) ?_
    refine ga20 X hP kc_130 (sk_in hN kc_130 (by decide)) (L := 151) (by decide) (by decide) dX8_pass_23 ?_
    refine lv_iconst (v := 1) hx hb dX8_pass_24 (by decide) ?_
    refine lv_icmp_ne (tgt := 32) hx hb dX8_pass_25 (by decide) (fun c13 => ?_) (fun c13 => ?_)
    · have h := gif_f c13 h
      refine lv_iconst (v := 2) hx hb dX8_pass_32 (by decide) ?_
      cases h
      exact K33 _ _ _ hP hS (lv_sub hl [0, 1] rfl)
    · have h := gif_t c13 h
      refine lv_iconst (v := 0) hx hb dX8_pass_28 (by decide) ?_
      refine lv_goto (tgt := 33) hx hb dX8_pass_29 (by decide) ?_
      cases h
      exact K33 _ _ _ hP hS (lv_sub hl [0, 1] rfl)
  · have h := gif_t c14 h
    refine lv_iconst (v := 1) hx hb dX8_pass_12 (by decide) ?_
    refine lv_goto (tgt := 33) hx hb dX8_pass_13 (by decide) ?_
    cases h
    exact K33 _ _ _ hP hS (lv_sub hl [0, 1] rfl)
def f_X8_append (a1 : Int32) (I : Nat → Nat → Int32) : Option (Int32 × (Nat → Nat → Int32)) :=
  (f_X8_in a1 (33 : Int32) (126 : Int32)).bind fun r1 =>
  (show Option (Int32) from
    if r1 = 0 then
      some (1 : Int32)
    else
      if (I 129 7) = (60 : Int32) then
        some (2 : Int32)
      else
        some (0 : Int32)).bind fun p3 =>
  (f_X8_refused p3 I).bind fun (r5, I4) =>
  if r5 = 0 then
    hg (gin (I4 129 7) 60) <|
    hlet (gup I4 135 ((I4 129 7).toNatClampNeg) a1) fun I8 =>
    hlet (gup I8 129 7 ((I8 129 7) + (1 : Int32))) fun I9 =>
    some ((I9 129 7), I9)
  else
    some ((0 : Int32), I4)
set_option maxHeartbeats 8000000 in
set_option maxRecDepth 100000 in
theorem c_X8_append {l : Launch} {dC : Nat → ClassId} {dI : Nat → Nat → Nat} {ca : Nat → ClassId} {b : Nat → Nat} {A : Nat → Prop} {N : Nat} (hN : 138 ≤ N) (hA : gAd A b N) (I : Nat → Nat → Int32) (O : Nat → Nat → Option Nat) (J : Nat → Nat → Int64) (a1 : Int32) (res : Int32 × (Nat → Nat → Int32)) (h : f_X8_append a1 I = some res) : Met l yX8_append wsX8_append ({ frames := 1, cells := 0, slots := 0, locals := 22 } : Room) (va_Pc [.ref (b 129), .int a1] (gPre dC dI ca b A N I O J)) (va_Qi (fun (r : Int32) (u : Nat → Nat → Int32) => res = (r, u)) (fun (u : Nat → Nat → Int32) t => va_P (dC, dI) vwCl (hW N ca b u O J) t.heap) A) 0 0 A := by
  refine Met.ofW (cc := cX8_append) (maxL := 2) (ret := (some .int)) (by decide) rfl ?_
  intro p e s m args below meth c s₁ B hml hv
  obtain ⟨rfl, hP, hK, hA2, hth⟩ := hv
  have hx := B.exec
  have hb := B.bytes
  have hr := B.returns
  have hlk := B.notSynchronized
  have X : gCx p s m ([.ref (b 129), .int a1] : List Value).toArray c RX8 cX8_append wsX8_append 2 dC dI ca b A N := ⟨hx, hb, hml, findClass_of_methodNamed B.named, atoms_spec (ws := wsX8_append) B.pre, hK, hA, hA2, hth⟩
  have hi8 : ∀ w ∈ wsX80, w ∈ wsX8_append := (fun w h => List.mem_cons_of_mem _ (List.mem_append_right _ h))
  have hS : va_S A s.heap s.heap [] := va_S.rf
  have hl := lv_entry ([.ref (b 129), .int a1] : List Value) (n := 2) (Nat.le_of_ble_eq_true rfl)
  rw [lg_entry_eq]
  generalize (lg_sl ([.ref (b 129), .int a1] : List Value) ++ List.replicate (2 - (lg_sl ([.ref (b 129), .int a1] : List Value)).length) Slot.unset).toArray = ls at hl ⊢
  have hl : lv_has ls 2 [(0, .ref (b 129)), (1, .int a1)] := hl
  unfold f_X8_append at h
  refine lv_aload_n hx hb dX8_append_0 rfl (lv_at hl 0 rfl) ?_
  refine lv_iload_n hx hb dX8_append_1 rfl (lv_at hl 1 rfl) ?_
  refine lv_bipush (v := 33) hx hb dX8_append_2 (by decide) ?_
  refine lv_bipush (v := 126) hx hb dX8_append_4 (by decide) ?_
  obtain ⟨q2, hcq2, h⟩ := hb_some h
  refine gdS_i (As := [.int a1, .int (33 : Int32), .int (126 : Int32)]) (rest := [.ref (b 129)]) (BH := (fun (u : Unit) H => va_P (dC, dI) vwCl (hW N ca b I O J) H)) X hP hS (c_X8_in hN hA I O J a1 (33 : Int32) (126 : Int32) q2 hcq2) (va_cwS 3 X.ts gX8_append_X8_in rfl rfl rfl (by decide +kernel) ⟨Nat.le_of_ble_eq_true rfl, Nat.le_of_ble_eq_true rfl⟩) rfl hl.1 rfl (Nat.le_of_ble_eq_true rfl) dX8_append_6 ⟨Nat.le_of_ble_eq_true rfl, Nat.le_of_ble_eq_true rfl⟩ (fun r1 u9 H locs hw hP hS => ?_)
  have hw := hw.symm
  subst hw
  obtain ⟨p3, hv, h⟩ := hb_some h
  have K30 : ∀ (H : Heap) (locs : List Loc) (ls : Array Slot), va_P (dC, dI) vwCl (hW N ca b I O J) H → va_S A s.heap H locs → lv_has ls 2 [(0, .ref (b 129)), (1, .int a1)] → W p l e (headSpec wsX8_append ({ frames := 1, cells := 0, slots := 0, locals := 22 } : Room)).room s m ([.ref (b 129), .int a1] : List Value).toArray below meth c H locs 0 0 (MQ below (va_Qi (fun (r : Int32) (u : Nat → Nat → Int32) => res = (r, u)) (fun (u : Nat → Nat → Int32) t => va_P (dC, dI) vwCl (hW N ca b u O J) t.heap) A) ([.ref (b 129), .int a1] : List Value).toArray s 0 0 A) (F0 m 30 ls [.int p3, .ref (b 129)]) := by
    intro H locs ls hP hS hl
    obtain ⟨q6, hcq6, h⟩ := hb_some h
    refine gdV_i (As := [.int p3]) (rest := []) (BH := (fun (u : Nat → Nat → Int32) H => va_P (dC, dI) vwCl (hW N ca b u O J) H)) X hP hS (c_X8_refused hN hA I O J p3 q6 hcq6) (cwV 1 X.ts gX8_append_X8_refused rfl rfl rfl (by decide +kernel) ⟨Nat.le_of_ble_eq_true rfl, Nat.le_of_ble_eq_true rfl⟩) (gr8 X hP kc_129 (sk_in hN kc_129 (by decide))) rfl hl.1 rfl (Nat.le_of_ble_eq_true rfl) dX8_append_30 ⟨Nat.le_of_ble_eq_true rfl, Nat.le_of_ble_eq_true rfl⟩ (fun r5 I4 H locs hw hP hS => ?_)
    subst hw
    refine lv_if_eq (tgt := 38) hx hb dX8_append_33 (by decide) (fun c10 => ?_) (fun c10 => ?_)
    · have h := gif_t c10 h
      refine lv_aload_n hx hb dX8_append_38 rfl (lv_at hl 0 rfl) ?_
      refine gg8_6 X hP kc_129 (sk_in hN kc_129 (by decide)) hi8 (List.mem_of_getElem? (i := 2) rfl) dX8_append_39 ?_
      refine lv_aload_n hx hb dX8_append_42 rfl (lv_at hl 0 rfl) ?_
      refine gg8_7 X hP kc_129 (sk_in hN kc_129 (by decide)) hi8 (List.mem_of_getElem? (i := 1) rfl) dX8_append_43 ?_
      refine lv_iload_n hx hb dX8_append_46 rfl (lv_at hl 1 rfl) ?_
      obtain ⟨hgi7, h⟩ := hg_some h
      refine gs20 X hP hS kc_135 (sk_in hN kc_135 (by decide)) (L := 60) (by decide) hgi7 dX8_append_47 (fun H locs hP hS => ?_)
      obtain ⟨I8, eI8, h⟩ := hlet_ex h
      rw [← eI8] at hP
      refine lv_aload_n hx hb dX8_append_48 rfl (lv_at hl 0 rfl) ?_
      refine lv_dup hx hb dX8_append_49 rfl ?_
      refine gg8_7 X hP kc_129 (sk_in hN kc_129 (by decide)) hi8 (List.mem_of_getElem? (i := 1) rfl) dX8_append_50 ?_
      refine lv_iconst (v := 1) hx hb dX8_append_53 (by decide) ?_
      refine lv_iadd hx hb dX8_append_54 ?_
      refine gp8_7 X hP hS kc_129 (sk_in hN kc_129 (by decide)) hi8 (List.mem_of_getElem? (i := 1) rfl) dX8_append_55 (fun H locs hP hS => ?_)
      obtain ⟨I9, eI9, h⟩ := hlet_ex h
      rw [← eI9] at hP
      refine lv_aload_n hx hb dX8_append_58 rfl (lv_at hl 0 rfl) ?_
      refine gg8_7 X hP kc_129 (sk_in hN kc_129 (by decide)) hi8 (List.mem_of_getElem? (i := 1) rfl) dX8_append_59 ?_
      exact W.iret hx hb hr (fun t9 ht hW => ⟨⟨(I9 129 7), I9, rfl, (Option.some.inj h).symm, gEnd ht hP⟩, hS.F ht⟩) hS.2.2 dX8_append_62 hlk
    · have h := gif_f c10 h
      refine lv_iconst (v := 0) hx hb dX8_append_36 (by decide) ?_
      exact W.iret hx hb hr (fun t9 ht hW => ⟨⟨(0 : Int32), I4, rfl, (Option.some.inj h).symm, gEnd ht hP⟩, hS.F ht⟩) hS.2.2 dX8_append_37 hlk
  have h := hv
  refine lv_if_ne (tgt := 16) hx hb dX8_append_9 (by decide) (fun c12 => ?_) (fun c12 => ?_)
  · have h := gif_f c12 h
    refine lv_aload_n hx hb dX8_append_16 rfl (lv_at hl 0 rfl) ?_
    refine gg8_7 X hP kc_129 (sk_in hN kc_129 (by decide)) hi8 (List.mem_of_getElem? (i := 1) rfl) dX8_append_17 ?_
    refine lv_bipush (v := 60) hx hb dX8_append_20 (by decide) ?_
    refine lv_icmp_ne (tgt := 29) hx hb dX8_append_22 (by decide) (fun c11 => ?_) (fun c11 => ?_)
    · have h := gif_f c11 h
      refine lv_iconst (v := 0) hx hb dX8_append_29 (by decide) ?_
      cases h
      exact K30 _ _ _ hP hS (lv_sub hl [0, 1] rfl)
    · have h := gif_t c11 h
      refine lv_iconst (v := 2) hx hb dX8_append_25 (by decide) ?_
      refine lv_goto (tgt := 30) hx hb dX8_append_26 (by decide) ?_
      cases h
      exact K30 _ _ _ hP hS (lv_sub hl [0, 1] rfl)
  · have h := gif_t c12 h
    refine lv_iconst (v := 1) hx hb dX8_append_12 (by decide) ?_
    refine lv_goto (tgt := 30) hx hb dX8_append_13 (by decide) ?_
    cases h
    exact K30 _ _ _ hP hS (lv_sub hl [0, 1] rfl)
def f_X8_clearBuffer (I : Nat → Nat → Int32) : Option (Int32 × (Nat → Nat → Int32)) :=
  hlet (gup I 129 8 (0 : Int32)) fun I1 =>
  hlet (gup I1 129 7 (0 : Int32)) fun I2 =>
  some ((I1 129 7), I2)
set_option maxHeartbeats 8000000 in
set_option maxRecDepth 100000 in
theorem c_X8_clearBuffer {l : Launch} {dC : Nat → ClassId} {dI : Nat → Nat → Nat} {ca : Nat → ClassId} {b : Nat → Nat} {A : Nat → Prop} {N : Nat} (hN : 138 ≤ N) (hA : gAd A b N) (I : Nat → Nat → Int32) (O : Nat → Nat → Option Nat) (J : Nat → Nat → Int64) (res : Int32 × (Nat → Nat → Int32)) (h : f_X8_clearBuffer I = some res) : Met l yX8_clearBuffer wsX8_clearBuffer ({ frames := 0, cells := 0, slots := 0, locals := 0 } : Room) (va_Pc [.ref (b 129)] (gPre dC dI ca b A N I O J)) (va_Qi (fun (r : Int32) (u : Nat → Nat → Int32) => res = (r, u)) (fun (u : Nat → Nat → Int32) t => va_P (dC, dI) vwCl (hW N ca b u O J) t.heap) A) 0 0 A := by
  refine Met.ofW (cc := cX8_clearBuffer) (maxL := 2) (ret := (some .int)) (by decide) rfl ?_
  intro p e s m args below meth c s₁ B hml hv
  obtain ⟨rfl, hP, hK, hA2, hth⟩ := hv
  have hx := B.exec
  have hb := B.bytes
  have hr := B.returns
  have hlk := B.notSynchronized
  have X : gCx p s m ([.ref (b 129)] : List Value).toArray c RX8 cX8_clearBuffer wsX8_clearBuffer 2 dC dI ca b A N := ⟨hx, hb, hml, findClass_of_methodNamed B.named, atoms_spec (ws := wsX8_clearBuffer) B.pre, hK, hA, hA2, hth⟩
  have hi8 : ∀ w ∈ wsX80, w ∈ wsX8_clearBuffer := (fun w h => List.mem_cons_of_mem _ (List.mem_append_right _ h))
  have hS : va_S A s.heap s.heap [] := va_S.rf
  have hl := lv_entry ([.ref (b 129)] : List Value) (n := 2) (Nat.le_of_ble_eq_true rfl)
  rw [lg_entry_eq]
  generalize (lg_sl ([.ref (b 129)] : List Value) ++ List.replicate (2 - (lg_sl ([.ref (b 129)] : List Value)).length) Slot.unset).toArray = ls at hl ⊢
  have hl : lv_has ls 2 [(0, .ref (b 129))] := hl
  unfold f_X8_clearBuffer at h
  refine lv_aload_n hx hb dX8_clearBuffer_0 rfl (lv_at hl 0 rfl) ?_
  refine lv_iconst (v := 0) hx hb dX8_clearBuffer_1 (by decide) ?_
  refine gp8_8 X hP hS kc_129 (sk_in hN kc_129 (by decide)) hi8 (List.mem_of_getElem? (i := 1) rfl) dX8_clearBuffer_2 (fun H locs hP hS => ?_)
  obtain ⟨I1, eI1, h⟩ := hlet_ex h
  rw [← eI1] at hP
  refine lv_aload_n hx hb dX8_clearBuffer_5 rfl (lv_at hl 0 rfl) ?_
  refine gg8_7 X hP kc_129 (sk_in hN kc_129 (by decide)) hi8 (List.mem_of_getElem? (i := 2) rfl) dX8_clearBuffer_6 ?_
  refine lv_istore_n (lv' := [(1, .int (I1 129 7)), (0, .ref (b 129))]) hx hb dX8_clearBuffer_9 rfl hl (by decide) rfl (fun ls hl => ?_)
  refine lv_aload_n hx hb dX8_clearBuffer_10 rfl (lv_at hl 1 rfl) ?_
  refine lv_iconst (v := 0) hx hb dX8_clearBuffer_11 (by decide) ?_
  refine gp8_7 X hP hS kc_129 (sk_in hN kc_129 (by decide)) hi8 (List.mem_of_getElem? (i := 2) rfl) dX8_clearBuffer_12 (fun H locs hP hS => ?_)
  obtain ⟨I2, eI2, h⟩ := hlet_ex h
  rw [← eI2] at hP
  refine lv_iload_n hx hb dX8_clearBuffer_15 rfl (lv_at hl 0 rfl) ?_
  exact W.iret hx hb hr (fun t9 ht hW => ⟨⟨(I1 129 7), I2, rfl, (Option.some.inj h).symm, gEnd ht hP⟩, hS.F ht⟩) hS.2.2 dX8_clearBuffer_16 hlk
def f_X8_next (I : Nat → Nat → Int32) : Option (Int32) :=
  if (I 129 7) ≤ (I 129 10) then
    some (0 : Int32)
  else
    hg (gin (I 129 10) 60) <|
    some (I 135 ((I 129 10).toNatClampNeg))
set_option maxHeartbeats 8000000 in
set_option maxRecDepth 100000 in
theorem c_X8_next {l : Launch} {dC : Nat → ClassId} {dI : Nat → Nat → Nat} {ca : Nat → ClassId} {b : Nat → Nat} {A : Nat → Prop} {N : Nat} (hN : 138 ≤ N) (hA : gAd A b N) (I : Nat → Nat → Int32) (O : Nat → Nat → Option Nat) (J : Nat → Nat → Int64) (res : Int32) (h : f_X8_next I = some res) : Met l yX8_next wsX8_next ({ frames := 0, cells := 0, slots := 0, locals := 0 } : Room) (va_Pc [.ref (b 129)] (gPre dC dI ca b A N I O J)) (va_Qi (fun (r : Int32) (u : Unit) => res = r) (fun (u : Unit) t => va_P (dC, dI) vwCl (hW N ca b I O J) t.heap) A) 0 0 A := by
  refine Met.ofW (cc := cX8_next) (maxL := 1) (ret := (some .int)) (by decide) rfl ?_
  intro p e s m args below meth c s₁ B hml hv
  obtain ⟨rfl, hP, hK, hA2, hth⟩ := hv
  have hx := B.exec
  have hb := B.bytes
  have hr := B.returns
  have hlk := B.notSynchronized
  have X : gCx p s m ([.ref (b 129)] : List Value).toArray c RX8 cX8_next wsX8_next 1 dC dI ca b A N := ⟨hx, hb, hml, findClass_of_methodNamed B.named, atoms_spec (ws := wsX8_next) B.pre, hK, hA, hA2, hth⟩
  have hi8 : ∀ w ∈ wsX80, w ∈ wsX8_next := (fun w h => List.mem_cons_of_mem _ (List.mem_append_right _ h))
  have hS : va_S A s.heap s.heap [] := va_S.rf
  have hl := lv_entry ([.ref (b 129)] : List Value) (n := 1) (Nat.le_of_ble_eq_true rfl)
  rw [lg_entry_eq]
  generalize (lg_sl ([.ref (b 129)] : List Value) ++ List.replicate (1 - (lg_sl ([.ref (b 129)] : List Value)).length) Slot.unset).toArray = ls at hl ⊢
  have hl : lv_has ls 1 [(0, .ref (b 129))] := hl
  unfold f_X8_next at h
  refine lv_aload_n hx hb dX8_next_0 rfl (lv_at hl 0 rfl) ?_
  refine gg8_10 X hP kc_129 (sk_in hN kc_129 (by decide)) hi8 (List.mem_of_getElem? (i := 1) rfl) dX8_next_1 ?_
  refine lv_aload_n hx hb dX8_next_4 rfl (lv_at hl 0 rfl) ?_
  refine gg8_7 X hP kc_129 (sk_in hN kc_129 (by decide)) hi8 (List.mem_of_getElem? (i := 2) rfl) dX8_next_5 ?_
  refine lv_icmp_ge (tgt := 23) hx hb dX8_next_8 (by decide) (fun c2 => ?_) (fun c2 => ?_)
  · have h := gif_t c2 h
    refine lv_iconst (v := 0) hx hb dX8_next_23 (by decide) ?_
    exact W.iret hx hb hr (fun t9 ht hW => ⟨⟨(0 : Int32), (), rfl, (Option.some.inj h).symm, gEnd ht hP⟩, hS.F ht⟩) hS.2.2 dX8_next_24 hlk
  · have h := gif_f c2 h
    refine lv_aload_n hx hb dX8_next_11 rfl (lv_at hl 0 rfl) ?_
    refine gg8_6 X hP kc_129 (sk_in hN kc_129 (by decide)) hi8 (List.mem_of_getElem? (i := 3) rfl) dX8_next_12 ?_
    refine lv_aload_n hx hb dX8_next_15 rfl (lv_at hl 0 rfl) ?_
    refine gg8_10 X hP kc_129 (sk_in hN kc_129 (by decide)) hi8 (List.mem_of_getElem? (i := 1) rfl) dX8_next_16 ?_
    obtain ⟨hgi1, h⟩ := hg_some h
    refine ga20 X hP kc_135 (sk_in hN kc_135 (by decide)) (L := 60) (by decide) hgi1 dX8_next_19 ?_
    refine lv_goto (tgt := 24) hx hb dX8_next_20 (by decide) ?_
    exact W.iret hx hb hr (fun t9 ht hW => ⟨⟨(I 135 ((I 129 10).toNatClampNeg)), (), rfl, (Option.some.inj h).symm, gEnd ht hP⟩, hS.F ht⟩) hS.2.2 dX8_next_24 hlk
def f_X8_sign (a1 : Int32) (I : Nat → Nat → Int32) : Option (Nat → Nat → Int32) :=
  (show Option (Int32) from
    if (I 129 11) = 0 then
      if a1 = 0 then
        some (1 : Int32)
      else
        some (0 : Int32)
    else
      some (1 : Int32)).bind fun p1 =>
  hg (gz p1) <|
  hlet (gup I 129 11 p1) fun I2 =>
  if (I2 129 11) = 0 then
    hlet (gup I2 129 10 ((I2 129 10) + (1 : Int32))) fun I3 =>
    some I3
  else
    hlet (gup I2 129 10 ((I2 129 10) + (0 : Int32))) fun I4 =>
    some I4
set_option maxHeartbeats 8000000 in
set_option maxRecDepth 100000 in
theorem c_X8_sign {l : Launch} {dC : Nat → ClassId} {dI : Nat → Nat → Nat} {ca : Nat → ClassId} {b : Nat → Nat} {A : Nat → Prop} {N : Nat} (hN : 138 ≤ N) (hA : gAd A b N) (I : Nat → Nat → Int32) (O : Nat → Nat → Option Nat) (J : Nat → Nat → Int64) (a1 : Int32) (res : Nat → Nat → Int32) (h : f_X8_sign a1 I = some res) : Met l yX8_sign wsX8_sign ({ frames := 0, cells := 0, slots := 0, locals := 0 } : Room) (va_Pc [.ref (b 129), .int a1] (gPre dC dI ca b A N I O J)) (va_Qv (fun (u : Nat → Nat → Int32) => res = u) (fun (u : Nat → Nat → Int32) t => va_P (dC, dI) vwCl (hW N ca b u O J) t.heap) A) 0 0 A := by
  refine Met.ofW (cc := cX8_sign) (maxL := 2) (ret := none) (by decide) rfl ?_
  intro p e s m args below meth c s₁ B hml hv
  obtain ⟨rfl, hP, hK, hA2, hth⟩ := hv
  have hx := B.exec
  have hb := B.bytes
  have hr := B.returns
  have hlk := B.notSynchronized
  have X : gCx p s m ([.ref (b 129), .int a1] : List Value).toArray c RX8 cX8_sign wsX8_sign 2 dC dI ca b A N := ⟨hx, hb, hml, findClass_of_methodNamed B.named, atoms_spec (ws := wsX8_sign) B.pre, hK, hA, hA2, hth⟩
  have hi8 : ∀ w ∈ wsX80, w ∈ wsX8_sign := (fun w h => List.mem_cons_of_mem _ (List.mem_append_right _ h))
  have hS : va_S A s.heap s.heap [] := va_S.rf
  have hl := lv_entry ([.ref (b 129), .int a1] : List Value) (n := 2) (Nat.le_of_ble_eq_true rfl)
  rw [lg_entry_eq]
  generalize (lg_sl ([.ref (b 129), .int a1] : List Value) ++ List.replicate (2 - (lg_sl ([.ref (b 129), .int a1] : List Value)).length) Slot.unset).toArray = ls at hl ⊢
  have hl : lv_has ls 2 [(0, .ref (b 129)), (1, .int a1)] := hl
  unfold f_X8_sign at h
  refine lv_aload_n hx hb dX8_sign_0 rfl (lv_at hl 0 rfl) ?_
  refine lv_aload_n hx hb dX8_sign_1 rfl (lv_at hl 0 rfl) ?_
  refine gg8_11 X hP kc_129 (sk_in hN kc_129 (by decide)) hi8 (List.mem_of_getElem? (i := 1) rfl) dX8_sign_2 ?_
  obtain ⟨p1, hv, h⟩ := hb_some h
  have K17 : ∀ (H : Heap) (locs : List Loc) (ls : Array Slot), va_P (dC, dI) vwCl (hW N ca b I O J) H → va_S A s.heap H locs → lv_has ls 2 [(0, .ref (b 129))] → W p l e (headSpec wsX8_sign ({ frames := 0, cells := 0, slots := 0, locals := 0 } : Room)).room s m ([.ref (b 129), .int a1] : List Value).toArray below meth c H locs 0 0 (MQ below (va_Qv (fun (u : Nat → Nat → Int32) => res = u) (fun (u : Nat → Nat → Int32) t => va_P (dC, dI) vwCl (hW N ca b u O J) t.heap) A) ([.ref (b 129), .int a1] : List Value).toArray s 0 0 A) (F0 m 17 ls [.int p1, .ref (b 129)]) := by
    intro H locs ls hP hS hl
    obtain ⟨hgv, h⟩ := hg_some h
    refine gp8_11 X hP hS kc_129 (sk_in hN kc_129 (by decide)) hi8 (List.mem_of_getElem? (i := 1) rfl) hgv dX8_sign_17 (fun H locs hP hS => ?_)
    obtain ⟨I2, eI2, h⟩ := hlet_ex h
    rw [← eI2] at hP
    refine lv_aload_n hx hb dX8_sign_20 rfl (lv_at hl 0 rfl) ?_
    refine lv_dup hx hb dX8_sign_21 rfl ?_
    refine gg8_10 X hP kc_129 (sk_in hN kc_129 (by decide)) hi8 (List.mem_of_getElem? (i := 2) rfl) dX8_sign_22 ?_
    refine lv_aload_n hx hb dX8_sign_25 rfl (lv_at hl 0 rfl) ?_
    refine gg8_11 X hP kc_129 (sk_in hN kc_129 (by decide)) hi8 (List.mem_of_getElem? (i := 1) rfl) dX8_sign_26 ?_
    refine lv_if_eq (tgt := 36) hx hb dX8_sign_29 (by decide) (fun c5 => ?_) (fun c5 => ?_)
    · have h := gif_t c5 h
      refine lv_iconst (v := 1) hx hb dX8_sign_36 (by decide) ?_
      refine lv_iadd hx hb dX8_sign_37 ?_
      refine gp8_10 X hP hS kc_129 (sk_in hN kc_129 (by decide)) hi8 (List.mem_of_getElem? (i := 2) rfl) dX8_sign_38 (fun H locs hP hS => ?_)
      obtain ⟨I3, eI3, h⟩ := hlet_ex h
      rw [← eI3] at hP
      exact W.vret hx hb hr (fun t9 ht hW => ⟨⟨I3, rfl, (Option.some.inj h).symm, gEnd ht hP⟩, hS.F ht⟩) hS.2.2 dX8_sign_41 hlk
    · have h := gif_f c5 h
      refine lv_iconst (v := 0) hx hb dX8_sign_32 (by decide) ?_
      refine lv_goto (tgt := 37) hx hb dX8_sign_33 (by decide) ?_
      refine lv_iadd hx hb dX8_sign_37 ?_
      refine gp8_10 X hP hS kc_129 (sk_in hN kc_129 (by decide)) hi8 (List.mem_of_getElem? (i := 2) rfl) dX8_sign_38 (fun H locs hP hS => ?_)
      obtain ⟨I4, eI4, h⟩ := hlet_ex h
      rw [← eI4] at hP
      exact W.vret hx hb hr (fun t9 ht hW => ⟨⟨I4, rfl, (Option.some.inj h).symm, gEnd ht hP⟩, hS.F ht⟩) hS.2.2 dX8_sign_41 hlk
  have h := hv
  refine lv_if_ne (tgt := 12) hx hb dX8_sign_5 (by decide) (fun c7 => ?_) (fun c7 => ?_)
  · have h := gif_f c7 h
    refine lv_iconst (v := 1) hx hb dX8_sign_12 (by decide) ?_
    refine lv_goto (tgt := 17) hx hb dX8_sign_13 (by decide) ?_
    cases h
    exact K17 _ _ _ hP hS (lv_sub hl [0] rfl)
  · have h := gif_t c7 h
    refine lv_iload_n hx hb dX8_sign_8 rfl (lv_at hl 1 rfl) ?_
    refine lv_if_ne (tgt := 16) hx hb dX8_sign_9 (by decide) (fun c6 => ?_) (fun c6 => ?_)
    · have h := gif_f c6 h
      refine lv_iconst (v := 0) hx hb dX8_sign_16 (by decide) ?_
      cases h
      exact K17 _ _ _ hP hS (lv_sub hl [0] rfl)
    · have h := gif_t c6 h
      refine lv_iconst (v := 1) hx hb dX8_sign_12 (by decide) ?_
      refine lv_goto (tgt := 17) hx hb dX8_sign_13 (by decide) ?_
      cases h
      exact K17 _ _ _ hP hS (lv_sub hl [0] rfl)
def f_X8_digit (a1 : Int32) (a2 : Int32) (I : Nat → Nat → Int32) : Option (Int32 × (Nat → Nat → Int32)) :=
  (f_X8_next I).bind fun r1 =>
  (f_X8_in (r1 - (48 : Int32)) a1 a2).bind fun r3 =>
  (f_X8_sign r3 I).bind fun I5 =>
  some ((r1 - (48 : Int32)), I5)
set_option maxHeartbeats 8000000 in
set_option maxRecDepth 100000 in
theorem c_X8_digit {l : Launch} {dC : Nat → ClassId} {dI : Nat → Nat → Nat} {ca : Nat → ClassId} {b : Nat → Nat} {A : Nat → Prop} {N : Nat} (hN : 138 ≤ N) (hA : gAd A b N) (I : Nat → Nat → Int32) (O : Nat → Nat → Option Nat) (J : Nat → Nat → Int64) (a1 : Int32) (a2 : Int32) (res : Int32 × (Nat → Nat → Int32)) (h : f_X8_digit a1 a2 I = some res) : Met l yX8_digit wsX8_digit ({ frames := 1, cells := 0, slots := 0, locals := 22 } : Room) (va_Pc [.ref (b 129), .int a1, .int a2] (gPre dC dI ca b A N I O J)) (va_Qi (fun (r : Int32) (u : Nat → Nat → Int32) => res = (r, u)) (fun (u : Nat → Nat → Int32) t => va_P (dC, dI) vwCl (hW N ca b u O J) t.heap) A) 0 0 A := by
  refine Met.ofW (cc := cX8_digit) (maxL := 4) (ret := (some .int)) (by decide) rfl ?_
  intro p e s m args below meth c s₁ B hml hv
  obtain ⟨rfl, hP, hK, hA2, hth⟩ := hv
  have hx := B.exec
  have hb := B.bytes
  have hr := B.returns
  have hlk := B.notSynchronized
  have X : gCx p s m ([.ref (b 129), .int a1, .int a2] : List Value).toArray c RX8 cX8_digit wsX8_digit 4 dC dI ca b A N := ⟨hx, hb, hml, findClass_of_methodNamed B.named, atoms_spec (ws := wsX8_digit) B.pre, hK, hA, hA2, hth⟩
  have hS : va_S A s.heap s.heap [] := va_S.rf
  have hl := lv_entry ([.ref (b 129), .int a1, .int a2] : List Value) (n := 4) (Nat.le_of_ble_eq_true rfl)
  rw [lg_entry_eq]
  generalize (lg_sl ([.ref (b 129), .int a1, .int a2] : List Value) ++ List.replicate (4 - (lg_sl ([.ref (b 129), .int a1, .int a2] : List Value)).length) Slot.unset).toArray = ls at hl ⊢
  have hl : lv_has ls 4 [(0, .ref (b 129)), (1, .int a1), (2, .int a2)] := hl
  unfold f_X8_digit at h
  refine lv_aload_n hx hb dX8_digit_0 rfl (lv_at hl 0 rfl) ?_
  obtain ⟨q2, hcq2, h⟩ := hb_some h
  refine gdV_i (As := []) (rest := []) (BH := (fun (u : Unit) H => va_P (dC, dI) vwCl (hW N ca b I O J) H)) X hP hS (c_X8_next hN hA I O J q2 hcq2) (cwV 0 X.ts gX8_digit_X8_next rfl rfl rfl (by decide +kernel) ⟨Nat.le_of_ble_eq_true rfl, Nat.le_of_ble_eq_true rfl⟩) (gr8 X hP kc_129 (sk_in hN kc_129 (by decide))) rfl hl.1 rfl (Nat.le_of_ble_eq_true rfl) dX8_digit_1 ⟨Nat.le_of_ble_eq_true rfl, Nat.le_of_ble_eq_true rfl⟩ (fun r1 u9 H locs hw hP hS => ?_)
  have hw := hw.symm
  subst hw
  refine lv_bipush (v := 48) hx hb dX8_digit_4 (by decide) ?_
  refine lv_isub hx hb dX8_digit_6 ?_
  refine lv_istore_n (lv' := [(3, .int (r1 - (48 : Int32))), (0, .ref (b 129)), (1, .int a1), (2, .int a2)]) hx hb dX8_digit_7 rfl hl (by decide) rfl (fun ls hl => ?_)
  refine lv_aload_n hx hb dX8_digit_8 rfl (lv_at hl 1 rfl) ?_
  refine lv_iload_n hx hb dX8_digit_9 rfl (lv_at hl 0 rfl) ?_
  refine lv_iload_n hx hb dX8_digit_10 rfl (lv_at hl 2 rfl) ?_
  refine lv_iload_n hx hb dX8_digit_11 rfl (lv_at hl 3 rfl) ?_
  obtain ⟨q4, hcq4, h⟩ := hb_some h
  refine gdS_i (As := [.int (r1 - (48 : Int32)), .int a1, .int a2]) (rest := [.ref (b 129)]) (BH := (fun (u : Unit) H => va_P (dC, dI) vwCl (hW N ca b I O J) H)) X hP hS (c_X8_in hN hA I O J (r1 - (48 : Int32)) a1 a2 q4 hcq4) (va_cwS 3 X.ts gX8_digit_X8_in rfl rfl rfl (by decide +kernel) ⟨Nat.le_of_ble_eq_true rfl, Nat.le_of_ble_eq_true rfl⟩) rfl hl.1 rfl (Nat.le_of_ble_eq_true rfl) dX8_digit_12 ⟨Nat.le_of_ble_eq_true rfl, Nat.le_of_ble_eq_true rfl⟩ (fun r3 u9 H locs hw hP hS => ?_)
  have hw := hw.symm
  subst hw
  obtain ⟨q6, hcq6, h⟩ := hb_some h
  refine gdV_v (As := [.int r3]) (rest := []) (BH := (fun (u : Nat → Nat → Int32) H => va_P (dC, dI) vwCl (hW N ca b u O J) H)) X hP hS (c_X8_sign hN hA I O J r3 q6 hcq6) (cwV 1 X.ts gX8_digit_X8_sign rfl rfl rfl (by decide +kernel) ⟨Nat.le_of_ble_eq_true rfl, Nat.le_of_ble_eq_true rfl⟩) (gr8 X hP kc_129 (sk_in hN kc_129 (by decide))) rfl hl.1 rfl (Nat.le_of_ble_eq_true rfl) dX8_digit_15 ⟨Nat.le_of_ble_eq_true rfl, Nat.le_of_ble_eq_true rfl⟩ (fun I5 H locs hw hP hS => ?_)
  have hw := hw.symm
  subst hw
  refine lv_iload_n hx hb dX8_digit_18 rfl (lv_at hl 0 rfl) ?_
  exact W.iret hx hb hr (fun t9 ht hW => ⟨⟨(r1 - (48 : Int32)), I5, rfl, (Option.some.inj h).symm, gEnd ht hP⟩, hS.F ht⟩) hS.2.2 dX8_digit_19 hlk
def f_X8_number_L59 (a2 : Int32) (p4 : Int32) : Nat → Int32 → (Nat → Nat → Int32) → Option (Int32 × (Nat → Nat → Int32))
  | 0, _, _ => none
  | fuel + 1, p7, I8 =>
    if p4 = 0 then
      some (p7, I8)
    else
      (f_X8_next I8).bind fun r16 =>
      (f_X8_in r16 (48 : Int32) (57 : Int32)).bind fun r18 =>
      if r18 = 0 then
        some (p7, I8)
      else
        (f_X8_next I8).bind fun r20 =>
        if a2 < ((((10 : Int32) * p7) + r20) - (48 : Int32)) then
          some (p7, I8)
        else
          (f_X8_next I8).bind fun r22 =>
          hlet (gup I8 129 10 ((I8 129 10) + (1 : Int32))) fun I24 =>
          f_X8_number_L59 a2 p4 fuel ((((10 : Int32) * p7) + r22) - (48 : Int32)) I24
def f_X8_number (a1 : Int32) (a2 : Int32) (I : Nat → Nat → Int32) : Option (Int32 × (Nat → Nat → Int32)) :=
  (f_X8_digit (1 : Int32) (9 : Int32) I).bind fun (r2, I1) =>
  (show Option (Int32) from
    if (I1 129 11) = 0 then
      some (1 : Int32)
    else
      some (0 : Int32)).bind fun p4 =>
  hlet (fun (I5 : Nat → Nat → Int32) => show Option (Int32 × (Nat → Nat → Int32)) from
    (f_X8_number_L59 a2 p4 FU r2 I5).bind fun (p9, I10) =>
    if (I10 129 11) = 0 then
      if a1 ≤ p9 then
        hlet (gup I10 129 11 (0 : Int32)) fun I12 =>
        some (p9, I12)
      else
        hlet (gup I10 129 11 (1 : Int32)) fun I13 =>
        some (p9, I13)
    else
      hlet (gup I10 129 11 (1 : Int32)) fun I11 =>
      some (p9, I11)) fun j6 =>
  if (I1 129 11) = 0 then
    if a1 ≤ r2 then
      j6 I1
    else
      if ((10 : Int32) * r2) ≤ a2 then
        j6 I1
      else
        hlet (gup I1 129 11 (1 : Int32)) fun I28 =>
        hlet (gup I28 129 10 ((I28 129 10) - (1 : Int32))) fun I29 =>
        some ((0 : Int32), I29)
  else
    j6 I1
set_option maxHeartbeats 8000000 in
set_option maxRecDepth 100000 in
theorem c_X8_number {l : Launch} {dC : Nat → ClassId} {dI : Nat → Nat → Nat} {ca : Nat → ClassId} {b : Nat → Nat} {A : Nat → Prop} {N : Nat} (hN : 138 ≤ N) (hA : gAd A b N) (I : Nat → Nat → Int32) (O : Nat → Nat → Option Nat) (J : Nat → Nat → Int64) (a1 : Int32) (a2 : Int32) (res : Int32 × (Nat → Nat → Int32)) (h : f_X8_number a1 a2 I = some res) : Met l yX8_number wsX8_number ({ frames := 2, cells := 0, slots := 0, locals := 45 } : Room) (va_Pc [.ref (b 129), .int a1, .int a2] (gPre dC dI ca b A N I O J)) (va_Qi (fun (r : Int32) (u : Nat → Nat → Int32) => res = (r, u)) (fun (u : Nat → Nat → Int32) t => va_P (dC, dI) vwCl (hW N ca b u O J) t.heap) A) 0 0 A := by
  refine Met.ofW (cc := cX8_number) (maxL := 5) (ret := (some .int)) (by decide) rfl ?_
  intro p e s m args below meth c s₁ B hml hv
  obtain ⟨rfl, hP, hK, hA2, hth⟩ := hv
  have hx := B.exec
  have hb := B.bytes
  have hr := B.returns
  have hlk := B.notSynchronized
  have X : gCx p s m ([.ref (b 129), .int a1, .int a2] : List Value).toArray c RX8 cX8_number wsX8_number 5 dC dI ca b A N := ⟨hx, hb, hml, findClass_of_methodNamed B.named, atoms_spec (ws := wsX8_number) B.pre, hK, hA, hA2, hth⟩
  have hi8 : ∀ w ∈ wsX80, w ∈ wsX8_number := (fun w h => List.mem_cons_of_mem _ (List.mem_append_right _ h))
  have hS : va_S A s.heap s.heap [] := va_S.rf
  have hl := lv_entry ([.ref (b 129), .int a1, .int a2] : List Value) (n := 5) (Nat.le_of_ble_eq_true rfl)
  rw [lg_entry_eq]
  generalize (lg_sl ([.ref (b 129), .int a1, .int a2] : List Value) ++ List.replicate (5 - (lg_sl ([.ref (b 129), .int a1, .int a2] : List Value)).length) Slot.unset).toArray = ls at hl ⊢
  have hl : lv_has ls 5 [(0, .ref (b 129)), (1, .int a1), (2, .int a2)] := hl
  unfold f_X8_number at h
  refine lv_aload_n hx hb dX8_number_0 rfl (lv_at hl 0 rfl) ?_
  refine lv_iconst (v := 1) hx hb dX8_number_1 (by decide) ?_
  refine lv_bipush (v := 9) hx hb dX8_number_2 (by decide) ?_
  obtain ⟨q3, hcq3, h⟩ := hb_some h
  refine gdV_i (As := [.int (1 : Int32), .int (9 : Int32)]) (rest := []) (BH := (fun (u : Nat → Nat → Int32) H => va_P (dC, dI) vwCl (hW N ca b u O J) H)) X hP hS (c_X8_digit hN hA I O J (1 : Int32) (9 : Int32) q3 hcq3) (cwV 2 X.ts gX8_number_X8_digit rfl rfl rfl (by decide +kernel) ⟨Nat.le_of_ble_eq_true rfl, Nat.le_of_ble_eq_true rfl⟩) (gr8 X hP kc_129 (sk_in hN kc_129 (by decide))) rfl hl.1 rfl (Nat.le_of_ble_eq_true rfl) dX8_number_4 ⟨Nat.le_of_ble_eq_true rfl, Nat.le_of_ble_eq_true rfl⟩ (fun r2 I1 H locs hw hP hS => ?_)
  subst hw
  refine lv_istore_n (lv' := [(3, .int r2), (0, .ref (b 129)), (1, .int a1), (2, .int a2)]) hx hb dX8_number_7 rfl hl (by decide) rfl (fun ls hl => ?_)
  refine lv_aload_n hx hb dX8_number_8 rfl (lv_at hl 1 rfl) ?_
  refine gg8_11 X hP kc_129 (sk_in hN kc_129 (by decide)) hi8 (List.mem_of_getElem? (i := 1) rfl) dX8_number_9 ?_
  obtain ⟨p4, hv, h⟩ := hb_some h
  have K20 : ∀ (H : Heap) (locs : List Loc) (ls : Array Slot), va_P (dC, dI) vwCl (hW N ca b I1 O J) H → va_S A s.heap H locs → lv_has ls 5 [(0, .ref (b 129)), (1, .int a1), (2, .int a2), (3, .int r2)] → W p l e (headSpec wsX8_number ({ frames := 2, cells := 0, slots := 0, locals := 45 } : Room)).room s m ([.ref (b 129), .int a1, .int a2] : List Value).toArray below meth c H locs 0 0 (MQ below (va_Qi (fun (r : Int32) (u : Nat → Nat → Int32) => res = (r, u)) (fun (u : Nat → Nat → Int32) t => va_P (dC, dI) vwCl (hW N ca b u O J) t.heap) A) ([.ref (b 129), .int a1, .int a2] : List Value).toArray s 0 0 A) (F0 m 20 ls [.int p4]) := by
    intro H locs ls hP hS hl
    refine lv_istore (lv' := [(4, .int p4), (0, .ref (b 129)), (1, .int a1), (2, .int a2), (3, .int r2)]) hx hb dX8_number_20 hl (by decide) rfl (fun ls hl => ?_)
    refine lv_aload_n hx hb dX8_number_22 rfl (lv_at hl 1 rfl) ?_
    refine gg8_11 X hP kc_129 (sk_in hN kc_129 (by decide)) hi8 (List.mem_of_getElem? (i := 1) rfl) dX8_number_23 ?_
    obtain ⟨j6, ej6, h⟩ := hlet_ex h
    have K59 : ∀ (I5 : Nat → Nat → Int32) (H : Heap) (locs : List Loc) (ls : Array Slot), j6 I5 = some res → va_P (dC, dI) vwCl (hW N ca b I5 O J) H → va_S A s.heap H locs → lv_has ls 5 [(0, .ref (b 129)), (1, .int a1), (2, .int a2), (3, .int r2), (4, .int p4)] → W p l e (headSpec wsX8_number ({ frames := 2, cells := 0, slots := 0, locals := 45 } : Room)).room s m ([.ref (b 129), .int a1, .int a2] : List Value).toArray below meth c H locs 0 0 (MQ below (va_Qi (fun (r : Int32) (u : Nat → Nat → Int32) => res = (r, u)) (fun (u : Nat → Nat → Int32) t => va_P (dC, dI) vwCl (hW N ca b u O J) t.heap) A) ([.ref (b 129), .int a1, .int a2] : List Value).toArray s 0 0 A) (F0 m 59 ls []) := by
      intro I5 H locs ls h hP hS hl
      rw [ej6] at h
      obtain ⟨⟨p9, I10⟩, hv, h⟩ := hb_some h
      have K120 : ∀ (H : Heap) (locs : List Loc) (ls : Array Slot), va_P (dC, dI) vwCl (hW N ca b I10 O J) H → va_S A s.heap H locs → lv_has ls 5 [(0, .ref (b 129)), (1, .int a1), (3, .int p9)] → W p l e (headSpec wsX8_number ({ frames := 2, cells := 0, slots := 0, locals := 45 } : Room)).room s m ([.ref (b 129), .int a1, .int a2] : List Value).toArray below meth c H locs 0 0 (MQ below (va_Qi (fun (r : Int32) (u : Nat → Nat → Int32) => res = (r, u)) (fun (u : Nat → Nat → Int32) t => va_P (dC, dI) vwCl (hW N ca b u O J) t.heap) A) ([.ref (b 129), .int a1, .int a2] : List Value).toArray s 0 0 A) (F0 m 120 ls []) := by
        intro H locs ls hP hS hl
        refine lv_aload_n hx hb dX8_number_120 rfl (lv_at hl 0 rfl) ?_
        refine lv_aload_n hx hb dX8_number_121 rfl (lv_at hl 0 rfl) ?_
        refine gg8_11 X hP kc_129 (sk_in hN kc_129 (by decide)) hi8 (List.mem_of_getElem? (i := 1) rfl) dX8_number_122 ?_
        refine lv_if_ne (tgt := 133) hx hb dX8_number_125 (by decide) (fun c15 => ?_) (fun c15 => ?_)
        · have h := gif_f c15 h
          refine lv_iconst (v := 1) hx hb dX8_number_133 (by decide) ?_
          refine lv_goto (tgt := 138) hx hb dX8_number_134 (by decide) ?_
          refine gp8_11 X hP hS kc_129 (sk_in hN kc_129 (by decide)) hi8 (List.mem_of_getElem? (i := 1) rfl) (by decide) dX8_number_138 (fun H locs hP hS => ?_)
          obtain ⟨I11, eI11, h⟩ := hlet_ex h
          rw [← eI11] at hP
          refine lv_iload_n hx hb dX8_number_141 rfl (lv_at hl 2 rfl) ?_
          exact W.iret hx hb hr (fun t9 ht hW => ⟨⟨p9, I11, rfl, (Option.some.inj h).symm, gEnd ht hP⟩, hS.F ht⟩) hS.2.2 dX8_number_142 hlk
        · have h := gif_t c15 h
          refine lv_iload_n hx hb dX8_number_128 rfl (lv_at hl 2 rfl) ?_
          refine lv_iload_n hx hb dX8_number_129 rfl (lv_at hl 1 rfl) ?_
          refine lv_icmp_ge (tgt := 137) hx hb dX8_number_130 (by decide) (fun c14 => ?_) (fun c14 => ?_)
          · have h := gif_t c14 h
            refine lv_iconst (v := 0) hx hb dX8_number_137 (by decide) ?_
            refine gp8_11 X hP hS kc_129 (sk_in hN kc_129 (by decide)) hi8 (List.mem_of_getElem? (i := 1) rfl) (by decide) dX8_number_138 (fun H locs hP hS => ?_)
            obtain ⟨I12, eI12, h⟩ := hlet_ex h
            rw [← eI12] at hP
            refine lv_iload_n hx hb dX8_number_141 rfl (lv_at hl 2 rfl) ?_
            exact W.iret hx hb hr (fun t9 ht hW => ⟨⟨p9, I12, rfl, (Option.some.inj h).symm, gEnd ht hP⟩, hS.F ht⟩) hS.2.2 dX8_number_142 hlk
          · have h := gif_f c14 h
            refine lv_iconst (v := 1) hx hb dX8_number_133 (by decide) ?_
            refine lv_goto (tgt := 138) hx hb dX8_number_134 (by decide) ?_
            refine gp8_11 X hP hS kc_129 (sk_in hN kc_129 (by decide)) hi8 (List.mem_of_getElem? (i := 1) rfl) (by decide) dX8_number_138 (fun H locs hP hS => ?_)
            obtain ⟨I13, eI13, h⟩ := hlet_ex h
            rw [← eI13] at hP
            refine lv_iload_n hx hb dX8_number_141 rfl (lv_at hl 2 rfl) ?_
            exact W.iret hx hb hr (fun t9 ht hW => ⟨⟨p9, I13, rfl, (Option.some.inj h).symm, gEnd ht hP⟩, hS.F ht⟩) hS.2.2 dX8_number_142 hlk
      have hL59 : ∀ (fuel : Nat) (p7 : Int32) (I8 : Nat → Nat → Int32) (H : Heap) (locs : List Loc) (ls : Array Slot), f_X8_number_L59 a2 p4 fuel p7 I8 = some (p9, I10) → va_P (dC, dI) vwCl (hW N ca b I8 O J) H → va_S A s.heap H locs → lv_has ls 5 [(0, .ref (b 129)), (1, .int a1), (2, .int a2), (3, .int p7), (4, .int p4)] → W p l e (headSpec wsX8_number ({ frames := 2, cells := 0, slots := 0, locals := 45 } : Room)).room s m ([.ref (b 129), .int a1, .int a2] : List Value).toArray below meth c H locs 0 0 (MQ below (va_Qi (fun (r : Int32) (u : Nat → Nat → Int32) => res = (r, u)) (fun (u : Nat → Nat → Int32) t => va_P (dC, dI) vwCl (hW N ca b u O J) t.heap) A) ([.ref (b 129), .int a1, .int a2] : List Value).toArray s 0 0 A) (F0 m 59 ls []) := by
        intro fuel
        induction fuel with
        | zero =>
          intro p7 I8 H locs ls h hP hS hl
          rw [f_X8_number_L59] at h
          cases h
        | succ fuel ih =>
          intro p7 I8 H locs ls h hP hS hl
          rw [f_X8_number_L59] at h
          refine lv_iload hx hb dX8_number_59 (lv_at hl 4 rfl) ?_
          refine lv_if_eq (tgt := 120) hx hb dX8_number_61 (by decide) (fun c27 => ?_) (fun c27 => ?_)
          · have h := gif_t c27 h
            cases h
            exact K120 _ _ _ hP hS (lv_sub hl [0, 1, 3] rfl)
          · have h := gif_f c27 h
            refine lv_aload_n hx hb dX8_number_64 rfl (lv_at hl 0 rfl) ?_
            obtain ⟨q17, hcq17, h⟩ := hb_some h
            refine gdV_i (As := []) (rest := []) (BH := (fun (u : Unit) H => va_P (dC, dI) vwCl (hW N ca b I8 O J) H)) X hP hS (c_X8_next hN hA I8 O J q17 hcq17) (cwV 0 X.ts gX8_number_X8_next rfl rfl rfl (by decide +kernel) ⟨Nat.le_of_ble_eq_true rfl, Nat.le_of_ble_eq_true rfl⟩) (gr8 X hP kc_129 (sk_in hN kc_129 (by decide))) rfl hl.1 rfl (Nat.le_of_ble_eq_true rfl) dX8_number_65 ⟨Nat.le_of_ble_eq_true rfl, Nat.le_of_ble_eq_true rfl⟩ (fun r16 u9 H locs hw hP hS => ?_)
            have hw := hw.symm
            subst hw
            refine lv_bipush (v := 48) hx hb dX8_number_68 (by decide) ?_
            refine lv_bipush (v := 57) hx hb dX8_number_70 (by decide) ?_
            obtain ⟨q19, hcq19, h⟩ := hb_some h
            refine gdS_i (As := [.int r16, .int (48 : Int32), .int (57 : Int32)]) (rest := []) (BH := (fun (u : Unit) H => va_P (dC, dI) vwCl (hW N ca b I8 O J) H)) X hP hS (c_X8_in hN hA I8 O J r16 (48 : Int32) (57 : Int32) q19 hcq19) (va_cwS 3 X.ts gX8_number_X8_in rfl rfl rfl (by decide +kernel) ⟨Nat.le_of_ble_eq_true rfl, Nat.le_of_ble_eq_true rfl⟩) rfl hl.1 rfl (Nat.le_of_ble_eq_true rfl) dX8_number_72 ⟨Nat.le_of_ble_eq_true rfl, Nat.le_of_ble_eq_true rfl⟩ (fun r18 u9 H locs hw hP hS => ?_)
            have hw := hw.symm
            subst hw
            refine lv_if_eq (tgt := 120) hx hb dX8_number_75 (by decide) (fun c26 => ?_) (fun c26 => ?_)
            · have h := gif_t c26 h
              cases h
              exact K120 _ _ _ hP hS (lv_sub hl [0, 1, 3] rfl)
            · have h := gif_f c26 h
              refine lv_bipush (v := 10) hx hb dX8_number_78 (by decide) ?_
              refine lv_iload_n hx hb dX8_number_80 rfl (lv_at hl 3 rfl) ?_
              refine lv_imul hx hb dX8_number_81 ?_
              refine lv_aload_n hx hb dX8_number_82 rfl (lv_at hl 0 rfl) ?_
              obtain ⟨q21, hcq21, h⟩ := hb_some h
              refine gdV_i (As := []) (rest := [.int ((10 : Int32) * p7)]) (BH := (fun (u : Unit) H => va_P (dC, dI) vwCl (hW N ca b I8 O J) H)) X hP hS (c_X8_next hN hA I8 O J q21 hcq21) (cwV 0 X.ts gX8_number_X8_next rfl rfl rfl (by decide +kernel) ⟨Nat.le_of_ble_eq_true rfl, Nat.le_of_ble_eq_true rfl⟩) (gr8 X hP kc_129 (sk_in hN kc_129 (by decide))) rfl hl.1 rfl (Nat.le_of_ble_eq_true rfl) dX8_number_83 ⟨Nat.le_of_ble_eq_true rfl, Nat.le_of_ble_eq_true rfl⟩ (fun r20 u9 H locs hw hP hS => ?_)
              have hw := hw.symm
              subst hw
              refine lv_iadd hx hb dX8_number_86 ?_
              refine lv_bipush (v := 48) hx hb dX8_number_87 (by decide) ?_
              refine lv_isub hx hb dX8_number_89 ?_
              refine lv_iload_n hx hb dX8_number_90 rfl (lv_at hl 2 rfl) ?_
              refine lv_icmp_gt (tgt := 120) hx hb dX8_number_91 (by decide) (fun c25 => ?_) (fun c25 => ?_)
              · have h := gif_t c25 h
                cases h
                exact K120 _ _ _ hP hS (lv_sub hl [0, 1, 3] rfl)
              · have h := gif_f c25 h
                refine lv_bipush (v := 10) hx hb dX8_number_94 (by decide) ?_
                refine lv_iload_n hx hb dX8_number_96 rfl (lv_at hl 3 rfl) ?_
                refine lv_imul hx hb dX8_number_97 ?_
                refine lv_aload_n hx hb dX8_number_98 rfl (lv_at hl 0 rfl) ?_
                obtain ⟨q23, hcq23, h⟩ := hb_some h
                refine gdV_i (As := []) (rest := [.int ((10 : Int32) * p7)]) (BH := (fun (u : Unit) H => va_P (dC, dI) vwCl (hW N ca b I8 O J) H)) X hP hS (c_X8_next hN hA I8 O J q23 hcq23) (cwV 0 X.ts gX8_number_X8_next rfl rfl rfl (by decide +kernel) ⟨Nat.le_of_ble_eq_true rfl, Nat.le_of_ble_eq_true rfl⟩) (gr8 X hP kc_129 (sk_in hN kc_129 (by decide))) rfl hl.1 rfl (Nat.le_of_ble_eq_true rfl) dX8_number_99 ⟨Nat.le_of_ble_eq_true rfl, Nat.le_of_ble_eq_true rfl⟩ (fun r22 u9 H locs hw hP hS => ?_)
                have hw := hw.symm
                subst hw
                refine lv_iadd hx hb dX8_number_102 ?_
                refine lv_bipush (v := 48) hx hb dX8_number_103 (by decide) ?_
                refine lv_isub hx hb dX8_number_105 ?_
                refine lv_istore_n (lv' := [(3, .int ((((10 : Int32) * p7) + r22) - (48 : Int32))), (0, .ref (b 129)), (1, .int a1), (2, .int a2), (4, .int p4)]) hx hb dX8_number_106 rfl hl (by decide) rfl (fun ls hl => ?_)
                refine lv_aload_n hx hb dX8_number_107 rfl (lv_at hl 1 rfl) ?_
                refine lv_dup hx hb dX8_number_108 rfl ?_
                refine gg8_10 X hP kc_129 (sk_in hN kc_129 (by decide)) hi8 (List.mem_of_getElem? (i := 2) rfl) dX8_number_109 ?_
                refine lv_iconst (v := 1) hx hb dX8_number_112 (by decide) ?_
                refine lv_iadd hx hb dX8_number_113 ?_
                refine gp8_10 X hP hS kc_129 (sk_in hN kc_129 (by decide)) hi8 (List.mem_of_getElem? (i := 2) rfl) dX8_number_114 (fun H locs hP hS => ?_)
                obtain ⟨I24, eI24, h⟩ := hlet_ex h
                rw [← eI24] at hP
                refine lv_goto (tgt := 59) hx hb dX8_number_117 (by decide) ?_
                exact ih _ _ _ _ _ h hP hS (lv_sub hl [1, 2, 3, 0, 4] rfl)
      exact hL59 FU _ _ _ _ _ hv hP hS (lv_sub hl [0, 1, 2, 3, 4] rfl)
    refine lv_if_ne (tgt := 59) hx hb dX8_number_26 (by decide) (fun c32 => ?_) (fun c32 => ?_)
    · have h := gif_f c32 h
      exact K59 _ _ _ _ h hP hS (lv_sub hl [1, 2, 3, 4, 0] rfl)
    · have h := gif_t c32 h
      refine lv_iload_n hx hb dX8_number_29 rfl (lv_at hl 4 rfl) ?_
      refine lv_iload_n hx hb dX8_number_30 rfl (lv_at hl 2 rfl) ?_
      refine lv_icmp_ge (tgt := 59) hx hb dX8_number_31 (by decide) (fun c31 => ?_) (fun c31 => ?_)
      · have h := gif_t c31 h
        exact K59 _ _ _ _ h hP hS (lv_sub hl [1, 2, 3, 4, 0] rfl)
      · have h := gif_f c31 h
        refine lv_bipush (v := 10) hx hb dX8_number_34 (by decide) ?_
        refine lv_iload_n hx hb dX8_number_36 rfl (lv_at hl 4 rfl) ?_
        refine lv_imul hx hb dX8_number_37 ?_
        refine lv_iload_n hx hb dX8_number_38 rfl (lv_at hl 3 rfl) ?_
        refine lv_icmp_le (tgt := 59) hx hb dX8_number_39 (by decide) (fun c30 => ?_) (fun c30 => ?_)
        · have h := gif_t c30 h
          exact K59 _ _ _ _ h hP hS (lv_sub hl [1, 2, 3, 4, 0] rfl)
        · have h := gif_f c30 h
          refine lv_aload_n hx hb dX8_number_42 rfl (lv_at hl 1 rfl) ?_
          refine lv_iconst (v := 1) hx hb dX8_number_43 (by decide) ?_
          refine gp8_11 X hP hS kc_129 (sk_in hN kc_129 (by decide)) hi8 (List.mem_of_getElem? (i := 1) rfl) (by decide) dX8_number_44 (fun H locs hP hS => ?_)
          obtain ⟨I28, eI28, h⟩ := hlet_ex h
          rw [← eI28] at hP
          refine lv_aload_n hx hb dX8_number_47 rfl (lv_at hl 1 rfl) ?_
          refine lv_dup hx hb dX8_number_48 rfl ?_
          refine gg8_10 X hP kc_129 (sk_in hN kc_129 (by decide)) hi8 (List.mem_of_getElem? (i := 2) rfl) dX8_number_49 ?_
          refine lv_iconst (v := 1) hx hb dX8_number_52 (by decide) ?_
          refine lv_isub hx hb dX8_number_53 ?_
          refine gp8_10 X hP hS kc_129 (sk_in hN kc_129 (by decide)) hi8 (List.mem_of_getElem? (i := 2) rfl) dX8_number_54 (fun H locs hP hS => ?_)
          obtain ⟨I29, eI29, h⟩ := hlet_ex h
          rw [← eI29] at hP
          refine lv_iconst (v := 0) hx hb dX8_number_57 (by decide) ?_
          exact W.iret hx hb hr (fun t9 ht hW => ⟨⟨(0 : Int32), I29, rfl, (Option.some.inj h).symm, gEnd ht hP⟩, hS.F ht⟩) hS.2.2 dX8_number_58 hlk
  have h := hv
  refine lv_if_ne (tgt := 19) hx hb dX8_number_12 (by decide) (fun c33 => ?_) (fun c33 => ?_)
  · have h := gif_f c33 h
    refine lv_iconst (v := 0) hx hb dX8_number_19 (by decide) ?_
    cases h
    exact K20 _ _ _ hP hS (lv_sub hl [1, 2, 3, 0] rfl)
  · have h := gif_t c33 h
    refine lv_iconst (v := 1) hx hb dX8_number_15 (by decide) ?_
    refine lv_goto (tgt := 20) hx hb dX8_number_16 (by decide) ?_
    cases h
    exact K20 _ _ _ hP hS (lv_sub hl [1, 2, 3, 0] rfl)
def f_X8_part (I : Nat → Nat → Int32) : Option (Nat → Nat → Int32) :=
  (f_X8_next I).bind fun r1 =>
  hlet (gup I 129 12 r1) fun I3 =>
  (show Option (Int32) from
    if (I3 129 12) = (112 : Int32) then
      some (1 : Int32)
    else
      if (I3 129 12) = (110 : Int32) then
        some (1 : Int32)
      else
        if (I3 129 12) = (99 : Int32) then
          some (1 : Int32)
        else
          if (I3 129 12) = (116 : Int32) then
            some (1 : Int32)
          else
            some (0 : Int32)).bind fun p4 =>
  (f_X8_sign p4 I3).bind fun I5 =>
  if (I5 129 12) = (116 : Int32) then
    (f_X8_number (1 : Int32) (200 : Int32) I5).bind fun (r30, I29) =>
    hlet (gup I29 129 14 r30) fun I32 =>
    some I32
  else
    (show Option (Int32) from
      if (I5 129 12) = (99 : Int32) then
        some (3 : Int32)
      else
        some (7 : Int32)).bind fun p7 =>
    (f_X8_digit (0 : Int32) p7 I5).bind fun (r9, I8) =>
    hlet (gup I8 129 13 r9) fun I11 =>
    if (I11 129 12) = (110 : Int32) then
      some I11
    else
      (f_X8_next I11).bind fun r12 =>
      (show Option (Int32) from
        if r12 = (61 : Int32) then
          some (1 : Int32)
        else
          some (0 : Int32)).bind fun p14 =>
      (f_X8_sign p14 I11).bind fun I15 =>
      (show Option (Int32 × (Nat → Nat → Int32)) from
        if (I15 129 11) = 0 then
          (show Option (Int32) from
            if (I15 129 12) = (112 : Int32) then
              some (10 : Int32)
            else
              some (8 : Int32)).bind fun p20 =>
          (f_X8_number p20 (40 : Int32) I15).bind fun (r22, I21) =>
          some (r22, I21)
        else
          some ((0 : Int32), I15)).bind fun (p17, I18) =>
      hlet (gup I18 129 14 p17) fun I19 =>
      some I19
set_option maxHeartbeats 8000000 in
set_option maxRecDepth 100000 in
theorem c_X8_part {l : Launch} {dC : Nat → ClassId} {dI : Nat → Nat → Nat} {ca : Nat → ClassId} {b : Nat → Nat} {A : Nat → Prop} {N : Nat} (hN : 138 ≤ N) (hA : gAd A b N) (I : Nat → Nat → Int32) (O : Nat → Nat → Option Nat) (J : Nat → Nat → Int64) (res : Nat → Nat → Int32) (h : f_X8_part I = some res) : Met l yX8_part wsX8_part ({ frames := 3, cells := 0, slots := 0, locals := 69 } : Room) (va_Pc [.ref (b 129)] (gPre dC dI ca b A N I O J)) (va_Qv (fun (u : Nat → Nat → Int32) => res = u) (fun (u : Nat → Nat → Int32) t => va_P (dC, dI) vwCl (hW N ca b u O J) t.heap) A) 0 0 A := by
  refine Met.ofW (cc := cX8_part) (maxL := 1) (ret := none) (by decide) rfl ?_
  intro p e s m args below meth c s₁ B hml hv
  obtain ⟨rfl, hP, hK, hA2, hth⟩ := hv
  have hx := B.exec
  have hb := B.bytes
  have hr := B.returns
  have hlk := B.notSynchronized
  have X : gCx p s m ([.ref (b 129)] : List Value).toArray c RX8 cX8_part wsX8_part 1 dC dI ca b A N := ⟨hx, hb, hml, findClass_of_methodNamed B.named, atoms_spec (ws := wsX8_part) B.pre, hK, hA, hA2, hth⟩
  have hi8 : ∀ w ∈ wsX80, w ∈ wsX8_part := (fun w h => List.mem_cons_of_mem _ (List.mem_append_right _ h))
  have hS : va_S A s.heap s.heap [] := va_S.rf
  have hl := lv_entry ([.ref (b 129)] : List Value) (n := 1) (Nat.le_of_ble_eq_true rfl)
  rw [lg_entry_eq]
  generalize (lg_sl ([.ref (b 129)] : List Value) ++ List.replicate (1 - (lg_sl ([.ref (b 129)] : List Value)).length) Slot.unset).toArray = ls at hl ⊢
  have hl : lv_has ls 1 [(0, .ref (b 129))] := hl
  unfold f_X8_part at h
  refine lv_aload_n hx hb dX8_part_0 rfl (lv_at hl 0 rfl) ?_
  refine lv_aload_n hx hb dX8_part_1 rfl (lv_at hl 0 rfl) ?_
  obtain ⟨q2, hcq2, h⟩ := hb_some h
  refine gdV_i (As := []) (rest := [.ref (b 129)]) (BH := (fun (u : Unit) H => va_P (dC, dI) vwCl (hW N ca b I O J) H)) X hP hS (c_X8_next hN hA I O J q2 hcq2) (cwV 0 X.ts gX8_part_X8_next rfl rfl rfl (by decide +kernel) ⟨Nat.le_of_ble_eq_true rfl, Nat.le_of_ble_eq_true rfl⟩) (gr8 X hP kc_129 (sk_in hN kc_129 (by decide))) rfl hl.1 rfl (Nat.le_of_ble_eq_true rfl) dX8_part_2 ⟨Nat.le_of_ble_eq_true rfl, Nat.le_of_ble_eq_true rfl⟩ (fun r1 u9 H locs hw hP hS => ?_)
  have hw := hw.symm
  subst hw
  refine gp8_12 X hP hS kc_129 (sk_in hN kc_129 (by decide)) hi8 (List.mem_of_getElem? (i := 1) rfl) dX8_part_5 (fun H locs hP hS => ?_)
  obtain ⟨I3, eI3, h⟩ := hlet_ex h
  rw [← eI3] at hP
  refine lv_aload_n hx hb dX8_part_8 rfl (lv_at hl 0 rfl) ?_
  refine lv_aload_n hx hb dX8_part_9 rfl (lv_at hl 0 rfl) ?_
  refine gg8_12 X hP kc_129 (sk_in hN kc_129 (by decide)) hi8 (List.mem_of_getElem? (i := 1) rfl) dX8_part_10 ?_
  refine lv_bipush (v := 112) hx hb dX8_part_13 (by decide) ?_
  obtain ⟨p4, hv, h⟩ := hb_some h
  have K50 : ∀ (H : Heap) (locs : List Loc) (ls : Array Slot), va_P (dC, dI) vwCl (hW N ca b I3 O J) H → va_S A s.heap H locs → lv_has ls 1 [(0, .ref (b 129))] → W p l e (headSpec wsX8_part ({ frames := 3, cells := 0, slots := 0, locals := 69 } : Room)).room s m ([.ref (b 129)] : List Value).toArray below meth c H locs 0 0 (MQ below (va_Qv (fun (u : Nat → Nat → Int32) => res = u) (fun (u : Nat → Nat → Int32) t => va_P (dC, dI) vwCl (hW N ca b u O J) t.heap) A) ([.ref (b 129)] : List Value).toArray s 0 0 A) (F0 m 50 ls [.int p4, .ref (b 129)]) := by
    intro H locs ls hP hS hl
    obtain ⟨q6, hcq6, h⟩ := hb_some h
    refine gdV_v (As := [.int p4]) (rest := []) (BH := (fun (u : Nat → Nat → Int32) H => va_P (dC, dI) vwCl (hW N ca b u O J) H)) X hP hS (c_X8_sign hN hA I3 O J p4 q6 hcq6) (cwV 1 X.ts gX8_part_X8_sign rfl rfl rfl (by decide +kernel) ⟨Nat.le_of_ble_eq_true rfl, Nat.le_of_ble_eq_true rfl⟩) (gr8 X hP kc_129 (sk_in hN kc_129 (by decide))) rfl hl.1 rfl (Nat.le_of_ble_eq_true rfl) dX8_part_50 ⟨Nat.le_of_ble_eq_true rfl, Nat.le_of_ble_eq_true rfl⟩ (fun I5 H locs hw hP hS => ?_)
    have hw := hw.symm
    subst hw
    refine lv_aload_n hx hb dX8_part_53 rfl (lv_at hl 0 rfl) ?_
    refine gg8_12 X hP kc_129 (sk_in hN kc_129 (by decide)) hi8 (List.mem_of_getElem? (i := 1) rfl) dX8_part_54 ?_
    refine lv_bipush (v := 116) hx hb dX8_part_57 (by decide) ?_
    refine lv_icmp_ne (tgt := 77) hx hb dX8_part_59 (by decide) (fun c33 => ?_) (fun c33 => ?_)
    · have h := gif_f c33 h
      refine lv_aload_n hx hb dX8_part_77 rfl (lv_at hl 0 rfl) ?_
      refine lv_aload_n hx hb dX8_part_78 rfl (lv_at hl 0 rfl) ?_
      refine lv_iconst (v := 0) hx hb dX8_part_79 (by decide) ?_
      refine lv_aload_n hx hb dX8_part_80 rfl (lv_at hl 0 rfl) ?_
      refine gg8_12 X hP kc_129 (sk_in hN kc_129 (by decide)) hi8 (List.mem_of_getElem? (i := 1) rfl) dX8_part_81 ?_
      refine lv_bipush (v := 99) hx hb dX8_part_84 (by decide) ?_
      obtain ⟨p7, hv, h⟩ := hb_some h
      have K95 : ∀ (H : Heap) (locs : List Loc) (ls : Array Slot), va_P (dC, dI) vwCl (hW N ca b I5 O J) H → va_S A s.heap H locs → lv_has ls 1 [(0, .ref (b 129))] → W p l e (headSpec wsX8_part ({ frames := 3, cells := 0, slots := 0, locals := 69 } : Room)).room s m ([.ref (b 129)] : List Value).toArray below meth c H locs 0 0 (MQ below (va_Qv (fun (u : Nat → Nat → Int32) => res = u) (fun (u : Nat → Nat → Int32) t => va_P (dC, dI) vwCl (hW N ca b u O J) t.heap) A) ([.ref (b 129)] : List Value).toArray s 0 0 A) (F0 m 95 ls [.int p7, .int (0 : Int32), .ref (b 129), .ref (b 129)]) := by
        intro H locs ls hP hS hl
        obtain ⟨q10, hcq10, h⟩ := hb_some h
        refine gdV_i (As := [.int (0 : Int32), .int p7]) (rest := [.ref (b 129)]) (BH := (fun (u : Nat → Nat → Int32) H => va_P (dC, dI) vwCl (hW N ca b u O J) H)) X hP hS (c_X8_digit hN hA I5 O J (0 : Int32) p7 q10 hcq10) (cwV 2 X.ts gX8_part_X8_digit rfl rfl rfl (by decide +kernel) ⟨Nat.le_of_ble_eq_true rfl, Nat.le_of_ble_eq_true rfl⟩) (gr8 X hP kc_129 (sk_in hN kc_129 (by decide))) rfl hl.1 rfl (Nat.le_of_ble_eq_true rfl) dX8_part_95 ⟨Nat.le_of_ble_eq_true rfl, Nat.le_of_ble_eq_true rfl⟩ (fun r9 I8 H locs hw hP hS => ?_)
        subst hw
        refine gp8_13 X hP hS kc_129 (sk_in hN kc_129 (by decide)) hi8 (List.mem_of_getElem? (i := 3) rfl) dX8_part_98 (fun H locs hP hS => ?_)
        obtain ⟨I11, eI11, h⟩ := hlet_ex h
        rw [← eI11] at hP
        refine lv_aload_n hx hb dX8_part_101 rfl (lv_at hl 0 rfl) ?_
        refine gg8_12 X hP kc_129 (sk_in hN kc_129 (by decide)) hi8 (List.mem_of_getElem? (i := 1) rfl) dX8_part_102 ?_
        refine lv_bipush (v := 110) hx hb dX8_part_105 (by decide) ?_
        refine lv_icmp_eq (tgt := 165) hx hb dX8_part_107 (by decide) (fun c27 => ?_) (fun c27 => ?_)
        · have h := gif_t c27 h
          exact W.vret hx hb hr (fun t9 ht hW => ⟨⟨I11, rfl, (Option.some.inj h).symm, gEnd ht hP⟩, hS.F ht⟩) hS.2.2 dX8_part_165 hlk
        · have h := gif_f c27 h
          refine lv_aload_n hx hb dX8_part_110 rfl (lv_at hl 0 rfl) ?_
          refine lv_aload_n hx hb dX8_part_111 rfl (lv_at hl 0 rfl) ?_
          obtain ⟨q13, hcq13, h⟩ := hb_some h
          refine gdV_i (As := []) (rest := [.ref (b 129)]) (BH := (fun (u : Unit) H => va_P (dC, dI) vwCl (hW N ca b I11 O J) H)) X hP hS (c_X8_next hN hA I11 O J q13 hcq13) (cwV 0 X.ts gX8_part_X8_next rfl rfl rfl (by decide +kernel) ⟨Nat.le_of_ble_eq_true rfl, Nat.le_of_ble_eq_true rfl⟩) (gr8 X hP kc_129 (sk_in hN kc_129 (by decide))) rfl hl.1 rfl (Nat.le_of_ble_eq_true rfl) dX8_part_112 ⟨Nat.le_of_ble_eq_true rfl, Nat.le_of_ble_eq_true rfl⟩ (fun r12 u9 H locs hw hP hS => ?_)
          have hw := hw.symm
          subst hw
          refine lv_bipush (v := 61) hx hb dX8_part_115 (by decide) ?_
          obtain ⟨p14, hv, h⟩ := hb_some h
          have K125 : ∀ (H : Heap) (locs : List Loc) (ls : Array Slot), va_P (dC, dI) vwCl (hW N ca b I11 O J) H → va_S A s.heap H locs → lv_has ls 1 [(0, .ref (b 129))] → W p l e (headSpec wsX8_part ({ frames := 3, cells := 0, slots := 0, locals := 69 } : Room)).room s m ([.ref (b 129)] : List Value).toArray below meth c H locs 0 0 (MQ below (va_Qv (fun (u : Nat → Nat → Int32) => res = u) (fun (u : Nat → Nat → Int32) t => va_P (dC, dI) vwCl (hW N ca b u O J) t.heap) A) ([.ref (b 129)] : List Value).toArray s 0 0 A) (F0 m 125 ls [.int p14, .ref (b 129)]) := by
            intro H locs ls hP hS hl
            obtain ⟨q16, hcq16, h⟩ := hb_some h
            refine gdV_v (As := [.int p14]) (rest := []) (BH := (fun (u : Nat → Nat → Int32) H => va_P (dC, dI) vwCl (hW N ca b u O J) H)) X hP hS (c_X8_sign hN hA I11 O J p14 q16 hcq16) (cwV 1 X.ts gX8_part_X8_sign rfl rfl rfl (by decide +kernel) ⟨Nat.le_of_ble_eq_true rfl, Nat.le_of_ble_eq_true rfl⟩) (gr8 X hP kc_129 (sk_in hN kc_129 (by decide))) rfl hl.1 rfl (Nat.le_of_ble_eq_true rfl) dX8_part_125 ⟨Nat.le_of_ble_eq_true rfl, Nat.le_of_ble_eq_true rfl⟩ (fun I15 H locs hw hP hS => ?_)
            have hw := hw.symm
            subst hw
            refine lv_aload_n hx hb dX8_part_128 rfl (lv_at hl 0 rfl) ?_
            refine lv_aload_n hx hb dX8_part_129 rfl (lv_at hl 0 rfl) ?_
            refine gg8_11 X hP kc_129 (sk_in hN kc_129 (by decide)) hi8 (List.mem_of_getElem? (i := 4) rfl) dX8_part_130 ?_
            obtain ⟨⟨p17, I18⟩, hv, h⟩ := hb_some h
            have K162 : ∀ (H : Heap) (locs : List Loc) (ls : Array Slot), va_P (dC, dI) vwCl (hW N ca b I18 O J) H → va_S A s.heap H locs → lv_has ls 1 [] → W p l e (headSpec wsX8_part ({ frames := 3, cells := 0, slots := 0, locals := 69 } : Room)).room s m ([.ref (b 129)] : List Value).toArray below meth c H locs 0 0 (MQ below (va_Qv (fun (u : Nat → Nat → Int32) => res = u) (fun (u : Nat → Nat → Int32) t => va_P (dC, dI) vwCl (hW N ca b u O J) t.heap) A) ([.ref (b 129)] : List Value).toArray s 0 0 A) (F0 m 162 ls [.int p17, .ref (b 129)]) := by
              intro H locs ls hP hS hl
              refine gp8_14 X hP hS kc_129 (sk_in hN kc_129 (by decide)) hi8 (List.mem_of_getElem? (i := 2) rfl) dX8_part_162 (fun H locs hP hS => ?_)
              obtain ⟨I19, eI19, h⟩ := hlet_ex h
              rw [← eI19] at hP
              exact W.vret hx hb hr (fun t9 ht hW => ⟨⟨I19, rfl, (Option.some.inj h).symm, gEnd ht hP⟩, hS.F ht⟩) hS.2.2 dX8_part_165 hlk
            have h := hv
            refine lv_if_eq (tgt := 140) hx hb dX8_part_133 (by decide) (fun c25 => ?_) (fun c25 => ?_)
            · have h := gif_t c25 h
              refine lv_aload_n hx hb dX8_part_140 rfl (lv_at hl 0 rfl) ?_
              refine lv_aload_n hx hb dX8_part_141 rfl (lv_at hl 0 rfl) ?_
              refine gg8_12 X hP kc_129 (sk_in hN kc_129 (by decide)) hi8 (List.mem_of_getElem? (i := 1) rfl) dX8_part_142 ?_
              refine lv_bipush (v := 112) hx hb dX8_part_145 (by decide) ?_
              obtain ⟨p20, hv, h⟩ := hb_some h
              have K157 : ∀ (H : Heap) (locs : List Loc) (ls : Array Slot), va_P (dC, dI) vwCl (hW N ca b I15 O J) H → va_S A s.heap H locs → lv_has ls 1 [] → W p l e (headSpec wsX8_part ({ frames := 3, cells := 0, slots := 0, locals := 69 } : Room)).room s m ([.ref (b 129)] : List Value).toArray below meth c H locs 0 0 (MQ below (va_Qv (fun (u : Nat → Nat → Int32) => res = u) (fun (u : Nat → Nat → Int32) t => va_P (dC, dI) vwCl (hW N ca b u O J) t.heap) A) ([.ref (b 129)] : List Value).toArray s 0 0 A) (F0 m 157 ls [.int p20, .ref (b 129), .ref (b 129)]) := by
                intro H locs ls hP hS hl
                refine lv_bipush (v := 40) hx hb dX8_part_157 (by decide) ?_
                obtain ⟨q23, hcq23, h⟩ := hb_some h
                refine gdV_i (As := [.int p20, .int (40 : Int32)]) (rest := [.ref (b 129)]) (BH := (fun (u : Nat → Nat → Int32) H => va_P (dC, dI) vwCl (hW N ca b u O J) H)) X hP hS (c_X8_number hN hA I15 O J p20 (40 : Int32) q23 hcq23) (cwV 2 X.ts gX8_part_X8_number rfl rfl rfl (by decide +kernel) ⟨Nat.le_of_ble_eq_true rfl, Nat.le_of_ble_eq_true rfl⟩) (gr8 X hP kc_129 (sk_in hN kc_129 (by decide))) rfl hl.1 rfl (Nat.le_of_ble_eq_true rfl) dX8_part_159 ⟨Nat.le_of_ble_eq_true rfl, Nat.le_of_ble_eq_true rfl⟩ (fun r22 I21 H locs hw hP hS => ?_)
                subst hw
                cases h
                exact K162 _ _ _ hP hS (lv_sub hl [] rfl)
              have h := hv
              refine lv_icmp_ne (tgt := 155) hx hb dX8_part_147 (by decide) (fun c24 => ?_) (fun c24 => ?_)
              · have h := gif_f c24 h
                refine lv_bipush (v := 8) hx hb dX8_part_155 (by decide) ?_
                cases h
                exact K157 _ _ _ hP hS (lv_sub hl [] rfl)
              · have h := gif_t c24 h
                refine lv_bipush (v := 10) hx hb dX8_part_150 (by decide) ?_
                refine lv_goto (tgt := 157) hx hb dX8_part_152 (by decide) ?_
                cases h
                exact K157 _ _ _ hP hS (lv_sub hl [] rfl)
            · have h := gif_f c25 h
              refine lv_iconst (v := 0) hx hb dX8_part_136 (by decide) ?_
              refine lv_goto (tgt := 162) hx hb dX8_part_137 (by decide) ?_
              cases h
              exact K162 _ _ _ hP hS (lv_sub hl [] rfl)
          have h := hv
          refine lv_icmp_ne (tgt := 124) hx hb dX8_part_117 (by decide) (fun c26 => ?_) (fun c26 => ?_)
          · have h := gif_f c26 h
            refine lv_iconst (v := 0) hx hb dX8_part_124 (by decide) ?_
            cases h
            exact K125 _ _ _ hP hS (lv_sub hl [0] rfl)
          · have h := gif_t c26 h
            refine lv_iconst (v := 1) hx hb dX8_part_120 (by decide) ?_
            refine lv_goto (tgt := 125) hx hb dX8_part_121 (by decide) ?_
            cases h
            exact K125 _ _ _ hP hS (lv_sub hl [0] rfl)
      have h := hv
      refine lv_icmp_ne (tgt := 93) hx hb dX8_part_86 (by decide) (fun c28 => ?_) (fun c28 => ?_)
      · have h := gif_f c28 h
        refine lv_bipush (v := 7) hx hb dX8_part_93 (by decide) ?_
        cases h
        exact K95 _ _ _ hP hS (lv_sub hl [0] rfl)
      · have h := gif_t c28 h
        refine lv_iconst (v := 3) hx hb dX8_part_89 (by decide) ?_
        refine lv_goto (tgt := 95) hx hb dX8_part_90 (by decide) ?_
        cases h
        exact K95 _ _ _ hP hS (lv_sub hl [0] rfl)
    · have h := gif_t c33 h
      refine lv_aload_n hx hb dX8_part_62 rfl (lv_at hl 0 rfl) ?_
      refine lv_aload_n hx hb dX8_part_63 rfl (lv_at hl 0 rfl) ?_
      refine lv_iconst (v := 1) hx hb dX8_part_64 (by decide) ?_
      refine lv_sipush (v := 200) hx hb dX8_part_65 (by decide) ?_
      obtain ⟨q31, hcq31, h⟩ := hb_some h
      refine gdV_i (As := [.int (1 : Int32), .int (200 : Int32)]) (rest := [.ref (b 129)]) (BH := (fun (u : Nat → Nat → Int32) H => va_P (dC, dI) vwCl (hW N ca b u O J) H)) X hP hS (c_X8_number hN hA I5 O J (1 : Int32) (200 : Int32) q31 hcq31) (cwV 2 X.ts gX8_part_X8_number rfl rfl rfl (by decide +kernel) ⟨Nat.le_of_ble_eq_true rfl, Nat.le_of_ble_eq_true rfl⟩) (gr8 X hP kc_129 (sk_in hN kc_129 (by decide))) rfl hl.1 rfl (Nat.le_of_ble_eq_true rfl) dX8_part_68 ⟨Nat.le_of_ble_eq_true rfl, Nat.le_of_ble_eq_true rfl⟩ (fun r30 I29 H locs hw hP hS => ?_)
      subst hw
      refine gp8_14 X hP hS kc_129 (sk_in hN kc_129 (by decide)) hi8 (List.mem_of_getElem? (i := 2) rfl) dX8_part_71 (fun H locs hP hS => ?_)
      obtain ⟨I32, eI32, h⟩ := hlet_ex h
      rw [← eI32] at hP
      refine lv_goto (tgt := 165) hx hb dX8_part_74 (by decide) ?_
      exact W.vret hx hb hr (fun t9 ht hW => ⟨⟨I32, rfl, (Option.some.inj h).symm, gEnd ht hP⟩, hS.F ht⟩) hS.2.2 dX8_part_165 hlk
  have h := hv
  refine lv_icmp_eq (tgt := 45) hx hb dX8_part_15 (by decide) (fun c37 => ?_) (fun c37 => ?_)
  · have h := gif_t c37 h
    refine lv_iconst (v := 1) hx hb dX8_part_45 (by decide) ?_
    refine lv_goto (tgt := 50) hx hb dX8_part_46 (by decide) ?_
    cases h
    exact K50 _ _ _ hP hS (lv_sub hl [0] rfl)
  · have h := gif_f c37 h
    refine lv_aload_n hx hb dX8_part_18 rfl (lv_at hl 0 rfl) ?_
    refine gg8_12 X hP kc_129 (sk_in hN kc_129 (by decide)) hi8 (List.mem_of_getElem? (i := 1) rfl) dX8_part_19 ?_
    refine lv_bipush (v := 110) hx hb dX8_part_22 (by decide) ?_
    refine lv_icmp_eq (tgt := 45) hx hb dX8_part_24 (by decide) (fun c36 => ?_) (fun c36 => ?_)
    · have h := gif_t c36 h
      refine lv_iconst (v := 1) hx hb dX8_part_45 (by decide) ?_
      refine lv_goto (tgt := 50) hx hb dX8_part_46 (by decide) ?_
      cases h
      exact K50 _ _ _ hP hS (lv_sub hl [0] rfl)
    · have h := gif_f c36 h
      refine lv_aload_n hx hb dX8_part_27 rfl (lv_at hl 0 rfl) ?_
      refine gg8_12 X hP kc_129 (sk_in hN kc_129 (by decide)) hi8 (List.mem_of_getElem? (i := 1) rfl) dX8_part_28 ?_
      refine lv_bipush (v := 99) hx hb dX8_part_31 (by decide) ?_
      refine lv_icmp_eq (tgt := 45) hx hb dX8_part_33 (by decide) (fun c35 => ?_) (fun c35 => ?_)
      · have h := gif_t c35 h
        refine lv_iconst (v := 1) hx hb dX8_part_45 (by decide) ?_
        refine lv_goto (tgt := 50) hx hb dX8_part_46 (by decide) ?_
        cases h
        exact K50 _ _ _ hP hS (lv_sub hl [0] rfl)
      · have h := gif_f c35 h
        refine lv_aload_n hx hb dX8_part_36 rfl (lv_at hl 0 rfl) ?_
        refine gg8_12 X hP kc_129 (sk_in hN kc_129 (by decide)) hi8 (List.mem_of_getElem? (i := 1) rfl) dX8_part_37 ?_
        refine lv_bipush (v := 116) hx hb dX8_part_40 (by decide) ?_
        refine lv_icmp_ne (tgt := 49) hx hb dX8_part_42 (by decide) (fun c34 => ?_) (fun c34 => ?_)
        · have h := gif_f c34 h
          refine lv_iconst (v := 0) hx hb dX8_part_49 (by decide) ?_
          cases h
          exact K50 _ _ _ hP hS (lv_sub hl [0] rfl)
        · have h := gif_t c34 h
          refine lv_iconst (v := 1) hx hb dX8_part_45 (by decide) ?_
          refine lv_goto (tgt := 50) hx hb dX8_part_46 (by decide) ?_
          cases h
          exact K50 _ _ _ hP hS (lv_sub hl [0] rfl)
def f_X8_isText_L14 : Nat → (Nat → Nat → Int32) → Option (Nat → Nat → Int32)
  | 0, _ => none
  | fuel + 1, I5 =>
    if (I5 129 11) = 0 then
      if (I5 129 7) ≤ (I5 129 10) then
        some I5
      else
        (f_X8_next I5).bind fun r8 =>
        (show Option (Int32) from
          if r8 = (59 : Int32) then
            some (1 : Int32)
          else
            some (0 : Int32)).bind fun p10 =>
        (f_X8_sign p10 I5).bind fun I11 =>
        (f_X8_part I11).bind fun I13 =>
        f_X8_isText_L14 fuel I13
    else
      some I5
def f_X8_isText (I : Nat → Nat → Int32) : Option (Int32 × (Nat → Nat → Int32)) :=
  hlet (gup I 129 10 (0 : Int32)) fun I1 =>
  hlet (gup I1 129 11 (0 : Int32)) fun I2 =>
  (f_X8_part I2).bind fun I3 =>
  (f_X8_isText_L14  FU I3).bind fun I6 =>
  if (I6 129 11) = 0 then
    some ((1 : Int32), I6)
  else
    some ((0 : Int32), I6)
set_option maxHeartbeats 8000000 in
set_option maxRecDepth 100000 in
theorem c_X8_isText {l : Launch} {dC : Nat → ClassId} {dI : Nat → Nat → Nat} {ca : Nat → ClassId} {b : Nat → Nat} {A : Nat → Prop} {N : Nat} (hN : 138 ≤ N) (hA : gAd A b N) (I : Nat → Nat → Int32) (O : Nat → Nat → Option Nat) (J : Nat → Nat → Int64) (res : Int32 × (Nat → Nat → Int32)) (h : f_X8_isText I = some res) : Met l yX8_isText wsX8_isText ({ frames := 4, cells := 0, slots := 0, locals := 89 } : Room) (va_Pc [.ref (b 129)] (gPre dC dI ca b A N I O J)) (va_Qi (fun (r : Int32) (u : Nat → Nat → Int32) => res = (r, u)) (fun (u : Nat → Nat → Int32) t => va_P (dC, dI) vwCl (hW N ca b u O J) t.heap) A) 0 0 A := by
  refine Met.ofW (cc := cX8_isText) (maxL := 1) (ret := (some .boolean)) (by decide) rfl ?_
  intro p e s m args below meth c s₁ B hml hv
  obtain ⟨rfl, hP, hK, hA2, hth⟩ := hv
  have hx := B.exec
  have hb := B.bytes
  have hr := B.returns
  have hlk := B.notSynchronized
  have X : gCx p s m ([.ref (b 129)] : List Value).toArray c RX8 cX8_isText wsX8_isText 1 dC dI ca b A N := ⟨hx, hb, hml, findClass_of_methodNamed B.named, atoms_spec (ws := wsX8_isText) B.pre, hK, hA, hA2, hth⟩
  have hi8 : ∀ w ∈ wsX80, w ∈ wsX8_isText := (fun w h => List.mem_cons_of_mem _ (List.mem_append_right _ h))
  have hS : va_S A s.heap s.heap [] := va_S.rf
  have hl := lv_entry ([.ref (b 129)] : List Value) (n := 1) (Nat.le_of_ble_eq_true rfl)
  rw [lg_entry_eq]
  generalize (lg_sl ([.ref (b 129)] : List Value) ++ List.replicate (1 - (lg_sl ([.ref (b 129)] : List Value)).length) Slot.unset).toArray = ls at hl ⊢
  have hl : lv_has ls 1 [(0, .ref (b 129))] := hl
  unfold f_X8_isText at h
  refine lv_aload_n hx hb dX8_isText_0 rfl (lv_at hl 0 rfl) ?_
  refine lv_iconst (v := 0) hx hb dX8_isText_1 (by decide) ?_
  refine gp8_10 X hP hS kc_129 (sk_in hN kc_129 (by decide)) hi8 (List.mem_of_getElem? (i := 1) rfl) dX8_isText_2 (fun H locs hP hS => ?_)
  obtain ⟨I1, eI1, h⟩ := hlet_ex h
  rw [← eI1] at hP
  refine lv_aload_n hx hb dX8_isText_5 rfl (lv_at hl 0 rfl) ?_
  refine lv_iconst (v := 0) hx hb dX8_isText_6 (by decide) ?_
  refine gp8_11 X hP hS kc_129 (sk_in hN kc_129 (by decide)) hi8 (List.mem_of_getElem? (i := 2) rfl) (by decide) dX8_isText_7 (fun H locs hP hS => ?_)
  obtain ⟨I2, eI2, h⟩ := hlet_ex h
  rw [← eI2] at hP
  refine lv_aload_n hx hb dX8_isText_10 rfl (lv_at hl 0 rfl) ?_
  obtain ⟨q4, hcq4, h⟩ := hb_some h
  refine gdV_v (As := []) (rest := []) (BH := (fun (u : Nat → Nat → Int32) H => va_P (dC, dI) vwCl (hW N ca b u O J) H)) X hP hS (c_X8_part hN hA I2 O J q4 hcq4) (cwV 0 X.ts gX8_isText_X8_part rfl rfl rfl (by decide +kernel) ⟨Nat.le_of_ble_eq_true rfl, Nat.le_of_ble_eq_true rfl⟩) (gr8 X hP kc_129 (sk_in hN kc_129 (by decide))) rfl hl.1 rfl (Nat.le_of_ble_eq_true rfl) dX8_isText_11 ⟨Nat.le_of_ble_eq_true rfl, Nat.le_of_ble_eq_true rfl⟩ (fun I3 H locs hw hP hS => ?_)
  have hw := hw.symm
  subst hw
  obtain ⟨I6, hv, h⟩ := hb_some h
  have K57 : ∀ (H : Heap) (locs : List Loc) (ls : Array Slot), va_P (dC, dI) vwCl (hW N ca b I6 O J) H → va_S A s.heap H locs → lv_has ls 1 [(0, .ref (b 129))] → W p l e (headSpec wsX8_isText ({ frames := 4, cells := 0, slots := 0, locals := 89 } : Room)).room s m ([.ref (b 129)] : List Value).toArray below meth c H locs 0 0 (MQ below (va_Qi (fun (r : Int32) (u : Nat → Nat → Int32) => res = (r, u)) (fun (u : Nat → Nat → Int32) t => va_P (dC, dI) vwCl (hW N ca b u O J) t.heap) A) ([.ref (b 129)] : List Value).toArray s 0 0 A) (F0 m 57 ls []) := by
    intro H locs ls hP hS hl
    refine lv_aload_n hx hb dX8_isText_57 rfl (lv_at hl 0 rfl) ?_
    refine gg8_11 X hP kc_129 (sk_in hN kc_129 (by decide)) hi8 (List.mem_of_getElem? (i := 2) rfl) dX8_isText_58 ?_
    refine lv_if_ne (tgt := 68) hx hb dX8_isText_61 (by decide) (fun c7 => ?_) (fun c7 => ?_)
    · have h := gif_f c7 h
      refine lv_iconst (v := 0) hx hb dX8_isText_68 (by decide) ?_
      exact W.zret (ty := .boolean) hx hb hr (by decide) (fun t9 ht hW => ⟨⟨(0 : Int32), I6, rfl, (Option.some.inj h).symm, gEnd ht hP⟩, hS.F ht⟩) hS.2.2 dX8_isText_69 hlk
    · have h := gif_t c7 h
      refine lv_iconst (v := 1) hx hb dX8_isText_64 (by decide) ?_
      refine lv_goto (tgt := 69) hx hb dX8_isText_65 (by decide) ?_
      exact W.zret (ty := .boolean) hx hb hr (by decide) (fun t9 ht hW => ⟨⟨(1 : Int32), I6, rfl, (Option.some.inj h).symm, gEnd ht hP⟩, hS.F ht⟩) hS.2.2 dX8_isText_69 hlk
  have hL14 : ∀ (fuel : Nat) (I5 : Nat → Nat → Int32) (H : Heap) (locs : List Loc) (ls : Array Slot), f_X8_isText_L14  fuel I5 = some I6 → va_P (dC, dI) vwCl (hW N ca b I5 O J) H → va_S A s.heap H locs → lv_has ls 1 [(0, .ref (b 129))] → W p l e (headSpec wsX8_isText ({ frames := 4, cells := 0, slots := 0, locals := 89 } : Room)).room s m ([.ref (b 129)] : List Value).toArray below meth c H locs 0 0 (MQ below (va_Qi (fun (r : Int32) (u : Nat → Nat → Int32) => res = (r, u)) (fun (u : Nat → Nat → Int32) t => va_P (dC, dI) vwCl (hW N ca b u O J) t.heap) A) ([.ref (b 129)] : List Value).toArray s 0 0 A) (F0 m 14 ls []) := by
    intro fuel
    induction fuel with
    | zero =>
      intro I5 H locs ls h hP hS hl
      rw [f_X8_isText_L14] at h
      cases h
    | succ fuel ih =>
      intro I5 H locs ls h hP hS hl
      rw [f_X8_isText_L14] at h
      refine lv_aload_n hx hb dX8_isText_14 rfl (lv_at hl 0 rfl) ?_
      refine gg8_11 X hP kc_129 (sk_in hN kc_129 (by decide)) hi8 (List.mem_of_getElem? (i := 2) rfl) dX8_isText_15 ?_
      refine lv_if_ne (tgt := 57) hx hb dX8_isText_18 (by decide) (fun c17 => ?_) (fun c17 => ?_)
      · have h := gif_f c17 h
        cases h
        exact K57 _ _ _ hP hS (lv_sub hl [0] rfl)
      · have h := gif_t c17 h
        refine lv_aload_n hx hb dX8_isText_21 rfl (lv_at hl 0 rfl) ?_
        refine gg8_10 X hP kc_129 (sk_in hN kc_129 (by decide)) hi8 (List.mem_of_getElem? (i := 1) rfl) dX8_isText_22 ?_
        refine lv_aload_n hx hb dX8_isText_25 rfl (lv_at hl 0 rfl) ?_
        refine gg8_7 X hP kc_129 (sk_in hN kc_129 (by decide)) hi8 (List.mem_of_getElem? (i := 3) rfl) dX8_isText_26 ?_
        refine lv_icmp_ge (tgt := 57) hx hb dX8_isText_29 (by decide) (fun c16 => ?_) (fun c16 => ?_)
        · have h := gif_t c16 h
          cases h
          exact K57 _ _ _ hP hS (lv_sub hl [0] rfl)
        · have h := gif_f c16 h
          refine lv_aload_n hx hb dX8_isText_32 rfl (lv_at hl 0 rfl) ?_
          refine lv_aload_n hx hb dX8_isText_33 rfl (lv_at hl 0 rfl) ?_
          obtain ⟨q9, hcq9, h⟩ := hb_some h
          refine gdV_i (As := []) (rest := [.ref (b 129)]) (BH := (fun (u : Unit) H => va_P (dC, dI) vwCl (hW N ca b I5 O J) H)) X hP hS (c_X8_next hN hA I5 O J q9 hcq9) (cwV 0 X.ts gX8_isText_X8_next rfl rfl rfl (by decide +kernel) ⟨Nat.le_of_ble_eq_true rfl, Nat.le_of_ble_eq_true rfl⟩) (gr8 X hP kc_129 (sk_in hN kc_129 (by decide))) rfl hl.1 rfl (Nat.le_of_ble_eq_true rfl) dX8_isText_34 ⟨Nat.le_of_ble_eq_true rfl, Nat.le_of_ble_eq_true rfl⟩ (fun r8 u9 H locs hw hP hS => ?_)
          have hw := hw.symm
          subst hw
          refine lv_bipush (v := 59) hx hb dX8_isText_37 (by decide) ?_
          obtain ⟨p10, hv, h⟩ := hb_some h
          have K47 : ∀ (H : Heap) (locs : List Loc) (ls : Array Slot), va_P (dC, dI) vwCl (hW N ca b I5 O J) H → va_S A s.heap H locs → lv_has ls 1 [(0, .ref (b 129))] → W p l e (headSpec wsX8_isText ({ frames := 4, cells := 0, slots := 0, locals := 89 } : Room)).room s m ([.ref (b 129)] : List Value).toArray below meth c H locs 0 0 (MQ below (va_Qi (fun (r : Int32) (u : Nat → Nat → Int32) => res = (r, u)) (fun (u : Nat → Nat → Int32) t => va_P (dC, dI) vwCl (hW N ca b u O J) t.heap) A) ([.ref (b 129)] : List Value).toArray s 0 0 A) (F0 m 47 ls [.int p10, .ref (b 129)]) := by
            intro H locs ls hP hS hl
            obtain ⟨q12, hcq12, h⟩ := hb_some h
            refine gdV_v (As := [.int p10]) (rest := []) (BH := (fun (u : Nat → Nat → Int32) H => va_P (dC, dI) vwCl (hW N ca b u O J) H)) X hP hS (c_X8_sign hN hA I5 O J p10 q12 hcq12) (cwV 1 X.ts gX8_isText_X8_sign rfl rfl rfl (by decide +kernel) ⟨Nat.le_of_ble_eq_true rfl, Nat.le_of_ble_eq_true rfl⟩) (gr8 X hP kc_129 (sk_in hN kc_129 (by decide))) rfl hl.1 rfl (Nat.le_of_ble_eq_true rfl) dX8_isText_47 ⟨Nat.le_of_ble_eq_true rfl, Nat.le_of_ble_eq_true rfl⟩ (fun I11 H locs hw hP hS => ?_)
            have hw := hw.symm
            subst hw
            refine lv_aload_n hx hb dX8_isText_50 rfl (lv_at hl 0 rfl) ?_
            obtain ⟨q14, hcq14, h⟩ := hb_some h
            refine gdV_v (As := []) (rest := []) (BH := (fun (u : Nat → Nat → Int32) H => va_P (dC, dI) vwCl (hW N ca b u O J) H)) X hP hS (c_X8_part hN hA I11 O J q14 hcq14) (cwV 0 X.ts gX8_isText_X8_part rfl rfl rfl (by decide +kernel) ⟨Nat.le_of_ble_eq_true rfl, Nat.le_of_ble_eq_true rfl⟩) (gr8 X hP kc_129 (sk_in hN kc_129 (by decide))) rfl hl.1 rfl (Nat.le_of_ble_eq_true rfl) dX8_isText_51 ⟨Nat.le_of_ble_eq_true rfl, Nat.le_of_ble_eq_true rfl⟩ (fun I13 H locs hw hP hS => ?_)
            have hw := hw.symm
            subst hw
            refine lv_goto (tgt := 14) hx hb dX8_isText_54 (by decide) ?_
            exact ih _ _ _ _ h hP hS (lv_sub hl [0] rfl)
          have h := hv
          refine lv_icmp_ne (tgt := 46) hx hb dX8_isText_39 (by decide) (fun c15 => ?_) (fun c15 => ?_)
          · have h := gif_f c15 h
            refine lv_iconst (v := 0) hx hb dX8_isText_46 (by decide) ?_
            cases h
            exact K47 _ _ _ hP hS (lv_sub hl [0] rfl)
          · have h := gif_t c15 h
            refine lv_iconst (v := 1) hx hb dX8_isText_42 (by decide) ?_
            refine lv_goto (tgt := 47) hx hb dX8_isText_43 (by decide) ?_
            cases h
            exact K47 _ _ _ hP hS (lv_sub hl [0] rfl)
  exact hL14 FU _ _ _ _ hv hP hS (lv_sub hl [0] rfl)
def f_X8_firstError (I : Nat → Nat → Int32) : Option (Int32 × (Nat → Nat → Int32)) :=
  hlet (gup I 129 8 (0 : Int32)) fun I1 =>
  (f_X8_isText I1).bind fun (r3, I2) =>
  if r3 = 0 then
    some ((I2 129 10), I2)
  else
    some ((I2 129 7), I2)
set_option maxHeartbeats 8000000 in
set_option maxRecDepth 100000 in
theorem c_X8_firstError {l : Launch} {dC : Nat → ClassId} {dI : Nat → Nat → Nat} {ca : Nat → ClassId} {b : Nat → Nat} {A : Nat → Prop} {N : Nat} (hN : 138 ≤ N) (hA : gAd A b N) (I : Nat → Nat → Int32) (O : Nat → Nat → Option Nat) (J : Nat → Nat → Int64) (res : Int32 × (Nat → Nat → Int32)) (h : f_X8_firstError I = some res) : Met l yX8_firstError wsX8_firstError ({ frames := 5, cells := 0, slots := 0, locals := 109 } : Room) (va_Pc [.ref (b 129)] (gPre dC dI ca b A N I O J)) (va_Qi (fun (r : Int32) (u : Nat → Nat → Int32) => res = (r, u)) (fun (u : Nat → Nat → Int32) t => va_P (dC, dI) vwCl (hW N ca b u O J) t.heap) A) 0 0 A := by
  refine Met.ofW (cc := cX8_firstError) (maxL := 1) (ret := (some .int)) (by decide) rfl ?_
  intro p e s m args below meth c s₁ B hml hv
  obtain ⟨rfl, hP, hK, hA2, hth⟩ := hv
  have hx := B.exec
  have hb := B.bytes
  have hr := B.returns
  have hlk := B.notSynchronized
  have X : gCx p s m ([.ref (b 129)] : List Value).toArray c RX8 cX8_firstError wsX8_firstError 1 dC dI ca b A N := ⟨hx, hb, hml, findClass_of_methodNamed B.named, atoms_spec (ws := wsX8_firstError) B.pre, hK, hA, hA2, hth⟩
  have hi8 : ∀ w ∈ wsX80, w ∈ wsX8_firstError := (fun w h => List.mem_cons_of_mem _ (List.mem_append_right _ h))
  have hS : va_S A s.heap s.heap [] := va_S.rf
  have hl := lv_entry ([.ref (b 129)] : List Value) (n := 1) (Nat.le_of_ble_eq_true rfl)
  rw [lg_entry_eq]
  generalize (lg_sl ([.ref (b 129)] : List Value) ++ List.replicate (1 - (lg_sl ([.ref (b 129)] : List Value)).length) Slot.unset).toArray = ls at hl ⊢
  have hl : lv_has ls 1 [(0, .ref (b 129))] := hl
  unfold f_X8_firstError at h
  refine lv_aload_n hx hb dX8_firstError_0 rfl (lv_at hl 0 rfl) ?_
  refine lv_iconst (v := 0) hx hb dX8_firstError_1 (by decide) ?_
  refine gp8_8 X hP hS kc_129 (sk_in hN kc_129 (by decide)) hi8 (List.mem_of_getElem? (i := 1) rfl) dX8_firstError_2 (fun H locs hP hS => ?_)
  obtain ⟨I1, eI1, h⟩ := hlet_ex h
  rw [← eI1] at hP
  refine lv_aload_n hx hb dX8_firstError_5 rfl (lv_at hl 0 rfl) ?_
  obtain ⟨q4, hcq4, h⟩ := hb_some h
  refine gdV_i (As := []) (rest := []) (BH := (fun (u : Nat → Nat → Int32) H => va_P (dC, dI) vwCl (hW N ca b u O J) H)) X hP hS (c_X8_isText hN hA I1 O J q4 hcq4) (cwV 0 X.ts gX8_firstError_X8_isText rfl rfl rfl (by decide +kernel) ⟨Nat.le_of_ble_eq_true rfl, Nat.le_of_ble_eq_true rfl⟩) (gr8 X hP kc_129 (sk_in hN kc_129 (by decide))) rfl hl.1 rfl (Nat.le_of_ble_eq_true rfl) dX8_firstError_6 ⟨Nat.le_of_ble_eq_true rfl, Nat.le_of_ble_eq_true rfl⟩ (fun r3 I2 H locs hw hP hS => ?_)
  subst hw
  refine lv_if_eq (tgt := 19) hx hb dX8_firstError_9 (by decide) (fun c5 => ?_) (fun c5 => ?_)
  · have h := gif_t c5 h
    refine lv_aload_n hx hb dX8_firstError_19 rfl (lv_at hl 0 rfl) ?_
    refine gg8_10 X hP kc_129 (sk_in hN kc_129 (by decide)) hi8 (List.mem_of_getElem? (i := 3) rfl) dX8_firstError_20 ?_
    exact W.iret hx hb hr (fun t9 ht hW => ⟨⟨(I2 129 10), I2, rfl, (Option.some.inj h).symm, gEnd ht hP⟩, hS.F ht⟩) hS.2.2 dX8_firstError_23 hlk
  · have h := gif_f c5 h
    refine lv_aload_n hx hb dX8_firstError_12 rfl (lv_at hl 0 rfl) ?_
    refine gg8_7 X hP kc_129 (sk_in hN kc_129 (by decide)) hi8 (List.mem_of_getElem? (i := 2) rfl) dX8_firstError_13 ?_
    refine lv_goto (tgt := 23) hx hb dX8_firstError_16 (by decide) ?_
    exact W.iret hx hb hr (fun t9 ht hW => ⟨⟨(I2 129 7), I2, rfl, (Option.some.inj h).symm, gEnd ht hP⟩, hS.F ht⟩) hS.2.2 dX8_firstError_23 hlk
def f_X8_can (I : Nat → Nat → Int32) : Option (Int32) :=
  if (I 129 12) = (99 : Int32) then
    some (1 : Int32)
  else
    if (I 129 12) = (116 : Int32) then
      if (I 130 ((150 : Int32).toNatClampNeg)) = (1 : Int32) then
        some (1 : Int32)
      else
        some (0 : Int32)
    else
      (f_X8_isBird (I 129 13) I).bind fun r1 =>
      if r1 = 0 then
        some (0 : Int32)
      else
        if (I 129 12) = (112 : Int32) then
          some (1 : Int32)
        else
          (f_X8_isOver (I 129 13) I).bind fun r3 =>
          if r3 = 0 then
            some (1 : Int32)
          else
            some (0 : Int32)
set_option maxHeartbeats 8000000 in
set_option maxRecDepth 100000 in
theorem c_X8_can {l : Launch} {dC : Nat → ClassId} {dI : Nat → Nat → Nat} {ca : Nat → ClassId} {b : Nat → Nat} {A : Nat → Prop} {N : Nat} (hN : 138 ≤ N) (hA : gAd A b N) (I : Nat → Nat → Int32) (O : Nat → Nat → Option Nat) (J : Nat → Nat → Int64) (res : Int32) (h : f_X8_can I = some res) : Met l yX8_can wsX8_can ({ frames := 2, cells := 0, slots := 0, locals := 43 } : Room) (va_Pc [.ref (b 129)] (gPre dC dI ca b A N I O J)) (va_Qi (fun (r : Int32) (u : Unit) => res = r) (fun (u : Unit) t => va_P (dC, dI) vwCl (hW N ca b I O J) t.heap) A) 0 0 A := by
  refine Met.ofW (cc := cX8_can) (maxL := 1) (ret := (some .boolean)) (by decide) rfl ?_
  intro p e s m args below meth c s₁ B hml hv
  obtain ⟨rfl, hP, hK, hA2, hth⟩ := hv
  have hx := B.exec
  have hb := B.bytes
  have hr := B.returns
  have hlk := B.notSynchronized
  have X : gCx p s m ([.ref (b 129)] : List Value).toArray c RX8 cX8_can wsX8_can 1 dC dI ca b A N := ⟨hx, hb, hml, findClass_of_methodNamed B.named, atoms_spec (ws := wsX8_can) B.pre, hK, hA, hA2, hth⟩
  have hi8 : ∀ w ∈ wsX80, w ∈ wsX8_can := (fun w h => List.mem_cons_of_mem _ (List.mem_append_right _ h))
  have hS : va_S A s.heap s.heap [] := va_S.rf
  have hl := lv_entry ([.ref (b 129)] : List Value) (n := 1) (Nat.le_of_ble_eq_true rfl)
  rw [lg_entry_eq]
  generalize (lg_sl ([.ref (b 129)] : List Value) ++ List.replicate (1 - (lg_sl ([.ref (b 129)] : List Value)).length) Slot.unset).toArray = ls at hl ⊢
  have hl : lv_has ls 1 [(0, .ref (b 129))] := hl
  unfold f_X8_can at h
  refine lv_aload_n hx hb dX8_can_0 rfl (lv_at hl 0 rfl) ?_
  refine gg8_12 X hP kc_129 (sk_in hN kc_129 (by decide)) hi8 (List.mem_of_getElem? (i := 1) rfl) dX8_can_1 ?_
  refine lv_bipush (v := 99) hx hb dX8_can_4 (by decide) ?_
  refine lv_icmp_ne (tgt := 11) hx hb dX8_can_6 (by decide) (fun c10 => ?_) (fun c10 => ?_)
  · have h := gif_f c10 h
    refine lv_aload_n hx hb dX8_can_11 rfl (lv_at hl 0 rfl) ?_
    refine gg8_12 X hP kc_129 (sk_in hN kc_129 (by decide)) hi8 (List.mem_of_getElem? (i := 1) rfl) dX8_can_12 ?_
    refine lv_bipush (v := 116) hx hb dX8_can_15 (by decide) ?_
    refine lv_icmp_ne (tgt := 40) hx hb dX8_can_17 (by decide) (fun c9 => ?_) (fun c9 => ?_)
    · have h := gif_f c9 h
      refine lv_aload_n hx hb dX8_can_40 rfl (lv_at hl 0 rfl) ?_
      refine lv_aload_n hx hb dX8_can_41 rfl (lv_at hl 0 rfl) ?_
      refine gg8_13 X hP kc_129 (sk_in hN kc_129 (by decide)) hi8 (List.mem_of_getElem? (i := 3) rfl) dX8_can_42 ?_
      obtain ⟨q2, hcq2, h⟩ := hb_some h
      refine gdV_i (As := [.int (I 129 13)]) (rest := []) (BH := (fun (u : Unit) H => va_P (dC, dI) vwCl (hW N ca b I O J) H)) X hP hS (c_X8_isBird hN hA I O J (I 129 13) q2 hcq2) (cwV 1 X.ts gX8_can_X8_isBird rfl rfl rfl (by decide +kernel) ⟨Nat.le_of_ble_eq_true rfl, Nat.le_of_ble_eq_true rfl⟩) (gr8 X hP kc_129 (sk_in hN kc_129 (by decide))) rfl hl.1 rfl (Nat.le_of_ble_eq_true rfl) dX8_can_45 ⟨Nat.le_of_ble_eq_true rfl, Nat.le_of_ble_eq_true rfl⟩ (fun r1 u9 H locs hw hP hS => ?_)
      have hw := hw.symm
      subst hw
      refine lv_if_eq (tgt := 75) hx hb dX8_can_48 (by decide) (fun c7 => ?_) (fun c7 => ?_)
      · have h := gif_t c7 h
        refine lv_iconst (v := 0) hx hb dX8_can_75 (by decide) ?_
        exact W.zret (ty := .boolean) hx hb hr (by decide) (fun t9 ht hW => ⟨⟨(0 : Int32), (), rfl, (Option.some.inj h).symm, gEnd ht hP⟩, hS.F ht⟩) hS.2.2 dX8_can_76 hlk
      · have h := gif_f c7 h
        refine lv_aload_n hx hb dX8_can_51 rfl (lv_at hl 0 rfl) ?_
        refine gg8_12 X hP kc_129 (sk_in hN kc_129 (by decide)) hi8 (List.mem_of_getElem? (i := 1) rfl) dX8_can_52 ?_
        refine lv_bipush (v := 112) hx hb dX8_can_55 (by decide) ?_
        refine lv_icmp_eq (tgt := 71) hx hb dX8_can_57 (by decide) (fun c6 => ?_) (fun c6 => ?_)
        · have h := gif_t c6 h
          refine lv_iconst (v := 1) hx hb dX8_can_71 (by decide) ?_
          refine lv_goto (tgt := 76) hx hb dX8_can_72 (by decide) ?_
          exact W.zret (ty := .boolean) hx hb hr (by decide) (fun t9 ht hW => ⟨⟨(1 : Int32), (), rfl, (Option.some.inj h).symm, gEnd ht hP⟩, hS.F ht⟩) hS.2.2 dX8_can_76 hlk
        · have h := gif_f c6 h
          refine lv_aload_n hx hb dX8_can_60 rfl (lv_at hl 0 rfl) ?_
          refine lv_aload_n hx hb dX8_can_61 rfl (lv_at hl 0 rfl) ?_
          refine gg8_13 X hP kc_129 (sk_in hN kc_129 (by decide)) hi8 (List.mem_of_getElem? (i := 3) rfl) dX8_can_62 ?_
          obtain ⟨q4, hcq4, h⟩ := hb_some h
          refine gdV_i (As := [.int (I 129 13)]) (rest := []) (BH := (fun (u : Unit) H => va_P (dC, dI) vwCl (hW N ca b I O J) H)) X hP hS (c_X8_isOver hN hA I O J (I 129 13) q4 hcq4) (cwV 1 X.ts gX8_can_X8_isOver rfl rfl rfl (by decide +kernel) ⟨Nat.le_of_ble_eq_true rfl, Nat.le_of_ble_eq_true rfl⟩) (gr8 X hP kc_129 (sk_in hN kc_129 (by decide))) rfl hl.1 rfl (Nat.le_of_ble_eq_true rfl) dX8_can_65 ⟨Nat.le_of_ble_eq_true rfl, Nat.le_of_ble_eq_true rfl⟩ (fun r3 u9 H locs hw hP hS => ?_)
          have hw := hw.symm
          subst hw
          refine lv_if_ne (tgt := 75) hx hb dX8_can_68 (by decide) (fun c5 => ?_) (fun c5 => ?_)
          · have h := gif_f c5 h
            refine lv_iconst (v := 0) hx hb dX8_can_75 (by decide) ?_
            exact W.zret (ty := .boolean) hx hb hr (by decide) (fun t9 ht hW => ⟨⟨(0 : Int32), (), rfl, (Option.some.inj h).symm, gEnd ht hP⟩, hS.F ht⟩) hS.2.2 dX8_can_76 hlk
          · have h := gif_t c5 h
            refine lv_iconst (v := 1) hx hb dX8_can_71 (by decide) ?_
            refine lv_goto (tgt := 76) hx hb dX8_can_72 (by decide) ?_
            exact W.zret (ty := .boolean) hx hb hr (by decide) (fun t9 ht hW => ⟨⟨(1 : Int32), (), rfl, (Option.some.inj h).symm, gEnd ht hP⟩, hS.F ht⟩) hS.2.2 dX8_can_76 hlk
    · have h := gif_t c9 h
      refine lv_aload_n hx hb dX8_can_20 rfl (lv_at hl 0 rfl) ?_
      refine gg8_0 X hP kc_129 (sk_in hN kc_129 (by decide)) hi8 (List.mem_of_getElem? (i := 2) rfl) dX8_can_21 ?_
      refine lv_sipush (v := 150) hx hb dX8_can_24 (by decide) ?_
      refine ga20 X hP kc_130 (sk_in hN kc_130 (by decide)) (L := 151) (by decide) (by decide) dX8_can_27 ?_
      refine lv_iconst (v := 1) hx hb dX8_can_28 (by decide) ?_
      refine lv_icmp_ne (tgt := 36) hx hb dX8_can_29 (by decide) (fun c8 => ?_) (fun c8 => ?_)
      · have h := gif_f c8 h
        refine lv_iconst (v := 0) hx hb dX8_can_36 (by decide) ?_
        refine lv_goto (tgt := 76) hx hb dX8_can_37 (by decide) ?_
        exact W.zret (ty := .boolean) hx hb hr (by decide) (fun t9 ht hW => ⟨⟨(0 : Int32), (), rfl, (Option.some.inj h).symm, gEnd ht hP⟩, hS.F ht⟩) hS.2.2 dX8_can_76 hlk
      · have h := gif_t c8 h
        refine lv_iconst (v := 1) hx hb dX8_can_32 (by decide) ?_
        refine lv_goto (tgt := 76) hx hb dX8_can_33 (by decide) ?_
        exact W.zret (ty := .boolean) hx hb hr (by decide) (fun t9 ht hW => ⟨⟨(1 : Int32), (), rfl, (Option.some.inj h).symm, gEnd ht hP⟩, hS.F ht⟩) hS.2.2 dX8_can_76 hlk
  · have h := gif_t c10 h
    refine lv_iconst (v := 1) hx hb dX8_can_9 (by decide) ?_
    exact W.zret (ty := .boolean) hx hb hr (by decide) (fun t9 ht hW => ⟨⟨(1 : Int32), (), rfl, (Option.some.inj h).symm, gEnd ht hP⟩, hS.F ht⟩) hS.2.2 dX8_can_10 hlk
def f_X8_followsAll_L12 : Nat → Int32 → (Nat → Nat → Int32) → Option (Int32 × (Nat → Nat → Int32))
  | 0, _, _ => none
  | fuel + 1, p3, I4 =>
    if (I4 129 7) ≤ (I4 129 10) then
      some (p3, I4)
    else
      (f_X8_part I4).bind fun I5 =>
      hlet (gup I5 129 10 ((I5 129 10) + (1 : Int32))) fun I7 =>
      (f_X8_can I7).bind fun r8 =>
      if r8 = 0 then
        some ((-1 : Int32), I7)
      else
        (show Option (Int32 × (Nat → Nat → Int32)) from
          if (I7 129 12) = (112 : Int32) then
            (f_X8_setsPace (I7 129 13) (I7 129 14) I7).bind fun (r25, I24) =>
            some (r25, I24)
          else
            if (I7 129 12) = (110 : Int32) then
              (f_X8_calls (I7 129 13) I7).bind fun (r21, I20) =>
              some (r21, I20)
            else
              if (I7 129 12) = (99 : Int32) then
                (f_X8_sets ((129 : Int32) + (I7 129 13)) (I7 129 14) I7).bind fun (r17, I16) =>
                some (r17, I16)
              else
                (f_X8_passes (I7 129 14) I7).bind fun (r14, I13) =>
                some (r14, I13)).bind fun (p10, I11) =>
        hlet (p3 + 1) fun x12 =>
        f_X8_followsAll_L12 fuel x12 I11
def f_X8_followsAll (I : Nat → Nat → Int32) : Option (Int32 × (Nat → Nat → Int32)) :=
  hlet (gup I 129 10 (0 : Int32)) fun I1 =>
  hlet (gup I1 129 11 (0 : Int32)) fun I2 =>
  f_X8_followsAll_L12  FU (0 : Int32) I2
set_option maxHeartbeats 8000000 in
set_option maxRecDepth 100000 in
theorem c_X8_followsAll {l : Launch} {dC : Nat → ClassId} {dI : Nat → Nat → Nat} {ca : Nat → ClassId} {b : Nat → Nat} {A : Nat → Prop} {N : Nat} (hN : 138 ≤ N) (hA : gAd A b N) (I : Nat → Nat → Int32) (O : Nat → Nat → Option Nat) (J : Nat → Nat → Int64) (res : Int32 × (Nat → Nat → Int32)) (h : f_X8_followsAll I = some res) : Met l yX8_followsAll wsX8_followsAll ({ frames := 7, cells := 0, slots := 0, locals := 173 } : Room) (va_Pc [.ref (b 129)] (gPre dC dI ca b A N I O J)) (va_Qi (fun (r : Int32) (u : Nat → Nat → Int32) => res = (r, u)) (fun (u : Nat → Nat → Int32) t => va_P (dC, dI) vwCl (hW N ca b u O J) t.heap) A) 0 0 A := by
  refine Met.ofW (cc := cX8_followsAll) (maxL := 3) (ret := (some .int)) (by decide) rfl ?_
  intro p e s m args below meth c s₁ B hml hv
  obtain ⟨rfl, hP, hK, hA2, hth⟩ := hv
  have hx := B.exec
  have hb := B.bytes
  have hr := B.returns
  have hlk := B.notSynchronized
  have X : gCx p s m ([.ref (b 129)] : List Value).toArray c RX8 cX8_followsAll wsX8_followsAll 3 dC dI ca b A N := ⟨hx, hb, hml, findClass_of_methodNamed B.named, atoms_spec (ws := wsX8_followsAll) B.pre, hK, hA, hA2, hth⟩
  have hi8 : ∀ w ∈ wsX80, w ∈ wsX8_followsAll := (fun w h => List.mem_cons_of_mem _ (List.mem_append_right _ h))
  have hS : va_S A s.heap s.heap [] := va_S.rf
  have hl := lv_entry ([.ref (b 129)] : List Value) (n := 3) (Nat.le_of_ble_eq_true rfl)
  rw [lg_entry_eq]
  generalize (lg_sl ([.ref (b 129)] : List Value) ++ List.replicate (3 - (lg_sl ([.ref (b 129)] : List Value)).length) Slot.unset).toArray = ls at hl ⊢
  have hl : lv_has ls 3 [(0, .ref (b 129))] := hl
  unfold f_X8_followsAll at h
  refine lv_iconst (v := 0) hx hb dX8_followsAll_0 (by decide) ?_
  refine lv_istore_n (lv' := [(1, .int (0 : Int32)), (0, .ref (b 129))]) hx hb dX8_followsAll_1 rfl hl (by decide) rfl (fun ls hl => ?_)
  refine lv_aload_n hx hb dX8_followsAll_2 rfl (lv_at hl 1 rfl) ?_
  refine lv_iconst (v := 0) hx hb dX8_followsAll_3 (by decide) ?_
  refine gp8_10 X hP hS kc_129 (sk_in hN kc_129 (by decide)) hi8 (List.mem_of_getElem? (i := 1) rfl) dX8_followsAll_4 (fun H locs hP hS => ?_)
  obtain ⟨I1, eI1, h⟩ := hlet_ex h
  rw [← eI1] at hP
  refine lv_aload_n hx hb dX8_followsAll_7 rfl (lv_at hl 1 rfl) ?_
  refine lv_iconst (v := 0) hx hb dX8_followsAll_8 (by decide) ?_
  refine gp8_11 X hP hS kc_129 (sk_in hN kc_129 (by decide)) hi8 (List.mem_of_getElem? (i := 2) rfl) (by decide) dX8_followsAll_9 (fun H locs hP hS => ?_)
  obtain ⟨I2, eI2, h⟩ := hlet_ex h
  rw [← eI2] at hP
  have hL12 : ∀ (fuel : Nat) (p3 : Int32) (I4 : Nat → Nat → Int32) (H : Heap) (locs : List Loc) (ls : Array Slot), f_X8_followsAll_L12  fuel p3 I4 = some res → va_P (dC, dI) vwCl (hW N ca b I4 O J) H → va_S A s.heap H locs → lv_has ls 3 [(0, .ref (b 129)), (1, .int p3)] → W p l e (headSpec wsX8_followsAll ({ frames := 7, cells := 0, slots := 0, locals := 173 } : Room)).room s m ([.ref (b 129)] : List Value).toArray below meth c H locs 0 0 (MQ below (va_Qi (fun (r : Int32) (u : Nat → Nat → Int32) => res = (r, u)) (fun (u : Nat → Nat → Int32) t => va_P (dC, dI) vwCl (hW N ca b u O J) t.heap) A) ([.ref (b 129)] : List Value).toArray s 0 0 A) (F0 m 12 ls []) := by
    intro fuel
    induction fuel with
    | zero =>
      intro p3 I4 H locs ls h hP hS hl
      rw [f_X8_followsAll_L12] at h
      cases h
    | succ fuel ih =>
      intro p3 I4 H locs ls h hP hS hl
      rw [f_X8_followsAll_L12] at h
      refine lv_aload_n hx hb dX8_followsAll_12 rfl (lv_at hl 0 rfl) ?_
      refine gg8_10 X hP kc_129 (sk_in hN kc_129 (by decide)) hi8 (List.mem_of_getElem? (i := 1) rfl) dX8_followsAll_13 ?_
      refine lv_aload_n hx hb dX8_followsAll_16 rfl (lv_at hl 0 rfl) ?_
      refine gg8_7 X hP kc_129 (sk_in hN kc_129 (by decide)) hi8 (List.mem_of_getElem? (i := 3) rfl) dX8_followsAll_17 ?_
      refine lv_icmp_ge (tgt := 133) hx hb dX8_followsAll_20 (by decide) (fun c29 => ?_) (fun c29 => ?_)
      · have h := gif_t c29 h
        refine lv_iload_n hx hb dX8_followsAll_133 rfl (lv_at hl 1 rfl) ?_
        exact W.iret hx hb hr (fun t9 ht hW => ⟨⟨p3, I4, rfl, (Option.some.inj h).symm, gEnd ht hP⟩, hS.F ht⟩) hS.2.2 dX8_followsAll_134 hlk
      · have h := gif_f c29 h
        refine lv_aload_n hx hb dX8_followsAll_23 rfl (lv_at hl 0 rfl) ?_
        obtain ⟨q6, hcq6, h⟩ := hb_some h
        refine gdV_v (As := []) (rest := []) (BH := (fun (u : Nat → Nat → Int32) H => va_P (dC, dI) vwCl (hW N ca b u O J) H)) X hP hS (c_X8_part hN hA I4 O J q6 hcq6) (cwV 0 X.ts gX8_followsAll_X8_part rfl rfl rfl (by decide +kernel) ⟨Nat.le_of_ble_eq_true rfl, Nat.le_of_ble_eq_true rfl⟩) (gr8 X hP kc_129 (sk_in hN kc_129 (by decide))) rfl hl.1 rfl (Nat.le_of_ble_eq_true rfl) dX8_followsAll_24 ⟨Nat.le_of_ble_eq_true rfl, Nat.le_of_ble_eq_true rfl⟩ (fun I5 H locs hw hP hS => ?_)
        have hw := hw.symm
        subst hw
        refine lv_aload_n hx hb dX8_followsAll_27 rfl (lv_at hl 0 rfl) ?_
        refine lv_dup hx hb dX8_followsAll_28 rfl ?_
        refine gg8_10 X hP kc_129 (sk_in hN kc_129 (by decide)) hi8 (List.mem_of_getElem? (i := 1) rfl) dX8_followsAll_29 ?_
        refine lv_iconst (v := 1) hx hb dX8_followsAll_32 (by decide) ?_
        refine lv_iadd hx hb dX8_followsAll_33 ?_
        refine gp8_10 X hP hS kc_129 (sk_in hN kc_129 (by decide)) hi8 (List.mem_of_getElem? (i := 1) rfl) dX8_followsAll_34 (fun H locs hP hS => ?_)
        obtain ⟨I7, eI7, h⟩ := hlet_ex h
        rw [← eI7] at hP
        refine lv_aload_n hx hb dX8_followsAll_37 rfl (lv_at hl 0 rfl) ?_
        obtain ⟨q9, hcq9, h⟩ := hb_some h
        refine gdV_i (As := []) (rest := []) (BH := (fun (u : Unit) H => va_P (dC, dI) vwCl (hW N ca b I7 O J) H)) X hP hS (c_X8_can hN hA I7 O J q9 hcq9) (cwV 0 X.ts gX8_followsAll_X8_can rfl rfl rfl (by decide +kernel) ⟨Nat.le_of_ble_eq_true rfl, Nat.le_of_ble_eq_true rfl⟩) (gr8 X hP kc_129 (sk_in hN kc_129 (by decide))) rfl hl.1 rfl (Nat.le_of_ble_eq_true rfl) dX8_followsAll_38 ⟨Nat.le_of_ble_eq_true rfl, Nat.le_of_ble_eq_true rfl⟩ (fun r8 u9 H locs hw hP hS => ?_)
        have hw := hw.symm
        subst hw
        refine lv_if_ne (tgt := 46) hx hb dX8_followsAll_41 (by decide) (fun c28 => ?_) (fun c28 => ?_)
        · have h := gif_f c28 h
          refine lv_aload_n hx hb dX8_followsAll_46 rfl (lv_at hl 0 rfl) ?_
          refine gg8_12 X hP kc_129 (sk_in hN kc_129 (by decide)) hi8 (List.mem_of_getElem? (i := 4) rfl) dX8_followsAll_47 ?_
          refine lv_bipush (v := 112) hx hb dX8_followsAll_50 (by decide) ?_
          obtain ⟨⟨p10, I11⟩, hv, h⟩ := hb_some h
          have K126 : ∀ (H : Heap) (locs : List Loc) (ls : Array Slot), va_P (dC, dI) vwCl (hW N ca b I11 O J) H → va_S A s.heap H locs → lv_has ls 3 [(0, .ref (b 129)), (1, .int p3)] → W p l e (headSpec wsX8_followsAll ({ frames := 7, cells := 0, slots := 0, locals := 173 } : Room)).room s m ([.ref (b 129)] : List Value).toArray below meth c H locs 0 0 (MQ below (va_Qi (fun (r : Int32) (u : Nat → Nat → Int32) => res = (r, u)) (fun (u : Nat → Nat → Int32) t => va_P (dC, dI) vwCl (hW N ca b u O J) t.heap) A) ([.ref (b 129)] : List Value).toArray s 0 0 A) (F0 m 126 ls [.int p10]) := by
            intro H locs ls hP hS hl
            refine lv_istore_n (lv' := [(2, .int p10), (0, .ref (b 129)), (1, .int p3)]) hx hb dX8_followsAll_126 rfl hl (by decide) rfl (fun ls hl => ?_)
            obtain ⟨x12, ex12, h⟩ := hlet_ex h
            refine lv_iinc (v := x12) (lv' := [(1, .int x12), (2, .int p10), (0, .ref (b 129))]) hx hb dX8_followsAll_127 hl (k := 2) rfl (by rw [ex12]; rfl) (by decide) rfl (fun ls hl => ?_)
            refine lv_goto (tgt := 12) hx hb dX8_followsAll_130 (by decide) ?_
            exact ih _ _ _ _ _ h hP hS (lv_sub hl [2, 0] rfl)
          have h := hv
          refine lv_icmp_ne (tgt := 70) hx hb dX8_followsAll_52 (by decide) (fun c27 => ?_) (fun c27 => ?_)
          · have h := gif_f c27 h
            refine lv_aload_n hx hb dX8_followsAll_70 rfl (lv_at hl 0 rfl) ?_
            refine gg8_12 X hP kc_129 (sk_in hN kc_129 (by decide)) hi8 (List.mem_of_getElem? (i := 4) rfl) dX8_followsAll_71 ?_
            refine lv_bipush (v := 110) hx hb dX8_followsAll_74 (by decide) ?_
            refine lv_icmp_ne (tgt := 90) hx hb dX8_followsAll_76 (by decide) (fun c23 => ?_) (fun c23 => ?_)
            · have h := gif_f c23 h
              refine lv_aload_n hx hb dX8_followsAll_90 rfl (lv_at hl 0 rfl) ?_
              refine gg8_12 X hP kc_129 (sk_in hN kc_129 (by decide)) hi8 (List.mem_of_getElem? (i := 4) rfl) dX8_followsAll_91 ?_
              refine lv_bipush (v := 99) hx hb dX8_followsAll_94 (by decide) ?_
              refine lv_icmp_ne (tgt := 118) hx hb dX8_followsAll_96 (by decide) (fun c19 => ?_) (fun c19 => ?_)
              · have h := gif_f c19 h
                refine lv_aload_n hx hb dX8_followsAll_118 rfl (lv_at hl 0 rfl) ?_
                refine lv_aload_n hx hb dX8_followsAll_119 rfl (lv_at hl 0 rfl) ?_
                refine gg8_14 X hP kc_129 (sk_in hN kc_129 (by decide)) hi8 (List.mem_of_getElem? (i := 6) rfl) dX8_followsAll_120 ?_
                obtain ⟨q15, hcq15, h⟩ := hb_some h
                refine gdV_i (As := [.int (I7 129 14)]) (rest := []) (BH := (fun (u : Nat → Nat → Int32) H => va_P (dC, dI) vwCl (hW N ca b u O J) H)) X hP hS (c_X8_passes hN hA I7 O J (I7 129 14) q15 hcq15) (cwV 1 X.ts gX8_followsAll_X8_passes rfl rfl rfl (by decide +kernel) ⟨Nat.le_of_ble_eq_true rfl, Nat.le_of_ble_eq_true rfl⟩) (gr8 X hP kc_129 (sk_in hN kc_129 (by decide))) rfl hl.1 rfl (Nat.le_of_ble_eq_true rfl) dX8_followsAll_123 ⟨Nat.le_of_ble_eq_true rfl, Nat.le_of_ble_eq_true rfl⟩ (fun r14 I13 H locs hw hP hS => ?_)
                subst hw
                cases h
                exact K126 _ _ _ hP hS (lv_sub hl [0, 1] rfl)
              · have h := gif_t c19 h
                refine lv_aload_n hx hb dX8_followsAll_99 rfl (lv_at hl 0 rfl) ?_
                refine lv_sipush (v := 129) hx hb dX8_followsAll_100 (by decide) ?_
                refine lv_aload_n hx hb dX8_followsAll_103 rfl (lv_at hl 0 rfl) ?_
                refine gg8_13 X hP kc_129 (sk_in hN kc_129 (by decide)) hi8 (List.mem_of_getElem? (i := 5) rfl) dX8_followsAll_104 ?_
                refine lv_iadd hx hb dX8_followsAll_107 ?_
                refine lv_aload_n hx hb dX8_followsAll_108 rfl (lv_at hl 0 rfl) ?_
                refine gg8_14 X hP kc_129 (sk_in hN kc_129 (by decide)) hi8 (List.mem_of_getElem? (i := 6) rfl) dX8_followsAll_109 ?_
                obtain ⟨q18, hcq18, h⟩ := hb_some h
                refine gdV_i (As := [.int ((129 : Int32) + (I7 129 13)), .int (I7 129 14)]) (rest := []) (BH := (fun (u : Nat → Nat → Int32) H => va_P (dC, dI) vwCl (hW N ca b u O J) H)) X hP hS (c_X8_sets hN hA I7 O J ((129 : Int32) + (I7 129 13)) (I7 129 14) q18 hcq18) (cwV 2 X.ts gX8_followsAll_X8_sets rfl rfl rfl (by decide +kernel) ⟨Nat.le_of_ble_eq_true rfl, Nat.le_of_ble_eq_true rfl⟩) (gr8 X hP kc_129 (sk_in hN kc_129 (by decide))) rfl hl.1 rfl (Nat.le_of_ble_eq_true rfl) dX8_followsAll_112 ⟨Nat.le_of_ble_eq_true rfl, Nat.le_of_ble_eq_true rfl⟩ (fun r17 I16 H locs hw hP hS => ?_)
                subst hw
                refine lv_goto (tgt := 126) hx hb dX8_followsAll_115 (by decide) ?_
                cases h
                exact K126 _ _ _ hP hS (lv_sub hl [0, 1] rfl)
            · have h := gif_t c23 h
              refine lv_aload_n hx hb dX8_followsAll_79 rfl (lv_at hl 0 rfl) ?_
              refine lv_aload_n hx hb dX8_followsAll_80 rfl (lv_at hl 0 rfl) ?_
              refine gg8_13 X hP kc_129 (sk_in hN kc_129 (by decide)) hi8 (List.mem_of_getElem? (i := 5) rfl) dX8_followsAll_81 ?_
              obtain ⟨q22, hcq22, h⟩ := hb_some h
              refine gdV_i (As := [.int (I7 129 13)]) (rest := []) (BH := (fun (u : Nat → Nat → Int32) H => va_P (dC, dI) vwCl (hW N ca b u O J) H)) X hP hS (c_X8_calls hN hA I7 O J (I7 129 13) q22 hcq22) (cwV 1 X.ts gX8_followsAll_X8_calls rfl rfl rfl (by decide +kernel) ⟨Nat.le_of_ble_eq_true rfl, Nat.le_of_ble_eq_true rfl⟩) (gr8 X hP kc_129 (sk_in hN kc_129 (by decide))) rfl hl.1 rfl (Nat.le_of_ble_eq_true rfl) dX8_followsAll_84 ⟨Nat.le_of_ble_eq_true rfl, Nat.le_of_ble_eq_true rfl⟩ (fun r21 I20 H locs hw hP hS => ?_)
              subst hw
              refine lv_goto (tgt := 126) hx hb dX8_followsAll_87 (by decide) ?_
              cases h
              exact K126 _ _ _ hP hS (lv_sub hl [0, 1] rfl)
          · have h := gif_t c27 h
            refine lv_aload_n hx hb dX8_followsAll_55 rfl (lv_at hl 0 rfl) ?_
            refine lv_aload_n hx hb dX8_followsAll_56 rfl (lv_at hl 0 rfl) ?_
            refine gg8_13 X hP kc_129 (sk_in hN kc_129 (by decide)) hi8 (List.mem_of_getElem? (i := 5) rfl) dX8_followsAll_57 ?_
            refine lv_aload_n hx hb dX8_followsAll_60 rfl (lv_at hl 0 rfl) ?_
            refine gg8_14 X hP kc_129 (sk_in hN kc_129 (by decide)) hi8 (List.mem_of_getElem? (i := 6) rfl) dX8_followsAll_61 ?_
            obtain ⟨q26, hcq26, h⟩ := hb_some h
            refine gdV_i (As := [.int (I7 129 13), .int (I7 129 14)]) (rest := []) (BH := (fun (u : Nat → Nat → Int32) H => va_P (dC, dI) vwCl (hW N ca b u O J) H)) X hP hS (c_X8_setsPace hN hA I7 O J (I7 129 13) (I7 129 14) q26 hcq26) (cwV 2 X.ts gX8_followsAll_X8_setsPace rfl rfl rfl (by decide +kernel) ⟨Nat.le_of_ble_eq_true rfl, Nat.le_of_ble_eq_true rfl⟩) (gr8 X hP kc_129 (sk_in hN kc_129 (by decide))) rfl hl.1 rfl (Nat.le_of_ble_eq_true rfl) dX8_followsAll_64 ⟨Nat.le_of_ble_eq_true rfl, Nat.le_of_ble_eq_true rfl⟩ (fun r25 I24 H locs hw hP hS => ?_)
            subst hw
            refine lv_goto (tgt := 126) hx hb dX8_followsAll_67 (by decide) ?_
            cases h
            exact K126 _ _ _ hP hS (lv_sub hl [0, 1] rfl)
        · have h := gif_t c28 h
          refine lv_iconst (v := (-1)) hx hb dX8_followsAll_44 (by decide) ?_
          exact W.iret hx hb hr (fun t9 ht hW => ⟨⟨(-1 : Int32), I7, rfl, (Option.some.inj h).symm, gEnd ht hP⟩, hS.F ht⟩) hS.2.2 dX8_followsAll_45 hlk
  exact hL12 FU _ _ _ _ _ h hP hS (lv_sub hl [1, 0] rfl)
def f_X8_follow (I : Nat → Nat → Int32) : Option (Int32 × (Nat → Nat → Int32)) :=
  (f_X8_isText I).bind fun (r2, I1) =>
  (show Option (Int32) from
    if r2 = 0 then
      some (1 : Int32)
    else
      some (0 : Int32)).bind fun p4 =>
  (f_X8_refused p4 I1).bind fun (r6, I5) =>
  if r6 = 0 then
    (f_X8_putAside I5).bind fun I8 =>
    (f_X8_followsAll I8).bind fun (r11, I10) =>
    (show Option (Int32) from
      if r11 < 0 then
        some (0 : Int32)
      else
        some (1 : Int32)).bind fun p13 =>
    (f_X8_putBack I10).bind fun I14 =>
    (show Option (Int32) from
      if p13 = 0 then
        some (2 : Int32)
      else
        some (0 : Int32)).bind fun p16 =>
    (f_X8_refused p16 I14).bind fun (r18, I17) =>
    if r18 = 0 then
      (f_X8_records I17).bind fun I20 =>
      (f_X8_followsAll I20).bind fun (r23, I22) =>
      hlet (gup I22 129 7 (0 : Int32)) fun I25 =>
      some (r23, I25)
    else
      some ((0 : Int32), I17)
  else
    some ((0 : Int32), I5)
set_option maxHeartbeats 8000000 in
set_option maxRecDepth 100000 in
theorem c_X8_follow {l : Launch} {dC : Nat → ClassId} {dI : Nat → Nat → Nat} {ca : Nat → ClassId} {b : Nat → Nat} {A : Nat → Prop} {N : Nat} (hN : 138 ≤ N) (hA : gAd A b N) (I : Nat → Nat → Int32) (O : Nat → Nat → Option Nat) (J : Nat → Nat → Int64) (res : Int32 × (Nat → Nat → Int32)) (h : f_X8_follow I = some res) : Met l yX8_follow wsX8_follow ({ frames := 8, cells := 0, slots := 0, locals := 195 } : Room) (va_Pc [.ref (b 129)] (gPre dC dI ca b A N I O J)) (va_Qi (fun (r : Int32) (u : Nat → Nat → Int32) => res = (r, u)) (fun (u : Nat → Nat → Int32) t => va_P (dC, dI) vwCl (hW N ca b u O J) t.heap) A) 0 0 A := by
  refine Met.ofW (cc := cX8_follow) (maxL := 3) (ret := (some .int)) (by decide) rfl ?_
  intro p e s m args below meth c s₁ B hml hv
  obtain ⟨rfl, hP, hK, hA2, hth⟩ := hv
  have hx := B.exec
  have hb := B.bytes
  have hr := B.returns
  have hlk := B.notSynchronized
  have X : gCx p s m ([.ref (b 129)] : List Value).toArray c RX8 cX8_follow wsX8_follow 3 dC dI ca b A N := ⟨hx, hb, hml, findClass_of_methodNamed B.named, atoms_spec (ws := wsX8_follow) B.pre, hK, hA, hA2, hth⟩
  have hi8 : ∀ w ∈ wsX80, w ∈ wsX8_follow := (fun w h => List.mem_cons_of_mem _ (List.mem_append_right _ h))
  have hS : va_S A s.heap s.heap [] := va_S.rf
  have hl := lv_entry ([.ref (b 129)] : List Value) (n := 3) (Nat.le_of_ble_eq_true rfl)
  rw [lg_entry_eq]
  generalize (lg_sl ([.ref (b 129)] : List Value) ++ List.replicate (3 - (lg_sl ([.ref (b 129)] : List Value)).length) Slot.unset).toArray = ls at hl ⊢
  have hl : lv_has ls 3 [(0, .ref (b 129))] := hl
  unfold f_X8_follow at h
  refine lv_aload_n hx hb dX8_follow_0 rfl (lv_at hl 0 rfl) ?_
  refine lv_aload_n hx hb dX8_follow_1 rfl (lv_at hl 0 rfl) ?_
  obtain ⟨q3, hcq3, h⟩ := hb_some h
  refine gdV_i (As := []) (rest := [.ref (b 129)]) (BH := (fun (u : Nat → Nat → Int32) H => va_P (dC, dI) vwCl (hW N ca b u O J) H)) X hP hS (c_X8_isText hN hA I O J q3 hcq3) (cwV 0 X.ts gX8_follow_X8_isText rfl rfl rfl (by decide +kernel) ⟨Nat.le_of_ble_eq_true rfl, Nat.le_of_ble_eq_true rfl⟩) (gr8 X hP kc_129 (sk_in hN kc_129 (by decide))) rfl hl.1 rfl (Nat.le_of_ble_eq_true rfl) dX8_follow_2 ⟨Nat.le_of_ble_eq_true rfl, Nat.le_of_ble_eq_true rfl⟩ (fun r2 I1 H locs hw hP hS => ?_)
  subst hw
  obtain ⟨p4, hv, h⟩ := hb_some h
  have K13 : ∀ (H : Heap) (locs : List Loc) (ls : Array Slot), va_P (dC, dI) vwCl (hW N ca b I1 O J) H → va_S A s.heap H locs → lv_has ls 3 [(0, .ref (b 129))] → W p l e (headSpec wsX8_follow ({ frames := 8, cells := 0, slots := 0, locals := 195 } : Room)).room s m ([.ref (b 129)] : List Value).toArray below meth c H locs 0 0 (MQ below (va_Qi (fun (r : Int32) (u : Nat → Nat → Int32) => res = (r, u)) (fun (u : Nat → Nat → Int32) t => va_P (dC, dI) vwCl (hW N ca b u O J) t.heap) A) ([.ref (b 129)] : List Value).toArray s 0 0 A) (F0 m 13 ls [.int p4, .ref (b 129)]) := by
    intro H locs ls hP hS hl
    obtain ⟨q7, hcq7, h⟩ := hb_some h
    refine gdV_i (As := [.int p4]) (rest := []) (BH := (fun (u : Nat → Nat → Int32) H => va_P (dC, dI) vwCl (hW N ca b u O J) H)) X hP hS (c_X8_refused hN hA I1 O J p4 q7 hcq7) (cwV 1 X.ts gX8_follow_X8_refused rfl rfl rfl (by decide +kernel) ⟨Nat.le_of_ble_eq_true rfl, Nat.le_of_ble_eq_true rfl⟩) (gr8 X hP kc_129 (sk_in hN kc_129 (by decide))) rfl hl.1 rfl (Nat.le_of_ble_eq_true rfl) dX8_follow_13 ⟨Nat.le_of_ble_eq_true rfl, Nat.le_of_ble_eq_true rfl⟩ (fun r6 I5 H locs hw hP hS => ?_)
    subst hw
    refine lv_if_eq (tgt := 21) hx hb dX8_follow_16 (by decide) (fun c29 => ?_) (fun c29 => ?_)
    · have h := gif_t c29 h
      refine lv_aload_n hx hb dX8_follow_21 rfl (lv_at hl 0 rfl) ?_
      obtain ⟨q9, hcq9, h⟩ := hb_some h
      refine gdV_v (As := []) (rest := []) (BH := (fun (u : Nat → Nat → Int32) H => va_P (dC, dI) vwCl (hW N ca b u O J) H)) X hP hS (c_X8_putAside hN hA I5 O J q9 hcq9) (cwV 0 X.ts gX8_follow_X8_putAside rfl rfl rfl (by decide +kernel) ⟨Nat.le_of_ble_eq_true rfl, Nat.le_of_ble_eq_true rfl⟩) (gr8 X hP kc_129 (sk_in hN kc_129 (by decide))) rfl hl.1 rfl (Nat.le_of_ble_eq_true rfl) dX8_follow_22 ⟨Nat.le_of_ble_eq_true rfl, Nat.le_of_ble_eq_true rfl⟩ (fun I8 H locs hw hP hS => ?_)
      have hw := hw.symm
      subst hw
      refine lv_aload_n hx hb dX8_follow_25 rfl (lv_at hl 0 rfl) ?_
      obtain ⟨q12, hcq12, h⟩ := hb_some h
      refine gdV_i (As := []) (rest := []) (BH := (fun (u : Nat → Nat → Int32) H => va_P (dC, dI) vwCl (hW N ca b u O J) H)) X hP hS (c_X8_followsAll hN hA I8 O J q12 hcq12) (cwV 0 X.ts gX8_follow_X8_followsAll rfl rfl rfl (by decide +kernel) ⟨Nat.le_of_ble_eq_true rfl, Nat.le_of_ble_eq_true rfl⟩) (gr8 X hP kc_129 (sk_in hN kc_129 (by decide))) rfl hl.1 rfl (Nat.le_of_ble_eq_true rfl) dX8_follow_26 ⟨Nat.le_of_ble_eq_true rfl, Nat.le_of_ble_eq_true rfl⟩ (fun r11 I10 H locs hw hP hS => ?_)
      subst hw
      obtain ⟨p13, hv, h⟩ := hb_some h
      have K37 : ∀ (H : Heap) (locs : List Loc) (ls : Array Slot), va_P (dC, dI) vwCl (hW N ca b I10 O J) H → va_S A s.heap H locs → lv_has ls 3 [(0, .ref (b 129))] → W p l e (headSpec wsX8_follow ({ frames := 8, cells := 0, slots := 0, locals := 195 } : Room)).room s m ([.ref (b 129)] : List Value).toArray below meth c H locs 0 0 (MQ below (va_Qi (fun (r : Int32) (u : Nat → Nat → Int32) => res = (r, u)) (fun (u : Nat → Nat → Int32) t => va_P (dC, dI) vwCl (hW N ca b u O J) t.heap) A) ([.ref (b 129)] : List Value).toArray s 0 0 A) (F0 m 37 ls [.int p13]) := by
        intro H locs ls hP hS hl
        refine lv_istore_n (lv' := [(1, .int p13), (0, .ref (b 129))]) hx hb dX8_follow_37 rfl hl (by decide) rfl (fun ls hl => ?_)
        refine lv_aload_n hx hb dX8_follow_38 rfl (lv_at hl 1 rfl) ?_
        obtain ⟨q15, hcq15, h⟩ := hb_some h
        refine gdV_v (As := []) (rest := []) (BH := (fun (u : Nat → Nat → Int32) H => va_P (dC, dI) vwCl (hW N ca b u O J) H)) X hP hS (c_X8_putBack hN hA I10 O J q15 hcq15) (cwV 0 X.ts gX8_follow_X8_putBack rfl rfl rfl (by decide +kernel) ⟨Nat.le_of_ble_eq_true rfl, Nat.le_of_ble_eq_true rfl⟩) (gr8 X hP kc_129 (sk_in hN kc_129 (by decide))) rfl hl.1 rfl (Nat.le_of_ble_eq_true rfl) dX8_follow_39 ⟨Nat.le_of_ble_eq_true rfl, Nat.le_of_ble_eq_true rfl⟩ (fun I14 H locs hw hP hS => ?_)
        have hw := hw.symm
        subst hw
        refine lv_aload_n hx hb dX8_follow_42 rfl (lv_at hl 1 rfl) ?_
        refine lv_iload_n hx hb dX8_follow_43 rfl (lv_at hl 0 rfl) ?_
        obtain ⟨p16, hv, h⟩ := hb_some h
        have K52 : ∀ (H : Heap) (locs : List Loc) (ls : Array Slot), va_P (dC, dI) vwCl (hW N ca b I14 O J) H → va_S A s.heap H locs → lv_has ls 3 [(0, .ref (b 129))] → W p l e (headSpec wsX8_follow ({ frames := 8, cells := 0, slots := 0, locals := 195 } : Room)).room s m ([.ref (b 129)] : List Value).toArray below meth c H locs 0 0 (MQ below (va_Qi (fun (r : Int32) (u : Nat → Nat → Int32) => res = (r, u)) (fun (u : Nat → Nat → Int32) t => va_P (dC, dI) vwCl (hW N ca b u O J) t.heap) A) ([.ref (b 129)] : List Value).toArray s 0 0 A) (F0 m 52 ls [.int p16, .ref (b 129)]) := by
          intro H locs ls hP hS hl
          obtain ⟨q19, hcq19, h⟩ := hb_some h
          refine gdV_i (As := [.int p16]) (rest := []) (BH := (fun (u : Nat → Nat → Int32) H => va_P (dC, dI) vwCl (hW N ca b u O J) H)) X hP hS (c_X8_refused hN hA I14 O J p16 q19 hcq19) (cwV 1 X.ts gX8_follow_X8_refused rfl rfl rfl (by decide +kernel) ⟨Nat.le_of_ble_eq_true rfl, Nat.le_of_ble_eq_true rfl⟩) (gr8 X hP kc_129 (sk_in hN kc_129 (by decide))) rfl hl.1 rfl (Nat.le_of_ble_eq_true rfl) dX8_follow_52 ⟨Nat.le_of_ble_eq_true rfl, Nat.le_of_ble_eq_true rfl⟩ (fun r18 I17 H locs hw hP hS => ?_)
          subst hw
          refine lv_if_eq (tgt := 60) hx hb dX8_follow_55 (by decide) (fun c26 => ?_) (fun c26 => ?_)
          · have h := gif_t c26 h
            refine lv_aload_n hx hb dX8_follow_60 rfl (lv_at hl 0 rfl) ?_
            obtain ⟨q21, hcq21, h⟩ := hb_some h
            refine gdV_v (As := []) (rest := []) (BH := (fun (u : Nat → Nat → Int32) H => va_P (dC, dI) vwCl (hW N ca b u O J) H)) X hP hS (c_X8_records hN hA I17 O J q21 hcq21) (cwV 0 X.ts gX8_follow_X8_records rfl rfl rfl (by decide +kernel) ⟨Nat.le_of_ble_eq_true rfl, Nat.le_of_ble_eq_true rfl⟩) (gr8 X hP kc_129 (sk_in hN kc_129 (by decide))) rfl hl.1 rfl (Nat.le_of_ble_eq_true rfl) dX8_follow_61 ⟨Nat.le_of_ble_eq_true rfl, Nat.le_of_ble_eq_true rfl⟩ (fun I20 H locs hw hP hS => ?_)
            have hw := hw.symm
            subst hw
            refine lv_aload_n hx hb dX8_follow_64 rfl (lv_at hl 0 rfl) ?_
            obtain ⟨q24, hcq24, h⟩ := hb_some h
            refine gdV_i (As := []) (rest := []) (BH := (fun (u : Nat → Nat → Int32) H => va_P (dC, dI) vwCl (hW N ca b u O J) H)) X hP hS (c_X8_followsAll hN hA I20 O J q24 hcq24) (cwV 0 X.ts gX8_follow_X8_followsAll rfl rfl rfl (by decide +kernel) ⟨Nat.le_of_ble_eq_true rfl, Nat.le_of_ble_eq_true rfl⟩) (gr8 X hP kc_129 (sk_in hN kc_129 (by decide))) rfl hl.1 rfl (Nat.le_of_ble_eq_true rfl) dX8_follow_65 ⟨Nat.le_of_ble_eq_true rfl, Nat.le_of_ble_eq_true rfl⟩ (fun r23 I22 H locs hw hP hS => ?_)
            subst hw
            refine lv_istore_n (lv' := [(2, .int r23), (0, .ref (b 129))]) hx hb dX8_follow_68 rfl hl (by decide) rfl (fun ls hl => ?_)
            refine lv_aload_n hx hb dX8_follow_69 rfl (lv_at hl 1 rfl) ?_
            refine lv_iconst (v := 0) hx hb dX8_follow_70 (by decide) ?_
            refine gp8_7 X hP hS kc_129 (sk_in hN kc_129 (by decide)) hi8 (List.mem_of_getElem? (i := 1) rfl) dX8_follow_71 (fun H locs hP hS => ?_)
            obtain ⟨I25, eI25, h⟩ := hlet_ex h
            rw [← eI25] at hP
            refine lv_iload_n hx hb dX8_follow_74 rfl (lv_at hl 0 rfl) ?_
            exact W.iret hx hb hr (fun t9 ht hW => ⟨⟨r23, I25, rfl, (Option.some.inj h).symm, gEnd ht hP⟩, hS.F ht⟩) hS.2.2 dX8_follow_75 hlk
          · have h := gif_f c26 h
            refine lv_iconst (v := 0) hx hb dX8_follow_58 (by decide) ?_
            exact W.iret hx hb hr (fun t9 ht hW => ⟨⟨(0 : Int32), I17, rfl, (Option.some.inj h).symm, gEnd ht hP⟩, hS.F ht⟩) hS.2.2 dX8_follow_59 hlk
        have h := hv
        refine lv_if_eq (tgt := 51) hx hb dX8_follow_44 (by decide) (fun c27 => ?_) (fun c27 => ?_)
        · have h := gif_t c27 h
          refine lv_iconst (v := 2) hx hb dX8_follow_51 (by decide) ?_
          cases h
          exact K52 _ _ _ hP hS (lv_sub hl [1] rfl)
        · have h := gif_f c27 h
          refine lv_iconst (v := 0) hx hb dX8_follow_47 (by decide) ?_
          refine lv_goto (tgt := 52) hx hb dX8_follow_48 (by decide) ?_
          cases h
          exact K52 _ _ _ hP hS (lv_sub hl [1] rfl)
      have h := hv
      refine lv_if_lt (tgt := 36) hx hb dX8_follow_29 (by decide) (fun c28 => ?_) (fun c28 => ?_)
      · have h := gif_t c28 h
        refine lv_iconst (v := 0) hx hb dX8_follow_36 (by decide) ?_
        cases h
        exact K37 _ _ _ hP hS (lv_sub hl [0] rfl)
      · have h := gif_f c28 h
        refine lv_iconst (v := 1) hx hb dX8_follow_32 (by decide) ?_
        refine lv_goto (tgt := 37) hx hb dX8_follow_33 (by decide) ?_
        cases h
        exact K37 _ _ _ hP hS (lv_sub hl [0] rfl)
    · have h := gif_f c29 h
      refine lv_iconst (v := 0) hx hb dX8_follow_19 (by decide) ?_
      exact W.iret hx hb hr (fun t9 ht hW => ⟨⟨(0 : Int32), I5, rfl, (Option.some.inj h).symm, gEnd ht hP⟩, hS.F ht⟩) hS.2.2 dX8_follow_20 hlk
  have h := hv
  refine lv_if_eq (tgt := 12) hx hb dX8_follow_5 (by decide) (fun c30 => ?_) (fun c30 => ?_)
  · have h := gif_t c30 h
    refine lv_iconst (v := 1) hx hb dX8_follow_12 (by decide) ?_
    cases h
    exact K13 _ _ _ hP hS (lv_sub hl [0] rfl)
  · have h := gif_f c30 h
    refine lv_iconst (v := 0) hx hb dX8_follow_8 (by decide) ?_
    refine lv_goto (tgt := 13) hx hb dX8_follow_9 (by decide) ?_
    cases h
    exact K13 _ _ _ hP hS (lv_sub hl [0] rfl)
def f_X8_keep_L23 (a1 : Int32) : Nat → Int32 → (Nat → Nat → Int32) → Option (Nat → Nat → Int32)
  | 0, _, _ => none
  | fuel + 1, p7, I8 =>
    if (151 : Int32) ≤ p7 then
      some I8
    else
      hg (gin p7 151) <|
      hg (gin (((151 : Int32) * a1) + p7) 302) <|
      hlet (gup I8 133 ((((151 : Int32) * a1) + p7).toNatClampNeg) (I8 130 (p7.toNatClampNeg))) fun I14 =>
      hlet (p7 + 1) fun x15 =>
      f_X8_keep_L23 a1 fuel x15 I14
def f_X8_keep (a1 : Int32) (I : Nat → Nat → Int32) : Option (Nat → Nat → Int32) :=
  (f_X8_in a1 (0 : Int32) (1 : Int32)).bind fun r1 =>
  (show Option (Int32) from
    if r1 = 0 then
      some (1 : Int32)
    else
      some (0 : Int32)).bind fun p3 =>
  (f_X8_refused p3 I).bind fun (r5, I4) =>
  if r5 = 0 then
    (f_X8_keep_L23 a1 FU (0 : Int32) I4).bind fun I9 =>
    hg (gin a1 2) <|
    hlet (gup I9 134 (a1.toNatClampNeg) (1 : Int32)) fun I11 =>
    some I11
  else
    some I4
set_option maxHeartbeats 8000000 in
set_option maxRecDepth 100000 in
theorem c_X8_keep {l : Launch} {dC : Nat → ClassId} {dI : Nat → Nat → Nat} {ca : Nat → ClassId} {b : Nat → Nat} {A : Nat → Prop} {N : Nat} (hN : 138 ≤ N) (hA : gAd A b N) (I : Nat → Nat → Int32) (O : Nat → Nat → Option Nat) (J : Nat → Nat → Int64) (a1 : Int32) (res : Nat → Nat → Int32) (h : f_X8_keep a1 I = some res) : Met l yX8_keep wsX8_keep ({ frames := 1, cells := 0, slots := 0, locals := 22 } : Room) (va_Pc [.ref (b 129), .int a1] (gPre dC dI ca b A N I O J)) (va_Qv (fun (u : Nat → Nat → Int32) => res = u) (fun (u : Nat → Nat → Int32) t => va_P (dC, dI) vwCl (hW N ca b u O J) t.heap) A) 0 0 A := by
  refine Met.ofW (cc := cX8_keep) (maxL := 3) (ret := none) (by decide) rfl ?_
  intro p e s m args below meth c s₁ B hml hv
  obtain ⟨rfl, hP, hK, hA2, hth⟩ := hv
  have hx := B.exec
  have hb := B.bytes
  have hr := B.returns
  have hlk := B.notSynchronized
  have X : gCx p s m ([.ref (b 129), .int a1] : List Value).toArray c RX8 cX8_keep wsX8_keep 3 dC dI ca b A N := ⟨hx, hb, hml, findClass_of_methodNamed B.named, atoms_spec (ws := wsX8_keep) B.pre, hK, hA, hA2, hth⟩
  have hi8 : ∀ w ∈ wsX80, w ∈ wsX8_keep := (fun w h => List.mem_cons_of_mem _ (List.mem_append_right _ h))
  have hS : va_S A s.heap s.heap [] := va_S.rf
  have hl := lv_entry ([.ref (b 129), .int a1] : List Value) (n := 3) (Nat.le_of_ble_eq_true rfl)
  rw [lg_entry_eq]
  generalize (lg_sl ([.ref (b 129), .int a1] : List Value) ++ List.replicate (3 - (lg_sl ([.ref (b 129), .int a1] : List Value)).length) Slot.unset).toArray = ls at hl ⊢
  have hl : lv_has ls 3 [(0, .ref (b 129)), (1, .int a1)] := hl
  unfold f_X8_keep at h
  refine lv_aload_n hx hb dX8_keep_0 rfl (lv_at hl 0 rfl) ?_
  refine lv_iload_n hx hb dX8_keep_1 rfl (lv_at hl 1 rfl) ?_
  refine lv_iconst (v := 0) hx hb dX8_keep_2 (by decide) ?_
  refine lv_iconst (v := 1) hx hb dX8_keep_3 (by decide) ?_
  obtain ⟨q2, hcq2, h⟩ := hb_some h
  refine gdS_i (As := [.int a1, .int (0 : Int32), .int (1 : Int32)]) (rest := [.ref (b 129)]) (BH := (fun (u : Unit) H => va_P (dC, dI) vwCl (hW N ca b I O J) H)) X hP hS (c_X8_in hN hA I O J a1 (0 : Int32) (1 : Int32) q2 hcq2) (va_cwS 3 X.ts gX8_keep_X8_in rfl rfl rfl (by decide +kernel) ⟨Nat.le_of_ble_eq_true rfl, Nat.le_of_ble_eq_true rfl⟩) rfl hl.1 rfl (Nat.le_of_ble_eq_true rfl) dX8_keep_4 ⟨Nat.le_of_ble_eq_true rfl, Nat.le_of_ble_eq_true rfl⟩ (fun r1 u9 H locs hw hP hS => ?_)
  have hw := hw.symm
  subst hw
  obtain ⟨p3, hv, h⟩ := hb_some h
  have K15 : ∀ (H : Heap) (locs : List Loc) (ls : Array Slot), va_P (dC, dI) vwCl (hW N ca b I O J) H → va_S A s.heap H locs → lv_has ls 3 [(0, .ref (b 129)), (1, .int a1)] → W p l e (headSpec wsX8_keep ({ frames := 1, cells := 0, slots := 0, locals := 22 } : Room)).room s m ([.ref (b 129), .int a1] : List Value).toArray below meth c H locs 0 0 (MQ below (va_Qv (fun (u : Nat → Nat → Int32) => res = u) (fun (u : Nat → Nat → Int32) t => va_P (dC, dI) vwCl (hW N ca b u O J) t.heap) A) ([.ref (b 129), .int a1] : List Value).toArray s 0 0 A) (F0 m 15 ls [.int p3, .ref (b 129)]) := by
    intro H locs ls hP hS hl
    obtain ⟨q6, hcq6, h⟩ := hb_some h
    refine gdV_i (As := [.int p3]) (rest := []) (BH := (fun (u : Nat → Nat → Int32) H => va_P (dC, dI) vwCl (hW N ca b u O J) H)) X hP hS (c_X8_refused hN hA I O J p3 q6 hcq6) (cwV 1 X.ts gX8_keep_X8_refused rfl rfl rfl (by decide +kernel) ⟨Nat.le_of_ble_eq_true rfl, Nat.le_of_ble_eq_true rfl⟩) (gr8 X hP kc_129 (sk_in hN kc_129 (by decide))) rfl hl.1 rfl (Nat.le_of_ble_eq_true rfl) dX8_keep_15 ⟨Nat.le_of_ble_eq_true rfl, Nat.le_of_ble_eq_true rfl⟩ (fun r5 I4 H locs hw hP hS => ?_)
    subst hw
    refine lv_if_ne (tgt := 61) hx hb dX8_keep_18 (by decide) (fun c17 => ?_) (fun c17 => ?_)
    · have h := gif_f c17 h
      exact W.vret hx hb hr (fun t9 ht hW => ⟨⟨I4, rfl, (Option.some.inj h).symm, gEnd ht hP⟩, hS.F ht⟩) hS.2.2 dX8_keep_61 hlk
    · have h := gif_t c17 h
      refine lv_iconst (v := 0) hx hb dX8_keep_21 (by decide) ?_
      refine lv_istore_n (lv' := [(2, .int (0 : Int32)), (0, .ref (b 129)), (1, .int a1)]) hx hb dX8_keep_22 rfl hl (by decide) rfl (fun ls hl => ?_)
      obtain ⟨I9, hv, h⟩ := hb_some h
      have K54 : ∀ (H : Heap) (locs : List Loc) (ls : Array Slot), va_P (dC, dI) vwCl (hW N ca b I9 O J) H → va_S A s.heap H locs → lv_has ls 3 [(0, .ref (b 129)), (1, .int a1)] → W p l e (headSpec wsX8_keep ({ frames := 1, cells := 0, slots := 0, locals := 22 } : Room)).room s m ([.ref (b 129), .int a1] : List Value).toArray below meth c H locs 0 0 (MQ below (va_Qv (fun (u : Nat → Nat → Int32) => res = u) (fun (u : Nat → Nat → Int32) t => va_P (dC, dI) vwCl (hW N ca b u O J) t.heap) A) ([.ref (b 129), .int a1] : List Value).toArray s 0 0 A) (F0 m 54 ls []) := by
        intro H locs ls hP hS hl
        refine lv_aload_n hx hb dX8_keep_54 rfl (lv_at hl 0 rfl) ?_
        refine gg8_5 X hP kc_129 (sk_in hN kc_129 (by decide)) hi8 (List.mem_of_getElem? (i := 3) rfl) dX8_keep_55 ?_
        refine lv_iload_n hx hb dX8_keep_58 rfl (lv_at hl 1 rfl) ?_
        refine lv_iconst (v := 1) hx hb dX8_keep_59 (by decide) ?_
        obtain ⟨hgi10, h⟩ := hg_some h
        refine gs21 X hP hS kc_134 (sk_in hN kc_134 (by decide)) (L := 2) (by decide) hgi10 (by decide) dX8_keep_60 (fun H locs hP hS => ?_)
        obtain ⟨I11, eI11, h⟩ := hlet_ex h
        rw [← eI11] at hP
        exact W.vret hx hb hr (fun t9 ht hW => ⟨⟨I11, rfl, (Option.some.inj h).symm, gEnd ht hP⟩, hS.F ht⟩) hS.2.2 dX8_keep_61 hlk
      have hL23 : ∀ (fuel : Nat) (p7 : Int32) (I8 : Nat → Nat → Int32) (H : Heap) (locs : List Loc) (ls : Array Slot), f_X8_keep_L23 a1 fuel p7 I8 = some I9 → va_P (dC, dI) vwCl (hW N ca b I8 O J) H → va_S A s.heap H locs → lv_has ls 3 [(0, .ref (b 129)), (1, .int a1), (2, .int p7)] → W p l e (headSpec wsX8_keep ({ frames := 1, cells := 0, slots := 0, locals := 22 } : Room)).room s m ([.ref (b 129), .int a1] : List Value).toArray below meth c H locs 0 0 (MQ below (va_Qv (fun (u : Nat → Nat → Int32) => res = u) (fun (u : Nat → Nat → Int32) t => va_P (dC, dI) vwCl (hW N ca b u O J) t.heap) A) ([.ref (b 129), .int a1] : List Value).toArray s 0 0 A) (F0 m 23 ls []) := by
        intro fuel
        induction fuel with
        | zero =>
          intro p7 I8 H locs ls h hP hS hl
          rw [f_X8_keep_L23] at h
          cases h
        | succ fuel ih =>
          intro p7 I8 H locs ls h hP hS hl
          rw [f_X8_keep_L23] at h
          refine lv_iload_n hx hb dX8_keep_23 rfl (lv_at hl 2 rfl) ?_
          refine lv_sipush (v := 151) hx hb dX8_keep_24 (by decide) ?_
          refine lv_icmp_ge (tgt := 54) hx hb dX8_keep_27 (by decide) (fun c16 => ?_) (fun c16 => ?_)
          · have h := gif_t c16 h
            cases h
            exact K54 _ _ _ hP hS (lv_sub hl [0, 1] rfl)
          · have h := gif_f c16 h
            refine lv_aload_n hx hb dX8_keep_30 rfl (lv_at hl 0 rfl) ?_
            refine gg8_4 X hP kc_129 (sk_in hN kc_129 (by decide)) hi8 (List.mem_of_getElem? (i := 1) rfl) dX8_keep_31 ?_
            refine lv_sipush (v := 151) hx hb dX8_keep_34 (by decide) ?_
            refine lv_iload_n hx hb dX8_keep_37 rfl (lv_at hl 1 rfl) ?_
            refine lv_imul hx hb dX8_keep_38 ?_
            refine lv_iload_n hx hb dX8_keep_39 rfl (lv_at hl 2 rfl) ?_
            refine lv_iadd hx hb dX8_keep_40 ?_
            refine lv_aload_n hx hb dX8_keep_41 rfl (lv_at hl 0 rfl) ?_
            refine gg8_0 X hP kc_129 (sk_in hN kc_129 (by decide)) hi8 (List.mem_of_getElem? (i := 2) rfl) dX8_keep_42 ?_
            refine lv_iload_n hx hb dX8_keep_45 rfl (lv_at hl 2 rfl) ?_
            obtain ⟨hgi12, h⟩ := hg_some h
            refine ga20 X hP kc_130 (sk_in hN kc_130 (by decide)) (L := 151) (by decide) hgi12 dX8_keep_46 ?_
            obtain ⟨hgi13, h⟩ := hg_some h
            refine gs20 X hP hS kc_133 (sk_in hN kc_133 (by decide)) (L := 302) (by decide) hgi13 dX8_keep_47 (fun H locs hP hS => ?_)
            obtain ⟨I14, eI14, h⟩ := hlet_ex h
            rw [← eI14] at hP
            obtain ⟨x15, ex15, h⟩ := hlet_ex h
            refine lv_iinc (v := x15) (lv' := [(2, .int x15), (0, .ref (b 129)), (1, .int a1)]) hx hb dX8_keep_48 hl (k := 2) rfl (by rw [ex15]; rfl) (by decide) rfl (fun ls hl => ?_)
            refine lv_goto (tgt := 23) hx hb dX8_keep_51 (by decide) ?_
            exact ih _ _ _ _ _ h hP hS (lv_sub hl [1, 2, 0] rfl)
      exact hL23 FU _ _ _ _ _ hv hP hS (lv_sub hl [1, 2, 0] rfl)
  have h := hv
  refine lv_if_eq (tgt := 14) hx hb dX8_keep_7 (by decide) (fun c18 => ?_) (fun c18 => ?_)
  · have h := gif_t c18 h
    refine lv_iconst (v := 1) hx hb dX8_keep_14 (by decide) ?_
    cases h
    exact K15 _ _ _ hP hS (lv_sub hl [0, 1] rfl)
  · have h := gif_f c18 h
    refine lv_iconst (v := 0) hx hb dX8_keep_10 (by decide) ?_
    refine lv_goto (tgt := 15) hx hb dX8_keep_11 (by decide) ?_
    cases h
    exact K15 _ _ _ hP hS (lv_sub hl [0, 1] rfl)
def f_X8_goBack_L40 (a1 : Int32) : Nat → Int32 → (Nat → Nat → Int32) → Option (Nat → Nat → Int32)
  | 0, _, _ => none
  | fuel + 1, p9, I10 =>
    if (151 : Int32) ≤ p9 then
      some I10
    else
      hg (gin (((151 : Int32) * a1) + p9) 302) <|
      hg (gin p9 151) <|
      hlet (gup I10 130 (p9.toNatClampNeg) (I10 133 ((((151 : Int32) * a1) + p9).toNatClampNeg))) fun I14 =>
      hlet (p9 + 1) fun x15 =>
      f_X8_goBack_L40 a1 fuel x15 I14
def f_X8_goBack (a1 : Int32) (I : Nat → Nat → Int32) : Option (Nat → Nat → Int32) :=
  (f_X8_in a1 (0 : Int32) (1 : Int32)).bind fun r1 =>
  (show Option (Int32) from
    if r1 = 0 then
      some (1 : Int32)
    else
      hg (gin a1 2) <|
      if (I 134 (a1.toNatClampNeg)) = 0 then
        some (2 : Int32)
      else
        some (0 : Int32)).bind fun p3 =>
  (f_X8_refused p3 I).bind fun (r5, I4) =>
  if r5 = 0 then
    (f_X8_records I4).bind fun I7 =>
    (f_X8_goBack_L40 a1 FU (0 : Int32) I7).bind fun I11 =>
    some I11
  else
    some I4
set_option maxHeartbeats 8000000 in
set_option maxRecDepth 100000 in
theorem c_X8_goBack {l : Launch} {dC : Nat → ClassId} {dI : Nat → Nat → Nat} {ca : Nat → ClassId} {b : Nat → Nat} {A : Nat → Prop} {N : Nat} (hN : 138 ≤ N) (hA : gAd A b N) (I : Nat → Nat → Int32) (O : Nat → Nat → Option Nat) (J : Nat → Nat → Int64) (a1 : Int32) (res : Nat → Nat → Int32) (h : f_X8_goBack a1 I = some res) : Met l yX8_goBack wsX8_goBack ({ frames := 1, cells := 0, slots := 0, locals := 22 } : Room) (va_Pc [.ref (b 129), .int a1] (gPre dC dI ca b A N I O J)) (va_Qv (fun (u : Nat → Nat → Int32) => res = u) (fun (u : Nat → Nat → Int32) t => va_P (dC, dI) vwCl (hW N ca b u O J) t.heap) A) 0 0 A := by
  refine Met.ofW (cc := cX8_goBack) (maxL := 3) (ret := none) (by decide) rfl ?_
  intro p e s m args below meth c s₁ B hml hv
  obtain ⟨rfl, hP, hK, hA2, hth⟩ := hv
  have hx := B.exec
  have hb := B.bytes
  have hr := B.returns
  have hlk := B.notSynchronized
  have X : gCx p s m ([.ref (b 129), .int a1] : List Value).toArray c RX8 cX8_goBack wsX8_goBack 3 dC dI ca b A N := ⟨hx, hb, hml, findClass_of_methodNamed B.named, atoms_spec (ws := wsX8_goBack) B.pre, hK, hA, hA2, hth⟩
  have hi8 : ∀ w ∈ wsX80, w ∈ wsX8_goBack := (fun w h => List.mem_cons_of_mem _ (List.mem_append_right _ h))
  have hS : va_S A s.heap s.heap [] := va_S.rf
  have hl := lv_entry ([.ref (b 129), .int a1] : List Value) (n := 3) (Nat.le_of_ble_eq_true rfl)
  rw [lg_entry_eq]
  generalize (lg_sl ([.ref (b 129), .int a1] : List Value) ++ List.replicate (3 - (lg_sl ([.ref (b 129), .int a1] : List Value)).length) Slot.unset).toArray = ls at hl ⊢
  have hl : lv_has ls 3 [(0, .ref (b 129)), (1, .int a1)] := hl
  unfold f_X8_goBack at h
  refine lv_aload_n hx hb dX8_goBack_0 rfl (lv_at hl 0 rfl) ?_
  refine lv_iload_n hx hb dX8_goBack_1 rfl (lv_at hl 1 rfl) ?_
  refine lv_iconst (v := 0) hx hb dX8_goBack_2 (by decide) ?_
  refine lv_iconst (v := 1) hx hb dX8_goBack_3 (by decide) ?_
  obtain ⟨q2, hcq2, h⟩ := hb_some h
  refine gdS_i (As := [.int a1, .int (0 : Int32), .int (1 : Int32)]) (rest := [.ref (b 129)]) (BH := (fun (u : Unit) H => va_P (dC, dI) vwCl (hW N ca b I O J) H)) X hP hS (c_X8_in hN hA I O J a1 (0 : Int32) (1 : Int32) q2 hcq2) (va_cwS 3 X.ts gX8_goBack_X8_in rfl rfl rfl (by decide +kernel) ⟨Nat.le_of_ble_eq_true rfl, Nat.le_of_ble_eq_true rfl⟩) rfl hl.1 rfl (Nat.le_of_ble_eq_true rfl) dX8_goBack_4 ⟨Nat.le_of_ble_eq_true rfl, Nat.le_of_ble_eq_true rfl⟩ (fun r1 u9 H locs hw hP hS => ?_)
  have hw := hw.symm
  subst hw
  obtain ⟨p3, hv, h⟩ := hb_some h
  have K28 : ∀ (H : Heap) (locs : List Loc) (ls : Array Slot), va_P (dC, dI) vwCl (hW N ca b I O J) H → va_S A s.heap H locs → lv_has ls 3 [(0, .ref (b 129)), (1, .int a1)] → W p l e (headSpec wsX8_goBack ({ frames := 1, cells := 0, slots := 0, locals := 22 } : Room)).room s m ([.ref (b 129), .int a1] : List Value).toArray below meth c H locs 0 0 (MQ below (va_Qv (fun (u : Nat → Nat → Int32) => res = u) (fun (u : Nat → Nat → Int32) t => va_P (dC, dI) vwCl (hW N ca b u O J) t.heap) A) ([.ref (b 129), .int a1] : List Value).toArray s 0 0 A) (F0 m 28 ls [.int p3, .ref (b 129)]) := by
    intro H locs ls hP hS hl
    obtain ⟨q6, hcq6, h⟩ := hb_some h
    refine gdV_i (As := [.int p3]) (rest := []) (BH := (fun (u : Nat → Nat → Int32) H => va_P (dC, dI) vwCl (hW N ca b u O J) H)) X hP hS (c_X8_refused hN hA I O J p3 q6 hcq6) (cwV 1 X.ts gX8_goBack_X8_refused rfl rfl rfl (by decide +kernel) ⟨Nat.le_of_ble_eq_true rfl, Nat.le_of_ble_eq_true rfl⟩) (gr8 X hP kc_129 (sk_in hN kc_129 (by decide))) rfl hl.1 rfl (Nat.le_of_ble_eq_true rfl) dX8_goBack_28 ⟨Nat.le_of_ble_eq_true rfl, Nat.le_of_ble_eq_true rfl⟩ (fun r5 I4 H locs hw hP hS => ?_)
    subst hw
    refine lv_if_ne (tgt := 71) hx hb dX8_goBack_31 (by decide) (fun c17 => ?_) (fun c17 => ?_)
    · have h := gif_f c17 h
      exact W.vret hx hb hr (fun t9 ht hW => ⟨⟨I4, rfl, (Option.some.inj h).symm, gEnd ht hP⟩, hS.F ht⟩) hS.2.2 dX8_goBack_71 hlk
    · have h := gif_t c17 h
      refine lv_aload_n hx hb dX8_goBack_34 rfl (lv_at hl 0 rfl) ?_
      obtain ⟨q8, hcq8, h⟩ := hb_some h
      refine gdV_v (As := []) (rest := []) (BH := (fun (u : Nat → Nat → Int32) H => va_P (dC, dI) vwCl (hW N ca b u O J) H)) X hP hS (c_X8_records hN hA I4 O J q8 hcq8) (cwV 0 X.ts gX8_goBack_X8_records rfl rfl rfl (by decide +kernel) ⟨Nat.le_of_ble_eq_true rfl, Nat.le_of_ble_eq_true rfl⟩) (gr8 X hP kc_129 (sk_in hN kc_129 (by decide))) rfl hl.1 rfl (Nat.le_of_ble_eq_true rfl) dX8_goBack_35 ⟨Nat.le_of_ble_eq_true rfl, Nat.le_of_ble_eq_true rfl⟩ (fun I7 H locs hw hP hS => ?_)
      have hw := hw.symm
      subst hw
      refine lv_iconst (v := 0) hx hb dX8_goBack_38 (by decide) ?_
      refine lv_istore_n (lv' := [(2, .int (0 : Int32)), (0, .ref (b 129)), (1, .int a1)]) hx hb dX8_goBack_39 rfl hl (by decide) rfl (fun ls hl => ?_)
      obtain ⟨I11, hv, h⟩ := hb_some h
      have K71 : ∀ (H : Heap) (locs : List Loc) (ls : Array Slot), va_P (dC, dI) vwCl (hW N ca b I11 O J) H → va_S A s.heap H locs → lv_has ls 3 [] → W p l e (headSpec wsX8_goBack ({ frames := 1, cells := 0, slots := 0, locals := 22 } : Room)).room s m ([.ref (b 129), .int a1] : List Value).toArray below meth c H locs 0 0 (MQ below (va_Qv (fun (u : Nat → Nat → Int32) => res = u) (fun (u : Nat → Nat → Int32) t => va_P (dC, dI) vwCl (hW N ca b u O J) t.heap) A) ([.ref (b 129), .int a1] : List Value).toArray s 0 0 A) (F0 m 71 ls []) := by
        intro H locs ls hP hS hl
        exact W.vret hx hb hr (fun t9 ht hW => ⟨⟨I11, rfl, (Option.some.inj h).symm, gEnd ht hP⟩, hS.F ht⟩) hS.2.2 dX8_goBack_71 hlk
      have hL40 : ∀ (fuel : Nat) (p9 : Int32) (I10 : Nat → Nat → Int32) (H : Heap) (locs : List Loc) (ls : Array Slot), f_X8_goBack_L40 a1 fuel p9 I10 = some I11 → va_P (dC, dI) vwCl (hW N ca b I10 O J) H → va_S A s.heap H locs → lv_has ls 3 [(0, .ref (b 129)), (1, .int a1), (2, .int p9)] → W p l e (headSpec wsX8_goBack ({ frames := 1, cells := 0, slots := 0, locals := 22 } : Room)).room s m ([.ref (b 129), .int a1] : List Value).toArray below meth c H locs 0 0 (MQ below (va_Qv (fun (u : Nat → Nat → Int32) => res = u) (fun (u : Nat → Nat → Int32) t => va_P (dC, dI) vwCl (hW N ca b u O J) t.heap) A) ([.ref (b 129), .int a1] : List Value).toArray s 0 0 A) (F0 m 40 ls []) := by
        intro fuel
        induction fuel with
        | zero =>
          intro p9 I10 H locs ls h hP hS hl
          rw [f_X8_goBack_L40] at h
          cases h
        | succ fuel ih =>
          intro p9 I10 H locs ls h hP hS hl
          rw [f_X8_goBack_L40] at h
          refine lv_iload_n hx hb dX8_goBack_40 rfl (lv_at hl 2 rfl) ?_
          refine lv_sipush (v := 151) hx hb dX8_goBack_41 (by decide) ?_
          refine lv_icmp_ge (tgt := 71) hx hb dX8_goBack_44 (by decide) (fun c16 => ?_) (fun c16 => ?_)
          · have h := gif_t c16 h
            cases h
            exact K71 _ _ _ hP hS (lv_sub hl [] rfl)
          · have h := gif_f c16 h
            refine lv_aload_n hx hb dX8_goBack_47 rfl (lv_at hl 0 rfl) ?_
            refine gg8_0 X hP kc_129 (sk_in hN kc_129 (by decide)) hi8 (List.mem_of_getElem? (i := 2) rfl) dX8_goBack_48 ?_
            refine lv_iload_n hx hb dX8_goBack_51 rfl (lv_at hl 2 rfl) ?_
            refine lv_aload_n hx hb dX8_goBack_52 rfl (lv_at hl 0 rfl) ?_
            refine gg8_4 X hP kc_129 (sk_in hN kc_129 (by decide)) hi8 (List.mem_of_getElem? (i := 3) rfl) dX8_goBack_53 ?_
            refine lv_sipush (v := 151) hx hb dX8_goBack_56 (by decide) ?_
            refine lv_iload_n hx hb dX8_goBack_59 rfl (lv_at hl 1 rfl) ?_
            refine lv_imul hx hb dX8_goBack_60 ?_
            refine lv_iload_n hx hb dX8_goBack_61 rfl (lv_at hl 2 rfl) ?_
            refine lv_iadd hx hb dX8_goBack_62 ?_
            obtain ⟨hgi12, h⟩ := hg_some h
            refine ga20 X hP kc_133 (sk_in hN kc_133 (by decide)) (L := 302) (by decide) hgi12 dX8_goBack_63 ?_
            obtain ⟨hgi13, h⟩ := hg_some h
            refine gs20 X hP hS kc_130 (sk_in hN kc_130 (by decide)) (L := 151) (by decide) hgi13 dX8_goBack_64 (fun H locs hP hS => ?_)
            obtain ⟨I14, eI14, h⟩ := hlet_ex h
            rw [← eI14] at hP
            obtain ⟨x15, ex15, h⟩ := hlet_ex h
            refine lv_iinc (v := x15) (lv' := [(2, .int x15), (0, .ref (b 129)), (1, .int a1)]) hx hb dX8_goBack_65 hl (k := 2) rfl (by rw [ex15]; rfl) (by decide) rfl (fun ls hl => ?_)
            refine lv_goto (tgt := 40) hx hb dX8_goBack_68 (by decide) ?_
            exact ih _ _ _ _ _ h hP hS (lv_sub hl [1, 2, 0] rfl)
      exact hL40 FU _ _ _ _ _ hv hP hS (lv_sub hl [1, 2, 0] rfl)
  have h := hv
  refine lv_if_ne (tgt := 14) hx hb dX8_goBack_7 (by decide) (fun c20 => ?_) (fun c20 => ?_)
  · have h := gif_f c20 h
    refine lv_aload_n hx hb dX8_goBack_14 rfl (lv_at hl 0 rfl) ?_
    refine gg8_5 X hP kc_129 (sk_in hN kc_129 (by decide)) hi8 (List.mem_of_getElem? (i := 1) rfl) dX8_goBack_15 ?_
    refine lv_iload_n hx hb dX8_goBack_18 rfl (lv_at hl 1 rfl) ?_
    obtain ⟨hgi18, h⟩ := hg_some h
    refine ga21 X hP kc_134 (sk_in hN kc_134 (by decide)) (L := 2) (by decide) hgi18 dX8_goBack_19 ?_
    refine lv_if_eq (tgt := 27) hx hb dX8_goBack_20 (by decide) (fun c19 => ?_) (fun c19 => ?_)
    · have h := gif_t c19 h
      refine lv_iconst (v := 2) hx hb dX8_goBack_27 (by decide) ?_
      cases h
      exact K28 _ _ _ hP hS (lv_sub hl [0, 1] rfl)
    · have h := gif_f c19 h
      refine lv_iconst (v := 0) hx hb dX8_goBack_23 (by decide) ?_
      refine lv_goto (tgt := 28) hx hb dX8_goBack_24 (by decide) ?_
      cases h
      exact K28 _ _ _ hP hS (lv_sub hl [0, 1] rfl)
  · have h := gif_t c20 h
    refine lv_iconst (v := 1) hx hb dX8_goBack_10 (by decide) ?_
    refine lv_goto (tgt := 28) hx hb dX8_goBack_11 (by decide) ?_
    cases h
    exact K28 _ _ _ hP hS (lv_sub hl [0, 1] rfl)
def f_X8_undo_L31 : Nat → Int32 → (Nat → Nat → Int32) → Option (Nat → Nat → Int32)
  | 0, _, _ => none
  | fuel + 1, p6, I7 =>
    if (151 : Int32) ≤ p6 then
      some I7
    else
      hg (gin (((151 : Int32) * (I7 129 3)) + p6) 906) <|
      hg (gin p6 151) <|
      hlet (gup I7 130 (p6.toNatClampNeg) (I7 132 ((((151 : Int32) * (I7 129 3)) + p6).toNatClampNeg))) fun I11 =>
      hlet (p6 + 1) fun x12 =>
      f_X8_undo_L31 fuel x12 I11
def f_X8_undo (I : Nat → Nat → Int32) : Option (Nat → Nat → Int32) :=
  (show Option (Int32) from
    if (I 129 3) = 0 then
      some (1 : Int32)
    else
      some (0 : Int32)).bind fun p1 =>
  (f_X8_refused p1 I).bind fun (r3, I2) =>
  if r3 = 0 then
    hlet (gup I2 129 3 ((I2 129 3) - (1 : Int32))) fun I5 =>
    (f_X8_undo_L31  FU (0 : Int32) I5).bind fun I8 =>
    some I8
  else
    some I2
set_option maxHeartbeats 8000000 in
set_option maxRecDepth 100000 in
theorem c_X8_undo {l : Launch} {dC : Nat → ClassId} {dI : Nat → Nat → Nat} {ca : Nat → ClassId} {b : Nat → Nat} {A : Nat → Prop} {N : Nat} (hN : 138 ≤ N) (hA : gAd A b N) (I : Nat → Nat → Int32) (O : Nat → Nat → Option Nat) (J : Nat → Nat → Int64) (res : Nat → Nat → Int32) (h : f_X8_undo I = some res) : Met l yX8_undo wsX8_undo ({ frames := 1, cells := 0, slots := 0, locals := 21 } : Room) (va_Pc [.ref (b 129)] (gPre dC dI ca b A N I O J)) (va_Qv (fun (u : Nat → Nat → Int32) => res = u) (fun (u : Nat → Nat → Int32) t => va_P (dC, dI) vwCl (hW N ca b u O J) t.heap) A) 0 0 A := by
  refine Met.ofW (cc := cX8_undo) (maxL := 2) (ret := none) (by decide) rfl ?_
  intro p e s m args below meth c s₁ B hml hv
  obtain ⟨rfl, hP, hK, hA2, hth⟩ := hv
  have hx := B.exec
  have hb := B.bytes
  have hr := B.returns
  have hlk := B.notSynchronized
  have X : gCx p s m ([.ref (b 129)] : List Value).toArray c RX8 cX8_undo wsX8_undo 2 dC dI ca b A N := ⟨hx, hb, hml, findClass_of_methodNamed B.named, atoms_spec (ws := wsX8_undo) B.pre, hK, hA, hA2, hth⟩
  have hi8 : ∀ w ∈ wsX80, w ∈ wsX8_undo := (fun w h => List.mem_cons_of_mem _ (List.mem_append_right _ h))
  have hS : va_S A s.heap s.heap [] := va_S.rf
  have hl := lv_entry ([.ref (b 129)] : List Value) (n := 2) (Nat.le_of_ble_eq_true rfl)
  rw [lg_entry_eq]
  generalize (lg_sl ([.ref (b 129)] : List Value) ++ List.replicate (2 - (lg_sl ([.ref (b 129)] : List Value)).length) Slot.unset).toArray = ls at hl ⊢
  have hl : lv_has ls 2 [(0, .ref (b 129))] := hl
  unfold f_X8_undo at h
  refine lv_aload_n hx hb dX8_undo_0 rfl (lv_at hl 0 rfl) ?_
  refine lv_aload_n hx hb dX8_undo_1 rfl (lv_at hl 0 rfl) ?_
  refine gg8_3 X hP kc_129 (sk_in hN kc_129 (by decide)) hi8 (List.mem_of_getElem? (i := 1) rfl) dX8_undo_2 ?_
  obtain ⟨p1, hv, h⟩ := hb_some h
  have K13 : ∀ (H : Heap) (locs : List Loc) (ls : Array Slot), va_P (dC, dI) vwCl (hW N ca b I O J) H → va_S A s.heap H locs → lv_has ls 2 [(0, .ref (b 129))] → W p l e (headSpec wsX8_undo ({ frames := 1, cells := 0, slots := 0, locals := 21 } : Room)).room s m ([.ref (b 129)] : List Value).toArray below meth c H locs 0 0 (MQ below (va_Qv (fun (u : Nat → Nat → Int32) => res = u) (fun (u : Nat → Nat → Int32) t => va_P (dC, dI) vwCl (hW N ca b u O J) t.heap) A) ([.ref (b 129)] : List Value).toArray s 0 0 A) (F0 m 13 ls [.int p1, .ref (b 129)]) := by
    intro H locs ls hP hS hl
    obtain ⟨q4, hcq4, h⟩ := hb_some h
    refine gdV_i (As := [.int p1]) (rest := []) (BH := (fun (u : Nat → Nat → Int32) H => va_P (dC, dI) vwCl (hW N ca b u O J) H)) X hP hS (c_X8_refused hN hA I O J p1 q4 hcq4) (cwV 1 X.ts gX8_undo_X8_refused rfl rfl rfl (by decide +kernel) ⟨Nat.le_of_ble_eq_true rfl, Nat.le_of_ble_eq_true rfl⟩) (gr8 X hP kc_129 (sk_in hN kc_129 (by decide))) rfl hl.1 rfl (Nat.le_of_ble_eq_true rfl) dX8_undo_13 ⟨Nat.le_of_ble_eq_true rfl, Nat.le_of_ble_eq_true rfl⟩ (fun r3 I2 H locs hw hP hS => ?_)
    subst hw
    refine lv_if_ne (tgt := 65) hx hb dX8_undo_16 (by decide) (fun c14 => ?_) (fun c14 => ?_)
    · have h := gif_f c14 h
      exact W.vret hx hb hr (fun t9 ht hW => ⟨⟨I2, rfl, (Option.some.inj h).symm, gEnd ht hP⟩, hS.F ht⟩) hS.2.2 dX8_undo_65 hlk
    · have h := gif_t c14 h
      refine lv_aload_n hx hb dX8_undo_19 rfl (lv_at hl 0 rfl) ?_
      refine lv_dup hx hb dX8_undo_20 rfl ?_
      refine gg8_3 X hP kc_129 (sk_in hN kc_129 (by decide)) hi8 (List.mem_of_getElem? (i := 1) rfl) dX8_undo_21 ?_
      refine lv_iconst (v := 1) hx hb dX8_undo_24 (by decide) ?_
      refine lv_isub hx hb dX8_undo_25 ?_
      refine gp8_3 X hP hS kc_129 (sk_in hN kc_129 (by decide)) hi8 (List.mem_of_getElem? (i := 1) rfl) dX8_undo_26 (fun H locs hP hS => ?_)
      obtain ⟨I5, eI5, h⟩ := hlet_ex h
      rw [← eI5] at hP
      refine lv_iconst (v := 0) hx hb dX8_undo_29 (by decide) ?_
      refine lv_istore_n (lv' := [(1, .int (0 : Int32)), (0, .ref (b 129))]) hx hb dX8_undo_30 rfl hl (by decide) rfl (fun ls hl => ?_)
      obtain ⟨I8, hv, h⟩ := hb_some h
      have K65 : ∀ (H : Heap) (locs : List Loc) (ls : Array Slot), va_P (dC, dI) vwCl (hW N ca b I8 O J) H → va_S A s.heap H locs → lv_has ls 2 [] → W p l e (headSpec wsX8_undo ({ frames := 1, cells := 0, slots := 0, locals := 21 } : Room)).room s m ([.ref (b 129)] : List Value).toArray below meth c H locs 0 0 (MQ below (va_Qv (fun (u : Nat → Nat → Int32) => res = u) (fun (u : Nat → Nat → Int32) t => va_P (dC, dI) vwCl (hW N ca b u O J) t.heap) A) ([.ref (b 129)] : List Value).toArray s 0 0 A) (F0 m 65 ls []) := by
        intro H locs ls hP hS hl
        exact W.vret hx hb hr (fun t9 ht hW => ⟨⟨I8, rfl, (Option.some.inj h).symm, gEnd ht hP⟩, hS.F ht⟩) hS.2.2 dX8_undo_65 hlk
      have hL31 : ∀ (fuel : Nat) (p6 : Int32) (I7 : Nat → Nat → Int32) (H : Heap) (locs : List Loc) (ls : Array Slot), f_X8_undo_L31  fuel p6 I7 = some I8 → va_P (dC, dI) vwCl (hW N ca b I7 O J) H → va_S A s.heap H locs → lv_has ls 2 [(0, .ref (b 129)), (1, .int p6)] → W p l e (headSpec wsX8_undo ({ frames := 1, cells := 0, slots := 0, locals := 21 } : Room)).room s m ([.ref (b 129)] : List Value).toArray below meth c H locs 0 0 (MQ below (va_Qv (fun (u : Nat → Nat → Int32) => res = u) (fun (u : Nat → Nat → Int32) t => va_P (dC, dI) vwCl (hW N ca b u O J) t.heap) A) ([.ref (b 129)] : List Value).toArray s 0 0 A) (F0 m 31 ls []) := by
        intro fuel
        induction fuel with
        | zero =>
          intro p6 I7 H locs ls h hP hS hl
          rw [f_X8_undo_L31] at h
          cases h
        | succ fuel ih =>
          intro p6 I7 H locs ls h hP hS hl
          rw [f_X8_undo_L31] at h
          refine lv_iload_n hx hb dX8_undo_31 rfl (lv_at hl 1 rfl) ?_
          refine lv_sipush (v := 151) hx hb dX8_undo_32 (by decide) ?_
          refine lv_icmp_ge (tgt := 65) hx hb dX8_undo_35 (by decide) (fun c13 => ?_) (fun c13 => ?_)
          · have h := gif_t c13 h
            cases h
            exact K65 _ _ _ hP hS (lv_sub hl [] rfl)
          · have h := gif_f c13 h
            refine lv_aload_n hx hb dX8_undo_38 rfl (lv_at hl 0 rfl) ?_
            refine gg8_0 X hP kc_129 (sk_in hN kc_129 (by decide)) hi8 (List.mem_of_getElem? (i := 2) rfl) dX8_undo_39 ?_
            refine lv_iload_n hx hb dX8_undo_42 rfl (lv_at hl 1 rfl) ?_
            refine lv_aload_n hx hb dX8_undo_43 rfl (lv_at hl 0 rfl) ?_
            refine gg8_2 X hP kc_129 (sk_in hN kc_129 (by decide)) hi8 (List.mem_of_getElem? (i := 3) rfl) dX8_undo_44 ?_
            refine lv_sipush (v := 151) hx hb dX8_undo_47 (by decide) ?_
            refine lv_aload_n hx hb dX8_undo_50 rfl (lv_at hl 0 rfl) ?_
            refine gg8_3 X hP kc_129 (sk_in hN kc_129 (by decide)) hi8 (List.mem_of_getElem? (i := 1) rfl) dX8_undo_51 ?_
            refine lv_imul hx hb dX8_undo_54 ?_
            refine lv_iload_n hx hb dX8_undo_55 rfl (lv_at hl 1 rfl) ?_
            refine lv_iadd hx hb dX8_undo_56 ?_
            obtain ⟨hgi9, h⟩ := hg_some h
            refine ga20 X hP kc_132 (sk_in hN kc_132 (by decide)) (L := 906) (by decide) hgi9 dX8_undo_57 ?_
            obtain ⟨hgi10, h⟩ := hg_some h
            refine gs20 X hP hS kc_130 (sk_in hN kc_130 (by decide)) (L := 151) (by decide) hgi10 dX8_undo_58 (fun H locs hP hS => ?_)
            obtain ⟨I11, eI11, h⟩ := hlet_ex h
            rw [← eI11] at hP
            obtain ⟨x12, ex12, h⟩ := hlet_ex h
            refine lv_iinc (v := x12) (lv' := [(1, .int x12), (0, .ref (b 129))]) hx hb dX8_undo_59 hl (k := 1) rfl (by rw [ex12]; rfl) (by decide) rfl (fun ls hl => ?_)
            refine lv_goto (tgt := 31) hx hb dX8_undo_62 (by decide) ?_
            exact ih _ _ _ _ _ h hP hS (lv_sub hl [1, 0] rfl)
      exact hL31 FU _ _ _ _ _ hv hP hS (lv_sub hl [1, 0] rfl)
  have h := hv
  refine lv_if_ne (tgt := 12) hx hb dX8_undo_5 (by decide) (fun c15 => ?_) (fun c15 => ?_)
  · have h := gif_f c15 h
    refine lv_iconst (v := 0) hx hb dX8_undo_12 (by decide) ?_
    cases h
    exact K13 _ _ _ hP hS (lv_sub hl [0] rfl)
  · have h := gif_t c15 h
    refine lv_iconst (v := 1) hx hb dX8_undo_8 (by decide) ?_
    refine lv_goto (tgt := 13) hx hb dX8_undo_9 (by decide) ?_
    cases h
    exact K13 _ _ _ hP hS (lv_sub hl [0] rfl)
def f_X8_savedStates (I : Nat → Nat → Int32) : Option (Int32 × (Nat → Nat → Int32)) :=
  (f_X8_told (I 129 3) I).bind fun (r2, I1) =>
  some (r2, I1)
set_option maxHeartbeats 8000000 in
set_option maxRecDepth 100000 in
theorem c_X8_savedStates {l : Launch} {dC : Nat → ClassId} {dI : Nat → Nat → Nat} {ca : Nat → ClassId} {b : Nat → Nat} {A : Nat → Prop} {N : Nat} (hN : 138 ≤ N) (hA : gAd A b N) (I : Nat → Nat → Int32) (O : Nat → Nat → Option Nat) (J : Nat → Nat → Int64) (res : Int32 × (Nat → Nat → Int32)) (h : f_X8_savedStates I = some res) : Met l yX8_savedStates wsX8_savedStates ({ frames := 1, cells := 0, slots := 0, locals := 21 } : Room) (va_Pc [.ref (b 129)] (gPre dC dI ca b A N I O J)) (va_Qi (fun (r : Int32) (u : Nat → Nat → Int32) => res = (r, u)) (fun (u : Nat → Nat → Int32) t => va_P (dC, dI) vwCl (hW N ca b u O J) t.heap) A) 0 0 A := by
  refine Met.ofW (cc := cX8_savedStates) (maxL := 1) (ret := (some .int)) (by decide) rfl ?_
  intro p e s m args below meth c s₁ B hml hv
  obtain ⟨rfl, hP, hK, hA2, hth⟩ := hv
  have hx := B.exec
  have hb := B.bytes
  have hr := B.returns
  have hlk := B.notSynchronized
  have X : gCx p s m ([.ref (b 129)] : List Value).toArray c RX8 cX8_savedStates wsX8_savedStates 1 dC dI ca b A N := ⟨hx, hb, hml, findClass_of_methodNamed B.named, atoms_spec (ws := wsX8_savedStates) B.pre, hK, hA, hA2, hth⟩
  have hi8 : ∀ w ∈ wsX80, w ∈ wsX8_savedStates := (fun w h => List.mem_cons_of_mem _ (List.mem_append_right _ h))
  have hS : va_S A s.heap s.heap [] := va_S.rf
  have hl := lv_entry ([.ref (b 129)] : List Value) (n := 1) (Nat.le_of_ble_eq_true rfl)
  rw [lg_entry_eq]
  generalize (lg_sl ([.ref (b 129)] : List Value) ++ List.replicate (1 - (lg_sl ([.ref (b 129)] : List Value)).length) Slot.unset).toArray = ls at hl ⊢
  have hl : lv_has ls 1 [(0, .ref (b 129))] := hl
  unfold f_X8_savedStates at h
  refine lv_aload_n hx hb dX8_savedStates_0 rfl (lv_at hl 0 rfl) ?_
  refine lv_aload_n hx hb dX8_savedStates_1 rfl (lv_at hl 0 rfl) ?_
  refine gg8_3 X hP kc_129 (sk_in hN kc_129 (by decide)) hi8 (List.mem_of_getElem? (i := 1) rfl) dX8_savedStates_2 ?_
  obtain ⟨q3, hcq3, h⟩ := hb_some h
  refine gdV_i (As := [.int (I 129 3)]) (rest := []) (BH := (fun (u : Nat → Nat → Int32) H => va_P (dC, dI) vwCl (hW N ca b u O J) H)) X hP hS (c_X8_told hN hA I O J (I 129 3) q3 hcq3) (cwV 1 X.ts gX8_savedStates_X8_told rfl rfl rfl (by decide +kernel) ⟨Nat.le_of_ble_eq_true rfl, Nat.le_of_ble_eq_true rfl⟩) (gr8 X hP kc_129 (sk_in hN kc_129 (by decide))) rfl hl.1 rfl (Nat.le_of_ble_eq_true rfl) dX8_savedStates_5 ⟨Nat.le_of_ble_eq_true rfl, Nat.le_of_ble_eq_true rfl⟩ (fun r2 I1 H locs hw hP hS => ?_)
  subst hw
  exact W.iret hx hb hr (fun t9 ht hW => ⟨⟨r2, I1, rfl, (Option.some.inj h).symm, gEnd ht hP⟩, hS.F ht⟩) hS.2.2 dX8_savedStates_8 hlk
def f_X8_sparrows (I : Nat → Nat → Int32) : Option (Int32 × (Nat → Nat → Int32)) :=
  (f_X8_told (I 130 ((128 : Int32).toNatClampNeg)) I).bind fun (r2, I1) =>
  some (r2, I1)
set_option maxHeartbeats 8000000 in
set_option maxRecDepth 100000 in
theorem c_X8_sparrows {l : Launch} {dC : Nat → ClassId} {dI : Nat → Nat → Nat} {ca : Nat → ClassId} {b : Nat → Nat} {A : Nat → Prop} {N : Nat} (hN : 138 ≤ N) (hA : gAd A b N) (I : Nat → Nat → Int32) (O : Nat → Nat → Option Nat) (J : Nat → Nat → Int64) (res : Int32 × (Nat → Nat → Int32)) (h : f_X8_sparrows I = some res) : Met l yX8_sparrows wsX8_sparrows ({ frames := 1, cells := 0, slots := 0, locals := 21 } : Room) (va_Pc [.ref (b 129)] (gPre dC dI ca b A N I O J)) (va_Qi (fun (r : Int32) (u : Nat → Nat → Int32) => res = (r, u)) (fun (u : Nat → Nat → Int32) t => va_P (dC, dI) vwCl (hW N ca b u O J) t.heap) A) 0 0 A := by
  refine Met.ofW (cc := cX8_sparrows) (maxL := 1) (ret := (some .int)) (by decide) rfl ?_
  intro p e s m args below meth c s₁ B hml hv
  obtain ⟨rfl, hP, hK, hA2, hth⟩ := hv
  have hx := B.exec
  have hb := B.bytes
  have hr := B.returns
  have hlk := B.notSynchronized
  have X : gCx p s m ([.ref (b 129)] : List Value).toArray c RX8 cX8_sparrows wsX8_sparrows 1 dC dI ca b A N := ⟨hx, hb, hml, findClass_of_methodNamed B.named, atoms_spec (ws := wsX8_sparrows) B.pre, hK, hA, hA2, hth⟩
  have hi8 : ∀ w ∈ wsX80, w ∈ wsX8_sparrows := (fun w h => List.mem_cons_of_mem _ (List.mem_append_right _ h))
  have hS : va_S A s.heap s.heap [] := va_S.rf
  have hl := lv_entry ([.ref (b 129)] : List Value) (n := 1) (Nat.le_of_ble_eq_true rfl)
  rw [lg_entry_eq]
  generalize (lg_sl ([.ref (b 129)] : List Value) ++ List.replicate (1 - (lg_sl ([.ref (b 129)] : List Value)).length) Slot.unset).toArray = ls at hl ⊢
  have hl : lv_has ls 1 [(0, .ref (b 129))] := hl
  unfold f_X8_sparrows at h
  refine lv_aload_n hx hb dX8_sparrows_0 rfl (lv_at hl 0 rfl) ?_
  refine lv_aload_n hx hb dX8_sparrows_1 rfl (lv_at hl 0 rfl) ?_
  refine gg8_0 X hP kc_129 (sk_in hN kc_129 (by decide)) hi8 (List.mem_of_getElem? (i := 1) rfl) dX8_sparrows_2 ?_
  refine lv_sipush (v := 128) hx hb dX8_sparrows_5 (by decide) ?_
  refine ga20 X hP kc_130 (sk_in hN kc_130 (by decide)) (L := 151) (by decide) (by decide) dX8_sparrows_8 ?_
  obtain ⟨q3, hcq3, h⟩ := hb_some h
  refine gdV_i (As := [.int (I 130 ((128 : Int32).toNatClampNeg))]) (rest := []) (BH := (fun (u : Nat → Nat → Int32) H => va_P (dC, dI) vwCl (hW N ca b u O J) H)) X hP hS (c_X8_told hN hA I O J (I 130 ((128 : Int32).toNatClampNeg)) q3 hcq3) (cwV 1 X.ts gX8_sparrows_X8_told rfl rfl rfl (by decide +kernel) ⟨Nat.le_of_ble_eq_true rfl, Nat.le_of_ble_eq_true rfl⟩) (gr8 X hP kc_129 (sk_in hN kc_129 (by decide))) rfl hl.1 rfl (Nat.le_of_ble_eq_true rfl) dX8_sparrows_9 ⟨Nat.le_of_ble_eq_true rfl, Nat.le_of_ble_eq_true rfl⟩ (fun r2 I1 H locs hw hP hS => ?_)
  subst hw
  exact W.iret hx hb hr (fun t9 ht hW => ⟨⟨r2, I1, rfl, (Option.some.inj h).symm, gEnd ht hP⟩, hS.F ht⟩) hS.2.2 dX8_sparrows_12 hlk
def f_X8_ofBird (a1 : Int32) (a2 : Int32) (I : Nat → Nat → Int32) : Option (Int32 × (Nat → Nat → Int32)) :=
  (f_X8_isBird a1 I).bind fun r1 =>
  (show Option (Int32) from
    if r1 = 0 then
      some (1 : Int32)
    else
      some (0 : Int32)).bind fun p3 =>
  (f_X8_refused p3 I).bind fun (r5, I4) =>
  if r5 = 0 then
    (f_X8_of a1 a2 I4).bind fun r7 =>
    some (r7, I4)
  else
    some ((0 : Int32), I4)
set_option maxHeartbeats 8000000 in
set_option maxRecDepth 100000 in
theorem c_X8_ofBird {l : Launch} {dC : Nat → ClassId} {dI : Nat → Nat → Nat} {ca : Nat → ClassId} {b : Nat → Nat} {A : Nat → Prop} {N : Nat} (hN : 138 ≤ N) (hA : gAd A b N) (I : Nat → Nat → Int32) (O : Nat → Nat → Option Nat) (J : Nat → Nat → Int64) (a1 : Int32) (a2 : Int32) (res : Int32 × (Nat → Nat → Int32)) (h : f_X8_ofBird a1 a2 I = some res) : Met l yX8_ofBird wsX8_ofBird ({ frames := 2, cells := 0, slots := 0, locals := 43 } : Room) (va_Pc [.ref (b 129), .int a1, .int a2] (gPre dC dI ca b A N I O J)) (va_Qi (fun (r : Int32) (u : Nat → Nat → Int32) => res = (r, u)) (fun (u : Nat → Nat → Int32) t => va_P (dC, dI) vwCl (hW N ca b u O J) t.heap) A) 0 0 A := by
  refine Met.ofW (cc := cX8_ofBird) (maxL := 3) (ret := (some .int)) (by decide) rfl ?_
  intro p e s m args below meth c s₁ B hml hv
  obtain ⟨rfl, hP, hK, hA2, hth⟩ := hv
  have hx := B.exec
  have hb := B.bytes
  have hr := B.returns
  have hlk := B.notSynchronized
  have X : gCx p s m ([.ref (b 129), .int a1, .int a2] : List Value).toArray c RX8 cX8_ofBird wsX8_ofBird 3 dC dI ca b A N := ⟨hx, hb, hml, findClass_of_methodNamed B.named, atoms_spec (ws := wsX8_ofBird) B.pre, hK, hA, hA2, hth⟩
  have hS : va_S A s.heap s.heap [] := va_S.rf
  have hl := lv_entry ([.ref (b 129), .int a1, .int a2] : List Value) (n := 3) (Nat.le_of_ble_eq_true rfl)
  rw [lg_entry_eq]
  generalize (lg_sl ([.ref (b 129), .int a1, .int a2] : List Value) ++ List.replicate (3 - (lg_sl ([.ref (b 129), .int a1, .int a2] : List Value)).length) Slot.unset).toArray = ls at hl ⊢
  have hl : lv_has ls 3 [(0, .ref (b 129)), (1, .int a1), (2, .int a2)] := hl
  unfold f_X8_ofBird at h
  refine lv_aload_n hx hb dX8_ofBird_0 rfl (lv_at hl 0 rfl) ?_
  refine lv_aload_n hx hb dX8_ofBird_1 rfl (lv_at hl 0 rfl) ?_
  refine lv_iload_n hx hb dX8_ofBird_2 rfl (lv_at hl 1 rfl) ?_
  obtain ⟨q2, hcq2, h⟩ := hb_some h
  refine gdV_i (As := [.int a1]) (rest := [.ref (b 129)]) (BH := (fun (u : Unit) H => va_P (dC, dI) vwCl (hW N ca b I O J) H)) X hP hS (c_X8_isBird hN hA I O J a1 q2 hcq2) (cwV 1 X.ts gX8_ofBird_X8_isBird rfl rfl rfl (by decide +kernel) ⟨Nat.le_of_ble_eq_true rfl, Nat.le_of_ble_eq_true rfl⟩) (gr8 X hP kc_129 (sk_in hN kc_129 (by decide))) rfl hl.1 rfl (Nat.le_of_ble_eq_true rfl) dX8_ofBird_3 ⟨Nat.le_of_ble_eq_true rfl, Nat.le_of_ble_eq_true rfl⟩ (fun r1 u9 H locs hw hP hS => ?_)
  have hw := hw.symm
  subst hw
  obtain ⟨p3, hv, h⟩ := hb_some h
  have K14 : ∀ (H : Heap) (locs : List Loc) (ls : Array Slot), va_P (dC, dI) vwCl (hW N ca b I O J) H → va_S A s.heap H locs → lv_has ls 3 [(0, .ref (b 129)), (1, .int a1), (2, .int a2)] → W p l e (headSpec wsX8_ofBird ({ frames := 2, cells := 0, slots := 0, locals := 43 } : Room)).room s m ([.ref (b 129), .int a1, .int a2] : List Value).toArray below meth c H locs 0 0 (MQ below (va_Qi (fun (r : Int32) (u : Nat → Nat → Int32) => res = (r, u)) (fun (u : Nat → Nat → Int32) t => va_P (dC, dI) vwCl (hW N ca b u O J) t.heap) A) ([.ref (b 129), .int a1, .int a2] : List Value).toArray s 0 0 A) (F0 m 14 ls [.int p3, .ref (b 129)]) := by
    intro H locs ls hP hS hl
    obtain ⟨q6, hcq6, h⟩ := hb_some h
    refine gdV_i (As := [.int p3]) (rest := []) (BH := (fun (u : Nat → Nat → Int32) H => va_P (dC, dI) vwCl (hW N ca b u O J) H)) X hP hS (c_X8_refused hN hA I O J p3 q6 hcq6) (cwV 1 X.ts gX8_ofBird_X8_refused rfl rfl rfl (by decide +kernel) ⟨Nat.le_of_ble_eq_true rfl, Nat.le_of_ble_eq_true rfl⟩) (gr8 X hP kc_129 (sk_in hN kc_129 (by decide))) rfl hl.1 rfl (Nat.le_of_ble_eq_true rfl) dX8_ofBird_14 ⟨Nat.le_of_ble_eq_true rfl, Nat.le_of_ble_eq_true rfl⟩ (fun r5 I4 H locs hw hP hS => ?_)
    subst hw
    refine lv_if_eq (tgt := 24) hx hb dX8_ofBird_17 (by decide) (fun c9 => ?_) (fun c9 => ?_)
    · have h := gif_t c9 h
      refine lv_aload_n hx hb dX8_ofBird_24 rfl (lv_at hl 0 rfl) ?_
      refine lv_iload_n hx hb dX8_ofBird_25 rfl (lv_at hl 1 rfl) ?_
      refine lv_iload_n hx hb dX8_ofBird_26 rfl (lv_at hl 2 rfl) ?_
      obtain ⟨q8, hcq8, h⟩ := hb_some h
      refine gdV_i (As := [.int a1, .int a2]) (rest := []) (BH := (fun (u : Unit) H => va_P (dC, dI) vwCl (hW N ca b I4 O J) H)) X hP hS (c_X8_of hN hA I4 O J a1 a2 q8 hcq8) (cwV 2 X.ts gX8_ofBird_X8_of rfl rfl rfl (by decide +kernel) ⟨Nat.le_of_ble_eq_true rfl, Nat.le_of_ble_eq_true rfl⟩) (gr8 X hP kc_129 (sk_in hN kc_129 (by decide))) rfl hl.1 rfl (Nat.le_of_ble_eq_true rfl) dX8_ofBird_27 ⟨Nat.le_of_ble_eq_true rfl, Nat.le_of_ble_eq_true rfl⟩ (fun r7 u9 H locs hw hP hS => ?_)
      have hw := hw.symm
      subst hw
      exact W.iret hx hb hr (fun t9 ht hW => ⟨⟨r7, I4, rfl, (Option.some.inj h).symm, gEnd ht hP⟩, hS.F ht⟩) hS.2.2 dX8_ofBird_30 hlk
    · have h := gif_f c9 h
      refine lv_iconst (v := 0) hx hb dX8_ofBird_20 (by decide) ?_
      refine lv_goto (tgt := 30) hx hb dX8_ofBird_21 (by decide) ?_
      exact W.iret hx hb hr (fun t9 ht hW => ⟨⟨(0 : Int32), I4, rfl, (Option.some.inj h).symm, gEnd ht hP⟩, hS.F ht⟩) hS.2.2 dX8_ofBird_30 hlk
  have h := hv
  refine lv_if_eq (tgt := 13) hx hb dX8_ofBird_6 (by decide) (fun c10 => ?_) (fun c10 => ?_)
  · have h := gif_t c10 h
    refine lv_iconst (v := 1) hx hb dX8_ofBird_13 (by decide) ?_
    cases h
    exact K14 _ _ _ hP hS (lv_sub hl [0, 1, 2] rfl)
  · have h := gif_f c10 h
    refine lv_iconst (v := 0) hx hb dX8_ofBird_9 (by decide) ?_
    refine lv_goto (tgt := 14) hx hb dX8_ofBird_10 (by decide) ?_
    cases h
    exact K14 _ _ _ hP hS (lv_sub hl [0, 1, 2] rfl)
def f_X8_flown (a1 : Int32) (I : Nat → Nat → Int32) : Option (Int32 × (Nat → Nat → Int32)) :=
  (f_X8_ofBird a1 (7 : Int32) I).bind fun (r2, I1) =>
  some (r2, I1)
set_option maxHeartbeats 8000000 in
set_option maxRecDepth 100000 in
theorem c_X8_flown {l : Launch} {dC : Nat → ClassId} {dI : Nat → Nat → Nat} {ca : Nat → ClassId} {b : Nat → Nat} {A : Nat → Prop} {N : Nat} (hN : 138 ≤ N) (hA : gAd A b N) (I : Nat → Nat → Int32) (O : Nat → Nat → Option Nat) (J : Nat → Nat → Int64) (a1 : Int32) (res : Int32 × (Nat → Nat → Int32)) (h : f_X8_flown a1 I = some res) : Met l yX8_flown wsX8_flown ({ frames := 3, cells := 0, slots := 0, locals := 65 } : Room) (va_Pc [.ref (b 129), .int a1] (gPre dC dI ca b A N I O J)) (va_Qi (fun (r : Int32) (u : Nat → Nat → Int32) => res = (r, u)) (fun (u : Nat → Nat → Int32) t => va_P (dC, dI) vwCl (hW N ca b u O J) t.heap) A) 0 0 A := by
  refine Met.ofW (cc := cX8_flown) (maxL := 2) (ret := (some .int)) (by decide) rfl ?_
  intro p e s m args below meth c s₁ B hml hv
  obtain ⟨rfl, hP, hK, hA2, hth⟩ := hv
  have hx := B.exec
  have hb := B.bytes
  have hr := B.returns
  have hlk := B.notSynchronized
  have X : gCx p s m ([.ref (b 129), .int a1] : List Value).toArray c RX8 cX8_flown wsX8_flown 2 dC dI ca b A N := ⟨hx, hb, hml, findClass_of_methodNamed B.named, atoms_spec (ws := wsX8_flown) B.pre, hK, hA, hA2, hth⟩
  have hS : va_S A s.heap s.heap [] := va_S.rf
  have hl := lv_entry ([.ref (b 129), .int a1] : List Value) (n := 2) (Nat.le_of_ble_eq_true rfl)
  rw [lg_entry_eq]
  generalize (lg_sl ([.ref (b 129), .int a1] : List Value) ++ List.replicate (2 - (lg_sl ([.ref (b 129), .int a1] : List Value)).length) Slot.unset).toArray = ls at hl ⊢
  have hl : lv_has ls 2 [(0, .ref (b 129)), (1, .int a1)] := hl
  unfold f_X8_flown at h
  refine lv_aload_n hx hb dX8_flown_0 rfl (lv_at hl 0 rfl) ?_
  refine lv_iload_n hx hb dX8_flown_1 rfl (lv_at hl 1 rfl) ?_
  refine lv_bipush (v := 7) hx hb dX8_flown_2 (by decide) ?_
  obtain ⟨q3, hcq3, h⟩ := hb_some h
  refine gdV_i (As := [.int a1, .int (7 : Int32)]) (rest := []) (BH := (fun (u : Nat → Nat → Int32) H => va_P (dC, dI) vwCl (hW N ca b u O J) H)) X hP hS (c_X8_ofBird hN hA I O J a1 (7 : Int32) q3 hcq3) (cwV 2 X.ts gX8_flown_X8_ofBird rfl rfl rfl (by decide +kernel) ⟨Nat.le_of_ble_eq_true rfl, Nat.le_of_ble_eq_true rfl⟩) (gr8 X hP kc_129 (sk_in hN kc_129 (by decide))) rfl hl.1 rfl (Nat.le_of_ble_eq_true rfl) dX8_flown_4 ⟨Nat.le_of_ble_eq_true rfl, Nat.le_of_ble_eq_true rfl⟩ (fun r2 I1 H locs hw hP hS => ?_)
  subst hw
  exact W.iret hx hb hr (fun t9 ht hW => ⟨⟨r2, I1, rfl, (Option.some.inj h).symm, gEnd ht hP⟩, hS.F ht⟩) hS.2.2 dX8_flown_7 hlk
def f_X8_lapsOf (a1 : Int32) (I : Nat → Nat → Int32) : Option (Int32 × (Nat → Nat → Int32)) :=
  (f_X8_ofBird a1 (7 : Int32) I).bind fun (r2, I1) =>
  some ((r2 / (400 : Int32)), I1)
set_option maxHeartbeats 8000000 in
set_option maxRecDepth 100000 in
theorem c_X8_lapsOf {l : Launch} {dC : Nat → ClassId} {dI : Nat → Nat → Nat} {ca : Nat → ClassId} {b : Nat → Nat} {A : Nat → Prop} {N : Nat} (hN : 138 ≤ N) (hA : gAd A b N) (I : Nat → Nat → Int32) (O : Nat → Nat → Option Nat) (J : Nat → Nat → Int64) (a1 : Int32) (res : Int32 × (Nat → Nat → Int32)) (h : f_X8_lapsOf a1 I = some res) : Met l yX8_lapsOf wsX8_lapsOf ({ frames := 3, cells := 0, slots := 0, locals := 65 } : Room) (va_Pc [.ref (b 129), .int a1] (gPre dC dI ca b A N I O J)) (va_Qi (fun (r : Int32) (u : Nat → Nat → Int32) => res = (r, u)) (fun (u : Nat → Nat → Int32) t => va_P (dC, dI) vwCl (hW N ca b u O J) t.heap) A) 0 0 A := by
  refine Met.ofW (cc := cX8_lapsOf) (maxL := 2) (ret := (some .int)) (by decide) rfl ?_
  intro p e s m args below meth c s₁ B hml hv
  obtain ⟨rfl, hP, hK, hA2, hth⟩ := hv
  have hx := B.exec
  have hb := B.bytes
  have hr := B.returns
  have hlk := B.notSynchronized
  have X : gCx p s m ([.ref (b 129), .int a1] : List Value).toArray c RX8 cX8_lapsOf wsX8_lapsOf 2 dC dI ca b A N := ⟨hx, hb, hml, findClass_of_methodNamed B.named, atoms_spec (ws := wsX8_lapsOf) B.pre, hK, hA, hA2, hth⟩
  have hS : va_S A s.heap s.heap [] := va_S.rf
  have hl := lv_entry ([.ref (b 129), .int a1] : List Value) (n := 2) (Nat.le_of_ble_eq_true rfl)
  rw [lg_entry_eq]
  generalize (lg_sl ([.ref (b 129), .int a1] : List Value) ++ List.replicate (2 - (lg_sl ([.ref (b 129), .int a1] : List Value)).length) Slot.unset).toArray = ls at hl ⊢
  have hl : lv_has ls 2 [(0, .ref (b 129)), (1, .int a1)] := hl
  unfold f_X8_lapsOf at h
  refine lv_aload_n hx hb dX8_lapsOf_0 rfl (lv_at hl 0 rfl) ?_
  refine lv_iload_n hx hb dX8_lapsOf_1 rfl (lv_at hl 1 rfl) ?_
  refine lv_bipush (v := 7) hx hb dX8_lapsOf_2 (by decide) ?_
  obtain ⟨q3, hcq3, h⟩ := hb_some h
  refine gdV_i (As := [.int a1, .int (7 : Int32)]) (rest := []) (BH := (fun (u : Nat → Nat → Int32) H => va_P (dC, dI) vwCl (hW N ca b u O J) H)) X hP hS (c_X8_ofBird hN hA I O J a1 (7 : Int32) q3 hcq3) (cwV 2 X.ts gX8_lapsOf_X8_ofBird rfl rfl rfl (by decide +kernel) ⟨Nat.le_of_ble_eq_true rfl, Nat.le_of_ble_eq_true rfl⟩) (gr8 X hP kc_129 (sk_in hN kc_129 (by decide))) rfl hl.1 rfl (Nat.le_of_ble_eq_true rfl) dX8_lapsOf_4 ⟨Nat.le_of_ble_eq_true rfl, Nat.le_of_ble_eq_true rfl⟩ (fun r2 I1 H locs hw hP hS => ?_)
  subst hw
  refine lv_sipush (v := 400) hx hb dX8_lapsOf_7 (by decide) ?_
  refine lv_idiv hx hb dX8_lapsOf_10 (by decide) ?_
  exact W.iret hx hb hr (fun t9 ht hW => ⟨⟨(r2 / (400 : Int32)), I1, rfl, (Option.some.inj h).symm, gEnd ht hP⟩, hS.F ht⟩) hS.2.2 dX8_lapsOf_11 hlk
def f_X8_speedOf (a1 : Int32) (I : Nat → Nat → Int32) : Option (Int32 × (Nat → Nat → Int32)) :=
  (f_X8_ofBird a1 (8 : Int32) I).bind fun (r2, I1) =>
  some (r2, I1)
set_option maxHeartbeats 8000000 in
set_option maxRecDepth 100000 in
theorem c_X8_speedOf {l : Launch} {dC : Nat → ClassId} {dI : Nat → Nat → Nat} {ca : Nat → ClassId} {b : Nat → Nat} {A : Nat → Prop} {N : Nat} (hN : 138 ≤ N) (hA : gAd A b N) (I : Nat → Nat → Int32) (O : Nat → Nat → Option Nat) (J : Nat → Nat → Int64) (a1 : Int32) (res : Int32 × (Nat → Nat → Int32)) (h : f_X8_speedOf a1 I = some res) : Met l yX8_speedOf wsX8_speedOf ({ frames := 3, cells := 0, slots := 0, locals := 65 } : Room) (va_Pc [.ref (b 129), .int a1] (gPre dC dI ca b A N I O J)) (va_Qi (fun (r : Int32) (u : Nat → Nat → Int32) => res = (r, u)) (fun (u : Nat → Nat → Int32) t => va_P (dC, dI) vwCl (hW N ca b u O J) t.heap) A) 0 0 A := by
  refine Met.ofW (cc := cX8_speedOf) (maxL := 2) (ret := (some .int)) (by decide) rfl ?_
  intro p e s m args below meth c s₁ B hml hv
  obtain ⟨rfl, hP, hK, hA2, hth⟩ := hv
  have hx := B.exec
  have hb := B.bytes
  have hr := B.returns
  have hlk := B.notSynchronized
  have X : gCx p s m ([.ref (b 129), .int a1] : List Value).toArray c RX8 cX8_speedOf wsX8_speedOf 2 dC dI ca b A N := ⟨hx, hb, hml, findClass_of_methodNamed B.named, atoms_spec (ws := wsX8_speedOf) B.pre, hK, hA, hA2, hth⟩
  have hS : va_S A s.heap s.heap [] := va_S.rf
  have hl := lv_entry ([.ref (b 129), .int a1] : List Value) (n := 2) (Nat.le_of_ble_eq_true rfl)
  rw [lg_entry_eq]
  generalize (lg_sl ([.ref (b 129), .int a1] : List Value) ++ List.replicate (2 - (lg_sl ([.ref (b 129), .int a1] : List Value)).length) Slot.unset).toArray = ls at hl ⊢
  have hl : lv_has ls 2 [(0, .ref (b 129)), (1, .int a1)] := hl
  unfold f_X8_speedOf at h
  refine lv_aload_n hx hb dX8_speedOf_0 rfl (lv_at hl 0 rfl) ?_
  refine lv_iload_n hx hb dX8_speedOf_1 rfl (lv_at hl 1 rfl) ?_
  refine lv_bipush (v := 8) hx hb dX8_speedOf_2 (by decide) ?_
  obtain ⟨q3, hcq3, h⟩ := hb_some h
  refine gdV_i (As := [.int a1, .int (8 : Int32)]) (rest := []) (BH := (fun (u : Nat → Nat → Int32) H => va_P (dC, dI) vwCl (hW N ca b u O J) H)) X hP hS (c_X8_ofBird hN hA I O J a1 (8 : Int32) q3 hcq3) (cwV 2 X.ts gX8_speedOf_X8_ofBird rfl rfl rfl (by decide +kernel) ⟨Nat.le_of_ble_eq_true rfl, Nat.le_of_ble_eq_true rfl⟩) (gr8 X hP kc_129 (sk_in hN kc_129 (by decide))) rfl hl.1 rfl (Nat.le_of_ble_eq_true rfl) dX8_speedOf_4 ⟨Nat.le_of_ble_eq_true rfl, Nat.le_of_ble_eq_true rfl⟩ (fun r2 I1 H locs hw hP hS => ?_)
  subst hw
  exact W.iret hx hb hr (fun t9 ht hW => ⟨⟨r2, I1, rfl, (Option.some.inj h).symm, gEnd ht hP⟩, hS.F ht⟩) hS.2.2 dX8_speedOf_7 hlk
def f_X8_strengthOf (a1 : Int32) (I : Nat → Nat → Int32) : Option (Int32 × (Nat → Nat → Int32)) :=
  (f_X8_ofBird a1 (3 : Int32) I).bind fun (r2, I1) =>
  some (r2, I1)
set_option maxHeartbeats 8000000 in
set_option maxRecDepth 100000 in
theorem c_X8_strengthOf {l : Launch} {dC : Nat → ClassId} {dI : Nat → Nat → Nat} {ca : Nat → ClassId} {b : Nat → Nat} {A : Nat → Prop} {N : Nat} (hN : 138 ≤ N) (hA : gAd A b N) (I : Nat → Nat → Int32) (O : Nat → Nat → Option Nat) (J : Nat → Nat → Int64) (a1 : Int32) (res : Int32 × (Nat → Nat → Int32)) (h : f_X8_strengthOf a1 I = some res) : Met l yX8_strengthOf wsX8_strengthOf ({ frames := 3, cells := 0, slots := 0, locals := 65 } : Room) (va_Pc [.ref (b 129), .int a1] (gPre dC dI ca b A N I O J)) (va_Qi (fun (r : Int32) (u : Nat → Nat → Int32) => res = (r, u)) (fun (u : Nat → Nat → Int32) t => va_P (dC, dI) vwCl (hW N ca b u O J) t.heap) A) 0 0 A := by
  refine Met.ofW (cc := cX8_strengthOf) (maxL := 2) (ret := (some .int)) (by decide) rfl ?_
  intro p e s m args below meth c s₁ B hml hv
  obtain ⟨rfl, hP, hK, hA2, hth⟩ := hv
  have hx := B.exec
  have hb := B.bytes
  have hr := B.returns
  have hlk := B.notSynchronized
  have X : gCx p s m ([.ref (b 129), .int a1] : List Value).toArray c RX8 cX8_strengthOf wsX8_strengthOf 2 dC dI ca b A N := ⟨hx, hb, hml, findClass_of_methodNamed B.named, atoms_spec (ws := wsX8_strengthOf) B.pre, hK, hA, hA2, hth⟩
  have hS : va_S A s.heap s.heap [] := va_S.rf
  have hl := lv_entry ([.ref (b 129), .int a1] : List Value) (n := 2) (Nat.le_of_ble_eq_true rfl)
  rw [lg_entry_eq]
  generalize (lg_sl ([.ref (b 129), .int a1] : List Value) ++ List.replicate (2 - (lg_sl ([.ref (b 129), .int a1] : List Value)).length) Slot.unset).toArray = ls at hl ⊢
  have hl : lv_has ls 2 [(0, .ref (b 129)), (1, .int a1)] := hl
  unfold f_X8_strengthOf at h
  refine lv_aload_n hx hb dX8_strengthOf_0 rfl (lv_at hl 0 rfl) ?_
  refine lv_iload_n hx hb dX8_strengthOf_1 rfl (lv_at hl 1 rfl) ?_
  refine lv_iconst (v := 3) hx hb dX8_strengthOf_2 (by decide) ?_
  obtain ⟨q3, hcq3, h⟩ := hb_some h
  refine gdV_i (As := [.int a1, .int (3 : Int32)]) (rest := []) (BH := (fun (u : Nat → Nat → Int32) H => va_P (dC, dI) vwCl (hW N ca b u O J) H)) X hP hS (c_X8_ofBird hN hA I O J a1 (3 : Int32) q3 hcq3) (cwV 2 X.ts gX8_strengthOf_X8_ofBird rfl rfl rfl (by decide +kernel) ⟨Nat.le_of_ble_eq_true rfl, Nat.le_of_ble_eq_true rfl⟩) (gr8 X hP kc_129 (sk_in hN kc_129 (by decide))) rfl hl.1 rfl (Nat.le_of_ble_eq_true rfl) dX8_strengthOf_3 ⟨Nat.le_of_ble_eq_true rfl, Nat.le_of_ble_eq_true rfl⟩ (fun r2 I1 H locs hw hP hS => ?_)
  subst hw
  exact W.iret hx hb hr (fun t9 ht hW => ⟨⟨r2, I1, rfl, (Option.some.inj h).symm, gEnd ht hP⟩, hS.F ht⟩) hS.2.2 dX8_strengthOf_6 hlk
def f_X8_wearOf (a1 : Int32) (I : Nat → Nat → Int32) : Option (Int32 × (Nat → Nat → Int32)) :=
  (f_X8_ofBird a1 (4 : Int32) I).bind fun (r2, I1) =>
  some (r2, I1)
set_option maxHeartbeats 8000000 in
set_option maxRecDepth 100000 in
theorem c_X8_wearOf {l : Launch} {dC : Nat → ClassId} {dI : Nat → Nat → Nat} {ca : Nat → ClassId} {b : Nat → Nat} {A : Nat → Prop} {N : Nat} (hN : 138 ≤ N) (hA : gAd A b N) (I : Nat → Nat → Int32) (O : Nat → Nat → Option Nat) (J : Nat → Nat → Int64) (a1 : Int32) (res : Int32 × (Nat → Nat → Int32)) (h : f_X8_wearOf a1 I = some res) : Met l yX8_wearOf wsX8_wearOf ({ frames := 3, cells := 0, slots := 0, locals := 65 } : Room) (va_Pc [.ref (b 129), .int a1] (gPre dC dI ca b A N I O J)) (va_Qi (fun (r : Int32) (u : Nat → Nat → Int32) => res = (r, u)) (fun (u : Nat → Nat → Int32) t => va_P (dC, dI) vwCl (hW N ca b u O J) t.heap) A) 0 0 A := by
  refine Met.ofW (cc := cX8_wearOf) (maxL := 2) (ret := (some .int)) (by decide) rfl ?_
  intro p e s m args below meth c s₁ B hml hv
  obtain ⟨rfl, hP, hK, hA2, hth⟩ := hv
  have hx := B.exec
  have hb := B.bytes
  have hr := B.returns
  have hlk := B.notSynchronized
  have X : gCx p s m ([.ref (b 129), .int a1] : List Value).toArray c RX8 cX8_wearOf wsX8_wearOf 2 dC dI ca b A N := ⟨hx, hb, hml, findClass_of_methodNamed B.named, atoms_spec (ws := wsX8_wearOf) B.pre, hK, hA, hA2, hth⟩
  have hS : va_S A s.heap s.heap [] := va_S.rf
  have hl := lv_entry ([.ref (b 129), .int a1] : List Value) (n := 2) (Nat.le_of_ble_eq_true rfl)
  rw [lg_entry_eq]
  generalize (lg_sl ([.ref (b 129), .int a1] : List Value) ++ List.replicate (2 - (lg_sl ([.ref (b 129), .int a1] : List Value)).length) Slot.unset).toArray = ls at hl ⊢
  have hl : lv_has ls 2 [(0, .ref (b 129)), (1, .int a1)] := hl
  unfold f_X8_wearOf at h
  refine lv_aload_n hx hb dX8_wearOf_0 rfl (lv_at hl 0 rfl) ?_
  refine lv_iload_n hx hb dX8_wearOf_1 rfl (lv_at hl 1 rfl) ?_
  refine lv_iconst (v := 4) hx hb dX8_wearOf_2 (by decide) ?_
  obtain ⟨q3, hcq3, h⟩ := hb_some h
  refine gdV_i (As := [.int a1, .int (4 : Int32)]) (rest := []) (BH := (fun (u : Nat → Nat → Int32) H => va_P (dC, dI) vwCl (hW N ca b u O J) H)) X hP hS (c_X8_ofBird hN hA I O J a1 (4 : Int32) q3 hcq3) (cwV 2 X.ts gX8_wearOf_X8_ofBird rfl rfl rfl (by decide +kernel) ⟨Nat.le_of_ble_eq_true rfl, Nat.le_of_ble_eq_true rfl⟩) (gr8 X hP kc_129 (sk_in hN kc_129 (by decide))) rfl hl.1 rfl (Nat.le_of_ble_eq_true rfl) dX8_wearOf_3 ⟨Nat.le_of_ble_eq_true rfl, Nat.le_of_ble_eq_true rfl⟩ (fun r2 I1 H locs hw hP hS => ?_)
  subst hw
  exact W.iret hx hb hr (fun t9 ht hW => ⟨⟨r2, I1, rfl, (Option.some.inj h).symm, gEnd ht hP⟩, hS.F ht⟩) hS.2.2 dX8_wearOf_6 hlk
def f_X8_laneOf (a1 : Int32) (I : Nat → Nat → Int32) : Option (Int32 × (Nat → Nat → Int32)) :=
  (f_X8_ofBird a1 (5 : Int32) I).bind fun (r2, I1) =>
  some (r2, I1)
set_option maxHeartbeats 8000000 in
set_option maxRecDepth 100000 in
theorem c_X8_laneOf {l : Launch} {dC : Nat → ClassId} {dI : Nat → Nat → Nat} {ca : Nat → ClassId} {b : Nat → Nat} {A : Nat → Prop} {N : Nat} (hN : 138 ≤ N) (hA : gAd A b N) (I : Nat → Nat → Int32) (O : Nat → Nat → Option Nat) (J : Nat → Nat → Int64) (a1 : Int32) (res : Int32 × (Nat → Nat → Int32)) (h : f_X8_laneOf a1 I = some res) : Met l yX8_laneOf wsX8_laneOf ({ frames := 3, cells := 0, slots := 0, locals := 65 } : Room) (va_Pc [.ref (b 129), .int a1] (gPre dC dI ca b A N I O J)) (va_Qi (fun (r : Int32) (u : Nat → Nat → Int32) => res = (r, u)) (fun (u : Nat → Nat → Int32) t => va_P (dC, dI) vwCl (hW N ca b u O J) t.heap) A) 0 0 A := by
  refine Met.ofW (cc := cX8_laneOf) (maxL := 2) (ret := (some .int)) (by decide) rfl ?_
  intro p e s m args below meth c s₁ B hml hv
  obtain ⟨rfl, hP, hK, hA2, hth⟩ := hv
  have hx := B.exec
  have hb := B.bytes
  have hr := B.returns
  have hlk := B.notSynchronized
  have X : gCx p s m ([.ref (b 129), .int a1] : List Value).toArray c RX8 cX8_laneOf wsX8_laneOf 2 dC dI ca b A N := ⟨hx, hb, hml, findClass_of_methodNamed B.named, atoms_spec (ws := wsX8_laneOf) B.pre, hK, hA, hA2, hth⟩
  have hS : va_S A s.heap s.heap [] := va_S.rf
  have hl := lv_entry ([.ref (b 129), .int a1] : List Value) (n := 2) (Nat.le_of_ble_eq_true rfl)
  rw [lg_entry_eq]
  generalize (lg_sl ([.ref (b 129), .int a1] : List Value) ++ List.replicate (2 - (lg_sl ([.ref (b 129), .int a1] : List Value)).length) Slot.unset).toArray = ls at hl ⊢
  have hl : lv_has ls 2 [(0, .ref (b 129)), (1, .int a1)] := hl
  unfold f_X8_laneOf at h
  refine lv_aload_n hx hb dX8_laneOf_0 rfl (lv_at hl 0 rfl) ?_
  refine lv_iload_n hx hb dX8_laneOf_1 rfl (lv_at hl 1 rfl) ?_
  refine lv_iconst (v := 5) hx hb dX8_laneOf_2 (by decide) ?_
  obtain ⟨q3, hcq3, h⟩ := hb_some h
  refine gdV_i (As := [.int a1, .int (5 : Int32)]) (rest := []) (BH := (fun (u : Nat → Nat → Int32) H => va_P (dC, dI) vwCl (hW N ca b u O J) H)) X hP hS (c_X8_ofBird hN hA I O J a1 (5 : Int32) q3 hcq3) (cwV 2 X.ts gX8_laneOf_X8_ofBird rfl rfl rfl (by decide +kernel) ⟨Nat.le_of_ble_eq_true rfl, Nat.le_of_ble_eq_true rfl⟩) (gr8 X hP kc_129 (sk_in hN kc_129 (by decide))) rfl hl.1 rfl (Nat.le_of_ble_eq_true rfl) dX8_laneOf_3 ⟨Nat.le_of_ble_eq_true rfl, Nat.le_of_ble_eq_true rfl⟩ (fun r2 I1 H locs hw hP hS => ?_)
  subst hw
  exact W.iret hx hb hr (fun t9 ht hW => ⟨⟨r2, I1, rfl, (Option.some.inj h).symm, gEnd ht hP⟩, hS.F ht⟩) hS.2.2 dX8_laneOf_6 hlk
def f_X8_stateOf (a1 : Int32) (I : Nat → Nat → Int32) : Option (Int32 × (Nat → Nat → Int32)) :=
  (f_X8_ofBird a1 (6 : Int32) I).bind fun (r2, I1) =>
  some (r2, I1)
set_option maxHeartbeats 8000000 in
set_option maxRecDepth 100000 in
theorem c_X8_stateOf {l : Launch} {dC : Nat → ClassId} {dI : Nat → Nat → Nat} {ca : Nat → ClassId} {b : Nat → Nat} {A : Nat → Prop} {N : Nat} (hN : 138 ≤ N) (hA : gAd A b N) (I : Nat → Nat → Int32) (O : Nat → Nat → Option Nat) (J : Nat → Nat → Int64) (a1 : Int32) (res : Int32 × (Nat → Nat → Int32)) (h : f_X8_stateOf a1 I = some res) : Met l yX8_stateOf wsX8_stateOf ({ frames := 3, cells := 0, slots := 0, locals := 65 } : Room) (va_Pc [.ref (b 129), .int a1] (gPre dC dI ca b A N I O J)) (va_Qi (fun (r : Int32) (u : Nat → Nat → Int32) => res = (r, u)) (fun (u : Nat → Nat → Int32) t => va_P (dC, dI) vwCl (hW N ca b u O J) t.heap) A) 0 0 A := by
  refine Met.ofW (cc := cX8_stateOf) (maxL := 2) (ret := (some .int)) (by decide) rfl ?_
  intro p e s m args below meth c s₁ B hml hv
  obtain ⟨rfl, hP, hK, hA2, hth⟩ := hv
  have hx := B.exec
  have hb := B.bytes
  have hr := B.returns
  have hlk := B.notSynchronized
  have X : gCx p s m ([.ref (b 129), .int a1] : List Value).toArray c RX8 cX8_stateOf wsX8_stateOf 2 dC dI ca b A N := ⟨hx, hb, hml, findClass_of_methodNamed B.named, atoms_spec (ws := wsX8_stateOf) B.pre, hK, hA, hA2, hth⟩
  have hS : va_S A s.heap s.heap [] := va_S.rf
  have hl := lv_entry ([.ref (b 129), .int a1] : List Value) (n := 2) (Nat.le_of_ble_eq_true rfl)
  rw [lg_entry_eq]
  generalize (lg_sl ([.ref (b 129), .int a1] : List Value) ++ List.replicate (2 - (lg_sl ([.ref (b 129), .int a1] : List Value)).length) Slot.unset).toArray = ls at hl ⊢
  have hl : lv_has ls 2 [(0, .ref (b 129)), (1, .int a1)] := hl
  unfold f_X8_stateOf at h
  refine lv_aload_n hx hb dX8_stateOf_0 rfl (lv_at hl 0 rfl) ?_
  refine lv_iload_n hx hb dX8_stateOf_1 rfl (lv_at hl 1 rfl) ?_
  refine lv_bipush (v := 6) hx hb dX8_stateOf_2 (by decide) ?_
  obtain ⟨q3, hcq3, h⟩ := hb_some h
  refine gdV_i (As := [.int a1, .int (6 : Int32)]) (rest := []) (BH := (fun (u : Nat → Nat → Int32) H => va_P (dC, dI) vwCl (hW N ca b u O J) H)) X hP hS (c_X8_ofBird hN hA I O J a1 (6 : Int32) q3 hcq3) (cwV 2 X.ts gX8_stateOf_X8_ofBird rfl rfl rfl (by decide +kernel) ⟨Nat.le_of_ble_eq_true rfl, Nat.le_of_ble_eq_true rfl⟩) (gr8 X hP kc_129 (sk_in hN kc_129 (by decide))) rfl hl.1 rfl (Nat.le_of_ble_eq_true rfl) dX8_stateOf_4 ⟨Nat.le_of_ble_eq_true rfl, Nat.le_of_ble_eq_true rfl⟩ (fun r2 I1 H locs hw hP hS => ?_)
  subst hw
  exact W.iret hx hb hr (fun t9 ht hW => ⟨⟨r2, I1, rfl, (Option.some.inj h).symm, gEnd ht hP⟩, hS.F ht⟩) hS.2.2 dX8_stateOf_7 hlk
def f_X8_paceOf (a1 : Int32) (I : Nat → Nat → Int32) : Option (Int32 × (Nat → Nat → Int32)) :=
  (f_X8_ofBird a1 (0 : Int32) I).bind fun (r2, I1) =>
  some (r2, I1)
set_option maxHeartbeats 8000000 in
set_option maxRecDepth 100000 in
theorem c_X8_paceOf {l : Launch} {dC : Nat → ClassId} {dI : Nat → Nat → Nat} {ca : Nat → ClassId} {b : Nat → Nat} {A : Nat → Prop} {N : Nat} (hN : 138 ≤ N) (hA : gAd A b N) (I : Nat → Nat → Int32) (O : Nat → Nat → Option Nat) (J : Nat → Nat → Int64) (a1 : Int32) (res : Int32 × (Nat → Nat → Int32)) (h : f_X8_paceOf a1 I = some res) : Met l yX8_paceOf wsX8_paceOf ({ frames := 3, cells := 0, slots := 0, locals := 65 } : Room) (va_Pc [.ref (b 129), .int a1] (gPre dC dI ca b A N I O J)) (va_Qi (fun (r : Int32) (u : Nat → Nat → Int32) => res = (r, u)) (fun (u : Nat → Nat → Int32) t => va_P (dC, dI) vwCl (hW N ca b u O J) t.heap) A) 0 0 A := by
  refine Met.ofW (cc := cX8_paceOf) (maxL := 2) (ret := (some .int)) (by decide) rfl ?_
  intro p e s m args below meth c s₁ B hml hv
  obtain ⟨rfl, hP, hK, hA2, hth⟩ := hv
  have hx := B.exec
  have hb := B.bytes
  have hr := B.returns
  have hlk := B.notSynchronized
  have X : gCx p s m ([.ref (b 129), .int a1] : List Value).toArray c RX8 cX8_paceOf wsX8_paceOf 2 dC dI ca b A N := ⟨hx, hb, hml, findClass_of_methodNamed B.named, atoms_spec (ws := wsX8_paceOf) B.pre, hK, hA, hA2, hth⟩
  have hS : va_S A s.heap s.heap [] := va_S.rf
  have hl := lv_entry ([.ref (b 129), .int a1] : List Value) (n := 2) (Nat.le_of_ble_eq_true rfl)
  rw [lg_entry_eq]
  generalize (lg_sl ([.ref (b 129), .int a1] : List Value) ++ List.replicate (2 - (lg_sl ([.ref (b 129), .int a1] : List Value)).length) Slot.unset).toArray = ls at hl ⊢
  have hl : lv_has ls 2 [(0, .ref (b 129)), (1, .int a1)] := hl
  unfold f_X8_paceOf at h
  refine lv_aload_n hx hb dX8_paceOf_0 rfl (lv_at hl 0 rfl) ?_
  refine lv_iload_n hx hb dX8_paceOf_1 rfl (lv_at hl 1 rfl) ?_
  refine lv_iconst (v := 0) hx hb dX8_paceOf_2 (by decide) ?_
  obtain ⟨q3, hcq3, h⟩ := hb_some h
  refine gdV_i (As := [.int a1, .int (0 : Int32)]) (rest := []) (BH := (fun (u : Nat → Nat → Int32) H => va_P (dC, dI) vwCl (hW N ca b u O J) H)) X hP hS (c_X8_ofBird hN hA I O J a1 (0 : Int32) q3 hcq3) (cwV 2 X.ts gX8_paceOf_X8_ofBird rfl rfl rfl (by decide +kernel) ⟨Nat.le_of_ble_eq_true rfl, Nat.le_of_ble_eq_true rfl⟩) (gr8 X hP kc_129 (sk_in hN kc_129 (by decide))) rfl hl.1 rfl (Nat.le_of_ble_eq_true rfl) dX8_paceOf_3 ⟨Nat.le_of_ble_eq_true rfl, Nat.le_of_ble_eq_true rfl⟩ (fun r2 I1 H locs hw hP hS => ?_)
  subst hw
  exact W.iret hx hb hr (fun t9 ht hW => ⟨⟨r2, I1, rfl, (Option.some.inj h).symm, gEnd ht hP⟩, hS.F ht⟩) hS.2.2 dX8_paceOf_6 hlk
def f_X8_partnerOf (a1 : Int32) (I : Nat → Nat → Int32) : Option (Int32 × (Nat → Nat → Int32)) :=
  (f_X8_isBird a1 I).bind fun r1 =>
  (show Option (Int32) from
    if r1 = 0 then
      some (1 : Int32)
    else
      (f_X8_of a1 (10 : Int32) I).bind fun r10 =>
      if r10 = 0 then
        some (2 : Int32)
      else
        some (0 : Int32)).bind fun p3 =>
  (f_X8_refused p3 I).bind fun (r5, I4) =>
  if r5 = 0 then
    (f_X8_of a1 (10 : Int32) I4).bind fun r7 =>
    some ((r7 - (1 : Int32)), I4)
  else
    some ((0 : Int32), I4)
set_option maxHeartbeats 8000000 in
set_option maxRecDepth 100000 in
theorem c_X8_partnerOf {l : Launch} {dC : Nat → ClassId} {dI : Nat → Nat → Nat} {ca : Nat → ClassId} {b : Nat → Nat} {A : Nat → Prop} {N : Nat} (hN : 138 ≤ N) (hA : gAd A b N) (I : Nat → Nat → Int32) (O : Nat → Nat → Option Nat) (J : Nat → Nat → Int64) (a1 : Int32) (res : Int32 × (Nat → Nat → Int32)) (h : f_X8_partnerOf a1 I = some res) : Met l yX8_partnerOf wsX8_partnerOf ({ frames := 2, cells := 0, slots := 0, locals := 43 } : Room) (va_Pc [.ref (b 129), .int a1] (gPre dC dI ca b A N I O J)) (va_Qi (fun (r : Int32) (u : Nat → Nat → Int32) => res = (r, u)) (fun (u : Nat → Nat → Int32) t => va_P (dC, dI) vwCl (hW N ca b u O J) t.heap) A) 0 0 A := by
  refine Met.ofW (cc := cX8_partnerOf) (maxL := 2) (ret := (some .int)) (by decide) rfl ?_
  intro p e s m args below meth c s₁ B hml hv
  obtain ⟨rfl, hP, hK, hA2, hth⟩ := hv
  have hx := B.exec
  have hb := B.bytes
  have hr := B.returns
  have hlk := B.notSynchronized
  have X : gCx p s m ([.ref (b 129), .int a1] : List Value).toArray c RX8 cX8_partnerOf wsX8_partnerOf 2 dC dI ca b A N := ⟨hx, hb, hml, findClass_of_methodNamed B.named, atoms_spec (ws := wsX8_partnerOf) B.pre, hK, hA, hA2, hth⟩
  have hS : va_S A s.heap s.heap [] := va_S.rf
  have hl := lv_entry ([.ref (b 129), .int a1] : List Value) (n := 2) (Nat.le_of_ble_eq_true rfl)
  rw [lg_entry_eq]
  generalize (lg_sl ([.ref (b 129), .int a1] : List Value) ++ List.replicate (2 - (lg_sl ([.ref (b 129), .int a1] : List Value)).length) Slot.unset).toArray = ls at hl ⊢
  have hl : lv_has ls 2 [(0, .ref (b 129)), (1, .int a1)] := hl
  unfold f_X8_partnerOf at h
  refine lv_aload_n hx hb dX8_partnerOf_0 rfl (lv_at hl 0 rfl) ?_
  refine lv_aload_n hx hb dX8_partnerOf_1 rfl (lv_at hl 0 rfl) ?_
  refine lv_iload_n hx hb dX8_partnerOf_2 rfl (lv_at hl 1 rfl) ?_
  obtain ⟨q2, hcq2, h⟩ := hb_some h
  refine gdV_i (As := [.int a1]) (rest := [.ref (b 129)]) (BH := (fun (u : Unit) H => va_P (dC, dI) vwCl (hW N ca b I O J) H)) X hP hS (c_X8_isBird hN hA I O J a1 q2 hcq2) (cwV 1 X.ts gX8_partnerOf_X8_isBird rfl rfl rfl (by decide +kernel) ⟨Nat.le_of_ble_eq_true rfl, Nat.le_of_ble_eq_true rfl⟩) (gr8 X hP kc_129 (sk_in hN kc_129 (by decide))) rfl hl.1 rfl (Nat.le_of_ble_eq_true rfl) dX8_partnerOf_3 ⟨Nat.le_of_ble_eq_true rfl, Nat.le_of_ble_eq_true rfl⟩ (fun r1 u9 H locs hw hP hS => ?_)
  have hw := hw.symm
  subst hw
  obtain ⟨p3, hv, h⟩ := hb_some h
  have K28 : ∀ (H : Heap) (locs : List Loc) (ls : Array Slot), va_P (dC, dI) vwCl (hW N ca b I O J) H → va_S A s.heap H locs → lv_has ls 2 [(0, .ref (b 129)), (1, .int a1)] → W p l e (headSpec wsX8_partnerOf ({ frames := 2, cells := 0, slots := 0, locals := 43 } : Room)).room s m ([.ref (b 129), .int a1] : List Value).toArray below meth c H locs 0 0 (MQ below (va_Qi (fun (r : Int32) (u : Nat → Nat → Int32) => res = (r, u)) (fun (u : Nat → Nat → Int32) t => va_P (dC, dI) vwCl (hW N ca b u O J) t.heap) A) ([.ref (b 129), .int a1] : List Value).toArray s 0 0 A) (F0 m 28 ls [.int p3, .ref (b 129)]) := by
    intro H locs ls hP hS hl
    obtain ⟨q6, hcq6, h⟩ := hb_some h
    refine gdV_i (As := [.int p3]) (rest := []) (BH := (fun (u : Nat → Nat → Int32) H => va_P (dC, dI) vwCl (hW N ca b u O J) H)) X hP hS (c_X8_refused hN hA I O J p3 q6 hcq6) (cwV 1 X.ts gX8_partnerOf_X8_refused rfl rfl rfl (by decide +kernel) ⟨Nat.le_of_ble_eq_true rfl, Nat.le_of_ble_eq_true rfl⟩) (gr8 X hP kc_129 (sk_in hN kc_129 (by decide))) rfl hl.1 rfl (Nat.le_of_ble_eq_true rfl) dX8_partnerOf_28 ⟨Nat.le_of_ble_eq_true rfl, Nat.le_of_ble_eq_true rfl⟩ (fun r5 I4 H locs hw hP hS => ?_)
    subst hw
    refine lv_if_eq (tgt := 38) hx hb dX8_partnerOf_31 (by decide) (fun c9 => ?_) (fun c9 => ?_)
    · have h := gif_t c9 h
      refine lv_aload_n hx hb dX8_partnerOf_38 rfl (lv_at hl 0 rfl) ?_
      refine lv_iload_n hx hb dX8_partnerOf_39 rfl (lv_at hl 1 rfl) ?_
      refine lv_bipush (v := 10) hx hb dX8_partnerOf_40 (by decide) ?_
      obtain ⟨q8, hcq8, h⟩ := hb_some h
      refine gdV_i (As := [.int a1, .int (10 : Int32)]) (rest := []) (BH := (fun (u : Unit) H => va_P (dC, dI) vwCl (hW N ca b I4 O J) H)) X hP hS (c_X8_of hN hA I4 O J a1 (10 : Int32) q8 hcq8) (cwV 2 X.ts gX8_partnerOf_X8_of rfl rfl rfl (by decide +kernel) ⟨Nat.le_of_ble_eq_true rfl, Nat.le_of_ble_eq_true rfl⟩) (gr8 X hP kc_129 (sk_in hN kc_129 (by decide))) rfl hl.1 rfl (Nat.le_of_ble_eq_true rfl) dX8_partnerOf_42 ⟨Nat.le_of_ble_eq_true rfl, Nat.le_of_ble_eq_true rfl⟩ (fun r7 u9 H locs hw hP hS => ?_)
      have hw := hw.symm
      subst hw
      refine lv_iconst (v := 1) hx hb dX8_partnerOf_45 (by decide) ?_
      refine lv_isub hx hb dX8_partnerOf_46 ?_
      exact W.iret hx hb hr (fun t9 ht hW => ⟨⟨(r7 - (1 : Int32)), I4, rfl, (Option.some.inj h).symm, gEnd ht hP⟩, hS.F ht⟩) hS.2.2 dX8_partnerOf_47 hlk
    · have h := gif_f c9 h
      refine lv_iconst (v := 0) hx hb dX8_partnerOf_34 (by decide) ?_
      refine lv_goto (tgt := 47) hx hb dX8_partnerOf_35 (by decide) ?_
      exact W.iret hx hb hr (fun t9 ht hW => ⟨⟨(0 : Int32), I4, rfl, (Option.some.inj h).symm, gEnd ht hP⟩, hS.F ht⟩) hS.2.2 dX8_partnerOf_47 hlk
  have h := hv
  refine lv_if_ne (tgt := 13) hx hb dX8_partnerOf_6 (by decide) (fun c13 => ?_) (fun c13 => ?_)
  · have h := gif_f c13 h
    refine lv_aload_n hx hb dX8_partnerOf_13 rfl (lv_at hl 0 rfl) ?_
    refine lv_iload_n hx hb dX8_partnerOf_14 rfl (lv_at hl 1 rfl) ?_
    refine lv_bipush (v := 10) hx hb dX8_partnerOf_15 (by decide) ?_
    obtain ⟨q11, hcq11, h⟩ := hb_some h
    refine gdV_i (As := [.int a1, .int (10 : Int32)]) (rest := [.ref (b 129)]) (BH := (fun (u : Unit) H => va_P (dC, dI) vwCl (hW N ca b I O J) H)) X hP hS (c_X8_of hN hA I O J a1 (10 : Int32) q11 hcq11) (cwV 2 X.ts gX8_partnerOf_X8_of rfl rfl rfl (by decide +kernel) ⟨Nat.le_of_ble_eq_true rfl, Nat.le_of_ble_eq_true rfl⟩) (gr8 X hP kc_129 (sk_in hN kc_129 (by decide))) rfl hl.1 rfl (Nat.le_of_ble_eq_true rfl) dX8_partnerOf_17 ⟨Nat.le_of_ble_eq_true rfl, Nat.le_of_ble_eq_true rfl⟩ (fun r10 u9 H locs hw hP hS => ?_)
    have hw := hw.symm
    subst hw
    refine lv_if_ne (tgt := 27) hx hb dX8_partnerOf_20 (by decide) (fun c12 => ?_) (fun c12 => ?_)
    · have h := gif_f c12 h
      refine lv_iconst (v := 0) hx hb dX8_partnerOf_27 (by decide) ?_
      cases h
      exact K28 _ _ _ hP hS (lv_sub hl [0, 1] rfl)
    · have h := gif_t c12 h
      refine lv_iconst (v := 2) hx hb dX8_partnerOf_23 (by decide) ?_
      refine lv_goto (tgt := 28) hx hb dX8_partnerOf_24 (by decide) ?_
      cases h
      exact K28 _ _ _ hP hS (lv_sub hl [0, 1] rfl)
  · have h := gif_t c13 h
    refine lv_iconst (v := 1) hx hb dX8_partnerOf_9 (by decide) ?_
    refine lv_goto (tgt := 28) hx hb dX8_partnerOf_10 (by decide) ?_
    cases h
    exact K28 _ _ _ hP hS (lv_sub hl [0, 1] rfl)
def f_X8_isCalledIn (a1 : Int32) (I : Nat → Nat → Int32) : Option (Int32 × (Nat → Nat → Int32)) :=
  (f_X8_ofBird a1 (9 : Int32) I).bind fun (r2, I1) =>
  if r2 = (1 : Int32) then
    some ((1 : Int32), I1)
  else
    some ((0 : Int32), I1)
set_option maxHeartbeats 8000000 in
set_option maxRecDepth 100000 in
theorem c_X8_isCalledIn {l : Launch} {dC : Nat → ClassId} {dI : Nat → Nat → Nat} {ca : Nat → ClassId} {b : Nat → Nat} {A : Nat → Prop} {N : Nat} (hN : 138 ≤ N) (hA : gAd A b N) (I : Nat → Nat → Int32) (O : Nat → Nat → Option Nat) (J : Nat → Nat → Int64) (a1 : Int32) (res : Int32 × (Nat → Nat → Int32)) (h : f_X8_isCalledIn a1 I = some res) : Met l yX8_isCalledIn wsX8_isCalledIn ({ frames := 3, cells := 0, slots := 0, locals := 65 } : Room) (va_Pc [.ref (b 129), .int a1] (gPre dC dI ca b A N I O J)) (va_Qi (fun (r : Int32) (u : Nat → Nat → Int32) => res = (r, u)) (fun (u : Nat → Nat → Int32) t => va_P (dC, dI) vwCl (hW N ca b u O J) t.heap) A) 0 0 A := by
  refine Met.ofW (cc := cX8_isCalledIn) (maxL := 2) (ret := (some .boolean)) (by decide) rfl ?_
  intro p e s m args below meth c s₁ B hml hv
  obtain ⟨rfl, hP, hK, hA2, hth⟩ := hv
  have hx := B.exec
  have hb := B.bytes
  have hr := B.returns
  have hlk := B.notSynchronized
  have X : gCx p s m ([.ref (b 129), .int a1] : List Value).toArray c RX8 cX8_isCalledIn wsX8_isCalledIn 2 dC dI ca b A N := ⟨hx, hb, hml, findClass_of_methodNamed B.named, atoms_spec (ws := wsX8_isCalledIn) B.pre, hK, hA, hA2, hth⟩
  have hS : va_S A s.heap s.heap [] := va_S.rf
  have hl := lv_entry ([.ref (b 129), .int a1] : List Value) (n := 2) (Nat.le_of_ble_eq_true rfl)
  rw [lg_entry_eq]
  generalize (lg_sl ([.ref (b 129), .int a1] : List Value) ++ List.replicate (2 - (lg_sl ([.ref (b 129), .int a1] : List Value)).length) Slot.unset).toArray = ls at hl ⊢
  have hl : lv_has ls 2 [(0, .ref (b 129)), (1, .int a1)] := hl
  unfold f_X8_isCalledIn at h
  refine lv_aload_n hx hb dX8_isCalledIn_0 rfl (lv_at hl 0 rfl) ?_
  refine lv_iload_n hx hb dX8_isCalledIn_1 rfl (lv_at hl 1 rfl) ?_
  refine lv_bipush (v := 9) hx hb dX8_isCalledIn_2 (by decide) ?_
  obtain ⟨q3, hcq3, h⟩ := hb_some h
  refine gdV_i (As := [.int a1, .int (9 : Int32)]) (rest := []) (BH := (fun (u : Nat → Nat → Int32) H => va_P (dC, dI) vwCl (hW N ca b u O J) H)) X hP hS (c_X8_ofBird hN hA I O J a1 (9 : Int32) q3 hcq3) (cwV 2 X.ts gX8_isCalledIn_X8_ofBird rfl rfl rfl (by decide +kernel) ⟨Nat.le_of_ble_eq_true rfl, Nat.le_of_ble_eq_true rfl⟩) (gr8 X hP kc_129 (sk_in hN kc_129 (by decide))) rfl hl.1 rfl (Nat.le_of_ble_eq_true rfl) dX8_isCalledIn_4 ⟨Nat.le_of_ble_eq_true rfl, Nat.le_of_ble_eq_true rfl⟩ (fun r2 I1 H locs hw hP hS => ?_)
  subst hw
  refine lv_iconst (v := 1) hx hb dX8_isCalledIn_7 (by decide) ?_
  refine lv_icmp_ne (tgt := 15) hx hb dX8_isCalledIn_8 (by decide) (fun c4 => ?_) (fun c4 => ?_)
  · have h := gif_f c4 h
    refine lv_iconst (v := 0) hx hb dX8_isCalledIn_15 (by decide) ?_
    exact W.zret (ty := .boolean) hx hb hr (by decide) (fun t9 ht hW => ⟨⟨(0 : Int32), I1, rfl, (Option.some.inj h).symm, gEnd ht hP⟩, hS.F ht⟩) hS.2.2 dX8_isCalledIn_16 hlk
  · have h := gif_t c4 h
    refine lv_iconst (v := 1) hx hb dX8_isCalledIn_11 (by decide) ?_
    refine lv_goto (tgt := 16) hx hb dX8_isCalledIn_12 (by decide) ?_
    exact W.zret (ty := .boolean) hx hb hr (by decide) (fun t9 ht hW => ⟨⟨(1 : Int32), I1, rfl, (Option.some.inj h).symm, gEnd ht hP⟩, hS.F ht⟩) hS.2.2 dX8_isCalledIn_16 hlk
def f_X8_limitOf (a1 : Int32) (I : Nat → Nat → Int32) : Option (Int32 × (Nat → Nat → Int32)) :=
  (f_X8_in a1 (0 : Int32) (3 : Int32)).bind fun r1 =>
  (show Option (Int32) from
    if r1 = 0 then
      some (1 : Int32)
    else
      some (0 : Int32)).bind fun p3 =>
  (f_X8_refused p3 I).bind fun (r5, I4) =>
  if r5 = 0 then
    hg (gin ((129 : Int32) + a1) 151) <|
    some ((I4 130 (((129 : Int32) + a1).toNatClampNeg)), I4)
  else
    some ((0 : Int32), I4)
set_option maxHeartbeats 8000000 in
set_option maxRecDepth 100000 in
theorem c_X8_limitOf {l : Launch} {dC : Nat → ClassId} {dI : Nat → Nat → Nat} {ca : Nat → ClassId} {b : Nat → Nat} {A : Nat → Prop} {N : Nat} (hN : 138 ≤ N) (hA : gAd A b N) (I : Nat → Nat → Int32) (O : Nat → Nat → Option Nat) (J : Nat → Nat → Int64) (a1 : Int32) (res : Int32 × (Nat → Nat → Int32)) (h : f_X8_limitOf a1 I = some res) : Met l yX8_limitOf wsX8_limitOf ({ frames := 1, cells := 0, slots := 0, locals := 22 } : Room) (va_Pc [.ref (b 129), .int a1] (gPre dC dI ca b A N I O J)) (va_Qi (fun (r : Int32) (u : Nat → Nat → Int32) => res = (r, u)) (fun (u : Nat → Nat → Int32) t => va_P (dC, dI) vwCl (hW N ca b u O J) t.heap) A) 0 0 A := by
  refine Met.ofW (cc := cX8_limitOf) (maxL := 2) (ret := (some .int)) (by decide) rfl ?_
  intro p e s m args below meth c s₁ B hml hv
  obtain ⟨rfl, hP, hK, hA2, hth⟩ := hv
  have hx := B.exec
  have hb := B.bytes
  have hr := B.returns
  have hlk := B.notSynchronized
  have X : gCx p s m ([.ref (b 129), .int a1] : List Value).toArray c RX8 cX8_limitOf wsX8_limitOf 2 dC dI ca b A N := ⟨hx, hb, hml, findClass_of_methodNamed B.named, atoms_spec (ws := wsX8_limitOf) B.pre, hK, hA, hA2, hth⟩
  have hi8 : ∀ w ∈ wsX80, w ∈ wsX8_limitOf := (fun w h => List.mem_cons_of_mem _ (List.mem_append_right _ h))
  have hS : va_S A s.heap s.heap [] := va_S.rf
  have hl := lv_entry ([.ref (b 129), .int a1] : List Value) (n := 2) (Nat.le_of_ble_eq_true rfl)
  rw [lg_entry_eq]
  generalize (lg_sl ([.ref (b 129), .int a1] : List Value) ++ List.replicate (2 - (lg_sl ([.ref (b 129), .int a1] : List Value)).length) Slot.unset).toArray = ls at hl ⊢
  have hl : lv_has ls 2 [(0, .ref (b 129)), (1, .int a1)] := hl
  unfold f_X8_limitOf at h
  refine lv_aload_n hx hb dX8_limitOf_0 rfl (lv_at hl 0 rfl) ?_
  refine lv_iload_n hx hb dX8_limitOf_1 rfl (lv_at hl 1 rfl) ?_
  refine lv_iconst (v := 0) hx hb dX8_limitOf_2 (by decide) ?_
  refine lv_iconst (v := 3) hx hb dX8_limitOf_3 (by decide) ?_
  obtain ⟨q2, hcq2, h⟩ := hb_some h
  refine gdS_i (As := [.int a1, .int (0 : Int32), .int (3 : Int32)]) (rest := [.ref (b 129)]) (BH := (fun (u : Unit) H => va_P (dC, dI) vwCl (hW N ca b I O J) H)) X hP hS (c_X8_in hN hA I O J a1 (0 : Int32) (3 : Int32) q2 hcq2) (va_cwS 3 X.ts gX8_limitOf_X8_in rfl rfl rfl (by decide +kernel) ⟨Nat.le_of_ble_eq_true rfl, Nat.le_of_ble_eq_true rfl⟩) rfl hl.1 rfl (Nat.le_of_ble_eq_true rfl) dX8_limitOf_4 ⟨Nat.le_of_ble_eq_true rfl, Nat.le_of_ble_eq_true rfl⟩ (fun r1 u9 H locs hw hP hS => ?_)
  have hw := hw.symm
  subst hw
  obtain ⟨p3, hv, h⟩ := hb_some h
  have K15 : ∀ (H : Heap) (locs : List Loc) (ls : Array Slot), va_P (dC, dI) vwCl (hW N ca b I O J) H → va_S A s.heap H locs → lv_has ls 2 [(0, .ref (b 129)), (1, .int a1)] → W p l e (headSpec wsX8_limitOf ({ frames := 1, cells := 0, slots := 0, locals := 22 } : Room)).room s m ([.ref (b 129), .int a1] : List Value).toArray below meth c H locs 0 0 (MQ below (va_Qi (fun (r : Int32) (u : Nat → Nat → Int32) => res = (r, u)) (fun (u : Nat → Nat → Int32) t => va_P (dC, dI) vwCl (hW N ca b u O J) t.heap) A) ([.ref (b 129), .int a1] : List Value).toArray s 0 0 A) (F0 m 15 ls [.int p3, .ref (b 129)]) := by
    intro H locs ls hP hS hl
    obtain ⟨q6, hcq6, h⟩ := hb_some h
    refine gdV_i (As := [.int p3]) (rest := []) (BH := (fun (u : Nat → Nat → Int32) H => va_P (dC, dI) vwCl (hW N ca b u O J) H)) X hP hS (c_X8_refused hN hA I O J p3 q6 hcq6) (cwV 1 X.ts gX8_limitOf_X8_refused rfl rfl rfl (by decide +kernel) ⟨Nat.le_of_ble_eq_true rfl, Nat.le_of_ble_eq_true rfl⟩) (gr8 X hP kc_129 (sk_in hN kc_129 (by decide))) rfl hl.1 rfl (Nat.le_of_ble_eq_true rfl) dX8_limitOf_15 ⟨Nat.le_of_ble_eq_true rfl, Nat.le_of_ble_eq_true rfl⟩ (fun r5 I4 H locs hw hP hS => ?_)
    subst hw
    refine lv_if_eq (tgt := 25) hx hb dX8_limitOf_18 (by decide) (fun c8 => ?_) (fun c8 => ?_)
    · have h := gif_t c8 h
      refine lv_aload_n hx hb dX8_limitOf_25 rfl (lv_at hl 0 rfl) ?_
      refine gg8_0 X hP kc_129 (sk_in hN kc_129 (by decide)) hi8 (List.mem_of_getElem? (i := 1) rfl) dX8_limitOf_26 ?_
      refine lv_sipush (v := 129) hx hb dX8_limitOf_29 (by decide) ?_
      refine lv_iload_n hx hb dX8_limitOf_32 rfl (lv_at hl 1 rfl) ?_
      refine lv_iadd hx hb dX8_limitOf_33 ?_
      obtain ⟨hgi7, h⟩ := hg_some h
      refine ga20 X hP kc_130 (sk_in hN kc_130 (by decide)) (L := 151) (by decide) hgi7 dX8_limitOf_34 ?_
      exact W.iret hx hb hr (fun t9 ht hW => ⟨⟨(I4 130 (((129 : Int32) + a1).toNatClampNeg)), I4, rfl, (Option.some.inj h).symm, gEnd ht hP⟩, hS.F ht⟩) hS.2.2 dX8_limitOf_35 hlk
    · have h := gif_f c8 h
      refine lv_iconst (v := 0) hx hb dX8_limitOf_21 (by decide) ?_
      refine lv_goto (tgt := 35) hx hb dX8_limitOf_22 (by decide) ?_
      exact W.iret hx hb hr (fun t9 ht hW => ⟨⟨(0 : Int32), I4, rfl, (Option.some.inj h).symm, gEnd ht hP⟩, hS.F ht⟩) hS.2.2 dX8_limitOf_35 hlk
  have h := hv
  refine lv_if_eq (tgt := 14) hx hb dX8_limitOf_7 (by decide) (fun c9 => ?_) (fun c9 => ?_)
  · have h := gif_t c9 h
    refine lv_iconst (v := 1) hx hb dX8_limitOf_14 (by decide) ?_
    cases h
    exact K15 _ _ _ hP hS (lv_sub hl [0, 1] rfl)
  · have h := gif_f c9 h
    refine lv_iconst (v := 0) hx hb dX8_limitOf_10 (by decide) ?_
    refine lv_goto (tgt := 15) hx hb dX8_limitOf_11 (by decide) ?_
    cases h
    exact K15 _ _ _ hP hS (lv_sub hl [0, 1] rfl)
def f_X8_placeByCounting (a1 : Int32) (I : Nat → Nat → Int32) : Option (Int32 × (Nat → Nat → Int32)) :=
  (f_X8_isBird a1 I).bind fun r1 =>
  (show Option (Int32) from
    if r1 = 0 then
      some (1 : Int32)
    else
      some (0 : Int32)).bind fun p3 =>
  (f_X8_refused p3 I).bind fun (r5, I4) =>
  if r5 = 0 then
    (f_X8_place a1 I4).bind fun r7 =>
    some (r7, I4)
  else
    some ((0 : Int32), I4)
set_option maxHeartbeats 8000000 in
set_option maxRecDepth 100000 in
theorem c_X8_placeByCounting {l : Launch} {dC : Nat → ClassId} {dI : Nat → Nat → Nat} {ca : Nat → ClassId} {b : Nat → Nat} {A : Nat → Prop} {N : Nat} (hN : 138 ≤ N) (hA : gAd A b N) (I : Nat → Nat → Int32) (O : Nat → Nat → Option Nat) (J : Nat → Nat → Int64) (a1 : Int32) (res : Int32 × (Nat → Nat → Int32)) (h : f_X8_placeByCounting a1 I = some res) : Met l yX8_placeByCounting wsX8_placeByCounting ({ frames := 4, cells := 0, slots := 0, locals := 88 } : Room) (va_Pc [.ref (b 129), .int a1] (gPre dC dI ca b A N I O J)) (va_Qi (fun (r : Int32) (u : Nat → Nat → Int32) => res = (r, u)) (fun (u : Nat → Nat → Int32) t => va_P (dC, dI) vwCl (hW N ca b u O J) t.heap) A) 0 0 A := by
  refine Met.ofW (cc := cX8_placeByCounting) (maxL := 2) (ret := (some .int)) (by decide) rfl ?_
  intro p e s m args below meth c s₁ B hml hv
  obtain ⟨rfl, hP, hK, hA2, hth⟩ := hv
  have hx := B.exec
  have hb := B.bytes
  have hr := B.returns
  have hlk := B.notSynchronized
  have X : gCx p s m ([.ref (b 129), .int a1] : List Value).toArray c RX8 cX8_placeByCounting wsX8_placeByCounting 2 dC dI ca b A N := ⟨hx, hb, hml, findClass_of_methodNamed B.named, atoms_spec (ws := wsX8_placeByCounting) B.pre, hK, hA, hA2, hth⟩
  have hS : va_S A s.heap s.heap [] := va_S.rf
  have hl := lv_entry ([.ref (b 129), .int a1] : List Value) (n := 2) (Nat.le_of_ble_eq_true rfl)
  rw [lg_entry_eq]
  generalize (lg_sl ([.ref (b 129), .int a1] : List Value) ++ List.replicate (2 - (lg_sl ([.ref (b 129), .int a1] : List Value)).length) Slot.unset).toArray = ls at hl ⊢
  have hl : lv_has ls 2 [(0, .ref (b 129)), (1, .int a1)] := hl
  unfold f_X8_placeByCounting at h
  refine lv_aload_n hx hb dX8_placeByCounting_0 rfl (lv_at hl 0 rfl) ?_
  refine lv_aload_n hx hb dX8_placeByCounting_1 rfl (lv_at hl 0 rfl) ?_
  refine lv_iload_n hx hb dX8_placeByCounting_2 rfl (lv_at hl 1 rfl) ?_
  obtain ⟨q2, hcq2, h⟩ := hb_some h
  refine gdV_i (As := [.int a1]) (rest := [.ref (b 129)]) (BH := (fun (u : Unit) H => va_P (dC, dI) vwCl (hW N ca b I O J) H)) X hP hS (c_X8_isBird hN hA I O J a1 q2 hcq2) (cwV 1 X.ts gX8_placeByCounting_X8_isBird rfl rfl rfl (by decide +kernel) ⟨Nat.le_of_ble_eq_true rfl, Nat.le_of_ble_eq_true rfl⟩) (gr8 X hP kc_129 (sk_in hN kc_129 (by decide))) rfl hl.1 rfl (Nat.le_of_ble_eq_true rfl) dX8_placeByCounting_3 ⟨Nat.le_of_ble_eq_true rfl, Nat.le_of_ble_eq_true rfl⟩ (fun r1 u9 H locs hw hP hS => ?_)
  have hw := hw.symm
  subst hw
  obtain ⟨p3, hv, h⟩ := hb_some h
  have K14 : ∀ (H : Heap) (locs : List Loc) (ls : Array Slot), va_P (dC, dI) vwCl (hW N ca b I O J) H → va_S A s.heap H locs → lv_has ls 2 [(0, .ref (b 129)), (1, .int a1)] → W p l e (headSpec wsX8_placeByCounting ({ frames := 4, cells := 0, slots := 0, locals := 88 } : Room)).room s m ([.ref (b 129), .int a1] : List Value).toArray below meth c H locs 0 0 (MQ below (va_Qi (fun (r : Int32) (u : Nat → Nat → Int32) => res = (r, u)) (fun (u : Nat → Nat → Int32) t => va_P (dC, dI) vwCl (hW N ca b u O J) t.heap) A) ([.ref (b 129), .int a1] : List Value).toArray s 0 0 A) (F0 m 14 ls [.int p3, .ref (b 129)]) := by
    intro H locs ls hP hS hl
    obtain ⟨q6, hcq6, h⟩ := hb_some h
    refine gdV_i (As := [.int p3]) (rest := []) (BH := (fun (u : Nat → Nat → Int32) H => va_P (dC, dI) vwCl (hW N ca b u O J) H)) X hP hS (c_X8_refused hN hA I O J p3 q6 hcq6) (cwV 1 X.ts gX8_placeByCounting_X8_refused rfl rfl rfl (by decide +kernel) ⟨Nat.le_of_ble_eq_true rfl, Nat.le_of_ble_eq_true rfl⟩) (gr8 X hP kc_129 (sk_in hN kc_129 (by decide))) rfl hl.1 rfl (Nat.le_of_ble_eq_true rfl) dX8_placeByCounting_14 ⟨Nat.le_of_ble_eq_true rfl, Nat.le_of_ble_eq_true rfl⟩ (fun r5 I4 H locs hw hP hS => ?_)
    subst hw
    refine lv_if_eq (tgt := 24) hx hb dX8_placeByCounting_17 (by decide) (fun c9 => ?_) (fun c9 => ?_)
    · have h := gif_t c9 h
      refine lv_aload_n hx hb dX8_placeByCounting_24 rfl (lv_at hl 0 rfl) ?_
      refine lv_iload_n hx hb dX8_placeByCounting_25 rfl (lv_at hl 1 rfl) ?_
      obtain ⟨q8, hcq8, h⟩ := hb_some h
      refine gdV_i (As := [.int a1]) (rest := []) (BH := (fun (u : Unit) H => va_P (dC, dI) vwCl (hW N ca b I4 O J) H)) X hP hS (c_X8_place hN hA I4 O J a1 q8 hcq8) (cwV 1 X.ts gX8_placeByCounting_X8_place rfl rfl rfl (by decide +kernel) ⟨Nat.le_of_ble_eq_true rfl, Nat.le_of_ble_eq_true rfl⟩) (gr8 X hP kc_129 (sk_in hN kc_129 (by decide))) rfl hl.1 rfl (Nat.le_of_ble_eq_true rfl) dX8_placeByCounting_26 ⟨Nat.le_of_ble_eq_true rfl, Nat.le_of_ble_eq_true rfl⟩ (fun r7 u9 H locs hw hP hS => ?_)
      have hw := hw.symm
      subst hw
      exact W.iret hx hb hr (fun t9 ht hW => ⟨⟨r7, I4, rfl, (Option.some.inj h).symm, gEnd ht hP⟩, hS.F ht⟩) hS.2.2 dX8_placeByCounting_29 hlk
    · have h := gif_f c9 h
      refine lv_iconst (v := 0) hx hb dX8_placeByCounting_20 (by decide) ?_
      refine lv_goto (tgt := 29) hx hb dX8_placeByCounting_21 (by decide) ?_
      exact W.iret hx hb hr (fun t9 ht hW => ⟨⟨(0 : Int32), I4, rfl, (Option.some.inj h).symm, gEnd ht hP⟩, hS.F ht⟩) hS.2.2 dX8_placeByCounting_29 hlk
  have h := hv
  refine lv_if_eq (tgt := 13) hx hb dX8_placeByCounting_6 (by decide) (fun c10 => ?_) (fun c10 => ?_)
  · have h := gif_t c10 h
    refine lv_iconst (v := 1) hx hb dX8_placeByCounting_13 (by decide) ?_
    cases h
    exact K14 _ _ _ hP hS (lv_sub hl [0, 1] rfl)
  · have h := gif_f c10 h
    refine lv_iconst (v := 0) hx hb dX8_placeByCounting_9 (by decide) ?_
    refine lv_goto (tgt := 14) hx hb dX8_placeByCounting_10 (by decide) ?_
    cases h
    exact K14 _ _ _ hP hS (lv_sub hl [0, 1] rfl)
def f_X8_birdByOrder (a1 : Int32) (I : Nat → Nat → Int32) : Option (Int32 × (Nat → Nat → Int32)) :=
  (f_X8_isBird a1 I).bind fun r1 =>
  (show Option (Int32) from
    if r1 = 0 then
      some (1 : Int32)
    else
      some (0 : Int32)).bind fun p3 =>
  (f_X8_refused p3 I).bind fun (r5, I4) =>
  if r5 = 0 then
    (f_X8_birdAt a1 I4).bind fun r7 =>
    some (r7, I4)
  else
    some ((0 : Int32), I4)
set_option maxHeartbeats 8000000 in
set_option maxRecDepth 100000 in
theorem c_X8_birdByOrder {l : Launch} {dC : Nat → ClassId} {dI : Nat → Nat → Nat} {ca : Nat → ClassId} {b : Nat → Nat} {A : Nat → Prop} {N : Nat} (hN : 138 ≤ N) (hA : gAd A b N) (I : Nat → Nat → Int32) (O : Nat → Nat → Option Nat) (J : Nat → Nat → Int64) (a1 : Int32) (res : Int32 × (Nat → Nat → Int32)) (h : f_X8_birdByOrder a1 I = some res) : Met l yX8_birdByOrder wsX8_birdByOrder ({ frames := 5, cells := 0, slots := 0, locals := 111 } : Room) (va_Pc [.ref (b 129), .int a1] (gPre dC dI ca b A N I O J)) (va_Qi (fun (r : Int32) (u : Nat → Nat → Int32) => res = (r, u)) (fun (u : Nat → Nat → Int32) t => va_P (dC, dI) vwCl (hW N ca b u O J) t.heap) A) 0 0 A := by
  refine Met.ofW (cc := cX8_birdByOrder) (maxL := 2) (ret := (some .int)) (by decide) rfl ?_
  intro p e s m args below meth c s₁ B hml hv
  obtain ⟨rfl, hP, hK, hA2, hth⟩ := hv
  have hx := B.exec
  have hb := B.bytes
  have hr := B.returns
  have hlk := B.notSynchronized
  have X : gCx p s m ([.ref (b 129), .int a1] : List Value).toArray c RX8 cX8_birdByOrder wsX8_birdByOrder 2 dC dI ca b A N := ⟨hx, hb, hml, findClass_of_methodNamed B.named, atoms_spec (ws := wsX8_birdByOrder) B.pre, hK, hA, hA2, hth⟩
  have hS : va_S A s.heap s.heap [] := va_S.rf
  have hl := lv_entry ([.ref (b 129), .int a1] : List Value) (n := 2) (Nat.le_of_ble_eq_true rfl)
  rw [lg_entry_eq]
  generalize (lg_sl ([.ref (b 129), .int a1] : List Value) ++ List.replicate (2 - (lg_sl ([.ref (b 129), .int a1] : List Value)).length) Slot.unset).toArray = ls at hl ⊢
  have hl : lv_has ls 2 [(0, .ref (b 129)), (1, .int a1)] := hl
  unfold f_X8_birdByOrder at h
  refine lv_aload_n hx hb dX8_birdByOrder_0 rfl (lv_at hl 0 rfl) ?_
  refine lv_aload_n hx hb dX8_birdByOrder_1 rfl (lv_at hl 0 rfl) ?_
  refine lv_iload_n hx hb dX8_birdByOrder_2 rfl (lv_at hl 1 rfl) ?_
  obtain ⟨q2, hcq2, h⟩ := hb_some h
  refine gdV_i (As := [.int a1]) (rest := [.ref (b 129)]) (BH := (fun (u : Unit) H => va_P (dC, dI) vwCl (hW N ca b I O J) H)) X hP hS (c_X8_isBird hN hA I O J a1 q2 hcq2) (cwV 1 X.ts gX8_birdByOrder_X8_isBird rfl rfl rfl (by decide +kernel) ⟨Nat.le_of_ble_eq_true rfl, Nat.le_of_ble_eq_true rfl⟩) (gr8 X hP kc_129 (sk_in hN kc_129 (by decide))) rfl hl.1 rfl (Nat.le_of_ble_eq_true rfl) dX8_birdByOrder_3 ⟨Nat.le_of_ble_eq_true rfl, Nat.le_of_ble_eq_true rfl⟩ (fun r1 u9 H locs hw hP hS => ?_)
  have hw := hw.symm
  subst hw
  obtain ⟨p3, hv, h⟩ := hb_some h
  have K14 : ∀ (H : Heap) (locs : List Loc) (ls : Array Slot), va_P (dC, dI) vwCl (hW N ca b I O J) H → va_S A s.heap H locs → lv_has ls 2 [(0, .ref (b 129)), (1, .int a1)] → W p l e (headSpec wsX8_birdByOrder ({ frames := 5, cells := 0, slots := 0, locals := 111 } : Room)).room s m ([.ref (b 129), .int a1] : List Value).toArray below meth c H locs 0 0 (MQ below (va_Qi (fun (r : Int32) (u : Nat → Nat → Int32) => res = (r, u)) (fun (u : Nat → Nat → Int32) t => va_P (dC, dI) vwCl (hW N ca b u O J) t.heap) A) ([.ref (b 129), .int a1] : List Value).toArray s 0 0 A) (F0 m 14 ls [.int p3, .ref (b 129)]) := by
    intro H locs ls hP hS hl
    obtain ⟨q6, hcq6, h⟩ := hb_some h
    refine gdV_i (As := [.int p3]) (rest := []) (BH := (fun (u : Nat → Nat → Int32) H => va_P (dC, dI) vwCl (hW N ca b u O J) H)) X hP hS (c_X8_refused hN hA I O J p3 q6 hcq6) (cwV 1 X.ts gX8_birdByOrder_X8_refused rfl rfl rfl (by decide +kernel) ⟨Nat.le_of_ble_eq_true rfl, Nat.le_of_ble_eq_true rfl⟩) (gr8 X hP kc_129 (sk_in hN kc_129 (by decide))) rfl hl.1 rfl (Nat.le_of_ble_eq_true rfl) dX8_birdByOrder_14 ⟨Nat.le_of_ble_eq_true rfl, Nat.le_of_ble_eq_true rfl⟩ (fun r5 I4 H locs hw hP hS => ?_)
    subst hw
    refine lv_if_eq (tgt := 24) hx hb dX8_birdByOrder_17 (by decide) (fun c9 => ?_) (fun c9 => ?_)
    · have h := gif_t c9 h
      refine lv_aload_n hx hb dX8_birdByOrder_24 rfl (lv_at hl 0 rfl) ?_
      refine lv_iload_n hx hb dX8_birdByOrder_25 rfl (lv_at hl 1 rfl) ?_
      obtain ⟨q8, hcq8, h⟩ := hb_some h
      refine gdV_i (As := [.int a1]) (rest := []) (BH := (fun (u : Unit) H => va_P (dC, dI) vwCl (hW N ca b I4 O J) H)) X hP hS (c_X8_birdAt hN hA I4 O J a1 q8 hcq8) (cwV 1 X.ts gX8_birdByOrder_X8_birdAt rfl rfl rfl (by decide +kernel) ⟨Nat.le_of_ble_eq_true rfl, Nat.le_of_ble_eq_true rfl⟩) (gr8 X hP kc_129 (sk_in hN kc_129 (by decide))) rfl hl.1 rfl (Nat.le_of_ble_eq_true rfl) dX8_birdByOrder_26 ⟨Nat.le_of_ble_eq_true rfl, Nat.le_of_ble_eq_true rfl⟩ (fun r7 u9 H locs hw hP hS => ?_)
      have hw := hw.symm
      subst hw
      exact W.iret hx hb hr (fun t9 ht hW => ⟨⟨r7, I4, rfl, (Option.some.inj h).symm, gEnd ht hP⟩, hS.F ht⟩) hS.2.2 dX8_birdByOrder_29 hlk
    · have h := gif_f c9 h
      refine lv_iconst (v := 0) hx hb dX8_birdByOrder_20 (by decide) ?_
      refine lv_goto (tgt := 29) hx hb dX8_birdByOrder_21 (by decide) ?_
      exact W.iret hx hb hr (fun t9 ht hW => ⟨⟨(0 : Int32), I4, rfl, (Option.some.inj h).symm, gEnd ht hP⟩, hS.F ht⟩) hS.2.2 dX8_birdByOrder_29 hlk
  have h := hv
  refine lv_if_eq (tgt := 13) hx hb dX8_birdByOrder_6 (by decide) (fun c10 => ?_) (fun c10 => ?_)
  · have h := gif_t c10 h
    refine lv_iconst (v := 1) hx hb dX8_birdByOrder_13 (by decide) ?_
    cases h
    exact K14 _ _ _ hP hS (lv_sub hl [0, 1] rfl)
  · have h := gif_f c10 h
    refine lv_iconst (v := 0) hx hb dX8_birdByOrder_9 (by decide) ?_
    refine lv_goto (tgt := 14) hx hb dX8_birdByOrder_10 (by decide) ?_
    cases h
    exact K14 _ _ _ hP hS (lv_sub hl [0, 1] rfl)
def f_X8_gapAhead (a1 : Int32) (I : Nat → Nat → Int32) : Option (Int32 × (Nat → Nat → Int32)) :=
  (f_X8_isBird a1 I).bind fun r1 =>
  (show Option (Int32) from
    if r1 = 0 then
      some (1 : Int32)
    else
      some (0 : Int32)).bind fun p3 =>
  (f_X8_refused p3 I).bind fun (r5, I4) =>
  if r5 = 0 then
    (f_X8_of a1 (5 : Int32) I4).bind fun r7 =>
    (f_X8_gap a1 r7 I4).bind fun r9 =>
    some (r9, I4)
  else
    some ((0 : Int32), I4)
set_option maxHeartbeats 8000000 in
set_option maxRecDepth 100000 in
theorem c_X8_gapAhead {l : Launch} {dC : Nat → ClassId} {dI : Nat → Nat → Nat} {ca : Nat → ClassId} {b : Nat → Nat} {A : Nat → Prop} {N : Nat} (hN : 138 ≤ N) (hA : gAd A b N) (I : Nat → Nat → Int32) (O : Nat → Nat → Option Nat) (J : Nat → Nat → Int64) (a1 : Int32) (res : Int32 × (Nat → Nat → Int32)) (h : f_X8_gapAhead a1 I = some res) : Met l yX8_gapAhead wsX8_gapAhead ({ frames := 3, cells := 0, slots := 0, locals := 70 } : Room) (va_Pc [.ref (b 129), .int a1] (gPre dC dI ca b A N I O J)) (va_Qi (fun (r : Int32) (u : Nat → Nat → Int32) => res = (r, u)) (fun (u : Nat → Nat → Int32) t => va_P (dC, dI) vwCl (hW N ca b u O J) t.heap) A) 0 0 A := by
  refine Met.ofW (cc := cX8_gapAhead) (maxL := 2) (ret := (some .int)) (by decide) rfl ?_
  intro p e s m args below meth c s₁ B hml hv
  obtain ⟨rfl, hP, hK, hA2, hth⟩ := hv
  have hx := B.exec
  have hb := B.bytes
  have hr := B.returns
  have hlk := B.notSynchronized
  have X : gCx p s m ([.ref (b 129), .int a1] : List Value).toArray c RX8 cX8_gapAhead wsX8_gapAhead 2 dC dI ca b A N := ⟨hx, hb, hml, findClass_of_methodNamed B.named, atoms_spec (ws := wsX8_gapAhead) B.pre, hK, hA, hA2, hth⟩
  have hS : va_S A s.heap s.heap [] := va_S.rf
  have hl := lv_entry ([.ref (b 129), .int a1] : List Value) (n := 2) (Nat.le_of_ble_eq_true rfl)
  rw [lg_entry_eq]
  generalize (lg_sl ([.ref (b 129), .int a1] : List Value) ++ List.replicate (2 - (lg_sl ([.ref (b 129), .int a1] : List Value)).length) Slot.unset).toArray = ls at hl ⊢
  have hl : lv_has ls 2 [(0, .ref (b 129)), (1, .int a1)] := hl
  unfold f_X8_gapAhead at h
  refine lv_aload_n hx hb dX8_gapAhead_0 rfl (lv_at hl 0 rfl) ?_
  refine lv_aload_n hx hb dX8_gapAhead_1 rfl (lv_at hl 0 rfl) ?_
  refine lv_iload_n hx hb dX8_gapAhead_2 rfl (lv_at hl 1 rfl) ?_
  obtain ⟨q2, hcq2, h⟩ := hb_some h
  refine gdV_i (As := [.int a1]) (rest := [.ref (b 129)]) (BH := (fun (u : Unit) H => va_P (dC, dI) vwCl (hW N ca b I O J) H)) X hP hS (c_X8_isBird hN hA I O J a1 q2 hcq2) (cwV 1 X.ts gX8_gapAhead_X8_isBird rfl rfl rfl (by decide +kernel) ⟨Nat.le_of_ble_eq_true rfl, Nat.le_of_ble_eq_true rfl⟩) (gr8 X hP kc_129 (sk_in hN kc_129 (by decide))) rfl hl.1 rfl (Nat.le_of_ble_eq_true rfl) dX8_gapAhead_3 ⟨Nat.le_of_ble_eq_true rfl, Nat.le_of_ble_eq_true rfl⟩ (fun r1 u9 H locs hw hP hS => ?_)
  have hw := hw.symm
  subst hw
  obtain ⟨p3, hv, h⟩ := hb_some h
  have K14 : ∀ (H : Heap) (locs : List Loc) (ls : Array Slot), va_P (dC, dI) vwCl (hW N ca b I O J) H → va_S A s.heap H locs → lv_has ls 2 [(0, .ref (b 129)), (1, .int a1)] → W p l e (headSpec wsX8_gapAhead ({ frames := 3, cells := 0, slots := 0, locals := 70 } : Room)).room s m ([.ref (b 129), .int a1] : List Value).toArray below meth c H locs 0 0 (MQ below (va_Qi (fun (r : Int32) (u : Nat → Nat → Int32) => res = (r, u)) (fun (u : Nat → Nat → Int32) t => va_P (dC, dI) vwCl (hW N ca b u O J) t.heap) A) ([.ref (b 129), .int a1] : List Value).toArray s 0 0 A) (F0 m 14 ls [.int p3, .ref (b 129)]) := by
    intro H locs ls hP hS hl
    obtain ⟨q6, hcq6, h⟩ := hb_some h
    refine gdV_i (As := [.int p3]) (rest := []) (BH := (fun (u : Nat → Nat → Int32) H => va_P (dC, dI) vwCl (hW N ca b u O J) H)) X hP hS (c_X8_refused hN hA I O J p3 q6 hcq6) (cwV 1 X.ts gX8_gapAhead_X8_refused rfl rfl rfl (by decide +kernel) ⟨Nat.le_of_ble_eq_true rfl, Nat.le_of_ble_eq_true rfl⟩) (gr8 X hP kc_129 (sk_in hN kc_129 (by decide))) rfl hl.1 rfl (Nat.le_of_ble_eq_true rfl) dX8_gapAhead_14 ⟨Nat.le_of_ble_eq_true rfl, Nat.le_of_ble_eq_true rfl⟩ (fun r5 I4 H locs hw hP hS => ?_)
    subst hw
    refine lv_if_eq (tgt := 24) hx hb dX8_gapAhead_17 (by decide) (fun c11 => ?_) (fun c11 => ?_)
    · have h := gif_t c11 h
      refine lv_aload_n hx hb dX8_gapAhead_24 rfl (lv_at hl 0 rfl) ?_
      refine lv_iload_n hx hb dX8_gapAhead_25 rfl (lv_at hl 1 rfl) ?_
      refine lv_aload_n hx hb dX8_gapAhead_26 rfl (lv_at hl 0 rfl) ?_
      refine lv_iload_n hx hb dX8_gapAhead_27 rfl (lv_at hl 1 rfl) ?_
      refine lv_iconst (v := 5) hx hb dX8_gapAhead_28 (by decide) ?_
      obtain ⟨q8, hcq8, h⟩ := hb_some h
      refine gdV_i (As := [.int a1, .int (5 : Int32)]) (rest := [.int a1, .ref (b 129)]) (BH := (fun (u : Unit) H => va_P (dC, dI) vwCl (hW N ca b I4 O J) H)) X hP hS (c_X8_of hN hA I4 O J a1 (5 : Int32) q8 hcq8) (cwV 2 X.ts gX8_gapAhead_X8_of rfl rfl rfl (by decide +kernel) ⟨Nat.le_of_ble_eq_true rfl, Nat.le_of_ble_eq_true rfl⟩) (gr8 X hP kc_129 (sk_in hN kc_129 (by decide))) rfl hl.1 rfl (Nat.le_of_ble_eq_true rfl) dX8_gapAhead_29 ⟨Nat.le_of_ble_eq_true rfl, Nat.le_of_ble_eq_true rfl⟩ (fun r7 u9 H locs hw hP hS => ?_)
      have hw := hw.symm
      subst hw
      obtain ⟨q10, hcq10, h⟩ := hb_some h
      refine gdV_i (As := [.int a1, .int r7]) (rest := []) (BH := (fun (u : Unit) H => va_P (dC, dI) vwCl (hW N ca b I4 O J) H)) X hP hS (c_X8_gap hN hA I4 O J a1 r7 q10 hcq10) (cwV 2 X.ts gX8_gapAhead_X8_gap rfl rfl rfl (by decide +kernel) ⟨Nat.le_of_ble_eq_true rfl, Nat.le_of_ble_eq_true rfl⟩) (gr8 X hP kc_129 (sk_in hN kc_129 (by decide))) rfl hl.1 rfl (Nat.le_of_ble_eq_true rfl) dX8_gapAhead_32 ⟨Nat.le_of_ble_eq_true rfl, Nat.le_of_ble_eq_true rfl⟩ (fun r9 u9 H locs hw hP hS => ?_)
      have hw := hw.symm
      subst hw
      exact W.iret hx hb hr (fun t9 ht hW => ⟨⟨r9, I4, rfl, (Option.some.inj h).symm, gEnd ht hP⟩, hS.F ht⟩) hS.2.2 dX8_gapAhead_35 hlk
    · have h := gif_f c11 h
      refine lv_iconst (v := 0) hx hb dX8_gapAhead_20 (by decide) ?_
      refine lv_goto (tgt := 35) hx hb dX8_gapAhead_21 (by decide) ?_
      exact W.iret hx hb hr (fun t9 ht hW => ⟨⟨(0 : Int32), I4, rfl, (Option.some.inj h).symm, gEnd ht hP⟩, hS.F ht⟩) hS.2.2 dX8_gapAhead_35 hlk
  have h := hv
  refine lv_if_eq (tgt := 13) hx hb dX8_gapAhead_6 (by decide) (fun c12 => ?_) (fun c12 => ?_)
  · have h := gif_t c12 h
    refine lv_iconst (v := 1) hx hb dX8_gapAhead_13 (by decide) ?_
    cases h
    exact K14 _ _ _ hP hS (lv_sub hl [0, 1] rfl)
  · have h := gif_f c12 h
    refine lv_iconst (v := 0) hx hb dX8_gapAhead_9 (by decide) ?_
    refine lv_goto (tgt := 14) hx hb dX8_gapAhead_10 (by decide) ?_
    cases h
    exact K14 _ _ _ hP hS (lv_sub hl [0, 1] rfl)
def f_X8_isIdle (a1 : Int32) (I : Nat → Nat → Int32) : Option (Int32 × (Nat → Nat → Int32)) :=
  (f_X8_isBird a1 I).bind fun r1 =>
  (show Option (Int32) from
    if r1 = 0 then
      some (1 : Int32)
    else
      (f_X8_flies a1 I).bind fun r7 =>
      if r7 = 0 then
        some (2 : Int32)
      else
        some (0 : Int32)).bind fun p3 =>
  (f_X8_refused p3 I).bind fun (r5, I4) =>
  hg (gz r5) <|
  some (r5, I4)
set_option maxHeartbeats 8000000 in
set_option maxRecDepth 100000 in
theorem c_X8_isIdle {l : Launch} {dC : Nat → ClassId} {dI : Nat → Nat → Nat} {ca : Nat → ClassId} {b : Nat → Nat} {A : Nat → Prop} {N : Nat} (hN : 138 ≤ N) (hA : gAd A b N) (I : Nat → Nat → Int32) (O : Nat → Nat → Option Nat) (J : Nat → Nat → Int64) (a1 : Int32) (res : Int32 × (Nat → Nat → Int32)) (h : f_X8_isIdle a1 I = some res) : Met l yX8_isIdle wsX8_isIdle ({ frames := 2, cells := 0, slots := 0, locals := 43 } : Room) (va_Pc [.ref (b 129), .int a1] (gPre dC dI ca b A N I O J)) (va_Qi (fun (r : Int32) (u : Nat → Nat → Int32) => res = (r, u)) (fun (u : Nat → Nat → Int32) t => va_P (dC, dI) vwCl (hW N ca b u O J) t.heap) A) 0 0 A := by
  refine Met.ofW (cc := cX8_isIdle) (maxL := 2) (ret := (some .boolean)) (by decide) rfl ?_
  intro p e s m args below meth c s₁ B hml hv
  obtain ⟨rfl, hP, hK, hA2, hth⟩ := hv
  have hx := B.exec
  have hb := B.bytes
  have hr := B.returns
  have hlk := B.notSynchronized
  have X : gCx p s m ([.ref (b 129), .int a1] : List Value).toArray c RX8 cX8_isIdle wsX8_isIdle 2 dC dI ca b A N := ⟨hx, hb, hml, findClass_of_methodNamed B.named, atoms_spec (ws := wsX8_isIdle) B.pre, hK, hA, hA2, hth⟩
  have hS : va_S A s.heap s.heap [] := va_S.rf
  have hl := lv_entry ([.ref (b 129), .int a1] : List Value) (n := 2) (Nat.le_of_ble_eq_true rfl)
  rw [lg_entry_eq]
  generalize (lg_sl ([.ref (b 129), .int a1] : List Value) ++ List.replicate (2 - (lg_sl ([.ref (b 129), .int a1] : List Value)).length) Slot.unset).toArray = ls at hl ⊢
  have hl : lv_has ls 2 [(0, .ref (b 129)), (1, .int a1)] := hl
  unfold f_X8_isIdle at h
  refine lv_aload_n hx hb dX8_isIdle_0 rfl (lv_at hl 0 rfl) ?_
  refine lv_aload_n hx hb dX8_isIdle_1 rfl (lv_at hl 0 rfl) ?_
  refine lv_iload_n hx hb dX8_isIdle_2 rfl (lv_at hl 1 rfl) ?_
  obtain ⟨q2, hcq2, h⟩ := hb_some h
  refine gdV_i (As := [.int a1]) (rest := [.ref (b 129)]) (BH := (fun (u : Unit) H => va_P (dC, dI) vwCl (hW N ca b I O J) H)) X hP hS (c_X8_isBird hN hA I O J a1 q2 hcq2) (cwV 1 X.ts gX8_isIdle_X8_isBird rfl rfl rfl (by decide +kernel) ⟨Nat.le_of_ble_eq_true rfl, Nat.le_of_ble_eq_true rfl⟩) (gr8 X hP kc_129 (sk_in hN kc_129 (by decide))) rfl hl.1 rfl (Nat.le_of_ble_eq_true rfl) dX8_isIdle_3 ⟨Nat.le_of_ble_eq_true rfl, Nat.le_of_ble_eq_true rfl⟩ (fun r1 u9 H locs hw hP hS => ?_)
  have hw := hw.symm
  subst hw
  obtain ⟨p3, hv, h⟩ := hb_some h
  have K26 : ∀ (H : Heap) (locs : List Loc) (ls : Array Slot), va_P (dC, dI) vwCl (hW N ca b I O J) H → va_S A s.heap H locs → lv_has ls 2 [] → W p l e (headSpec wsX8_isIdle ({ frames := 2, cells := 0, slots := 0, locals := 43 } : Room)).room s m ([.ref (b 129), .int a1] : List Value).toArray below meth c H locs 0 0 (MQ below (va_Qi (fun (r : Int32) (u : Nat → Nat → Int32) => res = (r, u)) (fun (u : Nat → Nat → Int32) t => va_P (dC, dI) vwCl (hW N ca b u O J) t.heap) A) ([.ref (b 129), .int a1] : List Value).toArray s 0 0 A) (F0 m 26 ls [.int p3, .ref (b 129)]) := by
    intro H locs ls hP hS hl
    obtain ⟨q6, hcq6, h⟩ := hb_some h
    refine gdV_i (As := [.int p3]) (rest := []) (BH := (fun (u : Nat → Nat → Int32) H => va_P (dC, dI) vwCl (hW N ca b u O J) H)) X hP hS (c_X8_refused hN hA I O J p3 q6 hcq6) (cwV 1 X.ts gX8_isIdle_X8_refused rfl rfl rfl (by decide +kernel) ⟨Nat.le_of_ble_eq_true rfl, Nat.le_of_ble_eq_true rfl⟩) (gr8 X hP kc_129 (sk_in hN kc_129 (by decide))) rfl hl.1 rfl (Nat.le_of_ble_eq_true rfl) dX8_isIdle_26 ⟨Nat.le_of_ble_eq_true rfl, Nat.le_of_ble_eq_true rfl⟩ (fun r5 I4 H locs hw hP hS => ?_)
    subst hw
    obtain ⟨hgz, h⟩ := hg_some h
    exact W.zret (ty := .boolean) hx hb hr (gz_nar hgz) (fun t9 ht hW => ⟨⟨r5, I4, rfl, (Option.some.inj h).symm, gEnd ht hP⟩, hS.F ht⟩) hS.2.2 dX8_isIdle_29 hlk
  have h := hv
  refine lv_if_ne (tgt := 13) hx hb dX8_isIdle_6 (by decide) (fun c10 => ?_) (fun c10 => ?_)
  · have h := gif_f c10 h
    refine lv_aload_n hx hb dX8_isIdle_13 rfl (lv_at hl 0 rfl) ?_
    refine lv_iload_n hx hb dX8_isIdle_14 rfl (lv_at hl 1 rfl) ?_
    obtain ⟨q8, hcq8, h⟩ := hb_some h
    refine gdV_i (As := [.int a1]) (rest := [.ref (b 129)]) (BH := (fun (u : Unit) H => va_P (dC, dI) vwCl (hW N ca b I O J) H)) X hP hS (c_X8_flies hN hA I O J a1 q8 hcq8) (cwV 1 X.ts gX8_isIdle_X8_flies rfl rfl rfl (by decide +kernel) ⟨Nat.le_of_ble_eq_true rfl, Nat.le_of_ble_eq_true rfl⟩) (gr8 X hP kc_129 (sk_in hN kc_129 (by decide))) rfl hl.1 rfl (Nat.le_of_ble_eq_true rfl) dX8_isIdle_15 ⟨Nat.le_of_ble_eq_true rfl, Nat.le_of_ble_eq_true rfl⟩ (fun r7 u9 H locs hw hP hS => ?_)
    have hw := hw.symm
    subst hw
    refine lv_if_eq (tgt := 25) hx hb dX8_isIdle_18 (by decide) (fun c9 => ?_) (fun c9 => ?_)
    · have h := gif_t c9 h
      refine lv_iconst (v := 2) hx hb dX8_isIdle_25 (by decide) ?_
      cases h
      exact K26 _ _ _ hP hS (lv_sub hl [] rfl)
    · have h := gif_f c9 h
      refine lv_iconst (v := 0) hx hb dX8_isIdle_21 (by decide) ?_
      refine lv_goto (tgt := 26) hx hb dX8_isIdle_22 (by decide) ?_
      cases h
      exact K26 _ _ _ hP hS (lv_sub hl [] rfl)
  · have h := gif_t c10 h
    refine lv_iconst (v := 1) hx hb dX8_isIdle_9 (by decide) ?_
    refine lv_goto (tgt := 26) hx hb dX8_isIdle_10 (by decide) ?_
    cases h
    exact K26 _ _ _ hP hS (lv_sub hl [] rfl)
def f_X8_isDrafting (a1 : Int32) (I : Nat → Nat → Int32) : Option (Int32 × (Nat → Nat → Int32)) :=
  (f_X8_isIdle a1 I).bind fun (r2, I1) =>
  if r2 = 0 then
    (f_X8_isDrafted a1 I1).bind fun r4 =>
    if r4 = 0 then
      some ((0 : Int32), I1)
    else
      some ((1 : Int32), I1)
  else
    some ((0 : Int32), I1)
set_option maxHeartbeats 8000000 in
set_option maxRecDepth 100000 in
theorem c_X8_isDrafting {l : Launch} {dC : Nat → ClassId} {dI : Nat → Nat → Nat} {ca : Nat → ClassId} {b : Nat → Nat} {A : Nat → Prop} {N : Nat} (hN : 138 ≤ N) (hA : gAd A b N) (I : Nat → Nat → Int32) (O : Nat → Nat → Option Nat) (J : Nat → Nat → Int64) (a1 : Int32) (res : Int32 × (Nat → Nat → Int32)) (h : f_X8_isDrafting a1 I = some res) : Met l yX8_isDrafting wsX8_isDrafting ({ frames := 4, cells := 0, slots := 0, locals := 91 } : Room) (va_Pc [.ref (b 129), .int a1] (gPre dC dI ca b A N I O J)) (va_Qi (fun (r : Int32) (u : Nat → Nat → Int32) => res = (r, u)) (fun (u : Nat → Nat → Int32) t => va_P (dC, dI) vwCl (hW N ca b u O J) t.heap) A) 0 0 A := by
  refine Met.ofW (cc := cX8_isDrafting) (maxL := 2) (ret := (some .boolean)) (by decide) rfl ?_
  intro p e s m args below meth c s₁ B hml hv
  obtain ⟨rfl, hP, hK, hA2, hth⟩ := hv
  have hx := B.exec
  have hb := B.bytes
  have hr := B.returns
  have hlk := B.notSynchronized
  have X : gCx p s m ([.ref (b 129), .int a1] : List Value).toArray c RX8 cX8_isDrafting wsX8_isDrafting 2 dC dI ca b A N := ⟨hx, hb, hml, findClass_of_methodNamed B.named, atoms_spec (ws := wsX8_isDrafting) B.pre, hK, hA, hA2, hth⟩
  have hS : va_S A s.heap s.heap [] := va_S.rf
  have hl := lv_entry ([.ref (b 129), .int a1] : List Value) (n := 2) (Nat.le_of_ble_eq_true rfl)
  rw [lg_entry_eq]
  generalize (lg_sl ([.ref (b 129), .int a1] : List Value) ++ List.replicate (2 - (lg_sl ([.ref (b 129), .int a1] : List Value)).length) Slot.unset).toArray = ls at hl ⊢
  have hl : lv_has ls 2 [(0, .ref (b 129)), (1, .int a1)] := hl
  unfold f_X8_isDrafting at h
  refine lv_aload_n hx hb dX8_isDrafting_0 rfl (lv_at hl 0 rfl) ?_
  refine lv_iload_n hx hb dX8_isDrafting_1 rfl (lv_at hl 1 rfl) ?_
  obtain ⟨q3, hcq3, h⟩ := hb_some h
  refine gdV_i (As := [.int a1]) (rest := []) (BH := (fun (u : Nat → Nat → Int32) H => va_P (dC, dI) vwCl (hW N ca b u O J) H)) X hP hS (c_X8_isIdle hN hA I O J a1 q3 hcq3) (cwV 1 X.ts gX8_isDrafting_X8_isIdle rfl rfl rfl (by decide +kernel) ⟨Nat.le_of_ble_eq_true rfl, Nat.le_of_ble_eq_true rfl⟩) (gr8 X hP kc_129 (sk_in hN kc_129 (by decide))) rfl hl.1 rfl (Nat.le_of_ble_eq_true rfl) dX8_isDrafting_2 ⟨Nat.le_of_ble_eq_true rfl, Nat.le_of_ble_eq_true rfl⟩ (fun r2 I1 H locs hw hP hS => ?_)
  subst hw
  refine lv_if_ne (tgt := 20) hx hb dX8_isDrafting_5 (by decide) (fun c7 => ?_) (fun c7 => ?_)
  · have h := gif_f c7 h
    refine lv_iconst (v := 0) hx hb dX8_isDrafting_20 (by decide) ?_
    exact W.zret (ty := .boolean) hx hb hr (by decide) (fun t9 ht hW => ⟨⟨(0 : Int32), I1, rfl, (Option.some.inj h).symm, gEnd ht hP⟩, hS.F ht⟩) hS.2.2 dX8_isDrafting_21 hlk
  · have h := gif_t c7 h
    refine lv_aload_n hx hb dX8_isDrafting_8 rfl (lv_at hl 0 rfl) ?_
    refine lv_iload_n hx hb dX8_isDrafting_9 rfl (lv_at hl 1 rfl) ?_
    obtain ⟨q5, hcq5, h⟩ := hb_some h
    refine gdV_i (As := [.int a1]) (rest := []) (BH := (fun (u : Unit) H => va_P (dC, dI) vwCl (hW N ca b I1 O J) H)) X hP hS (c_X8_isDrafted hN hA I1 O J a1 q5 hcq5) (cwV 1 X.ts gX8_isDrafting_X8_isDrafted rfl rfl rfl (by decide +kernel) ⟨Nat.le_of_ble_eq_true rfl, Nat.le_of_ble_eq_true rfl⟩) (gr8 X hP kc_129 (sk_in hN kc_129 (by decide))) rfl hl.1 rfl (Nat.le_of_ble_eq_true rfl) dX8_isDrafting_10 ⟨Nat.le_of_ble_eq_true rfl, Nat.le_of_ble_eq_true rfl⟩ (fun r4 u9 H locs hw hP hS => ?_)
    have hw := hw.symm
    subst hw
    refine lv_if_eq (tgt := 20) hx hb dX8_isDrafting_13 (by decide) (fun c6 => ?_) (fun c6 => ?_)
    · have h := gif_t c6 h
      refine lv_iconst (v := 0) hx hb dX8_isDrafting_20 (by decide) ?_
      exact W.zret (ty := .boolean) hx hb hr (by decide) (fun t9 ht hW => ⟨⟨(0 : Int32), I1, rfl, (Option.some.inj h).symm, gEnd ht hP⟩, hS.F ht⟩) hS.2.2 dX8_isDrafting_21 hlk
    · have h := gif_f c6 h
      refine lv_iconst (v := 1) hx hb dX8_isDrafting_16 (by decide) ?_
      refine lv_goto (tgt := 21) hx hb dX8_isDrafting_17 (by decide) ?_
      exact W.zret (ty := .boolean) hx hb hr (by decide) (fun t9 ht hW => ⟨⟨(1 : Int32), I1, rfl, (Option.some.inj h).symm, gEnd ht hP⟩, hS.F ht⟩) hS.2.2 dX8_isDrafting_21 hlk
def f_X8_whereIs (a1 : Int32) (I : Nat → Nat → Int32) : Option (Int32 × (Nat → Nat → Int32)) :=
  (f_X8_isBird a1 I).bind fun r1 =>
  (show Option (Int32) from
    if r1 = 0 then
      some (1 : Int32)
    else
      some (0 : Int32)).bind fun p3 =>
  (f_X8_refused p3 I).bind fun (r5, I4) =>
  if r5 = 0 then
    (f_X8_where a1 I4).bind fun r7 =>
    some (r7, I4)
  else
    some ((0 : Int32), I4)
set_option maxHeartbeats 8000000 in
set_option maxRecDepth 100000 in
theorem c_X8_whereIs {l : Launch} {dC : Nat → ClassId} {dI : Nat → Nat → Nat} {ca : Nat → ClassId} {b : Nat → Nat} {A : Nat → Prop} {N : Nat} (hN : 138 ≤ N) (hA : gAd A b N) (I : Nat → Nat → Int32) (O : Nat → Nat → Option Nat) (J : Nat → Nat → Int64) (a1 : Int32) (res : Int32 × (Nat → Nat → Int32)) (h : f_X8_whereIs a1 I = some res) : Met l yX8_whereIs wsX8_whereIs ({ frames := 2, cells := 0, slots := 0, locals := 44 } : Room) (va_Pc [.ref (b 129), .int a1] (gPre dC dI ca b A N I O J)) (va_Qi (fun (r : Int32) (u : Nat → Nat → Int32) => res = (r, u)) (fun (u : Nat → Nat → Int32) t => va_P (dC, dI) vwCl (hW N ca b u O J) t.heap) A) 0 0 A := by
  refine Met.ofW (cc := cX8_whereIs) (maxL := 2) (ret := (some .int)) (by decide) rfl ?_
  intro p e s m args below meth c s₁ B hml hv
  obtain ⟨rfl, hP, hK, hA2, hth⟩ := hv
  have hx := B.exec
  have hb := B.bytes
  have hr := B.returns
  have hlk := B.notSynchronized
  have X : gCx p s m ([.ref (b 129), .int a1] : List Value).toArray c RX8 cX8_whereIs wsX8_whereIs 2 dC dI ca b A N := ⟨hx, hb, hml, findClass_of_methodNamed B.named, atoms_spec (ws := wsX8_whereIs) B.pre, hK, hA, hA2, hth⟩
  have hS : va_S A s.heap s.heap [] := va_S.rf
  have hl := lv_entry ([.ref (b 129), .int a1] : List Value) (n := 2) (Nat.le_of_ble_eq_true rfl)
  rw [lg_entry_eq]
  generalize (lg_sl ([.ref (b 129), .int a1] : List Value) ++ List.replicate (2 - (lg_sl ([.ref (b 129), .int a1] : List Value)).length) Slot.unset).toArray = ls at hl ⊢
  have hl : lv_has ls 2 [(0, .ref (b 129)), (1, .int a1)] := hl
  unfold f_X8_whereIs at h
  refine lv_aload_n hx hb dX8_whereIs_0 rfl (lv_at hl 0 rfl) ?_
  refine lv_aload_n hx hb dX8_whereIs_1 rfl (lv_at hl 0 rfl) ?_
  refine lv_iload_n hx hb dX8_whereIs_2 rfl (lv_at hl 1 rfl) ?_
  obtain ⟨q2, hcq2, h⟩ := hb_some h
  refine gdV_i (As := [.int a1]) (rest := [.ref (b 129)]) (BH := (fun (u : Unit) H => va_P (dC, dI) vwCl (hW N ca b I O J) H)) X hP hS (c_X8_isBird hN hA I O J a1 q2 hcq2) (cwV 1 X.ts gX8_whereIs_X8_isBird rfl rfl rfl (by decide +kernel) ⟨Nat.le_of_ble_eq_true rfl, Nat.le_of_ble_eq_true rfl⟩) (gr8 X hP kc_129 (sk_in hN kc_129 (by decide))) rfl hl.1 rfl (Nat.le_of_ble_eq_true rfl) dX8_whereIs_3 ⟨Nat.le_of_ble_eq_true rfl, Nat.le_of_ble_eq_true rfl⟩ (fun r1 u9 H locs hw hP hS => ?_)
  have hw := hw.symm
  subst hw
  obtain ⟨p3, hv, h⟩ := hb_some h
  have K14 : ∀ (H : Heap) (locs : List Loc) (ls : Array Slot), va_P (dC, dI) vwCl (hW N ca b I O J) H → va_S A s.heap H locs → lv_has ls 2 [(0, .ref (b 129)), (1, .int a1)] → W p l e (headSpec wsX8_whereIs ({ frames := 2, cells := 0, slots := 0, locals := 44 } : Room)).room s m ([.ref (b 129), .int a1] : List Value).toArray below meth c H locs 0 0 (MQ below (va_Qi (fun (r : Int32) (u : Nat → Nat → Int32) => res = (r, u)) (fun (u : Nat → Nat → Int32) t => va_P (dC, dI) vwCl (hW N ca b u O J) t.heap) A) ([.ref (b 129), .int a1] : List Value).toArray s 0 0 A) (F0 m 14 ls [.int p3, .ref (b 129)]) := by
    intro H locs ls hP hS hl
    obtain ⟨q6, hcq6, h⟩ := hb_some h
    refine gdV_i (As := [.int p3]) (rest := []) (BH := (fun (u : Nat → Nat → Int32) H => va_P (dC, dI) vwCl (hW N ca b u O J) H)) X hP hS (c_X8_refused hN hA I O J p3 q6 hcq6) (cwV 1 X.ts gX8_whereIs_X8_refused rfl rfl rfl (by decide +kernel) ⟨Nat.le_of_ble_eq_true rfl, Nat.le_of_ble_eq_true rfl⟩) (gr8 X hP kc_129 (sk_in hN kc_129 (by decide))) rfl hl.1 rfl (Nat.le_of_ble_eq_true rfl) dX8_whereIs_14 ⟨Nat.le_of_ble_eq_true rfl, Nat.le_of_ble_eq_true rfl⟩ (fun r5 I4 H locs hw hP hS => ?_)
    subst hw
    refine lv_if_eq (tgt := 24) hx hb dX8_whereIs_17 (by decide) (fun c9 => ?_) (fun c9 => ?_)
    · have h := gif_t c9 h
      refine lv_aload_n hx hb dX8_whereIs_24 rfl (lv_at hl 0 rfl) ?_
      refine lv_iload_n hx hb dX8_whereIs_25 rfl (lv_at hl 1 rfl) ?_
      obtain ⟨q8, hcq8, h⟩ := hb_some h
      refine gdV_i (As := [.int a1]) (rest := []) (BH := (fun (u : Unit) H => va_P (dC, dI) vwCl (hW N ca b I4 O J) H)) X hP hS (c_X8_where hN hA I4 O J a1 q8 hcq8) (cwV 1 X.ts gX8_whereIs_X8_where rfl rfl rfl (by decide +kernel) ⟨Nat.le_of_ble_eq_true rfl, Nat.le_of_ble_eq_true rfl⟩) (gr8 X hP kc_129 (sk_in hN kc_129 (by decide))) rfl hl.1 rfl (Nat.le_of_ble_eq_true rfl) dX8_whereIs_26 ⟨Nat.le_of_ble_eq_true rfl, Nat.le_of_ble_eq_true rfl⟩ (fun r7 u9 H locs hw hP hS => ?_)
      have hw := hw.symm
      subst hw
      exact W.iret hx hb hr (fun t9 ht hW => ⟨⟨r7, I4, rfl, (Option.some.inj h).symm, gEnd ht hP⟩, hS.F ht⟩) hS.2.2 dX8_whereIs_29 hlk
    · have h := gif_f c9 h
      refine lv_iconst (v := 0) hx hb dX8_whereIs_20 (by decide) ?_
      refine lv_goto (tgt := 29) hx hb dX8_whereIs_21 (by decide) ?_
      exact W.iret hx hb hr (fun t9 ht hW => ⟨⟨(0 : Int32), I4, rfl, (Option.some.inj h).symm, gEnd ht hP⟩, hS.F ht⟩) hS.2.2 dX8_whereIs_29 hlk
  have h := hv
  refine lv_if_eq (tgt := 13) hx hb dX8_whereIs_6 (by decide) (fun c10 => ?_) (fun c10 => ?_)
  · have h := gif_t c10 h
    refine lv_iconst (v := 1) hx hb dX8_whereIs_13 (by decide) ?_
    cases h
    exact K14 _ _ _ hP hS (lv_sub hl [0, 1] rfl)
  · have h := gif_f c10 h
    refine lv_iconst (v := 0) hx hb dX8_whereIs_9 (by decide) ?_
    refine lv_goto (tgt := 14) hx hb dX8_whereIs_10 (by decide) ?_
    cases h
    exact K14 _ _ _ hP hS (lv_sub hl [0, 1] rfl)
def f_X8_allowance (a1 : Int32) (I : Nat → Nat → Int32) : Option (Int32 × (Nat → Nat → Int32)) :=
  (f_X8_isIdle a1 I).bind fun (r2, I1) =>
  if r2 = 0 then
    (f_X8_allowed a1 I1).bind fun r4 =>
    some (r4, I1)
  else
    some ((0 : Int32), I1)
set_option maxHeartbeats 8000000 in
set_option maxRecDepth 100000 in
theorem c_X8_allowance {l : Launch} {dC : Nat → ClassId} {dI : Nat → Nat → Nat} {ca : Nat → ClassId} {b : Nat → Nat} {A : Nat → Prop} {N : Nat} (hN : 138 ≤ N) (hA : gAd A b N) (I : Nat → Nat → Int32) (O : Nat → Nat → Option Nat) (J : Nat → Nat → Int64) (a1 : Int32) (res : Int32 × (Nat → Nat → Int32)) (h : f_X8_allowance a1 I = some res) : Met l yX8_allowance wsX8_allowance ({ frames := 3, cells := 0, slots := 0, locals := 68 } : Room) (va_Pc [.ref (b 129), .int a1] (gPre dC dI ca b A N I O J)) (va_Qi (fun (r : Int32) (u : Nat → Nat → Int32) => res = (r, u)) (fun (u : Nat → Nat → Int32) t => va_P (dC, dI) vwCl (hW N ca b u O J) t.heap) A) 0 0 A := by
  refine Met.ofW (cc := cX8_allowance) (maxL := 2) (ret := (some .int)) (by decide) rfl ?_
  intro p e s m args below meth c s₁ B hml hv
  obtain ⟨rfl, hP, hK, hA2, hth⟩ := hv
  have hx := B.exec
  have hb := B.bytes
  have hr := B.returns
  have hlk := B.notSynchronized
  have X : gCx p s m ([.ref (b 129), .int a1] : List Value).toArray c RX8 cX8_allowance wsX8_allowance 2 dC dI ca b A N := ⟨hx, hb, hml, findClass_of_methodNamed B.named, atoms_spec (ws := wsX8_allowance) B.pre, hK, hA, hA2, hth⟩
  have hS : va_S A s.heap s.heap [] := va_S.rf
  have hl := lv_entry ([.ref (b 129), .int a1] : List Value) (n := 2) (Nat.le_of_ble_eq_true rfl)
  rw [lg_entry_eq]
  generalize (lg_sl ([.ref (b 129), .int a1] : List Value) ++ List.replicate (2 - (lg_sl ([.ref (b 129), .int a1] : List Value)).length) Slot.unset).toArray = ls at hl ⊢
  have hl : lv_has ls 2 [(0, .ref (b 129)), (1, .int a1)] := hl
  unfold f_X8_allowance at h
  refine lv_aload_n hx hb dX8_allowance_0 rfl (lv_at hl 0 rfl) ?_
  refine lv_iload_n hx hb dX8_allowance_1 rfl (lv_at hl 1 rfl) ?_
  obtain ⟨q3, hcq3, h⟩ := hb_some h
  refine gdV_i (As := [.int a1]) (rest := []) (BH := (fun (u : Nat → Nat → Int32) H => va_P (dC, dI) vwCl (hW N ca b u O J) H)) X hP hS (c_X8_isIdle hN hA I O J a1 q3 hcq3) (cwV 1 X.ts gX8_allowance_X8_isIdle rfl rfl rfl (by decide +kernel) ⟨Nat.le_of_ble_eq_true rfl, Nat.le_of_ble_eq_true rfl⟩) (gr8 X hP kc_129 (sk_in hN kc_129 (by decide))) rfl hl.1 rfl (Nat.le_of_ble_eq_true rfl) dX8_allowance_2 ⟨Nat.le_of_ble_eq_true rfl, Nat.le_of_ble_eq_true rfl⟩ (fun r2 I1 H locs hw hP hS => ?_)
  subst hw
  refine lv_if_eq (tgt := 12) hx hb dX8_allowance_5 (by decide) (fun c6 => ?_) (fun c6 => ?_)
  · have h := gif_t c6 h
    refine lv_aload_n hx hb dX8_allowance_12 rfl (lv_at hl 0 rfl) ?_
    refine lv_iload_n hx hb dX8_allowance_13 rfl (lv_at hl 1 rfl) ?_
    obtain ⟨q5, hcq5, h⟩ := hb_some h
    refine gdV_i (As := [.int a1]) (rest := []) (BH := (fun (u : Unit) H => va_P (dC, dI) vwCl (hW N ca b I1 O J) H)) X hP hS (c_X8_allowed hN hA I1 O J a1 q5 hcq5) (cwV 1 X.ts gX8_allowance_X8_allowed rfl rfl rfl (by decide +kernel) ⟨Nat.le_of_ble_eq_true rfl, Nat.le_of_ble_eq_true rfl⟩) (gr8 X hP kc_129 (sk_in hN kc_129 (by decide))) rfl hl.1 rfl (Nat.le_of_ble_eq_true rfl) dX8_allowance_14 ⟨Nat.le_of_ble_eq_true rfl, Nat.le_of_ble_eq_true rfl⟩ (fun r4 u9 H locs hw hP hS => ?_)
    have hw := hw.symm
    subst hw
    exact W.iret hx hb hr (fun t9 ht hW => ⟨⟨r4, I1, rfl, (Option.some.inj h).symm, gEnd ht hP⟩, hS.F ht⟩) hS.2.2 dX8_allowance_17 hlk
  · have h := gif_f c6 h
    refine lv_iconst (v := 0) hx hb dX8_allowance_8 (by decide) ?_
    refine lv_goto (tgt := 17) hx hb dX8_allowance_9 (by decide) ?_
    exact W.iret hx hb hr (fun t9 ht hW => ⟨⟨(0 : Int32), I1, rfl, (Option.some.inj h).symm, gEnd ht hP⟩, hS.F ht⟩) hS.2.2 dX8_allowance_17 hlk
def f_X8_flownIn (a1 : Int32) (a2 : Int32) (I : Nat → Nat → Int32) : Option (Int32 × (Nat → Nat → Int32)) :=
  (f_X8_putAside I).bind fun I1 =>
  (f_X8_passes a2 I1).bind fun (r4, I3) =>
  (f_X8_of a1 (7 : Int32) I3).bind fun r6 =>
  (f_X8_putBack I3).bind fun I8 =>
  some (r6, I8)
set_option maxHeartbeats 8000000 in
set_option maxRecDepth 100000 in
theorem c_X8_flownIn {l : Launch} {dC : Nat → ClassId} {dI : Nat → Nat → Nat} {ca : Nat → ClassId} {b : Nat → Nat} {A : Nat → Prop} {N : Nat} (hN : 138 ≤ N) (hA : gAd A b N) (I : Nat → Nat → Int32) (O : Nat → Nat → Option Nat) (J : Nat → Nat → Int64) (a1 : Int32) (a2 : Int32) (res : Int32 × (Nat → Nat → Int32)) (h : f_X8_flownIn a1 a2 I = some res) : Met l yX8_flownIn wsX8_flownIn ({ frames := 7, cells := 0, slots := 0, locals := 173 } : Room) (va_Pc [.ref (b 129), .int a1, .int a2] (gPre dC dI ca b A N I O J)) (va_Qi (fun (r : Int32) (u : Nat → Nat → Int32) => res = (r, u)) (fun (u : Nat → Nat → Int32) t => va_P (dC, dI) vwCl (hW N ca b u O J) t.heap) A) 0 0 A := by
  refine Met.ofW (cc := cX8_flownIn) (maxL := 5) (ret := (some .int)) (by decide) rfl ?_
  intro p e s m args below meth c s₁ B hml hv
  obtain ⟨rfl, hP, hK, hA2, hth⟩ := hv
  have hx := B.exec
  have hb := B.bytes
  have hr := B.returns
  have hlk := B.notSynchronized
  have X : gCx p s m ([.ref (b 129), .int a1, .int a2] : List Value).toArray c RX8 cX8_flownIn wsX8_flownIn 5 dC dI ca b A N := ⟨hx, hb, hml, findClass_of_methodNamed B.named, atoms_spec (ws := wsX8_flownIn) B.pre, hK, hA, hA2, hth⟩
  have hS : va_S A s.heap s.heap [] := va_S.rf
  have hl := lv_entry ([.ref (b 129), .int a1, .int a2] : List Value) (n := 5) (Nat.le_of_ble_eq_true rfl)
  rw [lg_entry_eq]
  generalize (lg_sl ([.ref (b 129), .int a1, .int a2] : List Value) ++ List.replicate (5 - (lg_sl ([.ref (b 129), .int a1, .int a2] : List Value)).length) Slot.unset).toArray = ls at hl ⊢
  have hl : lv_has ls 5 [(0, .ref (b 129)), (1, .int a1), (2, .int a2)] := hl
  unfold f_X8_flownIn at h
  refine lv_aload_n hx hb dX8_flownIn_0 rfl (lv_at hl 0 rfl) ?_
  obtain ⟨q2, hcq2, h⟩ := hb_some h
  refine gdV_v (As := []) (rest := []) (BH := (fun (u : Nat → Nat → Int32) H => va_P (dC, dI) vwCl (hW N ca b u O J) H)) X hP hS (c_X8_putAside hN hA I O J q2 hcq2) (cwV 0 X.ts gX8_flownIn_X8_putAside rfl rfl rfl (by decide +kernel) ⟨Nat.le_of_ble_eq_true rfl, Nat.le_of_ble_eq_true rfl⟩) (gr8 X hP kc_129 (sk_in hN kc_129 (by decide))) rfl hl.1 rfl (Nat.le_of_ble_eq_true rfl) dX8_flownIn_1 ⟨Nat.le_of_ble_eq_true rfl, Nat.le_of_ble_eq_true rfl⟩ (fun I1 H locs hw hP hS => ?_)
  have hw := hw.symm
  subst hw
  refine lv_aload_n hx hb dX8_flownIn_4 rfl (lv_at hl 0 rfl) ?_
  refine lv_iload_n hx hb dX8_flownIn_5 rfl (lv_at hl 2 rfl) ?_
  obtain ⟨q5, hcq5, h⟩ := hb_some h
  refine gdV_i (As := [.int a2]) (rest := []) (BH := (fun (u : Nat → Nat → Int32) H => va_P (dC, dI) vwCl (hW N ca b u O J) H)) X hP hS (c_X8_passes hN hA I1 O J a2 q5 hcq5) (cwV 1 X.ts gX8_flownIn_X8_passes rfl rfl rfl (by decide +kernel) ⟨Nat.le_of_ble_eq_true rfl, Nat.le_of_ble_eq_true rfl⟩) (gr8 X hP kc_129 (sk_in hN kc_129 (by decide))) rfl hl.1 rfl (Nat.le_of_ble_eq_true rfl) dX8_flownIn_6 ⟨Nat.le_of_ble_eq_true rfl, Nat.le_of_ble_eq_true rfl⟩ (fun r4 I3 H locs hw hP hS => ?_)
  subst hw
  refine lv_istore_n (lv' := [(3, .int r4), (0, .ref (b 129)), (1, .int a1), (2, .int a2)]) hx hb dX8_flownIn_9 rfl hl (by decide) rfl (fun ls hl => ?_)
  refine lv_aload_n hx hb dX8_flownIn_10 rfl (lv_at hl 1 rfl) ?_
  refine lv_iload_n hx hb dX8_flownIn_11 rfl (lv_at hl 2 rfl) ?_
  refine lv_bipush (v := 7) hx hb dX8_flownIn_12 (by decide) ?_
  obtain ⟨q7, hcq7, h⟩ := hb_some h
  refine gdV_i (As := [.int a1, .int (7 : Int32)]) (rest := []) (BH := (fun (u : Unit) H => va_P (dC, dI) vwCl (hW N ca b I3 O J) H)) X hP hS (c_X8_of hN hA I3 O J a1 (7 : Int32) q7 hcq7) (cwV 2 X.ts gX8_flownIn_X8_of rfl rfl rfl (by decide +kernel) ⟨Nat.le_of_ble_eq_true rfl, Nat.le_of_ble_eq_true rfl⟩) (gr8 X hP kc_129 (sk_in hN kc_129 (by decide))) rfl hl.1 rfl (Nat.le_of_ble_eq_true rfl) dX8_flownIn_14 ⟨Nat.le_of_ble_eq_true rfl, Nat.le_of_ble_eq_true rfl⟩ (fun r6 u9 H locs hw hP hS => ?_)
  have hw := hw.symm
  subst hw
  refine lv_istore (lv' := [(4, .int r6), (3, .int r4), (0, .ref (b 129)), (1, .int a1), (2, .int a2)]) hx hb dX8_flownIn_17 hl (by decide) rfl (fun ls hl => ?_)
  refine lv_aload_n hx hb dX8_flownIn_19 rfl (lv_at hl 2 rfl) ?_
  obtain ⟨q9, hcq9, h⟩ := hb_some h
  refine gdV_v (As := []) (rest := []) (BH := (fun (u : Nat → Nat → Int32) H => va_P (dC, dI) vwCl (hW N ca b u O J) H)) X hP hS (c_X8_putBack hN hA I3 O J q9 hcq9) (cwV 0 X.ts gX8_flownIn_X8_putBack rfl rfl rfl (by decide +kernel) ⟨Nat.le_of_ble_eq_true rfl, Nat.le_of_ble_eq_true rfl⟩) (gr8 X hP kc_129 (sk_in hN kc_129 (by decide))) rfl hl.1 rfl (Nat.le_of_ble_eq_true rfl) dX8_flownIn_20 ⟨Nat.le_of_ble_eq_true rfl, Nat.le_of_ble_eq_true rfl⟩ (fun I8 H locs hw hP hS => ?_)
  have hw := hw.symm
  subst hw
  refine lv_iload hx hb dX8_flownIn_23 (lv_at hl 0 rfl) ?_
  exact W.iret hx hb hr (fun t9 ht hW => ⟨⟨r6, I8, rfl, (Option.some.inj h).symm, gEnd ht hP⟩, hS.F ht⟩) hS.2.2 dX8_flownIn_25 hlk
def f_X8_wouldFly (a1 : Int32) (a2 : Int32) (I : Nat → Nat → Int32) : Option (Int32 × (Nat → Nat → Int32)) :=
  (f_X8_isBird a1 I).bind fun r1 =>
  (show Option (Int32) from
    if r1 = 0 then
      some (1 : Int32)
    else
      (f_X8_in a2 (1 : Int32) (200 : Int32)).bind fun r11 =>
      if r11 = 0 then
        some (2 : Int32)
      else
        if (I 130 ((150 : Int32).toNatClampNeg)) = (1 : Int32) then
          some (0 : Int32)
        else
          some (3 : Int32)).bind fun p3 =>
  (f_X8_refused p3 I).bind fun (r5, I4) =>
  if r5 = 0 then
    (f_X8_flownIn a1 a2 I4).bind fun (r8, I7) =>
    some (r8, I7)
  else
    some ((0 : Int32), I4)
set_option maxHeartbeats 8000000 in
set_option maxRecDepth 100000 in
theorem c_X8_wouldFly {l : Launch} {dC : Nat → ClassId} {dI : Nat → Nat → Nat} {ca : Nat → ClassId} {b : Nat → Nat} {A : Nat → Prop} {N : Nat} (hN : 138 ≤ N) (hA : gAd A b N) (I : Nat → Nat → Int32) (O : Nat → Nat → Option Nat) (J : Nat → Nat → Int64) (a1 : Int32) (a2 : Int32) (res : Int32 × (Nat → Nat → Int32)) (h : f_X8_wouldFly a1 a2 I = some res) : Met l yX8_wouldFly wsX8_wouldFly ({ frames := 8, cells := 0, slots := 0, locals := 197 } : Room) (va_Pc [.ref (b 129), .int a1, .int a2] (gPre dC dI ca b A N I O J)) (va_Qi (fun (r : Int32) (u : Nat → Nat → Int32) => res = (r, u)) (fun (u : Nat → Nat → Int32) t => va_P (dC, dI) vwCl (hW N ca b u O J) t.heap) A) 0 0 A := by
  refine Met.ofW (cc := cX8_wouldFly) (maxL := 3) (ret := (some .int)) (by decide) rfl ?_
  intro p e s m args below meth c s₁ B hml hv
  obtain ⟨rfl, hP, hK, hA2, hth⟩ := hv
  have hx := B.exec
  have hb := B.bytes
  have hr := B.returns
  have hlk := B.notSynchronized
  have X : gCx p s m ([.ref (b 129), .int a1, .int a2] : List Value).toArray c RX8 cX8_wouldFly wsX8_wouldFly 3 dC dI ca b A N := ⟨hx, hb, hml, findClass_of_methodNamed B.named, atoms_spec (ws := wsX8_wouldFly) B.pre, hK, hA, hA2, hth⟩
  have hi8 : ∀ w ∈ wsX80, w ∈ wsX8_wouldFly := (fun w h => List.mem_cons_of_mem _ (List.mem_append_right _ h))
  have hS : va_S A s.heap s.heap [] := va_S.rf
  have hl := lv_entry ([.ref (b 129), .int a1, .int a2] : List Value) (n := 3) (Nat.le_of_ble_eq_true rfl)
  rw [lg_entry_eq]
  generalize (lg_sl ([.ref (b 129), .int a1, .int a2] : List Value) ++ List.replicate (3 - (lg_sl ([.ref (b 129), .int a1, .int a2] : List Value)).length) Slot.unset).toArray = ls at hl ⊢
  have hl : lv_has ls 3 [(0, .ref (b 129)), (1, .int a1), (2, .int a2)] := hl
  unfold f_X8_wouldFly at h
  refine lv_aload_n hx hb dX8_wouldFly_0 rfl (lv_at hl 0 rfl) ?_
  refine lv_aload_n hx hb dX8_wouldFly_1 rfl (lv_at hl 0 rfl) ?_
  refine lv_iload_n hx hb dX8_wouldFly_2 rfl (lv_at hl 1 rfl) ?_
  obtain ⟨q2, hcq2, h⟩ := hb_some h
  refine gdV_i (As := [.int a1]) (rest := [.ref (b 129)]) (BH := (fun (u : Unit) H => va_P (dC, dI) vwCl (hW N ca b I O J) H)) X hP hS (c_X8_isBird hN hA I O J a1 q2 hcq2) (cwV 1 X.ts gX8_wouldFly_X8_isBird rfl rfl rfl (by decide +kernel) ⟨Nat.le_of_ble_eq_true rfl, Nat.le_of_ble_eq_true rfl⟩) (gr8 X hP kc_129 (sk_in hN kc_129 (by decide))) rfl hl.1 rfl (Nat.le_of_ble_eq_true rfl) dX8_wouldFly_3 ⟨Nat.le_of_ble_eq_true rfl, Nat.le_of_ble_eq_true rfl⟩ (fun r1 u9 H locs hw hP hS => ?_)
  have hw := hw.symm
  subst hw
  obtain ⟨p3, hv, h⟩ := hb_some h
  have K45 : ∀ (H : Heap) (locs : List Loc) (ls : Array Slot), va_P (dC, dI) vwCl (hW N ca b I O J) H → va_S A s.heap H locs → lv_has ls 3 [(0, .ref (b 129)), (1, .int a1), (2, .int a2)] → W p l e (headSpec wsX8_wouldFly ({ frames := 8, cells := 0, slots := 0, locals := 197 } : Room)).room s m ([.ref (b 129), .int a1, .int a2] : List Value).toArray below meth c H locs 0 0 (MQ below (va_Qi (fun (r : Int32) (u : Nat → Nat → Int32) => res = (r, u)) (fun (u : Nat → Nat → Int32) t => va_P (dC, dI) vwCl (hW N ca b u O J) t.heap) A) ([.ref (b 129), .int a1, .int a2] : List Value).toArray s 0 0 A) (F0 m 45 ls [.int p3, .ref (b 129)]) := by
    intro H locs ls hP hS hl
    obtain ⟨q6, hcq6, h⟩ := hb_some h
    refine gdV_i (As := [.int p3]) (rest := []) (BH := (fun (u : Nat → Nat → Int32) H => va_P (dC, dI) vwCl (hW N ca b u O J) H)) X hP hS (c_X8_refused hN hA I O J p3 q6 hcq6) (cwV 1 X.ts gX8_wouldFly_X8_refused rfl rfl rfl (by decide +kernel) ⟨Nat.le_of_ble_eq_true rfl, Nat.le_of_ble_eq_true rfl⟩) (gr8 X hP kc_129 (sk_in hN kc_129 (by decide))) rfl hl.1 rfl (Nat.le_of_ble_eq_true rfl) dX8_wouldFly_45 ⟨Nat.le_of_ble_eq_true rfl, Nat.le_of_ble_eq_true rfl⟩ (fun r5 I4 H locs hw hP hS => ?_)
    subst hw
    refine lv_if_eq (tgt := 55) hx hb dX8_wouldFly_48 (by decide) (fun c10 => ?_) (fun c10 => ?_)
    · have h := gif_t c10 h
      refine lv_aload_n hx hb dX8_wouldFly_55 rfl (lv_at hl 0 rfl) ?_
      refine lv_iload_n hx hb dX8_wouldFly_56 rfl (lv_at hl 1 rfl) ?_
      refine lv_iload_n hx hb dX8_wouldFly_57 rfl (lv_at hl 2 rfl) ?_
      obtain ⟨q9, hcq9, h⟩ := hb_some h
      refine gdV_i (As := [.int a1, .int a2]) (rest := []) (BH := (fun (u : Nat → Nat → Int32) H => va_P (dC, dI) vwCl (hW N ca b u O J) H)) X hP hS (c_X8_flownIn hN hA I4 O J a1 a2 q9 hcq9) (cwV 2 X.ts gX8_wouldFly_X8_flownIn rfl rfl rfl (by decide +kernel) ⟨Nat.le_of_ble_eq_true rfl, Nat.le_of_ble_eq_true rfl⟩) (gr8 X hP kc_129 (sk_in hN kc_129 (by decide))) rfl hl.1 rfl (Nat.le_of_ble_eq_true rfl) dX8_wouldFly_58 ⟨Nat.le_of_ble_eq_true rfl, Nat.le_of_ble_eq_true rfl⟩ (fun r8 I7 H locs hw hP hS => ?_)
      subst hw
      exact W.iret hx hb hr (fun t9 ht hW => ⟨⟨r8, I7, rfl, (Option.some.inj h).symm, gEnd ht hP⟩, hS.F ht⟩) hS.2.2 dX8_wouldFly_61 hlk
    · have h := gif_f c10 h
      refine lv_iconst (v := 0) hx hb dX8_wouldFly_51 (by decide) ?_
      refine lv_goto (tgt := 61) hx hb dX8_wouldFly_52 (by decide) ?_
      exact W.iret hx hb hr (fun t9 ht hW => ⟨⟨(0 : Int32), I4, rfl, (Option.some.inj h).symm, gEnd ht hP⟩, hS.F ht⟩) hS.2.2 dX8_wouldFly_61 hlk
  have h := hv
  refine lv_if_ne (tgt := 13) hx hb dX8_wouldFly_6 (by decide) (fun c15 => ?_) (fun c15 => ?_)
  · have h := gif_f c15 h
    refine lv_iload_n hx hb dX8_wouldFly_13 rfl (lv_at hl 2 rfl) ?_
    refine lv_iconst (v := 1) hx hb dX8_wouldFly_14 (by decide) ?_
    refine lv_sipush (v := 200) hx hb dX8_wouldFly_15 (by decide) ?_
    obtain ⟨q12, hcq12, h⟩ := hb_some h
    refine gdS_i (As := [.int a2, .int (1 : Int32), .int (200 : Int32)]) (rest := [.ref (b 129)]) (BH := (fun (u : Unit) H => va_P (dC, dI) vwCl (hW N ca b I O J) H)) X hP hS (c_X8_in hN hA I O J a2 (1 : Int32) (200 : Int32) q12 hcq12) (va_cwS 3 X.ts gX8_wouldFly_X8_in rfl rfl rfl (by decide +kernel) ⟨Nat.le_of_ble_eq_true rfl, Nat.le_of_ble_eq_true rfl⟩) rfl hl.1 rfl (Nat.le_of_ble_eq_true rfl) dX8_wouldFly_18 ⟨Nat.le_of_ble_eq_true rfl, Nat.le_of_ble_eq_true rfl⟩ (fun r11 u9 H locs hw hP hS => ?_)
    have hw := hw.symm
    subst hw
    refine lv_if_ne (tgt := 28) hx hb dX8_wouldFly_21 (by decide) (fun c14 => ?_) (fun c14 => ?_)
    · have h := gif_f c14 h
      refine lv_aload_n hx hb dX8_wouldFly_28 rfl (lv_at hl 0 rfl) ?_
      refine gg8_0 X hP kc_129 (sk_in hN kc_129 (by decide)) hi8 (List.mem_of_getElem? (i := 1) rfl) dX8_wouldFly_29 ?_
      refine lv_sipush (v := 150) hx hb dX8_wouldFly_32 (by decide) ?_
      refine ga20 X hP kc_130 (sk_in hN kc_130 (by decide)) (L := 151) (by decide) (by decide) dX8_wouldFly_35 ?_
      refine lv_iconst (v := 1) hx hb dX8_wouldFly_36 (by decide) ?_
      refine lv_icmp_ne (tgt := 44) hx hb dX8_wouldFly_37 (by decide) (fun c13 => ?_) (fun c13 => ?_)
      · have h := gif_f c13 h
        refine lv_iconst (v := 3) hx hb dX8_wouldFly_44 (by decide) ?_
        cases h
        exact K45 _ _ _ hP hS (lv_sub hl [0, 1, 2] rfl)
      · have h := gif_t c13 h
        refine lv_iconst (v := 0) hx hb dX8_wouldFly_40 (by decide) ?_
        refine lv_goto (tgt := 45) hx hb dX8_wouldFly_41 (by decide) ?_
        cases h
        exact K45 _ _ _ hP hS (lv_sub hl [0, 1, 2] rfl)
    · have h := gif_t c14 h
      refine lv_iconst (v := 2) hx hb dX8_wouldFly_24 (by decide) ?_
      refine lv_goto (tgt := 45) hx hb dX8_wouldFly_25 (by decide) ?_
      cases h
      exact K45 _ _ _ hP hS (lv_sub hl [0, 1, 2] rfl)
  · have h := gif_t c15 h
    refine lv_iconst (v := 1) hx hb dX8_wouldFly_9 (by decide) ?_
    refine lv_goto (tgt := 45) hx hb dX8_wouldFly_10 (by decide) ?_
    cases h
    exact K45 _ _ _ hP hS (lv_sub hl [0, 1, 2] rfl)
def f_X8_nextIn_L21 : Nat → Int32 → Int32 → (Nat → Nat → Int32) → Option (Int32 × Int32 × (Nat → Nat → Int32))
  | 0, _, _, _ => none
  | fuel + 1, p3, p4, I5 =>
    if (2000 : Int32) ≤ p3 then
      some (p3, p4, I5)
    else
      if p4 = 0 then
        (f_X8_second I5).bind fun (r14, I13) =>
        (show Option (Int32) from
          if r14 ≤ 0 then
            some (0 : Int32)
          else
            some (1 : Int32)).bind fun p16 =>
        hlet (p3 + 1) fun x17 =>
        f_X8_nextIn_L21 fuel x17 p16 I13
      else
        some (p3, p4, I5)
def f_X8_nextIn (I : Nat → Nat → Int32) : Option (Int32 × (Nat → Nat → Int32)) :=
  if (I 130 ((150 : Int32).toNatClampNeg)) = 0 then
    some ((0 : Int32), I)
  else
    (f_X8_putAside I).bind fun I1 =>
    (f_X8_nextIn_L21  FU (0 : Int32) (0 : Int32) I1).bind fun (p6, p7, I8) =>
    hlet (gup I8 129 15 (I8 130 ((136 : Int32).toNatClampNeg))) fun I9 =>
    (f_X8_putBack I9).bind fun I10 =>
    if p7 = 0 then
      some ((0 : Int32), I10)
    else
      some (p6, I10)
set_option maxHeartbeats 8000000 in
set_option maxRecDepth 100000 in
theorem c_X8_nextIn {l : Launch} {dC : Nat → ClassId} {dI : Nat → Nat → Nat} {ca : Nat → ClassId} {b : Nat → Nat} {A : Nat → Prop} {N : Nat} (hN : 138 ≤ N) (hA : gAd A b N) (I : Nat → Nat → Int32) (O : Nat → Nat → Option Nat) (J : Nat → Nat → Int64) (res : Int32 × (Nat → Nat → Int32)) (h : f_X8_nextIn I = some res) : Met l yX8_nextIn wsX8_nextIn ({ frames := 6, cells := 0, slots := 0, locals := 150 } : Room) (va_Pc [.ref (b 129)] (gPre dC dI ca b A N I O J)) (va_Qi (fun (r : Int32) (u : Nat → Nat → Int32) => res = (r, u)) (fun (u : Nat → Nat → Int32) t => va_P (dC, dI) vwCl (hW N ca b u O J) t.heap) A) 0 0 A := by
  refine Met.ofW (cc := cX8_nextIn) (maxL := 3) (ret := (some .int)) (by decide) rfl ?_
  intro p e s m args below meth c s₁ B hml hv
  obtain ⟨rfl, hP, hK, hA2, hth⟩ := hv
  have hx := B.exec
  have hb := B.bytes
  have hr := B.returns
  have hlk := B.notSynchronized
  have X : gCx p s m ([.ref (b 129)] : List Value).toArray c RX8 cX8_nextIn wsX8_nextIn 3 dC dI ca b A N := ⟨hx, hb, hml, findClass_of_methodNamed B.named, atoms_spec (ws := wsX8_nextIn) B.pre, hK, hA, hA2, hth⟩
  have hi8 : ∀ w ∈ wsX80, w ∈ wsX8_nextIn := (fun w h => List.mem_cons_of_mem _ (List.mem_append_right _ h))
  have hS : va_S A s.heap s.heap [] := va_S.rf
  have hl := lv_entry ([.ref (b 129)] : List Value) (n := 3) (Nat.le_of_ble_eq_true rfl)
  rw [lg_entry_eq]
  generalize (lg_sl ([.ref (b 129)] : List Value) ++ List.replicate (3 - (lg_sl ([.ref (b 129)] : List Value)).length) Slot.unset).toArray = ls at hl ⊢
  have hl : lv_has ls 3 [(0, .ref (b 129))] := hl
  unfold f_X8_nextIn at h
  refine lv_aload_n hx hb dX8_nextIn_0 rfl (lv_at hl 0 rfl) ?_
  refine gg8_0 X hP kc_129 (sk_in hN kc_129 (by decide)) hi8 (List.mem_of_getElem? (i := 1) rfl) dX8_nextIn_1 ?_
  refine lv_sipush (v := 150) hx hb dX8_nextIn_4 (by decide) ?_
  refine ga20 X hP kc_130 (sk_in hN kc_130 (by decide)) (L := 151) (by decide) (by decide) dX8_nextIn_7 ?_
  refine lv_if_ne (tgt := 13) hx hb dX8_nextIn_8 (by decide) (fun c21 => ?_) (fun c21 => ?_)
  · have h := gif_f c21 h
    refine lv_aload_n hx hb dX8_nextIn_13 rfl (lv_at hl 0 rfl) ?_
    obtain ⟨q2, hcq2, h⟩ := hb_some h
    refine gdV_v (As := []) (rest := []) (BH := (fun (u : Nat → Nat → Int32) H => va_P (dC, dI) vwCl (hW N ca b u O J) H)) X hP hS (c_X8_putAside hN hA I O J q2 hcq2) (cwV 0 X.ts gX8_nextIn_X8_putAside rfl rfl rfl (by decide +kernel) ⟨Nat.le_of_ble_eq_true rfl, Nat.le_of_ble_eq_true rfl⟩) (gr8 X hP kc_129 (sk_in hN kc_129 (by decide))) rfl hl.1 rfl (Nat.le_of_ble_eq_true rfl) dX8_nextIn_14 ⟨Nat.le_of_ble_eq_true rfl, Nat.le_of_ble_eq_true rfl⟩ (fun I1 H locs hw hP hS => ?_)
    have hw := hw.symm
    subst hw
    refine lv_iconst (v := 0) hx hb dX8_nextIn_17 (by decide) ?_
    refine lv_istore_n (lv' := [(1, .int (0 : Int32)), (0, .ref (b 129))]) hx hb dX8_nextIn_18 rfl hl (by decide) rfl (fun ls hl => ?_)
    refine lv_iconst (v := 0) hx hb dX8_nextIn_19 (by decide) ?_
    refine lv_istore_n (lv' := [(2, .int (0 : Int32)), (1, .int (0 : Int32)), (0, .ref (b 129))]) hx hb dX8_nextIn_20 rfl hl (by decide) rfl (fun ls hl => ?_)
    obtain ⟨⟨p6, p7, I8⟩, hv, h⟩ := hb_some h
    have K51 : ∀ (H : Heap) (locs : List Loc) (ls : Array Slot), va_P (dC, dI) vwCl (hW N ca b I8 O J) H → va_S A s.heap H locs → lv_has ls 3 [(0, .ref (b 129)), (1, .int p6), (2, .int p7)] → W p l e (headSpec wsX8_nextIn ({ frames := 6, cells := 0, slots := 0, locals := 150 } : Room)).room s m ([.ref (b 129)] : List Value).toArray below meth c H locs 0 0 (MQ below (va_Qi (fun (r : Int32) (u : Nat → Nat → Int32) => res = (r, u)) (fun (u : Nat → Nat → Int32) t => va_P (dC, dI) vwCl (hW N ca b u O J) t.heap) A) ([.ref (b 129)] : List Value).toArray s 0 0 A) (F0 m 51 ls []) := by
      intro H locs ls hP hS hl
      refine lv_aload_n hx hb dX8_nextIn_51 rfl (lv_at hl 0 rfl) ?_
      refine lv_aload_n hx hb dX8_nextIn_52 rfl (lv_at hl 0 rfl) ?_
      refine gg8_0 X hP kc_129 (sk_in hN kc_129 (by decide)) hi8 (List.mem_of_getElem? (i := 1) rfl) dX8_nextIn_53 ?_
      refine lv_sipush (v := 136) hx hb dX8_nextIn_56 (by decide) ?_
      refine ga20 X hP kc_130 (sk_in hN kc_130 (by decide)) (L := 151) (by decide) (by decide) dX8_nextIn_59 ?_
      refine gp8_15 X hP hS kc_129 (sk_in hN kc_129 (by decide)) hi8 (List.mem_of_getElem? (i := 2) rfl) dX8_nextIn_60 (fun H locs hP hS => ?_)
      obtain ⟨I9, eI9, h⟩ := hlet_ex h
      rw [← eI9] at hP
      refine lv_aload_n hx hb dX8_nextIn_63 rfl (lv_at hl 0 rfl) ?_
      obtain ⟨q11, hcq11, h⟩ := hb_some h
      refine gdV_v (As := []) (rest := []) (BH := (fun (u : Nat → Nat → Int32) H => va_P (dC, dI) vwCl (hW N ca b u O J) H)) X hP hS (c_X8_putBack hN hA I9 O J q11 hcq11) (cwV 0 X.ts gX8_nextIn_X8_putBack rfl rfl rfl (by decide +kernel) ⟨Nat.le_of_ble_eq_true rfl, Nat.le_of_ble_eq_true rfl⟩) (gr8 X hP kc_129 (sk_in hN kc_129 (by decide))) rfl hl.1 rfl (Nat.le_of_ble_eq_true rfl) dX8_nextIn_64 ⟨Nat.le_of_ble_eq_true rfl, Nat.le_of_ble_eq_true rfl⟩ (fun I10 H locs hw hP hS => ?_)
      have hw := hw.symm
      subst hw
      refine lv_iload_n hx hb dX8_nextIn_67 rfl (lv_at hl 2 rfl) ?_
      refine lv_if_eq (tgt := 75) hx hb dX8_nextIn_68 (by decide) (fun c12 => ?_) (fun c12 => ?_)
      · have h := gif_t c12 h
        refine lv_iconst (v := 0) hx hb dX8_nextIn_75 (by decide) ?_
        exact W.iret hx hb hr (fun t9 ht hW => ⟨⟨(0 : Int32), I10, rfl, (Option.some.inj h).symm, gEnd ht hP⟩, hS.F ht⟩) hS.2.2 dX8_nextIn_76 hlk
      · have h := gif_f c12 h
        refine lv_iload_n hx hb dX8_nextIn_71 rfl (lv_at hl 1 rfl) ?_
        refine lv_goto (tgt := 76) hx hb dX8_nextIn_72 (by decide) ?_
        exact W.iret hx hb hr (fun t9 ht hW => ⟨⟨p6, I10, rfl, (Option.some.inj h).symm, gEnd ht hP⟩, hS.F ht⟩) hS.2.2 dX8_nextIn_76 hlk
    have hL21 : ∀ (fuel : Nat) (p3 : Int32) (p4 : Int32) (I5 : Nat → Nat → Int32) (H : Heap) (locs : List Loc) (ls : Array Slot), f_X8_nextIn_L21  fuel p3 p4 I5 = some (p6, p7, I8) → va_P (dC, dI) vwCl (hW N ca b I5 O J) H → va_S A s.heap H locs → lv_has ls 3 [(0, .ref (b 129)), (1, .int p3), (2, .int p4)] → W p l e (headSpec wsX8_nextIn ({ frames := 6, cells := 0, slots := 0, locals := 150 } : Room)).room s m ([.ref (b 129)] : List Value).toArray below meth c H locs 0 0 (MQ below (va_Qi (fun (r : Int32) (u : Nat → Nat → Int32) => res = (r, u)) (fun (u : Nat → Nat → Int32) t => va_P (dC, dI) vwCl (hW N ca b u O J) t.heap) A) ([.ref (b 129)] : List Value).toArray s 0 0 A) (F0 m 21 ls []) := by
      intro fuel
      induction fuel with
      | zero =>
        intro p3 p4 I5 H locs ls h hP hS hl
        rw [f_X8_nextIn_L21] at h
        cases h
      | succ fuel ih =>
        intro p3 p4 I5 H locs ls h hP hS hl
        rw [f_X8_nextIn_L21] at h
        refine lv_iload_n hx hb dX8_nextIn_21 rfl (lv_at hl 1 rfl) ?_
        refine lv_sipush (v := 2000) hx hb dX8_nextIn_22 (by decide) ?_
        refine lv_icmp_ge (tgt := 51) hx hb dX8_nextIn_25 (by decide) (fun c20 => ?_) (fun c20 => ?_)
        · have h := gif_t c20 h
          cases h
          exact K51 _ _ _ hP hS (lv_sub hl [0, 1, 2] rfl)
        · have h := gif_f c20 h
          refine lv_iload_n hx hb dX8_nextIn_28 rfl (lv_at hl 2 rfl) ?_
          refine lv_if_ne (tgt := 51) hx hb dX8_nextIn_29 (by decide) (fun c19 => ?_) (fun c19 => ?_)
          · have h := gif_f c19 h
            cases h
            exact K51 _ _ _ hP hS (lv_sub hl [0, 1, 2] rfl)
          · have h := gif_t c19 h
            refine lv_aload_n hx hb dX8_nextIn_32 rfl (lv_at hl 0 rfl) ?_
            obtain ⟨q15, hcq15, h⟩ := hb_some h
            refine gdV_i (As := []) (rest := []) (BH := (fun (u : Nat → Nat → Int32) H => va_P (dC, dI) vwCl (hW N ca b u O J) H)) X hP hS (c_X8_second hN hA I5 O J q15 hcq15) (cwV 0 X.ts gX8_nextIn_X8_second rfl rfl rfl (by decide +kernel) ⟨Nat.le_of_ble_eq_true rfl, Nat.le_of_ble_eq_true rfl⟩) (gr8 X hP kc_129 (sk_in hN kc_129 (by decide))) rfl hl.1 rfl (Nat.le_of_ble_eq_true rfl) dX8_nextIn_33 ⟨Nat.le_of_ble_eq_true rfl, Nat.le_of_ble_eq_true rfl⟩ (fun r14 I13 H locs hw hP hS => ?_)
            subst hw
            obtain ⟨p16, hv, h⟩ := hb_some h
            have K44 : ∀ (H : Heap) (locs : List Loc) (ls : Array Slot), va_P (dC, dI) vwCl (hW N ca b I13 O J) H → va_S A s.heap H locs → lv_has ls 3 [(0, .ref (b 129)), (1, .int p3)] → W p l e (headSpec wsX8_nextIn ({ frames := 6, cells := 0, slots := 0, locals := 150 } : Room)).room s m ([.ref (b 129)] : List Value).toArray below meth c H locs 0 0 (MQ below (va_Qi (fun (r : Int32) (u : Nat → Nat → Int32) => res = (r, u)) (fun (u : Nat → Nat → Int32) t => va_P (dC, dI) vwCl (hW N ca b u O J) t.heap) A) ([.ref (b 129)] : List Value).toArray s 0 0 A) (F0 m 44 ls [.int p16]) := by
              intro H locs ls hP hS hl
              refine lv_istore_n (lv' := [(2, .int p16), (0, .ref (b 129)), (1, .int p3)]) hx hb dX8_nextIn_44 rfl hl (by decide) rfl (fun ls hl => ?_)
              obtain ⟨x17, ex17, h⟩ := hlet_ex h
              refine lv_iinc (v := x17) (lv' := [(1, .int x17), (2, .int p16), (0, .ref (b 129))]) hx hb dX8_nextIn_45 hl (k := 2) rfl (by rw [ex17]; rfl) (by decide) rfl (fun ls hl => ?_)
              refine lv_goto (tgt := 21) hx hb dX8_nextIn_48 (by decide) ?_
              exact ih _ _ _ _ _ _ h hP hS (lv_sub hl [2, 0, 1] rfl)
            have h := hv
            refine lv_if_le (tgt := 43) hx hb dX8_nextIn_36 (by decide) (fun c18 => ?_) (fun c18 => ?_)
            · have h := gif_t c18 h
              refine lv_iconst (v := 0) hx hb dX8_nextIn_43 (by decide) ?_
              cases h
              exact K44 _ _ _ hP hS (lv_sub hl [0, 1] rfl)
            · have h := gif_f c18 h
              refine lv_iconst (v := 1) hx hb dX8_nextIn_39 (by decide) ?_
              refine lv_goto (tgt := 44) hx hb dX8_nextIn_40 (by decide) ?_
              cases h
              exact K44 _ _ _ hP hS (lv_sub hl [0, 1] rfl)
    exact hL21 FU _ _ _ _ _ _ hv hP hS (lv_sub hl [2, 1, 0] rfl)
  · have h := gif_t c21 h
    refine lv_iconst (v := 0) hx hb dX8_nextIn_11 (by decide) ?_
    exact W.iret hx hb hr (fun t9 ht hW => ⟨⟨(0 : Int32), I, rfl, (Option.some.inj h).symm, gEnd ht hP⟩, hS.F ht⟩) hS.2.2 dX8_nextIn_12 hlk
def f_X8_first (I : Nat → Nat → Int32) : Option (Int32 × (Nat → Nat → Int32)) :=
  if 0 < (I 130 ((135 : Int32).toNatClampNeg)) then
    some ((0 : Int32), I)
  else
    (f_X8_nextIn I).bind fun (r2, I1) =>
    if r2 = 0 then
      some ((0 : Int32), I1)
    else
      some (((I1 129 15) + (1 : Int32)), I1)
set_option maxHeartbeats 8000000 in
set_option maxRecDepth 100000 in
theorem c_X8_first {l : Launch} {dC : Nat → ClassId} {dI : Nat → Nat → Nat} {ca : Nat → ClassId} {b : Nat → Nat} {A : Nat → Prop} {N : Nat} (hN : 138 ≤ N) (hA : gAd A b N) (I : Nat → Nat → Int32) (O : Nat → Nat → Option Nat) (J : Nat → Nat → Int64) (res : Int32 × (Nat → Nat → Int32)) (h : f_X8_first I = some res) : Met l yX8_first wsX8_first ({ frames := 7, cells := 0, slots := 0, locals := 172 } : Room) (va_Pc [.ref (b 129)] (gPre dC dI ca b A N I O J)) (va_Qi (fun (r : Int32) (u : Nat → Nat → Int32) => res = (r, u)) (fun (u : Nat → Nat → Int32) t => va_P (dC, dI) vwCl (hW N ca b u O J) t.heap) A) 0 0 A := by
  refine Met.ofW (cc := cX8_first) (maxL := 1) (ret := (some .int)) (by decide) rfl ?_
  intro p e s m args below meth c s₁ B hml hv
  obtain ⟨rfl, hP, hK, hA2, hth⟩ := hv
  have hx := B.exec
  have hb := B.bytes
  have hr := B.returns
  have hlk := B.notSynchronized
  have X : gCx p s m ([.ref (b 129)] : List Value).toArray c RX8 cX8_first wsX8_first 1 dC dI ca b A N := ⟨hx, hb, hml, findClass_of_methodNamed B.named, atoms_spec (ws := wsX8_first) B.pre, hK, hA, hA2, hth⟩
  have hi8 : ∀ w ∈ wsX80, w ∈ wsX8_first := (fun w h => List.mem_cons_of_mem _ (List.mem_append_right _ h))
  have hS : va_S A s.heap s.heap [] := va_S.rf
  have hl := lv_entry ([.ref (b 129)] : List Value) (n := 1) (Nat.le_of_ble_eq_true rfl)
  rw [lg_entry_eq]
  generalize (lg_sl ([.ref (b 129)] : List Value) ++ List.replicate (1 - (lg_sl ([.ref (b 129)] : List Value)).length) Slot.unset).toArray = ls at hl ⊢
  have hl : lv_has ls 1 [(0, .ref (b 129))] := hl
  unfold f_X8_first at h
  refine lv_aload_n hx hb dX8_first_0 rfl (lv_at hl 0 rfl) ?_
  refine gg8_0 X hP kc_129 (sk_in hN kc_129 (by decide)) hi8 (List.mem_of_getElem? (i := 1) rfl) dX8_first_1 ?_
  refine lv_sipush (v := 135) hx hb dX8_first_4 (by decide) ?_
  refine ga20 X hP kc_130 (sk_in hN kc_130 (by decide)) (L := 151) (by decide) (by decide) dX8_first_7 ?_
  refine lv_if_gt (tgt := 18) hx hb dX8_first_8 (by decide) (fun c5 => ?_) (fun c5 => ?_)
  · have h := gif_t c5 h
    refine lv_iconst (v := 0) hx hb dX8_first_18 (by decide) ?_
    refine lv_goto (tgt := 28) hx hb dX8_first_19 (by decide) ?_
    exact W.iret hx hb hr (fun t9 ht hW => ⟨⟨(0 : Int32), I, rfl, (Option.some.inj h).symm, gEnd ht hP⟩, hS.F ht⟩) hS.2.2 dX8_first_28 hlk
  · have h := gif_f c5 h
    refine lv_aload_n hx hb dX8_first_11 rfl (lv_at hl 0 rfl) ?_
    obtain ⟨q3, hcq3, h⟩ := hb_some h
    refine gdV_i (As := []) (rest := []) (BH := (fun (u : Nat → Nat → Int32) H => va_P (dC, dI) vwCl (hW N ca b u O J) H)) X hP hS (c_X8_nextIn hN hA I O J q3 hcq3) (cwV 0 X.ts gX8_first_X8_nextIn rfl rfl rfl (by decide +kernel) ⟨Nat.le_of_ble_eq_true rfl, Nat.le_of_ble_eq_true rfl⟩) (gr8 X hP kc_129 (sk_in hN kc_129 (by decide))) rfl hl.1 rfl (Nat.le_of_ble_eq_true rfl) dX8_first_12 ⟨Nat.le_of_ble_eq_true rfl, Nat.le_of_ble_eq_true rfl⟩ (fun r2 I1 H locs hw hP hS => ?_)
    subst hw
    refine lv_if_ne (tgt := 22) hx hb dX8_first_15 (by decide) (fun c4 => ?_) (fun c4 => ?_)
    · have h := gif_f c4 h
      refine lv_aload_n hx hb dX8_first_22 rfl (lv_at hl 0 rfl) ?_
      refine gg8_15 X hP kc_129 (sk_in hN kc_129 (by decide)) hi8 (List.mem_of_getElem? (i := 2) rfl) dX8_first_23 ?_
      refine lv_iconst (v := 1) hx hb dX8_first_26 (by decide) ?_
      refine lv_iadd hx hb dX8_first_27 ?_
      exact W.iret hx hb hr (fun t9 ht hW => ⟨⟨((I1 129 15) + (1 : Int32)), I1, rfl, (Option.some.inj h).symm, gEnd ht hP⟩, hS.F ht⟩) hS.2.2 dX8_first_28 hlk
    · have h := gif_t c4 h
      refine lv_iconst (v := 0) hx hb dX8_first_18 (by decide) ?_
      refine lv_goto (tgt := 28) hx hb dX8_first_19 (by decide) ?_
      exact W.iret hx hb hr (fun t9 ht hW => ⟨⟨(0 : Int32), I1, rfl, (Option.some.inj h).symm, gEnd ht hP⟩, hS.F ht⟩) hS.2.2 dX8_first_28 hlk
def f_X8_wouldWin (I : Nat → Nat → Int32) : Option (Int32 × (Nat → Nat → Int32)) :=
  (f_X8_first I).bind fun (r2, I1) =>
  (show Option (Int32) from
    if r2 = 0 then
      some (1 : Int32)
    else
      some (0 : Int32)).bind fun p4 =>
  (f_X8_refused p4 I1).bind fun (r6, I5) =>
  if r6 = 0 then
    some ((r2 - (1 : Int32)), I5)
  else
    some ((0 : Int32), I5)
set_option maxHeartbeats 8000000 in
set_option maxRecDepth 100000 in
theorem c_X8_wouldWin {l : Launch} {dC : Nat → ClassId} {dI : Nat → Nat → Nat} {ca : Nat → ClassId} {b : Nat → Nat} {A : Nat → Prop} {N : Nat} (hN : 138 ≤ N) (hA : gAd A b N) (I : Nat → Nat → Int32) (O : Nat → Nat → Option Nat) (J : Nat → Nat → Int64) (res : Int32 × (Nat → Nat → Int32)) (h : f_X8_wouldWin I = some res) : Met l yX8_wouldWin wsX8_wouldWin ({ frames := 8, cells := 0, slots := 0, locals := 192 } : Room) (va_Pc [.ref (b 129)] (gPre dC dI ca b A N I O J)) (va_Qi (fun (r : Int32) (u : Nat → Nat → Int32) => res = (r, u)) (fun (u : Nat → Nat → Int32) t => va_P (dC, dI) vwCl (hW N ca b u O J) t.heap) A) 0 0 A := by
  refine Met.ofW (cc := cX8_wouldWin) (maxL := 2) (ret := (some .int)) (by decide) rfl ?_
  intro p e s m args below meth c s₁ B hml hv
  obtain ⟨rfl, hP, hK, hA2, hth⟩ := hv
  have hx := B.exec
  have hb := B.bytes
  have hr := B.returns
  have hlk := B.notSynchronized
  have X : gCx p s m ([.ref (b 129)] : List Value).toArray c RX8 cX8_wouldWin wsX8_wouldWin 2 dC dI ca b A N := ⟨hx, hb, hml, findClass_of_methodNamed B.named, atoms_spec (ws := wsX8_wouldWin) B.pre, hK, hA, hA2, hth⟩
  have hS : va_S A s.heap s.heap [] := va_S.rf
  have hl := lv_entry ([.ref (b 129)] : List Value) (n := 2) (Nat.le_of_ble_eq_true rfl)
  rw [lg_entry_eq]
  generalize (lg_sl ([.ref (b 129)] : List Value) ++ List.replicate (2 - (lg_sl ([.ref (b 129)] : List Value)).length) Slot.unset).toArray = ls at hl ⊢
  have hl : lv_has ls 2 [(0, .ref (b 129))] := hl
  unfold f_X8_wouldWin at h
  refine lv_aload_n hx hb dX8_wouldWin_0 rfl (lv_at hl 0 rfl) ?_
  obtain ⟨q3, hcq3, h⟩ := hb_some h
  refine gdV_i (As := []) (rest := []) (BH := (fun (u : Nat → Nat → Int32) H => va_P (dC, dI) vwCl (hW N ca b u O J) H)) X hP hS (c_X8_first hN hA I O J q3 hcq3) (cwV 0 X.ts gX8_wouldWin_X8_first rfl rfl rfl (by decide +kernel) ⟨Nat.le_of_ble_eq_true rfl, Nat.le_of_ble_eq_true rfl⟩) (gr8 X hP kc_129 (sk_in hN kc_129 (by decide))) rfl hl.1 rfl (Nat.le_of_ble_eq_true rfl) dX8_wouldWin_1 ⟨Nat.le_of_ble_eq_true rfl, Nat.le_of_ble_eq_true rfl⟩ (fun r2 I1 H locs hw hP hS => ?_)
  subst hw
  refine lv_istore_n (lv' := [(1, .int r2), (0, .ref (b 129))]) hx hb dX8_wouldWin_4 rfl hl (by decide) rfl (fun ls hl => ?_)
  refine lv_aload_n hx hb dX8_wouldWin_5 rfl (lv_at hl 1 rfl) ?_
  refine lv_iload_n hx hb dX8_wouldWin_6 rfl (lv_at hl 0 rfl) ?_
  obtain ⟨p4, hv, h⟩ := hb_some h
  have K15 : ∀ (H : Heap) (locs : List Loc) (ls : Array Slot), va_P (dC, dI) vwCl (hW N ca b I1 O J) H → va_S A s.heap H locs → lv_has ls 2 [(1, .int r2)] → W p l e (headSpec wsX8_wouldWin ({ frames := 8, cells := 0, slots := 0, locals := 192 } : Room)).room s m ([.ref (b 129)] : List Value).toArray below meth c H locs 0 0 (MQ below (va_Qi (fun (r : Int32) (u : Nat → Nat → Int32) => res = (r, u)) (fun (u : Nat → Nat → Int32) t => va_P (dC, dI) vwCl (hW N ca b u O J) t.heap) A) ([.ref (b 129)] : List Value).toArray s 0 0 A) (F0 m 15 ls [.int p4, .ref (b 129)]) := by
    intro H locs ls hP hS hl
    obtain ⟨q7, hcq7, h⟩ := hb_some h
    refine gdV_i (As := [.int p4]) (rest := []) (BH := (fun (u : Nat → Nat → Int32) H => va_P (dC, dI) vwCl (hW N ca b u O J) H)) X hP hS (c_X8_refused hN hA I1 O J p4 q7 hcq7) (cwV 1 X.ts gX8_wouldWin_X8_refused rfl rfl rfl (by decide +kernel) ⟨Nat.le_of_ble_eq_true rfl, Nat.le_of_ble_eq_true rfl⟩) (gr8 X hP kc_129 (sk_in hN kc_129 (by decide))) rfl hl.1 rfl (Nat.le_of_ble_eq_true rfl) dX8_wouldWin_15 ⟨Nat.le_of_ble_eq_true rfl, Nat.le_of_ble_eq_true rfl⟩ (fun r6 I5 H locs hw hP hS => ?_)
    subst hw
    refine lv_if_eq (tgt := 25) hx hb dX8_wouldWin_18 (by decide) (fun c8 => ?_) (fun c8 => ?_)
    · have h := gif_t c8 h
      refine lv_iload_n hx hb dX8_wouldWin_25 rfl (lv_at hl 0 rfl) ?_
      refine lv_iconst (v := 1) hx hb dX8_wouldWin_26 (by decide) ?_
      refine lv_isub hx hb dX8_wouldWin_27 ?_
      exact W.iret hx hb hr (fun t9 ht hW => ⟨⟨(r2 - (1 : Int32)), I5, rfl, (Option.some.inj h).symm, gEnd ht hP⟩, hS.F ht⟩) hS.2.2 dX8_wouldWin_28 hlk
    · have h := gif_f c8 h
      refine lv_iconst (v := 0) hx hb dX8_wouldWin_21 (by decide) ?_
      refine lv_goto (tgt := 28) hx hb dX8_wouldWin_22 (by decide) ?_
      exact W.iret hx hb hr (fun t9 ht hW => ⟨⟨(0 : Int32), I5, rfl, (Option.some.inj h).symm, gEnd ht hP⟩, hS.F ht⟩) hS.2.2 dX8_wouldWin_28 hlk
  have h := hv
  refine lv_if_ne (tgt := 14) hx hb dX8_wouldWin_7 (by decide) (fun c9 => ?_) (fun c9 => ?_)
  · have h := gif_f c9 h
    refine lv_iconst (v := 0) hx hb dX8_wouldWin_14 (by decide) ?_
    cases h
    exact K15 _ _ _ hP hS (lv_sub hl [0] rfl)
  · have h := gif_t c9 h
    refine lv_iconst (v := 1) hx hb dX8_wouldWin_10 (by decide) ?_
    refine lv_goto (tgt := 15) hx hb dX8_wouldWin_11 (by decide) ?_
    cases h
    exact K15 _ _ _ hP hS (lv_sub hl [0] rfl)
def f_X8_secondsToNext (I : Nat → Nat → Int32) : Option (Int32 × (Nat → Nat → Int32)) :=
  (f_X8_nextIn I).bind fun (r2, I1) =>
  (show Option (Int32) from
    if r2 = 0 then
      some (1 : Int32)
    else
      some (0 : Int32)).bind fun p4 =>
  (f_X8_refused p4 I1).bind fun (r6, I5) =>
  if r6 = 0 then
    some (r2, I5)
  else
    some ((0 : Int32), I5)
set_option maxHeartbeats 8000000 in
set_option maxRecDepth 100000 in
theorem c_X8_secondsToNext {l : Launch} {dC : Nat → ClassId} {dI : Nat → Nat → Nat} {ca : Nat → ClassId} {b : Nat → Nat} {A : Nat → Prop} {N : Nat} (hN : 138 ≤ N) (hA : gAd A b N) (I : Nat → Nat → Int32) (O : Nat → Nat → Option Nat) (J : Nat → Nat → Int64) (res : Int32 × (Nat → Nat → Int32)) (h : f_X8_secondsToNext I = some res) : Met l yX8_secondsToNext wsX8_secondsToNext ({ frames := 7, cells := 0, slots := 0, locals := 172 } : Room) (va_Pc [.ref (b 129)] (gPre dC dI ca b A N I O J)) (va_Qi (fun (r : Int32) (u : Nat → Nat → Int32) => res = (r, u)) (fun (u : Nat → Nat → Int32) t => va_P (dC, dI) vwCl (hW N ca b u O J) t.heap) A) 0 0 A := by
  refine Met.ofW (cc := cX8_secondsToNext) (maxL := 2) (ret := (some .int)) (by decide) rfl ?_
  intro p e s m args below meth c s₁ B hml hv
  obtain ⟨rfl, hP, hK, hA2, hth⟩ := hv
  have hx := B.exec
  have hb := B.bytes
  have hr := B.returns
  have hlk := B.notSynchronized
  have X : gCx p s m ([.ref (b 129)] : List Value).toArray c RX8 cX8_secondsToNext wsX8_secondsToNext 2 dC dI ca b A N := ⟨hx, hb, hml, findClass_of_methodNamed B.named, atoms_spec (ws := wsX8_secondsToNext) B.pre, hK, hA, hA2, hth⟩
  have hS : va_S A s.heap s.heap [] := va_S.rf
  have hl := lv_entry ([.ref (b 129)] : List Value) (n := 2) (Nat.le_of_ble_eq_true rfl)
  rw [lg_entry_eq]
  generalize (lg_sl ([.ref (b 129)] : List Value) ++ List.replicate (2 - (lg_sl ([.ref (b 129)] : List Value)).length) Slot.unset).toArray = ls at hl ⊢
  have hl : lv_has ls 2 [(0, .ref (b 129))] := hl
  unfold f_X8_secondsToNext at h
  refine lv_aload_n hx hb dX8_secondsToNext_0 rfl (lv_at hl 0 rfl) ?_
  obtain ⟨q3, hcq3, h⟩ := hb_some h
  refine gdV_i (As := []) (rest := []) (BH := (fun (u : Nat → Nat → Int32) H => va_P (dC, dI) vwCl (hW N ca b u O J) H)) X hP hS (c_X8_nextIn hN hA I O J q3 hcq3) (cwV 0 X.ts gX8_secondsToNext_X8_nextIn rfl rfl rfl (by decide +kernel) ⟨Nat.le_of_ble_eq_true rfl, Nat.le_of_ble_eq_true rfl⟩) (gr8 X hP kc_129 (sk_in hN kc_129 (by decide))) rfl hl.1 rfl (Nat.le_of_ble_eq_true rfl) dX8_secondsToNext_1 ⟨Nat.le_of_ble_eq_true rfl, Nat.le_of_ble_eq_true rfl⟩ (fun r2 I1 H locs hw hP hS => ?_)
  subst hw
  refine lv_istore_n (lv' := [(1, .int r2), (0, .ref (b 129))]) hx hb dX8_secondsToNext_4 rfl hl (by decide) rfl (fun ls hl => ?_)
  refine lv_aload_n hx hb dX8_secondsToNext_5 rfl (lv_at hl 1 rfl) ?_
  refine lv_iload_n hx hb dX8_secondsToNext_6 rfl (lv_at hl 0 rfl) ?_
  obtain ⟨p4, hv, h⟩ := hb_some h
  have K15 : ∀ (H : Heap) (locs : List Loc) (ls : Array Slot), va_P (dC, dI) vwCl (hW N ca b I1 O J) H → va_S A s.heap H locs → lv_has ls 2 [(1, .int r2)] → W p l e (headSpec wsX8_secondsToNext ({ frames := 7, cells := 0, slots := 0, locals := 172 } : Room)).room s m ([.ref (b 129)] : List Value).toArray below meth c H locs 0 0 (MQ below (va_Qi (fun (r : Int32) (u : Nat → Nat → Int32) => res = (r, u)) (fun (u : Nat → Nat → Int32) t => va_P (dC, dI) vwCl (hW N ca b u O J) t.heap) A) ([.ref (b 129)] : List Value).toArray s 0 0 A) (F0 m 15 ls [.int p4, .ref (b 129)]) := by
    intro H locs ls hP hS hl
    obtain ⟨q7, hcq7, h⟩ := hb_some h
    refine gdV_i (As := [.int p4]) (rest := []) (BH := (fun (u : Nat → Nat → Int32) H => va_P (dC, dI) vwCl (hW N ca b u O J) H)) X hP hS (c_X8_refused hN hA I1 O J p4 q7 hcq7) (cwV 1 X.ts gX8_secondsToNext_X8_refused rfl rfl rfl (by decide +kernel) ⟨Nat.le_of_ble_eq_true rfl, Nat.le_of_ble_eq_true rfl⟩) (gr8 X hP kc_129 (sk_in hN kc_129 (by decide))) rfl hl.1 rfl (Nat.le_of_ble_eq_true rfl) dX8_secondsToNext_15 ⟨Nat.le_of_ble_eq_true rfl, Nat.le_of_ble_eq_true rfl⟩ (fun r6 I5 H locs hw hP hS => ?_)
    subst hw
    refine lv_if_eq (tgt := 25) hx hb dX8_secondsToNext_18 (by decide) (fun c8 => ?_) (fun c8 => ?_)
    · have h := gif_t c8 h
      refine lv_iload_n hx hb dX8_secondsToNext_25 rfl (lv_at hl 0 rfl) ?_
      exact W.iret hx hb hr (fun t9 ht hW => ⟨⟨r2, I5, rfl, (Option.some.inj h).symm, gEnd ht hP⟩, hS.F ht⟩) hS.2.2 dX8_secondsToNext_26 hlk
    · have h := gif_f c8 h
      refine lv_iconst (v := 0) hx hb dX8_secondsToNext_21 (by decide) ?_
      refine lv_goto (tgt := 26) hx hb dX8_secondsToNext_22 (by decide) ?_
      exact W.iret hx hb hr (fun t9 ht hW => ⟨⟨(0 : Int32), I5, rfl, (Option.some.inj h).symm, gEnd ht hP⟩, hS.F ht⟩) hS.2.2 dX8_secondsToNext_26 hlk
  have h := hv
  refine lv_if_ne (tgt := 14) hx hb dX8_secondsToNext_7 (by decide) (fun c9 => ?_) (fun c9 => ?_)
  · have h := gif_f c9 h
    refine lv_iconst (v := 0) hx hb dX8_secondsToNext_14 (by decide) ?_
    cases h
    exact K15 _ _ _ hP hS (lv_sub hl [0] rfl)
  · have h := gif_t c9 h
    refine lv_iconst (v := 1) hx hb dX8_secondsToNext_10 (by decide) ?_
    refine lv_goto (tgt := 15) hx hb dX8_secondsToNext_11 (by decide) ?_
    cases h
    exact K15 _ _ _ hP hS (lv_sub hl [0] rfl)
def f_X8_flownAt (a1 : Int32) (a2 : Int32) (I : Nat → Nat → Int32) : Option (Int32 × (Nat → Nat → Int32)) :=
  (f_X8_of a1 (0 : Int32) I).bind fun r1 =>
  hg (gin ((16 : Int32) * a1) 151) <|
  hlet (gup I 130 (((16 : Int32) * a1).toNatClampNeg) a2) fun I4 =>
  (f_X8_flownIn a1 (50 : Int32) I4).bind fun (r6, I5) =>
  hg (gin ((16 : Int32) * a1) 151) <|
  hlet (gup I5 130 (((16 : Int32) * a1).toNatClampNeg) r1) fun I9 =>
  some (r6, I9)
set_option maxHeartbeats 8000000 in
set_option maxRecDepth 100000 in
theorem c_X8_flownAt {l : Launch} {dC : Nat → ClassId} {dI : Nat → Nat → Nat} {ca : Nat → ClassId} {b : Nat → Nat} {A : Nat → Prop} {N : Nat} (hN : 138 ≤ N) (hA : gAd A b N) (I : Nat → Nat → Int32) (O : Nat → Nat → Option Nat) (J : Nat → Nat → Int64) (a1 : Int32) (a2 : Int32) (res : Int32 × (Nat → Nat → Int32)) (h : f_X8_flownAt a1 a2 I = some res) : Met l yX8_flownAt wsX8_flownAt ({ frames := 8, cells := 0, slots := 0, locals := 197 } : Room) (va_Pc [.ref (b 129), .int a1, .int a2] (gPre dC dI ca b A N I O J)) (va_Qi (fun (r : Int32) (u : Nat → Nat → Int32) => res = (r, u)) (fun (u : Nat → Nat → Int32) t => va_P (dC, dI) vwCl (hW N ca b u O J) t.heap) A) 0 0 A := by
  refine Met.ofW (cc := cX8_flownAt) (maxL := 5) (ret := (some .int)) (by decide) rfl ?_
  intro p e s m args below meth c s₁ B hml hv
  obtain ⟨rfl, hP, hK, hA2, hth⟩ := hv
  have hx := B.exec
  have hb := B.bytes
  have hr := B.returns
  have hlk := B.notSynchronized
  have X : gCx p s m ([.ref (b 129), .int a1, .int a2] : List Value).toArray c RX8 cX8_flownAt wsX8_flownAt 5 dC dI ca b A N := ⟨hx, hb, hml, findClass_of_methodNamed B.named, atoms_spec (ws := wsX8_flownAt) B.pre, hK, hA, hA2, hth⟩
  have hi8 : ∀ w ∈ wsX80, w ∈ wsX8_flownAt := (fun w h => List.mem_cons_of_mem _ (List.mem_append_right _ h))
  have hS : va_S A s.heap s.heap [] := va_S.rf
  have hl := lv_entry ([.ref (b 129), .int a1, .int a2] : List Value) (n := 5) (Nat.le_of_ble_eq_true rfl)
  rw [lg_entry_eq]
  generalize (lg_sl ([.ref (b 129), .int a1, .int a2] : List Value) ++ List.replicate (5 - (lg_sl ([.ref (b 129), .int a1, .int a2] : List Value)).length) Slot.unset).toArray = ls at hl ⊢
  have hl : lv_has ls 5 [(0, .ref (b 129)), (1, .int a1), (2, .int a2)] := hl
  unfold f_X8_flownAt at h
  refine lv_aload_n hx hb dX8_flownAt_0 rfl (lv_at hl 0 rfl) ?_
  refine lv_iload_n hx hb dX8_flownAt_1 rfl (lv_at hl 1 rfl) ?_
  refine lv_iconst (v := 0) hx hb dX8_flownAt_2 (by decide) ?_
  obtain ⟨q2, hcq2, h⟩ := hb_some h
  refine gdV_i (As := [.int a1, .int (0 : Int32)]) (rest := []) (BH := (fun (u : Unit) H => va_P (dC, dI) vwCl (hW N ca b I O J) H)) X hP hS (c_X8_of hN hA I O J a1 (0 : Int32) q2 hcq2) (cwV 2 X.ts gX8_flownAt_X8_of rfl rfl rfl (by decide +kernel) ⟨Nat.le_of_ble_eq_true rfl, Nat.le_of_ble_eq_true rfl⟩) (gr8 X hP kc_129 (sk_in hN kc_129 (by decide))) rfl hl.1 rfl (Nat.le_of_ble_eq_true rfl) dX8_flownAt_3 ⟨Nat.le_of_ble_eq_true rfl, Nat.le_of_ble_eq_true rfl⟩ (fun r1 u9 H locs hw hP hS => ?_)
  have hw := hw.symm
  subst hw
  refine lv_istore_n (lv' := [(3, .int r1), (0, .ref (b 129)), (1, .int a1), (2, .int a2)]) hx hb dX8_flownAt_6 rfl hl (by decide) rfl (fun ls hl => ?_)
  refine lv_aload_n hx hb dX8_flownAt_7 rfl (lv_at hl 1 rfl) ?_
  refine gg8_0 X hP kc_129 (sk_in hN kc_129 (by decide)) hi8 (List.mem_of_getElem? (i := 1) rfl) dX8_flownAt_8 ?_
  refine lv_bipush (v := 16) hx hb dX8_flownAt_11 (by decide) ?_
  refine lv_iload_n hx hb dX8_flownAt_13 rfl (lv_at hl 2 rfl) ?_
  refine lv_imul hx hb dX8_flownAt_14 ?_
  refine lv_iload_n hx hb dX8_flownAt_15 rfl (lv_at hl 3 rfl) ?_
  obtain ⟨hgi3, h⟩ := hg_some h
  refine gs20 X hP hS kc_130 (sk_in hN kc_130 (by decide)) (L := 151) (by decide) hgi3 dX8_flownAt_16 (fun H locs hP hS => ?_)
  obtain ⟨I4, eI4, h⟩ := hlet_ex h
  rw [← eI4] at hP
  refine lv_aload_n hx hb dX8_flownAt_17 rfl (lv_at hl 1 rfl) ?_
  refine lv_iload_n hx hb dX8_flownAt_18 rfl (lv_at hl 2 rfl) ?_
  refine lv_bipush (v := 50) hx hb dX8_flownAt_19 (by decide) ?_
  obtain ⟨q7, hcq7, h⟩ := hb_some h
  refine gdV_i (As := [.int a1, .int (50 : Int32)]) (rest := []) (BH := (fun (u : Nat → Nat → Int32) H => va_P (dC, dI) vwCl (hW N ca b u O J) H)) X hP hS (c_X8_flownIn hN hA I4 O J a1 (50 : Int32) q7 hcq7) (cwV 2 X.ts gX8_flownAt_X8_flownIn rfl rfl rfl (by decide +kernel) ⟨Nat.le_of_ble_eq_true rfl, Nat.le_of_ble_eq_true rfl⟩) (gr8 X hP kc_129 (sk_in hN kc_129 (by decide))) rfl hl.1 rfl (Nat.le_of_ble_eq_true rfl) dX8_flownAt_21 ⟨Nat.le_of_ble_eq_true rfl, Nat.le_of_ble_eq_true rfl⟩ (fun r6 I5 H locs hw hP hS => ?_)
  subst hw
  refine lv_istore (lv' := [(4, .int r6), (3, .int r1), (0, .ref (b 129)), (1, .int a1), (2, .int a2)]) hx hb dX8_flownAt_24 hl (by decide) rfl (fun ls hl => ?_)
  refine lv_aload_n hx hb dX8_flownAt_26 rfl (lv_at hl 2 rfl) ?_
  refine gg8_0 X hP kc_129 (sk_in hN kc_129 (by decide)) hi8 (List.mem_of_getElem? (i := 1) rfl) dX8_flownAt_27 ?_
  refine lv_bipush (v := 16) hx hb dX8_flownAt_30 (by decide) ?_
  refine lv_iload_n hx hb dX8_flownAt_32 rfl (lv_at hl 3 rfl) ?_
  refine lv_imul hx hb dX8_flownAt_33 ?_
  refine lv_iload_n hx hb dX8_flownAt_34 rfl (lv_at hl 1 rfl) ?_
  obtain ⟨hgi8, h⟩ := hg_some h
  refine gs20 X hP hS kc_130 (sk_in hN kc_130 (by decide)) (L := 151) (by decide) hgi8 dX8_flownAt_35 (fun H locs hP hS => ?_)
  obtain ⟨I9, eI9, h⟩ := hlet_ex h
  rw [← eI9] at hP
  refine lv_iload hx hb dX8_flownAt_36 (lv_at hl 0 rfl) ?_
  exact W.iret hx hb hr (fun t9 ht hW => ⟨⟨r6, I9, rfl, (Option.some.inj h).symm, gEnd ht hP⟩, hS.F ht⟩) hS.2.2 dX8_flownAt_38 hlk
def f_X8_flownWithPace (a1 : Int32) (a2 : Int32) (I : Nat → Nat → Int32) : Option (Int32 × (Nat → Nat → Int32)) :=
  (f_X8_isBird a1 I).bind fun r1 =>
  (show Option (Int32) from
    if r1 = 0 then
      some (1 : Int32)
    else
      (f_X8_in a2 (10 : Int32) (40 : Int32)).bind fun r11 =>
      if r11 = 0 then
        some (2 : Int32)
      else
        if (I 130 ((150 : Int32).toNatClampNeg)) = (1 : Int32) then
          some (0 : Int32)
        else
          some (3 : Int32)).bind fun p3 =>
  (f_X8_refused p3 I).bind fun (r5, I4) =>
  if r5 = 0 then
    (f_X8_flownAt a1 a2 I4).bind fun (r8, I7) =>
    some (r8, I7)
  else
    some ((0 : Int32), I4)
set_option maxHeartbeats 8000000 in
set_option maxRecDepth 100000 in
theorem c_X8_flownWithPace {l : Launch} {dC : Nat → ClassId} {dI : Nat → Nat → Nat} {ca : Nat → ClassId} {b : Nat → Nat} {A : Nat → Prop} {N : Nat} (hN : 138 ≤ N) (hA : gAd A b N) (I : Nat → Nat → Int32) (O : Nat → Nat → Option Nat) (J : Nat → Nat → Int64) (a1 : Int32) (a2 : Int32) (res : Int32 × (Nat → Nat → Int32)) (h : f_X8_flownWithPace a1 a2 I = some res) : Met l yX8_flownWithPace wsX8_flownWithPace ({ frames := 9, cells := 0, slots := 0, locals := 221 } : Room) (va_Pc [.ref (b 129), .int a1, .int a2] (gPre dC dI ca b A N I O J)) (va_Qi (fun (r : Int32) (u : Nat → Nat → Int32) => res = (r, u)) (fun (u : Nat → Nat → Int32) t => va_P (dC, dI) vwCl (hW N ca b u O J) t.heap) A) 0 0 A := by
  refine Met.ofW (cc := cX8_flownWithPace) (maxL := 3) (ret := (some .int)) (by decide) rfl ?_
  intro p e s m args below meth c s₁ B hml hv
  obtain ⟨rfl, hP, hK, hA2, hth⟩ := hv
  have hx := B.exec
  have hb := B.bytes
  have hr := B.returns
  have hlk := B.notSynchronized
  have X : gCx p s m ([.ref (b 129), .int a1, .int a2] : List Value).toArray c RX8 cX8_flownWithPace wsX8_flownWithPace 3 dC dI ca b A N := ⟨hx, hb, hml, findClass_of_methodNamed B.named, atoms_spec (ws := wsX8_flownWithPace) B.pre, hK, hA, hA2, hth⟩
  have hi8 : ∀ w ∈ wsX80, w ∈ wsX8_flownWithPace := (fun w h => List.mem_cons_of_mem _ (List.mem_append_right _ h))
  have hS : va_S A s.heap s.heap [] := va_S.rf
  have hl := lv_entry ([.ref (b 129), .int a1, .int a2] : List Value) (n := 3) (Nat.le_of_ble_eq_true rfl)
  rw [lg_entry_eq]
  generalize (lg_sl ([.ref (b 129), .int a1, .int a2] : List Value) ++ List.replicate (3 - (lg_sl ([.ref (b 129), .int a1, .int a2] : List Value)).length) Slot.unset).toArray = ls at hl ⊢
  have hl : lv_has ls 3 [(0, .ref (b 129)), (1, .int a1), (2, .int a2)] := hl
  unfold f_X8_flownWithPace at h
  refine lv_aload_n hx hb dX8_flownWithPace_0 rfl (lv_at hl 0 rfl) ?_
  refine lv_aload_n hx hb dX8_flownWithPace_1 rfl (lv_at hl 0 rfl) ?_
  refine lv_iload_n hx hb dX8_flownWithPace_2 rfl (lv_at hl 1 rfl) ?_
  obtain ⟨q2, hcq2, h⟩ := hb_some h
  refine gdV_i (As := [.int a1]) (rest := [.ref (b 129)]) (BH := (fun (u : Unit) H => va_P (dC, dI) vwCl (hW N ca b I O J) H)) X hP hS (c_X8_isBird hN hA I O J a1 q2 hcq2) (cwV 1 X.ts gX8_flownWithPace_X8_isBird rfl rfl rfl (by decide +kernel) ⟨Nat.le_of_ble_eq_true rfl, Nat.le_of_ble_eq_true rfl⟩) (gr8 X hP kc_129 (sk_in hN kc_129 (by decide))) rfl hl.1 rfl (Nat.le_of_ble_eq_true rfl) dX8_flownWithPace_3 ⟨Nat.le_of_ble_eq_true rfl, Nat.le_of_ble_eq_true rfl⟩ (fun r1 u9 H locs hw hP hS => ?_)
  have hw := hw.symm
  subst hw
  obtain ⟨p3, hv, h⟩ := hb_some h
  have K45 : ∀ (H : Heap) (locs : List Loc) (ls : Array Slot), va_P (dC, dI) vwCl (hW N ca b I O J) H → va_S A s.heap H locs → lv_has ls 3 [(0, .ref (b 129)), (1, .int a1), (2, .int a2)] → W p l e (headSpec wsX8_flownWithPace ({ frames := 9, cells := 0, slots := 0, locals := 221 } : Room)).room s m ([.ref (b 129), .int a1, .int a2] : List Value).toArray below meth c H locs 0 0 (MQ below (va_Qi (fun (r : Int32) (u : Nat → Nat → Int32) => res = (r, u)) (fun (u : Nat → Nat → Int32) t => va_P (dC, dI) vwCl (hW N ca b u O J) t.heap) A) ([.ref (b 129), .int a1, .int a2] : List Value).toArray s 0 0 A) (F0 m 45 ls [.int p3, .ref (b 129)]) := by
    intro H locs ls hP hS hl
    obtain ⟨q6, hcq6, h⟩ := hb_some h
    refine gdV_i (As := [.int p3]) (rest := []) (BH := (fun (u : Nat → Nat → Int32) H => va_P (dC, dI) vwCl (hW N ca b u O J) H)) X hP hS (c_X8_refused hN hA I O J p3 q6 hcq6) (cwV 1 X.ts gX8_flownWithPace_X8_refused rfl rfl rfl (by decide +kernel) ⟨Nat.le_of_ble_eq_true rfl, Nat.le_of_ble_eq_true rfl⟩) (gr8 X hP kc_129 (sk_in hN kc_129 (by decide))) rfl hl.1 rfl (Nat.le_of_ble_eq_true rfl) dX8_flownWithPace_45 ⟨Nat.le_of_ble_eq_true rfl, Nat.le_of_ble_eq_true rfl⟩ (fun r5 I4 H locs hw hP hS => ?_)
    subst hw
    refine lv_if_eq (tgt := 55) hx hb dX8_flownWithPace_48 (by decide) (fun c10 => ?_) (fun c10 => ?_)
    · have h := gif_t c10 h
      refine lv_aload_n hx hb dX8_flownWithPace_55 rfl (lv_at hl 0 rfl) ?_
      refine lv_iload_n hx hb dX8_flownWithPace_56 rfl (lv_at hl 1 rfl) ?_
      refine lv_iload_n hx hb dX8_flownWithPace_57 rfl (lv_at hl 2 rfl) ?_
      obtain ⟨q9, hcq9, h⟩ := hb_some h
      refine gdV_i (As := [.int a1, .int a2]) (rest := []) (BH := (fun (u : Nat → Nat → Int32) H => va_P (dC, dI) vwCl (hW N ca b u O J) H)) X hP hS (c_X8_flownAt hN hA I4 O J a1 a2 q9 hcq9) (cwV 2 X.ts gX8_flownWithPace_X8_flownAt rfl rfl rfl (by decide +kernel) ⟨Nat.le_of_ble_eq_true rfl, Nat.le_of_ble_eq_true rfl⟩) (gr8 X hP kc_129 (sk_in hN kc_129 (by decide))) rfl hl.1 rfl (Nat.le_of_ble_eq_true rfl) dX8_flownWithPace_58 ⟨Nat.le_of_ble_eq_true rfl, Nat.le_of_ble_eq_true rfl⟩ (fun r8 I7 H locs hw hP hS => ?_)
      subst hw
      exact W.iret hx hb hr (fun t9 ht hW => ⟨⟨r8, I7, rfl, (Option.some.inj h).symm, gEnd ht hP⟩, hS.F ht⟩) hS.2.2 dX8_flownWithPace_61 hlk
    · have h := gif_f c10 h
      refine lv_iconst (v := 0) hx hb dX8_flownWithPace_51 (by decide) ?_
      refine lv_goto (tgt := 61) hx hb dX8_flownWithPace_52 (by decide) ?_
      exact W.iret hx hb hr (fun t9 ht hW => ⟨⟨(0 : Int32), I4, rfl, (Option.some.inj h).symm, gEnd ht hP⟩, hS.F ht⟩) hS.2.2 dX8_flownWithPace_61 hlk
  have h := hv
  refine lv_if_ne (tgt := 13) hx hb dX8_flownWithPace_6 (by decide) (fun c15 => ?_) (fun c15 => ?_)
  · have h := gif_f c15 h
    refine lv_iload_n hx hb dX8_flownWithPace_13 rfl (lv_at hl 2 rfl) ?_
    refine lv_bipush (v := 10) hx hb dX8_flownWithPace_14 (by decide) ?_
    refine lv_bipush (v := 40) hx hb dX8_flownWithPace_16 (by decide) ?_
    obtain ⟨q12, hcq12, h⟩ := hb_some h
    refine gdS_i (As := [.int a2, .int (10 : Int32), .int (40 : Int32)]) (rest := [.ref (b 129)]) (BH := (fun (u : Unit) H => va_P (dC, dI) vwCl (hW N ca b I O J) H)) X hP hS (c_X8_in hN hA I O J a2 (10 : Int32) (40 : Int32) q12 hcq12) (va_cwS 3 X.ts gX8_flownWithPace_X8_in rfl rfl rfl (by decide +kernel) ⟨Nat.le_of_ble_eq_true rfl, Nat.le_of_ble_eq_true rfl⟩) rfl hl.1 rfl (Nat.le_of_ble_eq_true rfl) dX8_flownWithPace_18 ⟨Nat.le_of_ble_eq_true rfl, Nat.le_of_ble_eq_true rfl⟩ (fun r11 u9 H locs hw hP hS => ?_)
    have hw := hw.symm
    subst hw
    refine lv_if_ne (tgt := 28) hx hb dX8_flownWithPace_21 (by decide) (fun c14 => ?_) (fun c14 => ?_)
    · have h := gif_f c14 h
      refine lv_aload_n hx hb dX8_flownWithPace_28 rfl (lv_at hl 0 rfl) ?_
      refine gg8_0 X hP kc_129 (sk_in hN kc_129 (by decide)) hi8 (List.mem_of_getElem? (i := 1) rfl) dX8_flownWithPace_29 ?_
      refine lv_sipush (v := 150) hx hb dX8_flownWithPace_32 (by decide) ?_
      refine ga20 X hP kc_130 (sk_in hN kc_130 (by decide)) (L := 151) (by decide) (by decide) dX8_flownWithPace_35 ?_
      refine lv_iconst (v := 1) hx hb dX8_flownWithPace_36 (by decide) ?_
      refine lv_icmp_ne (tgt := 44) hx hb dX8_flownWithPace_37 (by decide) (fun c13 => ?_) (fun c13 => ?_)
      · have h := gif_f c13 h
        refine lv_iconst (v := 3) hx hb dX8_flownWithPace_44 (by decide) ?_
        cases h
        exact K45 _ _ _ hP hS (lv_sub hl [0, 1, 2] rfl)
      · have h := gif_t c13 h
        refine lv_iconst (v := 0) hx hb dX8_flownWithPace_40 (by decide) ?_
        refine lv_goto (tgt := 45) hx hb dX8_flownWithPace_41 (by decide) ?_
        cases h
        exact K45 _ _ _ hP hS (lv_sub hl [0, 1, 2] rfl)
    · have h := gif_t c14 h
      refine lv_iconst (v := 2) hx hb dX8_flownWithPace_24 (by decide) ?_
      refine lv_goto (tgt := 45) hx hb dX8_flownWithPace_25 (by decide) ?_
      cases h
      exact K45 _ _ _ hP hS (lv_sub hl [0, 1, 2] rfl)
  · have h := gif_t c15 h
    refine lv_iconst (v := 1) hx hb dX8_flownWithPace_9 (by decide) ?_
    refine lv_goto (tgt := 45) hx hb dX8_flownWithPace_10 (by decide) ?_
    cases h
    exact K45 _ _ _ hP hS (lv_sub hl [0, 1, 2] rfl)
def f_X8_best_L15 (a1 : Int32) : Nat → Int32 → Int32 → Int32 → (Nat → Nat → Int32) → Option (Int32 × (Nat → Nat → Int32))
  | 0, _, _, _, _ => none
  | fuel + 1, p4, p5, p6, I7 =>
    if (40 : Int32) < p6 then
      some (p4, I7)
    else
      (f_X8_flownAt a1 p6 I7).bind fun (r11, I10) =>
      (show Option (Int32) from
        if r11 ≤ p5 then
          some p4
        else
          some p6).bind fun p13 =>
      (show Option (Int32) from
        if r11 ≤ p5 then
          some p5
        else
          some r11).bind fun p14 =>
      hlet (p6 + 1) fun x15 =>
      f_X8_best_L15 a1 fuel p13 p14 x15 I10
def f_X8_best (a1 : Int32) (I : Nat → Nat → Int32) : Option (Int32 × (Nat → Nat → Int32)) :=
  (f_X8_flownAt a1 (10 : Int32) I).bind fun (r2, I1) =>
  (f_X8_best_L15 a1 FU (10 : Int32) r2 (11 : Int32) I1).bind fun (p8, I9) =>
  some (p8, I9)
set_option maxHeartbeats 8000000 in
set_option maxRecDepth 100000 in
theorem c_X8_best {l : Launch} {dC : Nat → ClassId} {dI : Nat → Nat → Nat} {ca : Nat → ClassId} {b : Nat → Nat} {A : Nat → Prop} {N : Nat} (hN : 138 ≤ N) (hA : gAd A b N) (I : Nat → Nat → Int32) (O : Nat → Nat → Option Nat) (J : Nat → Nat → Int64) (a1 : Int32) (res : Int32 × (Nat → Nat → Int32)) (h : f_X8_best a1 I = some res) : Met l yX8_best wsX8_best ({ frames := 9, cells := 0, slots := 0, locals := 221 } : Room) (va_Pc [.ref (b 129), .int a1] (gPre dC dI ca b A N I O J)) (va_Qi (fun (r : Int32) (u : Nat → Nat → Int32) => res = (r, u)) (fun (u : Nat → Nat → Int32) t => va_P (dC, dI) vwCl (hW N ca b u O J) t.heap) A) 0 0 A := by
  refine Met.ofW (cc := cX8_best) (maxL := 6) (ret := (some .int)) (by decide) rfl ?_
  intro p e s m args below meth c s₁ B hml hv
  obtain ⟨rfl, hP, hK, hA2, hth⟩ := hv
  have hx := B.exec
  have hb := B.bytes
  have hr := B.returns
  have hlk := B.notSynchronized
  have X : gCx p s m ([.ref (b 129), .int a1] : List Value).toArray c RX8 cX8_best wsX8_best 6 dC dI ca b A N := ⟨hx, hb, hml, findClass_of_methodNamed B.named, atoms_spec (ws := wsX8_best) B.pre, hK, hA, hA2, hth⟩
  have hS : va_S A s.heap s.heap [] := va_S.rf
  have hl := lv_entry ([.ref (b 129), .int a1] : List Value) (n := 6) (Nat.le_of_ble_eq_true rfl)
  rw [lg_entry_eq]
  generalize (lg_sl ([.ref (b 129), .int a1] : List Value) ++ List.replicate (6 - (lg_sl ([.ref (b 129), .int a1] : List Value)).length) Slot.unset).toArray = ls at hl ⊢
  have hl : lv_has ls 6 [(0, .ref (b 129)), (1, .int a1)] := hl
  unfold f_X8_best at h
  refine lv_bipush (v := 10) hx hb dX8_best_0 (by decide) ?_
  refine lv_istore_n (lv' := [(2, .int (10 : Int32)), (0, .ref (b 129)), (1, .int a1)]) hx hb dX8_best_2 rfl hl (by decide) rfl (fun ls hl => ?_)
  refine lv_aload_n hx hb dX8_best_3 rfl (lv_at hl 1 rfl) ?_
  refine lv_iload_n hx hb dX8_best_4 rfl (lv_at hl 2 rfl) ?_
  refine lv_bipush (v := 10) hx hb dX8_best_5 (by decide) ?_
  obtain ⟨q3, hcq3, h⟩ := hb_some h
  refine gdV_i (As := [.int a1, .int (10 : Int32)]) (rest := []) (BH := (fun (u : Nat → Nat → Int32) H => va_P (dC, dI) vwCl (hW N ca b u O J) H)) X hP hS (c_X8_flownAt hN hA I O J a1 (10 : Int32) q3 hcq3) (cwV 2 X.ts gX8_best_X8_flownAt rfl rfl rfl (by decide +kernel) ⟨Nat.le_of_ble_eq_true rfl, Nat.le_of_ble_eq_true rfl⟩) (gr8 X hP kc_129 (sk_in hN kc_129 (by decide))) rfl hl.1 rfl (Nat.le_of_ble_eq_true rfl) dX8_best_7 ⟨Nat.le_of_ble_eq_true rfl, Nat.le_of_ble_eq_true rfl⟩ (fun r2 I1 H locs hw hP hS => ?_)
  subst hw
  refine lv_istore_n (lv' := [(3, .int r2), (2, .int (10 : Int32)), (0, .ref (b 129)), (1, .int a1)]) hx hb dX8_best_10 rfl hl (by decide) rfl (fun ls hl => ?_)
  refine lv_bipush (v := 11) hx hb dX8_best_11 (by decide) ?_
  refine lv_istore (lv' := [(4, .int (11 : Int32)), (3, .int r2), (2, .int (10 : Int32)), (0, .ref (b 129)), (1, .int a1)]) hx hb dX8_best_13 hl (by decide) rfl (fun ls hl => ?_)
  obtain ⟨⟨p8, I9⟩, hv, h⟩ := hb_some h
  have K63 : ∀ (H : Heap) (locs : List Loc) (ls : Array Slot), va_P (dC, dI) vwCl (hW N ca b I9 O J) H → va_S A s.heap H locs → lv_has ls 6 [(2, .int p8)] → W p l e (headSpec wsX8_best ({ frames := 9, cells := 0, slots := 0, locals := 221 } : Room)).room s m ([.ref (b 129), .int a1] : List Value).toArray below meth c H locs 0 0 (MQ below (va_Qi (fun (r : Int32) (u : Nat → Nat → Int32) => res = (r, u)) (fun (u : Nat → Nat → Int32) t => va_P (dC, dI) vwCl (hW N ca b u O J) t.heap) A) ([.ref (b 129), .int a1] : List Value).toArray s 0 0 A) (F0 m 63 ls []) := by
    intro H locs ls hP hS hl
    refine lv_iload_n hx hb dX8_best_63 rfl (lv_at hl 0 rfl) ?_
    exact W.iret hx hb hr (fun t9 ht hW => ⟨⟨p8, I9, rfl, (Option.some.inj h).symm, gEnd ht hP⟩, hS.F ht⟩) hS.2.2 dX8_best_64 hlk
  have hL15 : ∀ (fuel : Nat) (p4 : Int32) (p5 : Int32) (p6 : Int32) (I7 : Nat → Nat → Int32) (H : Heap) (locs : List Loc) (ls : Array Slot), f_X8_best_L15 a1 fuel p4 p5 p6 I7 = some (p8, I9) → va_P (dC, dI) vwCl (hW N ca b I7 O J) H → va_S A s.heap H locs → lv_has ls 6 [(0, .ref (b 129)), (1, .int a1), (2, .int p4), (3, .int p5), (4, .int p6)] → W p l e (headSpec wsX8_best ({ frames := 9, cells := 0, slots := 0, locals := 221 } : Room)).room s m ([.ref (b 129), .int a1] : List Value).toArray below meth c H locs 0 0 (MQ below (va_Qi (fun (r : Int32) (u : Nat → Nat → Int32) => res = (r, u)) (fun (u : Nat → Nat → Int32) t => va_P (dC, dI) vwCl (hW N ca b u O J) t.heap) A) ([.ref (b 129), .int a1] : List Value).toArray s 0 0 A) (F0 m 15 ls []) := by
    intro fuel
    induction fuel with
    | zero =>
      intro p4 p5 p6 I7 H locs ls h hP hS hl
      rw [f_X8_best_L15] at h
      cases h
    | succ fuel ih =>
      intro p4 p5 p6 I7 H locs ls h hP hS hl
      rw [f_X8_best_L15] at h
      refine lv_iload hx hb dX8_best_15 (lv_at hl 4 rfl) ?_
      refine lv_bipush (v := 40) hx hb dX8_best_17 (by decide) ?_
      refine lv_icmp_gt (tgt := 63) hx hb dX8_best_19 (by decide) (fun c18 => ?_) (fun c18 => ?_)
      · have h := gif_t c18 h
        cases h
        exact K63 _ _ _ hP hS (lv_sub hl [2] rfl)
      · have h := gif_f c18 h
        refine lv_aload_n hx hb dX8_best_22 rfl (lv_at hl 0 rfl) ?_
        refine lv_iload_n hx hb dX8_best_23 rfl (lv_at hl 1 rfl) ?_
        refine lv_iload hx hb dX8_best_24 (lv_at hl 4 rfl) ?_
        obtain ⟨q12, hcq12, h⟩ := hb_some h
        refine gdV_i (As := [.int a1, .int p6]) (rest := []) (BH := (fun (u : Nat → Nat → Int32) H => va_P (dC, dI) vwCl (hW N ca b u O J) H)) X hP hS (c_X8_flownAt hN hA I7 O J a1 p6 q12 hcq12) (cwV 2 X.ts gX8_best_X8_flownAt rfl rfl rfl (by decide +kernel) ⟨Nat.le_of_ble_eq_true rfl, Nat.le_of_ble_eq_true rfl⟩) (gr8 X hP kc_129 (sk_in hN kc_129 (by decide))) rfl hl.1 rfl (Nat.le_of_ble_eq_true rfl) dX8_best_26 ⟨Nat.le_of_ble_eq_true rfl, Nat.le_of_ble_eq_true rfl⟩ (fun r11 I10 H locs hw hP hS => ?_)
        subst hw
        refine lv_istore (lv' := [(5, .int r11), (0, .ref (b 129)), (1, .int a1), (2, .int p4), (3, .int p5), (4, .int p6)]) hx hb dX8_best_29 hl (by decide) rfl (fun ls hl => ?_)
        refine lv_iload hx hb dX8_best_31 (lv_at hl 0 rfl) ?_
        refine lv_iload_n hx hb dX8_best_33 rfl (lv_at hl 4 rfl) ?_
        obtain ⟨p13, hv, h⟩ := hb_some h
        have K43 : ∀ (H : Heap) (locs : List Loc) (ls : Array Slot), va_P (dC, dI) vwCl (hW N ca b I10 O J) H → va_S A s.heap H locs → lv_has ls 6 [(0, .ref (b 129)), (1, .int a1), (3, .int p5), (4, .int p6), (5, .int r11)] → W p l e (headSpec wsX8_best ({ frames := 9, cells := 0, slots := 0, locals := 221 } : Room)).room s m ([.ref (b 129), .int a1] : List Value).toArray below meth c H locs 0 0 (MQ below (va_Qi (fun (r : Int32) (u : Nat → Nat → Int32) => res = (r, u)) (fun (u : Nat → Nat → Int32) t => va_P (dC, dI) vwCl (hW N ca b u O J) t.heap) A) ([.ref (b 129), .int a1] : List Value).toArray s 0 0 A) (F0 m 43 ls [.int p13]) := by
          intro H locs ls hP hS hl
          refine lv_istore_n (lv' := [(2, .int p13), (0, .ref (b 129)), (1, .int a1), (3, .int p5), (4, .int p6), (5, .int r11)]) hx hb dX8_best_43 rfl hl (by decide) rfl (fun ls hl => ?_)
          refine lv_iload hx hb dX8_best_44 (lv_at hl 5 rfl) ?_
          refine lv_iload_n hx hb dX8_best_46 rfl (lv_at hl 3 rfl) ?_
          obtain ⟨p14, hv, h⟩ := hb_some h
          have K56 : ∀ (H : Heap) (locs : List Loc) (ls : Array Slot), va_P (dC, dI) vwCl (hW N ca b I10 O J) H → va_S A s.heap H locs → lv_has ls 6 [(0, .ref (b 129)), (1, .int a1), (2, .int p13), (4, .int p6)] → W p l e (headSpec wsX8_best ({ frames := 9, cells := 0, slots := 0, locals := 221 } : Room)).room s m ([.ref (b 129), .int a1] : List Value).toArray below meth c H locs 0 0 (MQ below (va_Qi (fun (r : Int32) (u : Nat → Nat → Int32) => res = (r, u)) (fun (u : Nat → Nat → Int32) t => va_P (dC, dI) vwCl (hW N ca b u O J) t.heap) A) ([.ref (b 129), .int a1] : List Value).toArray s 0 0 A) (F0 m 56 ls [.int p14]) := by
            intro H locs ls hP hS hl
            refine lv_istore_n (lv' := [(3, .int p14), (0, .ref (b 129)), (1, .int a1), (2, .int p13), (4, .int p6)]) hx hb dX8_best_56 rfl hl (by decide) rfl (fun ls hl => ?_)
            obtain ⟨x15, ex15, h⟩ := hlet_ex h
            refine lv_iinc (v := x15) (lv' := [(4, .int x15), (3, .int p14), (0, .ref (b 129)), (1, .int a1), (2, .int p13)]) hx hb dX8_best_57 hl (k := 4) rfl (by rw [ex15]; rfl) (by decide) rfl (fun ls hl => ?_)
            refine lv_goto (tgt := 15) hx hb dX8_best_60 (by decide) ?_
            exact ih _ _ _ _ _ _ _ h hP hS (lv_sub hl [2, 3, 4, 1, 0] rfl)
          have h := hv
          refine lv_icmp_le (tgt := 55) hx hb dX8_best_47 (by decide) (fun c16 => ?_) (fun c16 => ?_)
          · have h := gif_t c16 h
            refine lv_iload_n hx hb dX8_best_55 rfl (lv_at hl 3 rfl) ?_
            cases h
            exact K56 _ _ _ hP hS (lv_sub hl [1, 2, 0, 4] rfl)
          · have h := gif_f c16 h
            refine lv_iload hx hb dX8_best_50 (lv_at hl 5 rfl) ?_
            refine lv_goto (tgt := 56) hx hb dX8_best_52 (by decide) ?_
            cases h
            exact K56 _ _ _ hP hS (lv_sub hl [1, 2, 0, 4] rfl)
        have h := hv
        refine lv_icmp_le (tgt := 42) hx hb dX8_best_34 (by decide) (fun c17 => ?_) (fun c17 => ?_)
        · have h := gif_t c17 h
          refine lv_iload_n hx hb dX8_best_42 rfl (lv_at hl 3 rfl) ?_
          cases h
          exact K43 _ _ _ hP hS (lv_sub hl [1, 2, 4, 5, 0] rfl)
        · have h := gif_f c17 h
          refine lv_iload hx hb dX8_best_37 (lv_at hl 5 rfl) ?_
          refine lv_goto (tgt := 43) hx hb dX8_best_39 (by decide) ?_
          cases h
          exact K43 _ _ _ hP hS (lv_sub hl [1, 2, 4, 5, 0] rfl)
  exact hL15 FU _ _ _ _ _ _ _ hv hP hS (lv_sub hl [3, 4, 2, 1, 0] rfl)
def f_X8_bestPace (a1 : Int32) (I : Nat → Nat → Int32) : Option (Int32 × (Nat → Nat → Int32)) :=
  (f_X8_isBird a1 I).bind fun r1 =>
  (show Option (Int32) from
    if r1 = 0 then
      some (1 : Int32)
    else
      if (I 130 ((150 : Int32).toNatClampNeg)) = (1 : Int32) then
        some (0 : Int32)
      else
        some (2 : Int32)).bind fun p3 =>
  (f_X8_refused p3 I).bind fun (r5, I4) =>
  if r5 = 0 then
    (f_X8_best a1 I4).bind fun (r8, I7) =>
    some (r8, I7)
  else
    some ((0 : Int32), I4)
set_option maxHeartbeats 8000000 in
set_option maxRecDepth 100000 in
theorem c_X8_bestPace {l : Launch} {dC : Nat → ClassId} {dI : Nat → Nat → Nat} {ca : Nat → ClassId} {b : Nat → Nat} {A : Nat → Prop} {N : Nat} (hN : 138 ≤ N) (hA : gAd A b N) (I : Nat → Nat → Int32) (O : Nat → Nat → Option Nat) (J : Nat → Nat → Int64) (a1 : Int32) (res : Int32 × (Nat → Nat → Int32)) (h : f_X8_bestPace a1 I = some res) : Met l yX8_bestPace wsX8_bestPace ({ frames := 10, cells := 0, slots := 0, locals := 246 } : Room) (va_Pc [.ref (b 129), .int a1] (gPre dC dI ca b A N I O J)) (va_Qi (fun (r : Int32) (u : Nat → Nat → Int32) => res = (r, u)) (fun (u : Nat → Nat → Int32) t => va_P (dC, dI) vwCl (hW N ca b u O J) t.heap) A) 0 0 A := by
  refine Met.ofW (cc := cX8_bestPace) (maxL := 2) (ret := (some .int)) (by decide) rfl ?_
  intro p e s m args below meth c s₁ B hml hv
  obtain ⟨rfl, hP, hK, hA2, hth⟩ := hv
  have hx := B.exec
  have hb := B.bytes
  have hr := B.returns
  have hlk := B.notSynchronized
  have X : gCx p s m ([.ref (b 129), .int a1] : List Value).toArray c RX8 cX8_bestPace wsX8_bestPace 2 dC dI ca b A N := ⟨hx, hb, hml, findClass_of_methodNamed B.named, atoms_spec (ws := wsX8_bestPace) B.pre, hK, hA, hA2, hth⟩
  have hi8 : ∀ w ∈ wsX80, w ∈ wsX8_bestPace := (fun w h => List.mem_cons_of_mem _ (List.mem_append_right _ h))
  have hS : va_S A s.heap s.heap [] := va_S.rf
  have hl := lv_entry ([.ref (b 129), .int a1] : List Value) (n := 2) (Nat.le_of_ble_eq_true rfl)
  rw [lg_entry_eq]
  generalize (lg_sl ([.ref (b 129), .int a1] : List Value) ++ List.replicate (2 - (lg_sl ([.ref (b 129), .int a1] : List Value)).length) Slot.unset).toArray = ls at hl ⊢
  have hl : lv_has ls 2 [(0, .ref (b 129)), (1, .int a1)] := hl
  unfold f_X8_bestPace at h
  refine lv_aload_n hx hb dX8_bestPace_0 rfl (lv_at hl 0 rfl) ?_
  refine lv_aload_n hx hb dX8_bestPace_1 rfl (lv_at hl 0 rfl) ?_
  refine lv_iload_n hx hb dX8_bestPace_2 rfl (lv_at hl 1 rfl) ?_
  obtain ⟨q2, hcq2, h⟩ := hb_some h
  refine gdV_i (As := [.int a1]) (rest := [.ref (b 129)]) (BH := (fun (u : Unit) H => va_P (dC, dI) vwCl (hW N ca b I O J) H)) X hP hS (c_X8_isBird hN hA I O J a1 q2 hcq2) (cwV 1 X.ts gX8_bestPace_X8_isBird rfl rfl rfl (by decide +kernel) ⟨Nat.le_of_ble_eq_true rfl, Nat.le_of_ble_eq_true rfl⟩) (gr8 X hP kc_129 (sk_in hN kc_129 (by decide))) rfl hl.1 rfl (Nat.le_of_ble_eq_true rfl) dX8_bestPace_3 ⟨Nat.le_of_ble_eq_true rfl, Nat.le_of_ble_eq_true rfl⟩ (fun r1 u9 H locs hw hP hS => ?_)
  have hw := hw.symm
  subst hw
  obtain ⟨p3, hv, h⟩ := hb_some h
  have K30 : ∀ (H : Heap) (locs : List Loc) (ls : Array Slot), va_P (dC, dI) vwCl (hW N ca b I O J) H → va_S A s.heap H locs → lv_has ls 2 [(0, .ref (b 129)), (1, .int a1)] → W p l e (headSpec wsX8_bestPace ({ frames := 10, cells := 0, slots := 0, locals := 246 } : Room)).room s m ([.ref (b 129), .int a1] : List Value).toArray below meth c H locs 0 0 (MQ below (va_Qi (fun (r : Int32) (u : Nat → Nat → Int32) => res = (r, u)) (fun (u : Nat → Nat → Int32) t => va_P (dC, dI) vwCl (hW N ca b u O J) t.heap) A) ([.ref (b 129), .int a1] : List Value).toArray s 0 0 A) (F0 m 30 ls [.int p3, .ref (b 129)]) := by
    intro H locs ls hP hS hl
    obtain ⟨q6, hcq6, h⟩ := hb_some h
    refine gdV_i (As := [.int p3]) (rest := []) (BH := (fun (u : Nat → Nat → Int32) H => va_P (dC, dI) vwCl (hW N ca b u O J) H)) X hP hS (c_X8_refused hN hA I O J p3 q6 hcq6) (cwV 1 X.ts gX8_bestPace_X8_refused rfl rfl rfl (by decide +kernel) ⟨Nat.le_of_ble_eq_true rfl, Nat.le_of_ble_eq_true rfl⟩) (gr8 X hP kc_129 (sk_in hN kc_129 (by decide))) rfl hl.1 rfl (Nat.le_of_ble_eq_true rfl) dX8_bestPace_30 ⟨Nat.le_of_ble_eq_true rfl, Nat.le_of_ble_eq_true rfl⟩ (fun r5 I4 H locs hw hP hS => ?_)
    subst hw
    refine lv_if_eq (tgt := 40) hx hb dX8_bestPace_33 (by decide) (fun c10 => ?_) (fun c10 => ?_)
    · have h := gif_t c10 h
      refine lv_aload_n hx hb dX8_bestPace_40 rfl (lv_at hl 0 rfl) ?_
      refine lv_iload_n hx hb dX8_bestPace_41 rfl (lv_at hl 1 rfl) ?_
      obtain ⟨q9, hcq9, h⟩ := hb_some h
      refine gdV_i (As := [.int a1]) (rest := []) (BH := (fun (u : Nat → Nat → Int32) H => va_P (dC, dI) vwCl (hW N ca b u O J) H)) X hP hS (c_X8_best hN hA I4 O J a1 q9 hcq9) (cwV 1 X.ts gX8_bestPace_X8_best rfl rfl rfl (by decide +kernel) ⟨Nat.le_of_ble_eq_true rfl, Nat.le_of_ble_eq_true rfl⟩) (gr8 X hP kc_129 (sk_in hN kc_129 (by decide))) rfl hl.1 rfl (Nat.le_of_ble_eq_true rfl) dX8_bestPace_42 ⟨Nat.le_of_ble_eq_true rfl, Nat.le_of_ble_eq_true rfl⟩ (fun r8 I7 H locs hw hP hS => ?_)
      subst hw
      exact W.iret hx hb hr (fun t9 ht hW => ⟨⟨r8, I7, rfl, (Option.some.inj h).symm, gEnd ht hP⟩, hS.F ht⟩) hS.2.2 dX8_bestPace_45 hlk
    · have h := gif_f c10 h
      refine lv_iconst (v := 0) hx hb dX8_bestPace_36 (by decide) ?_
      refine lv_goto (tgt := 45) hx hb dX8_bestPace_37 (by decide) ?_
      exact W.iret hx hb hr (fun t9 ht hW => ⟨⟨(0 : Int32), I4, rfl, (Option.some.inj h).symm, gEnd ht hP⟩, hS.F ht⟩) hS.2.2 dX8_bestPace_45 hlk
  have h := hv
  refine lv_if_ne (tgt := 13) hx hb dX8_bestPace_6 (by decide) (fun c12 => ?_) (fun c12 => ?_)
  · have h := gif_f c12 h
    refine lv_aload_n hx hb dX8_bestPace_13 rfl (lv_at hl 0 rfl) ?_
    refine gg8_0 X hP kc_129 (sk_in hN kc_129 (by decide)) hi8 (List.mem_of_getElem? (i := 1) rfl) dX8_bestPace_14 ?_
    refine lv_sipush (v := 150) hx hb dX8_bestPace_17 (by decide) ?_
    refine ga20 X hP kc_130 (sk_in hN kc_130 (by decide)) (L := 151) (by decide) (by decide) dX8_bestPace_20 ?_
    refine lv_iconst (v := 1) hx hb dX8_bestPace_21 (by decide) ?_
    refine lv_icmp_ne (tgt := 29) hx hb dX8_bestPace_22 (by decide) (fun c11 => ?_) (fun c11 => ?_)
    · have h := gif_f c11 h
      refine lv_iconst (v := 2) hx hb dX8_bestPace_29 (by decide) ?_
      cases h
      exact K30 _ _ _ hP hS (lv_sub hl [0, 1] rfl)
    · have h := gif_t c11 h
      refine lv_iconst (v := 0) hx hb dX8_bestPace_25 (by decide) ?_
      refine lv_goto (tgt := 30) hx hb dX8_bestPace_26 (by decide) ?_
      cases h
      exact K30 _ _ _ hP hS (lv_sub hl [0, 1] rfl)
  · have h := gif_t c12 h
    refine lv_iconst (v := 1) hx hb dX8_bestPace_9 (by decide) ?_
    refine lv_goto (tgt := 30) hx hb dX8_bestPace_10 (by decide) ?_
    cases h
    exact K30 _ _ _ hP hS (lv_sub hl [0, 1] rfl)
def f_X8_isRacing (I : Nat → Nat → Int32) : Option (Int32 × (Nat → Nat → Int32)) :=
  (f_X8_told (I 130 ((150 : Int32).toNatClampNeg)) I).bind fun (r2, I1) =>
  if r2 = (1 : Int32) then
    some ((1 : Int32), I1)
  else
    some ((0 : Int32), I1)
set_option maxHeartbeats 8000000 in
set_option maxRecDepth 100000 in
theorem c_X8_isRacing {l : Launch} {dC : Nat → ClassId} {dI : Nat → Nat → Nat} {ca : Nat → ClassId} {b : Nat → Nat} {A : Nat → Prop} {N : Nat} (hN : 138 ≤ N) (hA : gAd A b N) (I : Nat → Nat → Int32) (O : Nat → Nat → Option Nat) (J : Nat → Nat → Int64) (res : Int32 × (Nat → Nat → Int32)) (h : f_X8_isRacing I = some res) : Met l yX8_isRacing wsX8_isRacing ({ frames := 1, cells := 0, slots := 0, locals := 21 } : Room) (va_Pc [.ref (b 129)] (gPre dC dI ca b A N I O J)) (va_Qi (fun (r : Int32) (u : Nat → Nat → Int32) => res = (r, u)) (fun (u : Nat → Nat → Int32) t => va_P (dC, dI) vwCl (hW N ca b u O J) t.heap) A) 0 0 A := by
  refine Met.ofW (cc := cX8_isRacing) (maxL := 1) (ret := (some .boolean)) (by decide) rfl ?_
  intro p e s m args below meth c s₁ B hml hv
  obtain ⟨rfl, hP, hK, hA2, hth⟩ := hv
  have hx := B.exec
  have hb := B.bytes
  have hr := B.returns
  have hlk := B.notSynchronized
  have X : gCx p s m ([.ref (b 129)] : List Value).toArray c RX8 cX8_isRacing wsX8_isRacing 1 dC dI ca b A N := ⟨hx, hb, hml, findClass_of_methodNamed B.named, atoms_spec (ws := wsX8_isRacing) B.pre, hK, hA, hA2, hth⟩
  have hi8 : ∀ w ∈ wsX80, w ∈ wsX8_isRacing := (fun w h => List.mem_cons_of_mem _ (List.mem_append_right _ h))
  have hS : va_S A s.heap s.heap [] := va_S.rf
  have hl := lv_entry ([.ref (b 129)] : List Value) (n := 1) (Nat.le_of_ble_eq_true rfl)
  rw [lg_entry_eq]
  generalize (lg_sl ([.ref (b 129)] : List Value) ++ List.replicate (1 - (lg_sl ([.ref (b 129)] : List Value)).length) Slot.unset).toArray = ls at hl ⊢
  have hl : lv_has ls 1 [(0, .ref (b 129))] := hl
  unfold f_X8_isRacing at h
  refine lv_aload_n hx hb dX8_isRacing_0 rfl (lv_at hl 0 rfl) ?_
  refine lv_aload_n hx hb dX8_isRacing_1 rfl (lv_at hl 0 rfl) ?_
  refine gg8_0 X hP kc_129 (sk_in hN kc_129 (by decide)) hi8 (List.mem_of_getElem? (i := 1) rfl) dX8_isRacing_2 ?_
  refine lv_sipush (v := 150) hx hb dX8_isRacing_5 (by decide) ?_
  refine ga20 X hP kc_130 (sk_in hN kc_130 (by decide)) (L := 151) (by decide) (by decide) dX8_isRacing_8 ?_
  obtain ⟨q3, hcq3, h⟩ := hb_some h
  refine gdV_i (As := [.int (I 130 ((150 : Int32).toNatClampNeg))]) (rest := []) (BH := (fun (u : Nat → Nat → Int32) H => va_P (dC, dI) vwCl (hW N ca b u O J) H)) X hP hS (c_X8_told hN hA I O J (I 130 ((150 : Int32).toNatClampNeg)) q3 hcq3) (cwV 1 X.ts gX8_isRacing_X8_told rfl rfl rfl (by decide +kernel) ⟨Nat.le_of_ble_eq_true rfl, Nat.le_of_ble_eq_true rfl⟩) (gr8 X hP kc_129 (sk_in hN kc_129 (by decide))) rfl hl.1 rfl (Nat.le_of_ble_eq_true rfl) dX8_isRacing_9 ⟨Nat.le_of_ble_eq_true rfl, Nat.le_of_ble_eq_true rfl⟩ (fun r2 I1 H locs hw hP hS => ?_)
  subst hw
  refine lv_iconst (v := 1) hx hb dX8_isRacing_12 (by decide) ?_
  refine lv_icmp_ne (tgt := 20) hx hb dX8_isRacing_13 (by decide) (fun c4 => ?_) (fun c4 => ?_)
  · have h := gif_f c4 h
    refine lv_iconst (v := 0) hx hb dX8_isRacing_20 (by decide) ?_
    exact W.zret (ty := .boolean) hx hb hr (by decide) (fun t9 ht hW => ⟨⟨(0 : Int32), I1, rfl, (Option.some.inj h).symm, gEnd ht hP⟩, hS.F ht⟩) hS.2.2 dX8_isRacing_21 hlk
  · have h := gif_t c4 h
    refine lv_iconst (v := 1) hx hb dX8_isRacing_16 (by decide) ?_
    refine lv_goto (tgt := 21) hx hb dX8_isRacing_17 (by decide) ?_
    exact W.zret (ty := .boolean) hx hb hr (by decide) (fun t9 ht hW => ⟨⟨(1 : Int32), I1, rfl, (Option.some.inj h).symm, gEnd ht hP⟩, hS.F ht⟩) hS.2.2 dX8_isRacing_21 hlk
def f_X8_seconds (I : Nat → Nat → Int32) : Option (Int32 × (Nat → Nat → Int32)) :=
  (f_X8_told (I 130 ((134 : Int32).toNatClampNeg)) I).bind fun (r2, I1) =>
  some (r2, I1)
set_option maxHeartbeats 8000000 in
set_option maxRecDepth 100000 in
theorem c_X8_seconds {l : Launch} {dC : Nat → ClassId} {dI : Nat → Nat → Nat} {ca : Nat → ClassId} {b : Nat → Nat} {A : Nat → Prop} {N : Nat} (hN : 138 ≤ N) (hA : gAd A b N) (I : Nat → Nat → Int32) (O : Nat → Nat → Option Nat) (J : Nat → Nat → Int64) (res : Int32 × (Nat → Nat → Int32)) (h : f_X8_seconds I = some res) : Met l yX8_seconds wsX8_seconds ({ frames := 1, cells := 0, slots := 0, locals := 21 } : Room) (va_Pc [.ref (b 129)] (gPre dC dI ca b A N I O J)) (va_Qi (fun (r : Int32) (u : Nat → Nat → Int32) => res = (r, u)) (fun (u : Nat → Nat → Int32) t => va_P (dC, dI) vwCl (hW N ca b u O J) t.heap) A) 0 0 A := by
  refine Met.ofW (cc := cX8_seconds) (maxL := 1) (ret := (some .int)) (by decide) rfl ?_
  intro p e s m args below meth c s₁ B hml hv
  obtain ⟨rfl, hP, hK, hA2, hth⟩ := hv
  have hx := B.exec
  have hb := B.bytes
  have hr := B.returns
  have hlk := B.notSynchronized
  have X : gCx p s m ([.ref (b 129)] : List Value).toArray c RX8 cX8_seconds wsX8_seconds 1 dC dI ca b A N := ⟨hx, hb, hml, findClass_of_methodNamed B.named, atoms_spec (ws := wsX8_seconds) B.pre, hK, hA, hA2, hth⟩
  have hi8 : ∀ w ∈ wsX80, w ∈ wsX8_seconds := (fun w h => List.mem_cons_of_mem _ (List.mem_append_right _ h))
  have hS : va_S A s.heap s.heap [] := va_S.rf
  have hl := lv_entry ([.ref (b 129)] : List Value) (n := 1) (Nat.le_of_ble_eq_true rfl)
  rw [lg_entry_eq]
  generalize (lg_sl ([.ref (b 129)] : List Value) ++ List.replicate (1 - (lg_sl ([.ref (b 129)] : List Value)).length) Slot.unset).toArray = ls at hl ⊢
  have hl : lv_has ls 1 [(0, .ref (b 129))] := hl
  unfold f_X8_seconds at h
  refine lv_aload_n hx hb dX8_seconds_0 rfl (lv_at hl 0 rfl) ?_
  refine lv_aload_n hx hb dX8_seconds_1 rfl (lv_at hl 0 rfl) ?_
  refine gg8_0 X hP kc_129 (sk_in hN kc_129 (by decide)) hi8 (List.mem_of_getElem? (i := 1) rfl) dX8_seconds_2 ?_
  refine lv_sipush (v := 134) hx hb dX8_seconds_5 (by decide) ?_
  refine ga20 X hP kc_130 (sk_in hN kc_130 (by decide)) (L := 151) (by decide) (by decide) dX8_seconds_8 ?_
  obtain ⟨q3, hcq3, h⟩ := hb_some h
  refine gdV_i (As := [.int (I 130 ((134 : Int32).toNatClampNeg))]) (rest := []) (BH := (fun (u : Nat → Nat → Int32) H => va_P (dC, dI) vwCl (hW N ca b u O J) H)) X hP hS (c_X8_told hN hA I O J (I 130 ((134 : Int32).toNatClampNeg)) q3 hcq3) (cwV 1 X.ts gX8_seconds_X8_told rfl rfl rfl (by decide +kernel) ⟨Nat.le_of_ble_eq_true rfl, Nat.le_of_ble_eq_true rfl⟩) (gr8 X hP kc_129 (sk_in hN kc_129 (by decide))) rfl hl.1 rfl (Nat.le_of_ble_eq_true rfl) dX8_seconds_9 ⟨Nat.le_of_ble_eq_true rfl, Nat.le_of_ble_eq_true rfl⟩ (fun r2 I1 H locs hw hP hS => ?_)
  subst hw
  exact W.iret hx hb hr (fun t9 ht hW => ⟨⟨r2, I1, rfl, (Option.some.inj h).symm, gEnd ht hP⟩, hS.F ht⟩) hS.2.2 dX8_seconds_12 hlk
def f_X8_arrived (I : Nat → Nat → Int32) : Option (Int32 × (Nat → Nat → Int32)) :=
  (f_X8_told (I 130 ((135 : Int32).toNatClampNeg)) I).bind fun (r2, I1) =>
  some (r2, I1)
set_option maxHeartbeats 8000000 in
set_option maxRecDepth 100000 in
theorem c_X8_arrived {l : Launch} {dC : Nat → ClassId} {dI : Nat → Nat → Nat} {ca : Nat → ClassId} {b : Nat → Nat} {A : Nat → Prop} {N : Nat} (hN : 138 ≤ N) (hA : gAd A b N) (I : Nat → Nat → Int32) (O : Nat → Nat → Option Nat) (J : Nat → Nat → Int64) (res : Int32 × (Nat → Nat → Int32)) (h : f_X8_arrived I = some res) : Met l yX8_arrived wsX8_arrived ({ frames := 1, cells := 0, slots := 0, locals := 21 } : Room) (va_Pc [.ref (b 129)] (gPre dC dI ca b A N I O J)) (va_Qi (fun (r : Int32) (u : Nat → Nat → Int32) => res = (r, u)) (fun (u : Nat → Nat → Int32) t => va_P (dC, dI) vwCl (hW N ca b u O J) t.heap) A) 0 0 A := by
  refine Met.ofW (cc := cX8_arrived) (maxL := 1) (ret := (some .int)) (by decide) rfl ?_
  intro p e s m args below meth c s₁ B hml hv
  obtain ⟨rfl, hP, hK, hA2, hth⟩ := hv
  have hx := B.exec
  have hb := B.bytes
  have hr := B.returns
  have hlk := B.notSynchronized
  have X : gCx p s m ([.ref (b 129)] : List Value).toArray c RX8 cX8_arrived wsX8_arrived 1 dC dI ca b A N := ⟨hx, hb, hml, findClass_of_methodNamed B.named, atoms_spec (ws := wsX8_arrived) B.pre, hK, hA, hA2, hth⟩
  have hi8 : ∀ w ∈ wsX80, w ∈ wsX8_arrived := (fun w h => List.mem_cons_of_mem _ (List.mem_append_right _ h))
  have hS : va_S A s.heap s.heap [] := va_S.rf
  have hl := lv_entry ([.ref (b 129)] : List Value) (n := 1) (Nat.le_of_ble_eq_true rfl)
  rw [lg_entry_eq]
  generalize (lg_sl ([.ref (b 129)] : List Value) ++ List.replicate (1 - (lg_sl ([.ref (b 129)] : List Value)).length) Slot.unset).toArray = ls at hl ⊢
  have hl : lv_has ls 1 [(0, .ref (b 129))] := hl
  unfold f_X8_arrived at h
  refine lv_aload_n hx hb dX8_arrived_0 rfl (lv_at hl 0 rfl) ?_
  refine lv_aload_n hx hb dX8_arrived_1 rfl (lv_at hl 0 rfl) ?_
  refine gg8_0 X hP kc_129 (sk_in hN kc_129 (by decide)) hi8 (List.mem_of_getElem? (i := 1) rfl) dX8_arrived_2 ?_
  refine lv_sipush (v := 135) hx hb dX8_arrived_5 (by decide) ?_
  refine ga20 X hP kc_130 (sk_in hN kc_130 (by decide)) (L := 151) (by decide) (by decide) dX8_arrived_8 ?_
  obtain ⟨q3, hcq3, h⟩ := hb_some h
  refine gdV_i (As := [.int (I 130 ((135 : Int32).toNatClampNeg))]) (rest := []) (BH := (fun (u : Nat → Nat → Int32) H => va_P (dC, dI) vwCl (hW N ca b u O J) H)) X hP hS (c_X8_told hN hA I O J (I 130 ((135 : Int32).toNatClampNeg)) q3 hcq3) (cwV 1 X.ts gX8_arrived_X8_told rfl rfl rfl (by decide +kernel) ⟨Nat.le_of_ble_eq_true rfl, Nat.le_of_ble_eq_true rfl⟩) (gr8 X hP kc_129 (sk_in hN kc_129 (by decide))) rfl hl.1 rfl (Nat.le_of_ble_eq_true rfl) dX8_arrived_9 ⟨Nat.le_of_ble_eq_true rfl, Nat.le_of_ble_eq_true rfl⟩ (fun r2 I1 H locs hw hP hS => ?_)
  subst hw
  exact W.iret hx hb hr (fun t9 ht hW => ⟨⟨r2, I1, rfl, (Option.some.inj h).symm, gEnd ht hP⟩, hS.F ht⟩) hS.2.2 dX8_arrived_12 hlk
def f_X8_arrivedAt (a1 : Int32) (I : Nat → Nat → Int32) : Option (Int32 × (Nat → Nat → Int32)) :=
  (f_X8_in a1 (0 : Int32) ((I 130 ((135 : Int32).toNatClampNeg)) - (1 : Int32))).bind fun r1 =>
  (show Option (Int32) from
    if r1 = 0 then
      some (1 : Int32)
    else
      some (0 : Int32)).bind fun p3 =>
  (f_X8_refused p3 I).bind fun (r5, I4) =>
  if r5 = 0 then
    hg (gin ((136 : Int32) + a1) 151) <|
    some ((I4 130 (((136 : Int32) + a1).toNatClampNeg)), I4)
  else
    some ((0 : Int32), I4)
set_option maxHeartbeats 8000000 in
set_option maxRecDepth 100000 in
theorem c_X8_arrivedAt {l : Launch} {dC : Nat → ClassId} {dI : Nat → Nat → Nat} {ca : Nat → ClassId} {b : Nat → Nat} {A : Nat → Prop} {N : Nat} (hN : 138 ≤ N) (hA : gAd A b N) (I : Nat → Nat → Int32) (O : Nat → Nat → Option Nat) (J : Nat → Nat → Int64) (a1 : Int32) (res : Int32 × (Nat → Nat → Int32)) (h : f_X8_arrivedAt a1 I = some res) : Met l yX8_arrivedAt wsX8_arrivedAt ({ frames := 1, cells := 0, slots := 0, locals := 22 } : Room) (va_Pc [.ref (b 129), .int a1] (gPre dC dI ca b A N I O J)) (va_Qi (fun (r : Int32) (u : Nat → Nat → Int32) => res = (r, u)) (fun (u : Nat → Nat → Int32) t => va_P (dC, dI) vwCl (hW N ca b u O J) t.heap) A) 0 0 A := by
  refine Met.ofW (cc := cX8_arrivedAt) (maxL := 2) (ret := (some .int)) (by decide) rfl ?_
  intro p e s m args below meth c s₁ B hml hv
  obtain ⟨rfl, hP, hK, hA2, hth⟩ := hv
  have hx := B.exec
  have hb := B.bytes
  have hr := B.returns
  have hlk := B.notSynchronized
  have X : gCx p s m ([.ref (b 129), .int a1] : List Value).toArray c RX8 cX8_arrivedAt wsX8_arrivedAt 2 dC dI ca b A N := ⟨hx, hb, hml, findClass_of_methodNamed B.named, atoms_spec (ws := wsX8_arrivedAt) B.pre, hK, hA, hA2, hth⟩
  have hi8 : ∀ w ∈ wsX80, w ∈ wsX8_arrivedAt := (fun w h => List.mem_cons_of_mem _ (List.mem_append_right _ h))
  have hS : va_S A s.heap s.heap [] := va_S.rf
  have hl := lv_entry ([.ref (b 129), .int a1] : List Value) (n := 2) (Nat.le_of_ble_eq_true rfl)
  rw [lg_entry_eq]
  generalize (lg_sl ([.ref (b 129), .int a1] : List Value) ++ List.replicate (2 - (lg_sl ([.ref (b 129), .int a1] : List Value)).length) Slot.unset).toArray = ls at hl ⊢
  have hl : lv_has ls 2 [(0, .ref (b 129)), (1, .int a1)] := hl
  unfold f_X8_arrivedAt at h
  refine lv_aload_n hx hb dX8_arrivedAt_0 rfl (lv_at hl 0 rfl) ?_
  refine lv_iload_n hx hb dX8_arrivedAt_1 rfl (lv_at hl 1 rfl) ?_
  refine lv_iconst (v := 0) hx hb dX8_arrivedAt_2 (by decide) ?_
  refine lv_aload_n hx hb dX8_arrivedAt_3 rfl (lv_at hl 0 rfl) ?_
  refine gg8_0 X hP kc_129 (sk_in hN kc_129 (by decide)) hi8 (List.mem_of_getElem? (i := 1) rfl) dX8_arrivedAt_4 ?_
  refine lv_sipush (v := 135) hx hb dX8_arrivedAt_7 (by decide) ?_
  refine ga20 X hP kc_130 (sk_in hN kc_130 (by decide)) (L := 151) (by decide) (by decide) dX8_arrivedAt_10 ?_
  refine lv_iconst (v := 1) hx hb dX8_arrivedAt_11 (by decide) ?_
  refine lv_isub hx hb dX8_arrivedAt_12 ?_
  obtain ⟨q2, hcq2, h⟩ := hb_some h
  refine gdS_i (As := [.int a1, .int (0 : Int32), .int ((I 130 ((135 : Int32).toNatClampNeg)) - (1 : Int32))]) (rest := [.ref (b 129)]) (BH := (fun (u : Unit) H => va_P (dC, dI) vwCl (hW N ca b I O J) H)) X hP hS (c_X8_in hN hA I O J a1 (0 : Int32) ((I 130 ((135 : Int32).toNatClampNeg)) - (1 : Int32)) q2 hcq2) (va_cwS 3 X.ts gX8_arrivedAt_X8_in rfl rfl rfl (by decide +kernel) ⟨Nat.le_of_ble_eq_true rfl, Nat.le_of_ble_eq_true rfl⟩) rfl hl.1 rfl (Nat.le_of_ble_eq_true rfl) dX8_arrivedAt_13 ⟨Nat.le_of_ble_eq_true rfl, Nat.le_of_ble_eq_true rfl⟩ (fun r1 u9 H locs hw hP hS => ?_)
  have hw := hw.symm
  subst hw
  obtain ⟨p3, hv, h⟩ := hb_some h
  have K24 : ∀ (H : Heap) (locs : List Loc) (ls : Array Slot), va_P (dC, dI) vwCl (hW N ca b I O J) H → va_S A s.heap H locs → lv_has ls 2 [(0, .ref (b 129)), (1, .int a1)] → W p l e (headSpec wsX8_arrivedAt ({ frames := 1, cells := 0, slots := 0, locals := 22 } : Room)).room s m ([.ref (b 129), .int a1] : List Value).toArray below meth c H locs 0 0 (MQ below (va_Qi (fun (r : Int32) (u : Nat → Nat → Int32) => res = (r, u)) (fun (u : Nat → Nat → Int32) t => va_P (dC, dI) vwCl (hW N ca b u O J) t.heap) A) ([.ref (b 129), .int a1] : List Value).toArray s 0 0 A) (F0 m 24 ls [.int p3, .ref (b 129)]) := by
    intro H locs ls hP hS hl
    obtain ⟨q6, hcq6, h⟩ := hb_some h
    refine gdV_i (As := [.int p3]) (rest := []) (BH := (fun (u : Nat → Nat → Int32) H => va_P (dC, dI) vwCl (hW N ca b u O J) H)) X hP hS (c_X8_refused hN hA I O J p3 q6 hcq6) (cwV 1 X.ts gX8_arrivedAt_X8_refused rfl rfl rfl (by decide +kernel) ⟨Nat.le_of_ble_eq_true rfl, Nat.le_of_ble_eq_true rfl⟩) (gr8 X hP kc_129 (sk_in hN kc_129 (by decide))) rfl hl.1 rfl (Nat.le_of_ble_eq_true rfl) dX8_arrivedAt_24 ⟨Nat.le_of_ble_eq_true rfl, Nat.le_of_ble_eq_true rfl⟩ (fun r5 I4 H locs hw hP hS => ?_)
    subst hw
    refine lv_if_eq (tgt := 34) hx hb dX8_arrivedAt_27 (by decide) (fun c8 => ?_) (fun c8 => ?_)
    · have h := gif_t c8 h
      refine lv_aload_n hx hb dX8_arrivedAt_34 rfl (lv_at hl 0 rfl) ?_
      refine gg8_0 X hP kc_129 (sk_in hN kc_129 (by decide)) hi8 (List.mem_of_getElem? (i := 1) rfl) dX8_arrivedAt_35 ?_
      refine lv_sipush (v := 136) hx hb dX8_arrivedAt_38 (by decide) ?_
      refine lv_iload_n hx hb dX8_arrivedAt_41 rfl (lv_at hl 1 rfl) ?_
      refine lv_iadd hx hb dX8_arrivedAt_42 ?_
      obtain ⟨hgi7, h⟩ := hg_some h
      refine ga20 X hP kc_130 (sk_in hN kc_130 (by decide)) (L := 151) (by decide) hgi7 dX8_arrivedAt_43 ?_
      exact W.iret hx hb hr (fun t9 ht hW => ⟨⟨(I4 130 (((136 : Int32) + a1).toNatClampNeg)), I4, rfl, (Option.some.inj h).symm, gEnd ht hP⟩, hS.F ht⟩) hS.2.2 dX8_arrivedAt_44 hlk
    · have h := gif_f c8 h
      refine lv_iconst (v := 0) hx hb dX8_arrivedAt_30 (by decide) ?_
      refine lv_goto (tgt := 44) hx hb dX8_arrivedAt_31 (by decide) ?_
      exact W.iret hx hb hr (fun t9 ht hW => ⟨⟨(0 : Int32), I4, rfl, (Option.some.inj h).symm, gEnd ht hP⟩, hS.F ht⟩) hS.2.2 dX8_arrivedAt_44 hlk
  have h := hv
  refine lv_if_eq (tgt := 23) hx hb dX8_arrivedAt_16 (by decide) (fun c9 => ?_) (fun c9 => ?_)
  · have h := gif_t c9 h
    refine lv_iconst (v := 1) hx hb dX8_arrivedAt_23 (by decide) ?_
    cases h
    exact K24 _ _ _ hP hS (lv_sub hl [0, 1] rfl)
  · have h := gif_f c9 h
    refine lv_iconst (v := 0) hx hb dX8_arrivedAt_19 (by decide) ?_
    refine lv_goto (tgt := 24) hx hb dX8_arrivedAt_20 (by decide) ?_
    cases h
    exact K24 _ _ _ hP hS (lv_sub hl [0, 1] rfl)
def f_X8_timeOf (a1 : Int32) (I : Nat → Nat → Int32) : Option (Int32 × (Nat → Nat → Int32)) :=
  (f_X8_isBird a1 I).bind fun r1 =>
  (show Option (Int32) from
    if r1 = 0 then
      some (1 : Int32)
    else
      (f_X8_isOver a1 I).bind fun r10 =>
      if r10 = 0 then
        some (2 : Int32)
      else
        some (0 : Int32)).bind fun p3 =>
  (f_X8_refused p3 I).bind fun (r5, I4) =>
  if r5 = 0 then
    (f_X8_of a1 (11 : Int32) I4).bind fun r7 =>
    some (r7, I4)
  else
    some ((0 : Int32), I4)
set_option maxHeartbeats 8000000 in
set_option maxRecDepth 100000 in
theorem c_X8_timeOf {l : Launch} {dC : Nat → ClassId} {dI : Nat → Nat → Nat} {ca : Nat → ClassId} {b : Nat → Nat} {A : Nat → Prop} {N : Nat} (hN : 138 ≤ N) (hA : gAd A b N) (I : Nat → Nat → Int32) (O : Nat → Nat → Option Nat) (J : Nat → Nat → Int64) (a1 : Int32) (res : Int32 × (Nat → Nat → Int32)) (h : f_X8_timeOf a1 I = some res) : Met l yX8_timeOf wsX8_timeOf ({ frames := 2, cells := 0, slots := 0, locals := 43 } : Room) (va_Pc [.ref (b 129), .int a1] (gPre dC dI ca b A N I O J)) (va_Qi (fun (r : Int32) (u : Nat → Nat → Int32) => res = (r, u)) (fun (u : Nat → Nat → Int32) t => va_P (dC, dI) vwCl (hW N ca b u O J) t.heap) A) 0 0 A := by
  refine Met.ofW (cc := cX8_timeOf) (maxL := 2) (ret := (some .int)) (by decide) rfl ?_
  intro p e s m args below meth c s₁ B hml hv
  obtain ⟨rfl, hP, hK, hA2, hth⟩ := hv
  have hx := B.exec
  have hb := B.bytes
  have hr := B.returns
  have hlk := B.notSynchronized
  have X : gCx p s m ([.ref (b 129), .int a1] : List Value).toArray c RX8 cX8_timeOf wsX8_timeOf 2 dC dI ca b A N := ⟨hx, hb, hml, findClass_of_methodNamed B.named, atoms_spec (ws := wsX8_timeOf) B.pre, hK, hA, hA2, hth⟩
  have hS : va_S A s.heap s.heap [] := va_S.rf
  have hl := lv_entry ([.ref (b 129), .int a1] : List Value) (n := 2) (Nat.le_of_ble_eq_true rfl)
  rw [lg_entry_eq]
  generalize (lg_sl ([.ref (b 129), .int a1] : List Value) ++ List.replicate (2 - (lg_sl ([.ref (b 129), .int a1] : List Value)).length) Slot.unset).toArray = ls at hl ⊢
  have hl : lv_has ls 2 [(0, .ref (b 129)), (1, .int a1)] := hl
  unfold f_X8_timeOf at h
  refine lv_aload_n hx hb dX8_timeOf_0 rfl (lv_at hl 0 rfl) ?_
  refine lv_aload_n hx hb dX8_timeOf_1 rfl (lv_at hl 0 rfl) ?_
  refine lv_iload_n hx hb dX8_timeOf_2 rfl (lv_at hl 1 rfl) ?_
  obtain ⟨q2, hcq2, h⟩ := hb_some h
  refine gdV_i (As := [.int a1]) (rest := [.ref (b 129)]) (BH := (fun (u : Unit) H => va_P (dC, dI) vwCl (hW N ca b I O J) H)) X hP hS (c_X8_isBird hN hA I O J a1 q2 hcq2) (cwV 1 X.ts gX8_timeOf_X8_isBird rfl rfl rfl (by decide +kernel) ⟨Nat.le_of_ble_eq_true rfl, Nat.le_of_ble_eq_true rfl⟩) (gr8 X hP kc_129 (sk_in hN kc_129 (by decide))) rfl hl.1 rfl (Nat.le_of_ble_eq_true rfl) dX8_timeOf_3 ⟨Nat.le_of_ble_eq_true rfl, Nat.le_of_ble_eq_true rfl⟩ (fun r1 u9 H locs hw hP hS => ?_)
  have hw := hw.symm
  subst hw
  obtain ⟨p3, hv, h⟩ := hb_some h
  have K26 : ∀ (H : Heap) (locs : List Loc) (ls : Array Slot), va_P (dC, dI) vwCl (hW N ca b I O J) H → va_S A s.heap H locs → lv_has ls 2 [(0, .ref (b 129)), (1, .int a1)] → W p l e (headSpec wsX8_timeOf ({ frames := 2, cells := 0, slots := 0, locals := 43 } : Room)).room s m ([.ref (b 129), .int a1] : List Value).toArray below meth c H locs 0 0 (MQ below (va_Qi (fun (r : Int32) (u : Nat → Nat → Int32) => res = (r, u)) (fun (u : Nat → Nat → Int32) t => va_P (dC, dI) vwCl (hW N ca b u O J) t.heap) A) ([.ref (b 129), .int a1] : List Value).toArray s 0 0 A) (F0 m 26 ls [.int p3, .ref (b 129)]) := by
    intro H locs ls hP hS hl
    obtain ⟨q6, hcq6, h⟩ := hb_some h
    refine gdV_i (As := [.int p3]) (rest := []) (BH := (fun (u : Nat → Nat → Int32) H => va_P (dC, dI) vwCl (hW N ca b u O J) H)) X hP hS (c_X8_refused hN hA I O J p3 q6 hcq6) (cwV 1 X.ts gX8_timeOf_X8_refused rfl rfl rfl (by decide +kernel) ⟨Nat.le_of_ble_eq_true rfl, Nat.le_of_ble_eq_true rfl⟩) (gr8 X hP kc_129 (sk_in hN kc_129 (by decide))) rfl hl.1 rfl (Nat.le_of_ble_eq_true rfl) dX8_timeOf_26 ⟨Nat.le_of_ble_eq_true rfl, Nat.le_of_ble_eq_true rfl⟩ (fun r5 I4 H locs hw hP hS => ?_)
    subst hw
    refine lv_if_eq (tgt := 36) hx hb dX8_timeOf_29 (by decide) (fun c9 => ?_) (fun c9 => ?_)
    · have h := gif_t c9 h
      refine lv_aload_n hx hb dX8_timeOf_36 rfl (lv_at hl 0 rfl) ?_
      refine lv_iload_n hx hb dX8_timeOf_37 rfl (lv_at hl 1 rfl) ?_
      refine lv_bipush (v := 11) hx hb dX8_timeOf_38 (by decide) ?_
      obtain ⟨q8, hcq8, h⟩ := hb_some h
      refine gdV_i (As := [.int a1, .int (11 : Int32)]) (rest := []) (BH := (fun (u : Unit) H => va_P (dC, dI) vwCl (hW N ca b I4 O J) H)) X hP hS (c_X8_of hN hA I4 O J a1 (11 : Int32) q8 hcq8) (cwV 2 X.ts gX8_timeOf_X8_of rfl rfl rfl (by decide +kernel) ⟨Nat.le_of_ble_eq_true rfl, Nat.le_of_ble_eq_true rfl⟩) (gr8 X hP kc_129 (sk_in hN kc_129 (by decide))) rfl hl.1 rfl (Nat.le_of_ble_eq_true rfl) dX8_timeOf_40 ⟨Nat.le_of_ble_eq_true rfl, Nat.le_of_ble_eq_true rfl⟩ (fun r7 u9 H locs hw hP hS => ?_)
      have hw := hw.symm
      subst hw
      exact W.iret hx hb hr (fun t9 ht hW => ⟨⟨r7, I4, rfl, (Option.some.inj h).symm, gEnd ht hP⟩, hS.F ht⟩) hS.2.2 dX8_timeOf_43 hlk
    · have h := gif_f c9 h
      refine lv_iconst (v := 0) hx hb dX8_timeOf_32 (by decide) ?_
      refine lv_goto (tgt := 43) hx hb dX8_timeOf_33 (by decide) ?_
      exact W.iret hx hb hr (fun t9 ht hW => ⟨⟨(0 : Int32), I4, rfl, (Option.some.inj h).symm, gEnd ht hP⟩, hS.F ht⟩) hS.2.2 dX8_timeOf_43 hlk
  have h := hv
  refine lv_if_ne (tgt := 13) hx hb dX8_timeOf_6 (by decide) (fun c13 => ?_) (fun c13 => ?_)
  · have h := gif_f c13 h
    refine lv_aload_n hx hb dX8_timeOf_13 rfl (lv_at hl 0 rfl) ?_
    refine lv_iload_n hx hb dX8_timeOf_14 rfl (lv_at hl 1 rfl) ?_
    obtain ⟨q11, hcq11, h⟩ := hb_some h
    refine gdV_i (As := [.int a1]) (rest := [.ref (b 129)]) (BH := (fun (u : Unit) H => va_P (dC, dI) vwCl (hW N ca b I O J) H)) X hP hS (c_X8_isOver hN hA I O J a1 q11 hcq11) (cwV 1 X.ts gX8_timeOf_X8_isOver rfl rfl rfl (by decide +kernel) ⟨Nat.le_of_ble_eq_true rfl, Nat.le_of_ble_eq_true rfl⟩) (gr8 X hP kc_129 (sk_in hN kc_129 (by decide))) rfl hl.1 rfl (Nat.le_of_ble_eq_true rfl) dX8_timeOf_15 ⟨Nat.le_of_ble_eq_true rfl, Nat.le_of_ble_eq_true rfl⟩ (fun r10 u9 H locs hw hP hS => ?_)
    have hw := hw.symm
    subst hw
    refine lv_if_eq (tgt := 25) hx hb dX8_timeOf_18 (by decide) (fun c12 => ?_) (fun c12 => ?_)
    · have h := gif_t c12 h
      refine lv_iconst (v := 2) hx hb dX8_timeOf_25 (by decide) ?_
      cases h
      exact K26 _ _ _ hP hS (lv_sub hl [0, 1] rfl)
    · have h := gif_f c12 h
      refine lv_iconst (v := 0) hx hb dX8_timeOf_21 (by decide) ?_
      refine lv_goto (tgt := 26) hx hb dX8_timeOf_22 (by decide) ?_
      cases h
      exact K26 _ _ _ hP hS (lv_sub hl [0, 1] rfl)
  · have h := gif_t c13 h
    refine lv_iconst (v := 1) hx hb dX8_timeOf_9 (by decide) ?_
    refine lv_goto (tgt := 26) hx hb dX8_timeOf_10 (by decide) ?_
    cases h
    exact K26 _ _ _ hP hS (lv_sub hl [0, 1] rfl)
def f_X8_all_L4 (I : Nat → Nat → Int32) : Nat → Int32 → Int32 → Option (Int32)
  | 0, _, _ => none
  | fuel + 1, p1, p2 =>
    if (I 130 ((128 : Int32).toNatClampNeg)) ≤ p2 then
      some p1
    else
      (f_X8_of p2 (7 : Int32) I).bind fun r4 =>
      hlet (p2 + 1) fun x6 =>
      f_X8_all_L4 I fuel (p1 + r4) x6
def f_X8_all (I : Nat → Nat → Int32) : Option (Int32) :=
  (f_X8_all_L4 I FU (0 : Int32) (0 : Int32)).bind fun p3 =>
  some p3
set_option maxHeartbeats 8000000 in
set_option maxRecDepth 100000 in
theorem c_X8_all {l : Launch} {dC : Nat → ClassId} {dI : Nat → Nat → Nat} {ca : Nat → ClassId} {b : Nat → Nat} {A : Nat → Prop} {N : Nat} (hN : 138 ≤ N) (hA : gAd A b N) (I : Nat → Nat → Int32) (O : Nat → Nat → Option Nat) (J : Nat → Nat → Int64) (res : Int32) (h : f_X8_all I = some res) : Met l yX8_all wsX8_all ({ frames := 1, cells := 0, slots := 0, locals := 22 } : Room) (va_Pc [.ref (b 129)] (gPre dC dI ca b A N I O J)) (va_Qi (fun (r : Int32) (u : Unit) => res = r) (fun (u : Unit) t => va_P (dC, dI) vwCl (hW N ca b I O J) t.heap) A) 0 0 A := by
  refine Met.ofW (cc := cX8_all) (maxL := 3) (ret := (some .int)) (by decide) rfl ?_
  intro p e s m args below meth c s₁ B hml hv
  obtain ⟨rfl, hP, hK, hA2, hth⟩ := hv
  have hx := B.exec
  have hb := B.bytes
  have hr := B.returns
  have hlk := B.notSynchronized
  have X : gCx p s m ([.ref (b 129)] : List Value).toArray c RX8 cX8_all wsX8_all 3 dC dI ca b A N := ⟨hx, hb, hml, findClass_of_methodNamed B.named, atoms_spec (ws := wsX8_all) B.pre, hK, hA, hA2, hth⟩
  have hi8 : ∀ w ∈ wsX80, w ∈ wsX8_all := (fun w h => List.mem_cons_of_mem _ (List.mem_append_right _ h))
  have hS : va_S A s.heap s.heap [] := va_S.rf
  have hl := lv_entry ([.ref (b 129)] : List Value) (n := 3) (Nat.le_of_ble_eq_true rfl)
  rw [lg_entry_eq]
  generalize (lg_sl ([.ref (b 129)] : List Value) ++ List.replicate (3 - (lg_sl ([.ref (b 129)] : List Value)).length) Slot.unset).toArray = ls at hl ⊢
  have hl : lv_has ls 3 [(0, .ref (b 129))] := hl
  unfold f_X8_all at h
  refine lv_iconst (v := 0) hx hb dX8_all_0 (by decide) ?_
  refine lv_istore_n (lv' := [(1, .int (0 : Int32)), (0, .ref (b 129))]) hx hb dX8_all_1 rfl hl (by decide) rfl (fun ls hl => ?_)
  refine lv_iconst (v := 0) hx hb dX8_all_2 (by decide) ?_
  refine lv_istore_n (lv' := [(2, .int (0 : Int32)), (1, .int (0 : Int32)), (0, .ref (b 129))]) hx hb dX8_all_3 rfl hl (by decide) rfl (fun ls hl => ?_)
  obtain ⟨p3, hv, h⟩ := hb_some h
  have K32 : ∀ (H : Heap) (locs : List Loc) (ls : Array Slot), va_P (dC, dI) vwCl (hW N ca b I O J) H → va_S A s.heap H locs → lv_has ls 3 [(1, .int p3)] → W p l e (headSpec wsX8_all ({ frames := 1, cells := 0, slots := 0, locals := 22 } : Room)).room s m ([.ref (b 129)] : List Value).toArray below meth c H locs 0 0 (MQ below (va_Qi (fun (r : Int32) (u : Unit) => res = r) (fun (u : Unit) t => va_P (dC, dI) vwCl (hW N ca b I O J) t.heap) A) ([.ref (b 129)] : List Value).toArray s 0 0 A) (F0 m 32 ls []) := by
    intro H locs ls hP hS hl
    refine lv_iload_n hx hb dX8_all_32 rfl (lv_at hl 0 rfl) ?_
    exact W.iret hx hb hr (fun t9 ht hW => ⟨⟨p3, (), rfl, (Option.some.inj h).symm, gEnd ht hP⟩, hS.F ht⟩) hS.2.2 dX8_all_33 hlk
  have hL4 : ∀ (fuel : Nat) (p1 : Int32) (p2 : Int32) (H : Heap) (locs : List Loc) (ls : Array Slot), f_X8_all_L4 I fuel p1 p2 = some p3 → va_P (dC, dI) vwCl (hW N ca b I O J) H → va_S A s.heap H locs → lv_has ls 3 [(0, .ref (b 129)), (1, .int p1), (2, .int p2)] → W p l e (headSpec wsX8_all ({ frames := 1, cells := 0, slots := 0, locals := 22 } : Room)).room s m ([.ref (b 129)] : List Value).toArray below meth c H locs 0 0 (MQ below (va_Qi (fun (r : Int32) (u : Unit) => res = r) (fun (u : Unit) t => va_P (dC, dI) vwCl (hW N ca b I O J) t.heap) A) ([.ref (b 129)] : List Value).toArray s 0 0 A) (F0 m 4 ls []) := by
    intro fuel
    induction fuel with
    | zero =>
      intro p1 p2 H locs ls h hP hS hl
      rw [f_X8_all_L4] at h
      cases h
    | succ fuel ih =>
      intro p1 p2 H locs ls h hP hS hl
      rw [f_X8_all_L4] at h
      refine lv_iload_n hx hb dX8_all_4 rfl (lv_at hl 2 rfl) ?_
      refine lv_aload_n hx hb dX8_all_5 rfl (lv_at hl 0 rfl) ?_
      refine gg8_0 X hP kc_129 (sk_in hN kc_129 (by decide)) hi8 (List.mem_of_getElem? (i := 1) rfl) dX8_all_6 ?_
      refine lv_sipush (v := 128) hx hb dX8_all_9 (by decide) ?_
      refine ga20 X hP kc_130 (sk_in hN kc_130 (by decide)) (L := 151) (by decide) (by decide) dX8_all_12 ?_
      refine lv_icmp_ge (tgt := 32) hx hb dX8_all_13 (by decide) (fun c7 => ?_) (fun c7 => ?_)
      · have h := gif_t c7 h
        cases h
        exact K32 _ _ _ hP hS (lv_sub hl [1] rfl)
      · have h := gif_f c7 h
        refine lv_iload_n hx hb dX8_all_16 rfl (lv_at hl 1 rfl) ?_
        refine lv_aload_n hx hb dX8_all_17 rfl (lv_at hl 0 rfl) ?_
        refine lv_iload_n hx hb dX8_all_18 rfl (lv_at hl 2 rfl) ?_
        refine lv_bipush (v := 7) hx hb dX8_all_19 (by decide) ?_
        obtain ⟨q5, hcq5, h⟩ := hb_some h
        refine gdV_i (As := [.int p2, .int (7 : Int32)]) (rest := [.int p1]) (BH := (fun (u : Unit) H => va_P (dC, dI) vwCl (hW N ca b I O J) H)) X hP hS (c_X8_of hN hA I O J p2 (7 : Int32) q5 hcq5) (cwV 2 X.ts gX8_all_X8_of rfl rfl rfl (by decide +kernel) ⟨Nat.le_of_ble_eq_true rfl, Nat.le_of_ble_eq_true rfl⟩) (gr8 X hP kc_129 (sk_in hN kc_129 (by decide))) rfl hl.1 rfl (Nat.le_of_ble_eq_true rfl) dX8_all_21 ⟨Nat.le_of_ble_eq_true rfl, Nat.le_of_ble_eq_true rfl⟩ (fun r4 u9 H locs hw hP hS => ?_)
        have hw := hw.symm
        subst hw
        refine lv_iadd hx hb dX8_all_24 ?_
        refine lv_istore_n (lv' := [(1, .int (p1 + r4)), (0, .ref (b 129)), (2, .int p2)]) hx hb dX8_all_25 rfl hl (by decide) rfl (fun ls hl => ?_)
        obtain ⟨x6, ex6, h⟩ := hlet_ex h
        refine lv_iinc (v := x6) (lv' := [(2, .int x6), (1, .int (p1 + r4)), (0, .ref (b 129))]) hx hb dX8_all_26 hl (k := 2) rfl (by rw [ex6]; rfl) (by decide) rfl (fun ls hl => ?_)
        refine lv_goto (tgt := 4) hx hb dX8_all_29 (by decide) ?_
        exact ih _ _ _ _ _ h hP hS (lv_sub hl [2, 1, 0] rfl)
  exact hL4 FU _ _ _ _ _ hv hP hS (lv_sub hl [2, 1, 0] rfl)
def f_X8_flownByBirds (I : Nat → Nat → Int32) : Option (Int32 × (Nat → Nat → Int32)) :=
  (f_X8_all I).bind fun r1 =>
  (f_X8_told r1 I).bind fun (r4, I3) =>
  some (r4, I3)
set_option maxHeartbeats 8000000 in
set_option maxRecDepth 100000 in
theorem c_X8_flownByBirds {l : Launch} {dC : Nat → ClassId} {dI : Nat → Nat → Nat} {ca : Nat → ClassId} {b : Nat → Nat} {A : Nat → Prop} {N : Nat} (hN : 138 ≤ N) (hA : gAd A b N) (I : Nat → Nat → Int32) (O : Nat → Nat → Option Nat) (J : Nat → Nat → Int64) (res : Int32 × (Nat → Nat → Int32)) (h : f_X8_flownByBirds I = some res) : Met l yX8_flownByBirds wsX8_flownByBirds ({ frames := 2, cells := 0, slots := 0, locals := 44 } : Room) (va_Pc [.ref (b 129)] (gPre dC dI ca b A N I O J)) (va_Qi (fun (r : Int32) (u : Nat → Nat → Int32) => res = (r, u)) (fun (u : Nat → Nat → Int32) t => va_P (dC, dI) vwCl (hW N ca b u O J) t.heap) A) 0 0 A := by
  refine Met.ofW (cc := cX8_flownByBirds) (maxL := 1) (ret := (some .int)) (by decide) rfl ?_
  intro p e s m args below meth c s₁ B hml hv
  obtain ⟨rfl, hP, hK, hA2, hth⟩ := hv
  have hx := B.exec
  have hb := B.bytes
  have hr := B.returns
  have hlk := B.notSynchronized
  have X : gCx p s m ([.ref (b 129)] : List Value).toArray c RX8 cX8_flownByBirds wsX8_flownByBirds 1 dC dI ca b A N := ⟨hx, hb, hml, findClass_of_methodNamed B.named, atoms_spec (ws := wsX8_flownByBirds) B.pre, hK, hA, hA2, hth⟩
  have hS : va_S A s.heap s.heap [] := va_S.rf
  have hl := lv_entry ([.ref (b 129)] : List Value) (n := 1) (Nat.le_of_ble_eq_true rfl)
  rw [lg_entry_eq]
  generalize (lg_sl ([.ref (b 129)] : List Value) ++ List.replicate (1 - (lg_sl ([.ref (b 129)] : List Value)).length) Slot.unset).toArray = ls at hl ⊢
  have hl : lv_has ls 1 [(0, .ref (b 129))] := hl
  unfold f_X8_flownByBirds at h
  refine lv_aload_n hx hb dX8_flownByBirds_0 rfl (lv_at hl 0 rfl) ?_
  refine lv_aload_n hx hb dX8_flownByBirds_1 rfl (lv_at hl 0 rfl) ?_
  obtain ⟨q2, hcq2, h⟩ := hb_some h
  refine gdV_i (As := []) (rest := [.ref (b 129)]) (BH := (fun (u : Unit) H => va_P (dC, dI) vwCl (hW N ca b I O J) H)) X hP hS (c_X8_all hN hA I O J q2 hcq2) (cwV 0 X.ts gX8_flownByBirds_X8_all rfl rfl rfl (by decide +kernel) ⟨Nat.le_of_ble_eq_true rfl, Nat.le_of_ble_eq_true rfl⟩) (gr8 X hP kc_129 (sk_in hN kc_129 (by decide))) rfl hl.1 rfl (Nat.le_of_ble_eq_true rfl) dX8_flownByBirds_2 ⟨Nat.le_of_ble_eq_true rfl, Nat.le_of_ble_eq_true rfl⟩ (fun r1 u9 H locs hw hP hS => ?_)
  have hw := hw.symm
  subst hw
  obtain ⟨q5, hcq5, h⟩ := hb_some h
  refine gdV_i (As := [.int r1]) (rest := []) (BH := (fun (u : Nat → Nat → Int32) H => va_P (dC, dI) vwCl (hW N ca b u O J) H)) X hP hS (c_X8_told hN hA I O J r1 q5 hcq5) (cwV 1 X.ts gX8_flownByBirds_X8_told rfl rfl rfl (by decide +kernel) ⟨Nat.le_of_ble_eq_true rfl, Nat.le_of_ble_eq_true rfl⟩) (gr8 X hP kc_129 (sk_in hN kc_129 (by decide))) rfl hl.1 rfl (Nat.le_of_ble_eq_true rfl) dX8_flownByBirds_5 ⟨Nat.le_of_ble_eq_true rfl, Nat.le_of_ble_eq_true rfl⟩ (fun r4 I3 H locs hw hP hS => ?_)
  subst hw
  exact W.iret hx hb hr (fun t9 ht hW => ⟨⟨r4, I3, rfl, (Option.some.inj h).symm, gEnd ht hP⟩, hS.F ht⟩) hS.2.2 dX8_flownByBirds_8 hlk
def f_X8_flownByAccount (I : Nat → Nat → Int32) : Option (Int32 × (Nat → Nat → Int32)) :=
  (f_X8_told (I 130 ((144 : Int32).toNatClampNeg)) I).bind fun (r2, I1) =>
  some (r2, I1)
set_option maxHeartbeats 8000000 in
set_option maxRecDepth 100000 in
theorem c_X8_flownByAccount {l : Launch} {dC : Nat → ClassId} {dI : Nat → Nat → Nat} {ca : Nat → ClassId} {b : Nat → Nat} {A : Nat → Prop} {N : Nat} (hN : 138 ≤ N) (hA : gAd A b N) (I : Nat → Nat → Int32) (O : Nat → Nat → Option Nat) (J : Nat → Nat → Int64) (res : Int32 × (Nat → Nat → Int32)) (h : f_X8_flownByAccount I = some res) : Met l yX8_flownByAccount wsX8_flownByAccount ({ frames := 1, cells := 0, slots := 0, locals := 21 } : Room) (va_Pc [.ref (b 129)] (gPre dC dI ca b A N I O J)) (va_Qi (fun (r : Int32) (u : Nat → Nat → Int32) => res = (r, u)) (fun (u : Nat → Nat → Int32) t => va_P (dC, dI) vwCl (hW N ca b u O J) t.heap) A) 0 0 A := by
  refine Met.ofW (cc := cX8_flownByAccount) (maxL := 1) (ret := (some .int)) (by decide) rfl ?_
  intro p e s m args below meth c s₁ B hml hv
  obtain ⟨rfl, hP, hK, hA2, hth⟩ := hv
  have hx := B.exec
  have hb := B.bytes
  have hr := B.returns
  have hlk := B.notSynchronized
  have X : gCx p s m ([.ref (b 129)] : List Value).toArray c RX8 cX8_flownByAccount wsX8_flownByAccount 1 dC dI ca b A N := ⟨hx, hb, hml, findClass_of_methodNamed B.named, atoms_spec (ws := wsX8_flownByAccount) B.pre, hK, hA, hA2, hth⟩
  have hi8 : ∀ w ∈ wsX80, w ∈ wsX8_flownByAccount := (fun w h => List.mem_cons_of_mem _ (List.mem_append_right _ h))
  have hS : va_S A s.heap s.heap [] := va_S.rf
  have hl := lv_entry ([.ref (b 129)] : List Value) (n := 1) (Nat.le_of_ble_eq_true rfl)
  rw [lg_entry_eq]
  generalize (lg_sl ([.ref (b 129)] : List Value) ++ List.replicate (1 - (lg_sl ([.ref (b 129)] : List Value)).length) Slot.unset).toArray = ls at hl ⊢
  have hl : lv_has ls 1 [(0, .ref (b 129))] := hl
  unfold f_X8_flownByAccount at h
  refine lv_aload_n hx hb dX8_flownByAccount_0 rfl (lv_at hl 0 rfl) ?_
  refine lv_aload_n hx hb dX8_flownByAccount_1 rfl (lv_at hl 0 rfl) ?_
  refine gg8_0 X hP kc_129 (sk_in hN kc_129 (by decide)) hi8 (List.mem_of_getElem? (i := 1) rfl) dX8_flownByAccount_2 ?_
  refine lv_sipush (v := 144) hx hb dX8_flownByAccount_5 (by decide) ?_
  refine ga20 X hP kc_130 (sk_in hN kc_130 (by decide)) (L := 151) (by decide) (by decide) dX8_flownByAccount_8 ?_
  obtain ⟨q3, hcq3, h⟩ := hb_some h
  refine gdV_i (As := [.int (I 130 ((144 : Int32).toNatClampNeg))]) (rest := []) (BH := (fun (u : Nat → Nat → Int32) H => va_P (dC, dI) vwCl (hW N ca b u O J) H)) X hP hS (c_X8_told hN hA I O J (I 130 ((144 : Int32).toNatClampNeg)) q3 hcq3) (cwV 1 X.ts gX8_flownByAccount_X8_told rfl rfl rfl (by decide +kernel) ⟨Nat.le_of_ble_eq_true rfl, Nat.le_of_ble_eq_true rfl⟩) (gr8 X hP kc_129 (sk_in hN kc_129 (by decide))) rfl hl.1 rfl (Nat.le_of_ble_eq_true rfl) dX8_flownByAccount_9 ⟨Nat.le_of_ble_eq_true rfl, Nat.le_of_ble_eq_true rfl⟩ (fun r2 I1 H locs hw hP hS => ?_)
  subst hw
  exact W.iret hx hb hr (fun t9 ht hW => ⟨⟨r2, I1, rfl, (Option.some.inj h).symm, gEnd ht hP⟩, hS.F ht⟩) hS.2.2 dX8_flownByAccount_12 hlk
def f_X8_drafts (I : Nat → Nat → Int32) : Option (Int32 × (Nat → Nat → Int32)) :=
  (f_X8_told (I 130 ((145 : Int32).toNatClampNeg)) I).bind fun (r2, I1) =>
  some (r2, I1)
set_option maxHeartbeats 8000000 in
set_option maxRecDepth 100000 in
theorem c_X8_drafts {l : Launch} {dC : Nat → ClassId} {dI : Nat → Nat → Nat} {ca : Nat → ClassId} {b : Nat → Nat} {A : Nat → Prop} {N : Nat} (hN : 138 ≤ N) (hA : gAd A b N) (I : Nat → Nat → Int32) (O : Nat → Nat → Option Nat) (J : Nat → Nat → Int64) (res : Int32 × (Nat → Nat → Int32)) (h : f_X8_drafts I = some res) : Met l yX8_drafts wsX8_drafts ({ frames := 1, cells := 0, slots := 0, locals := 21 } : Room) (va_Pc [.ref (b 129)] (gPre dC dI ca b A N I O J)) (va_Qi (fun (r : Int32) (u : Nat → Nat → Int32) => res = (r, u)) (fun (u : Nat → Nat → Int32) t => va_P (dC, dI) vwCl (hW N ca b u O J) t.heap) A) 0 0 A := by
  refine Met.ofW (cc := cX8_drafts) (maxL := 1) (ret := (some .int)) (by decide) rfl ?_
  intro p e s m args below meth c s₁ B hml hv
  obtain ⟨rfl, hP, hK, hA2, hth⟩ := hv
  have hx := B.exec
  have hb := B.bytes
  have hr := B.returns
  have hlk := B.notSynchronized
  have X : gCx p s m ([.ref (b 129)] : List Value).toArray c RX8 cX8_drafts wsX8_drafts 1 dC dI ca b A N := ⟨hx, hb, hml, findClass_of_methodNamed B.named, atoms_spec (ws := wsX8_drafts) B.pre, hK, hA, hA2, hth⟩
  have hi8 : ∀ w ∈ wsX80, w ∈ wsX8_drafts := (fun w h => List.mem_cons_of_mem _ (List.mem_append_right _ h))
  have hS : va_S A s.heap s.heap [] := va_S.rf
  have hl := lv_entry ([.ref (b 129)] : List Value) (n := 1) (Nat.le_of_ble_eq_true rfl)
  rw [lg_entry_eq]
  generalize (lg_sl ([.ref (b 129)] : List Value) ++ List.replicate (1 - (lg_sl ([.ref (b 129)] : List Value)).length) Slot.unset).toArray = ls at hl ⊢
  have hl : lv_has ls 1 [(0, .ref (b 129))] := hl
  unfold f_X8_drafts at h
  refine lv_aload_n hx hb dX8_drafts_0 rfl (lv_at hl 0 rfl) ?_
  refine lv_aload_n hx hb dX8_drafts_1 rfl (lv_at hl 0 rfl) ?_
  refine gg8_0 X hP kc_129 (sk_in hN kc_129 (by decide)) hi8 (List.mem_of_getElem? (i := 1) rfl) dX8_drafts_2 ?_
  refine lv_sipush (v := 145) hx hb dX8_drafts_5 (by decide) ?_
  refine ga20 X hP kc_130 (sk_in hN kc_130 (by decide)) (L := 151) (by decide) (by decide) dX8_drafts_8 ?_
  obtain ⟨q3, hcq3, h⟩ := hb_some h
  refine gdV_i (As := [.int (I 130 ((145 : Int32).toNatClampNeg))]) (rest := []) (BH := (fun (u : Nat → Nat → Int32) H => va_P (dC, dI) vwCl (hW N ca b u O J) H)) X hP hS (c_X8_told hN hA I O J (I 130 ((145 : Int32).toNatClampNeg)) q3 hcq3) (cwV 1 X.ts gX8_drafts_X8_told rfl rfl rfl (by decide +kernel) ⟨Nat.le_of_ble_eq_true rfl, Nat.le_of_ble_eq_true rfl⟩) (gr8 X hP kc_129 (sk_in hN kc_129 (by decide))) rfl hl.1 rfl (Nat.le_of_ble_eq_true rfl) dX8_drafts_9 ⟨Nat.le_of_ble_eq_true rfl, Nat.le_of_ble_eq_true rfl⟩ (fun r2 I1 H locs hw hP hS => ?_)
  subst hw
  exact W.iret hx hb hr (fun t9 ht hW => ⟨⟨r2, I1, rfl, (Option.some.inj h).symm, gEnd ht hP⟩, hS.F ht⟩) hS.2.2 dX8_drafts_12 hlk
def f_X8_changes (I : Nat → Nat → Int32) : Option (Int32 × (Nat → Nat → Int32)) :=
  (f_X8_told (I 130 ((146 : Int32).toNatClampNeg)) I).bind fun (r2, I1) =>
  some (r2, I1)
set_option maxHeartbeats 8000000 in
set_option maxRecDepth 100000 in
theorem c_X8_changes {l : Launch} {dC : Nat → ClassId} {dI : Nat → Nat → Nat} {ca : Nat → ClassId} {b : Nat → Nat} {A : Nat → Prop} {N : Nat} (hN : 138 ≤ N) (hA : gAd A b N) (I : Nat → Nat → Int32) (O : Nat → Nat → Option Nat) (J : Nat → Nat → Int64) (res : Int32 × (Nat → Nat → Int32)) (h : f_X8_changes I = some res) : Met l yX8_changes wsX8_changes ({ frames := 1, cells := 0, slots := 0, locals := 21 } : Room) (va_Pc [.ref (b 129)] (gPre dC dI ca b A N I O J)) (va_Qi (fun (r : Int32) (u : Nat → Nat → Int32) => res = (r, u)) (fun (u : Nat → Nat → Int32) t => va_P (dC, dI) vwCl (hW N ca b u O J) t.heap) A) 0 0 A := by
  refine Met.ofW (cc := cX8_changes) (maxL := 1) (ret := (some .int)) (by decide) rfl ?_
  intro p e s m args below meth c s₁ B hml hv
  obtain ⟨rfl, hP, hK, hA2, hth⟩ := hv
  have hx := B.exec
  have hb := B.bytes
  have hr := B.returns
  have hlk := B.notSynchronized
  have X : gCx p s m ([.ref (b 129)] : List Value).toArray c RX8 cX8_changes wsX8_changes 1 dC dI ca b A N := ⟨hx, hb, hml, findClass_of_methodNamed B.named, atoms_spec (ws := wsX8_changes) B.pre, hK, hA, hA2, hth⟩
  have hi8 : ∀ w ∈ wsX80, w ∈ wsX8_changes := (fun w h => List.mem_cons_of_mem _ (List.mem_append_right _ h))
  have hS : va_S A s.heap s.heap [] := va_S.rf
  have hl := lv_entry ([.ref (b 129)] : List Value) (n := 1) (Nat.le_of_ble_eq_true rfl)
  rw [lg_entry_eq]
  generalize (lg_sl ([.ref (b 129)] : List Value) ++ List.replicate (1 - (lg_sl ([.ref (b 129)] : List Value)).length) Slot.unset).toArray = ls at hl ⊢
  have hl : lv_has ls 1 [(0, .ref (b 129))] := hl
  unfold f_X8_changes at h
  refine lv_aload_n hx hb dX8_changes_0 rfl (lv_at hl 0 rfl) ?_
  refine lv_aload_n hx hb dX8_changes_1 rfl (lv_at hl 0 rfl) ?_
  refine gg8_0 X hP kc_129 (sk_in hN kc_129 (by decide)) hi8 (List.mem_of_getElem? (i := 1) rfl) dX8_changes_2 ?_
  refine lv_sipush (v := 146) hx hb dX8_changes_5 (by decide) ?_
  refine ga20 X hP kc_130 (sk_in hN kc_130 (by decide)) (L := 151) (by decide) (by decide) dX8_changes_8 ?_
  obtain ⟨q3, hcq3, h⟩ := hb_some h
  refine gdV_i (As := [.int (I 130 ((146 : Int32).toNatClampNeg))]) (rest := []) (BH := (fun (u : Nat → Nat → Int32) H => va_P (dC, dI) vwCl (hW N ca b u O J) H)) X hP hS (c_X8_told hN hA I O J (I 130 ((146 : Int32).toNatClampNeg)) q3 hcq3) (cwV 1 X.ts gX8_changes_X8_told rfl rfl rfl (by decide +kernel) ⟨Nat.le_of_ble_eq_true rfl, Nat.le_of_ble_eq_true rfl⟩) (gr8 X hP kc_129 (sk_in hN kc_129 (by decide))) rfl hl.1 rfl (Nat.le_of_ble_eq_true rfl) dX8_changes_9 ⟨Nat.le_of_ble_eq_true rfl, Nat.le_of_ble_eq_true rfl⟩ (fun r2 I1 H locs hw hP hS => ?_)
  subst hw
  exact W.iret hx hb hr (fun t9 ht hW => ⟨⟨r2, I1, rfl, (Option.some.inj h).symm, gEnd ht hP⟩, hS.F ht⟩) hS.2.2 dX8_changes_12 hlk
def f_X8_rests (I : Nat → Nat → Int32) : Option (Int32 × (Nat → Nat → Int32)) :=
  (f_X8_told (I 130 ((147 : Int32).toNatClampNeg)) I).bind fun (r2, I1) =>
  some (r2, I1)
set_option maxHeartbeats 8000000 in
set_option maxRecDepth 100000 in
theorem c_X8_rests {l : Launch} {dC : Nat → ClassId} {dI : Nat → Nat → Nat} {ca : Nat → ClassId} {b : Nat → Nat} {A : Nat → Prop} {N : Nat} (hN : 138 ≤ N) (hA : gAd A b N) (I : Nat → Nat → Int32) (O : Nat → Nat → Option Nat) (J : Nat → Nat → Int64) (res : Int32 × (Nat → Nat → Int32)) (h : f_X8_rests I = some res) : Met l yX8_rests wsX8_rests ({ frames := 1, cells := 0, slots := 0, locals := 21 } : Room) (va_Pc [.ref (b 129)] (gPre dC dI ca b A N I O J)) (va_Qi (fun (r : Int32) (u : Nat → Nat → Int32) => res = (r, u)) (fun (u : Nat → Nat → Int32) t => va_P (dC, dI) vwCl (hW N ca b u O J) t.heap) A) 0 0 A := by
  refine Met.ofW (cc := cX8_rests) (maxL := 1) (ret := (some .int)) (by decide) rfl ?_
  intro p e s m args below meth c s₁ B hml hv
  obtain ⟨rfl, hP, hK, hA2, hth⟩ := hv
  have hx := B.exec
  have hb := B.bytes
  have hr := B.returns
  have hlk := B.notSynchronized
  have X : gCx p s m ([.ref (b 129)] : List Value).toArray c RX8 cX8_rests wsX8_rests 1 dC dI ca b A N := ⟨hx, hb, hml, findClass_of_methodNamed B.named, atoms_spec (ws := wsX8_rests) B.pre, hK, hA, hA2, hth⟩
  have hi8 : ∀ w ∈ wsX80, w ∈ wsX8_rests := (fun w h => List.mem_cons_of_mem _ (List.mem_append_right _ h))
  have hS : va_S A s.heap s.heap [] := va_S.rf
  have hl := lv_entry ([.ref (b 129)] : List Value) (n := 1) (Nat.le_of_ble_eq_true rfl)
  rw [lg_entry_eq]
  generalize (lg_sl ([.ref (b 129)] : List Value) ++ List.replicate (1 - (lg_sl ([.ref (b 129)] : List Value)).length) Slot.unset).toArray = ls at hl ⊢
  have hl : lv_has ls 1 [(0, .ref (b 129))] := hl
  unfold f_X8_rests at h
  refine lv_aload_n hx hb dX8_rests_0 rfl (lv_at hl 0 rfl) ?_
  refine lv_aload_n hx hb dX8_rests_1 rfl (lv_at hl 0 rfl) ?_
  refine gg8_0 X hP kc_129 (sk_in hN kc_129 (by decide)) hi8 (List.mem_of_getElem? (i := 1) rfl) dX8_rests_2 ?_
  refine lv_sipush (v := 147) hx hb dX8_rests_5 (by decide) ?_
  refine ga20 X hP kc_130 (sk_in hN kc_130 (by decide)) (L := 151) (by decide) (by decide) dX8_rests_8 ?_
  obtain ⟨q3, hcq3, h⟩ := hb_some h
  refine gdV_i (As := [.int (I 130 ((147 : Int32).toNatClampNeg))]) (rest := []) (BH := (fun (u : Nat → Nat → Int32) H => va_P (dC, dI) vwCl (hW N ca b u O J) H)) X hP hS (c_X8_told hN hA I O J (I 130 ((147 : Int32).toNatClampNeg)) q3 hcq3) (cwV 1 X.ts gX8_rests_X8_told rfl rfl rfl (by decide +kernel) ⟨Nat.le_of_ble_eq_true rfl, Nat.le_of_ble_eq_true rfl⟩) (gr8 X hP kc_129 (sk_in hN kc_129 (by decide))) rfl hl.1 rfl (Nat.le_of_ble_eq_true rfl) dX8_rests_9 ⟨Nat.le_of_ble_eq_true rfl, Nat.le_of_ble_eq_true rfl⟩ (fun r2 I1 H locs hw hP hS => ?_)
  subst hw
  exact W.iret hx hb hr (fun t9 ht hW => ⟨⟨r2, I1, rfl, (Option.some.inj h).symm, gEnd ht hP⟩, hS.F ht⟩) hS.2.2 dX8_rests_12 hlk
def f_X8_races (I : Nat → Nat → Int32) : Option (Int32 × (Nat → Nat → Int32)) :=
  (f_X8_told (I 130 ((148 : Int32).toNatClampNeg)) I).bind fun (r2, I1) =>
  some (r2, I1)
set_option maxHeartbeats 8000000 in
set_option maxRecDepth 100000 in
theorem c_X8_races {l : Launch} {dC : Nat → ClassId} {dI : Nat → Nat → Nat} {ca : Nat → ClassId} {b : Nat → Nat} {A : Nat → Prop} {N : Nat} (hN : 138 ≤ N) (hA : gAd A b N) (I : Nat → Nat → Int32) (O : Nat → Nat → Option Nat) (J : Nat → Nat → Int64) (res : Int32 × (Nat → Nat → Int32)) (h : f_X8_races I = some res) : Met l yX8_races wsX8_races ({ frames := 1, cells := 0, slots := 0, locals := 21 } : Room) (va_Pc [.ref (b 129)] (gPre dC dI ca b A N I O J)) (va_Qi (fun (r : Int32) (u : Nat → Nat → Int32) => res = (r, u)) (fun (u : Nat → Nat → Int32) t => va_P (dC, dI) vwCl (hW N ca b u O J) t.heap) A) 0 0 A := by
  refine Met.ofW (cc := cX8_races) (maxL := 1) (ret := (some .int)) (by decide) rfl ?_
  intro p e s m args below meth c s₁ B hml hv
  obtain ⟨rfl, hP, hK, hA2, hth⟩ := hv
  have hx := B.exec
  have hb := B.bytes
  have hr := B.returns
  have hlk := B.notSynchronized
  have X : gCx p s m ([.ref (b 129)] : List Value).toArray c RX8 cX8_races wsX8_races 1 dC dI ca b A N := ⟨hx, hb, hml, findClass_of_methodNamed B.named, atoms_spec (ws := wsX8_races) B.pre, hK, hA, hA2, hth⟩
  have hi8 : ∀ w ∈ wsX80, w ∈ wsX8_races := (fun w h => List.mem_cons_of_mem _ (List.mem_append_right _ h))
  have hS : va_S A s.heap s.heap [] := va_S.rf
  have hl := lv_entry ([.ref (b 129)] : List Value) (n := 1) (Nat.le_of_ble_eq_true rfl)
  rw [lg_entry_eq]
  generalize (lg_sl ([.ref (b 129)] : List Value) ++ List.replicate (1 - (lg_sl ([.ref (b 129)] : List Value)).length) Slot.unset).toArray = ls at hl ⊢
  have hl : lv_has ls 1 [(0, .ref (b 129))] := hl
  unfold f_X8_races at h
  refine lv_aload_n hx hb dX8_races_0 rfl (lv_at hl 0 rfl) ?_
  refine lv_aload_n hx hb dX8_races_1 rfl (lv_at hl 0 rfl) ?_
  refine gg8_0 X hP kc_129 (sk_in hN kc_129 (by decide)) hi8 (List.mem_of_getElem? (i := 1) rfl) dX8_races_2 ?_
  refine lv_sipush (v := 148) hx hb dX8_races_5 (by decide) ?_
  refine ga20 X hP kc_130 (sk_in hN kc_130 (by decide)) (L := 151) (by decide) (by decide) dX8_races_8 ?_
  obtain ⟨q3, hcq3, h⟩ := hb_some h
  refine gdV_i (As := [.int (I 130 ((148 : Int32).toNatClampNeg))]) (rest := []) (BH := (fun (u : Nat → Nat → Int32) H => va_P (dC, dI) vwCl (hW N ca b u O J) H)) X hP hS (c_X8_told hN hA I O J (I 130 ((148 : Int32).toNatClampNeg)) q3 hcq3) (cwV 1 X.ts gX8_races_X8_told rfl rfl rfl (by decide +kernel) ⟨Nat.le_of_ble_eq_true rfl, Nat.le_of_ble_eq_true rfl⟩) (gr8 X hP kc_129 (sk_in hN kc_129 (by decide))) rfl hl.1 rfl (Nat.le_of_ble_eq_true rfl) dX8_races_9 ⟨Nat.le_of_ble_eq_true rfl, Nat.le_of_ble_eq_true rfl⟩ (fun r2 I1 H locs hw hP hS => ?_)
  subst hw
  exact W.iret hx hb hr (fun t9 ht hW => ⟨⟨r2, I1, rfl, (Option.some.inj h).symm, gEnd ht hP⟩, hS.F ht⟩) hS.2.2 dX8_races_12 hlk
def f_X8_winsInPairs (I : Nat → Nat → Int32) : Option (Int32 × (Nat → Nat → Int32)) :=
  (f_X8_told (I 130 ((149 : Int32).toNatClampNeg)) I).bind fun (r2, I1) =>
  some (r2, I1)
set_option maxHeartbeats 8000000 in
set_option maxRecDepth 100000 in
theorem c_X8_winsInPairs {l : Launch} {dC : Nat → ClassId} {dI : Nat → Nat → Nat} {ca : Nat → ClassId} {b : Nat → Nat} {A : Nat → Prop} {N : Nat} (hN : 138 ≤ N) (hA : gAd A b N) (I : Nat → Nat → Int32) (O : Nat → Nat → Option Nat) (J : Nat → Nat → Int64) (res : Int32 × (Nat → Nat → Int32)) (h : f_X8_winsInPairs I = some res) : Met l yX8_winsInPairs wsX8_winsInPairs ({ frames := 1, cells := 0, slots := 0, locals := 21 } : Room) (va_Pc [.ref (b 129)] (gPre dC dI ca b A N I O J)) (va_Qi (fun (r : Int32) (u : Nat → Nat → Int32) => res = (r, u)) (fun (u : Nat → Nat → Int32) t => va_P (dC, dI) vwCl (hW N ca b u O J) t.heap) A) 0 0 A := by
  refine Met.ofW (cc := cX8_winsInPairs) (maxL := 1) (ret := (some .int)) (by decide) rfl ?_
  intro p e s m args below meth c s₁ B hml hv
  obtain ⟨rfl, hP, hK, hA2, hth⟩ := hv
  have hx := B.exec
  have hb := B.bytes
  have hr := B.returns
  have hlk := B.notSynchronized
  have X : gCx p s m ([.ref (b 129)] : List Value).toArray c RX8 cX8_winsInPairs wsX8_winsInPairs 1 dC dI ca b A N := ⟨hx, hb, hml, findClass_of_methodNamed B.named, atoms_spec (ws := wsX8_winsInPairs) B.pre, hK, hA, hA2, hth⟩
  have hi8 : ∀ w ∈ wsX80, w ∈ wsX8_winsInPairs := (fun w h => List.mem_cons_of_mem _ (List.mem_append_right _ h))
  have hS : va_S A s.heap s.heap [] := va_S.rf
  have hl := lv_entry ([.ref (b 129)] : List Value) (n := 1) (Nat.le_of_ble_eq_true rfl)
  rw [lg_entry_eq]
  generalize (lg_sl ([.ref (b 129)] : List Value) ++ List.replicate (1 - (lg_sl ([.ref (b 129)] : List Value)).length) Slot.unset).toArray = ls at hl ⊢
  have hl : lv_has ls 1 [(0, .ref (b 129))] := hl
  unfold f_X8_winsInPairs at h
  refine lv_aload_n hx hb dX8_winsInPairs_0 rfl (lv_at hl 0 rfl) ?_
  refine lv_aload_n hx hb dX8_winsInPairs_1 rfl (lv_at hl 0 rfl) ?_
  refine gg8_0 X hP kc_129 (sk_in hN kc_129 (by decide)) hi8 (List.mem_of_getElem? (i := 1) rfl) dX8_winsInPairs_2 ?_
  refine lv_sipush (v := 149) hx hb dX8_winsInPairs_5 (by decide) ?_
  refine ga20 X hP kc_130 (sk_in hN kc_130 (by decide)) (L := 151) (by decide) (by decide) dX8_winsInPairs_8 ?_
  obtain ⟨q3, hcq3, h⟩ := hb_some h
  refine gdV_i (As := [.int (I 130 ((149 : Int32).toNatClampNeg))]) (rest := []) (BH := (fun (u : Nat → Nat → Int32) H => va_P (dC, dI) vwCl (hW N ca b u O J) H)) X hP hS (c_X8_told hN hA I O J (I 130 ((149 : Int32).toNatClampNeg)) q3 hcq3) (cwV 1 X.ts gX8_winsInPairs_X8_told rfl rfl rfl (by decide +kernel) ⟨Nat.le_of_ble_eq_true rfl, Nat.le_of_ble_eq_true rfl⟩) (gr8 X hP kc_129 (sk_in hN kc_129 (by decide))) rfl hl.1 rfl (Nat.le_of_ble_eq_true rfl) dX8_winsInPairs_9 ⟨Nat.le_of_ble_eq_true rfl, Nat.le_of_ble_eq_true rfl⟩ (fun r2 I1 H locs hw hP hS => ?_)
  subst hw
  exact W.iret hx hb hr (fun t9 ht hW => ⟨⟨r2, I1, rfl, (Option.some.inj h).symm, gEnd ht hP⟩, hS.F ht⟩) hS.2.2 dX8_winsInPairs_12 hlk
def f_X8_mean (I : Nat → Nat → Int32) : Option (UInt64) :=
  if (I 130 ((128 : Int32).toNatClampNeg)) = 0 then
    some FP.dconst0
  else
    (f_X8_all I).bind fun r1 =>
    hg (gnn (FP.ddiv (FP.i2d r1) (FP.i2d (I 130 ((128 : Int32).toNatClampNeg))))) <|
    some (FP.ddiv (FP.i2d r1) (FP.i2d (I 130 ((128 : Int32).toNatClampNeg))))
set_option maxHeartbeats 8000000 in
set_option maxRecDepth 100000 in
theorem c_X8_mean {l : Launch} {dC : Nat → ClassId} {dI : Nat → Nat → Nat} {ca : Nat → ClassId} {b : Nat → Nat} {A : Nat → Prop} {N : Nat} (hN : 138 ≤ N) (hA : gAd A b N) (I : Nat → Nat → Int32) (O : Nat → Nat → Option Nat) (J : Nat → Nat → Int64) (res : UInt64) (h : f_X8_mean I = some res) : Met l yX8_mean wsX8_mean ({ frames := 2, cells := 0, slots := 0, locals := 44 } : Room) (va_Pc [.ref (b 129)] (gPre dC dI ca b A N I O J)) (va_Qd (fun (r : UInt64) (u : Unit) => res = r) (fun (u : Unit) t => va_P (dC, dI) vwCl (hW N ca b I O J) t.heap) A) 0 0 A := by
  refine Met.ofW (cc := cX8_mean) (maxL := 1) (ret := (some .double)) (by decide) rfl ?_
  intro p e s m args below meth c s₁ B hml hv
  obtain ⟨rfl, hP, hK, hA2, hth⟩ := hv
  have hx := B.exec
  have hb := B.bytes
  have hr := B.returns
  have hlk := B.notSynchronized
  have X : gCx p s m ([.ref (b 129)] : List Value).toArray c RX8 cX8_mean wsX8_mean 1 dC dI ca b A N := ⟨hx, hb, hml, findClass_of_methodNamed B.named, atoms_spec (ws := wsX8_mean) B.pre, hK, hA, hA2, hth⟩
  have hi8 : ∀ w ∈ wsX80, w ∈ wsX8_mean := (fun w h => List.mem_cons_of_mem _ (List.mem_append_right _ h))
  have hS : va_S A s.heap s.heap [] := va_S.rf
  have hl := lv_entry ([.ref (b 129)] : List Value) (n := 1) (Nat.le_of_ble_eq_true rfl)
  rw [lg_entry_eq]
  generalize (lg_sl ([.ref (b 129)] : List Value) ++ List.replicate (1 - (lg_sl ([.ref (b 129)] : List Value)).length) Slot.unset).toArray = ls at hl ⊢
  have hl : lv_has ls 1 [(0, .ref (b 129))] := hl
  unfold f_X8_mean at h
  refine lv_aload_n hx hb dX8_mean_0 rfl (lv_at hl 0 rfl) ?_
  refine gg8_0 X hP kc_129 (sk_in hN kc_129 (by decide)) hi8 (List.mem_of_getElem? (i := 1) rfl) dX8_mean_1 ?_
  refine lv_sipush (v := 128) hx hb dX8_mean_4 (by decide) ?_
  refine ga20 X hP kc_130 (sk_in hN kc_130 (by decide)) (L := 151) (by decide) (by decide) dX8_mean_7 ?_
  refine lv_if_ne (tgt := 15) hx hb dX8_mean_8 (by decide) (fun c3 => ?_) (fun c3 => ?_)
  · have h := gif_f c3 h
    refine lv_aload_n hx hb dX8_mean_15 rfl (lv_at hl 0 rfl) ?_
    obtain ⟨q2, hcq2, h⟩ := hb_some h
    refine gdV_i (As := []) (rest := []) (BH := (fun (u : Unit) H => va_P (dC, dI) vwCl (hW N ca b I O J) H)) X hP hS (c_X8_all hN hA I O J q2 hcq2) (cwV 0 X.ts gX8_mean_X8_all rfl rfl rfl (by decide +kernel) ⟨Nat.le_of_ble_eq_true rfl, Nat.le_of_ble_eq_true rfl⟩) (gr8 X hP kc_129 (sk_in hN kc_129 (by decide))) rfl hl.1 rfl (Nat.le_of_ble_eq_true rfl) dX8_mean_16 ⟨Nat.le_of_ble_eq_true rfl, Nat.le_of_ble_eq_true rfl⟩ (fun r1 u9 H locs hw hP hS => ?_)
    have hw := hw.symm
    subst hw
    refine lv_i2d hx hb dX8_mean_19 ?_
    refine lv_aload_n hx hb dX8_mean_20 rfl (lv_at hl 0 rfl) ?_
    refine gg8_0 X hP kc_129 (sk_in hN kc_129 (by decide)) hi8 (List.mem_of_getElem? (i := 1) rfl) dX8_mean_21 ?_
    refine lv_sipush (v := 128) hx hb dX8_mean_24 (by decide) ?_
    refine ga20 X hP kc_130 (sk_in hN kc_130 (by decide)) (L := 151) (by decide) (by decide) dX8_mean_27 ?_
    refine lv_i2d hx hb dX8_mean_28 ?_
    obtain ⟨hgn, h⟩ := hg_some h
    refine lv_ddiv hx hb dX8_mean_29 (gnn_of hgn) ?_
    exact W.dret hx hb hr (fun t9 ht hW => ⟨⟨(FP.ddiv (FP.i2d r1) (FP.i2d (I 130 ((128 : Int32).toNatClampNeg)))), (), rfl, (Option.some.inj h).symm, gEnd ht hP⟩, hS.F ht⟩) hS.2.2 dX8_mean_30 hlk
  · have h := gif_t c3 h
    refine lv_dconst0 hx hb dX8_mean_11 ?_
    refine lv_goto (tgt := 30) hx hb dX8_mean_12 (by decide) ?_
    exact W.dret hx hb hr (fun t9 ht hW => ⟨⟨FP.dconst0, (), rfl, (Option.some.inj h).symm, gEnd ht hP⟩, hS.F ht⟩) hS.2.2 dX8_mean_30 hlk
def f_X8_meanFlown (I : Nat → Nat → Int32) : Option (UInt64 × (Nat → Nat → Int32)) :=
  hlet (gup I 129 8 (0 : Int32)) fun I1 =>
  (f_X8_mean I1).bind fun r2 =>
  some (r2, I1)
set_option maxHeartbeats 8000000 in
set_option maxRecDepth 100000 in
theorem c_X8_meanFlown {l : Launch} {dC : Nat → ClassId} {dI : Nat → Nat → Nat} {ca : Nat → ClassId} {b : Nat → Nat} {A : Nat → Prop} {N : Nat} (hN : 138 ≤ N) (hA : gAd A b N) (I : Nat → Nat → Int32) (O : Nat → Nat → Option Nat) (J : Nat → Nat → Int64) (res : UInt64 × (Nat → Nat → Int32)) (h : f_X8_meanFlown I = some res) : Met l yX8_meanFlown wsX8_meanFlown ({ frames := 3, cells := 0, slots := 0, locals := 64 } : Room) (va_Pc [.ref (b 129)] (gPre dC dI ca b A N I O J)) (va_Qd (fun (r : UInt64) (u : Nat → Nat → Int32) => res = (r, u)) (fun (u : Nat → Nat → Int32) t => va_P (dC, dI) vwCl (hW N ca b u O J) t.heap) A) 0 0 A := by
  refine Met.ofW (cc := cX8_meanFlown) (maxL := 1) (ret := (some .double)) (by decide) rfl ?_
  intro p e s m args below meth c s₁ B hml hv
  obtain ⟨rfl, hP, hK, hA2, hth⟩ := hv
  have hx := B.exec
  have hb := B.bytes
  have hr := B.returns
  have hlk := B.notSynchronized
  have X : gCx p s m ([.ref (b 129)] : List Value).toArray c RX8 cX8_meanFlown wsX8_meanFlown 1 dC dI ca b A N := ⟨hx, hb, hml, findClass_of_methodNamed B.named, atoms_spec (ws := wsX8_meanFlown) B.pre, hK, hA, hA2, hth⟩
  have hi8 : ∀ w ∈ wsX80, w ∈ wsX8_meanFlown := (fun w h => List.mem_cons_of_mem _ (List.mem_append_right _ h))
  have hS : va_S A s.heap s.heap [] := va_S.rf
  have hl := lv_entry ([.ref (b 129)] : List Value) (n := 1) (Nat.le_of_ble_eq_true rfl)
  rw [lg_entry_eq]
  generalize (lg_sl ([.ref (b 129)] : List Value) ++ List.replicate (1 - (lg_sl ([.ref (b 129)] : List Value)).length) Slot.unset).toArray = ls at hl ⊢
  have hl : lv_has ls 1 [(0, .ref (b 129))] := hl
  unfold f_X8_meanFlown at h
  refine lv_aload_n hx hb dX8_meanFlown_0 rfl (lv_at hl 0 rfl) ?_
  refine lv_iconst (v := 0) hx hb dX8_meanFlown_1 (by decide) ?_
  refine gp8_8 X hP hS kc_129 (sk_in hN kc_129 (by decide)) hi8 (List.mem_of_getElem? (i := 1) rfl) dX8_meanFlown_2 (fun H locs hP hS => ?_)
  obtain ⟨I1, eI1, h⟩ := hlet_ex h
  rw [← eI1] at hP
  refine lv_aload_n hx hb dX8_meanFlown_5 rfl (lv_at hl 0 rfl) ?_
  obtain ⟨q3, hcq3, h⟩ := hb_some h
  refine gdV_d (As := []) (rest := []) (BH := (fun (u : Unit) H => va_P (dC, dI) vwCl (hW N ca b I1 O J) H)) X hP hS (c_X8_mean hN hA I1 O J q3 hcq3) (cwV 0 X.ts gX8_meanFlown_X8_mean rfl rfl rfl (by decide +kernel) ⟨Nat.le_of_ble_eq_true rfl, Nat.le_of_ble_eq_true rfl⟩) (gr8 X hP kc_129 (sk_in hN kc_129 (by decide))) rfl hl.1 rfl (Nat.le_of_ble_eq_true rfl) dX8_meanFlown_6 ⟨Nat.le_of_ble_eq_true rfl, Nat.le_of_ble_eq_true rfl⟩ (fun r2 u9 H locs hw hP hS => ?_)
  have hw := hw.symm
  subst hw
  exact W.dret hx hb hr (fun t9 ht hW => ⟨⟨r2, I1, rfl, (Option.some.inj h).symm, gEnd ht hP⟩, hS.F ht⟩) hS.2.2 dX8_meanFlown_9 hlk
def f_X8_mixes (a1 : Int64) (J : Nat → Nat → Int64) : Option (Nat → Nat → Int64) :=
  hlet (gup J 129 16 (((31 : Int64) * (J 129 16)) + a1)) fun J1 =>
  some J1
set_option maxHeartbeats 8000000 in
set_option maxRecDepth 100000 in
theorem c_X8_mixes {l : Launch} {dC : Nat → ClassId} {dI : Nat → Nat → Nat} {ca : Nat → ClassId} {b : Nat → Nat} {A : Nat → Prop} {N : Nat} (hN : 138 ≤ N) (hA : gAd A b N) (I : Nat → Nat → Int32) (O : Nat → Nat → Option Nat) (J : Nat → Nat → Int64) (a1 : Int64) (res : Nat → Nat → Int64) (h : f_X8_mixes a1 J = some res) : Met l yX8_mixes wsX8_mixes ({ frames := 0, cells := 0, slots := 0, locals := 0 } : Room) (va_Pc [.ref (b 129), .long a1] (gPre dC dI ca b A N I O J)) (va_Qv (fun (u : Nat → Nat → Int64) => res = u) (fun (u : Nat → Nat → Int64) t => va_P (dC, dI) vwCl (hW N ca b I O u) t.heap) A) 0 0 A := by
  refine Met.ofW (cc := cX8_mixes) (maxL := 3) (ret := none) (by decide) rfl ?_
  intro p e s m args below meth c s₁ B hml hv
  obtain ⟨rfl, hP, hK, hA2, hth⟩ := hv
  have hx := B.exec
  have hb := B.bytes
  have hr := B.returns
  have hlk := B.notSynchronized
  have X : gCx p s m ([.ref (b 129), .long a1] : List Value).toArray c RX8 cX8_mixes wsX8_mixes 3 dC dI ca b A N := ⟨hx, hb, hml, findClass_of_methodNamed B.named, atoms_spec (ws := wsX8_mixes) B.pre, hK, hA, hA2, hth⟩
  have hi8 : ∀ w ∈ wsX80, w ∈ wsX8_mixes := (fun w h => List.mem_cons_of_mem _ (List.mem_append_right _ h))
  have hS : va_S A s.heap s.heap [] := va_S.rf
  have hl := lv_entry ([.ref (b 129), .long a1] : List Value) (n := 3) (Nat.le_of_ble_eq_true rfl)
  rw [lg_entry_eq]
  generalize (lg_sl ([.ref (b 129), .long a1] : List Value) ++ List.replicate (3 - (lg_sl ([.ref (b 129), .long a1] : List Value)).length) Slot.unset).toArray = ls at hl ⊢
  have hl : lv_has ls 3 [(0, .ref (b 129)), (1, .long a1)] := hl
  unfold f_X8_mixes at h
  refine lv_aload_n hx hb dX8_mixes_0 rfl (lv_at hl 0 rfl) ?_
  refine lv_ldc2 (v := 31) hx hb X.ow (X.ts _ (List.mem_of_getElem? (i := 1) rfl)) dX8_mixes_1 ?_
  refine lv_aload_n hx hb dX8_mixes_4 rfl (lv_at hl 0 rfl) ?_
  refine gg8_16 X hP kc_129 (sk_in hN kc_129 (by decide)) hi8 (List.mem_of_getElem? (i := 2) rfl) dX8_mixes_5 ?_
  refine lv_lmul hx hb dX8_mixes_8 ?_
  refine lv_lload_n hx hb dX8_mixes_9 rfl (lv_at hl 1 rfl) ?_
  refine lv_ladd hx hb dX8_mixes_10 ?_
  refine gp8_16 X hP hS kc_129 (sk_in hN kc_129 (by decide)) hi8 (List.mem_of_getElem? (i := 2) rfl) dX8_mixes_11 (fun H locs hP hS => ?_)
  obtain ⟨J1, eJ1, h⟩ := hlet_ex h
  rw [← eJ1] at hP
  exact W.vret hx hb hr (fun t9 ht hW => ⟨⟨J1, rfl, (Option.some.inj h).symm, gEnd ht hP⟩, hS.F ht⟩) hS.2.2 dX8_mixes_14 hlk
def f_X8_mixBird (a1 : Int32) (I : Nat → Nat → Int32) (J : Nat → Nat → Int64) : Option ((Nat → Nat → Int32) × (Nat → Nat → Int64)) :=
  (f_X8_of a1 (7 : Int32) I).bind fun r1 =>
  (f_X8_mixes ((r1).toInt64) J).bind fun J3 =>
  (f_X8_of a1 (7 : Int32) I).bind fun r5 =>
  (f_X8_mixes (((r5 / (400 : Int32))).toInt64) J3).bind fun J7 =>
  (f_X8_of a1 (8 : Int32) I).bind fun r9 =>
  (f_X8_mixes ((r9).toInt64) J7).bind fun J11 =>
  (f_X8_of a1 (3 : Int32) I).bind fun r13 =>
  (f_X8_mixes ((r13).toInt64) J11).bind fun J15 =>
  (f_X8_of a1 (4 : Int32) I).bind fun r17 =>
  (f_X8_mixes ((r17).toInt64) J15).bind fun J19 =>
  (f_X8_of a1 (5 : Int32) I).bind fun r21 =>
  (f_X8_mixes ((r21).toInt64) J19).bind fun J23 =>
  (f_X8_of a1 (6 : Int32) I).bind fun r25 =>
  (f_X8_mixes ((r25).toInt64) J23).bind fun J27 =>
  (f_X8_of a1 (0 : Int32) I).bind fun r29 =>
  (f_X8_mixes ((r29).toInt64) J27).bind fun J31 =>
  (f_X8_of a1 (10 : Int32) I).bind fun r33 =>
  (f_X8_mixes ((r33).toInt64) J31).bind fun J35 =>
  (f_X8_of a1 (9 : Int32) I).bind fun r37 =>
  (f_X8_mixes ((r37).toInt64) J35).bind fun J39 =>
  (f_X8_place a1 I).bind fun r41 =>
  (f_X8_mixes ((r41).toInt64) J39).bind fun J43 =>
  (f_X8_of a1 (5 : Int32) I).bind fun r45 =>
  (f_X8_gap a1 r45 I).bind fun r47 =>
  (f_X8_mixes ((r47).toInt64) J43).bind fun J49 =>
  (f_X8_flies a1 I).bind fun r51 =>
  (show Option (Int64) from
    if r51 = 0 then
      some (0 : Int64)
    else
      (f_X8_isDrafted a1 I).bind fun r84 =>
      if r84 = 0 then
        some (0 : Int64)
      else
        some (1 : Int64)).bind fun p53 =>
  (f_X8_mixes p53 J49).bind fun J54 =>
  (f_X8_where a1 I).bind fun r56 =>
  (f_X8_mixes ((r56).toInt64) J54).bind fun J58 =>
  (f_X8_flies a1 I).bind fun r60 =>
  (show Option (Int64) from
    if r60 = 0 then
      some (0 : Int64)
    else
      (f_X8_allowed a1 I).bind fun r81 =>
      some ((r81).toInt64)).bind fun p62 =>
  (f_X8_mixes p62 J58).bind fun J63 =>
  (f_X8_isOver a1 I).bind fun r65 =>
  (show Option (Int64) from
    if r65 = 0 then
      some (0 : Int64)
    else
      (f_X8_of a1 (11 : Int32) I).bind fun r78 =>
      some ((r78).toInt64)).bind fun p67 =>
  (f_X8_mixes p67 J63).bind fun J68 =>
  (show Option (Int64 × (Nat → Nat → Int32)) from
    if (I 130 ((150 : Int32).toNatClampNeg)) = (1 : Int32) then
      (f_X8_flownIn a1 (30 : Int32) I).bind fun (r75, I74) =>
      some (((r75).toInt64), I74)
    else
      some ((0 : Int64), I)).bind fun (p70, I71) =>
  (f_X8_mixes p70 J68).bind fun J72 =>
  some (I71, J72)
set_option maxHeartbeats 8000000 in
set_option maxRecDepth 100000 in
theorem c_X8_mixBird {l : Launch} {dC : Nat → ClassId} {dI : Nat → Nat → Nat} {ca : Nat → ClassId} {b : Nat → Nat} {A : Nat → Prop} {N : Nat} (hN : 138 ≤ N) (hA : gAd A b N) (I : Nat → Nat → Int32) (O : Nat → Nat → Option Nat) (J : Nat → Nat → Int64) (a1 : Int32) (res : (Nat → Nat → Int32) × (Nat → Nat → Int64)) (h : f_X8_mixBird a1 I J = some res) : Met l yX8_mixBird wsX8_mixBird ({ frames := 8, cells := 0, slots := 0, locals := 197 } : Room) (va_Pc [.ref (b 129), .int a1] (gPre dC dI ca b A N I O J)) (va_Qv (fun (u : (Nat → Nat → Int32) × (Nat → Nat → Int64)) => res = u) (fun (u : (Nat → Nat → Int32) × (Nat → Nat → Int64)) t => va_P (dC, dI) vwCl (hW N ca b u.1 O u.2) t.heap) A) 0 0 A := by
  refine Met.ofW (cc := cX8_mixBird) (maxL := 2) (ret := none) (by decide) rfl ?_
  intro p e s m args below meth c s₁ B hml hv
  obtain ⟨rfl, hP, hK, hA2, hth⟩ := hv
  have hx := B.exec
  have hb := B.bytes
  have hr := B.returns
  have hlk := B.notSynchronized
  have X : gCx p s m ([.ref (b 129), .int a1] : List Value).toArray c RX8 cX8_mixBird wsX8_mixBird 2 dC dI ca b A N := ⟨hx, hb, hml, findClass_of_methodNamed B.named, atoms_spec (ws := wsX8_mixBird) B.pre, hK, hA, hA2, hth⟩
  have hi8 : ∀ w ∈ wsX80, w ∈ wsX8_mixBird := (fun w h => List.mem_cons_of_mem _ (List.mem_append_right _ h))
  have hS : va_S A s.heap s.heap [] := va_S.rf
  have hl := lv_entry ([.ref (b 129), .int a1] : List Value) (n := 2) (Nat.le_of_ble_eq_true rfl)
  rw [lg_entry_eq]
  generalize (lg_sl ([.ref (b 129), .int a1] : List Value) ++ List.replicate (2 - (lg_sl ([.ref (b 129), .int a1] : List Value)).length) Slot.unset).toArray = ls at hl ⊢
  have hl : lv_has ls 2 [(0, .ref (b 129)), (1, .int a1)] := hl
  unfold f_X8_mixBird at h
  refine lv_aload_n hx hb dX8_mixBird_0 rfl (lv_at hl 0 rfl) ?_
  refine lv_aload_n hx hb dX8_mixBird_1 rfl (lv_at hl 0 rfl) ?_
  refine lv_iload_n hx hb dX8_mixBird_2 rfl (lv_at hl 1 rfl) ?_
  refine lv_bipush (v := 7) hx hb dX8_mixBird_3 (by decide) ?_
  obtain ⟨q2, hcq2, h⟩ := hb_some h
  refine gdV_i (As := [.int a1, .int (7 : Int32)]) (rest := [.ref (b 129)]) (BH := (fun (u : Unit) H => va_P (dC, dI) vwCl (hW N ca b I O J) H)) X hP hS (c_X8_of hN hA I O J a1 (7 : Int32) q2 hcq2) (cwV 2 X.ts gX8_mixBird_X8_of rfl rfl rfl (by decide +kernel) ⟨Nat.le_of_ble_eq_true rfl, Nat.le_of_ble_eq_true rfl⟩) (gr8 X hP kc_129 (sk_in hN kc_129 (by decide))) rfl hl.1 rfl (Nat.le_of_ble_eq_true rfl) dX8_mixBird_5 ⟨Nat.le_of_ble_eq_true rfl, Nat.le_of_ble_eq_true rfl⟩ (fun r1 u9 H locs hw hP hS => ?_)
  have hw := hw.symm
  subst hw
  refine lv_i2l (v := (r1).toInt64) hx hb dX8_mixBird_8 rfl ?_
  obtain ⟨q4, hcq4, h⟩ := hb_some h
  refine gdV_v (As := [.long ((r1).toInt64)]) (rest := []) (BH := (fun (u : Nat → Nat → Int64) H => va_P (dC, dI) vwCl (hW N ca b I O u) H)) X hP hS (c_X8_mixes hN hA I O J ((r1).toInt64) q4 hcq4) (cwV 1 X.ts gX8_mixBird_X8_mixes rfl rfl rfl (by decide +kernel) ⟨Nat.le_of_ble_eq_true rfl, Nat.le_of_ble_eq_true rfl⟩) (gr8 X hP kc_129 (sk_in hN kc_129 (by decide))) rfl hl.1 rfl (Nat.le_of_ble_eq_true rfl) dX8_mixBird_9 ⟨Nat.le_of_ble_eq_true rfl, Nat.le_of_ble_eq_true rfl⟩ (fun J3 H locs hw hP hS => ?_)
  have hw := hw.symm
  subst hw
  refine lv_aload_n hx hb dX8_mixBird_12 rfl (lv_at hl 0 rfl) ?_
  refine lv_aload_n hx hb dX8_mixBird_13 rfl (lv_at hl 0 rfl) ?_
  refine lv_iload_n hx hb dX8_mixBird_14 rfl (lv_at hl 1 rfl) ?_
  refine lv_bipush (v := 7) hx hb dX8_mixBird_15 (by decide) ?_
  obtain ⟨q6, hcq6, h⟩ := hb_some h
  refine gdV_i (As := [.int a1, .int (7 : Int32)]) (rest := [.ref (b 129)]) (BH := (fun (u : Unit) H => va_P (dC, dI) vwCl (hW N ca b I O J3) H)) X hP hS (c_X8_of hN hA I O J3 a1 (7 : Int32) q6 hcq6) (cwV 2 X.ts gX8_mixBird_X8_of rfl rfl rfl (by decide +kernel) ⟨Nat.le_of_ble_eq_true rfl, Nat.le_of_ble_eq_true rfl⟩) (gr8 X hP kc_129 (sk_in hN kc_129 (by decide))) rfl hl.1 rfl (Nat.le_of_ble_eq_true rfl) dX8_mixBird_17 ⟨Nat.le_of_ble_eq_true rfl, Nat.le_of_ble_eq_true rfl⟩ (fun r5 u9 H locs hw hP hS => ?_)
  have hw := hw.symm
  subst hw
  refine lv_sipush (v := 400) hx hb dX8_mixBird_20 (by decide) ?_
  refine lv_idiv hx hb dX8_mixBird_23 (by decide) ?_
  refine lv_i2l (v := ((r5 / (400 : Int32))).toInt64) hx hb dX8_mixBird_24 rfl ?_
  obtain ⟨q8, hcq8, h⟩ := hb_some h
  refine gdV_v (As := [.long (((r5 / (400 : Int32))).toInt64)]) (rest := []) (BH := (fun (u : Nat → Nat → Int64) H => va_P (dC, dI) vwCl (hW N ca b I O u) H)) X hP hS (c_X8_mixes hN hA I O J3 (((r5 / (400 : Int32))).toInt64) q8 hcq8) (cwV 1 X.ts gX8_mixBird_X8_mixes rfl rfl rfl (by decide +kernel) ⟨Nat.le_of_ble_eq_true rfl, Nat.le_of_ble_eq_true rfl⟩) (gr8 X hP kc_129 (sk_in hN kc_129 (by decide))) rfl hl.1 rfl (Nat.le_of_ble_eq_true rfl) dX8_mixBird_25 ⟨Nat.le_of_ble_eq_true rfl, Nat.le_of_ble_eq_true rfl⟩ (fun J7 H locs hw hP hS => ?_)
  have hw := hw.symm
  subst hw
  refine lv_aload_n hx hb dX8_mixBird_28 rfl (lv_at hl 0 rfl) ?_
  refine lv_aload_n hx hb dX8_mixBird_29 rfl (lv_at hl 0 rfl) ?_
  refine lv_iload_n hx hb dX8_mixBird_30 rfl (lv_at hl 1 rfl) ?_
  refine lv_bipush (v := 8) hx hb dX8_mixBird_31 (by decide) ?_
  obtain ⟨q10, hcq10, h⟩ := hb_some h
  refine gdV_i (As := [.int a1, .int (8 : Int32)]) (rest := [.ref (b 129)]) (BH := (fun (u : Unit) H => va_P (dC, dI) vwCl (hW N ca b I O J7) H)) X hP hS (c_X8_of hN hA I O J7 a1 (8 : Int32) q10 hcq10) (cwV 2 X.ts gX8_mixBird_X8_of rfl rfl rfl (by decide +kernel) ⟨Nat.le_of_ble_eq_true rfl, Nat.le_of_ble_eq_true rfl⟩) (gr8 X hP kc_129 (sk_in hN kc_129 (by decide))) rfl hl.1 rfl (Nat.le_of_ble_eq_true rfl) dX8_mixBird_33 ⟨Nat.le_of_ble_eq_true rfl, Nat.le_of_ble_eq_true rfl⟩ (fun r9 u9 H locs hw hP hS => ?_)
  have hw := hw.symm
  subst hw
  refine lv_i2l (v := (r9).toInt64) hx hb dX8_mixBird_36 rfl ?_
  obtain ⟨q12, hcq12, h⟩ := hb_some h
  refine gdV_v (As := [.long ((r9).toInt64)]) (rest := []) (BH := (fun (u : Nat → Nat → Int64) H => va_P (dC, dI) vwCl (hW N ca b I O u) H)) X hP hS (c_X8_mixes hN hA I O J7 ((r9).toInt64) q12 hcq12) (cwV 1 X.ts gX8_mixBird_X8_mixes rfl rfl rfl (by decide +kernel) ⟨Nat.le_of_ble_eq_true rfl, Nat.le_of_ble_eq_true rfl⟩) (gr8 X hP kc_129 (sk_in hN kc_129 (by decide))) rfl hl.1 rfl (Nat.le_of_ble_eq_true rfl) dX8_mixBird_37 ⟨Nat.le_of_ble_eq_true rfl, Nat.le_of_ble_eq_true rfl⟩ (fun J11 H locs hw hP hS => ?_)
  have hw := hw.symm
  subst hw
  refine lv_aload_n hx hb dX8_mixBird_40 rfl (lv_at hl 0 rfl) ?_
  refine lv_aload_n hx hb dX8_mixBird_41 rfl (lv_at hl 0 rfl) ?_
  refine lv_iload_n hx hb dX8_mixBird_42 rfl (lv_at hl 1 rfl) ?_
  refine lv_iconst (v := 3) hx hb dX8_mixBird_43 (by decide) ?_
  obtain ⟨q14, hcq14, h⟩ := hb_some h
  refine gdV_i (As := [.int a1, .int (3 : Int32)]) (rest := [.ref (b 129)]) (BH := (fun (u : Unit) H => va_P (dC, dI) vwCl (hW N ca b I O J11) H)) X hP hS (c_X8_of hN hA I O J11 a1 (3 : Int32) q14 hcq14) (cwV 2 X.ts gX8_mixBird_X8_of rfl rfl rfl (by decide +kernel) ⟨Nat.le_of_ble_eq_true rfl, Nat.le_of_ble_eq_true rfl⟩) (gr8 X hP kc_129 (sk_in hN kc_129 (by decide))) rfl hl.1 rfl (Nat.le_of_ble_eq_true rfl) dX8_mixBird_44 ⟨Nat.le_of_ble_eq_true rfl, Nat.le_of_ble_eq_true rfl⟩ (fun r13 u9 H locs hw hP hS => ?_)
  have hw := hw.symm
  subst hw
  refine lv_i2l (v := (r13).toInt64) hx hb dX8_mixBird_47 rfl ?_
  obtain ⟨q16, hcq16, h⟩ := hb_some h
  refine gdV_v (As := [.long ((r13).toInt64)]) (rest := []) (BH := (fun (u : Nat → Nat → Int64) H => va_P (dC, dI) vwCl (hW N ca b I O u) H)) X hP hS (c_X8_mixes hN hA I O J11 ((r13).toInt64) q16 hcq16) (cwV 1 X.ts gX8_mixBird_X8_mixes rfl rfl rfl (by decide +kernel) ⟨Nat.le_of_ble_eq_true rfl, Nat.le_of_ble_eq_true rfl⟩) (gr8 X hP kc_129 (sk_in hN kc_129 (by decide))) rfl hl.1 rfl (Nat.le_of_ble_eq_true rfl) dX8_mixBird_48 ⟨Nat.le_of_ble_eq_true rfl, Nat.le_of_ble_eq_true rfl⟩ (fun J15 H locs hw hP hS => ?_)
  have hw := hw.symm
  subst hw
  refine lv_aload_n hx hb dX8_mixBird_51 rfl (lv_at hl 0 rfl) ?_
  refine lv_aload_n hx hb dX8_mixBird_52 rfl (lv_at hl 0 rfl) ?_
  refine lv_iload_n hx hb dX8_mixBird_53 rfl (lv_at hl 1 rfl) ?_
  refine lv_iconst (v := 4) hx hb dX8_mixBird_54 (by decide) ?_
  obtain ⟨q18, hcq18, h⟩ := hb_some h
  refine gdV_i (As := [.int a1, .int (4 : Int32)]) (rest := [.ref (b 129)]) (BH := (fun (u : Unit) H => va_P (dC, dI) vwCl (hW N ca b I O J15) H)) X hP hS (c_X8_of hN hA I O J15 a1 (4 : Int32) q18 hcq18) (cwV 2 X.ts gX8_mixBird_X8_of rfl rfl rfl (by decide +kernel) ⟨Nat.le_of_ble_eq_true rfl, Nat.le_of_ble_eq_true rfl⟩) (gr8 X hP kc_129 (sk_in hN kc_129 (by decide))) rfl hl.1 rfl (Nat.le_of_ble_eq_true rfl) dX8_mixBird_55 ⟨Nat.le_of_ble_eq_true rfl, Nat.le_of_ble_eq_true rfl⟩ (fun r17 u9 H locs hw hP hS => ?_)
  have hw := hw.symm
  subst hw
  refine lv_i2l (v := (r17).toInt64) hx hb dX8_mixBird_58 rfl ?_
  obtain ⟨q20, hcq20, h⟩ := hb_some h
  refine gdV_v (As := [.long ((r17).toInt64)]) (rest := []) (BH := (fun (u : Nat → Nat → Int64) H => va_P (dC, dI) vwCl (hW N ca b I O u) H)) X hP hS (c_X8_mixes hN hA I O J15 ((r17).toInt64) q20 hcq20) (cwV 1 X.ts gX8_mixBird_X8_mixes rfl rfl rfl (by decide +kernel) ⟨Nat.le_of_ble_eq_true rfl, Nat.le_of_ble_eq_true rfl⟩) (gr8 X hP kc_129 (sk_in hN kc_129 (by decide))) rfl hl.1 rfl (Nat.le_of_ble_eq_true rfl) dX8_mixBird_59 ⟨Nat.le_of_ble_eq_true rfl, Nat.le_of_ble_eq_true rfl⟩ (fun J19 H locs hw hP hS => ?_)
  have hw := hw.symm
  subst hw
  refine lv_aload_n hx hb dX8_mixBird_62 rfl (lv_at hl 0 rfl) ?_
  refine lv_aload_n hx hb dX8_mixBird_63 rfl (lv_at hl 0 rfl) ?_
  refine lv_iload_n hx hb dX8_mixBird_64 rfl (lv_at hl 1 rfl) ?_
  refine lv_iconst (v := 5) hx hb dX8_mixBird_65 (by decide) ?_
  obtain ⟨q22, hcq22, h⟩ := hb_some h
  refine gdV_i (As := [.int a1, .int (5 : Int32)]) (rest := [.ref (b 129)]) (BH := (fun (u : Unit) H => va_P (dC, dI) vwCl (hW N ca b I O J19) H)) X hP hS (c_X8_of hN hA I O J19 a1 (5 : Int32) q22 hcq22) (cwV 2 X.ts gX8_mixBird_X8_of rfl rfl rfl (by decide +kernel) ⟨Nat.le_of_ble_eq_true rfl, Nat.le_of_ble_eq_true rfl⟩) (gr8 X hP kc_129 (sk_in hN kc_129 (by decide))) rfl hl.1 rfl (Nat.le_of_ble_eq_true rfl) dX8_mixBird_66 ⟨Nat.le_of_ble_eq_true rfl, Nat.le_of_ble_eq_true rfl⟩ (fun r21 u9 H locs hw hP hS => ?_)
  have hw := hw.symm
  subst hw
  refine lv_i2l (v := (r21).toInt64) hx hb dX8_mixBird_69 rfl ?_
  obtain ⟨q24, hcq24, h⟩ := hb_some h
  refine gdV_v (As := [.long ((r21).toInt64)]) (rest := []) (BH := (fun (u : Nat → Nat → Int64) H => va_P (dC, dI) vwCl (hW N ca b I O u) H)) X hP hS (c_X8_mixes hN hA I O J19 ((r21).toInt64) q24 hcq24) (cwV 1 X.ts gX8_mixBird_X8_mixes rfl rfl rfl (by decide +kernel) ⟨Nat.le_of_ble_eq_true rfl, Nat.le_of_ble_eq_true rfl⟩) (gr8 X hP kc_129 (sk_in hN kc_129 (by decide))) rfl hl.1 rfl (Nat.le_of_ble_eq_true rfl) dX8_mixBird_70 ⟨Nat.le_of_ble_eq_true rfl, Nat.le_of_ble_eq_true rfl⟩ (fun J23 H locs hw hP hS => ?_)
  have hw := hw.symm
  subst hw
  refine lv_aload_n hx hb dX8_mixBird_73 rfl (lv_at hl 0 rfl) ?_
  refine lv_aload_n hx hb dX8_mixBird_74 rfl (lv_at hl 0 rfl) ?_
  refine lv_iload_n hx hb dX8_mixBird_75 rfl (lv_at hl 1 rfl) ?_
  refine lv_bipush (v := 6) hx hb dX8_mixBird_76 (by decide) ?_
  obtain ⟨q26, hcq26, h⟩ := hb_some h
  refine gdV_i (As := [.int a1, .int (6 : Int32)]) (rest := [.ref (b 129)]) (BH := (fun (u : Unit) H => va_P (dC, dI) vwCl (hW N ca b I O J23) H)) X hP hS (c_X8_of hN hA I O J23 a1 (6 : Int32) q26 hcq26) (cwV 2 X.ts gX8_mixBird_X8_of rfl rfl rfl (by decide +kernel) ⟨Nat.le_of_ble_eq_true rfl, Nat.le_of_ble_eq_true rfl⟩) (gr8 X hP kc_129 (sk_in hN kc_129 (by decide))) rfl hl.1 rfl (Nat.le_of_ble_eq_true rfl) dX8_mixBird_78 ⟨Nat.le_of_ble_eq_true rfl, Nat.le_of_ble_eq_true rfl⟩ (fun r25 u9 H locs hw hP hS => ?_)
  have hw := hw.symm
  subst hw
  refine lv_i2l (v := (r25).toInt64) hx hb dX8_mixBird_81 rfl ?_
  obtain ⟨q28, hcq28, h⟩ := hb_some h
  refine gdV_v (As := [.long ((r25).toInt64)]) (rest := []) (BH := (fun (u : Nat → Nat → Int64) H => va_P (dC, dI) vwCl (hW N ca b I O u) H)) X hP hS (c_X8_mixes hN hA I O J23 ((r25).toInt64) q28 hcq28) (cwV 1 X.ts gX8_mixBird_X8_mixes rfl rfl rfl (by decide +kernel) ⟨Nat.le_of_ble_eq_true rfl, Nat.le_of_ble_eq_true rfl⟩) (gr8 X hP kc_129 (sk_in hN kc_129 (by decide))) rfl hl.1 rfl (Nat.le_of_ble_eq_true rfl) dX8_mixBird_82 ⟨Nat.le_of_ble_eq_true rfl, Nat.le_of_ble_eq_true rfl⟩ (fun J27 H locs hw hP hS => ?_)
  have hw := hw.symm
  subst hw
  refine lv_aload_n hx hb dX8_mixBird_85 rfl (lv_at hl 0 rfl) ?_
  refine lv_aload_n hx hb dX8_mixBird_86 rfl (lv_at hl 0 rfl) ?_
  refine lv_iload_n hx hb dX8_mixBird_87 rfl (lv_at hl 1 rfl) ?_
  refine lv_iconst (v := 0) hx hb dX8_mixBird_88 (by decide) ?_
  obtain ⟨q30, hcq30, h⟩ := hb_some h
  refine gdV_i (As := [.int a1, .int (0 : Int32)]) (rest := [.ref (b 129)]) (BH := (fun (u : Unit) H => va_P (dC, dI) vwCl (hW N ca b I O J27) H)) X hP hS (c_X8_of hN hA I O J27 a1 (0 : Int32) q30 hcq30) (cwV 2 X.ts gX8_mixBird_X8_of rfl rfl rfl (by decide +kernel) ⟨Nat.le_of_ble_eq_true rfl, Nat.le_of_ble_eq_true rfl⟩) (gr8 X hP kc_129 (sk_in hN kc_129 (by decide))) rfl hl.1 rfl (Nat.le_of_ble_eq_true rfl) dX8_mixBird_89 ⟨Nat.le_of_ble_eq_true rfl, Nat.le_of_ble_eq_true rfl⟩ (fun r29 u9 H locs hw hP hS => ?_)
  have hw := hw.symm
  subst hw
  refine lv_i2l (v := (r29).toInt64) hx hb dX8_mixBird_92 rfl ?_
  obtain ⟨q32, hcq32, h⟩ := hb_some h
  refine gdV_v (As := [.long ((r29).toInt64)]) (rest := []) (BH := (fun (u : Nat → Nat → Int64) H => va_P (dC, dI) vwCl (hW N ca b I O u) H)) X hP hS (c_X8_mixes hN hA I O J27 ((r29).toInt64) q32 hcq32) (cwV 1 X.ts gX8_mixBird_X8_mixes rfl rfl rfl (by decide +kernel) ⟨Nat.le_of_ble_eq_true rfl, Nat.le_of_ble_eq_true rfl⟩) (gr8 X hP kc_129 (sk_in hN kc_129 (by decide))) rfl hl.1 rfl (Nat.le_of_ble_eq_true rfl) dX8_mixBird_93 ⟨Nat.le_of_ble_eq_true rfl, Nat.le_of_ble_eq_true rfl⟩ (fun J31 H locs hw hP hS => ?_)
  have hw := hw.symm
  subst hw
  refine lv_aload_n hx hb dX8_mixBird_96 rfl (lv_at hl 0 rfl) ?_
  refine lv_aload_n hx hb dX8_mixBird_97 rfl (lv_at hl 0 rfl) ?_
  refine lv_iload_n hx hb dX8_mixBird_98 rfl (lv_at hl 1 rfl) ?_
  refine lv_bipush (v := 10) hx hb dX8_mixBird_99 (by decide) ?_
  obtain ⟨q34, hcq34, h⟩ := hb_some h
  refine gdV_i (As := [.int a1, .int (10 : Int32)]) (rest := [.ref (b 129)]) (BH := (fun (u : Unit) H => va_P (dC, dI) vwCl (hW N ca b I O J31) H)) X hP hS (c_X8_of hN hA I O J31 a1 (10 : Int32) q34 hcq34) (cwV 2 X.ts gX8_mixBird_X8_of rfl rfl rfl (by decide +kernel) ⟨Nat.le_of_ble_eq_true rfl, Nat.le_of_ble_eq_true rfl⟩) (gr8 X hP kc_129 (sk_in hN kc_129 (by decide))) rfl hl.1 rfl (Nat.le_of_ble_eq_true rfl) dX8_mixBird_101 ⟨Nat.le_of_ble_eq_true rfl, Nat.le_of_ble_eq_true rfl⟩ (fun r33 u9 H locs hw hP hS => ?_)
  have hw := hw.symm
  subst hw
  refine lv_i2l (v := (r33).toInt64) hx hb dX8_mixBird_104 rfl ?_
  obtain ⟨q36, hcq36, h⟩ := hb_some h
  refine gdV_v (As := [.long ((r33).toInt64)]) (rest := []) (BH := (fun (u : Nat → Nat → Int64) H => va_P (dC, dI) vwCl (hW N ca b I O u) H)) X hP hS (c_X8_mixes hN hA I O J31 ((r33).toInt64) q36 hcq36) (cwV 1 X.ts gX8_mixBird_X8_mixes rfl rfl rfl (by decide +kernel) ⟨Nat.le_of_ble_eq_true rfl, Nat.le_of_ble_eq_true rfl⟩) (gr8 X hP kc_129 (sk_in hN kc_129 (by decide))) rfl hl.1 rfl (Nat.le_of_ble_eq_true rfl) dX8_mixBird_105 ⟨Nat.le_of_ble_eq_true rfl, Nat.le_of_ble_eq_true rfl⟩ (fun J35 H locs hw hP hS => ?_)
  have hw := hw.symm
  subst hw
  refine lv_aload_n hx hb dX8_mixBird_108 rfl (lv_at hl 0 rfl) ?_
  refine lv_aload_n hx hb dX8_mixBird_109 rfl (lv_at hl 0 rfl) ?_
  refine lv_iload_n hx hb dX8_mixBird_110 rfl (lv_at hl 1 rfl) ?_
  refine lv_bipush (v := 9) hx hb dX8_mixBird_111 (by decide) ?_
  obtain ⟨q38, hcq38, h⟩ := hb_some h
  refine gdV_i (As := [.int a1, .int (9 : Int32)]) (rest := [.ref (b 129)]) (BH := (fun (u : Unit) H => va_P (dC, dI) vwCl (hW N ca b I O J35) H)) X hP hS (c_X8_of hN hA I O J35 a1 (9 : Int32) q38 hcq38) (cwV 2 X.ts gX8_mixBird_X8_of rfl rfl rfl (by decide +kernel) ⟨Nat.le_of_ble_eq_true rfl, Nat.le_of_ble_eq_true rfl⟩) (gr8 X hP kc_129 (sk_in hN kc_129 (by decide))) rfl hl.1 rfl (Nat.le_of_ble_eq_true rfl) dX8_mixBird_113 ⟨Nat.le_of_ble_eq_true rfl, Nat.le_of_ble_eq_true rfl⟩ (fun r37 u9 H locs hw hP hS => ?_)
  have hw := hw.symm
  subst hw
  refine lv_i2l (v := (r37).toInt64) hx hb dX8_mixBird_116 rfl ?_
  obtain ⟨q40, hcq40, h⟩ := hb_some h
  refine gdV_v (As := [.long ((r37).toInt64)]) (rest := []) (BH := (fun (u : Nat → Nat → Int64) H => va_P (dC, dI) vwCl (hW N ca b I O u) H)) X hP hS (c_X8_mixes hN hA I O J35 ((r37).toInt64) q40 hcq40) (cwV 1 X.ts gX8_mixBird_X8_mixes rfl rfl rfl (by decide +kernel) ⟨Nat.le_of_ble_eq_true rfl, Nat.le_of_ble_eq_true rfl⟩) (gr8 X hP kc_129 (sk_in hN kc_129 (by decide))) rfl hl.1 rfl (Nat.le_of_ble_eq_true rfl) dX8_mixBird_117 ⟨Nat.le_of_ble_eq_true rfl, Nat.le_of_ble_eq_true rfl⟩ (fun J39 H locs hw hP hS => ?_)
  have hw := hw.symm
  subst hw
  refine lv_aload_n hx hb dX8_mixBird_120 rfl (lv_at hl 0 rfl) ?_
  refine lv_aload_n hx hb dX8_mixBird_121 rfl (lv_at hl 0 rfl) ?_
  refine lv_iload_n hx hb dX8_mixBird_122 rfl (lv_at hl 1 rfl) ?_
  obtain ⟨q42, hcq42, h⟩ := hb_some h
  refine gdV_i (As := [.int a1]) (rest := [.ref (b 129)]) (BH := (fun (u : Unit) H => va_P (dC, dI) vwCl (hW N ca b I O J39) H)) X hP hS (c_X8_place hN hA I O J39 a1 q42 hcq42) (cwV 1 X.ts gX8_mixBird_X8_place rfl rfl rfl (by decide +kernel) ⟨Nat.le_of_ble_eq_true rfl, Nat.le_of_ble_eq_true rfl⟩) (gr8 X hP kc_129 (sk_in hN kc_129 (by decide))) rfl hl.1 rfl (Nat.le_of_ble_eq_true rfl) dX8_mixBird_123 ⟨Nat.le_of_ble_eq_true rfl, Nat.le_of_ble_eq_true rfl⟩ (fun r41 u9 H locs hw hP hS => ?_)
  have hw := hw.symm
  subst hw
  refine lv_i2l (v := (r41).toInt64) hx hb dX8_mixBird_126 rfl ?_
  obtain ⟨q44, hcq44, h⟩ := hb_some h
  refine gdV_v (As := [.long ((r41).toInt64)]) (rest := []) (BH := (fun (u : Nat → Nat → Int64) H => va_P (dC, dI) vwCl (hW N ca b I O u) H)) X hP hS (c_X8_mixes hN hA I O J39 ((r41).toInt64) q44 hcq44) (cwV 1 X.ts gX8_mixBird_X8_mixes rfl rfl rfl (by decide +kernel) ⟨Nat.le_of_ble_eq_true rfl, Nat.le_of_ble_eq_true rfl⟩) (gr8 X hP kc_129 (sk_in hN kc_129 (by decide))) rfl hl.1 rfl (Nat.le_of_ble_eq_true rfl) dX8_mixBird_127 ⟨Nat.le_of_ble_eq_true rfl, Nat.le_of_ble_eq_true rfl⟩ (fun J43 H locs hw hP hS => ?_)
  have hw := hw.symm
  subst hw
  refine lv_aload_n hx hb dX8_mixBird_130 rfl (lv_at hl 0 rfl) ?_
  refine lv_aload_n hx hb dX8_mixBird_131 rfl (lv_at hl 0 rfl) ?_
  refine lv_iload_n hx hb dX8_mixBird_132 rfl (lv_at hl 1 rfl) ?_
  refine lv_aload_n hx hb dX8_mixBird_133 rfl (lv_at hl 0 rfl) ?_
  refine lv_iload_n hx hb dX8_mixBird_134 rfl (lv_at hl 1 rfl) ?_
  refine lv_iconst (v := 5) hx hb dX8_mixBird_135 (by decide) ?_
  obtain ⟨q46, hcq46, h⟩ := hb_some h
  refine gdV_i (As := [.int a1, .int (5 : Int32)]) (rest := [.int a1, .ref (b 129), .ref (b 129)]) (BH := (fun (u : Unit) H => va_P (dC, dI) vwCl (hW N ca b I O J43) H)) X hP hS (c_X8_of hN hA I O J43 a1 (5 : Int32) q46 hcq46) (cwV 2 X.ts gX8_mixBird_X8_of rfl rfl rfl (by decide +kernel) ⟨Nat.le_of_ble_eq_true rfl, Nat.le_of_ble_eq_true rfl⟩) (gr8 X hP kc_129 (sk_in hN kc_129 (by decide))) rfl hl.1 rfl (Nat.le_of_ble_eq_true rfl) dX8_mixBird_136 ⟨Nat.le_of_ble_eq_true rfl, Nat.le_of_ble_eq_true rfl⟩ (fun r45 u9 H locs hw hP hS => ?_)
  have hw := hw.symm
  subst hw
  obtain ⟨q48, hcq48, h⟩ := hb_some h
  refine gdV_i (As := [.int a1, .int r45]) (rest := [.ref (b 129)]) (BH := (fun (u : Unit) H => va_P (dC, dI) vwCl (hW N ca b I O J43) H)) X hP hS (c_X8_gap hN hA I O J43 a1 r45 q48 hcq48) (cwV 2 X.ts gX8_mixBird_X8_gap rfl rfl rfl (by decide +kernel) ⟨Nat.le_of_ble_eq_true rfl, Nat.le_of_ble_eq_true rfl⟩) (gr8 X hP kc_129 (sk_in hN kc_129 (by decide))) rfl hl.1 rfl (Nat.le_of_ble_eq_true rfl) dX8_mixBird_139 ⟨Nat.le_of_ble_eq_true rfl, Nat.le_of_ble_eq_true rfl⟩ (fun r47 u9 H locs hw hP hS => ?_)
  have hw := hw.symm
  subst hw
  refine lv_i2l (v := (r47).toInt64) hx hb dX8_mixBird_142 rfl ?_
  obtain ⟨q50, hcq50, h⟩ := hb_some h
  refine gdV_v (As := [.long ((r47).toInt64)]) (rest := []) (BH := (fun (u : Nat → Nat → Int64) H => va_P (dC, dI) vwCl (hW N ca b I O u) H)) X hP hS (c_X8_mixes hN hA I O J43 ((r47).toInt64) q50 hcq50) (cwV 1 X.ts gX8_mixBird_X8_mixes rfl rfl rfl (by decide +kernel) ⟨Nat.le_of_ble_eq_true rfl, Nat.le_of_ble_eq_true rfl⟩) (gr8 X hP kc_129 (sk_in hN kc_129 (by decide))) rfl hl.1 rfl (Nat.le_of_ble_eq_true rfl) dX8_mixBird_143 ⟨Nat.le_of_ble_eq_true rfl, Nat.le_of_ble_eq_true rfl⟩ (fun J49 H locs hw hP hS => ?_)
  have hw := hw.symm
  subst hw
  refine lv_aload_n hx hb dX8_mixBird_146 rfl (lv_at hl 0 rfl) ?_
  refine lv_aload_n hx hb dX8_mixBird_147 rfl (lv_at hl 0 rfl) ?_
  refine lv_iload_n hx hb dX8_mixBird_148 rfl (lv_at hl 1 rfl) ?_
  obtain ⟨q52, hcq52, h⟩ := hb_some h
  refine gdV_i (As := [.int a1]) (rest := [.ref (b 129)]) (BH := (fun (u : Unit) H => va_P (dC, dI) vwCl (hW N ca b I O J49) H)) X hP hS (c_X8_flies hN hA I O J49 a1 q52 hcq52) (cwV 1 X.ts gX8_mixBird_X8_flies rfl rfl rfl (by decide +kernel) ⟨Nat.le_of_ble_eq_true rfl, Nat.le_of_ble_eq_true rfl⟩) (gr8 X hP kc_129 (sk_in hN kc_129 (by decide))) rfl hl.1 rfl (Nat.le_of_ble_eq_true rfl) dX8_mixBird_149 ⟨Nat.le_of_ble_eq_true rfl, Nat.le_of_ble_eq_true rfl⟩ (fun r51 u9 H locs hw hP hS => ?_)
  have hw := hw.symm
  subst hw
  obtain ⟨p53, hv, h⟩ := hb_some h
  have K168 : ∀ (H : Heap) (locs : List Loc) (ls : Array Slot), va_P (dC, dI) vwCl (hW N ca b I O J49) H → va_S A s.heap H locs → lv_has ls 2 [(0, .ref (b 129)), (1, .int a1)] → W p l e (headSpec wsX8_mixBird ({ frames := 8, cells := 0, slots := 0, locals := 197 } : Room)).room s m ([.ref (b 129), .int a1] : List Value).toArray below meth c H locs 0 0 (MQ below (va_Qv (fun (u : (Nat → Nat → Int32) × (Nat → Nat → Int64)) => res = u) (fun (u : (Nat → Nat → Int32) × (Nat → Nat → Int64)) t => va_P (dC, dI) vwCl (hW N ca b u.1 O u.2) t.heap) A) ([.ref (b 129), .int a1] : List Value).toArray s 0 0 A) (F0 m 168 ls [.long p53, .ref (b 129)]) := by
    intro H locs ls hP hS hl
    obtain ⟨q55, hcq55, h⟩ := hb_some h
    refine gdV_v (As := [.long p53]) (rest := []) (BH := (fun (u : Nat → Nat → Int64) H => va_P (dC, dI) vwCl (hW N ca b I O u) H)) X hP hS (c_X8_mixes hN hA I O J49 p53 q55 hcq55) (cwV 1 X.ts gX8_mixBird_X8_mixes rfl rfl rfl (by decide +kernel) ⟨Nat.le_of_ble_eq_true rfl, Nat.le_of_ble_eq_true rfl⟩) (gr8 X hP kc_129 (sk_in hN kc_129 (by decide))) rfl hl.1 rfl (Nat.le_of_ble_eq_true rfl) dX8_mixBird_168 ⟨Nat.le_of_ble_eq_true rfl, Nat.le_of_ble_eq_true rfl⟩ (fun J54 H locs hw hP hS => ?_)
    have hw := hw.symm
    subst hw
    refine lv_aload_n hx hb dX8_mixBird_171 rfl (lv_at hl 0 rfl) ?_
    refine lv_aload_n hx hb dX8_mixBird_172 rfl (lv_at hl 0 rfl) ?_
    refine lv_iload_n hx hb dX8_mixBird_173 rfl (lv_at hl 1 rfl) ?_
    obtain ⟨q57, hcq57, h⟩ := hb_some h
    refine gdV_i (As := [.int a1]) (rest := [.ref (b 129)]) (BH := (fun (u : Unit) H => va_P (dC, dI) vwCl (hW N ca b I O J54) H)) X hP hS (c_X8_where hN hA I O J54 a1 q57 hcq57) (cwV 1 X.ts gX8_mixBird_X8_where rfl rfl rfl (by decide +kernel) ⟨Nat.le_of_ble_eq_true rfl, Nat.le_of_ble_eq_true rfl⟩) (gr8 X hP kc_129 (sk_in hN kc_129 (by decide))) rfl hl.1 rfl (Nat.le_of_ble_eq_true rfl) dX8_mixBird_174 ⟨Nat.le_of_ble_eq_true rfl, Nat.le_of_ble_eq_true rfl⟩ (fun r56 u9 H locs hw hP hS => ?_)
    have hw := hw.symm
    subst hw
    refine lv_i2l (v := (r56).toInt64) hx hb dX8_mixBird_177 rfl ?_
    obtain ⟨q59, hcq59, h⟩ := hb_some h
    refine gdV_v (As := [.long ((r56).toInt64)]) (rest := []) (BH := (fun (u : Nat → Nat → Int64) H => va_P (dC, dI) vwCl (hW N ca b I O u) H)) X hP hS (c_X8_mixes hN hA I O J54 ((r56).toInt64) q59 hcq59) (cwV 1 X.ts gX8_mixBird_X8_mixes rfl rfl rfl (by decide +kernel) ⟨Nat.le_of_ble_eq_true rfl, Nat.le_of_ble_eq_true rfl⟩) (gr8 X hP kc_129 (sk_in hN kc_129 (by decide))) rfl hl.1 rfl (Nat.le_of_ble_eq_true rfl) dX8_mixBird_178 ⟨Nat.le_of_ble_eq_true rfl, Nat.le_of_ble_eq_true rfl⟩ (fun J58 H locs hw hP hS => ?_)
    have hw := hw.symm
    subst hw
    refine lv_aload_n hx hb dX8_mixBird_181 rfl (lv_at hl 0 rfl) ?_
    refine lv_aload_n hx hb dX8_mixBird_182 rfl (lv_at hl 0 rfl) ?_
    refine lv_iload_n hx hb dX8_mixBird_183 rfl (lv_at hl 1 rfl) ?_
    obtain ⟨q61, hcq61, h⟩ := hb_some h
    refine gdV_i (As := [.int a1]) (rest := [.ref (b 129)]) (BH := (fun (u : Unit) H => va_P (dC, dI) vwCl (hW N ca b I O J58) H)) X hP hS (c_X8_flies hN hA I O J58 a1 q61 hcq61) (cwV 1 X.ts gX8_mixBird_X8_flies rfl rfl rfl (by decide +kernel) ⟨Nat.le_of_ble_eq_true rfl, Nat.le_of_ble_eq_true rfl⟩) (gr8 X hP kc_129 (sk_in hN kc_129 (by decide))) rfl hl.1 rfl (Nat.le_of_ble_eq_true rfl) dX8_mixBird_184 ⟨Nat.le_of_ble_eq_true rfl, Nat.le_of_ble_eq_true rfl⟩ (fun r60 u9 H locs hw hP hS => ?_)
    have hw := hw.symm
    subst hw
    obtain ⟨p62, hv, h⟩ := hb_some h
    have K200 : ∀ (H : Heap) (locs : List Loc) (ls : Array Slot), va_P (dC, dI) vwCl (hW N ca b I O J58) H → va_S A s.heap H locs → lv_has ls 2 [(0, .ref (b 129)), (1, .int a1)] → W p l e (headSpec wsX8_mixBird ({ frames := 8, cells := 0, slots := 0, locals := 197 } : Room)).room s m ([.ref (b 129), .int a1] : List Value).toArray below meth c H locs 0 0 (MQ below (va_Qv (fun (u : (Nat → Nat → Int32) × (Nat → Nat → Int64)) => res = u) (fun (u : (Nat → Nat → Int32) × (Nat → Nat → Int64)) t => va_P (dC, dI) vwCl (hW N ca b u.1 O u.2) t.heap) A) ([.ref (b 129), .int a1] : List Value).toArray s 0 0 A) (F0 m 200 ls [.long p62, .ref (b 129)]) := by
      intro H locs ls hP hS hl
      obtain ⟨q64, hcq64, h⟩ := hb_some h
      refine gdV_v (As := [.long p62]) (rest := []) (BH := (fun (u : Nat → Nat → Int64) H => va_P (dC, dI) vwCl (hW N ca b I O u) H)) X hP hS (c_X8_mixes hN hA I O J58 p62 q64 hcq64) (cwV 1 X.ts gX8_mixBird_X8_mixes rfl rfl rfl (by decide +kernel) ⟨Nat.le_of_ble_eq_true rfl, Nat.le_of_ble_eq_true rfl⟩) (gr8 X hP kc_129 (sk_in hN kc_129 (by decide))) rfl hl.1 rfl (Nat.le_of_ble_eq_true rfl) dX8_mixBird_200 ⟨Nat.le_of_ble_eq_true rfl, Nat.le_of_ble_eq_true rfl⟩ (fun J63 H locs hw hP hS => ?_)
      have hw := hw.symm
      subst hw
      refine lv_aload_n hx hb dX8_mixBird_203 rfl (lv_at hl 0 rfl) ?_
      refine lv_aload_n hx hb dX8_mixBird_204 rfl (lv_at hl 0 rfl) ?_
      refine lv_iload_n hx hb dX8_mixBird_205 rfl (lv_at hl 1 rfl) ?_
      obtain ⟨q66, hcq66, h⟩ := hb_some h
      refine gdV_i (As := [.int a1]) (rest := [.ref (b 129)]) (BH := (fun (u : Unit) H => va_P (dC, dI) vwCl (hW N ca b I O J63) H)) X hP hS (c_X8_isOver hN hA I O J63 a1 q66 hcq66) (cwV 1 X.ts gX8_mixBird_X8_isOver rfl rfl rfl (by decide +kernel) ⟨Nat.le_of_ble_eq_true rfl, Nat.le_of_ble_eq_true rfl⟩) (gr8 X hP kc_129 (sk_in hN kc_129 (by decide))) rfl hl.1 rfl (Nat.le_of_ble_eq_true rfl) dX8_mixBird_206 ⟨Nat.le_of_ble_eq_true rfl, Nat.le_of_ble_eq_true rfl⟩ (fun r65 u9 H locs hw hP hS => ?_)
      have hw := hw.symm
      subst hw
      obtain ⟨p67, hv, h⟩ := hb_some h
      have K224 : ∀ (H : Heap) (locs : List Loc) (ls : Array Slot), va_P (dC, dI) vwCl (hW N ca b I O J63) H → va_S A s.heap H locs → lv_has ls 2 [(0, .ref (b 129)), (1, .int a1)] → W p l e (headSpec wsX8_mixBird ({ frames := 8, cells := 0, slots := 0, locals := 197 } : Room)).room s m ([.ref (b 129), .int a1] : List Value).toArray below meth c H locs 0 0 (MQ below (va_Qv (fun (u : (Nat → Nat → Int32) × (Nat → Nat → Int64)) => res = u) (fun (u : (Nat → Nat → Int32) × (Nat → Nat → Int64)) t => va_P (dC, dI) vwCl (hW N ca b u.1 O u.2) t.heap) A) ([.ref (b 129), .int a1] : List Value).toArray s 0 0 A) (F0 m 224 ls [.long p67, .ref (b 129)]) := by
        intro H locs ls hP hS hl
        obtain ⟨q69, hcq69, h⟩ := hb_some h
        refine gdV_v (As := [.long p67]) (rest := []) (BH := (fun (u : Nat → Nat → Int64) H => va_P (dC, dI) vwCl (hW N ca b I O u) H)) X hP hS (c_X8_mixes hN hA I O J63 p67 q69 hcq69) (cwV 1 X.ts gX8_mixBird_X8_mixes rfl rfl rfl (by decide +kernel) ⟨Nat.le_of_ble_eq_true rfl, Nat.le_of_ble_eq_true rfl⟩) (gr8 X hP kc_129 (sk_in hN kc_129 (by decide))) rfl hl.1 rfl (Nat.le_of_ble_eq_true rfl) dX8_mixBird_224 ⟨Nat.le_of_ble_eq_true rfl, Nat.le_of_ble_eq_true rfl⟩ (fun J68 H locs hw hP hS => ?_)
        have hw := hw.symm
        subst hw
        refine lv_aload_n hx hb dX8_mixBird_227 rfl (lv_at hl 0 rfl) ?_
        refine lv_aload_n hx hb dX8_mixBird_228 rfl (lv_at hl 0 rfl) ?_
        refine gg8_0 X hP kc_129 (sk_in hN kc_129 (by decide)) hi8 (List.mem_of_getElem? (i := 1) rfl) dX8_mixBird_229 ?_
        refine lv_sipush (v := 150) hx hb dX8_mixBird_232 (by decide) ?_
        refine ga20 X hP kc_130 (sk_in hN kc_130 (by decide)) (L := 151) (by decide) (by decide) dX8_mixBird_235 ?_
        refine lv_iconst (v := 1) hx hb dX8_mixBird_236 (by decide) ?_
        obtain ⟨⟨p70, I71⟩, hv, h⟩ := hb_some h
        have K252 : ∀ (H : Heap) (locs : List Loc) (ls : Array Slot), va_P (dC, dI) vwCl (hW N ca b I71 O J68) H → va_S A s.heap H locs → lv_has ls 2 [] → W p l e (headSpec wsX8_mixBird ({ frames := 8, cells := 0, slots := 0, locals := 197 } : Room)).room s m ([.ref (b 129), .int a1] : List Value).toArray below meth c H locs 0 0 (MQ below (va_Qv (fun (u : (Nat → Nat → Int32) × (Nat → Nat → Int64)) => res = u) (fun (u : (Nat → Nat → Int32) × (Nat → Nat → Int64)) t => va_P (dC, dI) vwCl (hW N ca b u.1 O u.2) t.heap) A) ([.ref (b 129), .int a1] : List Value).toArray s 0 0 A) (F0 m 252 ls [.long p70, .ref (b 129)]) := by
          intro H locs ls hP hS hl
          obtain ⟨q73, hcq73, h⟩ := hb_some h
          refine gdV_v (As := [.long p70]) (rest := []) (BH := (fun (u : Nat → Nat → Int64) H => va_P (dC, dI) vwCl (hW N ca b I71 O u) H)) X hP hS (c_X8_mixes hN hA I71 O J68 p70 q73 hcq73) (cwV 1 X.ts gX8_mixBird_X8_mixes rfl rfl rfl (by decide +kernel) ⟨Nat.le_of_ble_eq_true rfl, Nat.le_of_ble_eq_true rfl⟩) (gr8 X hP kc_129 (sk_in hN kc_129 (by decide))) rfl hl.1 rfl (Nat.le_of_ble_eq_true rfl) dX8_mixBird_252 ⟨Nat.le_of_ble_eq_true rfl, Nat.le_of_ble_eq_true rfl⟩ (fun J72 H locs hw hP hS => ?_)
          have hw := hw.symm
          subst hw
          exact W.vret hx hb hr (fun t9 ht hW => ⟨⟨(I71, J72), rfl, (Option.some.inj h).symm, gEnd ht hP⟩, hS.F ht⟩) hS.2.2 dX8_mixBird_255 hlk
        have h := hv
        refine lv_icmp_ne (tgt := 251) hx hb dX8_mixBird_237 (by decide) (fun c77 => ?_) (fun c77 => ?_)
        · have h := gif_f c77 h
          refine lv_lconst (v := 0) hx hb dX8_mixBird_251 (by decide) ?_
          cases h
          exact K252 _ _ _ hP hS (lv_sub hl [] rfl)
        · have h := gif_t c77 h
          refine lv_aload_n hx hb dX8_mixBird_240 rfl (lv_at hl 0 rfl) ?_
          refine lv_iload_n hx hb dX8_mixBird_241 rfl (lv_at hl 1 rfl) ?_
          refine lv_bipush (v := 30) hx hb dX8_mixBird_242 (by decide) ?_
          obtain ⟨q76, hcq76, h⟩ := hb_some h
          refine gdV_i (As := [.int a1, .int (30 : Int32)]) (rest := [.ref (b 129)]) (BH := (fun (u : Nat → Nat → Int32) H => va_P (dC, dI) vwCl (hW N ca b u O J68) H)) X hP hS (c_X8_flownIn hN hA I O J68 a1 (30 : Int32) q76 hcq76) (cwV 2 X.ts gX8_mixBird_X8_flownIn rfl rfl rfl (by decide +kernel) ⟨Nat.le_of_ble_eq_true rfl, Nat.le_of_ble_eq_true rfl⟩) (gr8 X hP kc_129 (sk_in hN kc_129 (by decide))) rfl hl.1 rfl (Nat.le_of_ble_eq_true rfl) dX8_mixBird_244 ⟨Nat.le_of_ble_eq_true rfl, Nat.le_of_ble_eq_true rfl⟩ (fun r75 I74 H locs hw hP hS => ?_)
          subst hw
          refine lv_i2l (v := (r75).toInt64) hx hb dX8_mixBird_247 rfl ?_
          refine lv_goto (tgt := 252) hx hb dX8_mixBird_248 (by decide) ?_
          cases h
          exact K252 _ _ _ hP hS (lv_sub hl [] rfl)
      have h := hv
      refine lv_if_eq (tgt := 223) hx hb dX8_mixBird_209 (by decide) (fun c80 => ?_) (fun c80 => ?_)
      · have h := gif_t c80 h
        refine lv_lconst (v := 0) hx hb dX8_mixBird_223 (by decide) ?_
        cases h
        exact K224 _ _ _ hP hS (lv_sub hl [0, 1] rfl)
      · have h := gif_f c80 h
        refine lv_aload_n hx hb dX8_mixBird_212 rfl (lv_at hl 0 rfl) ?_
        refine lv_iload_n hx hb dX8_mixBird_213 rfl (lv_at hl 1 rfl) ?_
        refine lv_bipush (v := 11) hx hb dX8_mixBird_214 (by decide) ?_
        obtain ⟨q79, hcq79, h⟩ := hb_some h
        refine gdV_i (As := [.int a1, .int (11 : Int32)]) (rest := [.ref (b 129)]) (BH := (fun (u : Unit) H => va_P (dC, dI) vwCl (hW N ca b I O J63) H)) X hP hS (c_X8_of hN hA I O J63 a1 (11 : Int32) q79 hcq79) (cwV 2 X.ts gX8_mixBird_X8_of rfl rfl rfl (by decide +kernel) ⟨Nat.le_of_ble_eq_true rfl, Nat.le_of_ble_eq_true rfl⟩) (gr8 X hP kc_129 (sk_in hN kc_129 (by decide))) rfl hl.1 rfl (Nat.le_of_ble_eq_true rfl) dX8_mixBird_216 ⟨Nat.le_of_ble_eq_true rfl, Nat.le_of_ble_eq_true rfl⟩ (fun r78 u9 H locs hw hP hS => ?_)
        have hw := hw.symm
        subst hw
        refine lv_i2l (v := (r78).toInt64) hx hb dX8_mixBird_219 rfl ?_
        refine lv_goto (tgt := 224) hx hb dX8_mixBird_220 (by decide) ?_
        cases h
        exact K224 _ _ _ hP hS (lv_sub hl [0, 1] rfl)
    have h := hv
    refine lv_if_eq (tgt := 199) hx hb dX8_mixBird_187 (by decide) (fun c83 => ?_) (fun c83 => ?_)
    · have h := gif_t c83 h
      refine lv_lconst (v := 0) hx hb dX8_mixBird_199 (by decide) ?_
      cases h
      exact K200 _ _ _ hP hS (lv_sub hl [0, 1] rfl)
    · have h := gif_f c83 h
      refine lv_aload_n hx hb dX8_mixBird_190 rfl (lv_at hl 0 rfl) ?_
      refine lv_iload_n hx hb dX8_mixBird_191 rfl (lv_at hl 1 rfl) ?_
      obtain ⟨q82, hcq82, h⟩ := hb_some h
      refine gdV_i (As := [.int a1]) (rest := [.ref (b 129)]) (BH := (fun (u : Unit) H => va_P (dC, dI) vwCl (hW N ca b I O J58) H)) X hP hS (c_X8_allowed hN hA I O J58 a1 q82 hcq82) (cwV 1 X.ts gX8_mixBird_X8_allowed rfl rfl rfl (by decide +kernel) ⟨Nat.le_of_ble_eq_true rfl, Nat.le_of_ble_eq_true rfl⟩) (gr8 X hP kc_129 (sk_in hN kc_129 (by decide))) rfl hl.1 rfl (Nat.le_of_ble_eq_true rfl) dX8_mixBird_192 ⟨Nat.le_of_ble_eq_true rfl, Nat.le_of_ble_eq_true rfl⟩ (fun r81 u9 H locs hw hP hS => ?_)
      have hw := hw.symm
      subst hw
      refine lv_i2l (v := (r81).toInt64) hx hb dX8_mixBird_195 rfl ?_
      refine lv_goto (tgt := 200) hx hb dX8_mixBird_196 (by decide) ?_
      cases h
      exact K200 _ _ _ hP hS (lv_sub hl [0, 1] rfl)
  have h := hv
  refine lv_if_eq (tgt := 167) hx hb dX8_mixBird_152 (by decide) (fun c87 => ?_) (fun c87 => ?_)
  · have h := gif_t c87 h
    refine lv_lconst (v := 0) hx hb dX8_mixBird_167 (by decide) ?_
    cases h
    exact K168 _ _ _ hP hS (lv_sub hl [0, 1] rfl)
  · have h := gif_f c87 h
    refine lv_aload_n hx hb dX8_mixBird_155 rfl (lv_at hl 0 rfl) ?_
    refine lv_iload_n hx hb dX8_mixBird_156 rfl (lv_at hl 1 rfl) ?_
    obtain ⟨q85, hcq85, h⟩ := hb_some h
    refine gdV_i (As := [.int a1]) (rest := [.ref (b 129)]) (BH := (fun (u : Unit) H => va_P (dC, dI) vwCl (hW N ca b I O J49) H)) X hP hS (c_X8_isDrafted hN hA I O J49 a1 q85 hcq85) (cwV 1 X.ts gX8_mixBird_X8_isDrafted rfl rfl rfl (by decide +kernel) ⟨Nat.le_of_ble_eq_true rfl, Nat.le_of_ble_eq_true rfl⟩) (gr8 X hP kc_129 (sk_in hN kc_129 (by decide))) rfl hl.1 rfl (Nat.le_of_ble_eq_true rfl) dX8_mixBird_157 ⟨Nat.le_of_ble_eq_true rfl, Nat.le_of_ble_eq_true rfl⟩ (fun r84 u9 H locs hw hP hS => ?_)
    have hw := hw.symm
    subst hw
    refine lv_if_eq (tgt := 167) hx hb dX8_mixBird_160 (by decide) (fun c86 => ?_) (fun c86 => ?_)
    · have h := gif_t c86 h
      refine lv_lconst (v := 0) hx hb dX8_mixBird_167 (by decide) ?_
      cases h
      exact K168 _ _ _ hP hS (lv_sub hl [0, 1] rfl)
    · have h := gif_f c86 h
      refine lv_lconst (v := 1) hx hb dX8_mixBird_163 (by decide) ?_
      refine lv_goto (tgt := 168) hx hb dX8_mixBird_164 (by decide) ?_
      cases h
      exact K168 _ _ _ hP hS (lv_sub hl [0, 1] rfl)
def f_X8_digest_L341 (I27 : Nat → Nat → Int32) : Nat → Int32 → (Nat → Nat → Int64) → Option (Nat → Nat → Int64)
  | 0, _, _ => none
  | fuel + 1, p62, J63 =>
    if (I27 129 7) ≤ p62 then
      some J63
    else
      hg (gin p62 60) <|
      (f_X8_mixes (((I27 135 (p62.toNatClampNeg))).toInt64) J63).bind fun J66 =>
      hlet (p62 + 1) fun x68 =>
      f_X8_digest_L341 I27 fuel x68 J66
def f_X8_digest_L250 (I27 : Nat → Nat → Int32) : Nat → Int32 → (Nat → Nat → Int64) → Option (Nat → Nat → Int64)
  | 0, _, _ => none
  | fuel + 1, p43, J44 =>
    if (149 : Int32) < p43 then
      some J44
    else
      hg (gin p43 151) <|
      (f_X8_mixes (((I27 130 (p43.toNatClampNeg))).toInt64) J44).bind fun J73 =>
      hlet (p43 + 1) fun x75 =>
      f_X8_digest_L250 I27 fuel x75 J73
def f_X8_digest_L204 (I27 : Nat → Nat → Int32) : Nat → Int32 → (Nat → Nat → Int64) → Option (Nat → Nat → Int64)
  | 0, _, _ => none
  | fuel + 1, p36, J37 =>
    if (I27 130 ((135 : Int32).toNatClampNeg)) ≤ p36 then
      some J37
    else
      hg (gin ((136 : Int32) + p36) 151) <|
      (f_X8_mixes (((I27 130 (((136 : Int32) + p36).toNatClampNeg))).toInt64) J37).bind fun J78 =>
      hlet (p36 + 1) fun x80 =>
      f_X8_digest_L204 I27 fuel x80 J78
def f_X8_digest_L82 (I8 : Nat → Nat → Int32) : Nat → Int32 → (Nat → Nat → Int64) → Option (Nat → Nat → Int64)
  | 0, _, _ => none
  | fuel + 1, p13, J14 =>
    if (4 : Int32) ≤ p13 then
      some J14
    else
      hg (gin ((129 : Int32) + p13) 151) <|
      (f_X8_mixes (((I8 130 (((129 : Int32) + p13).toNatClampNeg))).toInt64) J14).bind fun J88 =>
      hlet (p13 + 1) fun x90 =>
      f_X8_digest_L82 I8 fuel x90 J88
def f_X8_digest_L52 (I8 : Nat → Nat → Int32) : Nat → Int32 → (Nat → Nat → Int64) → Option (Nat → Nat → Int64)
  | 0, _, _ => none
  | fuel + 1, p10, J11 =>
    if (I8 130 ((128 : Int32).toNatClampNeg)) ≤ p10 then
      some J11
    else
      (f_X8_birdAt p10 I8).bind fun r92 =>
      (f_X8_mixes ((r92).toInt64) J11).bind fun J94 =>
      hlet (p10 + 1) fun x96 =>
      f_X8_digest_L52 I8 fuel x96 J94
def f_X8_digest_L27 : Nat → Int32 → (Nat → Nat → Int32) → (Nat → Nat → Int64) → Option ((Nat → Nat → Int32) × (Nat → Nat → Int64))
  | 0, _, _, _ => none
  | fuel + 1, p5, I6, J7 =>
    if (I6 130 ((128 : Int32).toNatClampNeg)) ≤ p5 then
      some (I6, J7)
    else
      (f_X8_mixBird p5 I6 J7).bind fun (I98, J99) =>
      hlet (p5 + 1) fun x101 =>
      f_X8_digest_L27 fuel x101 I98 J99
def f_X8_digest (I : Nat → Nat → Int32) (J : Nat → Nat → Int64) : Option (Int64 × (Nat → Nat → Int32) × (Nat → Nat → Int64)) :=
  hlet (gup I 129 8 (0 : Int32)) fun I1 =>
  hlet (gup J 129 16 (4637 : Int64)) fun J2 =>
  (f_X8_mixes (((I1 130 ((128 : Int32).toNatClampNeg))).toInt64) J2).bind fun J3 =>
  (f_X8_digest_L27  FU (0 : Int32) I1 J3).bind fun (I8, J9) =>
  (f_X8_digest_L52 I8 FU (0 : Int32) J9).bind fun J12 =>
  (f_X8_digest_L82 I8 FU (0 : Int32) J12).bind fun J15 =>
  (f_X8_first I8).bind fun (r17, I16) =>
  (f_X8_mixes ((r17).toInt64) J15).bind fun J19 =>
  (f_X8_nextIn I16).bind fun (r22, I21) =>
  (f_X8_mixes ((r22).toInt64) J19).bind fun J24 =>
  (show Option (Int64 × (Nat → Nat → Int32)) from
    if (I21 130 ((128 : Int32).toNatClampNeg)) ≤ 0 then
      some ((0 : Int64), I21)
    else
      if (I21 130 ((150 : Int32).toNatClampNeg)) = (1 : Int32) then
        (f_X8_best (0 : Int32) I21).bind fun (r83, I82) =>
        some (((r83).toInt64), I82)
      else
        some ((0 : Int64), I21)).bind fun (p26, I27) =>
  (f_X8_mixes p26 J24).bind fun J28 =>
  (f_X8_mixes (((I27 130 ((150 : Int32).toNatClampNeg))).toInt64) J28).bind fun J30 =>
  (f_X8_mixes (((I27 130 ((134 : Int32).toNatClampNeg))).toInt64) J30).bind fun J32 =>
  (f_X8_mixes (((I27 130 ((135 : Int32).toNatClampNeg))).toInt64) J32).bind fun J34 =>
  (f_X8_digest_L204 I27 FU (0 : Int32) J34).bind fun J38 =>
  (f_X8_all I27).bind fun r39 =>
  (f_X8_mixes ((r39).toInt64) J38).bind fun J41 =>
  (f_X8_digest_L250 I27 FU (144 : Int32) J41).bind fun J45 =>
  (f_X8_mixes (((I27 129 3)).toInt64) J45).bind fun J46 =>
  (f_X8_mean I27).bind fun r48 =>
  (f_Jxe99ae_doubleToLongBits_ccdee r48).bind fun r50 =>
  (f_X8_mixes r50 J46).bind fun J52 =>
  (show Option (Int64) from
    if (I27 134 ((0 : Int32).toNatClampNeg)) = 0 then
      some (0 : Int64)
    else
      some (1 : Int64)).bind fun p54 =>
  (f_X8_mixes p54 J52).bind fun J55 =>
  (show Option (Int64) from
    if (I27 134 ((1 : Int32).toNatClampNeg)) = 0 then
      some (0 : Int64)
    else
      some (1 : Int64)).bind fun p57 =>
  (f_X8_mixes p57 J55).bind fun J58 =>
  (f_X8_mixes (((I27 129 7)).toInt64) J58).bind fun J60 =>
  (f_X8_digest_L341 I27 FU (0 : Int32) J60).bind fun J64 =>
  some ((J64 129 16), I27, J64)
set_option maxHeartbeats 8000000 in
set_option maxRecDepth 100000 in
theorem c_X8_digest {l : Launch} {dC : Nat → ClassId} {dI : Nat → Nat → Nat} {ca : Nat → ClassId} {b : Nat → Nat} {A : Nat → Prop} {N : Nat} (hN : 138 ≤ N) (hA : gAd A b N) (I : Nat → Nat → Int32) (O : Nat → Nat → Option Nat) (J : Nat → Nat → Int64) (res : Int64 × (Nat → Nat → Int32) × (Nat → Nat → Int64)) (h : f_X8_digest I J = some res) : Met l yX8_digest wsX8_digest ({ frames := 10, cells := 0, slots := 0, locals := 246 } : Room) (va_Pc [.ref (b 129)] (gPre dC dI ca b A N I O J)) (va_Ql (fun (r : Int64) (u : (Nat → Nat → Int32) × (Nat → Nat → Int64)) => res = (r, u)) (fun (u : (Nat → Nat → Int32) × (Nat → Nat → Int64)) t => va_P (dC, dI) vwCl (hW N ca b u.1 O u.2) t.heap) A) 0 0 A := by
  refine Met.ofW (cc := cX8_digest) (maxL := 2) (ret := (some .long)) (by decide) rfl ?_
  intro p e s m args below meth c s₁ B hml hv
  obtain ⟨rfl, hP, hK, hA2, hth⟩ := hv
  have hx := B.exec
  have hb := B.bytes
  have hr := B.returns
  have hlk := B.notSynchronized
  have X : gCx p s m ([.ref (b 129)] : List Value).toArray c RX8 cX8_digest wsX8_digest 2 dC dI ca b A N := ⟨hx, hb, hml, findClass_of_methodNamed B.named, atoms_spec (ws := wsX8_digest) B.pre, hK, hA, hA2, hth⟩
  have hi8 : ∀ w ∈ wsX80, w ∈ wsX8_digest := (fun w h => List.mem_cons_of_mem _ (List.mem_append_right _ h))
  have hS : va_S A s.heap s.heap [] := va_S.rf
  have hl := lv_entry ([.ref (b 129)] : List Value) (n := 2) (Nat.le_of_ble_eq_true rfl)
  rw [lg_entry_eq]
  generalize (lg_sl ([.ref (b 129)] : List Value) ++ List.replicate (2 - (lg_sl ([.ref (b 129)] : List Value)).length) Slot.unset).toArray = ls at hl ⊢
  have hl : lv_has ls 2 [(0, .ref (b 129))] := hl
  unfold f_X8_digest at h
  refine lv_aload_n hx hb dX8_digest_0 rfl (lv_at hl 0 rfl) ?_
  refine lv_iconst (v := 0) hx hb dX8_digest_1 (by decide) ?_
  refine gp8_8 X hP hS kc_129 (sk_in hN kc_129 (by decide)) hi8 (List.mem_of_getElem? (i := 1) rfl) dX8_digest_2 (fun H locs hP hS => ?_)
  obtain ⟨I1, eI1, h⟩ := hlet_ex h
  rw [← eI1] at hP
  refine lv_aload_n hx hb dX8_digest_5 rfl (lv_at hl 0 rfl) ?_
  refine lv_ldc2 (v := 4637) hx hb X.ow (X.ts _ (List.mem_of_getElem? (i := 2) rfl)) dX8_digest_6 ?_
  refine gp8_16 X hP hS kc_129 (sk_in hN kc_129 (by decide)) hi8 (List.mem_of_getElem? (i := 3) rfl) dX8_digest_9 (fun H locs hP hS => ?_)
  obtain ⟨J2, eJ2, h⟩ := hlet_ex h
  rw [← eJ2] at hP
  refine lv_aload_n hx hb dX8_digest_12 rfl (lv_at hl 0 rfl) ?_
  refine lv_aload_n hx hb dX8_digest_13 rfl (lv_at hl 0 rfl) ?_
  refine gg8_0 X hP kc_129 (sk_in hN kc_129 (by decide)) hi8 (List.mem_of_getElem? (i := 4) rfl) dX8_digest_14 ?_
  refine lv_sipush (v := 128) hx hb dX8_digest_17 (by decide) ?_
  refine ga20 X hP kc_130 (sk_in hN kc_130 (by decide)) (L := 151) (by decide) (by decide) dX8_digest_20 ?_
  refine lv_i2l (v := ((I1 130 ((128 : Int32).toNatClampNeg))).toInt64) hx hb dX8_digest_21 rfl ?_
  obtain ⟨q4, hcq4, h⟩ := hb_some h
  refine gdV_v (As := [.long (((I1 130 ((128 : Int32).toNatClampNeg))).toInt64)]) (rest := []) (BH := (fun (u : Nat → Nat → Int64) H => va_P (dC, dI) vwCl (hW N ca b I1 O u) H)) X hP hS (c_X8_mixes hN hA I1 O J2 (((I1 130 ((128 : Int32).toNatClampNeg))).toInt64) q4 hcq4) (cwV 1 X.ts gX8_digest_X8_mixes rfl rfl rfl (by decide +kernel) ⟨Nat.le_of_ble_eq_true rfl, Nat.le_of_ble_eq_true rfl⟩) (gr8 X hP kc_129 (sk_in hN kc_129 (by decide))) rfl hl.1 rfl (Nat.le_of_ble_eq_true rfl) dX8_digest_22 ⟨Nat.le_of_ble_eq_true rfl, Nat.le_of_ble_eq_true rfl⟩ (fun J3 H locs hw hP hS => ?_)
  have hw := hw.symm
  subst hw
  refine lv_iconst (v := 0) hx hb dX8_digest_25 (by decide) ?_
  refine lv_istore_n (lv' := [(1, .int (0 : Int32)), (0, .ref (b 129))]) hx hb dX8_digest_26 rfl hl (by decide) rfl (fun ls hl => ?_)
  obtain ⟨⟨I8, J9⟩, hv, h⟩ := hb_some h
  have K50 : ∀ (H : Heap) (locs : List Loc) (ls : Array Slot), va_P (dC, dI) vwCl (hW N ca b I8 O J9) H → va_S A s.heap H locs → lv_has ls 2 [(0, .ref (b 129))] → W p l e (headSpec wsX8_digest ({ frames := 10, cells := 0, slots := 0, locals := 246 } : Room)).room s m ([.ref (b 129)] : List Value).toArray below meth c H locs 0 0 (MQ below (va_Ql (fun (r : Int64) (u : (Nat → Nat → Int32) × (Nat → Nat → Int64)) => res = (r, u)) (fun (u : (Nat → Nat → Int32) × (Nat → Nat → Int64)) t => va_P (dC, dI) vwCl (hW N ca b u.1 O u.2) t.heap) A) ([.ref (b 129)] : List Value).toArray s 0 0 A) (F0 m 50 ls []) := by
    intro H locs ls hP hS hl
    refine lv_iconst (v := 0) hx hb dX8_digest_50 (by decide) ?_
    refine lv_istore_n (lv' := [(1, .int (0 : Int32)), (0, .ref (b 129))]) hx hb dX8_digest_51 rfl hl (by decide) rfl (fun ls hl => ?_)
    obtain ⟨J12, hv, h⟩ := hb_some h
    have K80 : ∀ (H : Heap) (locs : List Loc) (ls : Array Slot), va_P (dC, dI) vwCl (hW N ca b I8 O J12) H → va_S A s.heap H locs → lv_has ls 2 [(0, .ref (b 129))] → W p l e (headSpec wsX8_digest ({ frames := 10, cells := 0, slots := 0, locals := 246 } : Room)).room s m ([.ref (b 129)] : List Value).toArray below meth c H locs 0 0 (MQ below (va_Ql (fun (r : Int64) (u : (Nat → Nat → Int32) × (Nat → Nat → Int64)) => res = (r, u)) (fun (u : (Nat → Nat → Int32) × (Nat → Nat → Int64)) t => va_P (dC, dI) vwCl (hW N ca b u.1 O u.2) t.heap) A) ([.ref (b 129)] : List Value).toArray s 0 0 A) (F0 m 80 ls []) := by
      intro H locs ls hP hS hl
      refine lv_iconst (v := 0) hx hb dX8_digest_80 (by decide) ?_
      refine lv_istore_n (lv' := [(1, .int (0 : Int32)), (0, .ref (b 129))]) hx hb dX8_digest_81 rfl hl (by decide) rfl (fun ls hl => ?_)
      obtain ⟨J15, hv, h⟩ := hb_some h
      have K108 : ∀ (H : Heap) (locs : List Loc) (ls : Array Slot), va_P (dC, dI) vwCl (hW N ca b I8 O J15) H → va_S A s.heap H locs → lv_has ls 2 [(0, .ref (b 129))] → W p l e (headSpec wsX8_digest ({ frames := 10, cells := 0, slots := 0, locals := 246 } : Room)).room s m ([.ref (b 129)] : List Value).toArray below meth c H locs 0 0 (MQ below (va_Ql (fun (r : Int64) (u : (Nat → Nat → Int32) × (Nat → Nat → Int64)) => res = (r, u)) (fun (u : (Nat → Nat → Int32) × (Nat → Nat → Int64)) t => va_P (dC, dI) vwCl (hW N ca b u.1 O u.2) t.heap) A) ([.ref (b 129)] : List Value).toArray s 0 0 A) (F0 m 108 ls []) := by
        intro H locs ls hP hS hl
        refine lv_aload_n hx hb dX8_digest_108 rfl (lv_at hl 0 rfl) ?_
        refine lv_aload_n hx hb dX8_digest_109 rfl (lv_at hl 0 rfl) ?_
        obtain ⟨q18, hcq18, h⟩ := hb_some h
        refine gdV_i (As := []) (rest := [.ref (b 129)]) (BH := (fun (u : Nat → Nat → Int32) H => va_P (dC, dI) vwCl (hW N ca b u O J15) H)) X hP hS (c_X8_first hN hA I8 O J15 q18 hcq18) (cwV 0 X.ts gX8_digest_X8_first rfl rfl rfl (by decide +kernel) ⟨Nat.le_of_ble_eq_true rfl, Nat.le_of_ble_eq_true rfl⟩) (gr8 X hP kc_129 (sk_in hN kc_129 (by decide))) rfl hl.1 rfl (Nat.le_of_ble_eq_true rfl) dX8_digest_110 ⟨Nat.le_of_ble_eq_true rfl, Nat.le_of_ble_eq_true rfl⟩ (fun r17 I16 H locs hw hP hS => ?_)
        subst hw
        refine lv_i2l (v := (r17).toInt64) hx hb dX8_digest_113 rfl ?_
        obtain ⟨q20, hcq20, h⟩ := hb_some h
        refine gdV_v (As := [.long ((r17).toInt64)]) (rest := []) (BH := (fun (u : Nat → Nat → Int64) H => va_P (dC, dI) vwCl (hW N ca b I16 O u) H)) X hP hS (c_X8_mixes hN hA I16 O J15 ((r17).toInt64) q20 hcq20) (cwV 1 X.ts gX8_digest_X8_mixes rfl rfl rfl (by decide +kernel) ⟨Nat.le_of_ble_eq_true rfl, Nat.le_of_ble_eq_true rfl⟩) (gr8 X hP kc_129 (sk_in hN kc_129 (by decide))) rfl hl.1 rfl (Nat.le_of_ble_eq_true rfl) dX8_digest_114 ⟨Nat.le_of_ble_eq_true rfl, Nat.le_of_ble_eq_true rfl⟩ (fun J19 H locs hw hP hS => ?_)
        have hw := hw.symm
        subst hw
        refine lv_aload_n hx hb dX8_digest_117 rfl (lv_at hl 0 rfl) ?_
        refine lv_aload_n hx hb dX8_digest_118 rfl (lv_at hl 0 rfl) ?_
        obtain ⟨q23, hcq23, h⟩ := hb_some h
        refine gdV_i (As := []) (rest := [.ref (b 129)]) (BH := (fun (u : Nat → Nat → Int32) H => va_P (dC, dI) vwCl (hW N ca b u O J19) H)) X hP hS (c_X8_nextIn hN hA I16 O J19 q23 hcq23) (cwV 0 X.ts gX8_digest_X8_nextIn rfl rfl rfl (by decide +kernel) ⟨Nat.le_of_ble_eq_true rfl, Nat.le_of_ble_eq_true rfl⟩) (gr8 X hP kc_129 (sk_in hN kc_129 (by decide))) rfl hl.1 rfl (Nat.le_of_ble_eq_true rfl) dX8_digest_119 ⟨Nat.le_of_ble_eq_true rfl, Nat.le_of_ble_eq_true rfl⟩ (fun r22 I21 H locs hw hP hS => ?_)
        subst hw
        refine lv_i2l (v := (r22).toInt64) hx hb dX8_digest_122 rfl ?_
        obtain ⟨q25, hcq25, h⟩ := hb_some h
        refine gdV_v (As := [.long ((r22).toInt64)]) (rest := []) (BH := (fun (u : Nat → Nat → Int64) H => va_P (dC, dI) vwCl (hW N ca b I21 O u) H)) X hP hS (c_X8_mixes hN hA I21 O J19 ((r22).toInt64) q25 hcq25) (cwV 1 X.ts gX8_digest_X8_mixes rfl rfl rfl (by decide +kernel) ⟨Nat.le_of_ble_eq_true rfl, Nat.le_of_ble_eq_true rfl⟩) (gr8 X hP kc_129 (sk_in hN kc_129 (by decide))) rfl hl.1 rfl (Nat.le_of_ble_eq_true rfl) dX8_digest_123 ⟨Nat.le_of_ble_eq_true rfl, Nat.le_of_ble_eq_true rfl⟩ (fun J24 H locs hw hP hS => ?_)
        have hw := hw.symm
        subst hw
        refine lv_aload_n hx hb dX8_digest_126 rfl (lv_at hl 0 rfl) ?_
        refine lv_aload_n hx hb dX8_digest_127 rfl (lv_at hl 0 rfl) ?_
        refine gg8_0 X hP kc_129 (sk_in hN kc_129 (by decide)) hi8 (List.mem_of_getElem? (i := 4) rfl) dX8_digest_128 ?_
        refine lv_sipush (v := 128) hx hb dX8_digest_131 (by decide) ?_
        refine ga20 X hP kc_130 (sk_in hN kc_130 (by decide)) (L := 151) (by decide) (by decide) dX8_digest_134 ?_
        obtain ⟨⟨p26, I27⟩, hv, h⟩ := hb_some h
        have K160 : ∀ (H : Heap) (locs : List Loc) (ls : Array Slot), va_P (dC, dI) vwCl (hW N ca b I27 O J24) H → va_S A s.heap H locs → lv_has ls 2 [(0, .ref (b 129))] → W p l e (headSpec wsX8_digest ({ frames := 10, cells := 0, slots := 0, locals := 246 } : Room)).room s m ([.ref (b 129)] : List Value).toArray below meth c H locs 0 0 (MQ below (va_Ql (fun (r : Int64) (u : (Nat → Nat → Int32) × (Nat → Nat → Int64)) => res = (r, u)) (fun (u : (Nat → Nat → Int32) × (Nat → Nat → Int64)) t => va_P (dC, dI) vwCl (hW N ca b u.1 O u.2) t.heap) A) ([.ref (b 129)] : List Value).toArray s 0 0 A) (F0 m 160 ls [.long p26, .ref (b 129)]) := by
          intro H locs ls hP hS hl
          obtain ⟨q29, hcq29, h⟩ := hb_some h
          refine gdV_v (As := [.long p26]) (rest := []) (BH := (fun (u : Nat → Nat → Int64) H => va_P (dC, dI) vwCl (hW N ca b I27 O u) H)) X hP hS (c_X8_mixes hN hA I27 O J24 p26 q29 hcq29) (cwV 1 X.ts gX8_digest_X8_mixes rfl rfl rfl (by decide +kernel) ⟨Nat.le_of_ble_eq_true rfl, Nat.le_of_ble_eq_true rfl⟩) (gr8 X hP kc_129 (sk_in hN kc_129 (by decide))) rfl hl.1 rfl (Nat.le_of_ble_eq_true rfl) dX8_digest_160 ⟨Nat.le_of_ble_eq_true rfl, Nat.le_of_ble_eq_true rfl⟩ (fun J28 H locs hw hP hS => ?_)
          have hw := hw.symm
          subst hw
          refine lv_aload_n hx hb dX8_digest_163 rfl (lv_at hl 0 rfl) ?_
          refine lv_aload_n hx hb dX8_digest_164 rfl (lv_at hl 0 rfl) ?_
          refine gg8_0 X hP kc_129 (sk_in hN kc_129 (by decide)) hi8 (List.mem_of_getElem? (i := 4) rfl) dX8_digest_165 ?_
          refine lv_sipush (v := 150) hx hb dX8_digest_168 (by decide) ?_
          refine ga20 X hP kc_130 (sk_in hN kc_130 (by decide)) (L := 151) (by decide) (by decide) dX8_digest_171 ?_
          refine lv_i2l (v := ((I27 130 ((150 : Int32).toNatClampNeg))).toInt64) hx hb dX8_digest_172 rfl ?_
          obtain ⟨q31, hcq31, h⟩ := hb_some h
          refine gdV_v (As := [.long (((I27 130 ((150 : Int32).toNatClampNeg))).toInt64)]) (rest := []) (BH := (fun (u : Nat → Nat → Int64) H => va_P (dC, dI) vwCl (hW N ca b I27 O u) H)) X hP hS (c_X8_mixes hN hA I27 O J28 (((I27 130 ((150 : Int32).toNatClampNeg))).toInt64) q31 hcq31) (cwV 1 X.ts gX8_digest_X8_mixes rfl rfl rfl (by decide +kernel) ⟨Nat.le_of_ble_eq_true rfl, Nat.le_of_ble_eq_true rfl⟩) (gr8 X hP kc_129 (sk_in hN kc_129 (by decide))) rfl hl.1 rfl (Nat.le_of_ble_eq_true rfl) dX8_digest_173 ⟨Nat.le_of_ble_eq_true rfl, Nat.le_of_ble_eq_true rfl⟩ (fun J30 H locs hw hP hS => ?_)
          have hw := hw.symm
          subst hw
          refine lv_aload_n hx hb dX8_digest_176 rfl (lv_at hl 0 rfl) ?_
          refine lv_aload_n hx hb dX8_digest_177 rfl (lv_at hl 0 rfl) ?_
          refine gg8_0 X hP kc_129 (sk_in hN kc_129 (by decide)) hi8 (List.mem_of_getElem? (i := 4) rfl) dX8_digest_178 ?_
          refine lv_sipush (v := 134) hx hb dX8_digest_181 (by decide) ?_
          refine ga20 X hP kc_130 (sk_in hN kc_130 (by decide)) (L := 151) (by decide) (by decide) dX8_digest_184 ?_
          refine lv_i2l (v := ((I27 130 ((134 : Int32).toNatClampNeg))).toInt64) hx hb dX8_digest_185 rfl ?_
          obtain ⟨q33, hcq33, h⟩ := hb_some h
          refine gdV_v (As := [.long (((I27 130 ((134 : Int32).toNatClampNeg))).toInt64)]) (rest := []) (BH := (fun (u : Nat → Nat → Int64) H => va_P (dC, dI) vwCl (hW N ca b I27 O u) H)) X hP hS (c_X8_mixes hN hA I27 O J30 (((I27 130 ((134 : Int32).toNatClampNeg))).toInt64) q33 hcq33) (cwV 1 X.ts gX8_digest_X8_mixes rfl rfl rfl (by decide +kernel) ⟨Nat.le_of_ble_eq_true rfl, Nat.le_of_ble_eq_true rfl⟩) (gr8 X hP kc_129 (sk_in hN kc_129 (by decide))) rfl hl.1 rfl (Nat.le_of_ble_eq_true rfl) dX8_digest_186 ⟨Nat.le_of_ble_eq_true rfl, Nat.le_of_ble_eq_true rfl⟩ (fun J32 H locs hw hP hS => ?_)
          have hw := hw.symm
          subst hw
          refine lv_aload_n hx hb dX8_digest_189 rfl (lv_at hl 0 rfl) ?_
          refine lv_aload_n hx hb dX8_digest_190 rfl (lv_at hl 0 rfl) ?_
          refine gg8_0 X hP kc_129 (sk_in hN kc_129 (by decide)) hi8 (List.mem_of_getElem? (i := 4) rfl) dX8_digest_191 ?_
          refine lv_sipush (v := 135) hx hb dX8_digest_194 (by decide) ?_
          refine ga20 X hP kc_130 (sk_in hN kc_130 (by decide)) (L := 151) (by decide) (by decide) dX8_digest_197 ?_
          refine lv_i2l (v := ((I27 130 ((135 : Int32).toNatClampNeg))).toInt64) hx hb dX8_digest_198 rfl ?_
          obtain ⟨q35, hcq35, h⟩ := hb_some h
          refine gdV_v (As := [.long (((I27 130 ((135 : Int32).toNatClampNeg))).toInt64)]) (rest := []) (BH := (fun (u : Nat → Nat → Int64) H => va_P (dC, dI) vwCl (hW N ca b I27 O u) H)) X hP hS (c_X8_mixes hN hA I27 O J32 (((I27 130 ((135 : Int32).toNatClampNeg))).toInt64) q35 hcq35) (cwV 1 X.ts gX8_digest_X8_mixes rfl rfl rfl (by decide +kernel) ⟨Nat.le_of_ble_eq_true rfl, Nat.le_of_ble_eq_true rfl⟩) (gr8 X hP kc_129 (sk_in hN kc_129 (by decide))) rfl hl.1 rfl (Nat.le_of_ble_eq_true rfl) dX8_digest_199 ⟨Nat.le_of_ble_eq_true rfl, Nat.le_of_ble_eq_true rfl⟩ (fun J34 H locs hw hP hS => ?_)
          have hw := hw.symm
          subst hw
          refine lv_iconst (v := 0) hx hb dX8_digest_202 (by decide) ?_
          refine lv_istore_n (lv' := [(1, .int (0 : Int32)), (0, .ref (b 129))]) hx hb dX8_digest_203 rfl hl (by decide) rfl (fun ls hl => ?_)
          obtain ⟨J38, hv, h⟩ := hb_some h
          have K237 : ∀ (H : Heap) (locs : List Loc) (ls : Array Slot), va_P (dC, dI) vwCl (hW N ca b I27 O J38) H → va_S A s.heap H locs → lv_has ls 2 [(0, .ref (b 129))] → W p l e (headSpec wsX8_digest ({ frames := 10, cells := 0, slots := 0, locals := 246 } : Room)).room s m ([.ref (b 129)] : List Value).toArray below meth c H locs 0 0 (MQ below (va_Ql (fun (r : Int64) (u : (Nat → Nat → Int32) × (Nat → Nat → Int64)) => res = (r, u)) (fun (u : (Nat → Nat → Int32) × (Nat → Nat → Int64)) t => va_P (dC, dI) vwCl (hW N ca b u.1 O u.2) t.heap) A) ([.ref (b 129)] : List Value).toArray s 0 0 A) (F0 m 237 ls []) := by
            intro H locs ls hP hS hl
            refine lv_aload_n hx hb dX8_digest_237 rfl (lv_at hl 0 rfl) ?_
            refine lv_aload_n hx hb dX8_digest_238 rfl (lv_at hl 0 rfl) ?_
            obtain ⟨q40, hcq40, h⟩ := hb_some h
            refine gdV_i (As := []) (rest := [.ref (b 129)]) (BH := (fun (u : Unit) H => va_P (dC, dI) vwCl (hW N ca b I27 O J38) H)) X hP hS (c_X8_all hN hA I27 O J38 q40 hcq40) (cwV 0 X.ts gX8_digest_X8_all rfl rfl rfl (by decide +kernel) ⟨Nat.le_of_ble_eq_true rfl, Nat.le_of_ble_eq_true rfl⟩) (gr8 X hP kc_129 (sk_in hN kc_129 (by decide))) rfl hl.1 rfl (Nat.le_of_ble_eq_true rfl) dX8_digest_239 ⟨Nat.le_of_ble_eq_true rfl, Nat.le_of_ble_eq_true rfl⟩ (fun r39 u9 H locs hw hP hS => ?_)
            have hw := hw.symm
            subst hw
            refine lv_i2l (v := (r39).toInt64) hx hb dX8_digest_242 rfl ?_
            obtain ⟨q42, hcq42, h⟩ := hb_some h
            refine gdV_v (As := [.long ((r39).toInt64)]) (rest := []) (BH := (fun (u : Nat → Nat → Int64) H => va_P (dC, dI) vwCl (hW N ca b I27 O u) H)) X hP hS (c_X8_mixes hN hA I27 O J38 ((r39).toInt64) q42 hcq42) (cwV 1 X.ts gX8_digest_X8_mixes rfl rfl rfl (by decide +kernel) ⟨Nat.le_of_ble_eq_true rfl, Nat.le_of_ble_eq_true rfl⟩) (gr8 X hP kc_129 (sk_in hN kc_129 (by decide))) rfl hl.1 rfl (Nat.le_of_ble_eq_true rfl) dX8_digest_243 ⟨Nat.le_of_ble_eq_true rfl, Nat.le_of_ble_eq_true rfl⟩ (fun J41 H locs hw hP hS => ?_)
            have hw := hw.symm
            subst hw
            refine lv_sipush (v := 144) hx hb dX8_digest_246 (by decide) ?_
            refine lv_istore_n (lv' := [(1, .int (144 : Int32)), (0, .ref (b 129))]) hx hb dX8_digest_249 rfl hl (by decide) rfl (fun ls hl => ?_)
            obtain ⟨J45, hv, h⟩ := hb_some h
            have K274 : ∀ (H : Heap) (locs : List Loc) (ls : Array Slot), va_P (dC, dI) vwCl (hW N ca b I27 O J45) H → va_S A s.heap H locs → lv_has ls 2 [(0, .ref (b 129))] → W p l e (headSpec wsX8_digest ({ frames := 10, cells := 0, slots := 0, locals := 246 } : Room)).room s m ([.ref (b 129)] : List Value).toArray below meth c H locs 0 0 (MQ below (va_Ql (fun (r : Int64) (u : (Nat → Nat → Int32) × (Nat → Nat → Int64)) => res = (r, u)) (fun (u : (Nat → Nat → Int32) × (Nat → Nat → Int64)) t => va_P (dC, dI) vwCl (hW N ca b u.1 O u.2) t.heap) A) ([.ref (b 129)] : List Value).toArray s 0 0 A) (F0 m 274 ls []) := by
              intro H locs ls hP hS hl
              refine lv_aload_n hx hb dX8_digest_274 rfl (lv_at hl 0 rfl) ?_
              refine lv_aload_n hx hb dX8_digest_275 rfl (lv_at hl 0 rfl) ?_
              refine gg8_3 X hP kc_129 (sk_in hN kc_129 (by decide)) hi8 (List.mem_of_getElem? (i := 5) rfl) dX8_digest_276 ?_
              refine lv_i2l (v := ((I27 129 3)).toInt64) hx hb dX8_digest_279 rfl ?_
              obtain ⟨q47, hcq47, h⟩ := hb_some h
              refine gdV_v (As := [.long (((I27 129 3)).toInt64)]) (rest := []) (BH := (fun (u : Nat → Nat → Int64) H => va_P (dC, dI) vwCl (hW N ca b I27 O u) H)) X hP hS (c_X8_mixes hN hA I27 O J45 (((I27 129 3)).toInt64) q47 hcq47) (cwV 1 X.ts gX8_digest_X8_mixes rfl rfl rfl (by decide +kernel) ⟨Nat.le_of_ble_eq_true rfl, Nat.le_of_ble_eq_true rfl⟩) (gr8 X hP kc_129 (sk_in hN kc_129 (by decide))) rfl hl.1 rfl (Nat.le_of_ble_eq_true rfl) dX8_digest_280 ⟨Nat.le_of_ble_eq_true rfl, Nat.le_of_ble_eq_true rfl⟩ (fun J46 H locs hw hP hS => ?_)
              have hw := hw.symm
              subst hw
              refine lv_aload_n hx hb dX8_digest_283 rfl (lv_at hl 0 rfl) ?_
              refine lv_aload_n hx hb dX8_digest_284 rfl (lv_at hl 0 rfl) ?_
              obtain ⟨q49, hcq49, h⟩ := hb_some h
              refine gdV_d (As := []) (rest := [.ref (b 129)]) (BH := (fun (u : Unit) H => va_P (dC, dI) vwCl (hW N ca b I27 O J46) H)) X hP hS (c_X8_mean hN hA I27 O J46 q49 hcq49) (cwV 0 X.ts gX8_digest_X8_mean rfl rfl rfl (by decide +kernel) ⟨Nat.le_of_ble_eq_true rfl, Nat.le_of_ble_eq_true rfl⟩) (gr8 X hP kc_129 (sk_in hN kc_129 (by decide))) rfl hl.1 rfl (Nat.le_of_ble_eq_true rfl) dX8_digest_285 ⟨Nat.le_of_ble_eq_true rfl, Nat.le_of_ble_eq_true rfl⟩ (fun r48 u9 H locs hw hP hS => ?_)
              have hw := hw.symm
              subst hw
              obtain ⟨q51, hcq51, h⟩ := hb_some h
              refine gdS_l (As := [.double r48]) (rest := [.ref (b 129)]) (BH := (fun (u : Unit) H => va_P (dC, dI) vwCl (hW N ca b I27 O J46) H)) X hP hS (c_Jxe99ae_doubleToLongBits_ccdee hN hA I27 O J46 r48 q51 hcq51) (va_cwS 1 X.ts gX8_digest_Jxe99ae_doubleToLongBits_ccdee rfl rfl rfl (by decide +kernel) ⟨Nat.le_of_ble_eq_true rfl, Nat.le_of_ble_eq_true rfl⟩) rfl hl.1 rfl (Nat.le_of_ble_eq_true rfl) dX8_digest_288 ⟨Nat.le_of_ble_eq_true rfl, Nat.le_of_ble_eq_true rfl⟩ (fun r50 u9 H locs hw hP hS => ?_)
              have hw := hw.symm
              subst hw
              obtain ⟨q53, hcq53, h⟩ := hb_some h
              refine gdV_v (As := [.long r50]) (rest := []) (BH := (fun (u : Nat → Nat → Int64) H => va_P (dC, dI) vwCl (hW N ca b I27 O u) H)) X hP hS (c_X8_mixes hN hA I27 O J46 r50 q53 hcq53) (cwV 1 X.ts gX8_digest_X8_mixes rfl rfl rfl (by decide +kernel) ⟨Nat.le_of_ble_eq_true rfl, Nat.le_of_ble_eq_true rfl⟩) (gr8 X hP kc_129 (sk_in hN kc_129 (by decide))) rfl hl.1 rfl (Nat.le_of_ble_eq_true rfl) dX8_digest_291 ⟨Nat.le_of_ble_eq_true rfl, Nat.le_of_ble_eq_true rfl⟩ (fun J52 H locs hw hP hS => ?_)
              have hw := hw.symm
              subst hw
              refine lv_aload_n hx hb dX8_digest_294 rfl (lv_at hl 0 rfl) ?_
              refine lv_aload_n hx hb dX8_digest_295 rfl (lv_at hl 0 rfl) ?_
              refine gg8_5 X hP kc_129 (sk_in hN kc_129 (by decide)) hi8 (List.mem_of_getElem? (i := 6) rfl) dX8_digest_296 ?_
              refine lv_iconst (v := 0) hx hb dX8_digest_299 (by decide) ?_
              refine ga21 X hP kc_134 (sk_in hN kc_134 (by decide)) (L := 2) (by decide) (by decide) dX8_digest_300 ?_
              obtain ⟨p54, hv, h⟩ := hb_some h
              have K309 : ∀ (H : Heap) (locs : List Loc) (ls : Array Slot), va_P (dC, dI) vwCl (hW N ca b I27 O J52) H → va_S A s.heap H locs → lv_has ls 2 [(0, .ref (b 129))] → W p l e (headSpec wsX8_digest ({ frames := 10, cells := 0, slots := 0, locals := 246 } : Room)).room s m ([.ref (b 129)] : List Value).toArray below meth c H locs 0 0 (MQ below (va_Ql (fun (r : Int64) (u : (Nat → Nat → Int32) × (Nat → Nat → Int64)) => res = (r, u)) (fun (u : (Nat → Nat → Int32) × (Nat → Nat → Int64)) t => va_P (dC, dI) vwCl (hW N ca b u.1 O u.2) t.heap) A) ([.ref (b 129)] : List Value).toArray s 0 0 A) (F0 m 309 ls [.long p54, .ref (b 129)]) := by
                intro H locs ls hP hS hl
                obtain ⟨q56, hcq56, h⟩ := hb_some h
                refine gdV_v (As := [.long p54]) (rest := []) (BH := (fun (u : Nat → Nat → Int64) H => va_P (dC, dI) vwCl (hW N ca b I27 O u) H)) X hP hS (c_X8_mixes hN hA I27 O J52 p54 q56 hcq56) (cwV 1 X.ts gX8_digest_X8_mixes rfl rfl rfl (by decide +kernel) ⟨Nat.le_of_ble_eq_true rfl, Nat.le_of_ble_eq_true rfl⟩) (gr8 X hP kc_129 (sk_in hN kc_129 (by decide))) rfl hl.1 rfl (Nat.le_of_ble_eq_true rfl) dX8_digest_309 ⟨Nat.le_of_ble_eq_true rfl, Nat.le_of_ble_eq_true rfl⟩ (fun J55 H locs hw hP hS => ?_)
                have hw := hw.symm
                subst hw
                refine lv_aload_n hx hb dX8_digest_312 rfl (lv_at hl 0 rfl) ?_
                refine lv_aload_n hx hb dX8_digest_313 rfl (lv_at hl 0 rfl) ?_
                refine gg8_5 X hP kc_129 (sk_in hN kc_129 (by decide)) hi8 (List.mem_of_getElem? (i := 6) rfl) dX8_digest_314 ?_
                refine lv_iconst (v := 1) hx hb dX8_digest_317 (by decide) ?_
                refine ga21 X hP kc_134 (sk_in hN kc_134 (by decide)) (L := 2) (by decide) (by decide) dX8_digest_318 ?_
                obtain ⟨p57, hv, h⟩ := hb_some h
                have K327 : ∀ (H : Heap) (locs : List Loc) (ls : Array Slot), va_P (dC, dI) vwCl (hW N ca b I27 O J55) H → va_S A s.heap H locs → lv_has ls 2 [(0, .ref (b 129))] → W p l e (headSpec wsX8_digest ({ frames := 10, cells := 0, slots := 0, locals := 246 } : Room)).room s m ([.ref (b 129)] : List Value).toArray below meth c H locs 0 0 (MQ below (va_Ql (fun (r : Int64) (u : (Nat → Nat → Int32) × (Nat → Nat → Int64)) => res = (r, u)) (fun (u : (Nat → Nat → Int32) × (Nat → Nat → Int64)) t => va_P (dC, dI) vwCl (hW N ca b u.1 O u.2) t.heap) A) ([.ref (b 129)] : List Value).toArray s 0 0 A) (F0 m 327 ls [.long p57, .ref (b 129)]) := by
                  intro H locs ls hP hS hl
                  obtain ⟨q59, hcq59, h⟩ := hb_some h
                  refine gdV_v (As := [.long p57]) (rest := []) (BH := (fun (u : Nat → Nat → Int64) H => va_P (dC, dI) vwCl (hW N ca b I27 O u) H)) X hP hS (c_X8_mixes hN hA I27 O J55 p57 q59 hcq59) (cwV 1 X.ts gX8_digest_X8_mixes rfl rfl rfl (by decide +kernel) ⟨Nat.le_of_ble_eq_true rfl, Nat.le_of_ble_eq_true rfl⟩) (gr8 X hP kc_129 (sk_in hN kc_129 (by decide))) rfl hl.1 rfl (Nat.le_of_ble_eq_true rfl) dX8_digest_327 ⟨Nat.le_of_ble_eq_true rfl, Nat.le_of_ble_eq_true rfl⟩ (fun J58 H locs hw hP hS => ?_)
                  have hw := hw.symm
                  subst hw
                  refine lv_aload_n hx hb dX8_digest_330 rfl (lv_at hl 0 rfl) ?_
                  refine lv_aload_n hx hb dX8_digest_331 rfl (lv_at hl 0 rfl) ?_
                  refine gg8_7 X hP kc_129 (sk_in hN kc_129 (by decide)) hi8 (List.mem_of_getElem? (i := 7) rfl) dX8_digest_332 ?_
                  refine lv_i2l (v := ((I27 129 7)).toInt64) hx hb dX8_digest_335 rfl ?_
                  obtain ⟨q61, hcq61, h⟩ := hb_some h
                  refine gdV_v (As := [.long (((I27 129 7)).toInt64)]) (rest := []) (BH := (fun (u : Nat → Nat → Int64) H => va_P (dC, dI) vwCl (hW N ca b I27 O u) H)) X hP hS (c_X8_mixes hN hA I27 O J58 (((I27 129 7)).toInt64) q61 hcq61) (cwV 1 X.ts gX8_digest_X8_mixes rfl rfl rfl (by decide +kernel) ⟨Nat.le_of_ble_eq_true rfl, Nat.le_of_ble_eq_true rfl⟩) (gr8 X hP kc_129 (sk_in hN kc_129 (by decide))) rfl hl.1 rfl (Nat.le_of_ble_eq_true rfl) dX8_digest_336 ⟨Nat.le_of_ble_eq_true rfl, Nat.le_of_ble_eq_true rfl⟩ (fun J60 H locs hw hP hS => ?_)
                  have hw := hw.symm
                  subst hw
                  refine lv_iconst (v := 0) hx hb dX8_digest_339 (by decide) ?_
                  refine lv_istore_n (lv' := [(1, .int (0 : Int32)), (0, .ref (b 129))]) hx hb dX8_digest_340 rfl hl (by decide) rfl (fun ls hl => ?_)
                  obtain ⟨J64, hv, h⟩ := hb_some h
                  have K366 : ∀ (H : Heap) (locs : List Loc) (ls : Array Slot), va_P (dC, dI) vwCl (hW N ca b I27 O J64) H → va_S A s.heap H locs → lv_has ls 2 [(0, .ref (b 129))] → W p l e (headSpec wsX8_digest ({ frames := 10, cells := 0, slots := 0, locals := 246 } : Room)).room s m ([.ref (b 129)] : List Value).toArray below meth c H locs 0 0 (MQ below (va_Ql (fun (r : Int64) (u : (Nat → Nat → Int32) × (Nat → Nat → Int64)) => res = (r, u)) (fun (u : (Nat → Nat → Int32) × (Nat → Nat → Int64)) t => va_P (dC, dI) vwCl (hW N ca b u.1 O u.2) t.heap) A) ([.ref (b 129)] : List Value).toArray s 0 0 A) (F0 m 366 ls []) := by
                    intro H locs ls hP hS hl
                    refine lv_aload_n hx hb dX8_digest_366 rfl (lv_at hl 0 rfl) ?_
                    refine gg8_16 X hP kc_129 (sk_in hN kc_129 (by decide)) hi8 (List.mem_of_getElem? (i := 3) rfl) dX8_digest_367 ?_
                    exact W.lret hx hb hr (fun t9 ht hW => ⟨⟨(J64 129 16), (I27, J64), rfl, (Option.some.inj h).symm, gEnd ht hP⟩, hS.F ht⟩) hS.2.2 dX8_digest_370 hlk
                  have hL341 : ∀ (fuel : Nat) (p62 : Int32) (J63 : Nat → Nat → Int64) (H : Heap) (locs : List Loc) (ls : Array Slot), f_X8_digest_L341 I27 fuel p62 J63 = some J64 → va_P (dC, dI) vwCl (hW N ca b I27 O J63) H → va_S A s.heap H locs → lv_has ls 2 [(0, .ref (b 129)), (1, .int p62)] → W p l e (headSpec wsX8_digest ({ frames := 10, cells := 0, slots := 0, locals := 246 } : Room)).room s m ([.ref (b 129)] : List Value).toArray below meth c H locs 0 0 (MQ below (va_Ql (fun (r : Int64) (u : (Nat → Nat → Int32) × (Nat → Nat → Int64)) => res = (r, u)) (fun (u : (Nat → Nat → Int32) × (Nat → Nat → Int64)) t => va_P (dC, dI) vwCl (hW N ca b u.1 O u.2) t.heap) A) ([.ref (b 129)] : List Value).toArray s 0 0 A) (F0 m 341 ls []) := by
                    intro fuel
                    induction fuel with
                    | zero =>
                      intro p62 J63 H locs ls h hP hS hl
                      rw [f_X8_digest_L341] at h
                      cases h
                    | succ fuel ih =>
                      intro p62 J63 H locs ls h hP hS hl
                      rw [f_X8_digest_L341] at h
                      refine lv_iload_n hx hb dX8_digest_341 rfl (lv_at hl 1 rfl) ?_
                      refine lv_aload_n hx hb dX8_digest_342 rfl (lv_at hl 0 rfl) ?_
                      refine gg8_7 X hP kc_129 (sk_in hN kc_129 (by decide)) hi8 (List.mem_of_getElem? (i := 7) rfl) dX8_digest_343 ?_
                      refine lv_icmp_ge (tgt := 366) hx hb dX8_digest_346 (by decide) (fun c69 => ?_) (fun c69 => ?_)
                      · have h := gif_t c69 h
                        cases h
                        exact K366 _ _ _ hP hS (lv_sub hl [0] rfl)
                      · have h := gif_f c69 h
                        refine lv_aload_n hx hb dX8_digest_349 rfl (lv_at hl 0 rfl) ?_
                        refine lv_aload_n hx hb dX8_digest_350 rfl (lv_at hl 0 rfl) ?_
                        refine gg8_6 X hP kc_129 (sk_in hN kc_129 (by decide)) hi8 (List.mem_of_getElem? (i := 8) rfl) dX8_digest_351 ?_
                        refine lv_iload_n hx hb dX8_digest_354 rfl (lv_at hl 1 rfl) ?_
                        obtain ⟨hgi65, h⟩ := hg_some h
                        refine ga20 X hP kc_135 (sk_in hN kc_135 (by decide)) (L := 60) (by decide) hgi65 dX8_digest_355 ?_
                        refine lv_i2l (v := ((I27 135 (p62.toNatClampNeg))).toInt64) hx hb dX8_digest_356 rfl ?_
                        obtain ⟨q67, hcq67, h⟩ := hb_some h
                        refine gdV_v (As := [.long (((I27 135 (p62.toNatClampNeg))).toInt64)]) (rest := []) (BH := (fun (u : Nat → Nat → Int64) H => va_P (dC, dI) vwCl (hW N ca b I27 O u) H)) X hP hS (c_X8_mixes hN hA I27 O J63 (((I27 135 (p62.toNatClampNeg))).toInt64) q67 hcq67) (cwV 1 X.ts gX8_digest_X8_mixes rfl rfl rfl (by decide +kernel) ⟨Nat.le_of_ble_eq_true rfl, Nat.le_of_ble_eq_true rfl⟩) (gr8 X hP kc_129 (sk_in hN kc_129 (by decide))) rfl hl.1 rfl (Nat.le_of_ble_eq_true rfl) dX8_digest_357 ⟨Nat.le_of_ble_eq_true rfl, Nat.le_of_ble_eq_true rfl⟩ (fun J66 H locs hw hP hS => ?_)
                        have hw := hw.symm
                        subst hw
                        obtain ⟨x68, ex68, h⟩ := hlet_ex h
                        refine lv_iinc (v := x68) (lv' := [(1, .int x68), (0, .ref (b 129))]) hx hb dX8_digest_360 hl (k := 1) rfl (by rw [ex68]; rfl) (by decide) rfl (fun ls hl => ?_)
                        refine lv_goto (tgt := 341) hx hb dX8_digest_363 (by decide) ?_
                        exact ih _ _ _ _ _ h hP hS (lv_sub hl [1, 0] rfl)
                  exact hL341 FU _ _ _ _ _ hv hP hS (lv_sub hl [1, 0] rfl)
                have h := hv
                refine lv_if_eq (tgt := 326) hx hb dX8_digest_319 (by decide) (fun c70 => ?_) (fun c70 => ?_)
                · have h := gif_t c70 h
                  refine lv_lconst (v := 0) hx hb dX8_digest_326 (by decide) ?_
                  cases h
                  exact K327 _ _ _ hP hS (lv_sub hl [0] rfl)
                · have h := gif_f c70 h
                  refine lv_lconst (v := 1) hx hb dX8_digest_322 (by decide) ?_
                  refine lv_goto (tgt := 327) hx hb dX8_digest_323 (by decide) ?_
                  cases h
                  exact K327 _ _ _ hP hS (lv_sub hl [0] rfl)
              have h := hv
              refine lv_if_eq (tgt := 308) hx hb dX8_digest_301 (by decide) (fun c71 => ?_) (fun c71 => ?_)
              · have h := gif_t c71 h
                refine lv_lconst (v := 0) hx hb dX8_digest_308 (by decide) ?_
                cases h
                exact K309 _ _ _ hP hS (lv_sub hl [0] rfl)
              · have h := gif_f c71 h
                refine lv_lconst (v := 1) hx hb dX8_digest_304 (by decide) ?_
                refine lv_goto (tgt := 309) hx hb dX8_digest_305 (by decide) ?_
                cases h
                exact K309 _ _ _ hP hS (lv_sub hl [0] rfl)
            have hL250 : ∀ (fuel : Nat) (p43 : Int32) (J44 : Nat → Nat → Int64) (H : Heap) (locs : List Loc) (ls : Array Slot), f_X8_digest_L250 I27 fuel p43 J44 = some J45 → va_P (dC, dI) vwCl (hW N ca b I27 O J44) H → va_S A s.heap H locs → lv_has ls 2 [(0, .ref (b 129)), (1, .int p43)] → W p l e (headSpec wsX8_digest ({ frames := 10, cells := 0, slots := 0, locals := 246 } : Room)).room s m ([.ref (b 129)] : List Value).toArray below meth c H locs 0 0 (MQ below (va_Ql (fun (r : Int64) (u : (Nat → Nat → Int32) × (Nat → Nat → Int64)) => res = (r, u)) (fun (u : (Nat → Nat → Int32) × (Nat → Nat → Int64)) t => va_P (dC, dI) vwCl (hW N ca b u.1 O u.2) t.heap) A) ([.ref (b 129)] : List Value).toArray s 0 0 A) (F0 m 250 ls []) := by
              intro fuel
              induction fuel with
              | zero =>
                intro p43 J44 H locs ls h hP hS hl
                rw [f_X8_digest_L250] at h
                cases h
              | succ fuel ih =>
                intro p43 J44 H locs ls h hP hS hl
                rw [f_X8_digest_L250] at h
                refine lv_iload_n hx hb dX8_digest_250 rfl (lv_at hl 1 rfl) ?_
                refine lv_sipush (v := 149) hx hb dX8_digest_251 (by decide) ?_
                refine lv_icmp_gt (tgt := 274) hx hb dX8_digest_254 (by decide) (fun c76 => ?_) (fun c76 => ?_)
                · have h := gif_t c76 h
                  cases h
                  exact K274 _ _ _ hP hS (lv_sub hl [0] rfl)
                · have h := gif_f c76 h
                  refine lv_aload_n hx hb dX8_digest_257 rfl (lv_at hl 0 rfl) ?_
                  refine lv_aload_n hx hb dX8_digest_258 rfl (lv_at hl 0 rfl) ?_
                  refine gg8_0 X hP kc_129 (sk_in hN kc_129 (by decide)) hi8 (List.mem_of_getElem? (i := 4) rfl) dX8_digest_259 ?_
                  refine lv_iload_n hx hb dX8_digest_262 rfl (lv_at hl 1 rfl) ?_
                  obtain ⟨hgi72, h⟩ := hg_some h
                  refine ga20 X hP kc_130 (sk_in hN kc_130 (by decide)) (L := 151) (by decide) hgi72 dX8_digest_263 ?_
                  refine lv_i2l (v := ((I27 130 (p43.toNatClampNeg))).toInt64) hx hb dX8_digest_264 rfl ?_
                  obtain ⟨q74, hcq74, h⟩ := hb_some h
                  refine gdV_v (As := [.long (((I27 130 (p43.toNatClampNeg))).toInt64)]) (rest := []) (BH := (fun (u : Nat → Nat → Int64) H => va_P (dC, dI) vwCl (hW N ca b I27 O u) H)) X hP hS (c_X8_mixes hN hA I27 O J44 (((I27 130 (p43.toNatClampNeg))).toInt64) q74 hcq74) (cwV 1 X.ts gX8_digest_X8_mixes rfl rfl rfl (by decide +kernel) ⟨Nat.le_of_ble_eq_true rfl, Nat.le_of_ble_eq_true rfl⟩) (gr8 X hP kc_129 (sk_in hN kc_129 (by decide))) rfl hl.1 rfl (Nat.le_of_ble_eq_true rfl) dX8_digest_265 ⟨Nat.le_of_ble_eq_true rfl, Nat.le_of_ble_eq_true rfl⟩ (fun J73 H locs hw hP hS => ?_)
                  have hw := hw.symm
                  subst hw
                  obtain ⟨x75, ex75, h⟩ := hlet_ex h
                  refine lv_iinc (v := x75) (lv' := [(1, .int x75), (0, .ref (b 129))]) hx hb dX8_digest_268 hl (k := 1) rfl (by rw [ex75]; rfl) (by decide) rfl (fun ls hl => ?_)
                  refine lv_goto (tgt := 250) hx hb dX8_digest_271 (by decide) ?_
                  exact ih _ _ _ _ _ h hP hS (lv_sub hl [1, 0] rfl)
            exact hL250 FU _ _ _ _ _ hv hP hS (lv_sub hl [1, 0] rfl)
          have hL204 : ∀ (fuel : Nat) (p36 : Int32) (J37 : Nat → Nat → Int64) (H : Heap) (locs : List Loc) (ls : Array Slot), f_X8_digest_L204 I27 fuel p36 J37 = some J38 → va_P (dC, dI) vwCl (hW N ca b I27 O J37) H → va_S A s.heap H locs → lv_has ls 2 [(0, .ref (b 129)), (1, .int p36)] → W p l e (headSpec wsX8_digest ({ frames := 10, cells := 0, slots := 0, locals := 246 } : Room)).room s m ([.ref (b 129)] : List Value).toArray below meth c H locs 0 0 (MQ below (va_Ql (fun (r : Int64) (u : (Nat → Nat → Int32) × (Nat → Nat → Int64)) => res = (r, u)) (fun (u : (Nat → Nat → Int32) × (Nat → Nat → Int64)) t => va_P (dC, dI) vwCl (hW N ca b u.1 O u.2) t.heap) A) ([.ref (b 129)] : List Value).toArray s 0 0 A) (F0 m 204 ls []) := by
            intro fuel
            induction fuel with
            | zero =>
              intro p36 J37 H locs ls h hP hS hl
              rw [f_X8_digest_L204] at h
              cases h
            | succ fuel ih =>
              intro p36 J37 H locs ls h hP hS hl
              rw [f_X8_digest_L204] at h
              refine lv_iload_n hx hb dX8_digest_204 rfl (lv_at hl 1 rfl) ?_
              refine lv_aload_n hx hb dX8_digest_205 rfl (lv_at hl 0 rfl) ?_
              refine gg8_0 X hP kc_129 (sk_in hN kc_129 (by decide)) hi8 (List.mem_of_getElem? (i := 4) rfl) dX8_digest_206 ?_
              refine lv_sipush (v := 135) hx hb dX8_digest_209 (by decide) ?_
              refine ga20 X hP kc_130 (sk_in hN kc_130 (by decide)) (L := 151) (by decide) (by decide) dX8_digest_212 ?_
              refine lv_icmp_ge (tgt := 237) hx hb dX8_digest_213 (by decide) (fun c81 => ?_) (fun c81 => ?_)
              · have h := gif_t c81 h
                cases h
                exact K237 _ _ _ hP hS (lv_sub hl [0] rfl)
              · have h := gif_f c81 h
                refine lv_aload_n hx hb dX8_digest_216 rfl (lv_at hl 0 rfl) ?_
                refine lv_aload_n hx hb dX8_digest_217 rfl (lv_at hl 0 rfl) ?_
                refine gg8_0 X hP kc_129 (sk_in hN kc_129 (by decide)) hi8 (List.mem_of_getElem? (i := 4) rfl) dX8_digest_218 ?_
                refine lv_sipush (v := 136) hx hb dX8_digest_221 (by decide) ?_
                refine lv_iload_n hx hb dX8_digest_224 rfl (lv_at hl 1 rfl) ?_
                refine lv_iadd hx hb dX8_digest_225 ?_
                obtain ⟨hgi77, h⟩ := hg_some h
                refine ga20 X hP kc_130 (sk_in hN kc_130 (by decide)) (L := 151) (by decide) hgi77 dX8_digest_226 ?_
                refine lv_i2l (v := ((I27 130 (((136 : Int32) + p36).toNatClampNeg))).toInt64) hx hb dX8_digest_227 rfl ?_
                obtain ⟨q79, hcq79, h⟩ := hb_some h
                refine gdV_v (As := [.long (((I27 130 (((136 : Int32) + p36).toNatClampNeg))).toInt64)]) (rest := []) (BH := (fun (u : Nat → Nat → Int64) H => va_P (dC, dI) vwCl (hW N ca b I27 O u) H)) X hP hS (c_X8_mixes hN hA I27 O J37 (((I27 130 (((136 : Int32) + p36).toNatClampNeg))).toInt64) q79 hcq79) (cwV 1 X.ts gX8_digest_X8_mixes rfl rfl rfl (by decide +kernel) ⟨Nat.le_of_ble_eq_true rfl, Nat.le_of_ble_eq_true rfl⟩) (gr8 X hP kc_129 (sk_in hN kc_129 (by decide))) rfl hl.1 rfl (Nat.le_of_ble_eq_true rfl) dX8_digest_228 ⟨Nat.le_of_ble_eq_true rfl, Nat.le_of_ble_eq_true rfl⟩ (fun J78 H locs hw hP hS => ?_)
                have hw := hw.symm
                subst hw
                obtain ⟨x80, ex80, h⟩ := hlet_ex h
                refine lv_iinc (v := x80) (lv' := [(1, .int x80), (0, .ref (b 129))]) hx hb dX8_digest_231 hl (k := 1) rfl (by rw [ex80]; rfl) (by decide) rfl (fun ls hl => ?_)
                refine lv_goto (tgt := 204) hx hb dX8_digest_234 (by decide) ?_
                exact ih _ _ _ _ _ h hP hS (lv_sub hl [1, 0] rfl)
          exact hL204 FU _ _ _ _ _ hv hP hS (lv_sub hl [1, 0] rfl)
        have h := hv
        refine lv_if_le (tgt := 159) hx hb dX8_digest_135 (by decide) (fun c86 => ?_) (fun c86 => ?_)
        · have h := gif_t c86 h
          refine lv_lconst (v := 0) hx hb dX8_digest_159 (by decide) ?_
          cases h
          exact K160 _ _ _ hP hS (lv_sub hl [0] rfl)
        · have h := gif_f c86 h
          refine lv_aload_n hx hb dX8_digest_138 rfl (lv_at hl 0 rfl) ?_
          refine gg8_0 X hP kc_129 (sk_in hN kc_129 (by decide)) hi8 (List.mem_of_getElem? (i := 4) rfl) dX8_digest_139 ?_
          refine lv_sipush (v := 150) hx hb dX8_digest_142 (by decide) ?_
          refine ga20 X hP kc_130 (sk_in hN kc_130 (by decide)) (L := 151) (by decide) (by decide) dX8_digest_145 ?_
          refine lv_iconst (v := 1) hx hb dX8_digest_146 (by decide) ?_
          refine lv_icmp_ne (tgt := 159) hx hb dX8_digest_147 (by decide) (fun c85 => ?_) (fun c85 => ?_)
          · have h := gif_f c85 h
            refine lv_lconst (v := 0) hx hb dX8_digest_159 (by decide) ?_
            cases h
            exact K160 _ _ _ hP hS (lv_sub hl [0] rfl)
          · have h := gif_t c85 h
            refine lv_aload_n hx hb dX8_digest_150 rfl (lv_at hl 0 rfl) ?_
            refine lv_iconst (v := 0) hx hb dX8_digest_151 (by decide) ?_
            obtain ⟨q84, hcq84, h⟩ := hb_some h
            refine gdV_i (As := [.int (0 : Int32)]) (rest := [.ref (b 129)]) (BH := (fun (u : Nat → Nat → Int32) H => va_P (dC, dI) vwCl (hW N ca b u O J24) H)) X hP hS (c_X8_best hN hA I21 O J24 (0 : Int32) q84 hcq84) (cwV 1 X.ts gX8_digest_X8_best rfl rfl rfl (by decide +kernel) ⟨Nat.le_of_ble_eq_true rfl, Nat.le_of_ble_eq_true rfl⟩) (gr8 X hP kc_129 (sk_in hN kc_129 (by decide))) rfl hl.1 rfl (Nat.le_of_ble_eq_true rfl) dX8_digest_152 ⟨Nat.le_of_ble_eq_true rfl, Nat.le_of_ble_eq_true rfl⟩ (fun r83 I82 H locs hw hP hS => ?_)
            subst hw
            refine lv_i2l (v := (r83).toInt64) hx hb dX8_digest_155 rfl ?_
            refine lv_goto (tgt := 160) hx hb dX8_digest_156 (by decide) ?_
            cases h
            exact K160 _ _ _ hP hS (lv_sub hl [0] rfl)
      have hL82 : ∀ (fuel : Nat) (p13 : Int32) (J14 : Nat → Nat → Int64) (H : Heap) (locs : List Loc) (ls : Array Slot), f_X8_digest_L82 I8 fuel p13 J14 = some J15 → va_P (dC, dI) vwCl (hW N ca b I8 O J14) H → va_S A s.heap H locs → lv_has ls 2 [(0, .ref (b 129)), (1, .int p13)] → W p l e (headSpec wsX8_digest ({ frames := 10, cells := 0, slots := 0, locals := 246 } : Room)).room s m ([.ref (b 129)] : List Value).toArray below meth c H locs 0 0 (MQ below (va_Ql (fun (r : Int64) (u : (Nat → Nat → Int32) × (Nat → Nat → Int64)) => res = (r, u)) (fun (u : (Nat → Nat → Int32) × (Nat → Nat → Int64)) t => va_P (dC, dI) vwCl (hW N ca b u.1 O u.2) t.heap) A) ([.ref (b 129)] : List Value).toArray s 0 0 A) (F0 m 82 ls []) := by
        intro fuel
        induction fuel with
        | zero =>
          intro p13 J14 H locs ls h hP hS hl
          rw [f_X8_digest_L82] at h
          cases h
        | succ fuel ih =>
          intro p13 J14 H locs ls h hP hS hl
          rw [f_X8_digest_L82] at h
          refine lv_iload_n hx hb dX8_digest_82 rfl (lv_at hl 1 rfl) ?_
          refine lv_iconst (v := 4) hx hb dX8_digest_83 (by decide) ?_
          refine lv_icmp_ge (tgt := 108) hx hb dX8_digest_84 (by decide) (fun c91 => ?_) (fun c91 => ?_)
          · have h := gif_t c91 h
            cases h
            exact K108 _ _ _ hP hS (lv_sub hl [0] rfl)
          · have h := gif_f c91 h
            refine lv_aload_n hx hb dX8_digest_87 rfl (lv_at hl 0 rfl) ?_
            refine lv_aload_n hx hb dX8_digest_88 rfl (lv_at hl 0 rfl) ?_
            refine gg8_0 X hP kc_129 (sk_in hN kc_129 (by decide)) hi8 (List.mem_of_getElem? (i := 4) rfl) dX8_digest_89 ?_
            refine lv_sipush (v := 129) hx hb dX8_digest_92 (by decide) ?_
            refine lv_iload_n hx hb dX8_digest_95 rfl (lv_at hl 1 rfl) ?_
            refine lv_iadd hx hb dX8_digest_96 ?_
            obtain ⟨hgi87, h⟩ := hg_some h
            refine ga20 X hP kc_130 (sk_in hN kc_130 (by decide)) (L := 151) (by decide) hgi87 dX8_digest_97 ?_
            refine lv_i2l (v := ((I8 130 (((129 : Int32) + p13).toNatClampNeg))).toInt64) hx hb dX8_digest_98 rfl ?_
            obtain ⟨q89, hcq89, h⟩ := hb_some h
            refine gdV_v (As := [.long (((I8 130 (((129 : Int32) + p13).toNatClampNeg))).toInt64)]) (rest := []) (BH := (fun (u : Nat → Nat → Int64) H => va_P (dC, dI) vwCl (hW N ca b I8 O u) H)) X hP hS (c_X8_mixes hN hA I8 O J14 (((I8 130 (((129 : Int32) + p13).toNatClampNeg))).toInt64) q89 hcq89) (cwV 1 X.ts gX8_digest_X8_mixes rfl rfl rfl (by decide +kernel) ⟨Nat.le_of_ble_eq_true rfl, Nat.le_of_ble_eq_true rfl⟩) (gr8 X hP kc_129 (sk_in hN kc_129 (by decide))) rfl hl.1 rfl (Nat.le_of_ble_eq_true rfl) dX8_digest_99 ⟨Nat.le_of_ble_eq_true rfl, Nat.le_of_ble_eq_true rfl⟩ (fun J88 H locs hw hP hS => ?_)
            have hw := hw.symm
            subst hw
            obtain ⟨x90, ex90, h⟩ := hlet_ex h
            refine lv_iinc (v := x90) (lv' := [(1, .int x90), (0, .ref (b 129))]) hx hb dX8_digest_102 hl (k := 1) rfl (by rw [ex90]; rfl) (by decide) rfl (fun ls hl => ?_)
            refine lv_goto (tgt := 82) hx hb dX8_digest_105 (by decide) ?_
            exact ih _ _ _ _ _ h hP hS (lv_sub hl [1, 0] rfl)
      exact hL82 FU _ _ _ _ _ hv hP hS (lv_sub hl [1, 0] rfl)
    have hL52 : ∀ (fuel : Nat) (p10 : Int32) (J11 : Nat → Nat → Int64) (H : Heap) (locs : List Loc) (ls : Array Slot), f_X8_digest_L52 I8 fuel p10 J11 = some J12 → va_P (dC, dI) vwCl (hW N ca b I8 O J11) H → va_S A s.heap H locs → lv_has ls 2 [(0, .ref (b 129)), (1, .int p10)] → W p l e (headSpec wsX8_digest ({ frames := 10, cells := 0, slots := 0, locals := 246 } : Room)).room s m ([.ref (b 129)] : List Value).toArray below meth c H locs 0 0 (MQ below (va_Ql (fun (r : Int64) (u : (Nat → Nat → Int32) × (Nat → Nat → Int64)) => res = (r, u)) (fun (u : (Nat → Nat → Int32) × (Nat → Nat → Int64)) t => va_P (dC, dI) vwCl (hW N ca b u.1 O u.2) t.heap) A) ([.ref (b 129)] : List Value).toArray s 0 0 A) (F0 m 52 ls []) := by
      intro fuel
      induction fuel with
      | zero =>
        intro p10 J11 H locs ls h hP hS hl
        rw [f_X8_digest_L52] at h
        cases h
      | succ fuel ih =>
        intro p10 J11 H locs ls h hP hS hl
        rw [f_X8_digest_L52] at h
        refine lv_iload_n hx hb dX8_digest_52 rfl (lv_at hl 1 rfl) ?_
        refine lv_aload_n hx hb dX8_digest_53 rfl (lv_at hl 0 rfl) ?_
        refine gg8_0 X hP kc_129 (sk_in hN kc_129 (by decide)) hi8 (List.mem_of_getElem? (i := 4) rfl) dX8_digest_54 ?_
        refine lv_sipush (v := 128) hx hb dX8_digest_57 (by decide) ?_
        refine ga20 X hP kc_130 (sk_in hN kc_130 (by decide)) (L := 151) (by decide) (by decide) dX8_digest_60 ?_
        refine lv_icmp_ge (tgt := 80) hx hb dX8_digest_61 (by decide) (fun c97 => ?_) (fun c97 => ?_)
        · have h := gif_t c97 h
          cases h
          exact K80 _ _ _ hP hS (lv_sub hl [0] rfl)
        · have h := gif_f c97 h
          refine lv_aload_n hx hb dX8_digest_64 rfl (lv_at hl 0 rfl) ?_
          refine lv_aload_n hx hb dX8_digest_65 rfl (lv_at hl 0 rfl) ?_
          refine lv_iload_n hx hb dX8_digest_66 rfl (lv_at hl 1 rfl) ?_
          obtain ⟨q93, hcq93, h⟩ := hb_some h
          refine gdV_i (As := [.int p10]) (rest := [.ref (b 129)]) (BH := (fun (u : Unit) H => va_P (dC, dI) vwCl (hW N ca b I8 O J11) H)) X hP hS (c_X8_birdAt hN hA I8 O J11 p10 q93 hcq93) (cwV 1 X.ts gX8_digest_X8_birdAt rfl rfl rfl (by decide +kernel) ⟨Nat.le_of_ble_eq_true rfl, Nat.le_of_ble_eq_true rfl⟩) (gr8 X hP kc_129 (sk_in hN kc_129 (by decide))) rfl hl.1 rfl (Nat.le_of_ble_eq_true rfl) dX8_digest_67 ⟨Nat.le_of_ble_eq_true rfl, Nat.le_of_ble_eq_true rfl⟩ (fun r92 u9 H locs hw hP hS => ?_)
          have hw := hw.symm
          subst hw
          refine lv_i2l (v := (r92).toInt64) hx hb dX8_digest_70 rfl ?_
          obtain ⟨q95, hcq95, h⟩ := hb_some h
          refine gdV_v (As := [.long ((r92).toInt64)]) (rest := []) (BH := (fun (u : Nat → Nat → Int64) H => va_P (dC, dI) vwCl (hW N ca b I8 O u) H)) X hP hS (c_X8_mixes hN hA I8 O J11 ((r92).toInt64) q95 hcq95) (cwV 1 X.ts gX8_digest_X8_mixes rfl rfl rfl (by decide +kernel) ⟨Nat.le_of_ble_eq_true rfl, Nat.le_of_ble_eq_true rfl⟩) (gr8 X hP kc_129 (sk_in hN kc_129 (by decide))) rfl hl.1 rfl (Nat.le_of_ble_eq_true rfl) dX8_digest_71 ⟨Nat.le_of_ble_eq_true rfl, Nat.le_of_ble_eq_true rfl⟩ (fun J94 H locs hw hP hS => ?_)
          have hw := hw.symm
          subst hw
          obtain ⟨x96, ex96, h⟩ := hlet_ex h
          refine lv_iinc (v := x96) (lv' := [(1, .int x96), (0, .ref (b 129))]) hx hb dX8_digest_74 hl (k := 1) rfl (by rw [ex96]; rfl) (by decide) rfl (fun ls hl => ?_)
          refine lv_goto (tgt := 52) hx hb dX8_digest_77 (by decide) ?_
          exact ih _ _ _ _ _ h hP hS (lv_sub hl [1, 0] rfl)
    exact hL52 FU _ _ _ _ _ hv hP hS (lv_sub hl [1, 0] rfl)
  have hL27 : ∀ (fuel : Nat) (p5 : Int32) (I6 : Nat → Nat → Int32) (J7 : Nat → Nat → Int64) (H : Heap) (locs : List Loc) (ls : Array Slot), f_X8_digest_L27  fuel p5 I6 J7 = some (I8, J9) → va_P (dC, dI) vwCl (hW N ca b I6 O J7) H → va_S A s.heap H locs → lv_has ls 2 [(0, .ref (b 129)), (1, .int p5)] → W p l e (headSpec wsX8_digest ({ frames := 10, cells := 0, slots := 0, locals := 246 } : Room)).room s m ([.ref (b 129)] : List Value).toArray below meth c H locs 0 0 (MQ below (va_Ql (fun (r : Int64) (u : (Nat → Nat → Int32) × (Nat → Nat → Int64)) => res = (r, u)) (fun (u : (Nat → Nat → Int32) × (Nat → Nat → Int64)) t => va_P (dC, dI) vwCl (hW N ca b u.1 O u.2) t.heap) A) ([.ref (b 129)] : List Value).toArray s 0 0 A) (F0 m 27 ls []) := by
    intro fuel
    induction fuel with
    | zero =>
      intro p5 I6 J7 H locs ls h hP hS hl
      rw [f_X8_digest_L27] at h
      cases h
    | succ fuel ih =>
      intro p5 I6 J7 H locs ls h hP hS hl
      rw [f_X8_digest_L27] at h
      refine lv_iload_n hx hb dX8_digest_27 rfl (lv_at hl 1 rfl) ?_
      refine lv_aload_n hx hb dX8_digest_28 rfl (lv_at hl 0 rfl) ?_
      refine gg8_0 X hP kc_129 (sk_in hN kc_129 (by decide)) hi8 (List.mem_of_getElem? (i := 4) rfl) dX8_digest_29 ?_
      refine lv_sipush (v := 128) hx hb dX8_digest_32 (by decide) ?_
      refine ga20 X hP kc_130 (sk_in hN kc_130 (by decide)) (L := 151) (by decide) (by decide) dX8_digest_35 ?_
      refine lv_icmp_ge (tgt := 50) hx hb dX8_digest_36 (by decide) (fun c102 => ?_) (fun c102 => ?_)
      · have h := gif_t c102 h
        cases h
        exact K50 _ _ _ hP hS (lv_sub hl [0] rfl)
      · have h := gif_f c102 h
        refine lv_aload_n hx hb dX8_digest_39 rfl (lv_at hl 0 rfl) ?_
        refine lv_iload_n hx hb dX8_digest_40 rfl (lv_at hl 1 rfl) ?_
        obtain ⟨q100, hcq100, h⟩ := hb_some h
        refine gdV_v (As := [.int p5]) (rest := []) (BH := (fun (u : (Nat → Nat → Int32) × (Nat → Nat → Int64)) H => va_P (dC, dI) vwCl (hW N ca b u.1 O u.2) H)) X hP hS (c_X8_mixBird hN hA I6 O J7 p5 q100 hcq100) (cwV 1 X.ts gX8_digest_X8_mixBird rfl rfl rfl (by decide +kernel) ⟨Nat.le_of_ble_eq_true rfl, Nat.le_of_ble_eq_true rfl⟩) (gr8 X hP kc_129 (sk_in hN kc_129 (by decide))) rfl hl.1 rfl (Nat.le_of_ble_eq_true rfl) dX8_digest_41 ⟨Nat.le_of_ble_eq_true rfl, Nat.le_of_ble_eq_true rfl⟩ (fun u9 H locs hw hP hS => ?_)
        obtain ⟨I98, J99⟩ := u9
        subst hw
        obtain ⟨x101, ex101, h⟩ := hlet_ex h
        refine lv_iinc (v := x101) (lv' := [(1, .int x101), (0, .ref (b 129))]) hx hb dX8_digest_44 hl (k := 1) rfl (by rw [ex101]; rfl) (by decide) rfl (fun ls hl => ?_)
        refine lv_goto (tgt := 27) hx hb dX8_digest_47 (by decide) ?_
        exact ih _ _ _ _ _ _ h hP hS (lv_sub hl [1, 0] rfl)
  exact hL27 FU _ _ _ _ _ _ hv hP hS (lv_sub hl [1, 0] rfl)
