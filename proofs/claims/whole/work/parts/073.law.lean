def f_L_case0 (SL : Nat) (sx : Nat → Int32) (p4 : Int32) (I : Nat → Nat → Int32) (O : Nat → Nat → Option Nat) (J : Nat → Nat → Int64) : Option ((Nat → Nat → Int32) × (Nat → Nat → Option Nat) × (Nat → Nat → Int64)) :=
  hg (gin (p4 + (1 : Int32)) SL) <|
  hg (gin (p4 + (2 : Int32)) SL) <|
  hg (gin (p4 + (3 : Int32)) SL) <|
  (f_L_enter (sx (p4 + (1 : Int32)).toNatClampNeg) (sx (p4 + (2 : Int32)).toNatClampNeg) (sx (p4 + (3 : Int32)).toNatClampNeg) I O J).bind fun (r104, I101, O102, J103) =>
  hg (gin (p4 + (1 : Int32)) SL) <|
  hg (gin (p4 + (2 : Int32)) SL) <|
  hg (gin (p4 + (3 : Int32)) SL) <|
  (f_X8_enter (sx (p4 + (1 : Int32)).toNatClampNeg) (sx (p4 + (2 : Int32)).toNatClampNeg) (sx (p4 + (3 : Int32)).toNatClampNeg) I101).bind fun (r107, I106) =>
  (f_X8_thrown I106).bind fun r109 =>
  if r109 = r104 then
    (show Option (Unit) from
      if r104 = 0 then
        if (lg_cmp (J103 137 (0 : Int32).toNatClampNeg) ((r107).toInt64)) = 0 then
          some ()
        else
          none
      else
        some ()).bind fun _ =>
    some (I106, O102, J103)
  else
    none
set_option maxHeartbeats 8000000 in
set_option maxRecDepth 100000 in
theorem lc0 {p : Program} {l : Launch} {e : Env} {s : State} {m : MethodId} {below : List Frame} {meth : Method} {c : Code} {Q : State → Prop} {sb SL : Nat} {sx : Nat → Int32} {dC : Nat → ClassId} {dI : Nat → Nat → Nat} {ca : Nat → ClassId} {b : Nat → Nat} {A : Nat → Prop} (hlf : l.stackTraces = false) (hml : c.maxLocals = 9) (X : gCx p s m #[Value.ref sb] c RL cL_law wsL_law 9 dC dI ca b A 138) (hX : va_X sb SL sx s s.heap) (hbl : sb < s.heap.size) (hbA : ¬ A sb) (p4 : Int32) (I : Nat → Nat → Int32) (O : Nat → Nat → Option Nat) (J : Nat → Nat → Int64) (I9 : Nat → Nat → Int32) (O9 : Nat → Nat → Option Nat) (J9 : Nat → Nat → Int64) (h : f_L_case0 SL sx p4 I O J = some (I9, O9, J9)) {cn sn : Nat} (hc : cn + 8 ≤ 601024) (hs : sn + 100 ≤ 7293034) (H : Heap) (locs : List Loc) (ls : Array Slot) (hP : va_P (dC, dI) vwCl (hW 138 ca b I O J) H) (hS : va_S A s.heap H locs) (hl : lv_has ls 9 [(0, .ref sb), (1, .ref (b 0)), (2, .ref (b 129)), (3, .ref (b 137)), (4, .int p4)]) (K : ∀ (H : Heap) (locs : List Loc) (ls : Array Slot), va_P (dC, dI) vwCl (hW 138 ca b I9 O9 J9) H → va_S A s.heap H locs → lv_has ls 9 [(0, .ref sb), (1, .ref (b 0)), (2, .ref (b 129)), (3, .ref (b 137)), (4, .int p4)] → W p l e room_1 s m #[Value.ref sb] below meth c H locs (cn + 8) (sn + 100) Q (F0 m 2558 ls [])) : W p l e room_1 s m #[Value.ref sb] below meth c H locs cn sn Q (F0 m 264 ls []) := by
  have hx := X.x
  have hb := X.cb
  have hA := X.ad
  have hN : 138 ≤ 138 := Nat.le_refl 138
  have hRc : room_1.cells = 601024 := rfl
  have hRs : room_1.slots = 7293034 := rfl
  unfold f_L_case0 at h
  refine lv_aload_n hx hb dL_law_264 rfl (lv_at hl 1 rfl) ?_
  refine lv_aload_n hx hb dL_law_265 rfl (lv_at hl 0 rfl) ?_
  refine lv_iload hx hb dL_law_266 (lv_at hl 4 rfl) ?_
  refine lv_iconst (v := 1) hx hb dL_law_268 (by decide) ?_
  refine lv_iadd hx hb dL_law_269 ?_
  obtain ⟨hgi, h⟩ := hg_some h
  refine va_sld hx hb hX hbl hbA hS (gin_vp hgi) dL_law_270 ?_
  refine lv_aload_n hx hb dL_law_271 rfl (lv_at hl 0 rfl) ?_
  refine lv_iload hx hb dL_law_272 (lv_at hl 4 rfl) ?_
  refine lv_iconst (v := 2) hx hb dL_law_274 (by decide) ?_
  refine lv_iadd hx hb dL_law_275 ?_
  obtain ⟨hgi, h⟩ := hg_some h
  refine va_sld hx hb hX hbl hbA hS (gin_vp hgi) dL_law_276 ?_
  refine lv_aload_n hx hb dL_law_277 rfl (lv_at hl 0 rfl) ?_
  refine lv_iload hx hb dL_law_278 (lv_at hl 4 rfl) ?_
  refine lv_iconst (v := 3) hx hb dL_law_280 (by decide) ?_
  refine lv_iadd hx hb dL_law_281 ?_
  obtain ⟨hgi, h⟩ := hg_some h
  refine va_sld hx hb hX hbl hbA hS (gin_vp hgi) dL_law_282 ?_
  refine lv_aload_n hx hb dL_law_283 rfl (lv_at hl 3 rfl) ?_
  obtain ⟨q105, hcq105, h⟩ := hb_some h
  refine gcSW_i (As := [.ref (b 0), .int (sx (p4 + (1 : Int32)).toNatClampNeg), .int (sx (p4 + (2 : Int32)).toNatClampNeg), .int (sx (p4 + (3 : Int32)).toNatClampNeg), .ref (b 137)]) (rest := []) (BH := (fun (u : (Nat → Nat → Int32) × (Nat → Nat → Option Nat) × (Nat → Nat → Int64)) H => va_P (dC, dI) vwCl (hW 138 ca b u.1 u.2.1 u.2.2) H)) X hP hS (c_L_enter hlf hN hA I O J (sx (p4 + (1 : Int32)).toNatClampNeg) (sx (p4 + (2 : Int32)).toNatClampNeg) (sx (p4 + (3 : Int32)).toNatClampNeg) q105 hcq105) (vx_cwSW 5 X.ts gL_law_L_enter rfl rfl rfl (by decide +kernel) ⟨Nat.le_of_ble_eq_true rfl, Nat.le_of_ble_eq_true rfl⟩) rfl hl.1 rfl (Nat.le_of_ble_eq_true rfl) dL_law_284 ⟨by omega, by omega⟩ (fun r104 u9 H locs hw hP hS => ?_)
  obtain ⟨I101, O102, J103⟩ := u9
  subst hw
  refine lv_istore (lv' := [(5, .int r104), (0, .ref sb), (1, .ref (b 0)), (2, .ref (b 129)), (3, .ref (b 137)), (4, .int p4)]) hx hb dL_law_287 hl (by decide) rfl (fun ls hl => ?_)
  refine lv_aload_n hx hb dL_law_289 rfl (lv_at hl 3 rfl) ?_
  refine lv_aload_n hx hb dL_law_290 rfl (lv_at hl 1 rfl) ?_
  refine lv_iload hx hb dL_law_291 (lv_at hl 5 rfl) ?_
  refine lv_iconst (v := 1) hx hb dL_law_293 (by decide) ?_
  refine lv_iadd hx hb dL_law_294 ?_
  obtain ⟨hgi, h⟩ := hg_some h
  refine va_sld hx hb hX hbl hbA hS (gin_vp hgi) dL_law_295 ?_
  refine lv_aload_n hx hb dL_law_296 rfl (lv_at hl 1 rfl) ?_
  refine lv_iload hx hb dL_law_297 (lv_at hl 5 rfl) ?_
  refine lv_iconst (v := 2) hx hb dL_law_299 (by decide) ?_
  refine lv_iadd hx hb dL_law_300 ?_
  obtain ⟨hgi, h⟩ := hg_some h
  refine va_sld hx hb hX hbl hbA hS (gin_vp hgi) dL_law_301 ?_
  refine lv_aload_n hx hb dL_law_302 rfl (lv_at hl 1 rfl) ?_
  refine lv_iload hx hb dL_law_303 (lv_at hl 5 rfl) ?_
  refine lv_iconst (v := 3) hx hb dL_law_305 (by decide) ?_
  refine lv_iadd hx hb dL_law_306 ?_
  obtain ⟨hgi, h⟩ := hg_some h
  refine va_sld hx hb hX hbl hbA hS (gin_vp hgi) dL_law_307 ?_
  obtain ⟨q108, hcq108, h⟩ := hb_some h
  refine gdV_i (As := [.int (sx (p4 + (1 : Int32)).toNatClampNeg), .int (sx (p4 + (2 : Int32)).toNatClampNeg), .int (sx (p4 + (3 : Int32)).toNatClampNeg)]) (rest := []) (BH := (fun (u : Nat → Nat → Int32) H => va_P (dC, dI) vwCl (hW 138 ca b u O102 J103) H)) X hP hS (c_X8_enter hN hA I101 O102 J103 (sx (p4 + (1 : Int32)).toNatClampNeg) (sx (p4 + (2 : Int32)).toNatClampNeg) (sx (p4 + (3 : Int32)).toNatClampNeg) q108 hcq108) (cwV 3 X.ts gL_law_X8_enter rfl rfl rfl (by decide +kernel) ⟨Nat.le_of_ble_eq_true rfl, Nat.le_of_ble_eq_true rfl⟩) (gr8 X hP kc_129 (sk_in hN kc_129 (by decide))) rfl hl.1 rfl (Nat.le_of_ble_eq_true rfl) dL_law_308 ⟨by omega, by omega⟩ (fun r107 I106 H locs hw hP hS => ?_)
  subst hw
  refine lv_istore (lv' := [(6, .int r107), (5, .int r104), (0, .ref sb), (1, .ref (b 0)), (2, .ref (b 129)), (3, .ref (b 137)), (4, .int p4)]) hx hb dL_law_311 hl (by decide) rfl (fun ls hl => ?_)
  refine lv_aload_n hx hb dL_law_313 rfl (lv_at hl 4 rfl) ?_
  obtain ⟨q110, hcq110, h⟩ := hb_some h
  refine gdV_i (As := []) (rest := []) (BH := (fun (u : Unit) H => va_P (dC, dI) vwCl (hW 138 ca b I106 O102 J103) H)) X hP hS (c_X8_thrown hN hA I106 O102 J103 q110 hcq110) (cwV 0 X.ts gL_law_X8_thrown rfl rfl rfl (by decide +kernel) ⟨Nat.le_of_ble_eq_true rfl, Nat.le_of_ble_eq_true rfl⟩) (gr8 X hP kc_129 (sk_in hN kc_129 (by decide))) rfl hl.1 rfl (Nat.le_of_ble_eq_true rfl) dL_law_314 ⟨by omega, by omega⟩ (fun r109 u9 H locs hw hP hS => ?_)
  have hw := hw.symm
  subst hw
  refine lv_iload hx hb dL_law_317 (lv_at hl 1 rfl) ?_
  refine lv_icmp_eq (tgt := 324) hx hb dL_law_319 (by decide) (fun c113 => ?_) (fun c113 => ?_)
  · have h := gif_t c113 h
    refine lv_iload hx hb dL_law_324 (lv_at hl 1 rfl) ?_
    obtain ⟨_, hv, h⟩ := hb_some h
    have K341 : ∀ (H : Heap) (locs : List Loc) (ls : Array Slot), va_P (dC, dI) vwCl (hW 138 ca b I106 O102 J103) H → va_S A s.heap H locs → lv_has ls 9 [(0, .ref sb), (1, .ref (b 0)), (2, .ref (b 129)), (3, .ref (b 137)), (4, .int p4)] → W p l e room_1 s m #[Value.ref sb] below meth c H locs (cn + 1) (sn + 6) Q (F0 m 341 ls []) := by
      intro H locs ls hP hS hl
      refine lv_goto (tgt := 2558) hx hb dL_law_341 (by decide) ?_
      refine W.widen (k := cn + 8) (n := sn + 100) (by omega) (by omega) ?_
      cases h
      exact K _ _ _ hP hS (lv_sub hl [0, 1, 2, 3, 4] rfl)
    have h := hv
    refine lv_if_ne (tgt := 341) hx hb dL_law_326 (by decide) (fun c112 => ?_) (fun c112 => ?_)
    · have h := gif_f c112 h
      refine W.widen (k := (cn + 1)) (n := (sn + 6)) (by omega) (by omega) ?_
      cases h
      exact K341 _ _ _ hP hS (lv_sub hl [2, 3, 4, 5, 6] rfl)
    · have h := gif_t c112 h
      refine lv_aload_n hx hb dL_law_329 rfl (lv_at hl 5 rfl) ?_
      refine lv_iconst (v := 0) hx hb dL_law_330 (by decide) ?_
      refine ga23 X hP kc_137 (sk_in hN kc_137 (by decide)) (L := 1) (by decide) (by decide) dL_law_331 ?_
      refine lv_iload hx hb dL_law_332 (lv_at hl 0 rfl) ?_
      refine lv_i2l (v := (r107).toInt64) hx hb dL_law_334 rfl ?_
      refine W.lcmp hx hb dL_law_335 ?_
      refine lv_if_eq (tgt := 341) hx hb dL_law_336 (by decide) (fun c111 => ?_) (fun c111 => ?_)
      · have h := gif_t c111 h
        refine W.widen (k := (cn + 1)) (n := (sn + 6)) (by omega) (by omega) ?_
        cases h
        exact K341 _ _ _ hP hS (lv_sub hl [2, 3, 4, 5, 6] rfl)
      · have h := gif_f c111 h
        refine lv_iconst (v := 0) hx hb dL_law_339 (by decide) ?_
        cases h
  · have h := gif_f c113 h
    refine lv_iconst (v := 0) hx hb dL_law_322 (by decide) ?_
    cases h
def f_L_case1 (SL : Nat) (sx : Nat → Int32) (p4 : Int32) (I : Nat → Nat → Int32) (O : Nat → Nat → Option Nat) (J : Nat → Nat → Int64) : Option ((Nat → Nat → Int32) × (Nat → Nat → Option Nat) × (Nat → Nat → Int64)) :=
  hg (gin (p4 + (1 : Int32)) SL) <|
  hg (gin (p4 + (2 : Int32)) SL) <|
  (f_L_setPace (sx (p4 + (1 : Int32)).toNatClampNeg) (sx (p4 + (2 : Int32)).toNatClampNeg) I O J).bind fun (r104, I101, O102, J103) =>
  hg (gin (p4 + (1 : Int32)) SL) <|
  hg (gin (p4 + (2 : Int32)) SL) <|
  (f_X8_setPace (sx (p4 + (1 : Int32)).toNatClampNeg) (sx (p4 + (2 : Int32)).toNatClampNeg) I101).bind fun (r107, I106) =>
  (f_X8_thrown I106).bind fun r109 =>
  if r109 = r104 then
    (show Option (Unit) from
      if r104 = 0 then
        if (lg_cmp (J103 137 (0 : Int32).toNatClampNeg) ((r107).toInt64)) = 0 then
          some ()
        else
          none
      else
        some ()).bind fun _ =>
    some (I106, O102, J103)
  else
    none
set_option maxHeartbeats 8000000 in
set_option maxRecDepth 100000 in
theorem lc1 {p : Program} {l : Launch} {e : Env} {s : State} {m : MethodId} {below : List Frame} {meth : Method} {c : Code} {Q : State → Prop} {sb SL : Nat} {sx : Nat → Int32} {dC : Nat → ClassId} {dI : Nat → Nat → Nat} {ca : Nat → ClassId} {b : Nat → Nat} {A : Nat → Prop} (hlf : l.stackTraces = false) (hml : c.maxLocals = 9) (X : gCx p s m #[Value.ref sb] c RL cL_law wsL_law 9 dC dI ca b A 138) (hX : va_X sb SL sx s s.heap) (hbl : sb < s.heap.size) (hbA : ¬ A sb) (p4 : Int32) (I : Nat → Nat → Int32) (O : Nat → Nat → Option Nat) (J : Nat → Nat → Int64) (I9 : Nat → Nat → Int32) (O9 : Nat → Nat → Option Nat) (J9 : Nat → Nat → Int64) (h : f_L_case1 SL sx p4 I O J = some (I9, O9, J9)) {cn sn : Nat} (hc : cn + 8 ≤ 601024) (hs : sn + 100 ≤ 7293034) (H : Heap) (locs : List Loc) (ls : Array Slot) (hP : va_P (dC, dI) vwCl (hW 138 ca b I O J) H) (hS : va_S A s.heap H locs) (hl : lv_has ls 9 [(0, .ref sb), (1, .ref (b 0)), (2, .ref (b 129)), (3, .ref (b 137)), (4, .int p4)]) (K : ∀ (H : Heap) (locs : List Loc) (ls : Array Slot), va_P (dC, dI) vwCl (hW 138 ca b I9 O9 J9) H → va_S A s.heap H locs → lv_has ls 9 [(0, .ref sb), (1, .ref (b 0)), (2, .ref (b 129)), (3, .ref (b 137)), (4, .int p4)] → W p l e room_1 s m #[Value.ref sb] below meth c H locs (cn + 8) (sn + 100) Q (F0 m 2558 ls [])) : W p l e room_1 s m #[Value.ref sb] below meth c H locs cn sn Q (F0 m 344 ls []) := by
  have hx := X.x
  have hb := X.cb
  have hA := X.ad
  have hN : 138 ≤ 138 := Nat.le_refl 138
  have hRc : room_1.cells = 601024 := rfl
  have hRs : room_1.slots = 7293034 := rfl
  unfold f_L_case1 at h
  refine lv_aload_n hx hb dL_law_344 rfl (lv_at hl 1 rfl) ?_
  refine lv_aload_n hx hb dL_law_345 rfl (lv_at hl 0 rfl) ?_
  refine lv_iload hx hb dL_law_346 (lv_at hl 4 rfl) ?_
  refine lv_iconst (v := 1) hx hb dL_law_348 (by decide) ?_
  refine lv_iadd hx hb dL_law_349 ?_
  obtain ⟨hgi, h⟩ := hg_some h
  refine va_sld hx hb hX hbl hbA hS (gin_vp hgi) dL_law_350 ?_
  refine lv_aload_n hx hb dL_law_351 rfl (lv_at hl 0 rfl) ?_
  refine lv_iload hx hb dL_law_352 (lv_at hl 4 rfl) ?_
  refine lv_iconst (v := 2) hx hb dL_law_354 (by decide) ?_
  refine lv_iadd hx hb dL_law_355 ?_
  obtain ⟨hgi, h⟩ := hg_some h
  refine va_sld hx hb hX hbl hbA hS (gin_vp hgi) dL_law_356 ?_
  refine lv_aload_n hx hb dL_law_357 rfl (lv_at hl 3 rfl) ?_
  obtain ⟨q105, hcq105, h⟩ := hb_some h
  refine gcSW_i (As := [.ref (b 0), .int (sx (p4 + (1 : Int32)).toNatClampNeg), .int (sx (p4 + (2 : Int32)).toNatClampNeg), .ref (b 137)]) (rest := []) (BH := (fun (u : (Nat → Nat → Int32) × (Nat → Nat → Option Nat) × (Nat → Nat → Int64)) H => va_P (dC, dI) vwCl (hW 138 ca b u.1 u.2.1 u.2.2) H)) X hP hS (c_L_setPace hlf hN hA I O J (sx (p4 + (1 : Int32)).toNatClampNeg) (sx (p4 + (2 : Int32)).toNatClampNeg) q105 hcq105) (vx_cwSW 4 X.ts gL_law_L_setPace rfl rfl rfl (by decide +kernel) ⟨Nat.le_of_ble_eq_true rfl, Nat.le_of_ble_eq_true rfl⟩) rfl hl.1 rfl (Nat.le_of_ble_eq_true rfl) dL_law_358 ⟨by omega, by omega⟩ (fun r104 u9 H locs hw hP hS => ?_)
  obtain ⟨I101, O102, J103⟩ := u9
  subst hw
  refine lv_istore (lv' := [(5, .int r104), (0, .ref sb), (1, .ref (b 0)), (2, .ref (b 129)), (3, .ref (b 137)), (4, .int p4)]) hx hb dL_law_361 hl (by decide) rfl (fun ls hl => ?_)
  refine lv_aload_n hx hb dL_law_363 rfl (lv_at hl 3 rfl) ?_
  refine lv_aload_n hx hb dL_law_364 rfl (lv_at hl 1 rfl) ?_
  refine lv_iload hx hb dL_law_365 (lv_at hl 5 rfl) ?_
  refine lv_iconst (v := 1) hx hb dL_law_367 (by decide) ?_
  refine lv_iadd hx hb dL_law_368 ?_
  obtain ⟨hgi, h⟩ := hg_some h
  refine va_sld hx hb hX hbl hbA hS (gin_vp hgi) dL_law_369 ?_
  refine lv_aload_n hx hb dL_law_370 rfl (lv_at hl 1 rfl) ?_
  refine lv_iload hx hb dL_law_371 (lv_at hl 5 rfl) ?_
  refine lv_iconst (v := 2) hx hb dL_law_373 (by decide) ?_
  refine lv_iadd hx hb dL_law_374 ?_
  obtain ⟨hgi, h⟩ := hg_some h
  refine va_sld hx hb hX hbl hbA hS (gin_vp hgi) dL_law_375 ?_
  obtain ⟨q108, hcq108, h⟩ := hb_some h
  refine gdV_i (As := [.int (sx (p4 + (1 : Int32)).toNatClampNeg), .int (sx (p4 + (2 : Int32)).toNatClampNeg)]) (rest := []) (BH := (fun (u : Nat → Nat → Int32) H => va_P (dC, dI) vwCl (hW 138 ca b u O102 J103) H)) X hP hS (c_X8_setPace hN hA I101 O102 J103 (sx (p4 + (1 : Int32)).toNatClampNeg) (sx (p4 + (2 : Int32)).toNatClampNeg) q108 hcq108) (cwV 2 X.ts gL_law_X8_setPace rfl rfl rfl (by decide +kernel) ⟨Nat.le_of_ble_eq_true rfl, Nat.le_of_ble_eq_true rfl⟩) (gr8 X hP kc_129 (sk_in hN kc_129 (by decide))) rfl hl.1 rfl (Nat.le_of_ble_eq_true rfl) dL_law_376 ⟨by omega, by omega⟩ (fun r107 I106 H locs hw hP hS => ?_)
  subst hw
  refine lv_istore (lv' := [(6, .int r107), (5, .int r104), (0, .ref sb), (1, .ref (b 0)), (2, .ref (b 129)), (3, .ref (b 137)), (4, .int p4)]) hx hb dL_law_379 hl (by decide) rfl (fun ls hl => ?_)
  refine lv_aload_n hx hb dL_law_381 rfl (lv_at hl 4 rfl) ?_
  obtain ⟨q110, hcq110, h⟩ := hb_some h
  refine gdV_i (As := []) (rest := []) (BH := (fun (u : Unit) H => va_P (dC, dI) vwCl (hW 138 ca b I106 O102 J103) H)) X hP hS (c_X8_thrown hN hA I106 O102 J103 q110 hcq110) (cwV 0 X.ts gL_law_X8_thrown rfl rfl rfl (by decide +kernel) ⟨Nat.le_of_ble_eq_true rfl, Nat.le_of_ble_eq_true rfl⟩) (gr8 X hP kc_129 (sk_in hN kc_129 (by decide))) rfl hl.1 rfl (Nat.le_of_ble_eq_true rfl) dL_law_382 ⟨by omega, by omega⟩ (fun r109 u9 H locs hw hP hS => ?_)
  have hw := hw.symm
  subst hw
  refine lv_iload hx hb dL_law_385 (lv_at hl 1 rfl) ?_
  refine lv_icmp_eq (tgt := 392) hx hb dL_law_387 (by decide) (fun c113 => ?_) (fun c113 => ?_)
  · have h := gif_t c113 h
    refine lv_iload hx hb dL_law_392 (lv_at hl 1 rfl) ?_
    obtain ⟨_, hv, h⟩ := hb_some h
    have K409 : ∀ (H : Heap) (locs : List Loc) (ls : Array Slot), va_P (dC, dI) vwCl (hW 138 ca b I106 O102 J103) H → va_S A s.heap H locs → lv_has ls 9 [(0, .ref sb), (1, .ref (b 0)), (2, .ref (b 129)), (3, .ref (b 137)), (4, .int p4)] → W p l e room_1 s m #[Value.ref sb] below meth c H locs (cn + 2) (sn + 12) Q (F0 m 409 ls []) := by
      intro H locs ls hP hS hl
      refine lv_goto (tgt := 2558) hx hb dL_law_409 (by decide) ?_
      refine W.widen (k := cn + 8) (n := sn + 100) (by omega) (by omega) ?_
      cases h
      exact K _ _ _ hP hS (lv_sub hl [0, 1, 2, 3, 4] rfl)
    have h := hv
    refine lv_if_ne (tgt := 409) hx hb dL_law_394 (by decide) (fun c112 => ?_) (fun c112 => ?_)
    · have h := gif_f c112 h
      refine W.widen (k := (cn + 2)) (n := (sn + 12)) (by omega) (by omega) ?_
      cases h
      exact K409 _ _ _ hP hS (lv_sub hl [2, 3, 4, 5, 6] rfl)
    · have h := gif_t c112 h
      refine lv_aload_n hx hb dL_law_397 rfl (lv_at hl 5 rfl) ?_
      refine lv_iconst (v := 0) hx hb dL_law_398 (by decide) ?_
      refine ga23 X hP kc_137 (sk_in hN kc_137 (by decide)) (L := 1) (by decide) (by decide) dL_law_399 ?_
      refine lv_iload hx hb dL_law_400 (lv_at hl 0 rfl) ?_
      refine lv_i2l (v := (r107).toInt64) hx hb dL_law_402 rfl ?_
      refine W.lcmp hx hb dL_law_403 ?_
      refine lv_if_eq (tgt := 409) hx hb dL_law_404 (by decide) (fun c111 => ?_) (fun c111 => ?_)
      · have h := gif_t c111 h
        refine W.widen (k := (cn + 2)) (n := (sn + 12)) (by omega) (by omega) ?_
        cases h
        exact K409 _ _ _ hP hS (lv_sub hl [2, 3, 4, 5, 6] rfl)
      · have h := gif_f c111 h
        refine lv_iconst (v := 0) hx hb dL_law_407 (by decide) ?_
        cases h
  · have h := gif_f c113 h
    refine lv_iconst (v := 0) hx hb dL_law_390 (by decide) ?_
    cases h
def f_L_case2 (SL : Nat) (sx : Nat → Int32) (p4 : Int32) (I : Nat → Nat → Int32) (O : Nat → Nat → Option Nat) (J : Nat → Nat → Int64) : Option ((Nat → Nat → Int32) × (Nat → Nat → Option Nat) × (Nat → Nat → Int64)) :=
  hg (gin (p4 + (1 : Int32)) SL) <|
  (f_L_callIn (sx (p4 + (1 : Int32)).toNatClampNeg) I O J).bind fun (r104, I101, O102, J103) =>
  hg (gin (p4 + (1 : Int32)) SL) <|
  (f_X8_callIn (sx (p4 + (1 : Int32)).toNatClampNeg) I101).bind fun (r107, I106) =>
  (f_X8_thrown I106).bind fun r109 =>
  if r109 = r104 then
    (show Option (Unit) from
      if r104 = 0 then
        (show Option (Int64) from
          if r107 = 0 then
            some (0 : Int64)
          else
            some (1 : Int64)).bind fun p111 =>
        if (lg_cmp (J103 137 (0 : Int32).toNatClampNeg) p111) = 0 then
          some ()
        else
          none
      else
        some ()).bind fun _ =>
    some (I106, O102, J103)
  else
    none
set_option maxHeartbeats 8000000 in
set_option maxRecDepth 100000 in
theorem lc2 {p : Program} {l : Launch} {e : Env} {s : State} {m : MethodId} {below : List Frame} {meth : Method} {c : Code} {Q : State → Prop} {sb SL : Nat} {sx : Nat → Int32} {dC : Nat → ClassId} {dI : Nat → Nat → Nat} {ca : Nat → ClassId} {b : Nat → Nat} {A : Nat → Prop} (hlf : l.stackTraces = false) (hml : c.maxLocals = 9) (X : gCx p s m #[Value.ref sb] c RL cL_law wsL_law 9 dC dI ca b A 138) (hX : va_X sb SL sx s s.heap) (hbl : sb < s.heap.size) (hbA : ¬ A sb) (p4 : Int32) (I : Nat → Nat → Int32) (O : Nat → Nat → Option Nat) (J : Nat → Nat → Int64) (I9 : Nat → Nat → Int32) (O9 : Nat → Nat → Option Nat) (J9 : Nat → Nat → Int64) (h : f_L_case2 SL sx p4 I O J = some (I9, O9, J9)) {cn sn : Nat} (hc : cn + 8 ≤ 601024) (hs : sn + 100 ≤ 7293034) (H : Heap) (locs : List Loc) (ls : Array Slot) (hP : va_P (dC, dI) vwCl (hW 138 ca b I O J) H) (hS : va_S A s.heap H locs) (hl : lv_has ls 9 [(0, .ref sb), (1, .ref (b 0)), (2, .ref (b 129)), (3, .ref (b 137)), (4, .int p4)]) (K : ∀ (H : Heap) (locs : List Loc) (ls : Array Slot), va_P (dC, dI) vwCl (hW 138 ca b I9 O9 J9) H → va_S A s.heap H locs → lv_has ls 9 [(0, .ref sb), (1, .ref (b 0)), (2, .ref (b 129)), (3, .ref (b 137)), (4, .int p4)] → W p l e room_1 s m #[Value.ref sb] below meth c H locs (cn + 8) (sn + 100) Q (F0 m 2558 ls [])) : W p l e room_1 s m #[Value.ref sb] below meth c H locs cn sn Q (F0 m 412 ls []) := by
  have hx := X.x
  have hb := X.cb
  have hA := X.ad
  have hN : 138 ≤ 138 := Nat.le_refl 138
  have hRc : room_1.cells = 601024 := rfl
  have hRs : room_1.slots = 7293034 := rfl
  unfold f_L_case2 at h
  refine lv_aload_n hx hb dL_law_412 rfl (lv_at hl 1 rfl) ?_
  refine lv_aload_n hx hb dL_law_413 rfl (lv_at hl 0 rfl) ?_
  refine lv_iload hx hb dL_law_414 (lv_at hl 4 rfl) ?_
  refine lv_iconst (v := 1) hx hb dL_law_416 (by decide) ?_
  refine lv_iadd hx hb dL_law_417 ?_
  obtain ⟨hgi, h⟩ := hg_some h
  refine va_sld hx hb hX hbl hbA hS (gin_vp hgi) dL_law_418 ?_
  refine lv_aload_n hx hb dL_law_419 rfl (lv_at hl 3 rfl) ?_
  obtain ⟨q105, hcq105, h⟩ := hb_some h
  refine gcSW_i (As := [.ref (b 0), .int (sx (p4 + (1 : Int32)).toNatClampNeg), .ref (b 137)]) (rest := []) (BH := (fun (u : (Nat → Nat → Int32) × (Nat → Nat → Option Nat) × (Nat → Nat → Int64)) H => va_P (dC, dI) vwCl (hW 138 ca b u.1 u.2.1 u.2.2) H)) X hP hS (c_L_callIn hlf hN hA I O J (sx (p4 + (1 : Int32)).toNatClampNeg) q105 hcq105) (vx_cwSW 3 X.ts gL_law_L_callIn rfl rfl rfl (by decide +kernel) ⟨Nat.le_of_ble_eq_true rfl, Nat.le_of_ble_eq_true rfl⟩) rfl hl.1 rfl (Nat.le_of_ble_eq_true rfl) dL_law_420 ⟨by omega, by omega⟩ (fun r104 u9 H locs hw hP hS => ?_)
  obtain ⟨I101, O102, J103⟩ := u9
  subst hw
  refine lv_istore (lv' := [(5, .int r104), (0, .ref sb), (1, .ref (b 0)), (2, .ref (b 129)), (3, .ref (b 137)), (4, .int p4)]) hx hb dL_law_423 hl (by decide) rfl (fun ls hl => ?_)
  refine lv_aload_n hx hb dL_law_425 rfl (lv_at hl 3 rfl) ?_
  refine lv_aload_n hx hb dL_law_426 rfl (lv_at hl 1 rfl) ?_
  refine lv_iload hx hb dL_law_427 (lv_at hl 5 rfl) ?_
  refine lv_iconst (v := 1) hx hb dL_law_429 (by decide) ?_
  refine lv_iadd hx hb dL_law_430 ?_
  obtain ⟨hgi, h⟩ := hg_some h
  refine va_sld hx hb hX hbl hbA hS (gin_vp hgi) dL_law_431 ?_
  obtain ⟨q108, hcq108, h⟩ := hb_some h
  refine gdV_i (As := [.int (sx (p4 + (1 : Int32)).toNatClampNeg)]) (rest := []) (BH := (fun (u : Nat → Nat → Int32) H => va_P (dC, dI) vwCl (hW 138 ca b u O102 J103) H)) X hP hS (c_X8_callIn hN hA I101 O102 J103 (sx (p4 + (1 : Int32)).toNatClampNeg) q108 hcq108) (cwV 1 X.ts gL_law_X8_callIn rfl rfl rfl (by decide +kernel) ⟨Nat.le_of_ble_eq_true rfl, Nat.le_of_ble_eq_true rfl⟩) (gr8 X hP kc_129 (sk_in hN kc_129 (by decide))) rfl hl.1 rfl (Nat.le_of_ble_eq_true rfl) dL_law_432 ⟨by omega, by omega⟩ (fun r107 I106 H locs hw hP hS => ?_)
  subst hw
  refine lv_istore (lv' := [(6, .int r107), (5, .int r104), (0, .ref sb), (1, .ref (b 0)), (2, .ref (b 129)), (3, .ref (b 137)), (4, .int p4)]) hx hb dL_law_435 hl (by decide) rfl (fun ls hl => ?_)
  refine lv_aload_n hx hb dL_law_437 rfl (lv_at hl 4 rfl) ?_
  obtain ⟨q110, hcq110, h⟩ := hb_some h
  refine gdV_i (As := []) (rest := []) (BH := (fun (u : Unit) H => va_P (dC, dI) vwCl (hW 138 ca b I106 O102 J103) H)) X hP hS (c_X8_thrown hN hA I106 O102 J103 q110 hcq110) (cwV 0 X.ts gL_law_X8_thrown rfl rfl rfl (by decide +kernel) ⟨Nat.le_of_ble_eq_true rfl, Nat.le_of_ble_eq_true rfl⟩) (gr8 X hP kc_129 (sk_in hN kc_129 (by decide))) rfl hl.1 rfl (Nat.le_of_ble_eq_true rfl) dL_law_438 ⟨by omega, by omega⟩ (fun r109 u9 H locs hw hP hS => ?_)
  have hw := hw.symm
  subst hw
  refine lv_iload hx hb dL_law_441 (lv_at hl 1 rfl) ?_
  refine lv_icmp_eq (tgt := 448) hx hb dL_law_443 (by decide) (fun c115 => ?_) (fun c115 => ?_)
  · have h := gif_t c115 h
    refine lv_iload hx hb dL_law_448 (lv_at hl 1 rfl) ?_
    obtain ⟨_, hv, h⟩ := hb_some h
    have K472 : ∀ (H : Heap) (locs : List Loc) (ls : Array Slot), va_P (dC, dI) vwCl (hW 138 ca b I106 O102 J103) H → va_S A s.heap H locs → lv_has ls 9 [(0, .ref sb), (1, .ref (b 0)), (2, .ref (b 129)), (3, .ref (b 137)), (4, .int p4)] → W p l e room_1 s m #[Value.ref sb] below meth c H locs (cn + 2) (sn + 12) Q (F0 m 472 ls []) := by
      intro H locs ls hP hS hl
      refine lv_goto (tgt := 2558) hx hb dL_law_472 (by decide) ?_
      refine W.widen (k := cn + 8) (n := sn + 100) (by omega) (by omega) ?_
      cases h
      exact K _ _ _ hP hS (lv_sub hl [0, 1, 2, 3, 4] rfl)
    have h := hv
    refine lv_if_ne (tgt := 472) hx hb dL_law_450 (by decide) (fun c114 => ?_) (fun c114 => ?_)
    · have h := gif_f c114 h
      refine W.widen (k := (cn + 2)) (n := (sn + 12)) (by omega) (by omega) ?_
      cases h
      exact K472 _ _ _ hP hS (lv_sub hl [2, 3, 4, 5, 6] rfl)
    · have h := gif_t c114 h
      refine lv_aload_n hx hb dL_law_453 rfl (lv_at hl 5 rfl) ?_
      refine lv_iconst (v := 0) hx hb dL_law_454 (by decide) ?_
      refine ga23 X hP kc_137 (sk_in hN kc_137 (by decide)) (L := 1) (by decide) (by decide) dL_law_455 ?_
      refine lv_iload hx hb dL_law_456 (lv_at hl 0 rfl) ?_
      obtain ⟨p111, hv, h⟩ := hb_some h
      have K466 : ∀ (H : Heap) (locs : List Loc) (ls : Array Slot), va_P (dC, dI) vwCl (hW 138 ca b I106 O102 J103) H → va_S A s.heap H locs → lv_has ls 9 [(0, .ref sb), (1, .ref (b 0)), (2, .ref (b 129)), (3, .ref (b 137)), (4, .int p4)] → W p l e room_1 s m #[Value.ref sb] below meth c H locs (cn + 2) (sn + 12) Q (F0 m 466 ls [.long p111, .long (J103 137 (0 : Int32).toNatClampNeg)]) := by
        intro H locs ls hP hS hl
        refine W.lcmp hx hb dL_law_466 ?_
        refine lv_if_eq (tgt := 472) hx hb dL_law_467 (by decide) (fun c112 => ?_) (fun c112 => ?_)
        · have h := gif_t c112 h
          refine W.widen (k := (cn + 2)) (n := (sn + 12)) (by omega) (by omega) ?_
          cases h
          exact K472 _ _ _ hP hS (lv_sub hl [0, 1, 2, 3, 4] rfl)
        · have h := gif_f c112 h
          refine lv_iconst (v := 0) hx hb dL_law_470 (by decide) ?_
          cases h
      have h := hv
      refine lv_if_eq (tgt := 465) hx hb dL_law_458 (by decide) (fun c113 => ?_) (fun c113 => ?_)
      · have h := gif_t c113 h
        refine lv_lconst (v := 0) hx hb dL_law_465 (by decide) ?_
        refine W.widen (k := (cn + 2)) (n := (sn + 12)) (by omega) (by omega) ?_
        cases h
        exact K466 _ _ _ hP hS (lv_sub hl [2, 3, 4, 5, 6] rfl)
      · have h := gif_f c113 h
        refine lv_lconst (v := 1) hx hb dL_law_461 (by decide) ?_
        refine lv_goto (tgt := 466) hx hb dL_law_462 (by decide) ?_
        refine W.widen (k := (cn + 2)) (n := (sn + 12)) (by omega) (by omega) ?_
        cases h
        exact K466 _ _ _ hP hS (lv_sub hl [2, 3, 4, 5, 6] rfl)
  · have h := gif_f c115 h
    refine lv_iconst (v := 0) hx hb dL_law_446 (by decide) ?_
    cases h
def f_L_case3 (SL : Nat) (sx : Nat → Int32) (p4 : Int32) (I : Nat → Nat → Int32) (O : Nat → Nat → Option Nat) (J : Nat → Nat → Int64) : Option ((Nat → Nat → Int32) × (Nat → Nat → Option Nat) × (Nat → Nat → Int64)) :=
  hg (gin (p4 + (1 : Int32)) SL) <|
  hg (gin (p4 + (2 : Int32)) SL) <|
  (f_L_pair (sx (p4 + (1 : Int32)).toNatClampNeg) (sx (p4 + (2 : Int32)).toNatClampNeg) I O J).bind fun (r104, I101, O102, J103) =>
  hg (gin (p4 + (1 : Int32)) SL) <|
  hg (gin (p4 + (2 : Int32)) SL) <|
  (f_X8_pair (sx (p4 + (1 : Int32)).toNatClampNeg) (sx (p4 + (2 : Int32)).toNatClampNeg) I101).bind fun (r107, I106) =>
  (f_X8_thrown I106).bind fun r109 =>
  if r109 = r104 then
    (show Option (Unit) from
      if r104 = 0 then
        if (lg_cmp (J103 137 (0 : Int32).toNatClampNeg) ((r107).toInt64)) = 0 then
          some ()
        else
          none
      else
        some ()).bind fun _ =>
    some (I106, O102, J103)
  else
    none
set_option maxHeartbeats 8000000 in
set_option maxRecDepth 100000 in
theorem lc3 {p : Program} {l : Launch} {e : Env} {s : State} {m : MethodId} {below : List Frame} {meth : Method} {c : Code} {Q : State → Prop} {sb SL : Nat} {sx : Nat → Int32} {dC : Nat → ClassId} {dI : Nat → Nat → Nat} {ca : Nat → ClassId} {b : Nat → Nat} {A : Nat → Prop} (hlf : l.stackTraces = false) (hml : c.maxLocals = 9) (X : gCx p s m #[Value.ref sb] c RL cL_law wsL_law 9 dC dI ca b A 138) (hX : va_X sb SL sx s s.heap) (hbl : sb < s.heap.size) (hbA : ¬ A sb) (p4 : Int32) (I : Nat → Nat → Int32) (O : Nat → Nat → Option Nat) (J : Nat → Nat → Int64) (I9 : Nat → Nat → Int32) (O9 : Nat → Nat → Option Nat) (J9 : Nat → Nat → Int64) (h : f_L_case3 SL sx p4 I O J = some (I9, O9, J9)) {cn sn : Nat} (hc : cn + 8 ≤ 601024) (hs : sn + 100 ≤ 7293034) (H : Heap) (locs : List Loc) (ls : Array Slot) (hP : va_P (dC, dI) vwCl (hW 138 ca b I O J) H) (hS : va_S A s.heap H locs) (hl : lv_has ls 9 [(0, .ref sb), (1, .ref (b 0)), (2, .ref (b 129)), (3, .ref (b 137)), (4, .int p4)]) (K : ∀ (H : Heap) (locs : List Loc) (ls : Array Slot), va_P (dC, dI) vwCl (hW 138 ca b I9 O9 J9) H → va_S A s.heap H locs → lv_has ls 9 [(0, .ref sb), (1, .ref (b 0)), (2, .ref (b 129)), (3, .ref (b 137)), (4, .int p4)] → W p l e room_1 s m #[Value.ref sb] below meth c H locs (cn + 8) (sn + 100) Q (F0 m 2558 ls [])) : W p l e room_1 s m #[Value.ref sb] below meth c H locs cn sn Q (F0 m 475 ls []) := by
  have hx := X.x
  have hb := X.cb
  have hA := X.ad
  have hN : 138 ≤ 138 := Nat.le_refl 138
  have hRc : room_1.cells = 601024 := rfl
  have hRs : room_1.slots = 7293034 := rfl
  unfold f_L_case3 at h
  refine lv_aload_n hx hb dL_law_475 rfl (lv_at hl 1 rfl) ?_
  refine lv_aload_n hx hb dL_law_476 rfl (lv_at hl 0 rfl) ?_
  refine lv_iload hx hb dL_law_477 (lv_at hl 4 rfl) ?_
  refine lv_iconst (v := 1) hx hb dL_law_479 (by decide) ?_
  refine lv_iadd hx hb dL_law_480 ?_
  obtain ⟨hgi, h⟩ := hg_some h
  refine va_sld hx hb hX hbl hbA hS (gin_vp hgi) dL_law_481 ?_
  refine lv_aload_n hx hb dL_law_482 rfl (lv_at hl 0 rfl) ?_
  refine lv_iload hx hb dL_law_483 (lv_at hl 4 rfl) ?_
  refine lv_iconst (v := 2) hx hb dL_law_485 (by decide) ?_
  refine lv_iadd hx hb dL_law_486 ?_
  obtain ⟨hgi, h⟩ := hg_some h
  refine va_sld hx hb hX hbl hbA hS (gin_vp hgi) dL_law_487 ?_
  refine lv_aload_n hx hb dL_law_488 rfl (lv_at hl 3 rfl) ?_
  obtain ⟨q105, hcq105, h⟩ := hb_some h
  refine gcSW_i (As := [.ref (b 0), .int (sx (p4 + (1 : Int32)).toNatClampNeg), .int (sx (p4 + (2 : Int32)).toNatClampNeg), .ref (b 137)]) (rest := []) (BH := (fun (u : (Nat → Nat → Int32) × (Nat → Nat → Option Nat) × (Nat → Nat → Int64)) H => va_P (dC, dI) vwCl (hW 138 ca b u.1 u.2.1 u.2.2) H)) X hP hS (c_L_pair hlf hN hA I O J (sx (p4 + (1 : Int32)).toNatClampNeg) (sx (p4 + (2 : Int32)).toNatClampNeg) q105 hcq105) (vx_cwSW 4 X.ts gL_law_L_pair rfl rfl rfl (by decide +kernel) ⟨Nat.le_of_ble_eq_true rfl, Nat.le_of_ble_eq_true rfl⟩) rfl hl.1 rfl (Nat.le_of_ble_eq_true rfl) dL_law_489 ⟨by omega, by omega⟩ (fun r104 u9 H locs hw hP hS => ?_)
  obtain ⟨I101, O102, J103⟩ := u9
  subst hw
  refine lv_istore (lv' := [(5, .int r104), (0, .ref sb), (1, .ref (b 0)), (2, .ref (b 129)), (3, .ref (b 137)), (4, .int p4)]) hx hb dL_law_492 hl (by decide) rfl (fun ls hl => ?_)
  refine lv_aload_n hx hb dL_law_494 rfl (lv_at hl 3 rfl) ?_
  refine lv_aload_n hx hb dL_law_495 rfl (lv_at hl 1 rfl) ?_
  refine lv_iload hx hb dL_law_496 (lv_at hl 5 rfl) ?_
  refine lv_iconst (v := 1) hx hb dL_law_498 (by decide) ?_
  refine lv_iadd hx hb dL_law_499 ?_
  obtain ⟨hgi, h⟩ := hg_some h
  refine va_sld hx hb hX hbl hbA hS (gin_vp hgi) dL_law_500 ?_
  refine lv_aload_n hx hb dL_law_501 rfl (lv_at hl 1 rfl) ?_
  refine lv_iload hx hb dL_law_502 (lv_at hl 5 rfl) ?_
  refine lv_iconst (v := 2) hx hb dL_law_504 (by decide) ?_
  refine lv_iadd hx hb dL_law_505 ?_
  obtain ⟨hgi, h⟩ := hg_some h
  refine va_sld hx hb hX hbl hbA hS (gin_vp hgi) dL_law_506 ?_
  obtain ⟨q108, hcq108, h⟩ := hb_some h
  refine gdV_i (As := [.int (sx (p4 + (1 : Int32)).toNatClampNeg), .int (sx (p4 + (2 : Int32)).toNatClampNeg)]) (rest := []) (BH := (fun (u : Nat → Nat → Int32) H => va_P (dC, dI) vwCl (hW 138 ca b u O102 J103) H)) X hP hS (c_X8_pair hN hA I101 O102 J103 (sx (p4 + (1 : Int32)).toNatClampNeg) (sx (p4 + (2 : Int32)).toNatClampNeg) q108 hcq108) (cwV 2 X.ts gL_law_X8_pair rfl rfl rfl (by decide +kernel) ⟨Nat.le_of_ble_eq_true rfl, Nat.le_of_ble_eq_true rfl⟩) (gr8 X hP kc_129 (sk_in hN kc_129 (by decide))) rfl hl.1 rfl (Nat.le_of_ble_eq_true rfl) dL_law_507 ⟨by omega, by omega⟩ (fun r107 I106 H locs hw hP hS => ?_)
  subst hw
  refine lv_istore (lv' := [(6, .int r107), (5, .int r104), (0, .ref sb), (1, .ref (b 0)), (2, .ref (b 129)), (3, .ref (b 137)), (4, .int p4)]) hx hb dL_law_510 hl (by decide) rfl (fun ls hl => ?_)
  refine lv_aload_n hx hb dL_law_512 rfl (lv_at hl 4 rfl) ?_
  obtain ⟨q110, hcq110, h⟩ := hb_some h
  refine gdV_i (As := []) (rest := []) (BH := (fun (u : Unit) H => va_P (dC, dI) vwCl (hW 138 ca b I106 O102 J103) H)) X hP hS (c_X8_thrown hN hA I106 O102 J103 q110 hcq110) (cwV 0 X.ts gL_law_X8_thrown rfl rfl rfl (by decide +kernel) ⟨Nat.le_of_ble_eq_true rfl, Nat.le_of_ble_eq_true rfl⟩) (gr8 X hP kc_129 (sk_in hN kc_129 (by decide))) rfl hl.1 rfl (Nat.le_of_ble_eq_true rfl) dL_law_513 ⟨by omega, by omega⟩ (fun r109 u9 H locs hw hP hS => ?_)
  have hw := hw.symm
  subst hw
  refine lv_iload hx hb dL_law_516 (lv_at hl 1 rfl) ?_
  refine lv_icmp_eq (tgt := 523) hx hb dL_law_518 (by decide) (fun c113 => ?_) (fun c113 => ?_)
  · have h := gif_t c113 h
    refine lv_iload hx hb dL_law_523 (lv_at hl 1 rfl) ?_
    obtain ⟨_, hv, h⟩ := hb_some h
    have K540 : ∀ (H : Heap) (locs : List Loc) (ls : Array Slot), va_P (dC, dI) vwCl (hW 138 ca b I106 O102 J103) H → va_S A s.heap H locs → lv_has ls 9 [(0, .ref sb), (1, .ref (b 0)), (2, .ref (b 129)), (3, .ref (b 137)), (4, .int p4)] → W p l e room_1 s m #[Value.ref sb] below meth c H locs (cn + 3) (sn + 18) Q (F0 m 540 ls []) := by
      intro H locs ls hP hS hl
      refine lv_goto (tgt := 2558) hx hb dL_law_540 (by decide) ?_
      refine W.widen (k := cn + 8) (n := sn + 100) (by omega) (by omega) ?_
      cases h
      exact K _ _ _ hP hS (lv_sub hl [0, 1, 2, 3, 4] rfl)
    have h := hv
    refine lv_if_ne (tgt := 540) hx hb dL_law_525 (by decide) (fun c112 => ?_) (fun c112 => ?_)
    · have h := gif_f c112 h
      refine W.widen (k := (cn + 3)) (n := (sn + 18)) (by omega) (by omega) ?_
      cases h
      exact K540 _ _ _ hP hS (lv_sub hl [2, 3, 4, 5, 6] rfl)
    · have h := gif_t c112 h
      refine lv_aload_n hx hb dL_law_528 rfl (lv_at hl 5 rfl) ?_
      refine lv_iconst (v := 0) hx hb dL_law_529 (by decide) ?_
      refine ga23 X hP kc_137 (sk_in hN kc_137 (by decide)) (L := 1) (by decide) (by decide) dL_law_530 ?_
      refine lv_iload hx hb dL_law_531 (lv_at hl 0 rfl) ?_
      refine lv_i2l (v := (r107).toInt64) hx hb dL_law_533 rfl ?_
      refine W.lcmp hx hb dL_law_534 ?_
      refine lv_if_eq (tgt := 540) hx hb dL_law_535 (by decide) (fun c111 => ?_) (fun c111 => ?_)
      · have h := gif_t c111 h
        refine W.widen (k := (cn + 3)) (n := (sn + 18)) (by omega) (by omega) ?_
        cases h
        exact K540 _ _ _ hP hS (lv_sub hl [2, 3, 4, 5, 6] rfl)
      · have h := gif_f c111 h
        refine lv_iconst (v := 0) hx hb dL_law_538 (by decide) ?_
        cases h
  · have h := gif_f c113 h
    refine lv_iconst (v := 0) hx hb dL_law_521 (by decide) ?_
    cases h
def f_L_case4 (SL : Nat) (sx : Nat → Int32) (p4 : Int32) (I : Nat → Nat → Int32) (O : Nat → Nat → Option Nat) (J : Nat → Nat → Int64) : Option ((Nat → Nat → Int32) × (Nat → Nat → Option Nat) × (Nat → Nat → Int64)) :=
  hg (gin (p4 + (1 : Int32)) SL) <|
  hg (gin (p4 + (2 : Int32)) SL) <|
  (f_L_setLimit (sx (p4 + (1 : Int32)).toNatClampNeg) (sx (p4 + (2 : Int32)).toNatClampNeg) I O J).bind fun (r104, I101, O102, J103) =>
  hg (gin (p4 + (1 : Int32)) SL) <|
  hg (gin (p4 + (2 : Int32)) SL) <|
  (f_X8_setLimit (sx (p4 + (1 : Int32)).toNatClampNeg) (sx (p4 + (2 : Int32)).toNatClampNeg) I101).bind fun (r107, I106) =>
  (f_X8_thrown I106).bind fun r109 =>
  if r109 = r104 then
    (show Option (Unit) from
      if r104 = 0 then
        if (lg_cmp (J103 137 (0 : Int32).toNatClampNeg) ((r107).toInt64)) = 0 then
          some ()
        else
          none
      else
        some ()).bind fun _ =>
    some (I106, O102, J103)
  else
    none
set_option maxHeartbeats 8000000 in
set_option maxRecDepth 100000 in
theorem lc4 {p : Program} {l : Launch} {e : Env} {s : State} {m : MethodId} {below : List Frame} {meth : Method} {c : Code} {Q : State → Prop} {sb SL : Nat} {sx : Nat → Int32} {dC : Nat → ClassId} {dI : Nat → Nat → Nat} {ca : Nat → ClassId} {b : Nat → Nat} {A : Nat → Prop} (hlf : l.stackTraces = false) (hml : c.maxLocals = 9) (X : gCx p s m #[Value.ref sb] c RL cL_law wsL_law 9 dC dI ca b A 138) (hX : va_X sb SL sx s s.heap) (hbl : sb < s.heap.size) (hbA : ¬ A sb) (p4 : Int32) (I : Nat → Nat → Int32) (O : Nat → Nat → Option Nat) (J : Nat → Nat → Int64) (I9 : Nat → Nat → Int32) (O9 : Nat → Nat → Option Nat) (J9 : Nat → Nat → Int64) (h : f_L_case4 SL sx p4 I O J = some (I9, O9, J9)) {cn sn : Nat} (hc : cn + 8 ≤ 601024) (hs : sn + 100 ≤ 7293034) (H : Heap) (locs : List Loc) (ls : Array Slot) (hP : va_P (dC, dI) vwCl (hW 138 ca b I O J) H) (hS : va_S A s.heap H locs) (hl : lv_has ls 9 [(0, .ref sb), (1, .ref (b 0)), (2, .ref (b 129)), (3, .ref (b 137)), (4, .int p4)]) (K : ∀ (H : Heap) (locs : List Loc) (ls : Array Slot), va_P (dC, dI) vwCl (hW 138 ca b I9 O9 J9) H → va_S A s.heap H locs → lv_has ls 9 [(0, .ref sb), (1, .ref (b 0)), (2, .ref (b 129)), (3, .ref (b 137)), (4, .int p4)] → W p l e room_1 s m #[Value.ref sb] below meth c H locs (cn + 8) (sn + 100) Q (F0 m 2558 ls [])) : W p l e room_1 s m #[Value.ref sb] below meth c H locs cn sn Q (F0 m 543 ls []) := by
  have hx := X.x
  have hb := X.cb
  have hA := X.ad
  have hN : 138 ≤ 138 := Nat.le_refl 138
  have hRc : room_1.cells = 601024 := rfl
  have hRs : room_1.slots = 7293034 := rfl
  unfold f_L_case4 at h
  refine lv_aload_n hx hb dL_law_543 rfl (lv_at hl 1 rfl) ?_
  refine lv_aload_n hx hb dL_law_544 rfl (lv_at hl 0 rfl) ?_
  refine lv_iload hx hb dL_law_545 (lv_at hl 4 rfl) ?_
  refine lv_iconst (v := 1) hx hb dL_law_547 (by decide) ?_
  refine lv_iadd hx hb dL_law_548 ?_
  obtain ⟨hgi, h⟩ := hg_some h
  refine va_sld hx hb hX hbl hbA hS (gin_vp hgi) dL_law_549 ?_
  refine lv_aload_n hx hb dL_law_550 rfl (lv_at hl 0 rfl) ?_
  refine lv_iload hx hb dL_law_551 (lv_at hl 4 rfl) ?_
  refine lv_iconst (v := 2) hx hb dL_law_553 (by decide) ?_
  refine lv_iadd hx hb dL_law_554 ?_
  obtain ⟨hgi, h⟩ := hg_some h
  refine va_sld hx hb hX hbl hbA hS (gin_vp hgi) dL_law_555 ?_
  refine lv_aload_n hx hb dL_law_556 rfl (lv_at hl 3 rfl) ?_
  obtain ⟨q105, hcq105, h⟩ := hb_some h
  refine gcSW_i (As := [.ref (b 0), .int (sx (p4 + (1 : Int32)).toNatClampNeg), .int (sx (p4 + (2 : Int32)).toNatClampNeg), .ref (b 137)]) (rest := []) (BH := (fun (u : (Nat → Nat → Int32) × (Nat → Nat → Option Nat) × (Nat → Nat → Int64)) H => va_P (dC, dI) vwCl (hW 138 ca b u.1 u.2.1 u.2.2) H)) X hP hS (c_L_setLimit hlf hN hA I O J (sx (p4 + (1 : Int32)).toNatClampNeg) (sx (p4 + (2 : Int32)).toNatClampNeg) q105 hcq105) (vx_cwSW 4 X.ts gL_law_L_setLimit rfl rfl rfl (by decide +kernel) ⟨Nat.le_of_ble_eq_true rfl, Nat.le_of_ble_eq_true rfl⟩) rfl hl.1 rfl (Nat.le_of_ble_eq_true rfl) dL_law_557 ⟨by omega, by omega⟩ (fun r104 u9 H locs hw hP hS => ?_)
  obtain ⟨I101, O102, J103⟩ := u9
  subst hw
  refine lv_istore (lv' := [(5, .int r104), (0, .ref sb), (1, .ref (b 0)), (2, .ref (b 129)), (3, .ref (b 137)), (4, .int p4)]) hx hb dL_law_560 hl (by decide) rfl (fun ls hl => ?_)
  refine lv_aload_n hx hb dL_law_562 rfl (lv_at hl 3 rfl) ?_
  refine lv_aload_n hx hb dL_law_563 rfl (lv_at hl 1 rfl) ?_
  refine lv_iload hx hb dL_law_564 (lv_at hl 5 rfl) ?_
  refine lv_iconst (v := 1) hx hb dL_law_566 (by decide) ?_
  refine lv_iadd hx hb dL_law_567 ?_
  obtain ⟨hgi, h⟩ := hg_some h
  refine va_sld hx hb hX hbl hbA hS (gin_vp hgi) dL_law_568 ?_
  refine lv_aload_n hx hb dL_law_569 rfl (lv_at hl 1 rfl) ?_
  refine lv_iload hx hb dL_law_570 (lv_at hl 5 rfl) ?_
  refine lv_iconst (v := 2) hx hb dL_law_572 (by decide) ?_
  refine lv_iadd hx hb dL_law_573 ?_
  obtain ⟨hgi, h⟩ := hg_some h
  refine va_sld hx hb hX hbl hbA hS (gin_vp hgi) dL_law_574 ?_
  obtain ⟨q108, hcq108, h⟩ := hb_some h
  refine gdV_i (As := [.int (sx (p4 + (1 : Int32)).toNatClampNeg), .int (sx (p4 + (2 : Int32)).toNatClampNeg)]) (rest := []) (BH := (fun (u : Nat → Nat → Int32) H => va_P (dC, dI) vwCl (hW 138 ca b u O102 J103) H)) X hP hS (c_X8_setLimit hN hA I101 O102 J103 (sx (p4 + (1 : Int32)).toNatClampNeg) (sx (p4 + (2 : Int32)).toNatClampNeg) q108 hcq108) (cwV 2 X.ts gL_law_X8_setLimit rfl rfl rfl (by decide +kernel) ⟨Nat.le_of_ble_eq_true rfl, Nat.le_of_ble_eq_true rfl⟩) (gr8 X hP kc_129 (sk_in hN kc_129 (by decide))) rfl hl.1 rfl (Nat.le_of_ble_eq_true rfl) dL_law_575 ⟨by omega, by omega⟩ (fun r107 I106 H locs hw hP hS => ?_)
  subst hw
  refine lv_istore (lv' := [(6, .int r107), (5, .int r104), (0, .ref sb), (1, .ref (b 0)), (2, .ref (b 129)), (3, .ref (b 137)), (4, .int p4)]) hx hb dL_law_578 hl (by decide) rfl (fun ls hl => ?_)
  refine lv_aload_n hx hb dL_law_580 rfl (lv_at hl 4 rfl) ?_
  obtain ⟨q110, hcq110, h⟩ := hb_some h
  refine gdV_i (As := []) (rest := []) (BH := (fun (u : Unit) H => va_P (dC, dI) vwCl (hW 138 ca b I106 O102 J103) H)) X hP hS (c_X8_thrown hN hA I106 O102 J103 q110 hcq110) (cwV 0 X.ts gL_law_X8_thrown rfl rfl rfl (by decide +kernel) ⟨Nat.le_of_ble_eq_true rfl, Nat.le_of_ble_eq_true rfl⟩) (gr8 X hP kc_129 (sk_in hN kc_129 (by decide))) rfl hl.1 rfl (Nat.le_of_ble_eq_true rfl) dL_law_581 ⟨by omega, by omega⟩ (fun r109 u9 H locs hw hP hS => ?_)
  have hw := hw.symm
  subst hw
  refine lv_iload hx hb dL_law_584 (lv_at hl 1 rfl) ?_
  refine lv_icmp_eq (tgt := 591) hx hb dL_law_586 (by decide) (fun c113 => ?_) (fun c113 => ?_)
  · have h := gif_t c113 h
    refine lv_iload hx hb dL_law_591 (lv_at hl 1 rfl) ?_
    obtain ⟨_, hv, h⟩ := hb_some h
    have K608 : ∀ (H : Heap) (locs : List Loc) (ls : Array Slot), va_P (dC, dI) vwCl (hW 138 ca b I106 O102 J103) H → va_S A s.heap H locs → lv_has ls 9 [(0, .ref sb), (1, .ref (b 0)), (2, .ref (b 129)), (3, .ref (b 137)), (4, .int p4)] → W p l e room_1 s m #[Value.ref sb] below meth c H locs (cn + 2) (sn + 12) Q (F0 m 608 ls []) := by
      intro H locs ls hP hS hl
      refine lv_goto (tgt := 2558) hx hb dL_law_608 (by decide) ?_
      refine W.widen (k := cn + 8) (n := sn + 100) (by omega) (by omega) ?_
      cases h
      exact K _ _ _ hP hS (lv_sub hl [0, 1, 2, 3, 4] rfl)
    have h := hv
    refine lv_if_ne (tgt := 608) hx hb dL_law_593 (by decide) (fun c112 => ?_) (fun c112 => ?_)
    · have h := gif_f c112 h
      refine W.widen (k := (cn + 2)) (n := (sn + 12)) (by omega) (by omega) ?_
      cases h
      exact K608 _ _ _ hP hS (lv_sub hl [2, 3, 4, 5, 6] rfl)
    · have h := gif_t c112 h
      refine lv_aload_n hx hb dL_law_596 rfl (lv_at hl 5 rfl) ?_
      refine lv_iconst (v := 0) hx hb dL_law_597 (by decide) ?_
      refine ga23 X hP kc_137 (sk_in hN kc_137 (by decide)) (L := 1) (by decide) (by decide) dL_law_598 ?_
      refine lv_iload hx hb dL_law_599 (lv_at hl 0 rfl) ?_
      refine lv_i2l (v := (r107).toInt64) hx hb dL_law_601 rfl ?_
      refine W.lcmp hx hb dL_law_602 ?_
      refine lv_if_eq (tgt := 608) hx hb dL_law_603 (by decide) (fun c111 => ?_) (fun c111 => ?_)
      · have h := gif_t c111 h
        refine W.widen (k := (cn + 2)) (n := (sn + 12)) (by omega) (by omega) ?_
        cases h
        exact K608 _ _ _ hP hS (lv_sub hl [2, 3, 4, 5, 6] rfl)
      · have h := gif_f c111 h
        refine lv_iconst (v := 0) hx hb dL_law_606 (by decide) ?_
        cases h
  · have h := gif_f c113 h
    refine lv_iconst (v := 0) hx hb dL_law_589 (by decide) ?_
    cases h
def f_L_case5 (SL : Nat) (sx : Nat → Int32) (p4 : Int32) (I : Nat → Nat → Int32) (O : Nat → Nat → Option Nat) (J : Nat → Nat → Int64) : Option ((Nat → Nat → Int32) × (Nat → Nat → Option Nat) × (Nat → Nat → Int64)) :=
  hg (gin (p4 + (1 : Int32)) SL) <|
  (f_L_setLaps (sx (p4 + (1 : Int32)).toNatClampNeg) I O J).bind fun (r104, I101, O102, J103) =>
  hg (gin (p4 + (1 : Int32)) SL) <|
  (f_X8_setLaps (sx (p4 + (1 : Int32)).toNatClampNeg) I101).bind fun (r107, I106) =>
  (f_X8_thrown I106).bind fun r109 =>
  if r109 = r104 then
    (show Option (Unit) from
      if r104 = 0 then
        if (lg_cmp (J103 137 (0 : Int32).toNatClampNeg) ((r107).toInt64)) = 0 then
          some ()
        else
          none
      else
        some ()).bind fun _ =>
    some (I106, O102, J103)
  else
    none
set_option maxHeartbeats 8000000 in
set_option maxRecDepth 100000 in
theorem lc5 {p : Program} {l : Launch} {e : Env} {s : State} {m : MethodId} {below : List Frame} {meth : Method} {c : Code} {Q : State → Prop} {sb SL : Nat} {sx : Nat → Int32} {dC : Nat → ClassId} {dI : Nat → Nat → Nat} {ca : Nat → ClassId} {b : Nat → Nat} {A : Nat → Prop} (hlf : l.stackTraces = false) (hml : c.maxLocals = 9) (X : gCx p s m #[Value.ref sb] c RL cL_law wsL_law 9 dC dI ca b A 138) (hX : va_X sb SL sx s s.heap) (hbl : sb < s.heap.size) (hbA : ¬ A sb) (p4 : Int32) (I : Nat → Nat → Int32) (O : Nat → Nat → Option Nat) (J : Nat → Nat → Int64) (I9 : Nat → Nat → Int32) (O9 : Nat → Nat → Option Nat) (J9 : Nat → Nat → Int64) (h : f_L_case5 SL sx p4 I O J = some (I9, O9, J9)) {cn sn : Nat} (hc : cn + 8 ≤ 601024) (hs : sn + 100 ≤ 7293034) (H : Heap) (locs : List Loc) (ls : Array Slot) (hP : va_P (dC, dI) vwCl (hW 138 ca b I O J) H) (hS : va_S A s.heap H locs) (hl : lv_has ls 9 [(0, .ref sb), (1, .ref (b 0)), (2, .ref (b 129)), (3, .ref (b 137)), (4, .int p4)]) (K : ∀ (H : Heap) (locs : List Loc) (ls : Array Slot), va_P (dC, dI) vwCl (hW 138 ca b I9 O9 J9) H → va_S A s.heap H locs → lv_has ls 9 [(0, .ref sb), (1, .ref (b 0)), (2, .ref (b 129)), (3, .ref (b 137)), (4, .int p4)] → W p l e room_1 s m #[Value.ref sb] below meth c H locs (cn + 8) (sn + 100) Q (F0 m 2558 ls [])) : W p l e room_1 s m #[Value.ref sb] below meth c H locs cn sn Q (F0 m 611 ls []) := by
  have hx := X.x
  have hb := X.cb
  have hA := X.ad
  have hN : 138 ≤ 138 := Nat.le_refl 138
  have hRc : room_1.cells = 601024 := rfl
  have hRs : room_1.slots = 7293034 := rfl
  unfold f_L_case5 at h
  refine lv_aload_n hx hb dL_law_611 rfl (lv_at hl 1 rfl) ?_
  refine lv_aload_n hx hb dL_law_612 rfl (lv_at hl 0 rfl) ?_
  refine lv_iload hx hb dL_law_613 (lv_at hl 4 rfl) ?_
  refine lv_iconst (v := 1) hx hb dL_law_615 (by decide) ?_
  refine lv_iadd hx hb dL_law_616 ?_
  obtain ⟨hgi, h⟩ := hg_some h
  refine va_sld hx hb hX hbl hbA hS (gin_vp hgi) dL_law_617 ?_
  refine lv_aload_n hx hb dL_law_618 rfl (lv_at hl 3 rfl) ?_
  obtain ⟨q105, hcq105, h⟩ := hb_some h
  refine gcSW_i (As := [.ref (b 0), .int (sx (p4 + (1 : Int32)).toNatClampNeg), .ref (b 137)]) (rest := []) (BH := (fun (u : (Nat → Nat → Int32) × (Nat → Nat → Option Nat) × (Nat → Nat → Int64)) H => va_P (dC, dI) vwCl (hW 138 ca b u.1 u.2.1 u.2.2) H)) X hP hS (c_L_setLaps hlf hN hA I O J (sx (p4 + (1 : Int32)).toNatClampNeg) q105 hcq105) (vx_cwSW 3 X.ts gL_law_L_setLaps rfl rfl rfl (by decide +kernel) ⟨Nat.le_of_ble_eq_true rfl, Nat.le_of_ble_eq_true rfl⟩) rfl hl.1 rfl (Nat.le_of_ble_eq_true rfl) dL_law_619 ⟨by omega, by omega⟩ (fun r104 u9 H locs hw hP hS => ?_)
  obtain ⟨I101, O102, J103⟩ := u9
  subst hw
  refine lv_istore (lv' := [(5, .int r104), (0, .ref sb), (1, .ref (b 0)), (2, .ref (b 129)), (3, .ref (b 137)), (4, .int p4)]) hx hb dL_law_622 hl (by decide) rfl (fun ls hl => ?_)
  refine lv_aload_n hx hb dL_law_624 rfl (lv_at hl 3 rfl) ?_
  refine lv_aload_n hx hb dL_law_625 rfl (lv_at hl 1 rfl) ?_
  refine lv_iload hx hb dL_law_626 (lv_at hl 5 rfl) ?_
  refine lv_iconst (v := 1) hx hb dL_law_628 (by decide) ?_
  refine lv_iadd hx hb dL_law_629 ?_
  obtain ⟨hgi, h⟩ := hg_some h
  refine va_sld hx hb hX hbl hbA hS (gin_vp hgi) dL_law_630 ?_
  obtain ⟨q108, hcq108, h⟩ := hb_some h
  refine gdV_i (As := [.int (sx (p4 + (1 : Int32)).toNatClampNeg)]) (rest := []) (BH := (fun (u : Nat → Nat → Int32) H => va_P (dC, dI) vwCl (hW 138 ca b u O102 J103) H)) X hP hS (c_X8_setLaps hN hA I101 O102 J103 (sx (p4 + (1 : Int32)).toNatClampNeg) q108 hcq108) (cwV 1 X.ts gL_law_X8_setLaps rfl rfl rfl (by decide +kernel) ⟨Nat.le_of_ble_eq_true rfl, Nat.le_of_ble_eq_true rfl⟩) (gr8 X hP kc_129 (sk_in hN kc_129 (by decide))) rfl hl.1 rfl (Nat.le_of_ble_eq_true rfl) dL_law_631 ⟨by omega, by omega⟩ (fun r107 I106 H locs hw hP hS => ?_)
  subst hw
  refine lv_istore (lv' := [(6, .int r107), (5, .int r104), (0, .ref sb), (1, .ref (b 0)), (2, .ref (b 129)), (3, .ref (b 137)), (4, .int p4)]) hx hb dL_law_634 hl (by decide) rfl (fun ls hl => ?_)
  refine lv_aload_n hx hb dL_law_636 rfl (lv_at hl 4 rfl) ?_
  obtain ⟨q110, hcq110, h⟩ := hb_some h
  refine gdV_i (As := []) (rest := []) (BH := (fun (u : Unit) H => va_P (dC, dI) vwCl (hW 138 ca b I106 O102 J103) H)) X hP hS (c_X8_thrown hN hA I106 O102 J103 q110 hcq110) (cwV 0 X.ts gL_law_X8_thrown rfl rfl rfl (by decide +kernel) ⟨Nat.le_of_ble_eq_true rfl, Nat.le_of_ble_eq_true rfl⟩) (gr8 X hP kc_129 (sk_in hN kc_129 (by decide))) rfl hl.1 rfl (Nat.le_of_ble_eq_true rfl) dL_law_637 ⟨by omega, by omega⟩ (fun r109 u9 H locs hw hP hS => ?_)
  have hw := hw.symm
  subst hw
  refine lv_iload hx hb dL_law_640 (lv_at hl 1 rfl) ?_
  refine lv_icmp_eq (tgt := 647) hx hb dL_law_642 (by decide) (fun c113 => ?_) (fun c113 => ?_)
  · have h := gif_t c113 h
    refine lv_iload hx hb dL_law_647 (lv_at hl 1 rfl) ?_
    obtain ⟨_, hv, h⟩ := hb_some h
    have K664 : ∀ (H : Heap) (locs : List Loc) (ls : Array Slot), va_P (dC, dI) vwCl (hW 138 ca b I106 O102 J103) H → va_S A s.heap H locs → lv_has ls 9 [(0, .ref sb), (1, .ref (b 0)), (2, .ref (b 129)), (3, .ref (b 137)), (4, .int p4)] → W p l e room_1 s m #[Value.ref sb] below meth c H locs (cn + 1) (sn + 6) Q (F0 m 664 ls []) := by
      intro H locs ls hP hS hl
      refine lv_goto (tgt := 2558) hx hb dL_law_664 (by decide) ?_
      refine W.widen (k := cn + 8) (n := sn + 100) (by omega) (by omega) ?_
      cases h
      exact K _ _ _ hP hS (lv_sub hl [0, 1, 2, 3, 4] rfl)
    have h := hv
    refine lv_if_ne (tgt := 664) hx hb dL_law_649 (by decide) (fun c112 => ?_) (fun c112 => ?_)
    · have h := gif_f c112 h
      refine W.widen (k := (cn + 1)) (n := (sn + 6)) (by omega) (by omega) ?_
      cases h
      exact K664 _ _ _ hP hS (lv_sub hl [2, 3, 4, 5, 6] rfl)
    · have h := gif_t c112 h
      refine lv_aload_n hx hb dL_law_652 rfl (lv_at hl 5 rfl) ?_
      refine lv_iconst (v := 0) hx hb dL_law_653 (by decide) ?_
      refine ga23 X hP kc_137 (sk_in hN kc_137 (by decide)) (L := 1) (by decide) (by decide) dL_law_654 ?_
      refine lv_iload hx hb dL_law_655 (lv_at hl 0 rfl) ?_
      refine lv_i2l (v := (r107).toInt64) hx hb dL_law_657 rfl ?_
      refine W.lcmp hx hb dL_law_658 ?_
      refine lv_if_eq (tgt := 664) hx hb dL_law_659 (by decide) (fun c111 => ?_) (fun c111 => ?_)
      · have h := gif_t c111 h
        refine W.widen (k := (cn + 1)) (n := (sn + 6)) (by omega) (by omega) ?_
        cases h
        exact K664 _ _ _ hP hS (lv_sub hl [2, 3, 4, 5, 6] rfl)
      · have h := gif_f c111 h
        refine lv_iconst (v := 0) hx hb dL_law_662 (by decide) ?_
        cases h
  · have h := gif_f c113 h
    refine lv_iconst (v := 0) hx hb dL_law_645 (by decide) ?_
    cases h
def f_L_case6 (SL : Nat) (sx : Nat → Int32) (p4 : Int32) (I : Nat → Nat → Int32) (O : Nat → Nat → Option Nat) (J : Nat → Nat → Int64) : Option ((Nat → Nat → Int32) × (Nat → Nat → Option Nat) × (Nat → Nat → Int64)) :=
  (f_L_begin I O J).bind fun (r104, I101, O102, J103) =>
  (f_X8_begin I101).bind fun (r107, I106) =>
  (f_X8_thrown I106).bind fun r109 =>
  if r109 = r104 then
    (show Option (Unit) from
      if r104 = 0 then
        if (lg_cmp (J103 137 (0 : Int32).toNatClampNeg) ((r107).toInt64)) = 0 then
          some ()
        else
          none
      else
        some ()).bind fun _ =>
    some (I106, O102, J103)
  else
    none
set_option maxHeartbeats 8000000 in
set_option maxRecDepth 100000 in
theorem lc6 {p : Program} {l : Launch} {e : Env} {s : State} {m : MethodId} {below : List Frame} {meth : Method} {c : Code} {Q : State → Prop} {sb SL : Nat} {sx : Nat → Int32} {dC : Nat → ClassId} {dI : Nat → Nat → Nat} {ca : Nat → ClassId} {b : Nat → Nat} {A : Nat → Prop} (hlf : l.stackTraces = false) (hml : c.maxLocals = 9) (X : gCx p s m #[Value.ref sb] c RL cL_law wsL_law 9 dC dI ca b A 138) (hX : va_X sb SL sx s s.heap) (hbl : sb < s.heap.size) (hbA : ¬ A sb) (p4 : Int32) (I : Nat → Nat → Int32) (O : Nat → Nat → Option Nat) (J : Nat → Nat → Int64) (I9 : Nat → Nat → Int32) (O9 : Nat → Nat → Option Nat) (J9 : Nat → Nat → Int64) (h : f_L_case6 SL sx p4 I O J = some (I9, O9, J9)) {cn sn : Nat} (hc : cn + 8 ≤ 601024) (hs : sn + 100 ≤ 7293034) (H : Heap) (locs : List Loc) (ls : Array Slot) (hP : va_P (dC, dI) vwCl (hW 138 ca b I O J) H) (hS : va_S A s.heap H locs) (hl : lv_has ls 9 [(0, .ref sb), (1, .ref (b 0)), (2, .ref (b 129)), (3, .ref (b 137)), (4, .int p4)]) (K : ∀ (H : Heap) (locs : List Loc) (ls : Array Slot), va_P (dC, dI) vwCl (hW 138 ca b I9 O9 J9) H → va_S A s.heap H locs → lv_has ls 9 [(0, .ref sb), (1, .ref (b 0)), (2, .ref (b 129)), (3, .ref (b 137)), (4, .int p4)] → W p l e room_1 s m #[Value.ref sb] below meth c H locs (cn + 8) (sn + 100) Q (F0 m 2558 ls [])) : W p l e room_1 s m #[Value.ref sb] below meth c H locs cn sn Q (F0 m 667 ls []) := by
  have hx := X.x
  have hb := X.cb
  have hA := X.ad
  have hN : 138 ≤ 138 := Nat.le_refl 138
  have hRc : room_1.cells = 601024 := rfl
  have hRs : room_1.slots = 7293034 := rfl
  unfold f_L_case6 at h
  refine lv_aload_n hx hb dL_law_667 rfl (lv_at hl 1 rfl) ?_
  refine lv_aload_n hx hb dL_law_668 rfl (lv_at hl 3 rfl) ?_
  obtain ⟨q105, hcq105, h⟩ := hb_some h
  refine gcSW_i (As := [.ref (b 0), .ref (b 137)]) (rest := []) (BH := (fun (u : (Nat → Nat → Int32) × (Nat → Nat → Option Nat) × (Nat → Nat → Int64)) H => va_P (dC, dI) vwCl (hW 138 ca b u.1 u.2.1 u.2.2) H)) X hP hS (c_L_begin hlf hN hA I O J q105 hcq105) (vx_cwSW 2 X.ts gL_law_L_begin rfl rfl rfl (by decide +kernel) ⟨Nat.le_of_ble_eq_true rfl, Nat.le_of_ble_eq_true rfl⟩) rfl hl.1 rfl (Nat.le_of_ble_eq_true rfl) dL_law_669 ⟨by omega, by omega⟩ (fun r104 u9 H locs hw hP hS => ?_)
  obtain ⟨I101, O102, J103⟩ := u9
  subst hw
  refine lv_istore (lv' := [(5, .int r104), (0, .ref sb), (1, .ref (b 0)), (2, .ref (b 129)), (3, .ref (b 137)), (4, .int p4)]) hx hb dL_law_672 hl (by decide) rfl (fun ls hl => ?_)
  refine lv_aload_n hx hb dL_law_674 rfl (lv_at hl 3 rfl) ?_
  obtain ⟨q108, hcq108, h⟩ := hb_some h
  refine gdV_i (As := []) (rest := []) (BH := (fun (u : Nat → Nat → Int32) H => va_P (dC, dI) vwCl (hW 138 ca b u O102 J103) H)) X hP hS (c_X8_begin hN hA I101 O102 J103 q108 hcq108) (cwV 0 X.ts gL_law_X8_begin rfl rfl rfl (by decide +kernel) ⟨Nat.le_of_ble_eq_true rfl, Nat.le_of_ble_eq_true rfl⟩) (gr8 X hP kc_129 (sk_in hN kc_129 (by decide))) rfl hl.1 rfl (Nat.le_of_ble_eq_true rfl) dL_law_675 ⟨by omega, by omega⟩ (fun r107 I106 H locs hw hP hS => ?_)
  subst hw
  refine lv_istore (lv' := [(6, .int r107), (5, .int r104), (0, .ref sb), (1, .ref (b 0)), (2, .ref (b 129)), (3, .ref (b 137)), (4, .int p4)]) hx hb dL_law_678 hl (by decide) rfl (fun ls hl => ?_)
  refine lv_aload_n hx hb dL_law_680 rfl (lv_at hl 4 rfl) ?_
  obtain ⟨q110, hcq110, h⟩ := hb_some h
  refine gdV_i (As := []) (rest := []) (BH := (fun (u : Unit) H => va_P (dC, dI) vwCl (hW 138 ca b I106 O102 J103) H)) X hP hS (c_X8_thrown hN hA I106 O102 J103 q110 hcq110) (cwV 0 X.ts gL_law_X8_thrown rfl rfl rfl (by decide +kernel) ⟨Nat.le_of_ble_eq_true rfl, Nat.le_of_ble_eq_true rfl⟩) (gr8 X hP kc_129 (sk_in hN kc_129 (by decide))) rfl hl.1 rfl (Nat.le_of_ble_eq_true rfl) dL_law_681 ⟨by omega, by omega⟩ (fun r109 u9 H locs hw hP hS => ?_)
  have hw := hw.symm
  subst hw
  refine lv_iload hx hb dL_law_684 (lv_at hl 1 rfl) ?_
  refine lv_icmp_eq (tgt := 691) hx hb dL_law_686 (by decide) (fun c113 => ?_) (fun c113 => ?_)
  · have h := gif_t c113 h
    refine lv_iload hx hb dL_law_691 (lv_at hl 1 rfl) ?_
    obtain ⟨_, hv, h⟩ := hb_some h
    have K708 : ∀ (H : Heap) (locs : List Loc) (ls : Array Slot), va_P (dC, dI) vwCl (hW 138 ca b I106 O102 J103) H → va_S A s.heap H locs → lv_has ls 9 [(0, .ref sb), (1, .ref (b 0)), (2, .ref (b 129)), (3, .ref (b 137)), (4, .int p4)] → W p l e room_1 s m #[Value.ref sb] below meth c H locs (cn + 1) (sn + 6) Q (F0 m 708 ls []) := by
      intro H locs ls hP hS hl
      refine lv_goto (tgt := 2558) hx hb dL_law_708 (by decide) ?_
      refine W.widen (k := cn + 8) (n := sn + 100) (by omega) (by omega) ?_
      cases h
      exact K _ _ _ hP hS (lv_sub hl [0, 1, 2, 3, 4] rfl)
    have h := hv
    refine lv_if_ne (tgt := 708) hx hb dL_law_693 (by decide) (fun c112 => ?_) (fun c112 => ?_)
    · have h := gif_f c112 h
      refine W.widen (k := (cn + 1)) (n := (sn + 6)) (by omega) (by omega) ?_
      cases h
      exact K708 _ _ _ hP hS (lv_sub hl [2, 3, 4, 5, 6] rfl)
    · have h := gif_t c112 h
      refine lv_aload_n hx hb dL_law_696 rfl (lv_at hl 5 rfl) ?_
      refine lv_iconst (v := 0) hx hb dL_law_697 (by decide) ?_
      refine ga23 X hP kc_137 (sk_in hN kc_137 (by decide)) (L := 1) (by decide) (by decide) dL_law_698 ?_
      refine lv_iload hx hb dL_law_699 (lv_at hl 0 rfl) ?_
      refine lv_i2l (v := (r107).toInt64) hx hb dL_law_701 rfl ?_
      refine W.lcmp hx hb dL_law_702 ?_
      refine lv_if_eq (tgt := 708) hx hb dL_law_703 (by decide) (fun c111 => ?_) (fun c111 => ?_)
      · have h := gif_t c111 h
        refine W.widen (k := (cn + 1)) (n := (sn + 6)) (by omega) (by omega) ?_
        cases h
        exact K708 _ _ _ hP hS (lv_sub hl [2, 3, 4, 5, 6] rfl)
      · have h := gif_f c111 h
        refine lv_iconst (v := 0) hx hb dL_law_706 (by decide) ?_
        cases h
  · have h := gif_f c113 h
    refine lv_iconst (v := 0) hx hb dL_law_689 (by decide) ?_
    cases h
def f_L_case7 (SL : Nat) (sx : Nat → Int32) (p4 : Int32) (I : Nat → Nat → Int32) (O : Nat → Nat → Option Nat) (J : Nat → Nat → Int64) : Option ((Nat → Nat → Int32) × (Nat → Nat → Option Nat) × (Nat → Nat → Int64)) :=
  hg (gin (p4 + (1 : Int32)) SL) <|
  (f_L_pass (sx (p4 + (1 : Int32)).toNatClampNeg) I O J).bind fun (r104, I101, O102, J103) =>
  hg (gin (p4 + (1 : Int32)) SL) <|
  (f_X8_pass (sx (p4 + (1 : Int32)).toNatClampNeg) I101).bind fun (r107, I106) =>
  (f_X8_thrown I106).bind fun r109 =>
  if r109 = r104 then
    (show Option (Unit) from
      if r104 = 0 then
        if (lg_cmp (J103 137 (0 : Int32).toNatClampNeg) ((r107).toInt64)) = 0 then
          some ()
        else
          none
      else
        some ()).bind fun _ =>
    some (I106, O102, J103)
  else
    none
set_option maxHeartbeats 8000000 in
set_option maxRecDepth 100000 in
theorem lc7 {p : Program} {l : Launch} {e : Env} {s : State} {m : MethodId} {below : List Frame} {meth : Method} {c : Code} {Q : State → Prop} {sb SL : Nat} {sx : Nat → Int32} {dC : Nat → ClassId} {dI : Nat → Nat → Nat} {ca : Nat → ClassId} {b : Nat → Nat} {A : Nat → Prop} (hlf : l.stackTraces = false) (hml : c.maxLocals = 9) (X : gCx p s m #[Value.ref sb] c RL cL_law wsL_law 9 dC dI ca b A 138) (hX : va_X sb SL sx s s.heap) (hbl : sb < s.heap.size) (hbA : ¬ A sb) (p4 : Int32) (I : Nat → Nat → Int32) (O : Nat → Nat → Option Nat) (J : Nat → Nat → Int64) (I9 : Nat → Nat → Int32) (O9 : Nat → Nat → Option Nat) (J9 : Nat → Nat → Int64) (h : f_L_case7 SL sx p4 I O J = some (I9, O9, J9)) {cn sn : Nat} (hc : cn + 8 ≤ 601024) (hs : sn + 100 ≤ 7293034) (H : Heap) (locs : List Loc) (ls : Array Slot) (hP : va_P (dC, dI) vwCl (hW 138 ca b I O J) H) (hS : va_S A s.heap H locs) (hl : lv_has ls 9 [(0, .ref sb), (1, .ref (b 0)), (2, .ref (b 129)), (3, .ref (b 137)), (4, .int p4)]) (K : ∀ (H : Heap) (locs : List Loc) (ls : Array Slot), va_P (dC, dI) vwCl (hW 138 ca b I9 O9 J9) H → va_S A s.heap H locs → lv_has ls 9 [(0, .ref sb), (1, .ref (b 0)), (2, .ref (b 129)), (3, .ref (b 137)), (4, .int p4)] → W p l e room_1 s m #[Value.ref sb] below meth c H locs (cn + 8) (sn + 100) Q (F0 m 2558 ls [])) : W p l e room_1 s m #[Value.ref sb] below meth c H locs cn sn Q (F0 m 711 ls []) := by
  have hx := X.x
  have hb := X.cb
  have hA := X.ad
  have hN : 138 ≤ 138 := Nat.le_refl 138
  have hRc : room_1.cells = 601024 := rfl
  have hRs : room_1.slots = 7293034 := rfl
  unfold f_L_case7 at h
  refine lv_aload_n hx hb dL_law_711 rfl (lv_at hl 1 rfl) ?_
  refine lv_aload_n hx hb dL_law_712 rfl (lv_at hl 0 rfl) ?_
  refine lv_iload hx hb dL_law_713 (lv_at hl 4 rfl) ?_
  refine lv_iconst (v := 1) hx hb dL_law_715 (by decide) ?_
  refine lv_iadd hx hb dL_law_716 ?_
  obtain ⟨hgi, h⟩ := hg_some h
  refine va_sld hx hb hX hbl hbA hS (gin_vp hgi) dL_law_717 ?_
  refine lv_aload_n hx hb dL_law_718 rfl (lv_at hl 3 rfl) ?_
  obtain ⟨q105, hcq105, h⟩ := hb_some h
  refine gcSW_i (As := [.ref (b 0), .int (sx (p4 + (1 : Int32)).toNatClampNeg), .ref (b 137)]) (rest := []) (BH := (fun (u : (Nat → Nat → Int32) × (Nat → Nat → Option Nat) × (Nat → Nat → Int64)) H => va_P (dC, dI) vwCl (hW 138 ca b u.1 u.2.1 u.2.2) H)) X hP hS (c_L_pass hlf hN hA I O J (sx (p4 + (1 : Int32)).toNatClampNeg) q105 hcq105) (vx_cwSW 3 X.ts gL_law_L_pass rfl rfl rfl (by decide +kernel) ⟨Nat.le_of_ble_eq_true rfl, Nat.le_of_ble_eq_true rfl⟩) rfl hl.1 rfl (Nat.le_of_ble_eq_true rfl) dL_law_719 ⟨by omega, by omega⟩ (fun r104 u9 H locs hw hP hS => ?_)
  obtain ⟨I101, O102, J103⟩ := u9
  subst hw
  refine lv_istore (lv' := [(5, .int r104), (0, .ref sb), (1, .ref (b 0)), (2, .ref (b 129)), (3, .ref (b 137)), (4, .int p4)]) hx hb dL_law_722 hl (by decide) rfl (fun ls hl => ?_)
  refine lv_aload_n hx hb dL_law_724 rfl (lv_at hl 3 rfl) ?_
  refine lv_aload_n hx hb dL_law_725 rfl (lv_at hl 1 rfl) ?_
  refine lv_iload hx hb dL_law_726 (lv_at hl 5 rfl) ?_
  refine lv_iconst (v := 1) hx hb dL_law_728 (by decide) ?_
  refine lv_iadd hx hb dL_law_729 ?_
  obtain ⟨hgi, h⟩ := hg_some h
  refine va_sld hx hb hX hbl hbA hS (gin_vp hgi) dL_law_730 ?_
  obtain ⟨q108, hcq108, h⟩ := hb_some h
  refine gdV_i (As := [.int (sx (p4 + (1 : Int32)).toNatClampNeg)]) (rest := []) (BH := (fun (u : Nat → Nat → Int32) H => va_P (dC, dI) vwCl (hW 138 ca b u O102 J103) H)) X hP hS (c_X8_pass hN hA I101 O102 J103 (sx (p4 + (1 : Int32)).toNatClampNeg) q108 hcq108) (cwV 1 X.ts gL_law_X8_pass rfl rfl rfl (by decide +kernel) ⟨Nat.le_of_ble_eq_true rfl, Nat.le_of_ble_eq_true rfl⟩) (gr8 X hP kc_129 (sk_in hN kc_129 (by decide))) rfl hl.1 rfl (Nat.le_of_ble_eq_true rfl) dL_law_731 ⟨by omega, by omega⟩ (fun r107 I106 H locs hw hP hS => ?_)
  subst hw
  refine lv_istore (lv' := [(6, .int r107), (5, .int r104), (0, .ref sb), (1, .ref (b 0)), (2, .ref (b 129)), (3, .ref (b 137)), (4, .int p4)]) hx hb dL_law_734 hl (by decide) rfl (fun ls hl => ?_)
  refine lv_aload_n hx hb dL_law_736 rfl (lv_at hl 4 rfl) ?_
  obtain ⟨q110, hcq110, h⟩ := hb_some h
  refine gdV_i (As := []) (rest := []) (BH := (fun (u : Unit) H => va_P (dC, dI) vwCl (hW 138 ca b I106 O102 J103) H)) X hP hS (c_X8_thrown hN hA I106 O102 J103 q110 hcq110) (cwV 0 X.ts gL_law_X8_thrown rfl rfl rfl (by decide +kernel) ⟨Nat.le_of_ble_eq_true rfl, Nat.le_of_ble_eq_true rfl⟩) (gr8 X hP kc_129 (sk_in hN kc_129 (by decide))) rfl hl.1 rfl (Nat.le_of_ble_eq_true rfl) dL_law_737 ⟨by omega, by omega⟩ (fun r109 u9 H locs hw hP hS => ?_)
  have hw := hw.symm
  subst hw
  refine lv_iload hx hb dL_law_740 (lv_at hl 1 rfl) ?_
  refine lv_icmp_eq (tgt := 747) hx hb dL_law_742 (by decide) (fun c113 => ?_) (fun c113 => ?_)
  · have h := gif_t c113 h
    refine lv_iload hx hb dL_law_747 (lv_at hl 1 rfl) ?_
    obtain ⟨_, hv, h⟩ := hb_some h
    have K764 : ∀ (H : Heap) (locs : List Loc) (ls : Array Slot), va_P (dC, dI) vwCl (hW 138 ca b I106 O102 J103) H → va_S A s.heap H locs → lv_has ls 9 [(0, .ref sb), (1, .ref (b 0)), (2, .ref (b 129)), (3, .ref (b 137)), (4, .int p4)] → W p l e room_1 s m #[Value.ref sb] below meth c H locs (cn + 2) (sn + 12) Q (F0 m 764 ls []) := by
      intro H locs ls hP hS hl
      refine lv_goto (tgt := 2558) hx hb dL_law_764 (by decide) ?_
      refine W.widen (k := cn + 8) (n := sn + 100) (by omega) (by omega) ?_
      cases h
      exact K _ _ _ hP hS (lv_sub hl [0, 1, 2, 3, 4] rfl)
    have h := hv
    refine lv_if_ne (tgt := 764) hx hb dL_law_749 (by decide) (fun c112 => ?_) (fun c112 => ?_)
    · have h := gif_f c112 h
      refine W.widen (k := (cn + 2)) (n := (sn + 12)) (by omega) (by omega) ?_
      cases h
      exact K764 _ _ _ hP hS (lv_sub hl [2, 3, 4, 5, 6] rfl)
    · have h := gif_t c112 h
      refine lv_aload_n hx hb dL_law_752 rfl (lv_at hl 5 rfl) ?_
      refine lv_iconst (v := 0) hx hb dL_law_753 (by decide) ?_
      refine ga23 X hP kc_137 (sk_in hN kc_137 (by decide)) (L := 1) (by decide) (by decide) dL_law_754 ?_
      refine lv_iload hx hb dL_law_755 (lv_at hl 0 rfl) ?_
      refine lv_i2l (v := (r107).toInt64) hx hb dL_law_757 rfl ?_
      refine W.lcmp hx hb dL_law_758 ?_
      refine lv_if_eq (tgt := 764) hx hb dL_law_759 (by decide) (fun c111 => ?_) (fun c111 => ?_)
      · have h := gif_t c111 h
        refine W.widen (k := (cn + 2)) (n := (sn + 12)) (by omega) (by omega) ?_
        cases h
        exact K764 _ _ _ hP hS (lv_sub hl [2, 3, 4, 5, 6] rfl)
      · have h := gif_f c111 h
        refine lv_iconst (v := 0) hx hb dL_law_762 (by decide) ?_
        cases h
  · have h := gif_f c113 h
    refine lv_iconst (v := 0) hx hb dL_law_745 (by decide) ?_
    cases h
def f_L_case8 (SL : Nat) (sx : Nat → Int32) (p4 : Int32) (I : Nat → Nat → Int32) (O : Nat → Nat → Option Nat) (J : Nat → Nat → Int64) : Option ((Nat → Nat → Int32) × (Nat → Nat → Option Nat) × (Nat → Nat → Int64)) :=
  hg (gin (p4 + (1 : Int32)) SL) <|
  (f_L_append (sx (p4 + (1 : Int32)).toNatClampNeg) I J).bind fun (r103, I101, J102) =>
  hg (gin (p4 + (1 : Int32)) SL) <|
  (f_X8_append (sx (p4 + (1 : Int32)).toNatClampNeg) I101).bind fun (r106, I105) =>
  (f_X8_thrown I105).bind fun r108 =>
  if r108 = r103 then
    (show Option (Unit) from
      if r103 = 0 then
        if (lg_cmp (J102 137 (0 : Int32).toNatClampNeg) ((r106).toInt64)) = 0 then
          some ()
        else
          none
      else
        some ()).bind fun _ =>
    some (I105, O, J102)
  else
    none
set_option maxHeartbeats 8000000 in
set_option maxRecDepth 100000 in
theorem lc8 {p : Program} {l : Launch} {e : Env} {s : State} {m : MethodId} {below : List Frame} {meth : Method} {c : Code} {Q : State → Prop} {sb SL : Nat} {sx : Nat → Int32} {dC : Nat → ClassId} {dI : Nat → Nat → Nat} {ca : Nat → ClassId} {b : Nat → Nat} {A : Nat → Prop} (hlf : l.stackTraces = false) (hml : c.maxLocals = 9) (X : gCx p s m #[Value.ref sb] c RL cL_law wsL_law 9 dC dI ca b A 138) (hX : va_X sb SL sx s s.heap) (hbl : sb < s.heap.size) (hbA : ¬ A sb) (p4 : Int32) (I : Nat → Nat → Int32) (O : Nat → Nat → Option Nat) (J : Nat → Nat → Int64) (I9 : Nat → Nat → Int32) (O9 : Nat → Nat → Option Nat) (J9 : Nat → Nat → Int64) (h : f_L_case8 SL sx p4 I O J = some (I9, O9, J9)) {cn sn : Nat} (hc : cn + 8 ≤ 601024) (hs : sn + 100 ≤ 7293034) (H : Heap) (locs : List Loc) (ls : Array Slot) (hP : va_P (dC, dI) vwCl (hW 138 ca b I O J) H) (hS : va_S A s.heap H locs) (hl : lv_has ls 9 [(0, .ref sb), (1, .ref (b 0)), (2, .ref (b 129)), (3, .ref (b 137)), (4, .int p4)]) (K : ∀ (H : Heap) (locs : List Loc) (ls : Array Slot), va_P (dC, dI) vwCl (hW 138 ca b I9 O9 J9) H → va_S A s.heap H locs → lv_has ls 9 [(0, .ref sb), (1, .ref (b 0)), (2, .ref (b 129)), (3, .ref (b 137)), (4, .int p4)] → W p l e room_1 s m #[Value.ref sb] below meth c H locs (cn + 8) (sn + 100) Q (F0 m 2558 ls [])) : W p l e room_1 s m #[Value.ref sb] below meth c H locs cn sn Q (F0 m 767 ls []) := by
  have hx := X.x
  have hb := X.cb
  have hA := X.ad
  have hN : 138 ≤ 138 := Nat.le_refl 138
  have hRc : room_1.cells = 601024 := rfl
  have hRs : room_1.slots = 7293034 := rfl
  unfold f_L_case8 at h
  refine lv_aload_n hx hb dL_law_767 rfl (lv_at hl 1 rfl) ?_
  refine lv_aload_n hx hb dL_law_768 rfl (lv_at hl 0 rfl) ?_
  refine lv_iload hx hb dL_law_769 (lv_at hl 4 rfl) ?_
  refine lv_iconst (v := 1) hx hb dL_law_771 (by decide) ?_
  refine lv_iadd hx hb dL_law_772 ?_
  obtain ⟨hgi, h⟩ := hg_some h
  refine va_sld hx hb hX hbl hbA hS (gin_vp hgi) dL_law_773 ?_
  refine lv_aload_n hx hb dL_law_774 rfl (lv_at hl 3 rfl) ?_
  obtain ⟨q104, hcq104, h⟩ := hb_some h
  refine gcSW_i (As := [.ref (b 0), .int (sx (p4 + (1 : Int32)).toNatClampNeg), .ref (b 137)]) (rest := []) (BH := (fun (u : (Nat → Nat → Int32) × (Nat → Nat → Int64)) H => va_P (dC, dI) vwCl (hW 138 ca b u.1 O u.2) H)) X hP hS (c_L_append hlf hN hA I O J (sx (p4 + (1 : Int32)).toNatClampNeg) q104 hcq104) (vx_cwSW 3 X.ts gL_law_L_append rfl rfl rfl (by decide +kernel) ⟨Nat.le_of_ble_eq_true rfl, Nat.le_of_ble_eq_true rfl⟩) rfl hl.1 rfl (Nat.le_of_ble_eq_true rfl) dL_law_775 ⟨by omega, by omega⟩ (fun r103 u9 H locs hw hP hS => ?_)
  obtain ⟨I101, J102⟩ := u9
  subst hw
  refine lv_istore (lv' := [(5, .int r103), (0, .ref sb), (1, .ref (b 0)), (2, .ref (b 129)), (3, .ref (b 137)), (4, .int p4)]) hx hb dL_law_778 hl (by decide) rfl (fun ls hl => ?_)
  refine lv_aload_n hx hb dL_law_780 rfl (lv_at hl 3 rfl) ?_
  refine lv_aload_n hx hb dL_law_781 rfl (lv_at hl 1 rfl) ?_
  refine lv_iload hx hb dL_law_782 (lv_at hl 5 rfl) ?_
  refine lv_iconst (v := 1) hx hb dL_law_784 (by decide) ?_
  refine lv_iadd hx hb dL_law_785 ?_
  obtain ⟨hgi, h⟩ := hg_some h
  refine va_sld hx hb hX hbl hbA hS (gin_vp hgi) dL_law_786 ?_
  obtain ⟨q107, hcq107, h⟩ := hb_some h
  refine gdV_i (As := [.int (sx (p4 + (1 : Int32)).toNatClampNeg)]) (rest := []) (BH := (fun (u : Nat → Nat → Int32) H => va_P (dC, dI) vwCl (hW 138 ca b u O J102) H)) X hP hS (c_X8_append hN hA I101 O J102 (sx (p4 + (1 : Int32)).toNatClampNeg) q107 hcq107) (cwV 1 X.ts gL_law_X8_append rfl rfl rfl (by decide +kernel) ⟨Nat.le_of_ble_eq_true rfl, Nat.le_of_ble_eq_true rfl⟩) (gr8 X hP kc_129 (sk_in hN kc_129 (by decide))) rfl hl.1 rfl (Nat.le_of_ble_eq_true rfl) dL_law_787 ⟨by omega, by omega⟩ (fun r106 I105 H locs hw hP hS => ?_)
  subst hw
  refine lv_istore (lv' := [(6, .int r106), (5, .int r103), (0, .ref sb), (1, .ref (b 0)), (2, .ref (b 129)), (3, .ref (b 137)), (4, .int p4)]) hx hb dL_law_790 hl (by decide) rfl (fun ls hl => ?_)
  refine lv_aload_n hx hb dL_law_792 rfl (lv_at hl 4 rfl) ?_
  obtain ⟨q109, hcq109, h⟩ := hb_some h
  refine gdV_i (As := []) (rest := []) (BH := (fun (u : Unit) H => va_P (dC, dI) vwCl (hW 138 ca b I105 O J102) H)) X hP hS (c_X8_thrown hN hA I105 O J102 q109 hcq109) (cwV 0 X.ts gL_law_X8_thrown rfl rfl rfl (by decide +kernel) ⟨Nat.le_of_ble_eq_true rfl, Nat.le_of_ble_eq_true rfl⟩) (gr8 X hP kc_129 (sk_in hN kc_129 (by decide))) rfl hl.1 rfl (Nat.le_of_ble_eq_true rfl) dL_law_793 ⟨by omega, by omega⟩ (fun r108 u9 H locs hw hP hS => ?_)
  have hw := hw.symm
  subst hw
  refine lv_iload hx hb dL_law_796 (lv_at hl 1 rfl) ?_
  refine lv_icmp_eq (tgt := 803) hx hb dL_law_798 (by decide) (fun c112 => ?_) (fun c112 => ?_)
  · have h := gif_t c112 h
    refine lv_iload hx hb dL_law_803 (lv_at hl 1 rfl) ?_
    obtain ⟨_, hv, h⟩ := hb_some h
    have K820 : ∀ (H : Heap) (locs : List Loc) (ls : Array Slot), va_P (dC, dI) vwCl (hW 138 ca b I105 O J102) H → va_S A s.heap H locs → lv_has ls 9 [(0, .ref sb), (1, .ref (b 0)), (2, .ref (b 129)), (3, .ref (b 137)), (4, .int p4)] → W p l e room_1 s m #[Value.ref sb] below meth c H locs (cn + 1) (sn + 6) Q (F0 m 820 ls []) := by
      intro H locs ls hP hS hl
      refine lv_goto (tgt := 2558) hx hb dL_law_820 (by decide) ?_
      refine W.widen (k := cn + 8) (n := sn + 100) (by omega) (by omega) ?_
      cases h
      exact K _ _ _ hP hS (lv_sub hl [0, 1, 2, 3, 4] rfl)
    have h := hv
    refine lv_if_ne (tgt := 820) hx hb dL_law_805 (by decide) (fun c111 => ?_) (fun c111 => ?_)
    · have h := gif_f c111 h
      refine W.widen (k := (cn + 1)) (n := (sn + 6)) (by omega) (by omega) ?_
      cases h
      exact K820 _ _ _ hP hS (lv_sub hl [2, 3, 4, 5, 6] rfl)
    · have h := gif_t c111 h
      refine lv_aload_n hx hb dL_law_808 rfl (lv_at hl 5 rfl) ?_
      refine lv_iconst (v := 0) hx hb dL_law_809 (by decide) ?_
      refine ga23 X hP kc_137 (sk_in hN kc_137 (by decide)) (L := 1) (by decide) (by decide) dL_law_810 ?_
      refine lv_iload hx hb dL_law_811 (lv_at hl 0 rfl) ?_
      refine lv_i2l (v := (r106).toInt64) hx hb dL_law_813 rfl ?_
      refine W.lcmp hx hb dL_law_814 ?_
      refine lv_if_eq (tgt := 820) hx hb dL_law_815 (by decide) (fun c110 => ?_) (fun c110 => ?_)
      · have h := gif_t c110 h
        refine W.widen (k := (cn + 1)) (n := (sn + 6)) (by omega) (by omega) ?_
        cases h
        exact K820 _ _ _ hP hS (lv_sub hl [2, 3, 4, 5, 6] rfl)
      · have h := gif_f c110 h
        refine lv_iconst (v := 0) hx hb dL_law_818 (by decide) ?_
        cases h
  · have h := gif_f c112 h
    refine lv_iconst (v := 0) hx hb dL_law_801 (by decide) ?_
    cases h
def f_L_case9 (SL : Nat) (sx : Nat → Int32) (p4 : Int32) (I : Nat → Nat → Int32) (O : Nat → Nat → Option Nat) (J : Nat → Nat → Int64) : Option ((Nat → Nat → Int32) × (Nat → Nat → Option Nat) × (Nat → Nat → Int64)) :=
  (f_X7_clearBuffer I).bind fun (r102, I101) =>
  (f_X8_clearBuffer I101).bind fun (r105, I104) =>
  if r102 = r105 then
    some (I104, O, J)
  else
    none
set_option maxHeartbeats 8000000 in
set_option maxRecDepth 100000 in
theorem lc9 {p : Program} {l : Launch} {e : Env} {s : State} {m : MethodId} {below : List Frame} {meth : Method} {c : Code} {Q : State → Prop} {sb SL : Nat} {sx : Nat → Int32} {dC : Nat → ClassId} {dI : Nat → Nat → Nat} {ca : Nat → ClassId} {b : Nat → Nat} {A : Nat → Prop} (hlf : l.stackTraces = false) (hml : c.maxLocals = 9) (X : gCx p s m #[Value.ref sb] c RL cL_law wsL_law 9 dC dI ca b A 138) (hX : va_X sb SL sx s s.heap) (hbl : sb < s.heap.size) (hbA : ¬ A sb) (p4 : Int32) (I : Nat → Nat → Int32) (O : Nat → Nat → Option Nat) (J : Nat → Nat → Int64) (I9 : Nat → Nat → Int32) (O9 : Nat → Nat → Option Nat) (J9 : Nat → Nat → Int64) (h : f_L_case9 SL sx p4 I O J = some (I9, O9, J9)) {cn sn : Nat} (hc : cn + 8 ≤ 601024) (hs : sn + 100 ≤ 7293034) (H : Heap) (locs : List Loc) (ls : Array Slot) (hP : va_P (dC, dI) vwCl (hW 138 ca b I O J) H) (hS : va_S A s.heap H locs) (hl : lv_has ls 9 [(0, .ref sb), (1, .ref (b 0)), (2, .ref (b 129)), (3, .ref (b 137)), (4, .int p4)]) (K : ∀ (H : Heap) (locs : List Loc) (ls : Array Slot), va_P (dC, dI) vwCl (hW 138 ca b I9 O9 J9) H → va_S A s.heap H locs → lv_has ls 9 [(0, .ref sb), (1, .ref (b 0)), (2, .ref (b 129)), (3, .ref (b 137)), (4, .int p4)] → W p l e room_1 s m #[Value.ref sb] below meth c H locs (cn + 8) (sn + 100) Q (F0 m 2558 ls [])) : W p l e room_1 s m #[Value.ref sb] below meth c H locs cn sn Q (F0 m 823 ls []) := by
  have hx := X.x
  have hb := X.cb
  have hA := X.ad
  have hN : 138 ≤ 138 := Nat.le_refl 138
  have hRc : room_1.cells = 601024 := rfl
  have hRs : room_1.slots = 7293034 := rfl
  unfold f_L_case9 at h
  refine lv_aload_n hx hb dL_law_823 rfl (lv_at hl 1 rfl) ?_
  obtain ⟨q103, hcq103, h⟩ := hb_some h
  refine gdV_i (As := []) (rest := []) (BH := (fun (u : Nat → Nat → Int32) H => va_P (dC, dI) vwCl (hW 138 ca b u O J) H)) X hP hS (c_X7_clearBuffer hN hA I O J q103 hcq103) (cwV 0 X.ts gL_law_X7_clearBuffer rfl rfl rfl (by decide +kernel) ⟨Nat.le_of_ble_eq_true rfl, Nat.le_of_ble_eq_true rfl⟩) (gr7 X hP kc_0 (sk_in hN kc_0 (by decide))) rfl hl.1 rfl (Nat.le_of_ble_eq_true rfl) dL_law_824 ⟨by omega, by omega⟩ (fun r102 I101 H locs hw hP hS => ?_)
  subst hw
  refine lv_aload_n hx hb dL_law_827 rfl (lv_at hl 2 rfl) ?_
  obtain ⟨q106, hcq106, h⟩ := hb_some h
  refine gdV_i (As := []) (rest := [.int r102]) (BH := (fun (u : Nat → Nat → Int32) H => va_P (dC, dI) vwCl (hW 138 ca b u O J) H)) X hP hS (c_X8_clearBuffer hN hA I101 O J q106 hcq106) (cwV 0 X.ts gL_law_X8_clearBuffer rfl rfl rfl (by decide +kernel) ⟨Nat.le_of_ble_eq_true rfl, Nat.le_of_ble_eq_true rfl⟩) (gr8 X hP kc_129 (sk_in hN kc_129 (by decide))) rfl hl.1 rfl (Nat.le_of_ble_eq_true rfl) dL_law_828 ⟨by omega, by omega⟩ (fun r105 I104 H locs hw hP hS => ?_)
  subst hw
  refine lv_icmp_eq (tgt := 2558) hx hb dL_law_831 (by decide) (fun c107 => ?_) (fun c107 => ?_)
  · have h := gif_t c107 h
    refine W.widen (k := cn + 8) (n := sn + 100) (by omega) (by omega) ?_
    cases h
    exact K _ _ _ hP hS (lv_sub hl [0, 1, 2, 3, 4] rfl)
  · have h := gif_f c107 h
    refine lv_iconst (v := 0) hx hb dL_law_834 (by decide) ?_
    cases h
def f_L_case10 (SL : Nat) (sx : Nat → Int32) (p4 : Int32) (I : Nat → Nat → Int32) (O : Nat → Nat → Option Nat) (J : Nat → Nat → Int64) : Option ((Nat → Nat → Int32) × (Nat → Nat → Option Nat) × (Nat → Nat → Int64)) :=
  (f_X7_firstError I).bind fun (r102, I101) =>
  (f_X8_firstError I101).bind fun (r105, I104) =>
  if r102 = r105 then
    some (I104, O, J)
  else
    none
set_option maxHeartbeats 8000000 in
set_option maxRecDepth 100000 in
theorem lc10 {p : Program} {l : Launch} {e : Env} {s : State} {m : MethodId} {below : List Frame} {meth : Method} {c : Code} {Q : State → Prop} {sb SL : Nat} {sx : Nat → Int32} {dC : Nat → ClassId} {dI : Nat → Nat → Nat} {ca : Nat → ClassId} {b : Nat → Nat} {A : Nat → Prop} (hlf : l.stackTraces = false) (hml : c.maxLocals = 9) (X : gCx p s m #[Value.ref sb] c RL cL_law wsL_law 9 dC dI ca b A 138) (hX : va_X sb SL sx s s.heap) (hbl : sb < s.heap.size) (hbA : ¬ A sb) (p4 : Int32) (I : Nat → Nat → Int32) (O : Nat → Nat → Option Nat) (J : Nat → Nat → Int64) (I9 : Nat → Nat → Int32) (O9 : Nat → Nat → Option Nat) (J9 : Nat → Nat → Int64) (h : f_L_case10 SL sx p4 I O J = some (I9, O9, J9)) {cn sn : Nat} (hc : cn + 8 ≤ 601024) (hs : sn + 100 ≤ 7293034) (H : Heap) (locs : List Loc) (ls : Array Slot) (hP : va_P (dC, dI) vwCl (hW 138 ca b I O J) H) (hS : va_S A s.heap H locs) (hl : lv_has ls 9 [(0, .ref sb), (1, .ref (b 0)), (2, .ref (b 129)), (3, .ref (b 137)), (4, .int p4)]) (K : ∀ (H : Heap) (locs : List Loc) (ls : Array Slot), va_P (dC, dI) vwCl (hW 138 ca b I9 O9 J9) H → va_S A s.heap H locs → lv_has ls 9 [(0, .ref sb), (1, .ref (b 0)), (2, .ref (b 129)), (3, .ref (b 137)), (4, .int p4)] → W p l e room_1 s m #[Value.ref sb] below meth c H locs (cn + 8) (sn + 100) Q (F0 m 2558 ls [])) : W p l e room_1 s m #[Value.ref sb] below meth c H locs cn sn Q (F0 m 836 ls []) := by
  have hx := X.x
  have hb := X.cb
  have hA := X.ad
  have hN : 138 ≤ 138 := Nat.le_refl 138
  have hRc : room_1.cells = 601024 := rfl
  have hRs : room_1.slots = 7293034 := rfl
  unfold f_L_case10 at h
  refine lv_aload_n hx hb dL_law_836 rfl (lv_at hl 1 rfl) ?_
  obtain ⟨q103, hcq103, h⟩ := hb_some h
  refine gdV_i (As := []) (rest := []) (BH := (fun (u : Nat → Nat → Int32) H => va_P (dC, dI) vwCl (hW 138 ca b u O J) H)) X hP hS (c_X7_firstError hN hA I O J q103 hcq103) (cwV 0 X.ts gL_law_X7_firstError rfl rfl rfl (by decide +kernel) ⟨Nat.le_of_ble_eq_true rfl, Nat.le_of_ble_eq_true rfl⟩) (gr7 X hP kc_0 (sk_in hN kc_0 (by decide))) rfl hl.1 rfl (Nat.le_of_ble_eq_true rfl) dL_law_837 ⟨by omega, by omega⟩ (fun r102 I101 H locs hw hP hS => ?_)
  subst hw
  refine lv_aload_n hx hb dL_law_840 rfl (lv_at hl 2 rfl) ?_
  obtain ⟨q106, hcq106, h⟩ := hb_some h
  refine gdV_i (As := []) (rest := [.int r102]) (BH := (fun (u : Nat → Nat → Int32) H => va_P (dC, dI) vwCl (hW 138 ca b u O J) H)) X hP hS (c_X8_firstError hN hA I101 O J q106 hcq106) (cwV 0 X.ts gL_law_X8_firstError rfl rfl rfl (by decide +kernel) ⟨Nat.le_of_ble_eq_true rfl, Nat.le_of_ble_eq_true rfl⟩) (gr8 X hP kc_129 (sk_in hN kc_129 (by decide))) rfl hl.1 rfl (Nat.le_of_ble_eq_true rfl) dL_law_841 ⟨by omega, by omega⟩ (fun r105 I104 H locs hw hP hS => ?_)
  subst hw
  refine lv_icmp_eq (tgt := 2558) hx hb dL_law_844 (by decide) (fun c107 => ?_) (fun c107 => ?_)
  · have h := gif_t c107 h
    refine W.widen (k := cn + 8) (n := sn + 100) (by omega) (by omega) ?_
    cases h
    exact K _ _ _ hP hS (lv_sub hl [0, 1, 2, 3, 4] rfl)
  · have h := gif_f c107 h
    refine lv_iconst (v := 0) hx hb dL_law_847 (by decide) ?_
    cases h
def f_L_case11 (SL : Nat) (sx : Nat → Int32) (p4 : Int32) (I : Nat → Nat → Int32) (O : Nat → Nat → Option Nat) (J : Nat → Nat → Int64) : Option ((Nat → Nat → Int32) × (Nat → Nat → Option Nat) × (Nat → Nat → Int64)) :=
  (f_L_follow I O J).bind fun (r104, I101, O102, J103) =>
  (f_X8_follow I101).bind fun (r107, I106) =>
  (f_X8_thrown I106).bind fun r109 =>
  if r109 = r104 then
    (show Option (Unit) from
      if r104 = 0 then
        if (lg_cmp (J103 137 (0 : Int32).toNatClampNeg) ((r107).toInt64)) = 0 then
          some ()
        else
          none
      else
        some ()).bind fun _ =>
    some (I106, O102, J103)
  else
    none
set_option maxHeartbeats 8000000 in
set_option maxRecDepth 100000 in
theorem lc11 {p : Program} {l : Launch} {e : Env} {s : State} {m : MethodId} {below : List Frame} {meth : Method} {c : Code} {Q : State → Prop} {sb SL : Nat} {sx : Nat → Int32} {dC : Nat → ClassId} {dI : Nat → Nat → Nat} {ca : Nat → ClassId} {b : Nat → Nat} {A : Nat → Prop} (hlf : l.stackTraces = false) (hml : c.maxLocals = 9) (X : gCx p s m #[Value.ref sb] c RL cL_law wsL_law 9 dC dI ca b A 138) (hX : va_X sb SL sx s s.heap) (hbl : sb < s.heap.size) (hbA : ¬ A sb) (p4 : Int32) (I : Nat → Nat → Int32) (O : Nat → Nat → Option Nat) (J : Nat → Nat → Int64) (I9 : Nat → Nat → Int32) (O9 : Nat → Nat → Option Nat) (J9 : Nat → Nat → Int64) (h : f_L_case11 SL sx p4 I O J = some (I9, O9, J9)) {cn sn : Nat} (hc : cn + 8 ≤ 601024) (hs : sn + 100 ≤ 7293034) (H : Heap) (locs : List Loc) (ls : Array Slot) (hP : va_P (dC, dI) vwCl (hW 138 ca b I O J) H) (hS : va_S A s.heap H locs) (hl : lv_has ls 9 [(0, .ref sb), (1, .ref (b 0)), (2, .ref (b 129)), (3, .ref (b 137)), (4, .int p4)]) (K : ∀ (H : Heap) (locs : List Loc) (ls : Array Slot), va_P (dC, dI) vwCl (hW 138 ca b I9 O9 J9) H → va_S A s.heap H locs → lv_has ls 9 [(0, .ref sb), (1, .ref (b 0)), (2, .ref (b 129)), (3, .ref (b 137)), (4, .int p4)] → W p l e room_1 s m #[Value.ref sb] below meth c H locs (cn + 8) (sn + 100) Q (F0 m 2558 ls [])) : W p l e room_1 s m #[Value.ref sb] below meth c H locs cn sn Q (F0 m 849 ls []) := by
  have hx := X.x
  have hb := X.cb
  have hA := X.ad
  have hN : 138 ≤ 138 := Nat.le_refl 138
  have hRc : room_1.cells = 601024 := rfl
  have hRs : room_1.slots = 7293034 := rfl
  unfold f_L_case11 at h
  refine lv_aload_n hx hb dL_law_849 rfl (lv_at hl 1 rfl) ?_
  refine lv_aload_n hx hb dL_law_850 rfl (lv_at hl 3 rfl) ?_
  obtain ⟨q105, hcq105, h⟩ := hb_some h
  refine gcSW_i (As := [.ref (b 0), .ref (b 137)]) (rest := []) (BH := (fun (u : (Nat → Nat → Int32) × (Nat → Nat → Option Nat) × (Nat → Nat → Int64)) H => va_P (dC, dI) vwCl (hW 138 ca b u.1 u.2.1 u.2.2) H)) X hP hS (c_L_follow hlf hN hA I O J q105 hcq105) (vx_cwSW 2 X.ts gL_law_L_follow rfl rfl rfl (by decide +kernel) ⟨Nat.le_of_ble_eq_true rfl, Nat.le_of_ble_eq_true rfl⟩) rfl hl.1 rfl (Nat.le_of_ble_eq_true rfl) dL_law_851 ⟨by omega, by omega⟩ (fun r104 u9 H locs hw hP hS => ?_)
  obtain ⟨I101, O102, J103⟩ := u9
  subst hw
  refine lv_istore (lv' := [(5, .int r104), (0, .ref sb), (1, .ref (b 0)), (2, .ref (b 129)), (3, .ref (b 137)), (4, .int p4)]) hx hb dL_law_854 hl (by decide) rfl (fun ls hl => ?_)
  refine lv_aload_n hx hb dL_law_856 rfl (lv_at hl 3 rfl) ?_
  obtain ⟨q108, hcq108, h⟩ := hb_some h
  refine gdV_i (As := []) (rest := []) (BH := (fun (u : Nat → Nat → Int32) H => va_P (dC, dI) vwCl (hW 138 ca b u O102 J103) H)) X hP hS (c_X8_follow hN hA I101 O102 J103 q108 hcq108) (cwV 0 X.ts gL_law_X8_follow rfl rfl rfl (by decide +kernel) ⟨Nat.le_of_ble_eq_true rfl, Nat.le_of_ble_eq_true rfl⟩) (gr8 X hP kc_129 (sk_in hN kc_129 (by decide))) rfl hl.1 rfl (Nat.le_of_ble_eq_true rfl) dL_law_857 ⟨by omega, by omega⟩ (fun r107 I106 H locs hw hP hS => ?_)
  subst hw
  refine lv_istore (lv' := [(6, .int r107), (5, .int r104), (0, .ref sb), (1, .ref (b 0)), (2, .ref (b 129)), (3, .ref (b 137)), (4, .int p4)]) hx hb dL_law_860 hl (by decide) rfl (fun ls hl => ?_)
  refine lv_aload_n hx hb dL_law_862 rfl (lv_at hl 4 rfl) ?_
  obtain ⟨q110, hcq110, h⟩ := hb_some h
  refine gdV_i (As := []) (rest := []) (BH := (fun (u : Unit) H => va_P (dC, dI) vwCl (hW 138 ca b I106 O102 J103) H)) X hP hS (c_X8_thrown hN hA I106 O102 J103 q110 hcq110) (cwV 0 X.ts gL_law_X8_thrown rfl rfl rfl (by decide +kernel) ⟨Nat.le_of_ble_eq_true rfl, Nat.le_of_ble_eq_true rfl⟩) (gr8 X hP kc_129 (sk_in hN kc_129 (by decide))) rfl hl.1 rfl (Nat.le_of_ble_eq_true rfl) dL_law_863 ⟨by omega, by omega⟩ (fun r109 u9 H locs hw hP hS => ?_)
  have hw := hw.symm
  subst hw
  refine lv_iload hx hb dL_law_866 (lv_at hl 1 rfl) ?_
  refine lv_icmp_eq (tgt := 873) hx hb dL_law_868 (by decide) (fun c113 => ?_) (fun c113 => ?_)
  · have h := gif_t c113 h
    refine lv_iload hx hb dL_law_873 (lv_at hl 1 rfl) ?_
    obtain ⟨_, hv, h⟩ := hb_some h
    have K890 : ∀ (H : Heap) (locs : List Loc) (ls : Array Slot), va_P (dC, dI) vwCl (hW 138 ca b I106 O102 J103) H → va_S A s.heap H locs → lv_has ls 9 [(0, .ref sb), (1, .ref (b 0)), (2, .ref (b 129)), (3, .ref (b 137)), (4, .int p4)] → W p l e room_1 s m #[Value.ref sb] below meth c H locs (cn + 1) (sn + 6) Q (F0 m 890 ls []) := by
      intro H locs ls hP hS hl
      refine lv_goto (tgt := 2558) hx hb dL_law_890 (by decide) ?_
      refine W.widen (k := cn + 8) (n := sn + 100) (by omega) (by omega) ?_
      cases h
      exact K _ _ _ hP hS (lv_sub hl [0, 1, 2, 3, 4] rfl)
    have h := hv
    refine lv_if_ne (tgt := 890) hx hb dL_law_875 (by decide) (fun c112 => ?_) (fun c112 => ?_)
    · have h := gif_f c112 h
      refine W.widen (k := (cn + 1)) (n := (sn + 6)) (by omega) (by omega) ?_
      cases h
      exact K890 _ _ _ hP hS (lv_sub hl [2, 3, 4, 5, 6] rfl)
    · have h := gif_t c112 h
      refine lv_aload_n hx hb dL_law_878 rfl (lv_at hl 5 rfl) ?_
      refine lv_iconst (v := 0) hx hb dL_law_879 (by decide) ?_
      refine ga23 X hP kc_137 (sk_in hN kc_137 (by decide)) (L := 1) (by decide) (by decide) dL_law_880 ?_
      refine lv_iload hx hb dL_law_881 (lv_at hl 0 rfl) ?_
      refine lv_i2l (v := (r107).toInt64) hx hb dL_law_883 rfl ?_
      refine W.lcmp hx hb dL_law_884 ?_
      refine lv_if_eq (tgt := 890) hx hb dL_law_885 (by decide) (fun c111 => ?_) (fun c111 => ?_)
      · have h := gif_t c111 h
        refine W.widen (k := (cn + 1)) (n := (sn + 6)) (by omega) (by omega) ?_
        cases h
        exact K890 _ _ _ hP hS (lv_sub hl [2, 3, 4, 5, 6] rfl)
      · have h := gif_f c111 h
        refine lv_iconst (v := 0) hx hb dL_law_888 (by decide) ?_
        cases h
  · have h := gif_f c113 h
    refine lv_iconst (v := 0) hx hb dL_law_871 (by decide) ?_
    cases h
def f_L_case12 (SL : Nat) (sx : Nat → Int32) (p4 : Int32) (I : Nat → Nat → Int32) (O : Nat → Nat → Option Nat) (J : Nat → Nat → Int64) : Option ((Nat → Nat → Int32) × (Nat → Nat → Option Nat) × (Nat → Nat → Int64)) :=
  hg (gin (p4 + (1 : Int32)) SL) <|
  (f_L_keep (sx (p4 + (1 : Int32)).toNatClampNeg) I).bind fun (r102, I101) =>
  hg (gin (p4 + (1 : Int32)) SL) <|
  (f_X8_keep (sx (p4 + (1 : Int32)).toNatClampNeg) I101).bind fun I104 =>
  (f_X8_thrown I104).bind fun r106 =>
  if r106 = r102 then
    some (I104, O, J)
  else
    none
set_option maxHeartbeats 8000000 in
set_option maxRecDepth 100000 in
theorem lc12 {p : Program} {l : Launch} {e : Env} {s : State} {m : MethodId} {below : List Frame} {meth : Method} {c : Code} {Q : State → Prop} {sb SL : Nat} {sx : Nat → Int32} {dC : Nat → ClassId} {dI : Nat → Nat → Nat} {ca : Nat → ClassId} {b : Nat → Nat} {A : Nat → Prop} (hlf : l.stackTraces = false) (hml : c.maxLocals = 9) (X : gCx p s m #[Value.ref sb] c RL cL_law wsL_law 9 dC dI ca b A 138) (hX : va_X sb SL sx s s.heap) (hbl : sb < s.heap.size) (hbA : ¬ A sb) (p4 : Int32) (I : Nat → Nat → Int32) (O : Nat → Nat → Option Nat) (J : Nat → Nat → Int64) (I9 : Nat → Nat → Int32) (O9 : Nat → Nat → Option Nat) (J9 : Nat → Nat → Int64) (h : f_L_case12 SL sx p4 I O J = some (I9, O9, J9)) {cn sn : Nat} (hc : cn + 8 ≤ 601024) (hs : sn + 100 ≤ 7293034) (H : Heap) (locs : List Loc) (ls : Array Slot) (hP : va_P (dC, dI) vwCl (hW 138 ca b I O J) H) (hS : va_S A s.heap H locs) (hl : lv_has ls 9 [(0, .ref sb), (1, .ref (b 0)), (2, .ref (b 129)), (3, .ref (b 137)), (4, .int p4)]) (K : ∀ (H : Heap) (locs : List Loc) (ls : Array Slot), va_P (dC, dI) vwCl (hW 138 ca b I9 O9 J9) H → va_S A s.heap H locs → lv_has ls 9 [(0, .ref sb), (1, .ref (b 0)), (2, .ref (b 129)), (3, .ref (b 137)), (4, .int p4)] → W p l e room_1 s m #[Value.ref sb] below meth c H locs (cn + 8) (sn + 100) Q (F0 m 2558 ls [])) : W p l e room_1 s m #[Value.ref sb] below meth c H locs cn sn Q (F0 m 893 ls []) := by
  have hx := X.x
  have hb := X.cb
  have hA := X.ad
  have hN : 138 ≤ 138 := Nat.le_refl 138
  have hRc : room_1.cells = 601024 := rfl
  have hRs : room_1.slots = 7293034 := rfl
  unfold f_L_case12 at h
  refine lv_aload_n hx hb dL_law_893 rfl (lv_at hl 1 rfl) ?_
  refine lv_aload_n hx hb dL_law_894 rfl (lv_at hl 0 rfl) ?_
  refine lv_iload hx hb dL_law_895 (lv_at hl 4 rfl) ?_
  refine lv_iconst (v := 1) hx hb dL_law_897 (by decide) ?_
  refine lv_iadd hx hb dL_law_898 ?_
  obtain ⟨hgi, h⟩ := hg_some h
  refine va_sld hx hb hX hbl hbA hS (gin_vp hgi) dL_law_899 ?_
  obtain ⟨q103, hcq103, h⟩ := hb_some h
  refine gcSW_i (As := [.ref (b 0), .int (sx (p4 + (1 : Int32)).toNatClampNeg)]) (rest := []) (BH := (fun (u : Nat → Nat → Int32) H => va_P (dC, dI) vwCl (hW 138 ca b u O J) H)) X hP hS (c_L_keep hlf hN hA I O J (sx (p4 + (1 : Int32)).toNatClampNeg) q103 hcq103) (vx_cwSW 2 X.ts gL_law_L_keep rfl rfl rfl (by decide +kernel) ⟨Nat.le_of_ble_eq_true rfl, Nat.le_of_ble_eq_true rfl⟩) rfl hl.1 rfl (Nat.le_of_ble_eq_true rfl) dL_law_900 ⟨by omega, by omega⟩ (fun r102 I101 H locs hw hP hS => ?_)
  subst hw
  refine lv_istore (lv' := [(5, .int r102), (0, .ref sb), (1, .ref (b 0)), (2, .ref (b 129)), (3, .ref (b 137)), (4, .int p4)]) hx hb dL_law_903 hl (by decide) rfl (fun ls hl => ?_)
  refine lv_aload_n hx hb dL_law_905 rfl (lv_at hl 3 rfl) ?_
  refine lv_aload_n hx hb dL_law_906 rfl (lv_at hl 1 rfl) ?_
  refine lv_iload hx hb dL_law_907 (lv_at hl 5 rfl) ?_
  refine lv_iconst (v := 1) hx hb dL_law_909 (by decide) ?_
  refine lv_iadd hx hb dL_law_910 ?_
  obtain ⟨hgi, h⟩ := hg_some h
  refine va_sld hx hb hX hbl hbA hS (gin_vp hgi) dL_law_911 ?_
  obtain ⟨q105, hcq105, h⟩ := hb_some h
  refine gdV_v (As := [.int (sx (p4 + (1 : Int32)).toNatClampNeg)]) (rest := []) (BH := (fun (u : Nat → Nat → Int32) H => va_P (dC, dI) vwCl (hW 138 ca b u O J) H)) X hP hS (c_X8_keep hN hA I101 O J (sx (p4 + (1 : Int32)).toNatClampNeg) q105 hcq105) (cwV 1 X.ts gL_law_X8_keep rfl rfl rfl (by decide +kernel) ⟨Nat.le_of_ble_eq_true rfl, Nat.le_of_ble_eq_true rfl⟩) (gr8 X hP kc_129 (sk_in hN kc_129 (by decide))) rfl hl.1 rfl (Nat.le_of_ble_eq_true rfl) dL_law_912 ⟨by omega, by omega⟩ (fun I104 H locs hw hP hS => ?_)
  have hw := hw.symm
  subst hw
  refine lv_aload_n hx hb dL_law_915 rfl (lv_at hl 3 rfl) ?_
  obtain ⟨q107, hcq107, h⟩ := hb_some h
  refine gdV_i (As := []) (rest := []) (BH := (fun (u : Unit) H => va_P (dC, dI) vwCl (hW 138 ca b I104 O J) H)) X hP hS (c_X8_thrown hN hA I104 O J q107 hcq107) (cwV 0 X.ts gL_law_X8_thrown rfl rfl rfl (by decide +kernel) ⟨Nat.le_of_ble_eq_true rfl, Nat.le_of_ble_eq_true rfl⟩) (gr8 X hP kc_129 (sk_in hN kc_129 (by decide))) rfl hl.1 rfl (Nat.le_of_ble_eq_true rfl) dL_law_916 ⟨by omega, by omega⟩ (fun r106 u9 H locs hw hP hS => ?_)
  have hw := hw.symm
  subst hw
  refine lv_iload hx hb dL_law_919 (lv_at hl 0 rfl) ?_
  refine lv_icmp_eq (tgt := 926) hx hb dL_law_921 (by decide) (fun c108 => ?_) (fun c108 => ?_)
  · have h := gif_t c108 h
    refine lv_goto (tgt := 2558) hx hb dL_law_926 (by decide) ?_
    refine W.widen (k := cn + 8) (n := sn + 100) (by omega) (by omega) ?_
    cases h
    exact K _ _ _ hP hS (lv_sub hl [1, 2, 3, 4, 5] rfl)
  · have h := gif_f c108 h
    refine lv_iconst (v := 0) hx hb dL_law_924 (by decide) ?_
    cases h
def f_L_case13 (SL : Nat) (sx : Nat → Int32) (p4 : Int32) (I : Nat → Nat → Int32) (O : Nat → Nat → Option Nat) (J : Nat → Nat → Int64) : Option ((Nat → Nat → Int32) × (Nat → Nat → Option Nat) × (Nat → Nat → Int64)) :=
  hg (gin (p4 + (1 : Int32)) SL) <|
  (f_L_goBack (sx (p4 + (1 : Int32)).toNatClampNeg) I O).bind fun (r103, I101, O102) =>
  hg (gin (p4 + (1 : Int32)) SL) <|
  (f_X8_goBack (sx (p4 + (1 : Int32)).toNatClampNeg) I101).bind fun I105 =>
  (f_X8_thrown I105).bind fun r107 =>
  if r107 = r103 then
    some (I105, O102, J)
  else
    none
set_option maxHeartbeats 8000000 in
set_option maxRecDepth 100000 in
theorem lc13 {p : Program} {l : Launch} {e : Env} {s : State} {m : MethodId} {below : List Frame} {meth : Method} {c : Code} {Q : State → Prop} {sb SL : Nat} {sx : Nat → Int32} {dC : Nat → ClassId} {dI : Nat → Nat → Nat} {ca : Nat → ClassId} {b : Nat → Nat} {A : Nat → Prop} (hlf : l.stackTraces = false) (hml : c.maxLocals = 9) (X : gCx p s m #[Value.ref sb] c RL cL_law wsL_law 9 dC dI ca b A 138) (hX : va_X sb SL sx s s.heap) (hbl : sb < s.heap.size) (hbA : ¬ A sb) (p4 : Int32) (I : Nat → Nat → Int32) (O : Nat → Nat → Option Nat) (J : Nat → Nat → Int64) (I9 : Nat → Nat → Int32) (O9 : Nat → Nat → Option Nat) (J9 : Nat → Nat → Int64) (h : f_L_case13 SL sx p4 I O J = some (I9, O9, J9)) {cn sn : Nat} (hc : cn + 8 ≤ 601024) (hs : sn + 100 ≤ 7293034) (H : Heap) (locs : List Loc) (ls : Array Slot) (hP : va_P (dC, dI) vwCl (hW 138 ca b I O J) H) (hS : va_S A s.heap H locs) (hl : lv_has ls 9 [(0, .ref sb), (1, .ref (b 0)), (2, .ref (b 129)), (3, .ref (b 137)), (4, .int p4)]) (K : ∀ (H : Heap) (locs : List Loc) (ls : Array Slot), va_P (dC, dI) vwCl (hW 138 ca b I9 O9 J9) H → va_S A s.heap H locs → lv_has ls 9 [(0, .ref sb), (1, .ref (b 0)), (2, .ref (b 129)), (3, .ref (b 137)), (4, .int p4)] → W p l e room_1 s m #[Value.ref sb] below meth c H locs (cn + 8) (sn + 100) Q (F0 m 2558 ls [])) : W p l e room_1 s m #[Value.ref sb] below meth c H locs cn sn Q (F0 m 929 ls []) := by
  have hx := X.x
  have hb := X.cb
  have hA := X.ad
  have hN : 138 ≤ 138 := Nat.le_refl 138
  have hRc : room_1.cells = 601024 := rfl
  have hRs : room_1.slots = 7293034 := rfl
  unfold f_L_case13 at h
  refine lv_aload_n hx hb dL_law_929 rfl (lv_at hl 1 rfl) ?_
  refine lv_aload_n hx hb dL_law_930 rfl (lv_at hl 0 rfl) ?_
  refine lv_iload hx hb dL_law_931 (lv_at hl 4 rfl) ?_
  refine lv_iconst (v := 1) hx hb dL_law_933 (by decide) ?_
  refine lv_iadd hx hb dL_law_934 ?_
  obtain ⟨hgi, h⟩ := hg_some h
  refine va_sld hx hb hX hbl hbA hS (gin_vp hgi) dL_law_935 ?_
  obtain ⟨q104, hcq104, h⟩ := hb_some h
  refine gcSW_i (As := [.ref (b 0), .int (sx (p4 + (1 : Int32)).toNatClampNeg)]) (rest := []) (BH := (fun (u : (Nat → Nat → Int32) × (Nat → Nat → Option Nat)) H => va_P (dC, dI) vwCl (hW 138 ca b u.1 u.2 J) H)) X hP hS (c_L_goBack hlf hN hA I O J (sx (p4 + (1 : Int32)).toNatClampNeg) q104 hcq104) (vx_cwSW 2 X.ts gL_law_L_goBack rfl rfl rfl (by decide +kernel) ⟨Nat.le_of_ble_eq_true rfl, Nat.le_of_ble_eq_true rfl⟩) rfl hl.1 rfl (Nat.le_of_ble_eq_true rfl) dL_law_936 ⟨by omega, by omega⟩ (fun r103 u9 H locs hw hP hS => ?_)
  obtain ⟨I101, O102⟩ := u9
  subst hw
  refine lv_istore (lv' := [(5, .int r103), (0, .ref sb), (1, .ref (b 0)), (2, .ref (b 129)), (3, .ref (b 137)), (4, .int p4)]) hx hb dL_law_939 hl (by decide) rfl (fun ls hl => ?_)
  refine lv_aload_n hx hb dL_law_941 rfl (lv_at hl 3 rfl) ?_
  refine lv_aload_n hx hb dL_law_942 rfl (lv_at hl 1 rfl) ?_
  refine lv_iload hx hb dL_law_943 (lv_at hl 5 rfl) ?_
  refine lv_iconst (v := 1) hx hb dL_law_945 (by decide) ?_
  refine lv_iadd hx hb dL_law_946 ?_
  obtain ⟨hgi, h⟩ := hg_some h
  refine va_sld hx hb hX hbl hbA hS (gin_vp hgi) dL_law_947 ?_
  obtain ⟨q106, hcq106, h⟩ := hb_some h
  refine gdV_v (As := [.int (sx (p4 + (1 : Int32)).toNatClampNeg)]) (rest := []) (BH := (fun (u : Nat → Nat → Int32) H => va_P (dC, dI) vwCl (hW 138 ca b u O102 J) H)) X hP hS (c_X8_goBack hN hA I101 O102 J (sx (p4 + (1 : Int32)).toNatClampNeg) q106 hcq106) (cwV 1 X.ts gL_law_X8_goBack rfl rfl rfl (by decide +kernel) ⟨Nat.le_of_ble_eq_true rfl, Nat.le_of_ble_eq_true rfl⟩) (gr8 X hP kc_129 (sk_in hN kc_129 (by decide))) rfl hl.1 rfl (Nat.le_of_ble_eq_true rfl) dL_law_948 ⟨by omega, by omega⟩ (fun I105 H locs hw hP hS => ?_)
  have hw := hw.symm
  subst hw
  refine lv_aload_n hx hb dL_law_951 rfl (lv_at hl 3 rfl) ?_
  obtain ⟨q108, hcq108, h⟩ := hb_some h
  refine gdV_i (As := []) (rest := []) (BH := (fun (u : Unit) H => va_P (dC, dI) vwCl (hW 138 ca b I105 O102 J) H)) X hP hS (c_X8_thrown hN hA I105 O102 J q108 hcq108) (cwV 0 X.ts gL_law_X8_thrown rfl rfl rfl (by decide +kernel) ⟨Nat.le_of_ble_eq_true rfl, Nat.le_of_ble_eq_true rfl⟩) (gr8 X hP kc_129 (sk_in hN kc_129 (by decide))) rfl hl.1 rfl (Nat.le_of_ble_eq_true rfl) dL_law_952 ⟨by omega, by omega⟩ (fun r107 u9 H locs hw hP hS => ?_)
  have hw := hw.symm
  subst hw
  refine lv_iload hx hb dL_law_955 (lv_at hl 0 rfl) ?_
  refine lv_icmp_eq (tgt := 962) hx hb dL_law_957 (by decide) (fun c109 => ?_) (fun c109 => ?_)
  · have h := gif_t c109 h
    refine lv_goto (tgt := 2558) hx hb dL_law_962 (by decide) ?_
    refine W.widen (k := cn + 8) (n := sn + 100) (by omega) (by omega) ?_
    cases h
    exact K _ _ _ hP hS (lv_sub hl [1, 2, 3, 4, 5] rfl)
  · have h := gif_f c109 h
    refine lv_iconst (v := 0) hx hb dL_law_960 (by decide) ?_
    cases h
def f_L_case14 (SL : Nat) (sx : Nat → Int32) (p4 : Int32) (I : Nat → Nat → Int32) (O : Nat → Nat → Option Nat) (J : Nat → Nat → Int64) : Option ((Nat → Nat → Int32) × (Nat → Nat → Option Nat) × (Nat → Nat → Int64)) :=
  (f_L_undo I O).bind fun (r102, I101) =>
  (f_X8_undo I101).bind fun I104 =>
  (f_X8_thrown I104).bind fun r106 =>
  if r106 = r102 then
    some (I104, O, J)
  else
    none
set_option maxHeartbeats 8000000 in
set_option maxRecDepth 100000 in
theorem lc14 {p : Program} {l : Launch} {e : Env} {s : State} {m : MethodId} {below : List Frame} {meth : Method} {c : Code} {Q : State → Prop} {sb SL : Nat} {sx : Nat → Int32} {dC : Nat → ClassId} {dI : Nat → Nat → Nat} {ca : Nat → ClassId} {b : Nat → Nat} {A : Nat → Prop} (hlf : l.stackTraces = false) (hml : c.maxLocals = 9) (X : gCx p s m #[Value.ref sb] c RL cL_law wsL_law 9 dC dI ca b A 138) (hX : va_X sb SL sx s s.heap) (hbl : sb < s.heap.size) (hbA : ¬ A sb) (p4 : Int32) (I : Nat → Nat → Int32) (O : Nat → Nat → Option Nat) (J : Nat → Nat → Int64) (I9 : Nat → Nat → Int32) (O9 : Nat → Nat → Option Nat) (J9 : Nat → Nat → Int64) (h : f_L_case14 SL sx p4 I O J = some (I9, O9, J9)) {cn sn : Nat} (hc : cn + 8 ≤ 601024) (hs : sn + 100 ≤ 7293034) (H : Heap) (locs : List Loc) (ls : Array Slot) (hP : va_P (dC, dI) vwCl (hW 138 ca b I O J) H) (hS : va_S A s.heap H locs) (hl : lv_has ls 9 [(0, .ref sb), (1, .ref (b 0)), (2, .ref (b 129)), (3, .ref (b 137)), (4, .int p4)]) (K : ∀ (H : Heap) (locs : List Loc) (ls : Array Slot), va_P (dC, dI) vwCl (hW 138 ca b I9 O9 J9) H → va_S A s.heap H locs → lv_has ls 9 [(0, .ref sb), (1, .ref (b 0)), (2, .ref (b 129)), (3, .ref (b 137)), (4, .int p4)] → W p l e room_1 s m #[Value.ref sb] below meth c H locs (cn + 8) (sn + 100) Q (F0 m 2558 ls [])) : W p l e room_1 s m #[Value.ref sb] below meth c H locs cn sn Q (F0 m 965 ls []) := by
  have hx := X.x
  have hb := X.cb
  have hA := X.ad
  have hN : 138 ≤ 138 := Nat.le_refl 138
  have hRc : room_1.cells = 601024 := rfl
  have hRs : room_1.slots = 7293034 := rfl
  unfold f_L_case14 at h
  refine lv_aload_n hx hb dL_law_965 rfl (lv_at hl 1 rfl) ?_
  obtain ⟨q103, hcq103, h⟩ := hb_some h
  refine gcSW_i (As := [.ref (b 0)]) (rest := []) (BH := (fun (u : Nat → Nat → Int32) H => va_P (dC, dI) vwCl (hW 138 ca b u O J) H)) X hP hS (c_L_undo hlf hN hA I O J q103 hcq103) (vx_cwSW 1 X.ts gL_law_L_undo rfl rfl rfl (by decide +kernel) ⟨Nat.le_of_ble_eq_true rfl, Nat.le_of_ble_eq_true rfl⟩) rfl hl.1 rfl (Nat.le_of_ble_eq_true rfl) dL_law_966 ⟨by omega, by omega⟩ (fun r102 I101 H locs hw hP hS => ?_)
  subst hw
  refine lv_istore (lv' := [(5, .int r102), (0, .ref sb), (1, .ref (b 0)), (2, .ref (b 129)), (3, .ref (b 137)), (4, .int p4)]) hx hb dL_law_969 hl (by decide) rfl (fun ls hl => ?_)
  refine lv_aload_n hx hb dL_law_971 rfl (lv_at hl 3 rfl) ?_
  obtain ⟨q105, hcq105, h⟩ := hb_some h
  refine gdV_v (As := []) (rest := []) (BH := (fun (u : Nat → Nat → Int32) H => va_P (dC, dI) vwCl (hW 138 ca b u O J) H)) X hP hS (c_X8_undo hN hA I101 O J q105 hcq105) (cwV 0 X.ts gL_law_X8_undo rfl rfl rfl (by decide +kernel) ⟨Nat.le_of_ble_eq_true rfl, Nat.le_of_ble_eq_true rfl⟩) (gr8 X hP kc_129 (sk_in hN kc_129 (by decide))) rfl hl.1 rfl (Nat.le_of_ble_eq_true rfl) dL_law_972 ⟨by omega, by omega⟩ (fun I104 H locs hw hP hS => ?_)
  have hw := hw.symm
  subst hw
  refine lv_aload_n hx hb dL_law_975 rfl (lv_at hl 3 rfl) ?_
  obtain ⟨q107, hcq107, h⟩ := hb_some h
  refine gdV_i (As := []) (rest := []) (BH := (fun (u : Unit) H => va_P (dC, dI) vwCl (hW 138 ca b I104 O J) H)) X hP hS (c_X8_thrown hN hA I104 O J q107 hcq107) (cwV 0 X.ts gL_law_X8_thrown rfl rfl rfl (by decide +kernel) ⟨Nat.le_of_ble_eq_true rfl, Nat.le_of_ble_eq_true rfl⟩) (gr8 X hP kc_129 (sk_in hN kc_129 (by decide))) rfl hl.1 rfl (Nat.le_of_ble_eq_true rfl) dL_law_976 ⟨by omega, by omega⟩ (fun r106 u9 H locs hw hP hS => ?_)
  have hw := hw.symm
  subst hw
  refine lv_iload hx hb dL_law_979 (lv_at hl 0 rfl) ?_
  refine lv_icmp_eq (tgt := 986) hx hb dL_law_981 (by decide) (fun c108 => ?_) (fun c108 => ?_)
  · have h := gif_t c108 h
    refine lv_goto (tgt := 2558) hx hb dL_law_986 (by decide) ?_
    refine W.widen (k := cn + 8) (n := sn + 100) (by omega) (by omega) ?_
    cases h
    exact K _ _ _ hP hS (lv_sub hl [1, 2, 3, 4, 5] rfl)
  · have h := gif_f c108 h
    refine lv_iconst (v := 0) hx hb dL_law_984 (by decide) ?_
    cases h
def f_L_case15 (SL : Nat) (sx : Nat → Int32) (p4 : Int32) (I : Nat → Nat → Int32) (O : Nat → Nat → Option Nat) (J : Nat → Nat → Int64) : Option ((Nat → Nat → Int32) × (Nat → Nat → Option Nat) × (Nat → Nat → Int64)) :=
  (f_X7_savedStates I).bind fun r101 =>
  (f_X8_savedStates I).bind fun (r104, I103) =>
  if r101 = r104 then
    some (I103, O, J)
  else
    none
set_option maxHeartbeats 8000000 in
set_option maxRecDepth 100000 in
theorem lc15 {p : Program} {l : Launch} {e : Env} {s : State} {m : MethodId} {below : List Frame} {meth : Method} {c : Code} {Q : State → Prop} {sb SL : Nat} {sx : Nat → Int32} {dC : Nat → ClassId} {dI : Nat → Nat → Nat} {ca : Nat → ClassId} {b : Nat → Nat} {A : Nat → Prop} (hlf : l.stackTraces = false) (hml : c.maxLocals = 9) (X : gCx p s m #[Value.ref sb] c RL cL_law wsL_law 9 dC dI ca b A 138) (hX : va_X sb SL sx s s.heap) (hbl : sb < s.heap.size) (hbA : ¬ A sb) (p4 : Int32) (I : Nat → Nat → Int32) (O : Nat → Nat → Option Nat) (J : Nat → Nat → Int64) (I9 : Nat → Nat → Int32) (O9 : Nat → Nat → Option Nat) (J9 : Nat → Nat → Int64) (h : f_L_case15 SL sx p4 I O J = some (I9, O9, J9)) {cn sn : Nat} (hc : cn + 8 ≤ 601024) (hs : sn + 100 ≤ 7293034) (H : Heap) (locs : List Loc) (ls : Array Slot) (hP : va_P (dC, dI) vwCl (hW 138 ca b I O J) H) (hS : va_S A s.heap H locs) (hl : lv_has ls 9 [(0, .ref sb), (1, .ref (b 0)), (2, .ref (b 129)), (3, .ref (b 137)), (4, .int p4)]) (K : ∀ (H : Heap) (locs : List Loc) (ls : Array Slot), va_P (dC, dI) vwCl (hW 138 ca b I9 O9 J9) H → va_S A s.heap H locs → lv_has ls 9 [(0, .ref sb), (1, .ref (b 0)), (2, .ref (b 129)), (3, .ref (b 137)), (4, .int p4)] → W p l e room_1 s m #[Value.ref sb] below meth c H locs (cn + 8) (sn + 100) Q (F0 m 2558 ls [])) : W p l e room_1 s m #[Value.ref sb] below meth c H locs cn sn Q (F0 m 989 ls []) := by
  have hx := X.x
  have hb := X.cb
  have hA := X.ad
  have hN : 138 ≤ 138 := Nat.le_refl 138
  have hRc : room_1.cells = 601024 := rfl
  have hRs : room_1.slots = 7293034 := rfl
  unfold f_L_case15 at h
  refine lv_aload_n hx hb dL_law_989 rfl (lv_at hl 1 rfl) ?_
  obtain ⟨q102, hcq102, h⟩ := hb_some h
  refine gdV_i (As := []) (rest := []) (BH := (fun (u : Unit) H => va_P (dC, dI) vwCl (hW 138 ca b I O J) H)) X hP hS (c_X7_savedStates hN hA I O J q102 hcq102) (cwV 0 X.ts gL_law_X7_savedStates rfl rfl rfl (by decide +kernel) ⟨Nat.le_of_ble_eq_true rfl, Nat.le_of_ble_eq_true rfl⟩) (gr7 X hP kc_0 (sk_in hN kc_0 (by decide))) rfl hl.1 rfl (Nat.le_of_ble_eq_true rfl) dL_law_990 ⟨by omega, by omega⟩ (fun r101 u9 H locs hw hP hS => ?_)
  have hw := hw.symm
  subst hw
  refine lv_aload_n hx hb dL_law_993 rfl (lv_at hl 2 rfl) ?_
  obtain ⟨q105, hcq105, h⟩ := hb_some h
  refine gdV_i (As := []) (rest := [.int r101]) (BH := (fun (u : Nat → Nat → Int32) H => va_P (dC, dI) vwCl (hW 138 ca b u O J) H)) X hP hS (c_X8_savedStates hN hA I O J q105 hcq105) (cwV 0 X.ts gL_law_X8_savedStates rfl rfl rfl (by decide +kernel) ⟨Nat.le_of_ble_eq_true rfl, Nat.le_of_ble_eq_true rfl⟩) (gr8 X hP kc_129 (sk_in hN kc_129 (by decide))) rfl hl.1 rfl (Nat.le_of_ble_eq_true rfl) dL_law_994 ⟨by omega, by omega⟩ (fun r104 I103 H locs hw hP hS => ?_)
  subst hw
  refine lv_icmp_eq (tgt := 2558) hx hb dL_law_997 (by decide) (fun c106 => ?_) (fun c106 => ?_)
  · have h := gif_t c106 h
    refine W.widen (k := cn + 8) (n := sn + 100) (by omega) (by omega) ?_
    cases h
    exact K _ _ _ hP hS (lv_sub hl [0, 1, 2, 3, 4] rfl)
  · have h := gif_f c106 h
    refine lv_iconst (v := 0) hx hb dL_law_1000 (by decide) ?_
    cases h
def f_L_case16 (SL : Nat) (sx : Nat → Int32) (p4 : Int32) (I : Nat → Nat → Int32) (O : Nat → Nat → Option Nat) (J : Nat → Nat → Int64) : Option ((Nat → Nat → Int32) × (Nat → Nat → Option Nat) × (Nat → Nat → Int64)) :=
  (f_X7_sparrows I).bind fun r101 =>
  (f_X8_sparrows I).bind fun (r104, I103) =>
  if r101 = r104 then
    some (I103, O, J)
  else
    none
set_option maxHeartbeats 8000000 in
set_option maxRecDepth 100000 in
theorem lc16 {p : Program} {l : Launch} {e : Env} {s : State} {m : MethodId} {below : List Frame} {meth : Method} {c : Code} {Q : State → Prop} {sb SL : Nat} {sx : Nat → Int32} {dC : Nat → ClassId} {dI : Nat → Nat → Nat} {ca : Nat → ClassId} {b : Nat → Nat} {A : Nat → Prop} (hlf : l.stackTraces = false) (hml : c.maxLocals = 9) (X : gCx p s m #[Value.ref sb] c RL cL_law wsL_law 9 dC dI ca b A 138) (hX : va_X sb SL sx s s.heap) (hbl : sb < s.heap.size) (hbA : ¬ A sb) (p4 : Int32) (I : Nat → Nat → Int32) (O : Nat → Nat → Option Nat) (J : Nat → Nat → Int64) (I9 : Nat → Nat → Int32) (O9 : Nat → Nat → Option Nat) (J9 : Nat → Nat → Int64) (h : f_L_case16 SL sx p4 I O J = some (I9, O9, J9)) {cn sn : Nat} (hc : cn + 8 ≤ 601024) (hs : sn + 100 ≤ 7293034) (H : Heap) (locs : List Loc) (ls : Array Slot) (hP : va_P (dC, dI) vwCl (hW 138 ca b I O J) H) (hS : va_S A s.heap H locs) (hl : lv_has ls 9 [(0, .ref sb), (1, .ref (b 0)), (2, .ref (b 129)), (3, .ref (b 137)), (4, .int p4)]) (K : ∀ (H : Heap) (locs : List Loc) (ls : Array Slot), va_P (dC, dI) vwCl (hW 138 ca b I9 O9 J9) H → va_S A s.heap H locs → lv_has ls 9 [(0, .ref sb), (1, .ref (b 0)), (2, .ref (b 129)), (3, .ref (b 137)), (4, .int p4)] → W p l e room_1 s m #[Value.ref sb] below meth c H locs (cn + 8) (sn + 100) Q (F0 m 2558 ls [])) : W p l e room_1 s m #[Value.ref sb] below meth c H locs cn sn Q (F0 m 1002 ls []) := by
  have hx := X.x
  have hb := X.cb
  have hA := X.ad
  have hN : 138 ≤ 138 := Nat.le_refl 138
  have hRc : room_1.cells = 601024 := rfl
  have hRs : room_1.slots = 7293034 := rfl
  unfold f_L_case16 at h
  refine lv_aload_n hx hb dL_law_1002 rfl (lv_at hl 1 rfl) ?_
  obtain ⟨q102, hcq102, h⟩ := hb_some h
  refine gdV_i (As := []) (rest := []) (BH := (fun (u : Unit) H => va_P (dC, dI) vwCl (hW 138 ca b I O J) H)) X hP hS (c_X7_sparrows hN hA I O J q102 hcq102) (cwV 0 X.ts gL_law_X7_sparrows rfl rfl rfl (by decide +kernel) ⟨Nat.le_of_ble_eq_true rfl, Nat.le_of_ble_eq_true rfl⟩) (gr7 X hP kc_0 (sk_in hN kc_0 (by decide))) rfl hl.1 rfl (Nat.le_of_ble_eq_true rfl) dL_law_1003 ⟨by omega, by omega⟩ (fun r101 u9 H locs hw hP hS => ?_)
  have hw := hw.symm
  subst hw
  refine lv_aload_n hx hb dL_law_1006 rfl (lv_at hl 2 rfl) ?_
  obtain ⟨q105, hcq105, h⟩ := hb_some h
  refine gdV_i (As := []) (rest := [.int r101]) (BH := (fun (u : Nat → Nat → Int32) H => va_P (dC, dI) vwCl (hW 138 ca b u O J) H)) X hP hS (c_X8_sparrows hN hA I O J q105 hcq105) (cwV 0 X.ts gL_law_X8_sparrows rfl rfl rfl (by decide +kernel) ⟨Nat.le_of_ble_eq_true rfl, Nat.le_of_ble_eq_true rfl⟩) (gr8 X hP kc_129 (sk_in hN kc_129 (by decide))) rfl hl.1 rfl (Nat.le_of_ble_eq_true rfl) dL_law_1007 ⟨by omega, by omega⟩ (fun r104 I103 H locs hw hP hS => ?_)
  subst hw
  refine lv_icmp_eq (tgt := 2558) hx hb dL_law_1010 (by decide) (fun c106 => ?_) (fun c106 => ?_)
  · have h := gif_t c106 h
    refine W.widen (k := cn + 8) (n := sn + 100) (by omega) (by omega) ?_
    cases h
    exact K _ _ _ hP hS (lv_sub hl [0, 1, 2, 3, 4] rfl)
  · have h := gif_f c106 h
    refine lv_iconst (v := 0) hx hb dL_law_1013 (by decide) ?_
    cases h
def f_L_case17 (SL : Nat) (sx : Nat → Int32) (p4 : Int32) (I : Nat → Nat → Int32) (O : Nat → Nat → Option Nat) (J : Nat → Nat → Int64) : Option ((Nat → Nat → Int32) × (Nat → Nat → Option Nat) × (Nat → Nat → Int64)) :=
  hg (gin (p4 + (1 : Int32)) SL) <|
  (f_L_flown (sx (p4 + (1 : Int32)).toNatClampNeg) I J).bind fun (r102, J101) =>
  hg (gin (p4 + (1 : Int32)) SL) <|
  (f_X8_flown (sx (p4 + (1 : Int32)).toNatClampNeg) I).bind fun (r105, I104) =>
  (f_X8_thrown I104).bind fun r107 =>
  if r107 = r102 then
    (show Option (Unit) from
      if r102 = 0 then
        if (lg_cmp (J101 137 (0 : Int32).toNatClampNeg) ((r105).toInt64)) = 0 then
          some ()
        else
          none
      else
        some ()).bind fun _ =>
    some (I104, O, J101)
  else
    none
set_option maxHeartbeats 8000000 in
set_option maxRecDepth 100000 in
theorem lc17 {p : Program} {l : Launch} {e : Env} {s : State} {m : MethodId} {below : List Frame} {meth : Method} {c : Code} {Q : State → Prop} {sb SL : Nat} {sx : Nat → Int32} {dC : Nat → ClassId} {dI : Nat → Nat → Nat} {ca : Nat → ClassId} {b : Nat → Nat} {A : Nat → Prop} (hlf : l.stackTraces = false) (hml : c.maxLocals = 9) (X : gCx p s m #[Value.ref sb] c RL cL_law wsL_law 9 dC dI ca b A 138) (hX : va_X sb SL sx s s.heap) (hbl : sb < s.heap.size) (hbA : ¬ A sb) (p4 : Int32) (I : Nat → Nat → Int32) (O : Nat → Nat → Option Nat) (J : Nat → Nat → Int64) (I9 : Nat → Nat → Int32) (O9 : Nat → Nat → Option Nat) (J9 : Nat → Nat → Int64) (h : f_L_case17 SL sx p4 I O J = some (I9, O9, J9)) {cn sn : Nat} (hc : cn + 8 ≤ 601024) (hs : sn + 100 ≤ 7293034) (H : Heap) (locs : List Loc) (ls : Array Slot) (hP : va_P (dC, dI) vwCl (hW 138 ca b I O J) H) (hS : va_S A s.heap H locs) (hl : lv_has ls 9 [(0, .ref sb), (1, .ref (b 0)), (2, .ref (b 129)), (3, .ref (b 137)), (4, .int p4)]) (K : ∀ (H : Heap) (locs : List Loc) (ls : Array Slot), va_P (dC, dI) vwCl (hW 138 ca b I9 O9 J9) H → va_S A s.heap H locs → lv_has ls 9 [(0, .ref sb), (1, .ref (b 0)), (2, .ref (b 129)), (3, .ref (b 137)), (4, .int p4)] → W p l e room_1 s m #[Value.ref sb] below meth c H locs (cn + 8) (sn + 100) Q (F0 m 2558 ls [])) : W p l e room_1 s m #[Value.ref sb] below meth c H locs cn sn Q (F0 m 1015 ls []) := by
  have hx := X.x
  have hb := X.cb
  have hA := X.ad
  have hN : 138 ≤ 138 := Nat.le_refl 138
  have hRc : room_1.cells = 601024 := rfl
  have hRs : room_1.slots = 7293034 := rfl
  unfold f_L_case17 at h
  refine lv_aload_n hx hb dL_law_1015 rfl (lv_at hl 1 rfl) ?_
  refine lv_aload_n hx hb dL_law_1016 rfl (lv_at hl 0 rfl) ?_
  refine lv_iload hx hb dL_law_1017 (lv_at hl 4 rfl) ?_
  refine lv_iconst (v := 1) hx hb dL_law_1019 (by decide) ?_
  refine lv_iadd hx hb dL_law_1020 ?_
  obtain ⟨hgi, h⟩ := hg_some h
  refine va_sld hx hb hX hbl hbA hS (gin_vp hgi) dL_law_1021 ?_
  refine lv_aload_n hx hb dL_law_1022 rfl (lv_at hl 3 rfl) ?_
  obtain ⟨q103, hcq103, h⟩ := hb_some h
  refine gcSW_i (As := [.ref (b 0), .int (sx (p4 + (1 : Int32)).toNatClampNeg), .ref (b 137)]) (rest := []) (BH := (fun (u : Nat → Nat → Int64) H => va_P (dC, dI) vwCl (hW 138 ca b I O u) H)) X hP hS (c_L_flown hlf hN hA I O J (sx (p4 + (1 : Int32)).toNatClampNeg) q103 hcq103) (vx_cwSW 3 X.ts gL_law_L_flown rfl rfl rfl (by decide +kernel) ⟨Nat.le_of_ble_eq_true rfl, Nat.le_of_ble_eq_true rfl⟩) rfl hl.1 rfl (Nat.le_of_ble_eq_true rfl) dL_law_1023 ⟨by omega, by omega⟩ (fun r102 J101 H locs hw hP hS => ?_)
  subst hw
  refine lv_istore (lv' := [(5, .int r102), (0, .ref sb), (1, .ref (b 0)), (2, .ref (b 129)), (3, .ref (b 137)), (4, .int p4)]) hx hb dL_law_1026 hl (by decide) rfl (fun ls hl => ?_)
  refine lv_aload_n hx hb dL_law_1028 rfl (lv_at hl 3 rfl) ?_
  refine lv_aload_n hx hb dL_law_1029 rfl (lv_at hl 1 rfl) ?_
  refine lv_iload hx hb dL_law_1030 (lv_at hl 5 rfl) ?_
  refine lv_iconst (v := 1) hx hb dL_law_1032 (by decide) ?_
  refine lv_iadd hx hb dL_law_1033 ?_
  obtain ⟨hgi, h⟩ := hg_some h
  refine va_sld hx hb hX hbl hbA hS (gin_vp hgi) dL_law_1034 ?_
  obtain ⟨q106, hcq106, h⟩ := hb_some h
  refine gdV_i (As := [.int (sx (p4 + (1 : Int32)).toNatClampNeg)]) (rest := []) (BH := (fun (u : Nat → Nat → Int32) H => va_P (dC, dI) vwCl (hW 138 ca b u O J101) H)) X hP hS (c_X8_flown hN hA I O J101 (sx (p4 + (1 : Int32)).toNatClampNeg) q106 hcq106) (cwV 1 X.ts gL_law_X8_flown rfl rfl rfl (by decide +kernel) ⟨Nat.le_of_ble_eq_true rfl, Nat.le_of_ble_eq_true rfl⟩) (gr8 X hP kc_129 (sk_in hN kc_129 (by decide))) rfl hl.1 rfl (Nat.le_of_ble_eq_true rfl) dL_law_1035 ⟨by omega, by omega⟩ (fun r105 I104 H locs hw hP hS => ?_)
  subst hw
  refine lv_istore (lv' := [(6, .int r105), (5, .int r102), (0, .ref sb), (1, .ref (b 0)), (2, .ref (b 129)), (3, .ref (b 137)), (4, .int p4)]) hx hb dL_law_1038 hl (by decide) rfl (fun ls hl => ?_)
  refine lv_aload_n hx hb dL_law_1040 rfl (lv_at hl 4 rfl) ?_
  obtain ⟨q108, hcq108, h⟩ := hb_some h
  refine gdV_i (As := []) (rest := []) (BH := (fun (u : Unit) H => va_P (dC, dI) vwCl (hW 138 ca b I104 O J101) H)) X hP hS (c_X8_thrown hN hA I104 O J101 q108 hcq108) (cwV 0 X.ts gL_law_X8_thrown rfl rfl rfl (by decide +kernel) ⟨Nat.le_of_ble_eq_true rfl, Nat.le_of_ble_eq_true rfl⟩) (gr8 X hP kc_129 (sk_in hN kc_129 (by decide))) rfl hl.1 rfl (Nat.le_of_ble_eq_true rfl) dL_law_1041 ⟨by omega, by omega⟩ (fun r107 u9 H locs hw hP hS => ?_)
  have hw := hw.symm
  subst hw
  refine lv_iload hx hb dL_law_1044 (lv_at hl 1 rfl) ?_
  refine lv_icmp_eq (tgt := 1051) hx hb dL_law_1046 (by decide) (fun c111 => ?_) (fun c111 => ?_)
  · have h := gif_t c111 h
    refine lv_iload hx hb dL_law_1051 (lv_at hl 1 rfl) ?_
    obtain ⟨_, hv, h⟩ := hb_some h
    have K1068 : ∀ (H : Heap) (locs : List Loc) (ls : Array Slot), va_P (dC, dI) vwCl (hW 138 ca b I104 O J101) H → va_S A s.heap H locs → lv_has ls 9 [(0, .ref sb), (1, .ref (b 0)), (2, .ref (b 129)), (3, .ref (b 137)), (4, .int p4)] → W p l e room_1 s m #[Value.ref sb] below meth c H locs (cn + 1) (sn + 6) Q (F0 m 1068 ls []) := by
      intro H locs ls hP hS hl
      refine lv_goto (tgt := 2558) hx hb dL_law_1068 (by decide) ?_
      refine W.widen (k := cn + 8) (n := sn + 100) (by omega) (by omega) ?_
      cases h
      exact K _ _ _ hP hS (lv_sub hl [0, 1, 2, 3, 4] rfl)
    have h := hv
    refine lv_if_ne (tgt := 1068) hx hb dL_law_1053 (by decide) (fun c110 => ?_) (fun c110 => ?_)
    · have h := gif_f c110 h
      refine W.widen (k := (cn + 1)) (n := (sn + 6)) (by omega) (by omega) ?_
      cases h
      exact K1068 _ _ _ hP hS (lv_sub hl [2, 3, 4, 5, 6] rfl)
    · have h := gif_t c110 h
      refine lv_aload_n hx hb dL_law_1056 rfl (lv_at hl 5 rfl) ?_
      refine lv_iconst (v := 0) hx hb dL_law_1057 (by decide) ?_
      refine ga23 X hP kc_137 (sk_in hN kc_137 (by decide)) (L := 1) (by decide) (by decide) dL_law_1058 ?_
      refine lv_iload hx hb dL_law_1059 (lv_at hl 0 rfl) ?_
      refine lv_i2l (v := (r105).toInt64) hx hb dL_law_1061 rfl ?_
      refine W.lcmp hx hb dL_law_1062 ?_
      refine lv_if_eq (tgt := 1068) hx hb dL_law_1063 (by decide) (fun c109 => ?_) (fun c109 => ?_)
      · have h := gif_t c109 h
        refine W.widen (k := (cn + 1)) (n := (sn + 6)) (by omega) (by omega) ?_
        cases h
        exact K1068 _ _ _ hP hS (lv_sub hl [2, 3, 4, 5, 6] rfl)
      · have h := gif_f c109 h
        refine lv_iconst (v := 0) hx hb dL_law_1066 (by decide) ?_
        cases h
  · have h := gif_f c111 h
    refine lv_iconst (v := 0) hx hb dL_law_1049 (by decide) ?_
    cases h
def f_L_case18 (SL : Nat) (sx : Nat → Int32) (p4 : Int32) (I : Nat → Nat → Int32) (O : Nat → Nat → Option Nat) (J : Nat → Nat → Int64) : Option ((Nat → Nat → Int32) × (Nat → Nat → Option Nat) × (Nat → Nat → Int64)) :=
  hg (gin (p4 + (1 : Int32)) SL) <|
  (f_L_lapsOf (sx (p4 + (1 : Int32)).toNatClampNeg) I J).bind fun (r102, J101) =>
  hg (gin (p4 + (1 : Int32)) SL) <|
  (f_X8_lapsOf (sx (p4 + (1 : Int32)).toNatClampNeg) I).bind fun (r105, I104) =>
  (f_X8_thrown I104).bind fun r107 =>
  if r107 = r102 then
    (show Option (Unit) from
      if r102 = 0 then
        if (lg_cmp (J101 137 (0 : Int32).toNatClampNeg) ((r105).toInt64)) = 0 then
          some ()
        else
          none
      else
        some ()).bind fun _ =>
    some (I104, O, J101)
  else
    none
set_option maxHeartbeats 8000000 in
set_option maxRecDepth 100000 in
theorem lc18 {p : Program} {l : Launch} {e : Env} {s : State} {m : MethodId} {below : List Frame} {meth : Method} {c : Code} {Q : State → Prop} {sb SL : Nat} {sx : Nat → Int32} {dC : Nat → ClassId} {dI : Nat → Nat → Nat} {ca : Nat → ClassId} {b : Nat → Nat} {A : Nat → Prop} (hlf : l.stackTraces = false) (hml : c.maxLocals = 9) (X : gCx p s m #[Value.ref sb] c RL cL_law wsL_law 9 dC dI ca b A 138) (hX : va_X sb SL sx s s.heap) (hbl : sb < s.heap.size) (hbA : ¬ A sb) (p4 : Int32) (I : Nat → Nat → Int32) (O : Nat → Nat → Option Nat) (J : Nat → Nat → Int64) (I9 : Nat → Nat → Int32) (O9 : Nat → Nat → Option Nat) (J9 : Nat → Nat → Int64) (h : f_L_case18 SL sx p4 I O J = some (I9, O9, J9)) {cn sn : Nat} (hc : cn + 8 ≤ 601024) (hs : sn + 100 ≤ 7293034) (H : Heap) (locs : List Loc) (ls : Array Slot) (hP : va_P (dC, dI) vwCl (hW 138 ca b I O J) H) (hS : va_S A s.heap H locs) (hl : lv_has ls 9 [(0, .ref sb), (1, .ref (b 0)), (2, .ref (b 129)), (3, .ref (b 137)), (4, .int p4)]) (K : ∀ (H : Heap) (locs : List Loc) (ls : Array Slot), va_P (dC, dI) vwCl (hW 138 ca b I9 O9 J9) H → va_S A s.heap H locs → lv_has ls 9 [(0, .ref sb), (1, .ref (b 0)), (2, .ref (b 129)), (3, .ref (b 137)), (4, .int p4)] → W p l e room_1 s m #[Value.ref sb] below meth c H locs (cn + 8) (sn + 100) Q (F0 m 2558 ls [])) : W p l e room_1 s m #[Value.ref sb] below meth c H locs cn sn Q (F0 m 1071 ls []) := by
  have hx := X.x
  have hb := X.cb
  have hA := X.ad
  have hN : 138 ≤ 138 := Nat.le_refl 138
  have hRc : room_1.cells = 601024 := rfl
  have hRs : room_1.slots = 7293034 := rfl
  unfold f_L_case18 at h
  refine lv_aload_n hx hb dL_law_1071 rfl (lv_at hl 1 rfl) ?_
  refine lv_aload_n hx hb dL_law_1072 rfl (lv_at hl 0 rfl) ?_
  refine lv_iload hx hb dL_law_1073 (lv_at hl 4 rfl) ?_
  refine lv_iconst (v := 1) hx hb dL_law_1075 (by decide) ?_
  refine lv_iadd hx hb dL_law_1076 ?_
  obtain ⟨hgi, h⟩ := hg_some h
  refine va_sld hx hb hX hbl hbA hS (gin_vp hgi) dL_law_1077 ?_
  refine lv_aload_n hx hb dL_law_1078 rfl (lv_at hl 3 rfl) ?_
  obtain ⟨q103, hcq103, h⟩ := hb_some h
  refine gcSW_i (As := [.ref (b 0), .int (sx (p4 + (1 : Int32)).toNatClampNeg), .ref (b 137)]) (rest := []) (BH := (fun (u : Nat → Nat → Int64) H => va_P (dC, dI) vwCl (hW 138 ca b I O u) H)) X hP hS (c_L_lapsOf hlf hN hA I O J (sx (p4 + (1 : Int32)).toNatClampNeg) q103 hcq103) (vx_cwSW 3 X.ts gL_law_L_lapsOf rfl rfl rfl (by decide +kernel) ⟨Nat.le_of_ble_eq_true rfl, Nat.le_of_ble_eq_true rfl⟩) rfl hl.1 rfl (Nat.le_of_ble_eq_true rfl) dL_law_1079 ⟨by omega, by omega⟩ (fun r102 J101 H locs hw hP hS => ?_)
  subst hw
  refine lv_istore (lv' := [(5, .int r102), (0, .ref sb), (1, .ref (b 0)), (2, .ref (b 129)), (3, .ref (b 137)), (4, .int p4)]) hx hb dL_law_1082 hl (by decide) rfl (fun ls hl => ?_)
  refine lv_aload_n hx hb dL_law_1084 rfl (lv_at hl 3 rfl) ?_
  refine lv_aload_n hx hb dL_law_1085 rfl (lv_at hl 1 rfl) ?_
  refine lv_iload hx hb dL_law_1086 (lv_at hl 5 rfl) ?_
  refine lv_iconst (v := 1) hx hb dL_law_1088 (by decide) ?_
  refine lv_iadd hx hb dL_law_1089 ?_
  obtain ⟨hgi, h⟩ := hg_some h
  refine va_sld hx hb hX hbl hbA hS (gin_vp hgi) dL_law_1090 ?_
  obtain ⟨q106, hcq106, h⟩ := hb_some h
  refine gdV_i (As := [.int (sx (p4 + (1 : Int32)).toNatClampNeg)]) (rest := []) (BH := (fun (u : Nat → Nat → Int32) H => va_P (dC, dI) vwCl (hW 138 ca b u O J101) H)) X hP hS (c_X8_lapsOf hN hA I O J101 (sx (p4 + (1 : Int32)).toNatClampNeg) q106 hcq106) (cwV 1 X.ts gL_law_X8_lapsOf rfl rfl rfl (by decide +kernel) ⟨Nat.le_of_ble_eq_true rfl, Nat.le_of_ble_eq_true rfl⟩) (gr8 X hP kc_129 (sk_in hN kc_129 (by decide))) rfl hl.1 rfl (Nat.le_of_ble_eq_true rfl) dL_law_1091 ⟨by omega, by omega⟩ (fun r105 I104 H locs hw hP hS => ?_)
  subst hw
  refine lv_istore (lv' := [(6, .int r105), (5, .int r102), (0, .ref sb), (1, .ref (b 0)), (2, .ref (b 129)), (3, .ref (b 137)), (4, .int p4)]) hx hb dL_law_1094 hl (by decide) rfl (fun ls hl => ?_)
  refine lv_aload_n hx hb dL_law_1096 rfl (lv_at hl 4 rfl) ?_
  obtain ⟨q108, hcq108, h⟩ := hb_some h
  refine gdV_i (As := []) (rest := []) (BH := (fun (u : Unit) H => va_P (dC, dI) vwCl (hW 138 ca b I104 O J101) H)) X hP hS (c_X8_thrown hN hA I104 O J101 q108 hcq108) (cwV 0 X.ts gL_law_X8_thrown rfl rfl rfl (by decide +kernel) ⟨Nat.le_of_ble_eq_true rfl, Nat.le_of_ble_eq_true rfl⟩) (gr8 X hP kc_129 (sk_in hN kc_129 (by decide))) rfl hl.1 rfl (Nat.le_of_ble_eq_true rfl) dL_law_1097 ⟨by omega, by omega⟩ (fun r107 u9 H locs hw hP hS => ?_)
  have hw := hw.symm
  subst hw
  refine lv_iload hx hb dL_law_1100 (lv_at hl 1 rfl) ?_
  refine lv_icmp_eq (tgt := 1107) hx hb dL_law_1102 (by decide) (fun c111 => ?_) (fun c111 => ?_)
  · have h := gif_t c111 h
    refine lv_iload hx hb dL_law_1107 (lv_at hl 1 rfl) ?_
    obtain ⟨_, hv, h⟩ := hb_some h
    have K1124 : ∀ (H : Heap) (locs : List Loc) (ls : Array Slot), va_P (dC, dI) vwCl (hW 138 ca b I104 O J101) H → va_S A s.heap H locs → lv_has ls 9 [(0, .ref sb), (1, .ref (b 0)), (2, .ref (b 129)), (3, .ref (b 137)), (4, .int p4)] → W p l e room_1 s m #[Value.ref sb] below meth c H locs (cn + 1) (sn + 6) Q (F0 m 1124 ls []) := by
      intro H locs ls hP hS hl
      refine lv_goto (tgt := 2558) hx hb dL_law_1124 (by decide) ?_
      refine W.widen (k := cn + 8) (n := sn + 100) (by omega) (by omega) ?_
      cases h
      exact K _ _ _ hP hS (lv_sub hl [0, 1, 2, 3, 4] rfl)
    have h := hv
    refine lv_if_ne (tgt := 1124) hx hb dL_law_1109 (by decide) (fun c110 => ?_) (fun c110 => ?_)
    · have h := gif_f c110 h
      refine W.widen (k := (cn + 1)) (n := (sn + 6)) (by omega) (by omega) ?_
      cases h
      exact K1124 _ _ _ hP hS (lv_sub hl [2, 3, 4, 5, 6] rfl)
    · have h := gif_t c110 h
      refine lv_aload_n hx hb dL_law_1112 rfl (lv_at hl 5 rfl) ?_
      refine lv_iconst (v := 0) hx hb dL_law_1113 (by decide) ?_
      refine ga23 X hP kc_137 (sk_in hN kc_137 (by decide)) (L := 1) (by decide) (by decide) dL_law_1114 ?_
      refine lv_iload hx hb dL_law_1115 (lv_at hl 0 rfl) ?_
      refine lv_i2l (v := (r105).toInt64) hx hb dL_law_1117 rfl ?_
      refine W.lcmp hx hb dL_law_1118 ?_
      refine lv_if_eq (tgt := 1124) hx hb dL_law_1119 (by decide) (fun c109 => ?_) (fun c109 => ?_)
      · have h := gif_t c109 h
        refine W.widen (k := (cn + 1)) (n := (sn + 6)) (by omega) (by omega) ?_
        cases h
        exact K1124 _ _ _ hP hS (lv_sub hl [2, 3, 4, 5, 6] rfl)
      · have h := gif_f c109 h
        refine lv_iconst (v := 0) hx hb dL_law_1122 (by decide) ?_
        cases h
  · have h := gif_f c111 h
    refine lv_iconst (v := 0) hx hb dL_law_1105 (by decide) ?_
    cases h
def f_L_case19 (SL : Nat) (sx : Nat → Int32) (p4 : Int32) (I : Nat → Nat → Int32) (O : Nat → Nat → Option Nat) (J : Nat → Nat → Int64) : Option ((Nat → Nat → Int32) × (Nat → Nat → Option Nat) × (Nat → Nat → Int64)) :=
  hg (gin (p4 + (1 : Int32)) SL) <|
  (f_L_speedOf (sx (p4 + (1 : Int32)).toNatClampNeg) I J).bind fun (r102, J101) =>
  hg (gin (p4 + (1 : Int32)) SL) <|
  (f_X8_speedOf (sx (p4 + (1 : Int32)).toNatClampNeg) I).bind fun (r105, I104) =>
  (f_X8_thrown I104).bind fun r107 =>
  if r107 = r102 then
    (show Option (Unit) from
      if r102 = 0 then
        if (lg_cmp (J101 137 (0 : Int32).toNatClampNeg) ((r105).toInt64)) = 0 then
          some ()
        else
          none
      else
        some ()).bind fun _ =>
    some (I104, O, J101)
  else
    none
set_option maxHeartbeats 8000000 in
set_option maxRecDepth 100000 in
theorem lc19 {p : Program} {l : Launch} {e : Env} {s : State} {m : MethodId} {below : List Frame} {meth : Method} {c : Code} {Q : State → Prop} {sb SL : Nat} {sx : Nat → Int32} {dC : Nat → ClassId} {dI : Nat → Nat → Nat} {ca : Nat → ClassId} {b : Nat → Nat} {A : Nat → Prop} (hlf : l.stackTraces = false) (hml : c.maxLocals = 9) (X : gCx p s m #[Value.ref sb] c RL cL_law wsL_law 9 dC dI ca b A 138) (hX : va_X sb SL sx s s.heap) (hbl : sb < s.heap.size) (hbA : ¬ A sb) (p4 : Int32) (I : Nat → Nat → Int32) (O : Nat → Nat → Option Nat) (J : Nat → Nat → Int64) (I9 : Nat → Nat → Int32) (O9 : Nat → Nat → Option Nat) (J9 : Nat → Nat → Int64) (h : f_L_case19 SL sx p4 I O J = some (I9, O9, J9)) {cn sn : Nat} (hc : cn + 8 ≤ 601024) (hs : sn + 100 ≤ 7293034) (H : Heap) (locs : List Loc) (ls : Array Slot) (hP : va_P (dC, dI) vwCl (hW 138 ca b I O J) H) (hS : va_S A s.heap H locs) (hl : lv_has ls 9 [(0, .ref sb), (1, .ref (b 0)), (2, .ref (b 129)), (3, .ref (b 137)), (4, .int p4)]) (K : ∀ (H : Heap) (locs : List Loc) (ls : Array Slot), va_P (dC, dI) vwCl (hW 138 ca b I9 O9 J9) H → va_S A s.heap H locs → lv_has ls 9 [(0, .ref sb), (1, .ref (b 0)), (2, .ref (b 129)), (3, .ref (b 137)), (4, .int p4)] → W p l e room_1 s m #[Value.ref sb] below meth c H locs (cn + 8) (sn + 100) Q (F0 m 2558 ls [])) : W p l e room_1 s m #[Value.ref sb] below meth c H locs cn sn Q (F0 m 1127 ls []) := by
  have hx := X.x
  have hb := X.cb
  have hA := X.ad
  have hN : 138 ≤ 138 := Nat.le_refl 138
  have hRc : room_1.cells = 601024 := rfl
  have hRs : room_1.slots = 7293034 := rfl
  unfold f_L_case19 at h
  refine lv_aload_n hx hb dL_law_1127 rfl (lv_at hl 1 rfl) ?_
  refine lv_aload_n hx hb dL_law_1128 rfl (lv_at hl 0 rfl) ?_
  refine lv_iload hx hb dL_law_1129 (lv_at hl 4 rfl) ?_
  refine lv_iconst (v := 1) hx hb dL_law_1131 (by decide) ?_
  refine lv_iadd hx hb dL_law_1132 ?_
  obtain ⟨hgi, h⟩ := hg_some h
  refine va_sld hx hb hX hbl hbA hS (gin_vp hgi) dL_law_1133 ?_
  refine lv_aload_n hx hb dL_law_1134 rfl (lv_at hl 3 rfl) ?_
  obtain ⟨q103, hcq103, h⟩ := hb_some h
  refine gcSW_i (As := [.ref (b 0), .int (sx (p4 + (1 : Int32)).toNatClampNeg), .ref (b 137)]) (rest := []) (BH := (fun (u : Nat → Nat → Int64) H => va_P (dC, dI) vwCl (hW 138 ca b I O u) H)) X hP hS (c_L_speedOf hlf hN hA I O J (sx (p4 + (1 : Int32)).toNatClampNeg) q103 hcq103) (vx_cwSW 3 X.ts gL_law_L_speedOf rfl rfl rfl (by decide +kernel) ⟨Nat.le_of_ble_eq_true rfl, Nat.le_of_ble_eq_true rfl⟩) rfl hl.1 rfl (Nat.le_of_ble_eq_true rfl) dL_law_1135 ⟨by omega, by omega⟩ (fun r102 J101 H locs hw hP hS => ?_)
  subst hw
  refine lv_istore (lv' := [(5, .int r102), (0, .ref sb), (1, .ref (b 0)), (2, .ref (b 129)), (3, .ref (b 137)), (4, .int p4)]) hx hb dL_law_1138 hl (by decide) rfl (fun ls hl => ?_)
  refine lv_aload_n hx hb dL_law_1140 rfl (lv_at hl 3 rfl) ?_
  refine lv_aload_n hx hb dL_law_1141 rfl (lv_at hl 1 rfl) ?_
  refine lv_iload hx hb dL_law_1142 (lv_at hl 5 rfl) ?_
  refine lv_iconst (v := 1) hx hb dL_law_1144 (by decide) ?_
  refine lv_iadd hx hb dL_law_1145 ?_
  obtain ⟨hgi, h⟩ := hg_some h
  refine va_sld hx hb hX hbl hbA hS (gin_vp hgi) dL_law_1146 ?_
  obtain ⟨q106, hcq106, h⟩ := hb_some h
  refine gdV_i (As := [.int (sx (p4 + (1 : Int32)).toNatClampNeg)]) (rest := []) (BH := (fun (u : Nat → Nat → Int32) H => va_P (dC, dI) vwCl (hW 138 ca b u O J101) H)) X hP hS (c_X8_speedOf hN hA I O J101 (sx (p4 + (1 : Int32)).toNatClampNeg) q106 hcq106) (cwV 1 X.ts gL_law_X8_speedOf rfl rfl rfl (by decide +kernel) ⟨Nat.le_of_ble_eq_true rfl, Nat.le_of_ble_eq_true rfl⟩) (gr8 X hP kc_129 (sk_in hN kc_129 (by decide))) rfl hl.1 rfl (Nat.le_of_ble_eq_true rfl) dL_law_1147 ⟨by omega, by omega⟩ (fun r105 I104 H locs hw hP hS => ?_)
  subst hw
  refine lv_istore (lv' := [(6, .int r105), (5, .int r102), (0, .ref sb), (1, .ref (b 0)), (2, .ref (b 129)), (3, .ref (b 137)), (4, .int p4)]) hx hb dL_law_1150 hl (by decide) rfl (fun ls hl => ?_)
  refine lv_aload_n hx hb dL_law_1152 rfl (lv_at hl 4 rfl) ?_
  obtain ⟨q108, hcq108, h⟩ := hb_some h
  refine gdV_i (As := []) (rest := []) (BH := (fun (u : Unit) H => va_P (dC, dI) vwCl (hW 138 ca b I104 O J101) H)) X hP hS (c_X8_thrown hN hA I104 O J101 q108 hcq108) (cwV 0 X.ts gL_law_X8_thrown rfl rfl rfl (by decide +kernel) ⟨Nat.le_of_ble_eq_true rfl, Nat.le_of_ble_eq_true rfl⟩) (gr8 X hP kc_129 (sk_in hN kc_129 (by decide))) rfl hl.1 rfl (Nat.le_of_ble_eq_true rfl) dL_law_1153 ⟨by omega, by omega⟩ (fun r107 u9 H locs hw hP hS => ?_)
  have hw := hw.symm
  subst hw
  refine lv_iload hx hb dL_law_1156 (lv_at hl 1 rfl) ?_
  refine lv_icmp_eq (tgt := 1163) hx hb dL_law_1158 (by decide) (fun c111 => ?_) (fun c111 => ?_)
  · have h := gif_t c111 h
    refine lv_iload hx hb dL_law_1163 (lv_at hl 1 rfl) ?_
    obtain ⟨_, hv, h⟩ := hb_some h
    have K1180 : ∀ (H : Heap) (locs : List Loc) (ls : Array Slot), va_P (dC, dI) vwCl (hW 138 ca b I104 O J101) H → va_S A s.heap H locs → lv_has ls 9 [(0, .ref sb), (1, .ref (b 0)), (2, .ref (b 129)), (3, .ref (b 137)), (4, .int p4)] → W p l e room_1 s m #[Value.ref sb] below meth c H locs (cn + 1) (sn + 6) Q (F0 m 1180 ls []) := by
      intro H locs ls hP hS hl
      refine lv_goto (tgt := 2558) hx hb dL_law_1180 (by decide) ?_
      refine W.widen (k := cn + 8) (n := sn + 100) (by omega) (by omega) ?_
      cases h
      exact K _ _ _ hP hS (lv_sub hl [0, 1, 2, 3, 4] rfl)
    have h := hv
    refine lv_if_ne (tgt := 1180) hx hb dL_law_1165 (by decide) (fun c110 => ?_) (fun c110 => ?_)
    · have h := gif_f c110 h
      refine W.widen (k := (cn + 1)) (n := (sn + 6)) (by omega) (by omega) ?_
      cases h
      exact K1180 _ _ _ hP hS (lv_sub hl [2, 3, 4, 5, 6] rfl)
    · have h := gif_t c110 h
      refine lv_aload_n hx hb dL_law_1168 rfl (lv_at hl 5 rfl) ?_
      refine lv_iconst (v := 0) hx hb dL_law_1169 (by decide) ?_
      refine ga23 X hP kc_137 (sk_in hN kc_137 (by decide)) (L := 1) (by decide) (by decide) dL_law_1170 ?_
      refine lv_iload hx hb dL_law_1171 (lv_at hl 0 rfl) ?_
      refine lv_i2l (v := (r105).toInt64) hx hb dL_law_1173 rfl ?_
      refine W.lcmp hx hb dL_law_1174 ?_
      refine lv_if_eq (tgt := 1180) hx hb dL_law_1175 (by decide) (fun c109 => ?_) (fun c109 => ?_)
      · have h := gif_t c109 h
        refine W.widen (k := (cn + 1)) (n := (sn + 6)) (by omega) (by omega) ?_
        cases h
        exact K1180 _ _ _ hP hS (lv_sub hl [2, 3, 4, 5, 6] rfl)
      · have h := gif_f c109 h
        refine lv_iconst (v := 0) hx hb dL_law_1178 (by decide) ?_
        cases h
  · have h := gif_f c111 h
    refine lv_iconst (v := 0) hx hb dL_law_1161 (by decide) ?_
    cases h
def f_L_case20 (SL : Nat) (sx : Nat → Int32) (p4 : Int32) (I : Nat → Nat → Int32) (O : Nat → Nat → Option Nat) (J : Nat → Nat → Int64) : Option ((Nat → Nat → Int32) × (Nat → Nat → Option Nat) × (Nat → Nat → Int64)) :=
  hg (gin (p4 + (1 : Int32)) SL) <|
  (f_L_strengthOf (sx (p4 + (1 : Int32)).toNatClampNeg) I J).bind fun (r102, J101) =>
  hg (gin (p4 + (1 : Int32)) SL) <|
  (f_X8_strengthOf (sx (p4 + (1 : Int32)).toNatClampNeg) I).bind fun (r105, I104) =>
  (f_X8_thrown I104).bind fun r107 =>
  if r107 = r102 then
    (show Option (Unit) from
      if r102 = 0 then
        if (lg_cmp (J101 137 (0 : Int32).toNatClampNeg) ((r105).toInt64)) = 0 then
          some ()
        else
          none
      else
        some ()).bind fun _ =>
    some (I104, O, J101)
  else
    none
set_option maxHeartbeats 8000000 in
set_option maxRecDepth 100000 in
theorem lc20 {p : Program} {l : Launch} {e : Env} {s : State} {m : MethodId} {below : List Frame} {meth : Method} {c : Code} {Q : State → Prop} {sb SL : Nat} {sx : Nat → Int32} {dC : Nat → ClassId} {dI : Nat → Nat → Nat} {ca : Nat → ClassId} {b : Nat → Nat} {A : Nat → Prop} (hlf : l.stackTraces = false) (hml : c.maxLocals = 9) (X : gCx p s m #[Value.ref sb] c RL cL_law wsL_law 9 dC dI ca b A 138) (hX : va_X sb SL sx s s.heap) (hbl : sb < s.heap.size) (hbA : ¬ A sb) (p4 : Int32) (I : Nat → Nat → Int32) (O : Nat → Nat → Option Nat) (J : Nat → Nat → Int64) (I9 : Nat → Nat → Int32) (O9 : Nat → Nat → Option Nat) (J9 : Nat → Nat → Int64) (h : f_L_case20 SL sx p4 I O J = some (I9, O9, J9)) {cn sn : Nat} (hc : cn + 8 ≤ 601024) (hs : sn + 100 ≤ 7293034) (H : Heap) (locs : List Loc) (ls : Array Slot) (hP : va_P (dC, dI) vwCl (hW 138 ca b I O J) H) (hS : va_S A s.heap H locs) (hl : lv_has ls 9 [(0, .ref sb), (1, .ref (b 0)), (2, .ref (b 129)), (3, .ref (b 137)), (4, .int p4)]) (K : ∀ (H : Heap) (locs : List Loc) (ls : Array Slot), va_P (dC, dI) vwCl (hW 138 ca b I9 O9 J9) H → va_S A s.heap H locs → lv_has ls 9 [(0, .ref sb), (1, .ref (b 0)), (2, .ref (b 129)), (3, .ref (b 137)), (4, .int p4)] → W p l e room_1 s m #[Value.ref sb] below meth c H locs (cn + 8) (sn + 100) Q (F0 m 2558 ls [])) : W p l e room_1 s m #[Value.ref sb] below meth c H locs cn sn Q (F0 m 1183 ls []) := by
  have hx := X.x
  have hb := X.cb
  have hA := X.ad
  have hN : 138 ≤ 138 := Nat.le_refl 138
  have hRc : room_1.cells = 601024 := rfl
  have hRs : room_1.slots = 7293034 := rfl
  unfold f_L_case20 at h
  refine lv_aload_n hx hb dL_law_1183 rfl (lv_at hl 1 rfl) ?_
  refine lv_aload_n hx hb dL_law_1184 rfl (lv_at hl 0 rfl) ?_
  refine lv_iload hx hb dL_law_1185 (lv_at hl 4 rfl) ?_
  refine lv_iconst (v := 1) hx hb dL_law_1187 (by decide) ?_
  refine lv_iadd hx hb dL_law_1188 ?_
  obtain ⟨hgi, h⟩ := hg_some h
  refine va_sld hx hb hX hbl hbA hS (gin_vp hgi) dL_law_1189 ?_
  refine lv_aload_n hx hb dL_law_1190 rfl (lv_at hl 3 rfl) ?_
  obtain ⟨q103, hcq103, h⟩ := hb_some h
  refine gcSW_i (As := [.ref (b 0), .int (sx (p4 + (1 : Int32)).toNatClampNeg), .ref (b 137)]) (rest := []) (BH := (fun (u : Nat → Nat → Int64) H => va_P (dC, dI) vwCl (hW 138 ca b I O u) H)) X hP hS (c_L_strengthOf hlf hN hA I O J (sx (p4 + (1 : Int32)).toNatClampNeg) q103 hcq103) (vx_cwSW 3 X.ts gL_law_L_strengthOf rfl rfl rfl (by decide +kernel) ⟨Nat.le_of_ble_eq_true rfl, Nat.le_of_ble_eq_true rfl⟩) rfl hl.1 rfl (Nat.le_of_ble_eq_true rfl) dL_law_1191 ⟨by omega, by omega⟩ (fun r102 J101 H locs hw hP hS => ?_)
  subst hw
  refine lv_istore (lv' := [(5, .int r102), (0, .ref sb), (1, .ref (b 0)), (2, .ref (b 129)), (3, .ref (b 137)), (4, .int p4)]) hx hb dL_law_1194 hl (by decide) rfl (fun ls hl => ?_)
  refine lv_aload_n hx hb dL_law_1196 rfl (lv_at hl 3 rfl) ?_
  refine lv_aload_n hx hb dL_law_1197 rfl (lv_at hl 1 rfl) ?_
  refine lv_iload hx hb dL_law_1198 (lv_at hl 5 rfl) ?_
  refine lv_iconst (v := 1) hx hb dL_law_1200 (by decide) ?_
  refine lv_iadd hx hb dL_law_1201 ?_
  obtain ⟨hgi, h⟩ := hg_some h
  refine va_sld hx hb hX hbl hbA hS (gin_vp hgi) dL_law_1202 ?_
  obtain ⟨q106, hcq106, h⟩ := hb_some h
  refine gdV_i (As := [.int (sx (p4 + (1 : Int32)).toNatClampNeg)]) (rest := []) (BH := (fun (u : Nat → Nat → Int32) H => va_P (dC, dI) vwCl (hW 138 ca b u O J101) H)) X hP hS (c_X8_strengthOf hN hA I O J101 (sx (p4 + (1 : Int32)).toNatClampNeg) q106 hcq106) (cwV 1 X.ts gL_law_X8_strengthOf rfl rfl rfl (by decide +kernel) ⟨Nat.le_of_ble_eq_true rfl, Nat.le_of_ble_eq_true rfl⟩) (gr8 X hP kc_129 (sk_in hN kc_129 (by decide))) rfl hl.1 rfl (Nat.le_of_ble_eq_true rfl) dL_law_1203 ⟨by omega, by omega⟩ (fun r105 I104 H locs hw hP hS => ?_)
  subst hw
  refine lv_istore (lv' := [(6, .int r105), (5, .int r102), (0, .ref sb), (1, .ref (b 0)), (2, .ref (b 129)), (3, .ref (b 137)), (4, .int p4)]) hx hb dL_law_1206 hl (by decide) rfl (fun ls hl => ?_)
  refine lv_aload_n hx hb dL_law_1208 rfl (lv_at hl 4 rfl) ?_
  obtain ⟨q108, hcq108, h⟩ := hb_some h
  refine gdV_i (As := []) (rest := []) (BH := (fun (u : Unit) H => va_P (dC, dI) vwCl (hW 138 ca b I104 O J101) H)) X hP hS (c_X8_thrown hN hA I104 O J101 q108 hcq108) (cwV 0 X.ts gL_law_X8_thrown rfl rfl rfl (by decide +kernel) ⟨Nat.le_of_ble_eq_true rfl, Nat.le_of_ble_eq_true rfl⟩) (gr8 X hP kc_129 (sk_in hN kc_129 (by decide))) rfl hl.1 rfl (Nat.le_of_ble_eq_true rfl) dL_law_1209 ⟨by omega, by omega⟩ (fun r107 u9 H locs hw hP hS => ?_)
  have hw := hw.symm
  subst hw
  refine lv_iload hx hb dL_law_1212 (lv_at hl 1 rfl) ?_
  refine lv_icmp_eq (tgt := 1219) hx hb dL_law_1214 (by decide) (fun c111 => ?_) (fun c111 => ?_)
  · have h := gif_t c111 h
    refine lv_iload hx hb dL_law_1219 (lv_at hl 1 rfl) ?_
    obtain ⟨_, hv, h⟩ := hb_some h
    have K1236 : ∀ (H : Heap) (locs : List Loc) (ls : Array Slot), va_P (dC, dI) vwCl (hW 138 ca b I104 O J101) H → va_S A s.heap H locs → lv_has ls 9 [(0, .ref sb), (1, .ref (b 0)), (2, .ref (b 129)), (3, .ref (b 137)), (4, .int p4)] → W p l e room_1 s m #[Value.ref sb] below meth c H locs (cn + 1) (sn + 6) Q (F0 m 1236 ls []) := by
      intro H locs ls hP hS hl
      refine lv_goto (tgt := 2558) hx hb dL_law_1236 (by decide) ?_
      refine W.widen (k := cn + 8) (n := sn + 100) (by omega) (by omega) ?_
      cases h
      exact K _ _ _ hP hS (lv_sub hl [0, 1, 2, 3, 4] rfl)
    have h := hv
    refine lv_if_ne (tgt := 1236) hx hb dL_law_1221 (by decide) (fun c110 => ?_) (fun c110 => ?_)
    · have h := gif_f c110 h
      refine W.widen (k := (cn + 1)) (n := (sn + 6)) (by omega) (by omega) ?_
      cases h
      exact K1236 _ _ _ hP hS (lv_sub hl [2, 3, 4, 5, 6] rfl)
    · have h := gif_t c110 h
      refine lv_aload_n hx hb dL_law_1224 rfl (lv_at hl 5 rfl) ?_
      refine lv_iconst (v := 0) hx hb dL_law_1225 (by decide) ?_
      refine ga23 X hP kc_137 (sk_in hN kc_137 (by decide)) (L := 1) (by decide) (by decide) dL_law_1226 ?_
      refine lv_iload hx hb dL_law_1227 (lv_at hl 0 rfl) ?_
      refine lv_i2l (v := (r105).toInt64) hx hb dL_law_1229 rfl ?_
      refine W.lcmp hx hb dL_law_1230 ?_
      refine lv_if_eq (tgt := 1236) hx hb dL_law_1231 (by decide) (fun c109 => ?_) (fun c109 => ?_)
      · have h := gif_t c109 h
        refine W.widen (k := (cn + 1)) (n := (sn + 6)) (by omega) (by omega) ?_
        cases h
        exact K1236 _ _ _ hP hS (lv_sub hl [2, 3, 4, 5, 6] rfl)
      · have h := gif_f c109 h
        refine lv_iconst (v := 0) hx hb dL_law_1234 (by decide) ?_
        cases h
  · have h := gif_f c111 h
    refine lv_iconst (v := 0) hx hb dL_law_1217 (by decide) ?_
    cases h
def f_L_case21 (SL : Nat) (sx : Nat → Int32) (p4 : Int32) (I : Nat → Nat → Int32) (O : Nat → Nat → Option Nat) (J : Nat → Nat → Int64) : Option ((Nat → Nat → Int32) × (Nat → Nat → Option Nat) × (Nat → Nat → Int64)) :=
  hg (gin (p4 + (1 : Int32)) SL) <|
  (f_L_wearOf (sx (p4 + (1 : Int32)).toNatClampNeg) I J).bind fun (r102, J101) =>
  hg (gin (p4 + (1 : Int32)) SL) <|
  (f_X8_wearOf (sx (p4 + (1 : Int32)).toNatClampNeg) I).bind fun (r105, I104) =>
  (f_X8_thrown I104).bind fun r107 =>
  if r107 = r102 then
    (show Option (Unit) from
      if r102 = 0 then
        if (lg_cmp (J101 137 (0 : Int32).toNatClampNeg) ((r105).toInt64)) = 0 then
          some ()
        else
          none
      else
        some ()).bind fun _ =>
    some (I104, O, J101)
  else
    none
set_option maxHeartbeats 8000000 in
set_option maxRecDepth 100000 in
theorem lc21 {p : Program} {l : Launch} {e : Env} {s : State} {m : MethodId} {below : List Frame} {meth : Method} {c : Code} {Q : State → Prop} {sb SL : Nat} {sx : Nat → Int32} {dC : Nat → ClassId} {dI : Nat → Nat → Nat} {ca : Nat → ClassId} {b : Nat → Nat} {A : Nat → Prop} (hlf : l.stackTraces = false) (hml : c.maxLocals = 9) (X : gCx p s m #[Value.ref sb] c RL cL_law wsL_law 9 dC dI ca b A 138) (hX : va_X sb SL sx s s.heap) (hbl : sb < s.heap.size) (hbA : ¬ A sb) (p4 : Int32) (I : Nat → Nat → Int32) (O : Nat → Nat → Option Nat) (J : Nat → Nat → Int64) (I9 : Nat → Nat → Int32) (O9 : Nat → Nat → Option Nat) (J9 : Nat → Nat → Int64) (h : f_L_case21 SL sx p4 I O J = some (I9, O9, J9)) {cn sn : Nat} (hc : cn + 8 ≤ 601024) (hs : sn + 100 ≤ 7293034) (H : Heap) (locs : List Loc) (ls : Array Slot) (hP : va_P (dC, dI) vwCl (hW 138 ca b I O J) H) (hS : va_S A s.heap H locs) (hl : lv_has ls 9 [(0, .ref sb), (1, .ref (b 0)), (2, .ref (b 129)), (3, .ref (b 137)), (4, .int p4)]) (K : ∀ (H : Heap) (locs : List Loc) (ls : Array Slot), va_P (dC, dI) vwCl (hW 138 ca b I9 O9 J9) H → va_S A s.heap H locs → lv_has ls 9 [(0, .ref sb), (1, .ref (b 0)), (2, .ref (b 129)), (3, .ref (b 137)), (4, .int p4)] → W p l e room_1 s m #[Value.ref sb] below meth c H locs (cn + 8) (sn + 100) Q (F0 m 2558 ls [])) : W p l e room_1 s m #[Value.ref sb] below meth c H locs cn sn Q (F0 m 1239 ls []) := by
  have hx := X.x
  have hb := X.cb
  have hA := X.ad
  have hN : 138 ≤ 138 := Nat.le_refl 138
  have hRc : room_1.cells = 601024 := rfl
  have hRs : room_1.slots = 7293034 := rfl
  unfold f_L_case21 at h
  refine lv_aload_n hx hb dL_law_1239 rfl (lv_at hl 1 rfl) ?_
  refine lv_aload_n hx hb dL_law_1240 rfl (lv_at hl 0 rfl) ?_
  refine lv_iload hx hb dL_law_1241 (lv_at hl 4 rfl) ?_
  refine lv_iconst (v := 1) hx hb dL_law_1243 (by decide) ?_
  refine lv_iadd hx hb dL_law_1244 ?_
  obtain ⟨hgi, h⟩ := hg_some h
  refine va_sld hx hb hX hbl hbA hS (gin_vp hgi) dL_law_1245 ?_
  refine lv_aload_n hx hb dL_law_1246 rfl (lv_at hl 3 rfl) ?_
  obtain ⟨q103, hcq103, h⟩ := hb_some h
  refine gcSW_i (As := [.ref (b 0), .int (sx (p4 + (1 : Int32)).toNatClampNeg), .ref (b 137)]) (rest := []) (BH := (fun (u : Nat → Nat → Int64) H => va_P (dC, dI) vwCl (hW 138 ca b I O u) H)) X hP hS (c_L_wearOf hlf hN hA I O J (sx (p4 + (1 : Int32)).toNatClampNeg) q103 hcq103) (vx_cwSW 3 X.ts gL_law_L_wearOf rfl rfl rfl (by decide +kernel) ⟨Nat.le_of_ble_eq_true rfl, Nat.le_of_ble_eq_true rfl⟩) rfl hl.1 rfl (Nat.le_of_ble_eq_true rfl) dL_law_1247 ⟨by omega, by omega⟩ (fun r102 J101 H locs hw hP hS => ?_)
  subst hw
  refine lv_istore (lv' := [(5, .int r102), (0, .ref sb), (1, .ref (b 0)), (2, .ref (b 129)), (3, .ref (b 137)), (4, .int p4)]) hx hb dL_law_1250 hl (by decide) rfl (fun ls hl => ?_)
  refine lv_aload_n hx hb dL_law_1252 rfl (lv_at hl 3 rfl) ?_
  refine lv_aload_n hx hb dL_law_1253 rfl (lv_at hl 1 rfl) ?_
  refine lv_iload hx hb dL_law_1254 (lv_at hl 5 rfl) ?_
  refine lv_iconst (v := 1) hx hb dL_law_1256 (by decide) ?_
  refine lv_iadd hx hb dL_law_1257 ?_
  obtain ⟨hgi, h⟩ := hg_some h
  refine va_sld hx hb hX hbl hbA hS (gin_vp hgi) dL_law_1258 ?_
  obtain ⟨q106, hcq106, h⟩ := hb_some h
  refine gdV_i (As := [.int (sx (p4 + (1 : Int32)).toNatClampNeg)]) (rest := []) (BH := (fun (u : Nat → Nat → Int32) H => va_P (dC, dI) vwCl (hW 138 ca b u O J101) H)) X hP hS (c_X8_wearOf hN hA I O J101 (sx (p4 + (1 : Int32)).toNatClampNeg) q106 hcq106) (cwV 1 X.ts gL_law_X8_wearOf rfl rfl rfl (by decide +kernel) ⟨Nat.le_of_ble_eq_true rfl, Nat.le_of_ble_eq_true rfl⟩) (gr8 X hP kc_129 (sk_in hN kc_129 (by decide))) rfl hl.1 rfl (Nat.le_of_ble_eq_true rfl) dL_law_1259 ⟨by omega, by omega⟩ (fun r105 I104 H locs hw hP hS => ?_)
  subst hw
  refine lv_istore (lv' := [(6, .int r105), (5, .int r102), (0, .ref sb), (1, .ref (b 0)), (2, .ref (b 129)), (3, .ref (b 137)), (4, .int p4)]) hx hb dL_law_1262 hl (by decide) rfl (fun ls hl => ?_)
  refine lv_aload_n hx hb dL_law_1264 rfl (lv_at hl 4 rfl) ?_
  obtain ⟨q108, hcq108, h⟩ := hb_some h
  refine gdV_i (As := []) (rest := []) (BH := (fun (u : Unit) H => va_P (dC, dI) vwCl (hW 138 ca b I104 O J101) H)) X hP hS (c_X8_thrown hN hA I104 O J101 q108 hcq108) (cwV 0 X.ts gL_law_X8_thrown rfl rfl rfl (by decide +kernel) ⟨Nat.le_of_ble_eq_true rfl, Nat.le_of_ble_eq_true rfl⟩) (gr8 X hP kc_129 (sk_in hN kc_129 (by decide))) rfl hl.1 rfl (Nat.le_of_ble_eq_true rfl) dL_law_1265 ⟨by omega, by omega⟩ (fun r107 u9 H locs hw hP hS => ?_)
  have hw := hw.symm
  subst hw
  refine lv_iload hx hb dL_law_1268 (lv_at hl 1 rfl) ?_
  refine lv_icmp_eq (tgt := 1275) hx hb dL_law_1270 (by decide) (fun c111 => ?_) (fun c111 => ?_)
  · have h := gif_t c111 h
    refine lv_iload hx hb dL_law_1275 (lv_at hl 1 rfl) ?_
    obtain ⟨_, hv, h⟩ := hb_some h
    have K1292 : ∀ (H : Heap) (locs : List Loc) (ls : Array Slot), va_P (dC, dI) vwCl (hW 138 ca b I104 O J101) H → va_S A s.heap H locs → lv_has ls 9 [(0, .ref sb), (1, .ref (b 0)), (2, .ref (b 129)), (3, .ref (b 137)), (4, .int p4)] → W p l e room_1 s m #[Value.ref sb] below meth c H locs (cn + 1) (sn + 6) Q (F0 m 1292 ls []) := by
      intro H locs ls hP hS hl
      refine lv_goto (tgt := 2558) hx hb dL_law_1292 (by decide) ?_
      refine W.widen (k := cn + 8) (n := sn + 100) (by omega) (by omega) ?_
      cases h
      exact K _ _ _ hP hS (lv_sub hl [0, 1, 2, 3, 4] rfl)
    have h := hv
    refine lv_if_ne (tgt := 1292) hx hb dL_law_1277 (by decide) (fun c110 => ?_) (fun c110 => ?_)
    · have h := gif_f c110 h
      refine W.widen (k := (cn + 1)) (n := (sn + 6)) (by omega) (by omega) ?_
      cases h
      exact K1292 _ _ _ hP hS (lv_sub hl [2, 3, 4, 5, 6] rfl)
    · have h := gif_t c110 h
      refine lv_aload_n hx hb dL_law_1280 rfl (lv_at hl 5 rfl) ?_
      refine lv_iconst (v := 0) hx hb dL_law_1281 (by decide) ?_
      refine ga23 X hP kc_137 (sk_in hN kc_137 (by decide)) (L := 1) (by decide) (by decide) dL_law_1282 ?_
      refine lv_iload hx hb dL_law_1283 (lv_at hl 0 rfl) ?_
      refine lv_i2l (v := (r105).toInt64) hx hb dL_law_1285 rfl ?_
      refine W.lcmp hx hb dL_law_1286 ?_
      refine lv_if_eq (tgt := 1292) hx hb dL_law_1287 (by decide) (fun c109 => ?_) (fun c109 => ?_)
      · have h := gif_t c109 h
        refine W.widen (k := (cn + 1)) (n := (sn + 6)) (by omega) (by omega) ?_
        cases h
        exact K1292 _ _ _ hP hS (lv_sub hl [2, 3, 4, 5, 6] rfl)
      · have h := gif_f c109 h
        refine lv_iconst (v := 0) hx hb dL_law_1290 (by decide) ?_
        cases h
  · have h := gif_f c111 h
    refine lv_iconst (v := 0) hx hb dL_law_1273 (by decide) ?_
    cases h
def f_L_case22 (SL : Nat) (sx : Nat → Int32) (p4 : Int32) (I : Nat → Nat → Int32) (O : Nat → Nat → Option Nat) (J : Nat → Nat → Int64) : Option ((Nat → Nat → Int32) × (Nat → Nat → Option Nat) × (Nat → Nat → Int64)) :=
  hg (gin (p4 + (1 : Int32)) SL) <|
  (f_L_laneOf (sx (p4 + (1 : Int32)).toNatClampNeg) I J).bind fun (r102, J101) =>
  hg (gin (p4 + (1 : Int32)) SL) <|
  (f_X8_laneOf (sx (p4 + (1 : Int32)).toNatClampNeg) I).bind fun (r105, I104) =>
  (f_X8_thrown I104).bind fun r107 =>
  if r107 = r102 then
    (show Option (Unit) from
      if r102 = 0 then
        if (lg_cmp (J101 137 (0 : Int32).toNatClampNeg) ((r105).toInt64)) = 0 then
          some ()
        else
          none
      else
        some ()).bind fun _ =>
    some (I104, O, J101)
  else
    none
set_option maxHeartbeats 8000000 in
set_option maxRecDepth 100000 in
theorem lc22 {p : Program} {l : Launch} {e : Env} {s : State} {m : MethodId} {below : List Frame} {meth : Method} {c : Code} {Q : State → Prop} {sb SL : Nat} {sx : Nat → Int32} {dC : Nat → ClassId} {dI : Nat → Nat → Nat} {ca : Nat → ClassId} {b : Nat → Nat} {A : Nat → Prop} (hlf : l.stackTraces = false) (hml : c.maxLocals = 9) (X : gCx p s m #[Value.ref sb] c RL cL_law wsL_law 9 dC dI ca b A 138) (hX : va_X sb SL sx s s.heap) (hbl : sb < s.heap.size) (hbA : ¬ A sb) (p4 : Int32) (I : Nat → Nat → Int32) (O : Nat → Nat → Option Nat) (J : Nat → Nat → Int64) (I9 : Nat → Nat → Int32) (O9 : Nat → Nat → Option Nat) (J9 : Nat → Nat → Int64) (h : f_L_case22 SL sx p4 I O J = some (I9, O9, J9)) {cn sn : Nat} (hc : cn + 8 ≤ 601024) (hs : sn + 100 ≤ 7293034) (H : Heap) (locs : List Loc) (ls : Array Slot) (hP : va_P (dC, dI) vwCl (hW 138 ca b I O J) H) (hS : va_S A s.heap H locs) (hl : lv_has ls 9 [(0, .ref sb), (1, .ref (b 0)), (2, .ref (b 129)), (3, .ref (b 137)), (4, .int p4)]) (K : ∀ (H : Heap) (locs : List Loc) (ls : Array Slot), va_P (dC, dI) vwCl (hW 138 ca b I9 O9 J9) H → va_S A s.heap H locs → lv_has ls 9 [(0, .ref sb), (1, .ref (b 0)), (2, .ref (b 129)), (3, .ref (b 137)), (4, .int p4)] → W p l e room_1 s m #[Value.ref sb] below meth c H locs (cn + 8) (sn + 100) Q (F0 m 2558 ls [])) : W p l e room_1 s m #[Value.ref sb] below meth c H locs cn sn Q (F0 m 1295 ls []) := by
  have hx := X.x
  have hb := X.cb
  have hA := X.ad
  have hN : 138 ≤ 138 := Nat.le_refl 138
  have hRc : room_1.cells = 601024 := rfl
  have hRs : room_1.slots = 7293034 := rfl
  unfold f_L_case22 at h
  refine lv_aload_n hx hb dL_law_1295 rfl (lv_at hl 1 rfl) ?_
  refine lv_aload_n hx hb dL_law_1296 rfl (lv_at hl 0 rfl) ?_
  refine lv_iload hx hb dL_law_1297 (lv_at hl 4 rfl) ?_
  refine lv_iconst (v := 1) hx hb dL_law_1299 (by decide) ?_
  refine lv_iadd hx hb dL_law_1300 ?_
  obtain ⟨hgi, h⟩ := hg_some h
  refine va_sld hx hb hX hbl hbA hS (gin_vp hgi) dL_law_1301 ?_
  refine lv_aload_n hx hb dL_law_1302 rfl (lv_at hl 3 rfl) ?_
  obtain ⟨q103, hcq103, h⟩ := hb_some h
  refine gcSW_i (As := [.ref (b 0), .int (sx (p4 + (1 : Int32)).toNatClampNeg), .ref (b 137)]) (rest := []) (BH := (fun (u : Nat → Nat → Int64) H => va_P (dC, dI) vwCl (hW 138 ca b I O u) H)) X hP hS (c_L_laneOf hlf hN hA I O J (sx (p4 + (1 : Int32)).toNatClampNeg) q103 hcq103) (vx_cwSW 3 X.ts gL_law_L_laneOf rfl rfl rfl (by decide +kernel) ⟨Nat.le_of_ble_eq_true rfl, Nat.le_of_ble_eq_true rfl⟩) rfl hl.1 rfl (Nat.le_of_ble_eq_true rfl) dL_law_1303 ⟨by omega, by omega⟩ (fun r102 J101 H locs hw hP hS => ?_)
  subst hw
  refine lv_istore (lv' := [(5, .int r102), (0, .ref sb), (1, .ref (b 0)), (2, .ref (b 129)), (3, .ref (b 137)), (4, .int p4)]) hx hb dL_law_1306 hl (by decide) rfl (fun ls hl => ?_)
  refine lv_aload_n hx hb dL_law_1308 rfl (lv_at hl 3 rfl) ?_
  refine lv_aload_n hx hb dL_law_1309 rfl (lv_at hl 1 rfl) ?_
  refine lv_iload hx hb dL_law_1310 (lv_at hl 5 rfl) ?_
  refine lv_iconst (v := 1) hx hb dL_law_1312 (by decide) ?_
  refine lv_iadd hx hb dL_law_1313 ?_
  obtain ⟨hgi, h⟩ := hg_some h
  refine va_sld hx hb hX hbl hbA hS (gin_vp hgi) dL_law_1314 ?_
  obtain ⟨q106, hcq106, h⟩ := hb_some h
  refine gdV_i (As := [.int (sx (p4 + (1 : Int32)).toNatClampNeg)]) (rest := []) (BH := (fun (u : Nat → Nat → Int32) H => va_P (dC, dI) vwCl (hW 138 ca b u O J101) H)) X hP hS (c_X8_laneOf hN hA I O J101 (sx (p4 + (1 : Int32)).toNatClampNeg) q106 hcq106) (cwV 1 X.ts gL_law_X8_laneOf rfl rfl rfl (by decide +kernel) ⟨Nat.le_of_ble_eq_true rfl, Nat.le_of_ble_eq_true rfl⟩) (gr8 X hP kc_129 (sk_in hN kc_129 (by decide))) rfl hl.1 rfl (Nat.le_of_ble_eq_true rfl) dL_law_1315 ⟨by omega, by omega⟩ (fun r105 I104 H locs hw hP hS => ?_)
  subst hw
  refine lv_istore (lv' := [(6, .int r105), (5, .int r102), (0, .ref sb), (1, .ref (b 0)), (2, .ref (b 129)), (3, .ref (b 137)), (4, .int p4)]) hx hb dL_law_1318 hl (by decide) rfl (fun ls hl => ?_)
  refine lv_aload_n hx hb dL_law_1320 rfl (lv_at hl 4 rfl) ?_
  obtain ⟨q108, hcq108, h⟩ := hb_some h
  refine gdV_i (As := []) (rest := []) (BH := (fun (u : Unit) H => va_P (dC, dI) vwCl (hW 138 ca b I104 O J101) H)) X hP hS (c_X8_thrown hN hA I104 O J101 q108 hcq108) (cwV 0 X.ts gL_law_X8_thrown rfl rfl rfl (by decide +kernel) ⟨Nat.le_of_ble_eq_true rfl, Nat.le_of_ble_eq_true rfl⟩) (gr8 X hP kc_129 (sk_in hN kc_129 (by decide))) rfl hl.1 rfl (Nat.le_of_ble_eq_true rfl) dL_law_1321 ⟨by omega, by omega⟩ (fun r107 u9 H locs hw hP hS => ?_)
  have hw := hw.symm
  subst hw
  refine lv_iload hx hb dL_law_1324 (lv_at hl 1 rfl) ?_
  refine lv_icmp_eq (tgt := 1331) hx hb dL_law_1326 (by decide) (fun c111 => ?_) (fun c111 => ?_)
  · have h := gif_t c111 h
    refine lv_iload hx hb dL_law_1331 (lv_at hl 1 rfl) ?_
    obtain ⟨_, hv, h⟩ := hb_some h
    have K1348 : ∀ (H : Heap) (locs : List Loc) (ls : Array Slot), va_P (dC, dI) vwCl (hW 138 ca b I104 O J101) H → va_S A s.heap H locs → lv_has ls 9 [(0, .ref sb), (1, .ref (b 0)), (2, .ref (b 129)), (3, .ref (b 137)), (4, .int p4)] → W p l e room_1 s m #[Value.ref sb] below meth c H locs (cn + 1) (sn + 6) Q (F0 m 1348 ls []) := by
      intro H locs ls hP hS hl
      refine lv_goto (tgt := 2558) hx hb dL_law_1348 (by decide) ?_
      refine W.widen (k := cn + 8) (n := sn + 100) (by omega) (by omega) ?_
      cases h
      exact K _ _ _ hP hS (lv_sub hl [0, 1, 2, 3, 4] rfl)
    have h := hv
    refine lv_if_ne (tgt := 1348) hx hb dL_law_1333 (by decide) (fun c110 => ?_) (fun c110 => ?_)
    · have h := gif_f c110 h
      refine W.widen (k := (cn + 1)) (n := (sn + 6)) (by omega) (by omega) ?_
      cases h
      exact K1348 _ _ _ hP hS (lv_sub hl [2, 3, 4, 5, 6] rfl)
    · have h := gif_t c110 h
      refine lv_aload_n hx hb dL_law_1336 rfl (lv_at hl 5 rfl) ?_
      refine lv_iconst (v := 0) hx hb dL_law_1337 (by decide) ?_
      refine ga23 X hP kc_137 (sk_in hN kc_137 (by decide)) (L := 1) (by decide) (by decide) dL_law_1338 ?_
      refine lv_iload hx hb dL_law_1339 (lv_at hl 0 rfl) ?_
      refine lv_i2l (v := (r105).toInt64) hx hb dL_law_1341 rfl ?_
      refine W.lcmp hx hb dL_law_1342 ?_
      refine lv_if_eq (tgt := 1348) hx hb dL_law_1343 (by decide) (fun c109 => ?_) (fun c109 => ?_)
      · have h := gif_t c109 h
        refine W.widen (k := (cn + 1)) (n := (sn + 6)) (by omega) (by omega) ?_
        cases h
        exact K1348 _ _ _ hP hS (lv_sub hl [2, 3, 4, 5, 6] rfl)
      · have h := gif_f c109 h
        refine lv_iconst (v := 0) hx hb dL_law_1346 (by decide) ?_
        cases h
  · have h := gif_f c111 h
    refine lv_iconst (v := 0) hx hb dL_law_1329 (by decide) ?_
    cases h
def f_L_case23 (SL : Nat) (sx : Nat → Int32) (p4 : Int32) (I : Nat → Nat → Int32) (O : Nat → Nat → Option Nat) (J : Nat → Nat → Int64) : Option ((Nat → Nat → Int32) × (Nat → Nat → Option Nat) × (Nat → Nat → Int64)) :=
  hg (gin (p4 + (1 : Int32)) SL) <|
  (f_L_stateOf (sx (p4 + (1 : Int32)).toNatClampNeg) I J).bind fun (r102, J101) =>
  hg (gin (p4 + (1 : Int32)) SL) <|
  (f_X8_stateOf (sx (p4 + (1 : Int32)).toNatClampNeg) I).bind fun (r105, I104) =>
  (f_X8_thrown I104).bind fun r107 =>
  if r107 = r102 then
    (show Option (Unit) from
      if r102 = 0 then
        if (lg_cmp (J101 137 (0 : Int32).toNatClampNeg) ((r105).toInt64)) = 0 then
          some ()
        else
          none
      else
        some ()).bind fun _ =>
    some (I104, O, J101)
  else
    none
set_option maxHeartbeats 8000000 in
set_option maxRecDepth 100000 in
theorem lc23 {p : Program} {l : Launch} {e : Env} {s : State} {m : MethodId} {below : List Frame} {meth : Method} {c : Code} {Q : State → Prop} {sb SL : Nat} {sx : Nat → Int32} {dC : Nat → ClassId} {dI : Nat → Nat → Nat} {ca : Nat → ClassId} {b : Nat → Nat} {A : Nat → Prop} (hlf : l.stackTraces = false) (hml : c.maxLocals = 9) (X : gCx p s m #[Value.ref sb] c RL cL_law wsL_law 9 dC dI ca b A 138) (hX : va_X sb SL sx s s.heap) (hbl : sb < s.heap.size) (hbA : ¬ A sb) (p4 : Int32) (I : Nat → Nat → Int32) (O : Nat → Nat → Option Nat) (J : Nat → Nat → Int64) (I9 : Nat → Nat → Int32) (O9 : Nat → Nat → Option Nat) (J9 : Nat → Nat → Int64) (h : f_L_case23 SL sx p4 I O J = some (I9, O9, J9)) {cn sn : Nat} (hc : cn + 8 ≤ 601024) (hs : sn + 100 ≤ 7293034) (H : Heap) (locs : List Loc) (ls : Array Slot) (hP : va_P (dC, dI) vwCl (hW 138 ca b I O J) H) (hS : va_S A s.heap H locs) (hl : lv_has ls 9 [(0, .ref sb), (1, .ref (b 0)), (2, .ref (b 129)), (3, .ref (b 137)), (4, .int p4)]) (K : ∀ (H : Heap) (locs : List Loc) (ls : Array Slot), va_P (dC, dI) vwCl (hW 138 ca b I9 O9 J9) H → va_S A s.heap H locs → lv_has ls 9 [(0, .ref sb), (1, .ref (b 0)), (2, .ref (b 129)), (3, .ref (b 137)), (4, .int p4)] → W p l e room_1 s m #[Value.ref sb] below meth c H locs (cn + 8) (sn + 100) Q (F0 m 2558 ls [])) : W p l e room_1 s m #[Value.ref sb] below meth c H locs cn sn Q (F0 m 1351 ls []) := by
  have hx := X.x
  have hb := X.cb
  have hA := X.ad
  have hN : 138 ≤ 138 := Nat.le_refl 138
  have hRc : room_1.cells = 601024 := rfl
  have hRs : room_1.slots = 7293034 := rfl
  unfold f_L_case23 at h
  refine lv_aload_n hx hb dL_law_1351 rfl (lv_at hl 1 rfl) ?_
  refine lv_aload_n hx hb dL_law_1352 rfl (lv_at hl 0 rfl) ?_
  refine lv_iload hx hb dL_law_1353 (lv_at hl 4 rfl) ?_
  refine lv_iconst (v := 1) hx hb dL_law_1355 (by decide) ?_
  refine lv_iadd hx hb dL_law_1356 ?_
  obtain ⟨hgi, h⟩ := hg_some h
  refine va_sld hx hb hX hbl hbA hS (gin_vp hgi) dL_law_1357 ?_
  refine lv_aload_n hx hb dL_law_1358 rfl (lv_at hl 3 rfl) ?_
  obtain ⟨q103, hcq103, h⟩ := hb_some h
  refine gcSW_i (As := [.ref (b 0), .int (sx (p4 + (1 : Int32)).toNatClampNeg), .ref (b 137)]) (rest := []) (BH := (fun (u : Nat → Nat → Int64) H => va_P (dC, dI) vwCl (hW 138 ca b I O u) H)) X hP hS (c_L_stateOf hlf hN hA I O J (sx (p4 + (1 : Int32)).toNatClampNeg) q103 hcq103) (vx_cwSW 3 X.ts gL_law_L_stateOf rfl rfl rfl (by decide +kernel) ⟨Nat.le_of_ble_eq_true rfl, Nat.le_of_ble_eq_true rfl⟩) rfl hl.1 rfl (Nat.le_of_ble_eq_true rfl) dL_law_1359 ⟨by omega, by omega⟩ (fun r102 J101 H locs hw hP hS => ?_)
  subst hw
  refine lv_istore (lv' := [(5, .int r102), (0, .ref sb), (1, .ref (b 0)), (2, .ref (b 129)), (3, .ref (b 137)), (4, .int p4)]) hx hb dL_law_1362 hl (by decide) rfl (fun ls hl => ?_)
  refine lv_aload_n hx hb dL_law_1364 rfl (lv_at hl 3 rfl) ?_
  refine lv_aload_n hx hb dL_law_1365 rfl (lv_at hl 1 rfl) ?_
  refine lv_iload hx hb dL_law_1366 (lv_at hl 5 rfl) ?_
  refine lv_iconst (v := 1) hx hb dL_law_1368 (by decide) ?_
  refine lv_iadd hx hb dL_law_1369 ?_
  obtain ⟨hgi, h⟩ := hg_some h
  refine va_sld hx hb hX hbl hbA hS (gin_vp hgi) dL_law_1370 ?_
  obtain ⟨q106, hcq106, h⟩ := hb_some h
  refine gdV_i (As := [.int (sx (p4 + (1 : Int32)).toNatClampNeg)]) (rest := []) (BH := (fun (u : Nat → Nat → Int32) H => va_P (dC, dI) vwCl (hW 138 ca b u O J101) H)) X hP hS (c_X8_stateOf hN hA I O J101 (sx (p4 + (1 : Int32)).toNatClampNeg) q106 hcq106) (cwV 1 X.ts gL_law_X8_stateOf rfl rfl rfl (by decide +kernel) ⟨Nat.le_of_ble_eq_true rfl, Nat.le_of_ble_eq_true rfl⟩) (gr8 X hP kc_129 (sk_in hN kc_129 (by decide))) rfl hl.1 rfl (Nat.le_of_ble_eq_true rfl) dL_law_1371 ⟨by omega, by omega⟩ (fun r105 I104 H locs hw hP hS => ?_)
  subst hw
  refine lv_istore (lv' := [(6, .int r105), (5, .int r102), (0, .ref sb), (1, .ref (b 0)), (2, .ref (b 129)), (3, .ref (b 137)), (4, .int p4)]) hx hb dL_law_1374 hl (by decide) rfl (fun ls hl => ?_)
  refine lv_aload_n hx hb dL_law_1376 rfl (lv_at hl 4 rfl) ?_
  obtain ⟨q108, hcq108, h⟩ := hb_some h
  refine gdV_i (As := []) (rest := []) (BH := (fun (u : Unit) H => va_P (dC, dI) vwCl (hW 138 ca b I104 O J101) H)) X hP hS (c_X8_thrown hN hA I104 O J101 q108 hcq108) (cwV 0 X.ts gL_law_X8_thrown rfl rfl rfl (by decide +kernel) ⟨Nat.le_of_ble_eq_true rfl, Nat.le_of_ble_eq_true rfl⟩) (gr8 X hP kc_129 (sk_in hN kc_129 (by decide))) rfl hl.1 rfl (Nat.le_of_ble_eq_true rfl) dL_law_1377 ⟨by omega, by omega⟩ (fun r107 u9 H locs hw hP hS => ?_)
  have hw := hw.symm
  subst hw
  refine lv_iload hx hb dL_law_1380 (lv_at hl 1 rfl) ?_
  refine lv_icmp_eq (tgt := 1387) hx hb dL_law_1382 (by decide) (fun c111 => ?_) (fun c111 => ?_)
  · have h := gif_t c111 h
    refine lv_iload hx hb dL_law_1387 (lv_at hl 1 rfl) ?_
    obtain ⟨_, hv, h⟩ := hb_some h
    have K1404 : ∀ (H : Heap) (locs : List Loc) (ls : Array Slot), va_P (dC, dI) vwCl (hW 138 ca b I104 O J101) H → va_S A s.heap H locs → lv_has ls 9 [(0, .ref sb), (1, .ref (b 0)), (2, .ref (b 129)), (3, .ref (b 137)), (4, .int p4)] → W p l e room_1 s m #[Value.ref sb] below meth c H locs (cn + 1) (sn + 6) Q (F0 m 1404 ls []) := by
      intro H locs ls hP hS hl
      refine lv_goto (tgt := 2558) hx hb dL_law_1404 (by decide) ?_
      refine W.widen (k := cn + 8) (n := sn + 100) (by omega) (by omega) ?_
      cases h
      exact K _ _ _ hP hS (lv_sub hl [0, 1, 2, 3, 4] rfl)
    have h := hv
    refine lv_if_ne (tgt := 1404) hx hb dL_law_1389 (by decide) (fun c110 => ?_) (fun c110 => ?_)
    · have h := gif_f c110 h
      refine W.widen (k := (cn + 1)) (n := (sn + 6)) (by omega) (by omega) ?_
      cases h
      exact K1404 _ _ _ hP hS (lv_sub hl [2, 3, 4, 5, 6] rfl)
    · have h := gif_t c110 h
      refine lv_aload_n hx hb dL_law_1392 rfl (lv_at hl 5 rfl) ?_
      refine lv_iconst (v := 0) hx hb dL_law_1393 (by decide) ?_
      refine ga23 X hP kc_137 (sk_in hN kc_137 (by decide)) (L := 1) (by decide) (by decide) dL_law_1394 ?_
      refine lv_iload hx hb dL_law_1395 (lv_at hl 0 rfl) ?_
      refine lv_i2l (v := (r105).toInt64) hx hb dL_law_1397 rfl ?_
      refine W.lcmp hx hb dL_law_1398 ?_
      refine lv_if_eq (tgt := 1404) hx hb dL_law_1399 (by decide) (fun c109 => ?_) (fun c109 => ?_)
      · have h := gif_t c109 h
        refine W.widen (k := (cn + 1)) (n := (sn + 6)) (by omega) (by omega) ?_
        cases h
        exact K1404 _ _ _ hP hS (lv_sub hl [2, 3, 4, 5, 6] rfl)
      · have h := gif_f c109 h
        refine lv_iconst (v := 0) hx hb dL_law_1402 (by decide) ?_
        cases h
  · have h := gif_f c111 h
    refine lv_iconst (v := 0) hx hb dL_law_1385 (by decide) ?_
    cases h
def f_L_case24 (SL : Nat) (sx : Nat → Int32) (p4 : Int32) (I : Nat → Nat → Int32) (O : Nat → Nat → Option Nat) (J : Nat → Nat → Int64) : Option ((Nat → Nat → Int32) × (Nat → Nat → Option Nat) × (Nat → Nat → Int64)) :=
  hg (gin (p4 + (1 : Int32)) SL) <|
  (f_L_paceOf (sx (p4 + (1 : Int32)).toNatClampNeg) I J).bind fun (r102, J101) =>
  hg (gin (p4 + (1 : Int32)) SL) <|
  (f_X8_paceOf (sx (p4 + (1 : Int32)).toNatClampNeg) I).bind fun (r105, I104) =>
  (f_X8_thrown I104).bind fun r107 =>
  if r107 = r102 then
    (show Option (Unit) from
      if r102 = 0 then
        if (lg_cmp (J101 137 (0 : Int32).toNatClampNeg) ((r105).toInt64)) = 0 then
          some ()
        else
          none
      else
        some ()).bind fun _ =>
    some (I104, O, J101)
  else
    none
set_option maxHeartbeats 8000000 in
set_option maxRecDepth 100000 in
theorem lc24 {p : Program} {l : Launch} {e : Env} {s : State} {m : MethodId} {below : List Frame} {meth : Method} {c : Code} {Q : State → Prop} {sb SL : Nat} {sx : Nat → Int32} {dC : Nat → ClassId} {dI : Nat → Nat → Nat} {ca : Nat → ClassId} {b : Nat → Nat} {A : Nat → Prop} (hlf : l.stackTraces = false) (hml : c.maxLocals = 9) (X : gCx p s m #[Value.ref sb] c RL cL_law wsL_law 9 dC dI ca b A 138) (hX : va_X sb SL sx s s.heap) (hbl : sb < s.heap.size) (hbA : ¬ A sb) (p4 : Int32) (I : Nat → Nat → Int32) (O : Nat → Nat → Option Nat) (J : Nat → Nat → Int64) (I9 : Nat → Nat → Int32) (O9 : Nat → Nat → Option Nat) (J9 : Nat → Nat → Int64) (h : f_L_case24 SL sx p4 I O J = some (I9, O9, J9)) {cn sn : Nat} (hc : cn + 8 ≤ 601024) (hs : sn + 100 ≤ 7293034) (H : Heap) (locs : List Loc) (ls : Array Slot) (hP : va_P (dC, dI) vwCl (hW 138 ca b I O J) H) (hS : va_S A s.heap H locs) (hl : lv_has ls 9 [(0, .ref sb), (1, .ref (b 0)), (2, .ref (b 129)), (3, .ref (b 137)), (4, .int p4)]) (K : ∀ (H : Heap) (locs : List Loc) (ls : Array Slot), va_P (dC, dI) vwCl (hW 138 ca b I9 O9 J9) H → va_S A s.heap H locs → lv_has ls 9 [(0, .ref sb), (1, .ref (b 0)), (2, .ref (b 129)), (3, .ref (b 137)), (4, .int p4)] → W p l e room_1 s m #[Value.ref sb] below meth c H locs (cn + 8) (sn + 100) Q (F0 m 2558 ls [])) : W p l e room_1 s m #[Value.ref sb] below meth c H locs cn sn Q (F0 m 1407 ls []) := by
  have hx := X.x
  have hb := X.cb
  have hA := X.ad
  have hN : 138 ≤ 138 := Nat.le_refl 138
  have hRc : room_1.cells = 601024 := rfl
  have hRs : room_1.slots = 7293034 := rfl
  unfold f_L_case24 at h
  refine lv_aload_n hx hb dL_law_1407 rfl (lv_at hl 1 rfl) ?_
  refine lv_aload_n hx hb dL_law_1408 rfl (lv_at hl 0 rfl) ?_
  refine lv_iload hx hb dL_law_1409 (lv_at hl 4 rfl) ?_
  refine lv_iconst (v := 1) hx hb dL_law_1411 (by decide) ?_
  refine lv_iadd hx hb dL_law_1412 ?_
  obtain ⟨hgi, h⟩ := hg_some h
  refine va_sld hx hb hX hbl hbA hS (gin_vp hgi) dL_law_1413 ?_
  refine lv_aload_n hx hb dL_law_1414 rfl (lv_at hl 3 rfl) ?_
  obtain ⟨q103, hcq103, h⟩ := hb_some h
  refine gcSW_i (As := [.ref (b 0), .int (sx (p4 + (1 : Int32)).toNatClampNeg), .ref (b 137)]) (rest := []) (BH := (fun (u : Nat → Nat → Int64) H => va_P (dC, dI) vwCl (hW 138 ca b I O u) H)) X hP hS (c_L_paceOf hlf hN hA I O J (sx (p4 + (1 : Int32)).toNatClampNeg) q103 hcq103) (vx_cwSW 3 X.ts gL_law_L_paceOf rfl rfl rfl (by decide +kernel) ⟨Nat.le_of_ble_eq_true rfl, Nat.le_of_ble_eq_true rfl⟩) rfl hl.1 rfl (Nat.le_of_ble_eq_true rfl) dL_law_1415 ⟨by omega, by omega⟩ (fun r102 J101 H locs hw hP hS => ?_)
  subst hw
  refine lv_istore (lv' := [(5, .int r102), (0, .ref sb), (1, .ref (b 0)), (2, .ref (b 129)), (3, .ref (b 137)), (4, .int p4)]) hx hb dL_law_1418 hl (by decide) rfl (fun ls hl => ?_)
  refine lv_aload_n hx hb dL_law_1420 rfl (lv_at hl 3 rfl) ?_
  refine lv_aload_n hx hb dL_law_1421 rfl (lv_at hl 1 rfl) ?_
  refine lv_iload hx hb dL_law_1422 (lv_at hl 5 rfl) ?_
  refine lv_iconst (v := 1) hx hb dL_law_1424 (by decide) ?_
  refine lv_iadd hx hb dL_law_1425 ?_
  obtain ⟨hgi, h⟩ := hg_some h
  refine va_sld hx hb hX hbl hbA hS (gin_vp hgi) dL_law_1426 ?_
  obtain ⟨q106, hcq106, h⟩ := hb_some h
  refine gdV_i (As := [.int (sx (p4 + (1 : Int32)).toNatClampNeg)]) (rest := []) (BH := (fun (u : Nat → Nat → Int32) H => va_P (dC, dI) vwCl (hW 138 ca b u O J101) H)) X hP hS (c_X8_paceOf hN hA I O J101 (sx (p4 + (1 : Int32)).toNatClampNeg) q106 hcq106) (cwV 1 X.ts gL_law_X8_paceOf rfl rfl rfl (by decide +kernel) ⟨Nat.le_of_ble_eq_true rfl, Nat.le_of_ble_eq_true rfl⟩) (gr8 X hP kc_129 (sk_in hN kc_129 (by decide))) rfl hl.1 rfl (Nat.le_of_ble_eq_true rfl) dL_law_1427 ⟨by omega, by omega⟩ (fun r105 I104 H locs hw hP hS => ?_)
  subst hw
  refine lv_istore (lv' := [(6, .int r105), (5, .int r102), (0, .ref sb), (1, .ref (b 0)), (2, .ref (b 129)), (3, .ref (b 137)), (4, .int p4)]) hx hb dL_law_1430 hl (by decide) rfl (fun ls hl => ?_)
  refine lv_aload_n hx hb dL_law_1432 rfl (lv_at hl 4 rfl) ?_
  obtain ⟨q108, hcq108, h⟩ := hb_some h
  refine gdV_i (As := []) (rest := []) (BH := (fun (u : Unit) H => va_P (dC, dI) vwCl (hW 138 ca b I104 O J101) H)) X hP hS (c_X8_thrown hN hA I104 O J101 q108 hcq108) (cwV 0 X.ts gL_law_X8_thrown rfl rfl rfl (by decide +kernel) ⟨Nat.le_of_ble_eq_true rfl, Nat.le_of_ble_eq_true rfl⟩) (gr8 X hP kc_129 (sk_in hN kc_129 (by decide))) rfl hl.1 rfl (Nat.le_of_ble_eq_true rfl) dL_law_1433 ⟨by omega, by omega⟩ (fun r107 u9 H locs hw hP hS => ?_)
  have hw := hw.symm
  subst hw
  refine lv_iload hx hb dL_law_1436 (lv_at hl 1 rfl) ?_
  refine lv_icmp_eq (tgt := 1443) hx hb dL_law_1438 (by decide) (fun c111 => ?_) (fun c111 => ?_)
  · have h := gif_t c111 h
    refine lv_iload hx hb dL_law_1443 (lv_at hl 1 rfl) ?_
    obtain ⟨_, hv, h⟩ := hb_some h
    have K1460 : ∀ (H : Heap) (locs : List Loc) (ls : Array Slot), va_P (dC, dI) vwCl (hW 138 ca b I104 O J101) H → va_S A s.heap H locs → lv_has ls 9 [(0, .ref sb), (1, .ref (b 0)), (2, .ref (b 129)), (3, .ref (b 137)), (4, .int p4)] → W p l e room_1 s m #[Value.ref sb] below meth c H locs (cn + 1) (sn + 6) Q (F0 m 1460 ls []) := by
      intro H locs ls hP hS hl
      refine lv_goto (tgt := 2558) hx hb dL_law_1460 (by decide) ?_
      refine W.widen (k := cn + 8) (n := sn + 100) (by omega) (by omega) ?_
      cases h
      exact K _ _ _ hP hS (lv_sub hl [0, 1, 2, 3, 4] rfl)
    have h := hv
    refine lv_if_ne (tgt := 1460) hx hb dL_law_1445 (by decide) (fun c110 => ?_) (fun c110 => ?_)
    · have h := gif_f c110 h
      refine W.widen (k := (cn + 1)) (n := (sn + 6)) (by omega) (by omega) ?_
      cases h
      exact K1460 _ _ _ hP hS (lv_sub hl [2, 3, 4, 5, 6] rfl)
    · have h := gif_t c110 h
      refine lv_aload_n hx hb dL_law_1448 rfl (lv_at hl 5 rfl) ?_
      refine lv_iconst (v := 0) hx hb dL_law_1449 (by decide) ?_
      refine ga23 X hP kc_137 (sk_in hN kc_137 (by decide)) (L := 1) (by decide) (by decide) dL_law_1450 ?_
      refine lv_iload hx hb dL_law_1451 (lv_at hl 0 rfl) ?_
      refine lv_i2l (v := (r105).toInt64) hx hb dL_law_1453 rfl ?_
      refine W.lcmp hx hb dL_law_1454 ?_
      refine lv_if_eq (tgt := 1460) hx hb dL_law_1455 (by decide) (fun c109 => ?_) (fun c109 => ?_)
      · have h := gif_t c109 h
        refine W.widen (k := (cn + 1)) (n := (sn + 6)) (by omega) (by omega) ?_
        cases h
        exact K1460 _ _ _ hP hS (lv_sub hl [2, 3, 4, 5, 6] rfl)
      · have h := gif_f c109 h
        refine lv_iconst (v := 0) hx hb dL_law_1458 (by decide) ?_
        cases h
  · have h := gif_f c111 h
    refine lv_iconst (v := 0) hx hb dL_law_1441 (by decide) ?_
    cases h
def f_L_case25 (SL : Nat) (sx : Nat → Int32) (p4 : Int32) (I : Nat → Nat → Int32) (O : Nat → Nat → Option Nat) (J : Nat → Nat → Int64) : Option ((Nat → Nat → Int32) × (Nat → Nat → Option Nat) × (Nat → Nat → Int64)) :=
  hg (gin (p4 + (1 : Int32)) SL) <|
  (f_L_partnerOf (sx (p4 + (1 : Int32)).toNatClampNeg) I J).bind fun (r102, J101) =>
  hg (gin (p4 + (1 : Int32)) SL) <|
  (f_X8_partnerOf (sx (p4 + (1 : Int32)).toNatClampNeg) I).bind fun (r105, I104) =>
  (f_X8_thrown I104).bind fun r107 =>
  if r107 = r102 then
    (show Option (Unit) from
      if r102 = 0 then
        if (lg_cmp (J101 137 (0 : Int32).toNatClampNeg) ((r105).toInt64)) = 0 then
          some ()
        else
          none
      else
        some ()).bind fun _ =>
    some (I104, O, J101)
  else
    none
set_option maxHeartbeats 8000000 in
set_option maxRecDepth 100000 in
theorem lc25 {p : Program} {l : Launch} {e : Env} {s : State} {m : MethodId} {below : List Frame} {meth : Method} {c : Code} {Q : State → Prop} {sb SL : Nat} {sx : Nat → Int32} {dC : Nat → ClassId} {dI : Nat → Nat → Nat} {ca : Nat → ClassId} {b : Nat → Nat} {A : Nat → Prop} (hlf : l.stackTraces = false) (hml : c.maxLocals = 9) (X : gCx p s m #[Value.ref sb] c RL cL_law wsL_law 9 dC dI ca b A 138) (hX : va_X sb SL sx s s.heap) (hbl : sb < s.heap.size) (hbA : ¬ A sb) (p4 : Int32) (I : Nat → Nat → Int32) (O : Nat → Nat → Option Nat) (J : Nat → Nat → Int64) (I9 : Nat → Nat → Int32) (O9 : Nat → Nat → Option Nat) (J9 : Nat → Nat → Int64) (h : f_L_case25 SL sx p4 I O J = some (I9, O9, J9)) {cn sn : Nat} (hc : cn + 8 ≤ 601024) (hs : sn + 100 ≤ 7293034) (H : Heap) (locs : List Loc) (ls : Array Slot) (hP : va_P (dC, dI) vwCl (hW 138 ca b I O J) H) (hS : va_S A s.heap H locs) (hl : lv_has ls 9 [(0, .ref sb), (1, .ref (b 0)), (2, .ref (b 129)), (3, .ref (b 137)), (4, .int p4)]) (K : ∀ (H : Heap) (locs : List Loc) (ls : Array Slot), va_P (dC, dI) vwCl (hW 138 ca b I9 O9 J9) H → va_S A s.heap H locs → lv_has ls 9 [(0, .ref sb), (1, .ref (b 0)), (2, .ref (b 129)), (3, .ref (b 137)), (4, .int p4)] → W p l e room_1 s m #[Value.ref sb] below meth c H locs (cn + 8) (sn + 100) Q (F0 m 2558 ls [])) : W p l e room_1 s m #[Value.ref sb] below meth c H locs cn sn Q (F0 m 1463 ls []) := by
  have hx := X.x
  have hb := X.cb
  have hA := X.ad
  have hN : 138 ≤ 138 := Nat.le_refl 138
  have hRc : room_1.cells = 601024 := rfl
  have hRs : room_1.slots = 7293034 := rfl
  unfold f_L_case25 at h
  refine lv_aload_n hx hb dL_law_1463 rfl (lv_at hl 1 rfl) ?_
  refine lv_aload_n hx hb dL_law_1464 rfl (lv_at hl 0 rfl) ?_
  refine lv_iload hx hb dL_law_1465 (lv_at hl 4 rfl) ?_
  refine lv_iconst (v := 1) hx hb dL_law_1467 (by decide) ?_
  refine lv_iadd hx hb dL_law_1468 ?_
  obtain ⟨hgi, h⟩ := hg_some h
  refine va_sld hx hb hX hbl hbA hS (gin_vp hgi) dL_law_1469 ?_
  refine lv_aload_n hx hb dL_law_1470 rfl (lv_at hl 3 rfl) ?_
  obtain ⟨q103, hcq103, h⟩ := hb_some h
  refine gcSW_i (As := [.ref (b 0), .int (sx (p4 + (1 : Int32)).toNatClampNeg), .ref (b 137)]) (rest := []) (BH := (fun (u : Nat → Nat → Int64) H => va_P (dC, dI) vwCl (hW 138 ca b I O u) H)) X hP hS (c_L_partnerOf hlf hN hA I O J (sx (p4 + (1 : Int32)).toNatClampNeg) q103 hcq103) (vx_cwSW 3 X.ts gL_law_L_partnerOf rfl rfl rfl (by decide +kernel) ⟨Nat.le_of_ble_eq_true rfl, Nat.le_of_ble_eq_true rfl⟩) rfl hl.1 rfl (Nat.le_of_ble_eq_true rfl) dL_law_1471 ⟨by omega, by omega⟩ (fun r102 J101 H locs hw hP hS => ?_)
  subst hw
  refine lv_istore (lv' := [(5, .int r102), (0, .ref sb), (1, .ref (b 0)), (2, .ref (b 129)), (3, .ref (b 137)), (4, .int p4)]) hx hb dL_law_1474 hl (by decide) rfl (fun ls hl => ?_)
  refine lv_aload_n hx hb dL_law_1476 rfl (lv_at hl 3 rfl) ?_
  refine lv_aload_n hx hb dL_law_1477 rfl (lv_at hl 1 rfl) ?_
  refine lv_iload hx hb dL_law_1478 (lv_at hl 5 rfl) ?_
  refine lv_iconst (v := 1) hx hb dL_law_1480 (by decide) ?_
  refine lv_iadd hx hb dL_law_1481 ?_
  obtain ⟨hgi, h⟩ := hg_some h
  refine va_sld hx hb hX hbl hbA hS (gin_vp hgi) dL_law_1482 ?_
  obtain ⟨q106, hcq106, h⟩ := hb_some h
  refine gdV_i (As := [.int (sx (p4 + (1 : Int32)).toNatClampNeg)]) (rest := []) (BH := (fun (u : Nat → Nat → Int32) H => va_P (dC, dI) vwCl (hW 138 ca b u O J101) H)) X hP hS (c_X8_partnerOf hN hA I O J101 (sx (p4 + (1 : Int32)).toNatClampNeg) q106 hcq106) (cwV 1 X.ts gL_law_X8_partnerOf rfl rfl rfl (by decide +kernel) ⟨Nat.le_of_ble_eq_true rfl, Nat.le_of_ble_eq_true rfl⟩) (gr8 X hP kc_129 (sk_in hN kc_129 (by decide))) rfl hl.1 rfl (Nat.le_of_ble_eq_true rfl) dL_law_1483 ⟨by omega, by omega⟩ (fun r105 I104 H locs hw hP hS => ?_)
  subst hw
  refine lv_istore (lv' := [(6, .int r105), (5, .int r102), (0, .ref sb), (1, .ref (b 0)), (2, .ref (b 129)), (3, .ref (b 137)), (4, .int p4)]) hx hb dL_law_1486 hl (by decide) rfl (fun ls hl => ?_)
  refine lv_aload_n hx hb dL_law_1488 rfl (lv_at hl 4 rfl) ?_
  obtain ⟨q108, hcq108, h⟩ := hb_some h
  refine gdV_i (As := []) (rest := []) (BH := (fun (u : Unit) H => va_P (dC, dI) vwCl (hW 138 ca b I104 O J101) H)) X hP hS (c_X8_thrown hN hA I104 O J101 q108 hcq108) (cwV 0 X.ts gL_law_X8_thrown rfl rfl rfl (by decide +kernel) ⟨Nat.le_of_ble_eq_true rfl, Nat.le_of_ble_eq_true rfl⟩) (gr8 X hP kc_129 (sk_in hN kc_129 (by decide))) rfl hl.1 rfl (Nat.le_of_ble_eq_true rfl) dL_law_1489 ⟨by omega, by omega⟩ (fun r107 u9 H locs hw hP hS => ?_)
  have hw := hw.symm
  subst hw
  refine lv_iload hx hb dL_law_1492 (lv_at hl 1 rfl) ?_
  refine lv_icmp_eq (tgt := 1499) hx hb dL_law_1494 (by decide) (fun c111 => ?_) (fun c111 => ?_)
  · have h := gif_t c111 h
    refine lv_iload hx hb dL_law_1499 (lv_at hl 1 rfl) ?_
    obtain ⟨_, hv, h⟩ := hb_some h
    have K1516 : ∀ (H : Heap) (locs : List Loc) (ls : Array Slot), va_P (dC, dI) vwCl (hW 138 ca b I104 O J101) H → va_S A s.heap H locs → lv_has ls 9 [(0, .ref sb), (1, .ref (b 0)), (2, .ref (b 129)), (3, .ref (b 137)), (4, .int p4)] → W p l e room_1 s m #[Value.ref sb] below meth c H locs (cn + 2) (sn + 12) Q (F0 m 1516 ls []) := by
      intro H locs ls hP hS hl
      refine lv_goto (tgt := 2558) hx hb dL_law_1516 (by decide) ?_
      refine W.widen (k := cn + 8) (n := sn + 100) (by omega) (by omega) ?_
      cases h
      exact K _ _ _ hP hS (lv_sub hl [0, 1, 2, 3, 4] rfl)
    have h := hv
    refine lv_if_ne (tgt := 1516) hx hb dL_law_1501 (by decide) (fun c110 => ?_) (fun c110 => ?_)
    · have h := gif_f c110 h
      refine W.widen (k := (cn + 2)) (n := (sn + 12)) (by omega) (by omega) ?_
      cases h
      exact K1516 _ _ _ hP hS (lv_sub hl [2, 3, 4, 5, 6] rfl)
    · have h := gif_t c110 h
      refine lv_aload_n hx hb dL_law_1504 rfl (lv_at hl 5 rfl) ?_
      refine lv_iconst (v := 0) hx hb dL_law_1505 (by decide) ?_
      refine ga23 X hP kc_137 (sk_in hN kc_137 (by decide)) (L := 1) (by decide) (by decide) dL_law_1506 ?_
      refine lv_iload hx hb dL_law_1507 (lv_at hl 0 rfl) ?_
      refine lv_i2l (v := (r105).toInt64) hx hb dL_law_1509 rfl ?_
      refine W.lcmp hx hb dL_law_1510 ?_
      refine lv_if_eq (tgt := 1516) hx hb dL_law_1511 (by decide) (fun c109 => ?_) (fun c109 => ?_)
      · have h := gif_t c109 h
        refine W.widen (k := (cn + 2)) (n := (sn + 12)) (by omega) (by omega) ?_
        cases h
        exact K1516 _ _ _ hP hS (lv_sub hl [2, 3, 4, 5, 6] rfl)
      · have h := gif_f c109 h
        refine lv_iconst (v := 0) hx hb dL_law_1514 (by decide) ?_
        cases h
  · have h := gif_f c111 h
    refine lv_iconst (v := 0) hx hb dL_law_1497 (by decide) ?_
    cases h
def f_L_case26 (SL : Nat) (sx : Nat → Int32) (p4 : Int32) (I : Nat → Nat → Int32) (O : Nat → Nat → Option Nat) (J : Nat → Nat → Int64) : Option ((Nat → Nat → Int32) × (Nat → Nat → Option Nat) × (Nat → Nat → Int64)) :=
  hg (gin (p4 + (1 : Int32)) SL) <|
  (f_L_isCalledIn (sx (p4 + (1 : Int32)).toNatClampNeg) I J).bind fun (r102, J101) =>
  hg (gin (p4 + (1 : Int32)) SL) <|
  (f_X8_isCalledIn (sx (p4 + (1 : Int32)).toNatClampNeg) I).bind fun (r105, I104) =>
  (f_X8_thrown I104).bind fun r107 =>
  if r107 = r102 then
    (show Option (Unit) from
      if r102 = 0 then
        (show Option (Int64) from
          if r105 = 0 then
            some (0 : Int64)
          else
            some (1 : Int64)).bind fun p109 =>
        if (lg_cmp (J101 137 (0 : Int32).toNatClampNeg) p109) = 0 then
          some ()
        else
          none
      else
        some ()).bind fun _ =>
    some (I104, O, J101)
  else
    none
set_option maxHeartbeats 8000000 in
set_option maxRecDepth 100000 in
theorem lc26 {p : Program} {l : Launch} {e : Env} {s : State} {m : MethodId} {below : List Frame} {meth : Method} {c : Code} {Q : State → Prop} {sb SL : Nat} {sx : Nat → Int32} {dC : Nat → ClassId} {dI : Nat → Nat → Nat} {ca : Nat → ClassId} {b : Nat → Nat} {A : Nat → Prop} (hlf : l.stackTraces = false) (hml : c.maxLocals = 9) (X : gCx p s m #[Value.ref sb] c RL cL_law wsL_law 9 dC dI ca b A 138) (hX : va_X sb SL sx s s.heap) (hbl : sb < s.heap.size) (hbA : ¬ A sb) (p4 : Int32) (I : Nat → Nat → Int32) (O : Nat → Nat → Option Nat) (J : Nat → Nat → Int64) (I9 : Nat → Nat → Int32) (O9 : Nat → Nat → Option Nat) (J9 : Nat → Nat → Int64) (h : f_L_case26 SL sx p4 I O J = some (I9, O9, J9)) {cn sn : Nat} (hc : cn + 8 ≤ 601024) (hs : sn + 100 ≤ 7293034) (H : Heap) (locs : List Loc) (ls : Array Slot) (hP : va_P (dC, dI) vwCl (hW 138 ca b I O J) H) (hS : va_S A s.heap H locs) (hl : lv_has ls 9 [(0, .ref sb), (1, .ref (b 0)), (2, .ref (b 129)), (3, .ref (b 137)), (4, .int p4)]) (K : ∀ (H : Heap) (locs : List Loc) (ls : Array Slot), va_P (dC, dI) vwCl (hW 138 ca b I9 O9 J9) H → va_S A s.heap H locs → lv_has ls 9 [(0, .ref sb), (1, .ref (b 0)), (2, .ref (b 129)), (3, .ref (b 137)), (4, .int p4)] → W p l e room_1 s m #[Value.ref sb] below meth c H locs (cn + 8) (sn + 100) Q (F0 m 2558 ls [])) : W p l e room_1 s m #[Value.ref sb] below meth c H locs cn sn Q (F0 m 1519 ls []) := by
  have hx := X.x
  have hb := X.cb
  have hA := X.ad
  have hN : 138 ≤ 138 := Nat.le_refl 138
  have hRc : room_1.cells = 601024 := rfl
  have hRs : room_1.slots = 7293034 := rfl
  unfold f_L_case26 at h
  refine lv_aload_n hx hb dL_law_1519 rfl (lv_at hl 1 rfl) ?_
  refine lv_aload_n hx hb dL_law_1520 rfl (lv_at hl 0 rfl) ?_
  refine lv_iload hx hb dL_law_1521 (lv_at hl 4 rfl) ?_
  refine lv_iconst (v := 1) hx hb dL_law_1523 (by decide) ?_
  refine lv_iadd hx hb dL_law_1524 ?_
  obtain ⟨hgi, h⟩ := hg_some h
  refine va_sld hx hb hX hbl hbA hS (gin_vp hgi) dL_law_1525 ?_
  refine lv_aload_n hx hb dL_law_1526 rfl (lv_at hl 3 rfl) ?_
  obtain ⟨q103, hcq103, h⟩ := hb_some h
  refine gcSW_i (As := [.ref (b 0), .int (sx (p4 + (1 : Int32)).toNatClampNeg), .ref (b 137)]) (rest := []) (BH := (fun (u : Nat → Nat → Int64) H => va_P (dC, dI) vwCl (hW 138 ca b I O u) H)) X hP hS (c_L_isCalledIn hlf hN hA I O J (sx (p4 + (1 : Int32)).toNatClampNeg) q103 hcq103) (vx_cwSW 3 X.ts gL_law_L_isCalledIn rfl rfl rfl (by decide +kernel) ⟨Nat.le_of_ble_eq_true rfl, Nat.le_of_ble_eq_true rfl⟩) rfl hl.1 rfl (Nat.le_of_ble_eq_true rfl) dL_law_1527 ⟨by omega, by omega⟩ (fun r102 J101 H locs hw hP hS => ?_)
  subst hw
  refine lv_istore (lv' := [(5, .int r102), (0, .ref sb), (1, .ref (b 0)), (2, .ref (b 129)), (3, .ref (b 137)), (4, .int p4)]) hx hb dL_law_1530 hl (by decide) rfl (fun ls hl => ?_)
  refine lv_aload_n hx hb dL_law_1532 rfl (lv_at hl 3 rfl) ?_
  refine lv_aload_n hx hb dL_law_1533 rfl (lv_at hl 1 rfl) ?_
  refine lv_iload hx hb dL_law_1534 (lv_at hl 5 rfl) ?_
  refine lv_iconst (v := 1) hx hb dL_law_1536 (by decide) ?_
  refine lv_iadd hx hb dL_law_1537 ?_
  obtain ⟨hgi, h⟩ := hg_some h
  refine va_sld hx hb hX hbl hbA hS (gin_vp hgi) dL_law_1538 ?_
  obtain ⟨q106, hcq106, h⟩ := hb_some h
  refine gdV_i (As := [.int (sx (p4 + (1 : Int32)).toNatClampNeg)]) (rest := []) (BH := (fun (u : Nat → Nat → Int32) H => va_P (dC, dI) vwCl (hW 138 ca b u O J101) H)) X hP hS (c_X8_isCalledIn hN hA I O J101 (sx (p4 + (1 : Int32)).toNatClampNeg) q106 hcq106) (cwV 1 X.ts gL_law_X8_isCalledIn rfl rfl rfl (by decide +kernel) ⟨Nat.le_of_ble_eq_true rfl, Nat.le_of_ble_eq_true rfl⟩) (gr8 X hP kc_129 (sk_in hN kc_129 (by decide))) rfl hl.1 rfl (Nat.le_of_ble_eq_true rfl) dL_law_1539 ⟨by omega, by omega⟩ (fun r105 I104 H locs hw hP hS => ?_)
  subst hw
  refine lv_istore (lv' := [(6, .int r105), (5, .int r102), (0, .ref sb), (1, .ref (b 0)), (2, .ref (b 129)), (3, .ref (b 137)), (4, .int p4)]) hx hb dL_law_1542 hl (by decide) rfl (fun ls hl => ?_)
  refine lv_aload_n hx hb dL_law_1544 rfl (lv_at hl 4 rfl) ?_
  obtain ⟨q108, hcq108, h⟩ := hb_some h
  refine gdV_i (As := []) (rest := []) (BH := (fun (u : Unit) H => va_P (dC, dI) vwCl (hW 138 ca b I104 O J101) H)) X hP hS (c_X8_thrown hN hA I104 O J101 q108 hcq108) (cwV 0 X.ts gL_law_X8_thrown rfl rfl rfl (by decide +kernel) ⟨Nat.le_of_ble_eq_true rfl, Nat.le_of_ble_eq_true rfl⟩) (gr8 X hP kc_129 (sk_in hN kc_129 (by decide))) rfl hl.1 rfl (Nat.le_of_ble_eq_true rfl) dL_law_1545 ⟨by omega, by omega⟩ (fun r107 u9 H locs hw hP hS => ?_)
  have hw := hw.symm
  subst hw
  refine lv_iload hx hb dL_law_1548 (lv_at hl 1 rfl) ?_
  refine lv_icmp_eq (tgt := 1555) hx hb dL_law_1550 (by decide) (fun c113 => ?_) (fun c113 => ?_)
  · have h := gif_t c113 h
    refine lv_iload hx hb dL_law_1555 (lv_at hl 1 rfl) ?_
    obtain ⟨_, hv, h⟩ := hb_some h
    have K1579 : ∀ (H : Heap) (locs : List Loc) (ls : Array Slot), va_P (dC, dI) vwCl (hW 138 ca b I104 O J101) H → va_S A s.heap H locs → lv_has ls 9 [(0, .ref sb), (1, .ref (b 0)), (2, .ref (b 129)), (3, .ref (b 137)), (4, .int p4)] → W p l e room_1 s m #[Value.ref sb] below meth c H locs (cn + 1) (sn + 6) Q (F0 m 1579 ls []) := by
      intro H locs ls hP hS hl
      refine lv_goto (tgt := 2558) hx hb dL_law_1579 (by decide) ?_
      refine W.widen (k := cn + 8) (n := sn + 100) (by omega) (by omega) ?_
      cases h
      exact K _ _ _ hP hS (lv_sub hl [0, 1, 2, 3, 4] rfl)
    have h := hv
    refine lv_if_ne (tgt := 1579) hx hb dL_law_1557 (by decide) (fun c112 => ?_) (fun c112 => ?_)
    · have h := gif_f c112 h
      refine W.widen (k := (cn + 1)) (n := (sn + 6)) (by omega) (by omega) ?_
      cases h
      exact K1579 _ _ _ hP hS (lv_sub hl [2, 3, 4, 5, 6] rfl)
    · have h := gif_t c112 h
      refine lv_aload_n hx hb dL_law_1560 rfl (lv_at hl 5 rfl) ?_
      refine lv_iconst (v := 0) hx hb dL_law_1561 (by decide) ?_
      refine ga23 X hP kc_137 (sk_in hN kc_137 (by decide)) (L := 1) (by decide) (by decide) dL_law_1562 ?_
      refine lv_iload hx hb dL_law_1563 (lv_at hl 0 rfl) ?_
      obtain ⟨p109, hv, h⟩ := hb_some h
      have K1573 : ∀ (H : Heap) (locs : List Loc) (ls : Array Slot), va_P (dC, dI) vwCl (hW 138 ca b I104 O J101) H → va_S A s.heap H locs → lv_has ls 9 [(0, .ref sb), (1, .ref (b 0)), (2, .ref (b 129)), (3, .ref (b 137)), (4, .int p4)] → W p l e room_1 s m #[Value.ref sb] below meth c H locs (cn + 1) (sn + 6) Q (F0 m 1573 ls [.long p109, .long (J101 137 (0 : Int32).toNatClampNeg)]) := by
        intro H locs ls hP hS hl
        refine W.lcmp hx hb dL_law_1573 ?_
        refine lv_if_eq (tgt := 1579) hx hb dL_law_1574 (by decide) (fun c110 => ?_) (fun c110 => ?_)
        · have h := gif_t c110 h
          refine W.widen (k := (cn + 1)) (n := (sn + 6)) (by omega) (by omega) ?_
          cases h
          exact K1579 _ _ _ hP hS (lv_sub hl [0, 1, 2, 3, 4] rfl)
        · have h := gif_f c110 h
          refine lv_iconst (v := 0) hx hb dL_law_1577 (by decide) ?_
          cases h
      have h := hv
      refine lv_if_eq (tgt := 1572) hx hb dL_law_1565 (by decide) (fun c111 => ?_) (fun c111 => ?_)
      · have h := gif_t c111 h
        refine lv_lconst (v := 0) hx hb dL_law_1572 (by decide) ?_
        refine W.widen (k := (cn + 1)) (n := (sn + 6)) (by omega) (by omega) ?_
        cases h
        exact K1573 _ _ _ hP hS (lv_sub hl [2, 3, 4, 5, 6] rfl)
      · have h := gif_f c111 h
        refine lv_lconst (v := 1) hx hb dL_law_1568 (by decide) ?_
        refine lv_goto (tgt := 1573) hx hb dL_law_1569 (by decide) ?_
        refine W.widen (k := (cn + 1)) (n := (sn + 6)) (by omega) (by omega) ?_
        cases h
        exact K1573 _ _ _ hP hS (lv_sub hl [2, 3, 4, 5, 6] rfl)
  · have h := gif_f c113 h
    refine lv_iconst (v := 0) hx hb dL_law_1553 (by decide) ?_
    cases h
def f_L_case27 (SL : Nat) (sx : Nat → Int32) (p4 : Int32) (I : Nat → Nat → Int32) (O : Nat → Nat → Option Nat) (J : Nat → Nat → Int64) : Option ((Nat → Nat → Int32) × (Nat → Nat → Option Nat) × (Nat → Nat → Int64)) :=
  hg (gin (p4 + (1 : Int32)) SL) <|
  (f_L_limitOf (sx (p4 + (1 : Int32)).toNatClampNeg) I J).bind fun (r102, J101) =>
  hg (gin (p4 + (1 : Int32)) SL) <|
  (f_X8_limitOf (sx (p4 + (1 : Int32)).toNatClampNeg) I).bind fun (r105, I104) =>
  (f_X8_thrown I104).bind fun r107 =>
  if r107 = r102 then
    (show Option (Unit) from
      if r102 = 0 then
        if (lg_cmp (J101 137 (0 : Int32).toNatClampNeg) ((r105).toInt64)) = 0 then
          some ()
        else
          none
      else
        some ()).bind fun _ =>
    some (I104, O, J101)
  else
    none
set_option maxHeartbeats 8000000 in
set_option maxRecDepth 100000 in
theorem lc27 {p : Program} {l : Launch} {e : Env} {s : State} {m : MethodId} {below : List Frame} {meth : Method} {c : Code} {Q : State → Prop} {sb SL : Nat} {sx : Nat → Int32} {dC : Nat → ClassId} {dI : Nat → Nat → Nat} {ca : Nat → ClassId} {b : Nat → Nat} {A : Nat → Prop} (hlf : l.stackTraces = false) (hml : c.maxLocals = 9) (X : gCx p s m #[Value.ref sb] c RL cL_law wsL_law 9 dC dI ca b A 138) (hX : va_X sb SL sx s s.heap) (hbl : sb < s.heap.size) (hbA : ¬ A sb) (p4 : Int32) (I : Nat → Nat → Int32) (O : Nat → Nat → Option Nat) (J : Nat → Nat → Int64) (I9 : Nat → Nat → Int32) (O9 : Nat → Nat → Option Nat) (J9 : Nat → Nat → Int64) (h : f_L_case27 SL sx p4 I O J = some (I9, O9, J9)) {cn sn : Nat} (hc : cn + 8 ≤ 601024) (hs : sn + 100 ≤ 7293034) (H : Heap) (locs : List Loc) (ls : Array Slot) (hP : va_P (dC, dI) vwCl (hW 138 ca b I O J) H) (hS : va_S A s.heap H locs) (hl : lv_has ls 9 [(0, .ref sb), (1, .ref (b 0)), (2, .ref (b 129)), (3, .ref (b 137)), (4, .int p4)]) (K : ∀ (H : Heap) (locs : List Loc) (ls : Array Slot), va_P (dC, dI) vwCl (hW 138 ca b I9 O9 J9) H → va_S A s.heap H locs → lv_has ls 9 [(0, .ref sb), (1, .ref (b 0)), (2, .ref (b 129)), (3, .ref (b 137)), (4, .int p4)] → W p l e room_1 s m #[Value.ref sb] below meth c H locs (cn + 8) (sn + 100) Q (F0 m 2558 ls [])) : W p l e room_1 s m #[Value.ref sb] below meth c H locs cn sn Q (F0 m 1582 ls []) := by
  have hx := X.x
  have hb := X.cb
  have hA := X.ad
  have hN : 138 ≤ 138 := Nat.le_refl 138
  have hRc : room_1.cells = 601024 := rfl
  have hRs : room_1.slots = 7293034 := rfl
  unfold f_L_case27 at h
  refine lv_aload_n hx hb dL_law_1582 rfl (lv_at hl 1 rfl) ?_
  refine lv_aload_n hx hb dL_law_1583 rfl (lv_at hl 0 rfl) ?_
  refine lv_iload hx hb dL_law_1584 (lv_at hl 4 rfl) ?_
  refine lv_iconst (v := 1) hx hb dL_law_1586 (by decide) ?_
  refine lv_iadd hx hb dL_law_1587 ?_
  obtain ⟨hgi, h⟩ := hg_some h
  refine va_sld hx hb hX hbl hbA hS (gin_vp hgi) dL_law_1588 ?_
  refine lv_aload_n hx hb dL_law_1589 rfl (lv_at hl 3 rfl) ?_
  obtain ⟨q103, hcq103, h⟩ := hb_some h
  refine gcSW_i (As := [.ref (b 0), .int (sx (p4 + (1 : Int32)).toNatClampNeg), .ref (b 137)]) (rest := []) (BH := (fun (u : Nat → Nat → Int64) H => va_P (dC, dI) vwCl (hW 138 ca b I O u) H)) X hP hS (c_L_limitOf hlf hN hA I O J (sx (p4 + (1 : Int32)).toNatClampNeg) q103 hcq103) (vx_cwSW 3 X.ts gL_law_L_limitOf rfl rfl rfl (by decide +kernel) ⟨Nat.le_of_ble_eq_true rfl, Nat.le_of_ble_eq_true rfl⟩) rfl hl.1 rfl (Nat.le_of_ble_eq_true rfl) dL_law_1590 ⟨by omega, by omega⟩ (fun r102 J101 H locs hw hP hS => ?_)
  subst hw
  refine lv_istore (lv' := [(5, .int r102), (0, .ref sb), (1, .ref (b 0)), (2, .ref (b 129)), (3, .ref (b 137)), (4, .int p4)]) hx hb dL_law_1593 hl (by decide) rfl (fun ls hl => ?_)
  refine lv_aload_n hx hb dL_law_1595 rfl (lv_at hl 3 rfl) ?_
  refine lv_aload_n hx hb dL_law_1596 rfl (lv_at hl 1 rfl) ?_
  refine lv_iload hx hb dL_law_1597 (lv_at hl 5 rfl) ?_
  refine lv_iconst (v := 1) hx hb dL_law_1599 (by decide) ?_
  refine lv_iadd hx hb dL_law_1600 ?_
  obtain ⟨hgi, h⟩ := hg_some h
  refine va_sld hx hb hX hbl hbA hS (gin_vp hgi) dL_law_1601 ?_
  obtain ⟨q106, hcq106, h⟩ := hb_some h
  refine gdV_i (As := [.int (sx (p4 + (1 : Int32)).toNatClampNeg)]) (rest := []) (BH := (fun (u : Nat → Nat → Int32) H => va_P (dC, dI) vwCl (hW 138 ca b u O J101) H)) X hP hS (c_X8_limitOf hN hA I O J101 (sx (p4 + (1 : Int32)).toNatClampNeg) q106 hcq106) (cwV 1 X.ts gL_law_X8_limitOf rfl rfl rfl (by decide +kernel) ⟨Nat.le_of_ble_eq_true rfl, Nat.le_of_ble_eq_true rfl⟩) (gr8 X hP kc_129 (sk_in hN kc_129 (by decide))) rfl hl.1 rfl (Nat.le_of_ble_eq_true rfl) dL_law_1602 ⟨by omega, by omega⟩ (fun r105 I104 H locs hw hP hS => ?_)
  subst hw
  refine lv_istore (lv' := [(6, .int r105), (5, .int r102), (0, .ref sb), (1, .ref (b 0)), (2, .ref (b 129)), (3, .ref (b 137)), (4, .int p4)]) hx hb dL_law_1605 hl (by decide) rfl (fun ls hl => ?_)
  refine lv_aload_n hx hb dL_law_1607 rfl (lv_at hl 4 rfl) ?_
  obtain ⟨q108, hcq108, h⟩ := hb_some h
  refine gdV_i (As := []) (rest := []) (BH := (fun (u : Unit) H => va_P (dC, dI) vwCl (hW 138 ca b I104 O J101) H)) X hP hS (c_X8_thrown hN hA I104 O J101 q108 hcq108) (cwV 0 X.ts gL_law_X8_thrown rfl rfl rfl (by decide +kernel) ⟨Nat.le_of_ble_eq_true rfl, Nat.le_of_ble_eq_true rfl⟩) (gr8 X hP kc_129 (sk_in hN kc_129 (by decide))) rfl hl.1 rfl (Nat.le_of_ble_eq_true rfl) dL_law_1608 ⟨by omega, by omega⟩ (fun r107 u9 H locs hw hP hS => ?_)
  have hw := hw.symm
  subst hw
  refine lv_iload hx hb dL_law_1611 (lv_at hl 1 rfl) ?_
  refine lv_icmp_eq (tgt := 1618) hx hb dL_law_1613 (by decide) (fun c111 => ?_) (fun c111 => ?_)
  · have h := gif_t c111 h
    refine lv_iload hx hb dL_law_1618 (lv_at hl 1 rfl) ?_
    obtain ⟨_, hv, h⟩ := hb_some h
    have K1635 : ∀ (H : Heap) (locs : List Loc) (ls : Array Slot), va_P (dC, dI) vwCl (hW 138 ca b I104 O J101) H → va_S A s.heap H locs → lv_has ls 9 [(0, .ref sb), (1, .ref (b 0)), (2, .ref (b 129)), (3, .ref (b 137)), (4, .int p4)] → W p l e room_1 s m #[Value.ref sb] below meth c H locs (cn + 1) (sn + 6) Q (F0 m 1635 ls []) := by
      intro H locs ls hP hS hl
      refine lv_goto (tgt := 2558) hx hb dL_law_1635 (by decide) ?_
      refine W.widen (k := cn + 8) (n := sn + 100) (by omega) (by omega) ?_
      cases h
      exact K _ _ _ hP hS (lv_sub hl [0, 1, 2, 3, 4] rfl)
    have h := hv
    refine lv_if_ne (tgt := 1635) hx hb dL_law_1620 (by decide) (fun c110 => ?_) (fun c110 => ?_)
    · have h := gif_f c110 h
      refine W.widen (k := (cn + 1)) (n := (sn + 6)) (by omega) (by omega) ?_
      cases h
      exact K1635 _ _ _ hP hS (lv_sub hl [2, 3, 4, 5, 6] rfl)
    · have h := gif_t c110 h
      refine lv_aload_n hx hb dL_law_1623 rfl (lv_at hl 5 rfl) ?_
      refine lv_iconst (v := 0) hx hb dL_law_1624 (by decide) ?_
      refine ga23 X hP kc_137 (sk_in hN kc_137 (by decide)) (L := 1) (by decide) (by decide) dL_law_1625 ?_
      refine lv_iload hx hb dL_law_1626 (lv_at hl 0 rfl) ?_
      refine lv_i2l (v := (r105).toInt64) hx hb dL_law_1628 rfl ?_
      refine W.lcmp hx hb dL_law_1629 ?_
      refine lv_if_eq (tgt := 1635) hx hb dL_law_1630 (by decide) (fun c109 => ?_) (fun c109 => ?_)
      · have h := gif_t c109 h
        refine W.widen (k := (cn + 1)) (n := (sn + 6)) (by omega) (by omega) ?_
        cases h
        exact K1635 _ _ _ hP hS (lv_sub hl [2, 3, 4, 5, 6] rfl)
      · have h := gif_f c109 h
        refine lv_iconst (v := 0) hx hb dL_law_1633 (by decide) ?_
        cases h
  · have h := gif_f c111 h
    refine lv_iconst (v := 0) hx hb dL_law_1616 (by decide) ?_
    cases h
def f_L_case28 (SL : Nat) (sx : Nat → Int32) (p4 : Int32) (I : Nat → Nat → Int32) (O : Nat → Nat → Option Nat) (J : Nat → Nat → Int64) : Option ((Nat → Nat → Int32) × (Nat → Nat → Option Nat) × (Nat → Nat → Int64)) :=
  hg (gin (p4 + (1 : Int32)) SL) <|
  (f_L_placeByCounting (sx (p4 + (1 : Int32)).toNatClampNeg) I J).bind fun (r102, J101) =>
  hg (gin (p4 + (1 : Int32)) SL) <|
  (f_X8_placeByCounting (sx (p4 + (1 : Int32)).toNatClampNeg) I).bind fun (r105, I104) =>
  (f_X8_thrown I104).bind fun r107 =>
  if r107 = r102 then
    (show Option (Unit) from
      if r102 = 0 then
        if (lg_cmp (J101 137 (0 : Int32).toNatClampNeg) ((r105).toInt64)) = 0 then
          some ()
        else
          none
      else
        some ()).bind fun _ =>
    some (I104, O, J101)
  else
    none
set_option maxHeartbeats 8000000 in
set_option maxRecDepth 100000 in
theorem lc28 {p : Program} {l : Launch} {e : Env} {s : State} {m : MethodId} {below : List Frame} {meth : Method} {c : Code} {Q : State → Prop} {sb SL : Nat} {sx : Nat → Int32} {dC : Nat → ClassId} {dI : Nat → Nat → Nat} {ca : Nat → ClassId} {b : Nat → Nat} {A : Nat → Prop} (hlf : l.stackTraces = false) (hml : c.maxLocals = 9) (X : gCx p s m #[Value.ref sb] c RL cL_law wsL_law 9 dC dI ca b A 138) (hX : va_X sb SL sx s s.heap) (hbl : sb < s.heap.size) (hbA : ¬ A sb) (p4 : Int32) (I : Nat → Nat → Int32) (O : Nat → Nat → Option Nat) (J : Nat → Nat → Int64) (I9 : Nat → Nat → Int32) (O9 : Nat → Nat → Option Nat) (J9 : Nat → Nat → Int64) (h : f_L_case28 SL sx p4 I O J = some (I9, O9, J9)) {cn sn : Nat} (hc : cn + 8 ≤ 601024) (hs : sn + 100 ≤ 7293034) (H : Heap) (locs : List Loc) (ls : Array Slot) (hP : va_P (dC, dI) vwCl (hW 138 ca b I O J) H) (hS : va_S A s.heap H locs) (hl : lv_has ls 9 [(0, .ref sb), (1, .ref (b 0)), (2, .ref (b 129)), (3, .ref (b 137)), (4, .int p4)]) (K : ∀ (H : Heap) (locs : List Loc) (ls : Array Slot), va_P (dC, dI) vwCl (hW 138 ca b I9 O9 J9) H → va_S A s.heap H locs → lv_has ls 9 [(0, .ref sb), (1, .ref (b 0)), (2, .ref (b 129)), (3, .ref (b 137)), (4, .int p4)] → W p l e room_1 s m #[Value.ref sb] below meth c H locs (cn + 8) (sn + 100) Q (F0 m 2558 ls [])) : W p l e room_1 s m #[Value.ref sb] below meth c H locs cn sn Q (F0 m 1638 ls []) := by
  have hx := X.x
  have hb := X.cb
  have hA := X.ad
  have hN : 138 ≤ 138 := Nat.le_refl 138
  have hRc : room_1.cells = 601024 := rfl
  have hRs : room_1.slots = 7293034 := rfl
  unfold f_L_case28 at h
  refine lv_aload_n hx hb dL_law_1638 rfl (lv_at hl 1 rfl) ?_
  refine lv_aload_n hx hb dL_law_1639 rfl (lv_at hl 0 rfl) ?_
  refine lv_iload hx hb dL_law_1640 (lv_at hl 4 rfl) ?_
  refine lv_iconst (v := 1) hx hb dL_law_1642 (by decide) ?_
  refine lv_iadd hx hb dL_law_1643 ?_
  obtain ⟨hgi, h⟩ := hg_some h
  refine va_sld hx hb hX hbl hbA hS (gin_vp hgi) dL_law_1644 ?_
  refine lv_aload_n hx hb dL_law_1645 rfl (lv_at hl 3 rfl) ?_
  obtain ⟨q103, hcq103, h⟩ := hb_some h
  refine gcSW_i (As := [.ref (b 0), .int (sx (p4 + (1 : Int32)).toNatClampNeg), .ref (b 137)]) (rest := []) (BH := (fun (u : Nat → Nat → Int64) H => va_P (dC, dI) vwCl (hW 138 ca b I O u) H)) X hP hS (c_L_placeByCounting hlf hN hA I O J (sx (p4 + (1 : Int32)).toNatClampNeg) q103 hcq103) (vx_cwSW 3 X.ts gL_law_L_placeByCounting rfl rfl rfl (by decide +kernel) ⟨Nat.le_of_ble_eq_true rfl, Nat.le_of_ble_eq_true rfl⟩) rfl hl.1 rfl (Nat.le_of_ble_eq_true rfl) dL_law_1646 ⟨by omega, by omega⟩ (fun r102 J101 H locs hw hP hS => ?_)
  subst hw
  refine lv_istore (lv' := [(5, .int r102), (0, .ref sb), (1, .ref (b 0)), (2, .ref (b 129)), (3, .ref (b 137)), (4, .int p4)]) hx hb dL_law_1649 hl (by decide) rfl (fun ls hl => ?_)
  refine lv_aload_n hx hb dL_law_1651 rfl (lv_at hl 3 rfl) ?_
  refine lv_aload_n hx hb dL_law_1652 rfl (lv_at hl 1 rfl) ?_
  refine lv_iload hx hb dL_law_1653 (lv_at hl 5 rfl) ?_
  refine lv_iconst (v := 1) hx hb dL_law_1655 (by decide) ?_
  refine lv_iadd hx hb dL_law_1656 ?_
  obtain ⟨hgi, h⟩ := hg_some h
  refine va_sld hx hb hX hbl hbA hS (gin_vp hgi) dL_law_1657 ?_
  obtain ⟨q106, hcq106, h⟩ := hb_some h
  refine gdV_i (As := [.int (sx (p4 + (1 : Int32)).toNatClampNeg)]) (rest := []) (BH := (fun (u : Nat → Nat → Int32) H => va_P (dC, dI) vwCl (hW 138 ca b u O J101) H)) X hP hS (c_X8_placeByCounting hN hA I O J101 (sx (p4 + (1 : Int32)).toNatClampNeg) q106 hcq106) (cwV 1 X.ts gL_law_X8_placeByCounting rfl rfl rfl (by decide +kernel) ⟨Nat.le_of_ble_eq_true rfl, Nat.le_of_ble_eq_true rfl⟩) (gr8 X hP kc_129 (sk_in hN kc_129 (by decide))) rfl hl.1 rfl (Nat.le_of_ble_eq_true rfl) dL_law_1658 ⟨by omega, by omega⟩ (fun r105 I104 H locs hw hP hS => ?_)
  subst hw
  refine lv_istore (lv' := [(6, .int r105), (5, .int r102), (0, .ref sb), (1, .ref (b 0)), (2, .ref (b 129)), (3, .ref (b 137)), (4, .int p4)]) hx hb dL_law_1661 hl (by decide) rfl (fun ls hl => ?_)
  refine lv_aload_n hx hb dL_law_1663 rfl (lv_at hl 4 rfl) ?_
  obtain ⟨q108, hcq108, h⟩ := hb_some h
  refine gdV_i (As := []) (rest := []) (BH := (fun (u : Unit) H => va_P (dC, dI) vwCl (hW 138 ca b I104 O J101) H)) X hP hS (c_X8_thrown hN hA I104 O J101 q108 hcq108) (cwV 0 X.ts gL_law_X8_thrown rfl rfl rfl (by decide +kernel) ⟨Nat.le_of_ble_eq_true rfl, Nat.le_of_ble_eq_true rfl⟩) (gr8 X hP kc_129 (sk_in hN kc_129 (by decide))) rfl hl.1 rfl (Nat.le_of_ble_eq_true rfl) dL_law_1664 ⟨by omega, by omega⟩ (fun r107 u9 H locs hw hP hS => ?_)
  have hw := hw.symm
  subst hw
  refine lv_iload hx hb dL_law_1667 (lv_at hl 1 rfl) ?_
  refine lv_icmp_eq (tgt := 1674) hx hb dL_law_1669 (by decide) (fun c111 => ?_) (fun c111 => ?_)
  · have h := gif_t c111 h
    refine lv_iload hx hb dL_law_1674 (lv_at hl 1 rfl) ?_
    obtain ⟨_, hv, h⟩ := hb_some h
    have K1691 : ∀ (H : Heap) (locs : List Loc) (ls : Array Slot), va_P (dC, dI) vwCl (hW 138 ca b I104 O J101) H → va_S A s.heap H locs → lv_has ls 9 [(0, .ref sb), (1, .ref (b 0)), (2, .ref (b 129)), (3, .ref (b 137)), (4, .int p4)] → W p l e room_1 s m #[Value.ref sb] below meth c H locs (cn + 1) (sn + 6) Q (F0 m 1691 ls []) := by
      intro H locs ls hP hS hl
      refine lv_goto (tgt := 2558) hx hb dL_law_1691 (by decide) ?_
      refine W.widen (k := cn + 8) (n := sn + 100) (by omega) (by omega) ?_
      cases h
      exact K _ _ _ hP hS (lv_sub hl [0, 1, 2, 3, 4] rfl)
    have h := hv
    refine lv_if_ne (tgt := 1691) hx hb dL_law_1676 (by decide) (fun c110 => ?_) (fun c110 => ?_)
    · have h := gif_f c110 h
      refine W.widen (k := (cn + 1)) (n := (sn + 6)) (by omega) (by omega) ?_
      cases h
      exact K1691 _ _ _ hP hS (lv_sub hl [2, 3, 4, 5, 6] rfl)
    · have h := gif_t c110 h
      refine lv_aload_n hx hb dL_law_1679 rfl (lv_at hl 5 rfl) ?_
      refine lv_iconst (v := 0) hx hb dL_law_1680 (by decide) ?_
      refine ga23 X hP kc_137 (sk_in hN kc_137 (by decide)) (L := 1) (by decide) (by decide) dL_law_1681 ?_
      refine lv_iload hx hb dL_law_1682 (lv_at hl 0 rfl) ?_
      refine lv_i2l (v := (r105).toInt64) hx hb dL_law_1684 rfl ?_
      refine W.lcmp hx hb dL_law_1685 ?_
      refine lv_if_eq (tgt := 1691) hx hb dL_law_1686 (by decide) (fun c109 => ?_) (fun c109 => ?_)
      · have h := gif_t c109 h
        refine W.widen (k := (cn + 1)) (n := (sn + 6)) (by omega) (by omega) ?_
        cases h
        exact K1691 _ _ _ hP hS (lv_sub hl [2, 3, 4, 5, 6] rfl)
      · have h := gif_f c109 h
        refine lv_iconst (v := 0) hx hb dL_law_1689 (by decide) ?_
        cases h
  · have h := gif_f c111 h
    refine lv_iconst (v := 0) hx hb dL_law_1672 (by decide) ?_
    cases h
def f_L_case29 (SL : Nat) (sx : Nat → Int32) (p4 : Int32) (I : Nat → Nat → Int32) (O : Nat → Nat → Option Nat) (J : Nat → Nat → Int64) : Option ((Nat → Nat → Int32) × (Nat → Nat → Option Nat) × (Nat → Nat → Int64)) :=
  hg (gin (p4 + (1 : Int32)) SL) <|
  (f_L_birdByOrder (sx (p4 + (1 : Int32)).toNatClampNeg) I O J).bind fun (r103, O101, J102) =>
  hg (gin (p4 + (1 : Int32)) SL) <|
  (f_X8_birdByOrder (sx (p4 + (1 : Int32)).toNatClampNeg) I).bind fun (r106, I105) =>
  (f_X8_thrown I105).bind fun r108 =>
  if r108 = r103 then
    (show Option (Unit) from
      if r103 = 0 then
        if (lg_cmp (J102 137 (0 : Int32).toNatClampNeg) ((r106).toInt64)) = 0 then
          some ()
        else
          none
      else
        some ()).bind fun _ =>
    some (I105, O101, J102)
  else
    none
set_option maxHeartbeats 8000000 in
set_option maxRecDepth 100000 in
theorem lc29 {p : Program} {l : Launch} {e : Env} {s : State} {m : MethodId} {below : List Frame} {meth : Method} {c : Code} {Q : State → Prop} {sb SL : Nat} {sx : Nat → Int32} {dC : Nat → ClassId} {dI : Nat → Nat → Nat} {ca : Nat → ClassId} {b : Nat → Nat} {A : Nat → Prop} (hlf : l.stackTraces = false) (hml : c.maxLocals = 9) (X : gCx p s m #[Value.ref sb] c RL cL_law wsL_law 9 dC dI ca b A 138) (hX : va_X sb SL sx s s.heap) (hbl : sb < s.heap.size) (hbA : ¬ A sb) (p4 : Int32) (I : Nat → Nat → Int32) (O : Nat → Nat → Option Nat) (J : Nat → Nat → Int64) (I9 : Nat → Nat → Int32) (O9 : Nat → Nat → Option Nat) (J9 : Nat → Nat → Int64) (h : f_L_case29 SL sx p4 I O J = some (I9, O9, J9)) {cn sn : Nat} (hc : cn + 8 ≤ 601024) (hs : sn + 100 ≤ 7293034) (H : Heap) (locs : List Loc) (ls : Array Slot) (hP : va_P (dC, dI) vwCl (hW 138 ca b I O J) H) (hS : va_S A s.heap H locs) (hl : lv_has ls 9 [(0, .ref sb), (1, .ref (b 0)), (2, .ref (b 129)), (3, .ref (b 137)), (4, .int p4)]) (K : ∀ (H : Heap) (locs : List Loc) (ls : Array Slot), va_P (dC, dI) vwCl (hW 138 ca b I9 O9 J9) H → va_S A s.heap H locs → lv_has ls 9 [(0, .ref sb), (1, .ref (b 0)), (2, .ref (b 129)), (3, .ref (b 137)), (4, .int p4)] → W p l e room_1 s m #[Value.ref sb] below meth c H locs (cn + 8) (sn + 100) Q (F0 m 2558 ls [])) : W p l e room_1 s m #[Value.ref sb] below meth c H locs cn sn Q (F0 m 1694 ls []) := by
  have hx := X.x
  have hb := X.cb
  have hA := X.ad
  have hN : 138 ≤ 138 := Nat.le_refl 138
  have hRc : room_1.cells = 601024 := rfl
  have hRs : room_1.slots = 7293034 := rfl
  unfold f_L_case29 at h
  refine lv_aload_n hx hb dL_law_1694 rfl (lv_at hl 1 rfl) ?_
  refine lv_aload_n hx hb dL_law_1695 rfl (lv_at hl 0 rfl) ?_
  refine lv_iload hx hb dL_law_1696 (lv_at hl 4 rfl) ?_
  refine lv_iconst (v := 1) hx hb dL_law_1698 (by decide) ?_
  refine lv_iadd hx hb dL_law_1699 ?_
  obtain ⟨hgi, h⟩ := hg_some h
  refine va_sld hx hb hX hbl hbA hS (gin_vp hgi) dL_law_1700 ?_
  refine lv_aload_n hx hb dL_law_1701 rfl (lv_at hl 3 rfl) ?_
  obtain ⟨q104, hcq104, h⟩ := hb_some h
  refine gcSW_i (As := [.ref (b 0), .int (sx (p4 + (1 : Int32)).toNatClampNeg), .ref (b 137)]) (rest := []) (BH := (fun (u : (Nat → Nat → Option Nat) × (Nat → Nat → Int64)) H => va_P (dC, dI) vwCl (hW 138 ca b I u.1 u.2) H)) X hP hS (c_L_birdByOrder hlf hN hA I O J (sx (p4 + (1 : Int32)).toNatClampNeg) q104 hcq104) (vx_cwSW 3 X.ts gL_law_L_birdByOrder rfl rfl rfl (by decide +kernel) ⟨Nat.le_of_ble_eq_true rfl, Nat.le_of_ble_eq_true rfl⟩) rfl hl.1 rfl (Nat.le_of_ble_eq_true rfl) dL_law_1702 ⟨by omega, by omega⟩ (fun r103 u9 H locs hw hP hS => ?_)
  obtain ⟨O101, J102⟩ := u9
  subst hw
  refine lv_istore (lv' := [(5, .int r103), (0, .ref sb), (1, .ref (b 0)), (2, .ref (b 129)), (3, .ref (b 137)), (4, .int p4)]) hx hb dL_law_1705 hl (by decide) rfl (fun ls hl => ?_)
  refine lv_aload_n hx hb dL_law_1707 rfl (lv_at hl 3 rfl) ?_
  refine lv_aload_n hx hb dL_law_1708 rfl (lv_at hl 1 rfl) ?_
  refine lv_iload hx hb dL_law_1709 (lv_at hl 5 rfl) ?_
  refine lv_iconst (v := 1) hx hb dL_law_1711 (by decide) ?_
  refine lv_iadd hx hb dL_law_1712 ?_
  obtain ⟨hgi, h⟩ := hg_some h
  refine va_sld hx hb hX hbl hbA hS (gin_vp hgi) dL_law_1713 ?_
  obtain ⟨q107, hcq107, h⟩ := hb_some h
  refine gdV_i (As := [.int (sx (p4 + (1 : Int32)).toNatClampNeg)]) (rest := []) (BH := (fun (u : Nat → Nat → Int32) H => va_P (dC, dI) vwCl (hW 138 ca b u O101 J102) H)) X hP hS (c_X8_birdByOrder hN hA I O101 J102 (sx (p4 + (1 : Int32)).toNatClampNeg) q107 hcq107) (cwV 1 X.ts gL_law_X8_birdByOrder rfl rfl rfl (by decide +kernel) ⟨Nat.le_of_ble_eq_true rfl, Nat.le_of_ble_eq_true rfl⟩) (gr8 X hP kc_129 (sk_in hN kc_129 (by decide))) rfl hl.1 rfl (Nat.le_of_ble_eq_true rfl) dL_law_1714 ⟨by omega, by omega⟩ (fun r106 I105 H locs hw hP hS => ?_)
  subst hw
  refine lv_istore (lv' := [(6, .int r106), (5, .int r103), (0, .ref sb), (1, .ref (b 0)), (2, .ref (b 129)), (3, .ref (b 137)), (4, .int p4)]) hx hb dL_law_1717 hl (by decide) rfl (fun ls hl => ?_)
  refine lv_aload_n hx hb dL_law_1719 rfl (lv_at hl 4 rfl) ?_
  obtain ⟨q109, hcq109, h⟩ := hb_some h
  refine gdV_i (As := []) (rest := []) (BH := (fun (u : Unit) H => va_P (dC, dI) vwCl (hW 138 ca b I105 O101 J102) H)) X hP hS (c_X8_thrown hN hA I105 O101 J102 q109 hcq109) (cwV 0 X.ts gL_law_X8_thrown rfl rfl rfl (by decide +kernel) ⟨Nat.le_of_ble_eq_true rfl, Nat.le_of_ble_eq_true rfl⟩) (gr8 X hP kc_129 (sk_in hN kc_129 (by decide))) rfl hl.1 rfl (Nat.le_of_ble_eq_true rfl) dL_law_1720 ⟨by omega, by omega⟩ (fun r108 u9 H locs hw hP hS => ?_)
  have hw := hw.symm
  subst hw
  refine lv_iload hx hb dL_law_1723 (lv_at hl 1 rfl) ?_
  refine lv_icmp_eq (tgt := 1730) hx hb dL_law_1725 (by decide) (fun c112 => ?_) (fun c112 => ?_)
  · have h := gif_t c112 h
    refine lv_iload hx hb dL_law_1730 (lv_at hl 1 rfl) ?_
    obtain ⟨_, hv, h⟩ := hb_some h
    have K1747 : ∀ (H : Heap) (locs : List Loc) (ls : Array Slot), va_P (dC, dI) vwCl (hW 138 ca b I105 O101 J102) H → va_S A s.heap H locs → lv_has ls 9 [(0, .ref sb), (1, .ref (b 0)), (2, .ref (b 129)), (3, .ref (b 137)), (4, .int p4)] → W p l e room_1 s m #[Value.ref sb] below meth c H locs (cn + 1) (sn + 6) Q (F0 m 1747 ls []) := by
      intro H locs ls hP hS hl
      refine lv_goto (tgt := 2558) hx hb dL_law_1747 (by decide) ?_
      refine W.widen (k := cn + 8) (n := sn + 100) (by omega) (by omega) ?_
      cases h
      exact K _ _ _ hP hS (lv_sub hl [0, 1, 2, 3, 4] rfl)
    have h := hv
    refine lv_if_ne (tgt := 1747) hx hb dL_law_1732 (by decide) (fun c111 => ?_) (fun c111 => ?_)
    · have h := gif_f c111 h
      refine W.widen (k := (cn + 1)) (n := (sn + 6)) (by omega) (by omega) ?_
      cases h
      exact K1747 _ _ _ hP hS (lv_sub hl [2, 3, 4, 5, 6] rfl)
    · have h := gif_t c111 h
      refine lv_aload_n hx hb dL_law_1735 rfl (lv_at hl 5 rfl) ?_
      refine lv_iconst (v := 0) hx hb dL_law_1736 (by decide) ?_
      refine ga23 X hP kc_137 (sk_in hN kc_137 (by decide)) (L := 1) (by decide) (by decide) dL_law_1737 ?_
      refine lv_iload hx hb dL_law_1738 (lv_at hl 0 rfl) ?_
      refine lv_i2l (v := (r106).toInt64) hx hb dL_law_1740 rfl ?_
      refine W.lcmp hx hb dL_law_1741 ?_
      refine lv_if_eq (tgt := 1747) hx hb dL_law_1742 (by decide) (fun c110 => ?_) (fun c110 => ?_)
      · have h := gif_t c110 h
        refine W.widen (k := (cn + 1)) (n := (sn + 6)) (by omega) (by omega) ?_
        cases h
        exact K1747 _ _ _ hP hS (lv_sub hl [2, 3, 4, 5, 6] rfl)
      · have h := gif_f c110 h
        refine lv_iconst (v := 0) hx hb dL_law_1745 (by decide) ?_
        cases h
  · have h := gif_f c112 h
    refine lv_iconst (v := 0) hx hb dL_law_1728 (by decide) ?_
    cases h
def f_L_case30 (SL : Nat) (sx : Nat → Int32) (p4 : Int32) (I : Nat → Nat → Int32) (O : Nat → Nat → Option Nat) (J : Nat → Nat → Int64) : Option ((Nat → Nat → Int32) × (Nat → Nat → Option Nat) × (Nat → Nat → Int64)) :=
  hg (gin (p4 + (1 : Int32)) SL) <|
  (f_L_gapAhead (sx (p4 + (1 : Int32)).toNatClampNeg) I J).bind fun (r102, J101) =>
  hg (gin (p4 + (1 : Int32)) SL) <|
  (f_X8_gapAhead (sx (p4 + (1 : Int32)).toNatClampNeg) I).bind fun (r105, I104) =>
  (f_X8_thrown I104).bind fun r107 =>
  if r107 = r102 then
    (show Option (Unit) from
      if r102 = 0 then
        if (lg_cmp (J101 137 (0 : Int32).toNatClampNeg) ((r105).toInt64)) = 0 then
          some ()
        else
          none
      else
        some ()).bind fun _ =>
    some (I104, O, J101)
  else
    none
set_option maxHeartbeats 8000000 in
set_option maxRecDepth 100000 in
theorem lc30 {p : Program} {l : Launch} {e : Env} {s : State} {m : MethodId} {below : List Frame} {meth : Method} {c : Code} {Q : State → Prop} {sb SL : Nat} {sx : Nat → Int32} {dC : Nat → ClassId} {dI : Nat → Nat → Nat} {ca : Nat → ClassId} {b : Nat → Nat} {A : Nat → Prop} (hlf : l.stackTraces = false) (hml : c.maxLocals = 9) (X : gCx p s m #[Value.ref sb] c RL cL_law wsL_law 9 dC dI ca b A 138) (hX : va_X sb SL sx s s.heap) (hbl : sb < s.heap.size) (hbA : ¬ A sb) (p4 : Int32) (I : Nat → Nat → Int32) (O : Nat → Nat → Option Nat) (J : Nat → Nat → Int64) (I9 : Nat → Nat → Int32) (O9 : Nat → Nat → Option Nat) (J9 : Nat → Nat → Int64) (h : f_L_case30 SL sx p4 I O J = some (I9, O9, J9)) {cn sn : Nat} (hc : cn + 8 ≤ 601024) (hs : sn + 100 ≤ 7293034) (H : Heap) (locs : List Loc) (ls : Array Slot) (hP : va_P (dC, dI) vwCl (hW 138 ca b I O J) H) (hS : va_S A s.heap H locs) (hl : lv_has ls 9 [(0, .ref sb), (1, .ref (b 0)), (2, .ref (b 129)), (3, .ref (b 137)), (4, .int p4)]) (K : ∀ (H : Heap) (locs : List Loc) (ls : Array Slot), va_P (dC, dI) vwCl (hW 138 ca b I9 O9 J9) H → va_S A s.heap H locs → lv_has ls 9 [(0, .ref sb), (1, .ref (b 0)), (2, .ref (b 129)), (3, .ref (b 137)), (4, .int p4)] → W p l e room_1 s m #[Value.ref sb] below meth c H locs (cn + 8) (sn + 100) Q (F0 m 2558 ls [])) : W p l e room_1 s m #[Value.ref sb] below meth c H locs cn sn Q (F0 m 1750 ls []) := by
  have hx := X.x
  have hb := X.cb
  have hA := X.ad
  have hN : 138 ≤ 138 := Nat.le_refl 138
  have hRc : room_1.cells = 601024 := rfl
  have hRs : room_1.slots = 7293034 := rfl
  unfold f_L_case30 at h
  refine lv_aload_n hx hb dL_law_1750 rfl (lv_at hl 1 rfl) ?_
  refine lv_aload_n hx hb dL_law_1751 rfl (lv_at hl 0 rfl) ?_
  refine lv_iload hx hb dL_law_1752 (lv_at hl 4 rfl) ?_
  refine lv_iconst (v := 1) hx hb dL_law_1754 (by decide) ?_
  refine lv_iadd hx hb dL_law_1755 ?_
  obtain ⟨hgi, h⟩ := hg_some h
  refine va_sld hx hb hX hbl hbA hS (gin_vp hgi) dL_law_1756 ?_
  refine lv_aload_n hx hb dL_law_1757 rfl (lv_at hl 3 rfl) ?_
  obtain ⟨q103, hcq103, h⟩ := hb_some h
  refine gcSW_i (As := [.ref (b 0), .int (sx (p4 + (1 : Int32)).toNatClampNeg), .ref (b 137)]) (rest := []) (BH := (fun (u : Nat → Nat → Int64) H => va_P (dC, dI) vwCl (hW 138 ca b I O u) H)) X hP hS (c_L_gapAhead hlf hN hA I O J (sx (p4 + (1 : Int32)).toNatClampNeg) q103 hcq103) (vx_cwSW 3 X.ts gL_law_L_gapAhead rfl rfl rfl (by decide +kernel) ⟨Nat.le_of_ble_eq_true rfl, Nat.le_of_ble_eq_true rfl⟩) rfl hl.1 rfl (Nat.le_of_ble_eq_true rfl) dL_law_1758 ⟨by omega, by omega⟩ (fun r102 J101 H locs hw hP hS => ?_)
  subst hw
  refine lv_istore (lv' := [(5, .int r102), (0, .ref sb), (1, .ref (b 0)), (2, .ref (b 129)), (3, .ref (b 137)), (4, .int p4)]) hx hb dL_law_1761 hl (by decide) rfl (fun ls hl => ?_)
  refine lv_aload_n hx hb dL_law_1763 rfl (lv_at hl 3 rfl) ?_
  refine lv_aload_n hx hb dL_law_1764 rfl (lv_at hl 1 rfl) ?_
  refine lv_iload hx hb dL_law_1765 (lv_at hl 5 rfl) ?_
  refine lv_iconst (v := 1) hx hb dL_law_1767 (by decide) ?_
  refine lv_iadd hx hb dL_law_1768 ?_
  obtain ⟨hgi, h⟩ := hg_some h
  refine va_sld hx hb hX hbl hbA hS (gin_vp hgi) dL_law_1769 ?_
  obtain ⟨q106, hcq106, h⟩ := hb_some h
  refine gdV_i (As := [.int (sx (p4 + (1 : Int32)).toNatClampNeg)]) (rest := []) (BH := (fun (u : Nat → Nat → Int32) H => va_P (dC, dI) vwCl (hW 138 ca b u O J101) H)) X hP hS (c_X8_gapAhead hN hA I O J101 (sx (p4 + (1 : Int32)).toNatClampNeg) q106 hcq106) (cwV 1 X.ts gL_law_X8_gapAhead rfl rfl rfl (by decide +kernel) ⟨Nat.le_of_ble_eq_true rfl, Nat.le_of_ble_eq_true rfl⟩) (gr8 X hP kc_129 (sk_in hN kc_129 (by decide))) rfl hl.1 rfl (Nat.le_of_ble_eq_true rfl) dL_law_1770 ⟨by omega, by omega⟩ (fun r105 I104 H locs hw hP hS => ?_)
  subst hw
  refine lv_istore (lv' := [(6, .int r105), (5, .int r102), (0, .ref sb), (1, .ref (b 0)), (2, .ref (b 129)), (3, .ref (b 137)), (4, .int p4)]) hx hb dL_law_1773 hl (by decide) rfl (fun ls hl => ?_)
  refine lv_aload_n hx hb dL_law_1775 rfl (lv_at hl 4 rfl) ?_
  obtain ⟨q108, hcq108, h⟩ := hb_some h
  refine gdV_i (As := []) (rest := []) (BH := (fun (u : Unit) H => va_P (dC, dI) vwCl (hW 138 ca b I104 O J101) H)) X hP hS (c_X8_thrown hN hA I104 O J101 q108 hcq108) (cwV 0 X.ts gL_law_X8_thrown rfl rfl rfl (by decide +kernel) ⟨Nat.le_of_ble_eq_true rfl, Nat.le_of_ble_eq_true rfl⟩) (gr8 X hP kc_129 (sk_in hN kc_129 (by decide))) rfl hl.1 rfl (Nat.le_of_ble_eq_true rfl) dL_law_1776 ⟨by omega, by omega⟩ (fun r107 u9 H locs hw hP hS => ?_)
  have hw := hw.symm
  subst hw
  refine lv_iload hx hb dL_law_1779 (lv_at hl 1 rfl) ?_
  refine lv_icmp_eq (tgt := 1786) hx hb dL_law_1781 (by decide) (fun c111 => ?_) (fun c111 => ?_)
  · have h := gif_t c111 h
    refine lv_iload hx hb dL_law_1786 (lv_at hl 1 rfl) ?_
    obtain ⟨_, hv, h⟩ := hb_some h
    have K1803 : ∀ (H : Heap) (locs : List Loc) (ls : Array Slot), va_P (dC, dI) vwCl (hW 138 ca b I104 O J101) H → va_S A s.heap H locs → lv_has ls 9 [(0, .ref sb), (1, .ref (b 0)), (2, .ref (b 129)), (3, .ref (b 137)), (4, .int p4)] → W p l e room_1 s m #[Value.ref sb] below meth c H locs (cn + 1) (sn + 6) Q (F0 m 1803 ls []) := by
      intro H locs ls hP hS hl
      refine lv_goto (tgt := 2558) hx hb dL_law_1803 (by decide) ?_
      refine W.widen (k := cn + 8) (n := sn + 100) (by omega) (by omega) ?_
      cases h
      exact K _ _ _ hP hS (lv_sub hl [0, 1, 2, 3, 4] rfl)
    have h := hv
    refine lv_if_ne (tgt := 1803) hx hb dL_law_1788 (by decide) (fun c110 => ?_) (fun c110 => ?_)
    · have h := gif_f c110 h
      refine W.widen (k := (cn + 1)) (n := (sn + 6)) (by omega) (by omega) ?_
      cases h
      exact K1803 _ _ _ hP hS (lv_sub hl [2, 3, 4, 5, 6] rfl)
    · have h := gif_t c110 h
      refine lv_aload_n hx hb dL_law_1791 rfl (lv_at hl 5 rfl) ?_
      refine lv_iconst (v := 0) hx hb dL_law_1792 (by decide) ?_
      refine ga23 X hP kc_137 (sk_in hN kc_137 (by decide)) (L := 1) (by decide) (by decide) dL_law_1793 ?_
      refine lv_iload hx hb dL_law_1794 (lv_at hl 0 rfl) ?_
      refine lv_i2l (v := (r105).toInt64) hx hb dL_law_1796 rfl ?_
      refine W.lcmp hx hb dL_law_1797 ?_
      refine lv_if_eq (tgt := 1803) hx hb dL_law_1798 (by decide) (fun c109 => ?_) (fun c109 => ?_)
      · have h := gif_t c109 h
        refine W.widen (k := (cn + 1)) (n := (sn + 6)) (by omega) (by omega) ?_
        cases h
        exact K1803 _ _ _ hP hS (lv_sub hl [2, 3, 4, 5, 6] rfl)
      · have h := gif_f c109 h
        refine lv_iconst (v := 0) hx hb dL_law_1801 (by decide) ?_
        cases h
  · have h := gif_f c111 h
    refine lv_iconst (v := 0) hx hb dL_law_1784 (by decide) ?_
    cases h
def f_L_case31 (SL : Nat) (sx : Nat → Int32) (p4 : Int32) (I : Nat → Nat → Int32) (O : Nat → Nat → Option Nat) (J : Nat → Nat → Int64) : Option ((Nat → Nat → Int32) × (Nat → Nat → Option Nat) × (Nat → Nat → Int64)) :=
  hg (gin (p4 + (1 : Int32)) SL) <|
  (f_L_isDrafting (sx (p4 + (1 : Int32)).toNatClampNeg) I J).bind fun (r102, J101) =>
  hg (gin (p4 + (1 : Int32)) SL) <|
  (f_X8_isDrafting (sx (p4 + (1 : Int32)).toNatClampNeg) I).bind fun (r105, I104) =>
  (f_X8_thrown I104).bind fun r107 =>
  if r107 = r102 then
    (show Option (Unit) from
      if r102 = 0 then
        (show Option (Int64) from
          if r105 = 0 then
            some (0 : Int64)
          else
            some (1 : Int64)).bind fun p109 =>
        if (lg_cmp (J101 137 (0 : Int32).toNatClampNeg) p109) = 0 then
          some ()
        else
          none
      else
        some ()).bind fun _ =>
    some (I104, O, J101)
  else
    none
set_option maxHeartbeats 8000000 in
set_option maxRecDepth 100000 in
theorem lc31 {p : Program} {l : Launch} {e : Env} {s : State} {m : MethodId} {below : List Frame} {meth : Method} {c : Code} {Q : State → Prop} {sb SL : Nat} {sx : Nat → Int32} {dC : Nat → ClassId} {dI : Nat → Nat → Nat} {ca : Nat → ClassId} {b : Nat → Nat} {A : Nat → Prop} (hlf : l.stackTraces = false) (hml : c.maxLocals = 9) (X : gCx p s m #[Value.ref sb] c RL cL_law wsL_law 9 dC dI ca b A 138) (hX : va_X sb SL sx s s.heap) (hbl : sb < s.heap.size) (hbA : ¬ A sb) (p4 : Int32) (I : Nat → Nat → Int32) (O : Nat → Nat → Option Nat) (J : Nat → Nat → Int64) (I9 : Nat → Nat → Int32) (O9 : Nat → Nat → Option Nat) (J9 : Nat → Nat → Int64) (h : f_L_case31 SL sx p4 I O J = some (I9, O9, J9)) {cn sn : Nat} (hc : cn + 8 ≤ 601024) (hs : sn + 100 ≤ 7293034) (H : Heap) (locs : List Loc) (ls : Array Slot) (hP : va_P (dC, dI) vwCl (hW 138 ca b I O J) H) (hS : va_S A s.heap H locs) (hl : lv_has ls 9 [(0, .ref sb), (1, .ref (b 0)), (2, .ref (b 129)), (3, .ref (b 137)), (4, .int p4)]) (K : ∀ (H : Heap) (locs : List Loc) (ls : Array Slot), va_P (dC, dI) vwCl (hW 138 ca b I9 O9 J9) H → va_S A s.heap H locs → lv_has ls 9 [(0, .ref sb), (1, .ref (b 0)), (2, .ref (b 129)), (3, .ref (b 137)), (4, .int p4)] → W p l e room_1 s m #[Value.ref sb] below meth c H locs (cn + 8) (sn + 100) Q (F0 m 2558 ls [])) : W p l e room_1 s m #[Value.ref sb] below meth c H locs cn sn Q (F0 m 1806 ls []) := by
  have hx := X.x
  have hb := X.cb
  have hA := X.ad
  have hN : 138 ≤ 138 := Nat.le_refl 138
  have hRc : room_1.cells = 601024 := rfl
  have hRs : room_1.slots = 7293034 := rfl
  unfold f_L_case31 at h
  refine lv_aload_n hx hb dL_law_1806 rfl (lv_at hl 1 rfl) ?_
  refine lv_aload_n hx hb dL_law_1807 rfl (lv_at hl 0 rfl) ?_
  refine lv_iload hx hb dL_law_1808 (lv_at hl 4 rfl) ?_
  refine lv_iconst (v := 1) hx hb dL_law_1810 (by decide) ?_
  refine lv_iadd hx hb dL_law_1811 ?_
  obtain ⟨hgi, h⟩ := hg_some h
  refine va_sld hx hb hX hbl hbA hS (gin_vp hgi) dL_law_1812 ?_
  refine lv_aload_n hx hb dL_law_1813 rfl (lv_at hl 3 rfl) ?_
  obtain ⟨q103, hcq103, h⟩ := hb_some h
  refine gcSW_i (As := [.ref (b 0), .int (sx (p4 + (1 : Int32)).toNatClampNeg), .ref (b 137)]) (rest := []) (BH := (fun (u : Nat → Nat → Int64) H => va_P (dC, dI) vwCl (hW 138 ca b I O u) H)) X hP hS (c_L_isDrafting hlf hN hA I O J (sx (p4 + (1 : Int32)).toNatClampNeg) q103 hcq103) (vx_cwSW 3 X.ts gL_law_L_isDrafting rfl rfl rfl (by decide +kernel) ⟨Nat.le_of_ble_eq_true rfl, Nat.le_of_ble_eq_true rfl⟩) rfl hl.1 rfl (Nat.le_of_ble_eq_true rfl) dL_law_1814 ⟨by omega, by omega⟩ (fun r102 J101 H locs hw hP hS => ?_)
  subst hw
  refine lv_istore (lv' := [(5, .int r102), (0, .ref sb), (1, .ref (b 0)), (2, .ref (b 129)), (3, .ref (b 137)), (4, .int p4)]) hx hb dL_law_1817 hl (by decide) rfl (fun ls hl => ?_)
  refine lv_aload_n hx hb dL_law_1819 rfl (lv_at hl 3 rfl) ?_
  refine lv_aload_n hx hb dL_law_1820 rfl (lv_at hl 1 rfl) ?_
  refine lv_iload hx hb dL_law_1821 (lv_at hl 5 rfl) ?_
  refine lv_iconst (v := 1) hx hb dL_law_1823 (by decide) ?_
  refine lv_iadd hx hb dL_law_1824 ?_
  obtain ⟨hgi, h⟩ := hg_some h
  refine va_sld hx hb hX hbl hbA hS (gin_vp hgi) dL_law_1825 ?_
  obtain ⟨q106, hcq106, h⟩ := hb_some h
  refine gdV_i (As := [.int (sx (p4 + (1 : Int32)).toNatClampNeg)]) (rest := []) (BH := (fun (u : Nat → Nat → Int32) H => va_P (dC, dI) vwCl (hW 138 ca b u O J101) H)) X hP hS (c_X8_isDrafting hN hA I O J101 (sx (p4 + (1 : Int32)).toNatClampNeg) q106 hcq106) (cwV 1 X.ts gL_law_X8_isDrafting rfl rfl rfl (by decide +kernel) ⟨Nat.le_of_ble_eq_true rfl, Nat.le_of_ble_eq_true rfl⟩) (gr8 X hP kc_129 (sk_in hN kc_129 (by decide))) rfl hl.1 rfl (Nat.le_of_ble_eq_true rfl) dL_law_1826 ⟨by omega, by omega⟩ (fun r105 I104 H locs hw hP hS => ?_)
  subst hw
  refine lv_istore (lv' := [(6, .int r105), (5, .int r102), (0, .ref sb), (1, .ref (b 0)), (2, .ref (b 129)), (3, .ref (b 137)), (4, .int p4)]) hx hb dL_law_1829 hl (by decide) rfl (fun ls hl => ?_)
  refine lv_aload_n hx hb dL_law_1831 rfl (lv_at hl 4 rfl) ?_
  obtain ⟨q108, hcq108, h⟩ := hb_some h
  refine gdV_i (As := []) (rest := []) (BH := (fun (u : Unit) H => va_P (dC, dI) vwCl (hW 138 ca b I104 O J101) H)) X hP hS (c_X8_thrown hN hA I104 O J101 q108 hcq108) (cwV 0 X.ts gL_law_X8_thrown rfl rfl rfl (by decide +kernel) ⟨Nat.le_of_ble_eq_true rfl, Nat.le_of_ble_eq_true rfl⟩) (gr8 X hP kc_129 (sk_in hN kc_129 (by decide))) rfl hl.1 rfl (Nat.le_of_ble_eq_true rfl) dL_law_1832 ⟨by omega, by omega⟩ (fun r107 u9 H locs hw hP hS => ?_)
  have hw := hw.symm
  subst hw
  refine lv_iload hx hb dL_law_1835 (lv_at hl 1 rfl) ?_
  refine lv_icmp_eq (tgt := 1842) hx hb dL_law_1837 (by decide) (fun c113 => ?_) (fun c113 => ?_)
  · have h := gif_t c113 h
    refine lv_iload hx hb dL_law_1842 (lv_at hl 1 rfl) ?_
    obtain ⟨_, hv, h⟩ := hb_some h
    have K1866 : ∀ (H : Heap) (locs : List Loc) (ls : Array Slot), va_P (dC, dI) vwCl (hW 138 ca b I104 O J101) H → va_S A s.heap H locs → lv_has ls 9 [(0, .ref sb), (1, .ref (b 0)), (2, .ref (b 129)), (3, .ref (b 137)), (4, .int p4)] → W p l e room_1 s m #[Value.ref sb] below meth c H locs (cn + 2) (sn + 12) Q (F0 m 1866 ls []) := by
      intro H locs ls hP hS hl
      refine lv_goto (tgt := 2558) hx hb dL_law_1866 (by decide) ?_
      refine W.widen (k := cn + 8) (n := sn + 100) (by omega) (by omega) ?_
      cases h
      exact K _ _ _ hP hS (lv_sub hl [0, 1, 2, 3, 4] rfl)
    have h := hv
    refine lv_if_ne (tgt := 1866) hx hb dL_law_1844 (by decide) (fun c112 => ?_) (fun c112 => ?_)
    · have h := gif_f c112 h
      refine W.widen (k := (cn + 2)) (n := (sn + 12)) (by omega) (by omega) ?_
      cases h
      exact K1866 _ _ _ hP hS (lv_sub hl [2, 3, 4, 5, 6] rfl)
    · have h := gif_t c112 h
      refine lv_aload_n hx hb dL_law_1847 rfl (lv_at hl 5 rfl) ?_
      refine lv_iconst (v := 0) hx hb dL_law_1848 (by decide) ?_
      refine ga23 X hP kc_137 (sk_in hN kc_137 (by decide)) (L := 1) (by decide) (by decide) dL_law_1849 ?_
      refine lv_iload hx hb dL_law_1850 (lv_at hl 0 rfl) ?_
      obtain ⟨p109, hv, h⟩ := hb_some h
      have K1860 : ∀ (H : Heap) (locs : List Loc) (ls : Array Slot), va_P (dC, dI) vwCl (hW 138 ca b I104 O J101) H → va_S A s.heap H locs → lv_has ls 9 [(0, .ref sb), (1, .ref (b 0)), (2, .ref (b 129)), (3, .ref (b 137)), (4, .int p4)] → W p l e room_1 s m #[Value.ref sb] below meth c H locs (cn + 2) (sn + 12) Q (F0 m 1860 ls [.long p109, .long (J101 137 (0 : Int32).toNatClampNeg)]) := by
        intro H locs ls hP hS hl
        refine W.lcmp hx hb dL_law_1860 ?_
        refine lv_if_eq (tgt := 1866) hx hb dL_law_1861 (by decide) (fun c110 => ?_) (fun c110 => ?_)
        · have h := gif_t c110 h
          refine W.widen (k := (cn + 2)) (n := (sn + 12)) (by omega) (by omega) ?_
          cases h
          exact K1866 _ _ _ hP hS (lv_sub hl [0, 1, 2, 3, 4] rfl)
        · have h := gif_f c110 h
          refine lv_iconst (v := 0) hx hb dL_law_1864 (by decide) ?_
          cases h
      have h := hv
      refine lv_if_eq (tgt := 1859) hx hb dL_law_1852 (by decide) (fun c111 => ?_) (fun c111 => ?_)
      · have h := gif_t c111 h
        refine lv_lconst (v := 0) hx hb dL_law_1859 (by decide) ?_
        refine W.widen (k := (cn + 2)) (n := (sn + 12)) (by omega) (by omega) ?_
        cases h
        exact K1860 _ _ _ hP hS (lv_sub hl [2, 3, 4, 5, 6] rfl)
      · have h := gif_f c111 h
        refine lv_lconst (v := 1) hx hb dL_law_1855 (by decide) ?_
        refine lv_goto (tgt := 1860) hx hb dL_law_1856 (by decide) ?_
        refine W.widen (k := (cn + 2)) (n := (sn + 12)) (by omega) (by omega) ?_
        cases h
        exact K1860 _ _ _ hP hS (lv_sub hl [2, 3, 4, 5, 6] rfl)
  · have h := gif_f c113 h
    refine lv_iconst (v := 0) hx hb dL_law_1840 (by decide) ?_
    cases h
def f_L_case32 (SL : Nat) (sx : Nat → Int32) (p4 : Int32) (I : Nat → Nat → Int32) (O : Nat → Nat → Option Nat) (J : Nat → Nat → Int64) : Option ((Nat → Nat → Int32) × (Nat → Nat → Option Nat) × (Nat → Nat → Int64)) :=
  hg (gin (p4 + (1 : Int32)) SL) <|
  (f_L_whereIs (sx (p4 + (1 : Int32)).toNatClampNeg) I J).bind fun (r102, J101) =>
  hg (gin (p4 + (1 : Int32)) SL) <|
  (f_X8_whereIs (sx (p4 + (1 : Int32)).toNatClampNeg) I).bind fun (r105, I104) =>
  (f_X8_thrown I104).bind fun r107 =>
  if r107 = r102 then
    (show Option (Unit) from
      if r102 = 0 then
        if (lg_cmp (J101 137 (0 : Int32).toNatClampNeg) ((r105).toInt64)) = 0 then
          some ()
        else
          none
      else
        some ()).bind fun _ =>
    some (I104, O, J101)
  else
    none
set_option maxHeartbeats 8000000 in
set_option maxRecDepth 100000 in
theorem lc32 {p : Program} {l : Launch} {e : Env} {s : State} {m : MethodId} {below : List Frame} {meth : Method} {c : Code} {Q : State → Prop} {sb SL : Nat} {sx : Nat → Int32} {dC : Nat → ClassId} {dI : Nat → Nat → Nat} {ca : Nat → ClassId} {b : Nat → Nat} {A : Nat → Prop} (hlf : l.stackTraces = false) (hml : c.maxLocals = 9) (X : gCx p s m #[Value.ref sb] c RL cL_law wsL_law 9 dC dI ca b A 138) (hX : va_X sb SL sx s s.heap) (hbl : sb < s.heap.size) (hbA : ¬ A sb) (p4 : Int32) (I : Nat → Nat → Int32) (O : Nat → Nat → Option Nat) (J : Nat → Nat → Int64) (I9 : Nat → Nat → Int32) (O9 : Nat → Nat → Option Nat) (J9 : Nat → Nat → Int64) (h : f_L_case32 SL sx p4 I O J = some (I9, O9, J9)) {cn sn : Nat} (hc : cn + 8 ≤ 601024) (hs : sn + 100 ≤ 7293034) (H : Heap) (locs : List Loc) (ls : Array Slot) (hP : va_P (dC, dI) vwCl (hW 138 ca b I O J) H) (hS : va_S A s.heap H locs) (hl : lv_has ls 9 [(0, .ref sb), (1, .ref (b 0)), (2, .ref (b 129)), (3, .ref (b 137)), (4, .int p4)]) (K : ∀ (H : Heap) (locs : List Loc) (ls : Array Slot), va_P (dC, dI) vwCl (hW 138 ca b I9 O9 J9) H → va_S A s.heap H locs → lv_has ls 9 [(0, .ref sb), (1, .ref (b 0)), (2, .ref (b 129)), (3, .ref (b 137)), (4, .int p4)] → W p l e room_1 s m #[Value.ref sb] below meth c H locs (cn + 8) (sn + 100) Q (F0 m 2558 ls [])) : W p l e room_1 s m #[Value.ref sb] below meth c H locs cn sn Q (F0 m 1869 ls []) := by
  have hx := X.x
  have hb := X.cb
  have hA := X.ad
  have hN : 138 ≤ 138 := Nat.le_refl 138
  have hRc : room_1.cells = 601024 := rfl
  have hRs : room_1.slots = 7293034 := rfl
  unfold f_L_case32 at h
  refine lv_aload_n hx hb dL_law_1869 rfl (lv_at hl 1 rfl) ?_
  refine lv_aload_n hx hb dL_law_1870 rfl (lv_at hl 0 rfl) ?_
  refine lv_iload hx hb dL_law_1871 (lv_at hl 4 rfl) ?_
  refine lv_iconst (v := 1) hx hb dL_law_1873 (by decide) ?_
  refine lv_iadd hx hb dL_law_1874 ?_
  obtain ⟨hgi, h⟩ := hg_some h
  refine va_sld hx hb hX hbl hbA hS (gin_vp hgi) dL_law_1875 ?_
  refine lv_aload_n hx hb dL_law_1876 rfl (lv_at hl 3 rfl) ?_
  obtain ⟨q103, hcq103, h⟩ := hb_some h
  refine gcSW_i (As := [.ref (b 0), .int (sx (p4 + (1 : Int32)).toNatClampNeg), .ref (b 137)]) (rest := []) (BH := (fun (u : Nat → Nat → Int64) H => va_P (dC, dI) vwCl (hW 138 ca b I O u) H)) X hP hS (c_L_whereIs hlf hN hA I O J (sx (p4 + (1 : Int32)).toNatClampNeg) q103 hcq103) (vx_cwSW 3 X.ts gL_law_L_whereIs rfl rfl rfl (by decide +kernel) ⟨Nat.le_of_ble_eq_true rfl, Nat.le_of_ble_eq_true rfl⟩) rfl hl.1 rfl (Nat.le_of_ble_eq_true rfl) dL_law_1877 ⟨by omega, by omega⟩ (fun r102 J101 H locs hw hP hS => ?_)
  subst hw
  refine lv_istore (lv' := [(5, .int r102), (0, .ref sb), (1, .ref (b 0)), (2, .ref (b 129)), (3, .ref (b 137)), (4, .int p4)]) hx hb dL_law_1880 hl (by decide) rfl (fun ls hl => ?_)
  refine lv_aload_n hx hb dL_law_1882 rfl (lv_at hl 3 rfl) ?_
  refine lv_aload_n hx hb dL_law_1883 rfl (lv_at hl 1 rfl) ?_
  refine lv_iload hx hb dL_law_1884 (lv_at hl 5 rfl) ?_
  refine lv_iconst (v := 1) hx hb dL_law_1886 (by decide) ?_
  refine lv_iadd hx hb dL_law_1887 ?_
  obtain ⟨hgi, h⟩ := hg_some h
  refine va_sld hx hb hX hbl hbA hS (gin_vp hgi) dL_law_1888 ?_
  obtain ⟨q106, hcq106, h⟩ := hb_some h
  refine gdV_i (As := [.int (sx (p4 + (1 : Int32)).toNatClampNeg)]) (rest := []) (BH := (fun (u : Nat → Nat → Int32) H => va_P (dC, dI) vwCl (hW 138 ca b u O J101) H)) X hP hS (c_X8_whereIs hN hA I O J101 (sx (p4 + (1 : Int32)).toNatClampNeg) q106 hcq106) (cwV 1 X.ts gL_law_X8_whereIs rfl rfl rfl (by decide +kernel) ⟨Nat.le_of_ble_eq_true rfl, Nat.le_of_ble_eq_true rfl⟩) (gr8 X hP kc_129 (sk_in hN kc_129 (by decide))) rfl hl.1 rfl (Nat.le_of_ble_eq_true rfl) dL_law_1889 ⟨by omega, by omega⟩ (fun r105 I104 H locs hw hP hS => ?_)
  subst hw
  refine lv_istore (lv' := [(6, .int r105), (5, .int r102), (0, .ref sb), (1, .ref (b 0)), (2, .ref (b 129)), (3, .ref (b 137)), (4, .int p4)]) hx hb dL_law_1892 hl (by decide) rfl (fun ls hl => ?_)
  refine lv_aload_n hx hb dL_law_1894 rfl (lv_at hl 4 rfl) ?_
  obtain ⟨q108, hcq108, h⟩ := hb_some h
  refine gdV_i (As := []) (rest := []) (BH := (fun (u : Unit) H => va_P (dC, dI) vwCl (hW 138 ca b I104 O J101) H)) X hP hS (c_X8_thrown hN hA I104 O J101 q108 hcq108) (cwV 0 X.ts gL_law_X8_thrown rfl rfl rfl (by decide +kernel) ⟨Nat.le_of_ble_eq_true rfl, Nat.le_of_ble_eq_true rfl⟩) (gr8 X hP kc_129 (sk_in hN kc_129 (by decide))) rfl hl.1 rfl (Nat.le_of_ble_eq_true rfl) dL_law_1895 ⟨by omega, by omega⟩ (fun r107 u9 H locs hw hP hS => ?_)
  have hw := hw.symm
  subst hw
  refine lv_iload hx hb dL_law_1898 (lv_at hl 1 rfl) ?_
  refine lv_icmp_eq (tgt := 1905) hx hb dL_law_1900 (by decide) (fun c111 => ?_) (fun c111 => ?_)
  · have h := gif_t c111 h
    refine lv_iload hx hb dL_law_1905 (lv_at hl 1 rfl) ?_
    obtain ⟨_, hv, h⟩ := hb_some h
    have K1922 : ∀ (H : Heap) (locs : List Loc) (ls : Array Slot), va_P (dC, dI) vwCl (hW 138 ca b I104 O J101) H → va_S A s.heap H locs → lv_has ls 9 [(0, .ref sb), (1, .ref (b 0)), (2, .ref (b 129)), (3, .ref (b 137)), (4, .int p4)] → W p l e room_1 s m #[Value.ref sb] below meth c H locs (cn + 1) (sn + 6) Q (F0 m 1922 ls []) := by
      intro H locs ls hP hS hl
      refine lv_goto (tgt := 2558) hx hb dL_law_1922 (by decide) ?_
      refine W.widen (k := cn + 8) (n := sn + 100) (by omega) (by omega) ?_
      cases h
      exact K _ _ _ hP hS (lv_sub hl [0, 1, 2, 3, 4] rfl)
    have h := hv
    refine lv_if_ne (tgt := 1922) hx hb dL_law_1907 (by decide) (fun c110 => ?_) (fun c110 => ?_)
    · have h := gif_f c110 h
      refine W.widen (k := (cn + 1)) (n := (sn + 6)) (by omega) (by omega) ?_
      cases h
      exact K1922 _ _ _ hP hS (lv_sub hl [2, 3, 4, 5, 6] rfl)
    · have h := gif_t c110 h
      refine lv_aload_n hx hb dL_law_1910 rfl (lv_at hl 5 rfl) ?_
      refine lv_iconst (v := 0) hx hb dL_law_1911 (by decide) ?_
      refine ga23 X hP kc_137 (sk_in hN kc_137 (by decide)) (L := 1) (by decide) (by decide) dL_law_1912 ?_
      refine lv_iload hx hb dL_law_1913 (lv_at hl 0 rfl) ?_
      refine lv_i2l (v := (r105).toInt64) hx hb dL_law_1915 rfl ?_
      refine W.lcmp hx hb dL_law_1916 ?_
      refine lv_if_eq (tgt := 1922) hx hb dL_law_1917 (by decide) (fun c109 => ?_) (fun c109 => ?_)
      · have h := gif_t c109 h
        refine W.widen (k := (cn + 1)) (n := (sn + 6)) (by omega) (by omega) ?_
        cases h
        exact K1922 _ _ _ hP hS (lv_sub hl [2, 3, 4, 5, 6] rfl)
      · have h := gif_f c109 h
        refine lv_iconst (v := 0) hx hb dL_law_1920 (by decide) ?_
        cases h
  · have h := gif_f c111 h
    refine lv_iconst (v := 0) hx hb dL_law_1903 (by decide) ?_
    cases h
def f_L_case33 (SL : Nat) (sx : Nat → Int32) (p4 : Int32) (I : Nat → Nat → Int32) (O : Nat → Nat → Option Nat) (J : Nat → Nat → Int64) : Option ((Nat → Nat → Int32) × (Nat → Nat → Option Nat) × (Nat → Nat → Int64)) :=
  hg (gin (p4 + (1 : Int32)) SL) <|
  (f_L_allowance (sx (p4 + (1 : Int32)).toNatClampNeg) I J).bind fun (r102, J101) =>
  hg (gin (p4 + (1 : Int32)) SL) <|
  (f_X8_allowance (sx (p4 + (1 : Int32)).toNatClampNeg) I).bind fun (r105, I104) =>
  (f_X8_thrown I104).bind fun r107 =>
  if r107 = r102 then
    (show Option (Unit) from
      if r102 = 0 then
        if (lg_cmp (J101 137 (0 : Int32).toNatClampNeg) ((r105).toInt64)) = 0 then
          some ()
        else
          none
      else
        some ()).bind fun _ =>
    some (I104, O, J101)
  else
    none
set_option maxHeartbeats 8000000 in
set_option maxRecDepth 100000 in
theorem lc33 {p : Program} {l : Launch} {e : Env} {s : State} {m : MethodId} {below : List Frame} {meth : Method} {c : Code} {Q : State → Prop} {sb SL : Nat} {sx : Nat → Int32} {dC : Nat → ClassId} {dI : Nat → Nat → Nat} {ca : Nat → ClassId} {b : Nat → Nat} {A : Nat → Prop} (hlf : l.stackTraces = false) (hml : c.maxLocals = 9) (X : gCx p s m #[Value.ref sb] c RL cL_law wsL_law 9 dC dI ca b A 138) (hX : va_X sb SL sx s s.heap) (hbl : sb < s.heap.size) (hbA : ¬ A sb) (p4 : Int32) (I : Nat → Nat → Int32) (O : Nat → Nat → Option Nat) (J : Nat → Nat → Int64) (I9 : Nat → Nat → Int32) (O9 : Nat → Nat → Option Nat) (J9 : Nat → Nat → Int64) (h : f_L_case33 SL sx p4 I O J = some (I9, O9, J9)) {cn sn : Nat} (hc : cn + 8 ≤ 601024) (hs : sn + 100 ≤ 7293034) (H : Heap) (locs : List Loc) (ls : Array Slot) (hP : va_P (dC, dI) vwCl (hW 138 ca b I O J) H) (hS : va_S A s.heap H locs) (hl : lv_has ls 9 [(0, .ref sb), (1, .ref (b 0)), (2, .ref (b 129)), (3, .ref (b 137)), (4, .int p4)]) (K : ∀ (H : Heap) (locs : List Loc) (ls : Array Slot), va_P (dC, dI) vwCl (hW 138 ca b I9 O9 J9) H → va_S A s.heap H locs → lv_has ls 9 [(0, .ref sb), (1, .ref (b 0)), (2, .ref (b 129)), (3, .ref (b 137)), (4, .int p4)] → W p l e room_1 s m #[Value.ref sb] below meth c H locs (cn + 8) (sn + 100) Q (F0 m 2558 ls [])) : W p l e room_1 s m #[Value.ref sb] below meth c H locs cn sn Q (F0 m 1925 ls []) := by
  have hx := X.x
  have hb := X.cb
  have hA := X.ad
  have hN : 138 ≤ 138 := Nat.le_refl 138
  have hRc : room_1.cells = 601024 := rfl
  have hRs : room_1.slots = 7293034 := rfl
  unfold f_L_case33 at h
  refine lv_aload_n hx hb dL_law_1925 rfl (lv_at hl 1 rfl) ?_
  refine lv_aload_n hx hb dL_law_1926 rfl (lv_at hl 0 rfl) ?_
  refine lv_iload hx hb dL_law_1927 (lv_at hl 4 rfl) ?_
  refine lv_iconst (v := 1) hx hb dL_law_1929 (by decide) ?_
  refine lv_iadd hx hb dL_law_1930 ?_
  obtain ⟨hgi, h⟩ := hg_some h
  refine va_sld hx hb hX hbl hbA hS (gin_vp hgi) dL_law_1931 ?_
  refine lv_aload_n hx hb dL_law_1932 rfl (lv_at hl 3 rfl) ?_
  obtain ⟨q103, hcq103, h⟩ := hb_some h
  refine gcSW_i (As := [.ref (b 0), .int (sx (p4 + (1 : Int32)).toNatClampNeg), .ref (b 137)]) (rest := []) (BH := (fun (u : Nat → Nat → Int64) H => va_P (dC, dI) vwCl (hW 138 ca b I O u) H)) X hP hS (c_L_allowance hlf hN hA I O J (sx (p4 + (1 : Int32)).toNatClampNeg) q103 hcq103) (vx_cwSW 3 X.ts gL_law_L_allowance rfl rfl rfl (by decide +kernel) ⟨Nat.le_of_ble_eq_true rfl, Nat.le_of_ble_eq_true rfl⟩) rfl hl.1 rfl (Nat.le_of_ble_eq_true rfl) dL_law_1933 ⟨by omega, by omega⟩ (fun r102 J101 H locs hw hP hS => ?_)
  subst hw
  refine lv_istore (lv' := [(5, .int r102), (0, .ref sb), (1, .ref (b 0)), (2, .ref (b 129)), (3, .ref (b 137)), (4, .int p4)]) hx hb dL_law_1936 hl (by decide) rfl (fun ls hl => ?_)
  refine lv_aload_n hx hb dL_law_1938 rfl (lv_at hl 3 rfl) ?_
  refine lv_aload_n hx hb dL_law_1939 rfl (lv_at hl 1 rfl) ?_
  refine lv_iload hx hb dL_law_1940 (lv_at hl 5 rfl) ?_
  refine lv_iconst (v := 1) hx hb dL_law_1942 (by decide) ?_
  refine lv_iadd hx hb dL_law_1943 ?_
  obtain ⟨hgi, h⟩ := hg_some h
  refine va_sld hx hb hX hbl hbA hS (gin_vp hgi) dL_law_1944 ?_
  obtain ⟨q106, hcq106, h⟩ := hb_some h
  refine gdV_i (As := [.int (sx (p4 + (1 : Int32)).toNatClampNeg)]) (rest := []) (BH := (fun (u : Nat → Nat → Int32) H => va_P (dC, dI) vwCl (hW 138 ca b u O J101) H)) X hP hS (c_X8_allowance hN hA I O J101 (sx (p4 + (1 : Int32)).toNatClampNeg) q106 hcq106) (cwV 1 X.ts gL_law_X8_allowance rfl rfl rfl (by decide +kernel) ⟨Nat.le_of_ble_eq_true rfl, Nat.le_of_ble_eq_true rfl⟩) (gr8 X hP kc_129 (sk_in hN kc_129 (by decide))) rfl hl.1 rfl (Nat.le_of_ble_eq_true rfl) dL_law_1945 ⟨by omega, by omega⟩ (fun r105 I104 H locs hw hP hS => ?_)
  subst hw
  refine lv_istore (lv' := [(6, .int r105), (5, .int r102), (0, .ref sb), (1, .ref (b 0)), (2, .ref (b 129)), (3, .ref (b 137)), (4, .int p4)]) hx hb dL_law_1948 hl (by decide) rfl (fun ls hl => ?_)
  refine lv_aload_n hx hb dL_law_1950 rfl (lv_at hl 4 rfl) ?_
  obtain ⟨q108, hcq108, h⟩ := hb_some h
  refine gdV_i (As := []) (rest := []) (BH := (fun (u : Unit) H => va_P (dC, dI) vwCl (hW 138 ca b I104 O J101) H)) X hP hS (c_X8_thrown hN hA I104 O J101 q108 hcq108) (cwV 0 X.ts gL_law_X8_thrown rfl rfl rfl (by decide +kernel) ⟨Nat.le_of_ble_eq_true rfl, Nat.le_of_ble_eq_true rfl⟩) (gr8 X hP kc_129 (sk_in hN kc_129 (by decide))) rfl hl.1 rfl (Nat.le_of_ble_eq_true rfl) dL_law_1951 ⟨by omega, by omega⟩ (fun r107 u9 H locs hw hP hS => ?_)
  have hw := hw.symm
  subst hw
  refine lv_iload hx hb dL_law_1954 (lv_at hl 1 rfl) ?_
  refine lv_icmp_eq (tgt := 1961) hx hb dL_law_1956 (by decide) (fun c111 => ?_) (fun c111 => ?_)
  · have h := gif_t c111 h
    refine lv_iload hx hb dL_law_1961 (lv_at hl 1 rfl) ?_
    obtain ⟨_, hv, h⟩ := hb_some h
    have K1978 : ∀ (H : Heap) (locs : List Loc) (ls : Array Slot), va_P (dC, dI) vwCl (hW 138 ca b I104 O J101) H → va_S A s.heap H locs → lv_has ls 9 [(0, .ref sb), (1, .ref (b 0)), (2, .ref (b 129)), (3, .ref (b 137)), (4, .int p4)] → W p l e room_1 s m #[Value.ref sb] below meth c H locs (cn + 2) (sn + 12) Q (F0 m 1978 ls []) := by
      intro H locs ls hP hS hl
      refine lv_goto (tgt := 2558) hx hb dL_law_1978 (by decide) ?_
      refine W.widen (k := cn + 8) (n := sn + 100) (by omega) (by omega) ?_
      cases h
      exact K _ _ _ hP hS (lv_sub hl [0, 1, 2, 3, 4] rfl)
    have h := hv
    refine lv_if_ne (tgt := 1978) hx hb dL_law_1963 (by decide) (fun c110 => ?_) (fun c110 => ?_)
    · have h := gif_f c110 h
      refine W.widen (k := (cn + 2)) (n := (sn + 12)) (by omega) (by omega) ?_
      cases h
      exact K1978 _ _ _ hP hS (lv_sub hl [2, 3, 4, 5, 6] rfl)
    · have h := gif_t c110 h
      refine lv_aload_n hx hb dL_law_1966 rfl (lv_at hl 5 rfl) ?_
      refine lv_iconst (v := 0) hx hb dL_law_1967 (by decide) ?_
      refine ga23 X hP kc_137 (sk_in hN kc_137 (by decide)) (L := 1) (by decide) (by decide) dL_law_1968 ?_
      refine lv_iload hx hb dL_law_1969 (lv_at hl 0 rfl) ?_
      refine lv_i2l (v := (r105).toInt64) hx hb dL_law_1971 rfl ?_
      refine W.lcmp hx hb dL_law_1972 ?_
      refine lv_if_eq (tgt := 1978) hx hb dL_law_1973 (by decide) (fun c109 => ?_) (fun c109 => ?_)
      · have h := gif_t c109 h
        refine W.widen (k := (cn + 2)) (n := (sn + 12)) (by omega) (by omega) ?_
        cases h
        exact K1978 _ _ _ hP hS (lv_sub hl [2, 3, 4, 5, 6] rfl)
      · have h := gif_f c109 h
        refine lv_iconst (v := 0) hx hb dL_law_1976 (by decide) ?_
        cases h
  · have h := gif_f c111 h
    refine lv_iconst (v := 0) hx hb dL_law_1959 (by decide) ?_
    cases h
def f_L_case34 (SL : Nat) (sx : Nat → Int32) (p4 : Int32) (I : Nat → Nat → Int32) (O : Nat → Nat → Option Nat) (J : Nat → Nat → Int64) : Option ((Nat → Nat → Int32) × (Nat → Nat → Option Nat) × (Nat → Nat → Int64)) :=
  hg (gin (p4 + (1 : Int32)) SL) <|
  hg (gin (p4 + (2 : Int32)) SL) <|
  (f_L_wouldFly (sx (p4 + (1 : Int32)).toNatClampNeg) (sx (p4 + (2 : Int32)).toNatClampNeg) I O J).bind fun (r104, I101, O102, J103) =>
  hg (gin (p4 + (1 : Int32)) SL) <|
  hg (gin (p4 + (2 : Int32)) SL) <|
  (f_X8_wouldFly (sx (p4 + (1 : Int32)).toNatClampNeg) (sx (p4 + (2 : Int32)).toNatClampNeg) I101).bind fun (r107, I106) =>
  (f_X8_thrown I106).bind fun r109 =>
  if r109 = r104 then
    (show Option (Unit) from
      if r104 = 0 then
        if (lg_cmp (J103 137 (0 : Int32).toNatClampNeg) ((r107).toInt64)) = 0 then
          some ()
        else
          none
      else
        some ()).bind fun _ =>
    some (I106, O102, J103)
  else
    none
set_option maxHeartbeats 8000000 in
set_option maxRecDepth 100000 in
theorem lc34 {p : Program} {l : Launch} {e : Env} {s : State} {m : MethodId} {below : List Frame} {meth : Method} {c : Code} {Q : State → Prop} {sb SL : Nat} {sx : Nat → Int32} {dC : Nat → ClassId} {dI : Nat → Nat → Nat} {ca : Nat → ClassId} {b : Nat → Nat} {A : Nat → Prop} (hlf : l.stackTraces = false) (hml : c.maxLocals = 9) (X : gCx p s m #[Value.ref sb] c RL cL_law wsL_law 9 dC dI ca b A 138) (hX : va_X sb SL sx s s.heap) (hbl : sb < s.heap.size) (hbA : ¬ A sb) (p4 : Int32) (I : Nat → Nat → Int32) (O : Nat → Nat → Option Nat) (J : Nat → Nat → Int64) (I9 : Nat → Nat → Int32) (O9 : Nat → Nat → Option Nat) (J9 : Nat → Nat → Int64) (h : f_L_case34 SL sx p4 I O J = some (I9, O9, J9)) {cn sn : Nat} (hc : cn + 8 ≤ 601024) (hs : sn + 100 ≤ 7293034) (H : Heap) (locs : List Loc) (ls : Array Slot) (hP : va_P (dC, dI) vwCl (hW 138 ca b I O J) H) (hS : va_S A s.heap H locs) (hl : lv_has ls 9 [(0, .ref sb), (1, .ref (b 0)), (2, .ref (b 129)), (3, .ref (b 137)), (4, .int p4)]) (K : ∀ (H : Heap) (locs : List Loc) (ls : Array Slot), va_P (dC, dI) vwCl (hW 138 ca b I9 O9 J9) H → va_S A s.heap H locs → lv_has ls 9 [(0, .ref sb), (1, .ref (b 0)), (2, .ref (b 129)), (3, .ref (b 137)), (4, .int p4)] → W p l e room_1 s m #[Value.ref sb] below meth c H locs (cn + 8) (sn + 100) Q (F0 m 2558 ls [])) : W p l e room_1 s m #[Value.ref sb] below meth c H locs cn sn Q (F0 m 1981 ls []) := by
  have hx := X.x
  have hb := X.cb
  have hA := X.ad
  have hN : 138 ≤ 138 := Nat.le_refl 138
  have hRc : room_1.cells = 601024 := rfl
  have hRs : room_1.slots = 7293034 := rfl
  unfold f_L_case34 at h
  refine lv_aload_n hx hb dL_law_1981 rfl (lv_at hl 1 rfl) ?_
  refine lv_aload_n hx hb dL_law_1982 rfl (lv_at hl 0 rfl) ?_
  refine lv_iload hx hb dL_law_1983 (lv_at hl 4 rfl) ?_
  refine lv_iconst (v := 1) hx hb dL_law_1985 (by decide) ?_
  refine lv_iadd hx hb dL_law_1986 ?_
  obtain ⟨hgi, h⟩ := hg_some h
  refine va_sld hx hb hX hbl hbA hS (gin_vp hgi) dL_law_1987 ?_
  refine lv_aload_n hx hb dL_law_1988 rfl (lv_at hl 0 rfl) ?_
  refine lv_iload hx hb dL_law_1989 (lv_at hl 4 rfl) ?_
  refine lv_iconst (v := 2) hx hb dL_law_1991 (by decide) ?_
  refine lv_iadd hx hb dL_law_1992 ?_
  obtain ⟨hgi, h⟩ := hg_some h
  refine va_sld hx hb hX hbl hbA hS (gin_vp hgi) dL_law_1993 ?_
  refine lv_aload_n hx hb dL_law_1994 rfl (lv_at hl 3 rfl) ?_
  obtain ⟨q105, hcq105, h⟩ := hb_some h
  refine gcSW_i (As := [.ref (b 0), .int (sx (p4 + (1 : Int32)).toNatClampNeg), .int (sx (p4 + (2 : Int32)).toNatClampNeg), .ref (b 137)]) (rest := []) (BH := (fun (u : (Nat → Nat → Int32) × (Nat → Nat → Option Nat) × (Nat → Nat → Int64)) H => va_P (dC, dI) vwCl (hW 138 ca b u.1 u.2.1 u.2.2) H)) X hP hS (c_L_wouldFly hlf hN hA I O J (sx (p4 + (1 : Int32)).toNatClampNeg) (sx (p4 + (2 : Int32)).toNatClampNeg) q105 hcq105) (vx_cwSW 4 X.ts gL_law_L_wouldFly rfl rfl rfl (by decide +kernel) ⟨Nat.le_of_ble_eq_true rfl, Nat.le_of_ble_eq_true rfl⟩) rfl hl.1 rfl (Nat.le_of_ble_eq_true rfl) dL_law_1995 ⟨by omega, by omega⟩ (fun r104 u9 H locs hw hP hS => ?_)
  obtain ⟨I101, O102, J103⟩ := u9
  subst hw
  refine lv_istore (lv' := [(5, .int r104), (0, .ref sb), (1, .ref (b 0)), (2, .ref (b 129)), (3, .ref (b 137)), (4, .int p4)]) hx hb dL_law_1998 hl (by decide) rfl (fun ls hl => ?_)
  refine lv_aload_n hx hb dL_law_2000 rfl (lv_at hl 3 rfl) ?_
  refine lv_aload_n hx hb dL_law_2001 rfl (lv_at hl 1 rfl) ?_
  refine lv_iload hx hb dL_law_2002 (lv_at hl 5 rfl) ?_
  refine lv_iconst (v := 1) hx hb dL_law_2004 (by decide) ?_
  refine lv_iadd hx hb dL_law_2005 ?_
  obtain ⟨hgi, h⟩ := hg_some h
  refine va_sld hx hb hX hbl hbA hS (gin_vp hgi) dL_law_2006 ?_
  refine lv_aload_n hx hb dL_law_2007 rfl (lv_at hl 1 rfl) ?_
  refine lv_iload hx hb dL_law_2008 (lv_at hl 5 rfl) ?_
  refine lv_iconst (v := 2) hx hb dL_law_2010 (by decide) ?_
  refine lv_iadd hx hb dL_law_2011 ?_
  obtain ⟨hgi, h⟩ := hg_some h
  refine va_sld hx hb hX hbl hbA hS (gin_vp hgi) dL_law_2012 ?_
  obtain ⟨q108, hcq108, h⟩ := hb_some h
  refine gdV_i (As := [.int (sx (p4 + (1 : Int32)).toNatClampNeg), .int (sx (p4 + (2 : Int32)).toNatClampNeg)]) (rest := []) (BH := (fun (u : Nat → Nat → Int32) H => va_P (dC, dI) vwCl (hW 138 ca b u O102 J103) H)) X hP hS (c_X8_wouldFly hN hA I101 O102 J103 (sx (p4 + (1 : Int32)).toNatClampNeg) (sx (p4 + (2 : Int32)).toNatClampNeg) q108 hcq108) (cwV 2 X.ts gL_law_X8_wouldFly rfl rfl rfl (by decide +kernel) ⟨Nat.le_of_ble_eq_true rfl, Nat.le_of_ble_eq_true rfl⟩) (gr8 X hP kc_129 (sk_in hN kc_129 (by decide))) rfl hl.1 rfl (Nat.le_of_ble_eq_true rfl) dL_law_2013 ⟨by omega, by omega⟩ (fun r107 I106 H locs hw hP hS => ?_)
  subst hw
  refine lv_istore (lv' := [(6, .int r107), (5, .int r104), (0, .ref sb), (1, .ref (b 0)), (2, .ref (b 129)), (3, .ref (b 137)), (4, .int p4)]) hx hb dL_law_2016 hl (by decide) rfl (fun ls hl => ?_)
  refine lv_aload_n hx hb dL_law_2018 rfl (lv_at hl 4 rfl) ?_
  obtain ⟨q110, hcq110, h⟩ := hb_some h
  refine gdV_i (As := []) (rest := []) (BH := (fun (u : Unit) H => va_P (dC, dI) vwCl (hW 138 ca b I106 O102 J103) H)) X hP hS (c_X8_thrown hN hA I106 O102 J103 q110 hcq110) (cwV 0 X.ts gL_law_X8_thrown rfl rfl rfl (by decide +kernel) ⟨Nat.le_of_ble_eq_true rfl, Nat.le_of_ble_eq_true rfl⟩) (gr8 X hP kc_129 (sk_in hN kc_129 (by decide))) rfl hl.1 rfl (Nat.le_of_ble_eq_true rfl) dL_law_2019 ⟨by omega, by omega⟩ (fun r109 u9 H locs hw hP hS => ?_)
  have hw := hw.symm
  subst hw
  refine lv_iload hx hb dL_law_2022 (lv_at hl 1 rfl) ?_
  refine lv_icmp_eq (tgt := 2029) hx hb dL_law_2024 (by decide) (fun c113 => ?_) (fun c113 => ?_)
  · have h := gif_t c113 h
    refine lv_iload hx hb dL_law_2029 (lv_at hl 1 rfl) ?_
    obtain ⟨_, hv, h⟩ := hb_some h
    have K2046 : ∀ (H : Heap) (locs : List Loc) (ls : Array Slot), va_P (dC, dI) vwCl (hW 138 ca b I106 O102 J103) H → va_S A s.heap H locs → lv_has ls 9 [(0, .ref sb), (1, .ref (b 0)), (2, .ref (b 129)), (3, .ref (b 137)), (4, .int p4)] → W p l e room_1 s m #[Value.ref sb] below meth c H locs (cn + 3) (sn + 18) Q (F0 m 2046 ls []) := by
      intro H locs ls hP hS hl
      refine lv_goto (tgt := 2558) hx hb dL_law_2046 (by decide) ?_
      refine W.widen (k := cn + 8) (n := sn + 100) (by omega) (by omega) ?_
      cases h
      exact K _ _ _ hP hS (lv_sub hl [0, 1, 2, 3, 4] rfl)
    have h := hv
    refine lv_if_ne (tgt := 2046) hx hb dL_law_2031 (by decide) (fun c112 => ?_) (fun c112 => ?_)
    · have h := gif_f c112 h
      refine W.widen (k := (cn + 3)) (n := (sn + 18)) (by omega) (by omega) ?_
      cases h
      exact K2046 _ _ _ hP hS (lv_sub hl [2, 3, 4, 5, 6] rfl)
    · have h := gif_t c112 h
      refine lv_aload_n hx hb dL_law_2034 rfl (lv_at hl 5 rfl) ?_
      refine lv_iconst (v := 0) hx hb dL_law_2035 (by decide) ?_
      refine ga23 X hP kc_137 (sk_in hN kc_137 (by decide)) (L := 1) (by decide) (by decide) dL_law_2036 ?_
      refine lv_iload hx hb dL_law_2037 (lv_at hl 0 rfl) ?_
      refine lv_i2l (v := (r107).toInt64) hx hb dL_law_2039 rfl ?_
      refine W.lcmp hx hb dL_law_2040 ?_
      refine lv_if_eq (tgt := 2046) hx hb dL_law_2041 (by decide) (fun c111 => ?_) (fun c111 => ?_)
      · have h := gif_t c111 h
        refine W.widen (k := (cn + 3)) (n := (sn + 18)) (by omega) (by omega) ?_
        cases h
        exact K2046 _ _ _ hP hS (lv_sub hl [2, 3, 4, 5, 6] rfl)
      · have h := gif_f c111 h
        refine lv_iconst (v := 0) hx hb dL_law_2044 (by decide) ?_
        cases h
  · have h := gif_f c113 h
    refine lv_iconst (v := 0) hx hb dL_law_2027 (by decide) ?_
    cases h
def f_L_case35 (SL : Nat) (sx : Nat → Int32) (p4 : Int32) (I : Nat → Nat → Int32) (O : Nat → Nat → Option Nat) (J : Nat → Nat → Int64) : Option ((Nat → Nat → Int32) × (Nat → Nat → Option Nat) × (Nat → Nat → Int64)) :=
  (f_L_wouldWin I O J).bind fun (r104, I101, O102, J103) =>
  (f_X8_wouldWin I101).bind fun (r107, I106) =>
  (f_X8_thrown I106).bind fun r109 =>
  if r109 = r104 then
    (show Option (Unit) from
      if r104 = 0 then
        if (lg_cmp (J103 137 (0 : Int32).toNatClampNeg) ((r107).toInt64)) = 0 then
          some ()
        else
          none
      else
        some ()).bind fun _ =>
    some (I106, O102, J103)
  else
    none
set_option maxHeartbeats 8000000 in
set_option maxRecDepth 100000 in
theorem lc35 {p : Program} {l : Launch} {e : Env} {s : State} {m : MethodId} {below : List Frame} {meth : Method} {c : Code} {Q : State → Prop} {sb SL : Nat} {sx : Nat → Int32} {dC : Nat → ClassId} {dI : Nat → Nat → Nat} {ca : Nat → ClassId} {b : Nat → Nat} {A : Nat → Prop} (hlf : l.stackTraces = false) (hml : c.maxLocals = 9) (X : gCx p s m #[Value.ref sb] c RL cL_law wsL_law 9 dC dI ca b A 138) (hX : va_X sb SL sx s s.heap) (hbl : sb < s.heap.size) (hbA : ¬ A sb) (p4 : Int32) (I : Nat → Nat → Int32) (O : Nat → Nat → Option Nat) (J : Nat → Nat → Int64) (I9 : Nat → Nat → Int32) (O9 : Nat → Nat → Option Nat) (J9 : Nat → Nat → Int64) (h : f_L_case35 SL sx p4 I O J = some (I9, O9, J9)) {cn sn : Nat} (hc : cn + 8 ≤ 601024) (hs : sn + 100 ≤ 7293034) (H : Heap) (locs : List Loc) (ls : Array Slot) (hP : va_P (dC, dI) vwCl (hW 138 ca b I O J) H) (hS : va_S A s.heap H locs) (hl : lv_has ls 9 [(0, .ref sb), (1, .ref (b 0)), (2, .ref (b 129)), (3, .ref (b 137)), (4, .int p4)]) (K : ∀ (H : Heap) (locs : List Loc) (ls : Array Slot), va_P (dC, dI) vwCl (hW 138 ca b I9 O9 J9) H → va_S A s.heap H locs → lv_has ls 9 [(0, .ref sb), (1, .ref (b 0)), (2, .ref (b 129)), (3, .ref (b 137)), (4, .int p4)] → W p l e room_1 s m #[Value.ref sb] below meth c H locs (cn + 8) (sn + 100) Q (F0 m 2558 ls [])) : W p l e room_1 s m #[Value.ref sb] below meth c H locs cn sn Q (F0 m 2049 ls []) := by
  have hx := X.x
  have hb := X.cb
  have hA := X.ad
  have hN : 138 ≤ 138 := Nat.le_refl 138
  have hRc : room_1.cells = 601024 := rfl
  have hRs : room_1.slots = 7293034 := rfl
  unfold f_L_case35 at h
  refine lv_aload_n hx hb dL_law_2049 rfl (lv_at hl 1 rfl) ?_
  refine lv_aload_n hx hb dL_law_2050 rfl (lv_at hl 3 rfl) ?_
  obtain ⟨q105, hcq105, h⟩ := hb_some h
  refine gcSW_i (As := [.ref (b 0), .ref (b 137)]) (rest := []) (BH := (fun (u : (Nat → Nat → Int32) × (Nat → Nat → Option Nat) × (Nat → Nat → Int64)) H => va_P (dC, dI) vwCl (hW 138 ca b u.1 u.2.1 u.2.2) H)) X hP hS (c_L_wouldWin hlf hN hA I O J q105 hcq105) (vx_cwSW 2 X.ts gL_law_L_wouldWin rfl rfl rfl (by decide +kernel) ⟨Nat.le_of_ble_eq_true rfl, Nat.le_of_ble_eq_true rfl⟩) rfl hl.1 rfl (Nat.le_of_ble_eq_true rfl) dL_law_2051 ⟨by omega, by omega⟩ (fun r104 u9 H locs hw hP hS => ?_)
  obtain ⟨I101, O102, J103⟩ := u9
  subst hw
  refine lv_istore (lv' := [(5, .int r104), (0, .ref sb), (1, .ref (b 0)), (2, .ref (b 129)), (3, .ref (b 137)), (4, .int p4)]) hx hb dL_law_2054 hl (by decide) rfl (fun ls hl => ?_)
  refine lv_aload_n hx hb dL_law_2056 rfl (lv_at hl 3 rfl) ?_
  obtain ⟨q108, hcq108, h⟩ := hb_some h
  refine gdV_i (As := []) (rest := []) (BH := (fun (u : Nat → Nat → Int32) H => va_P (dC, dI) vwCl (hW 138 ca b u O102 J103) H)) X hP hS (c_X8_wouldWin hN hA I101 O102 J103 q108 hcq108) (cwV 0 X.ts gL_law_X8_wouldWin rfl rfl rfl (by decide +kernel) ⟨Nat.le_of_ble_eq_true rfl, Nat.le_of_ble_eq_true rfl⟩) (gr8 X hP kc_129 (sk_in hN kc_129 (by decide))) rfl hl.1 rfl (Nat.le_of_ble_eq_true rfl) dL_law_2057 ⟨by omega, by omega⟩ (fun r107 I106 H locs hw hP hS => ?_)
  subst hw
  refine lv_istore (lv' := [(6, .int r107), (5, .int r104), (0, .ref sb), (1, .ref (b 0)), (2, .ref (b 129)), (3, .ref (b 137)), (4, .int p4)]) hx hb dL_law_2060 hl (by decide) rfl (fun ls hl => ?_)
  refine lv_aload_n hx hb dL_law_2062 rfl (lv_at hl 4 rfl) ?_
  obtain ⟨q110, hcq110, h⟩ := hb_some h
  refine gdV_i (As := []) (rest := []) (BH := (fun (u : Unit) H => va_P (dC, dI) vwCl (hW 138 ca b I106 O102 J103) H)) X hP hS (c_X8_thrown hN hA I106 O102 J103 q110 hcq110) (cwV 0 X.ts gL_law_X8_thrown rfl rfl rfl (by decide +kernel) ⟨Nat.le_of_ble_eq_true rfl, Nat.le_of_ble_eq_true rfl⟩) (gr8 X hP kc_129 (sk_in hN kc_129 (by decide))) rfl hl.1 rfl (Nat.le_of_ble_eq_true rfl) dL_law_2063 ⟨by omega, by omega⟩ (fun r109 u9 H locs hw hP hS => ?_)
  have hw := hw.symm
  subst hw
  refine lv_iload hx hb dL_law_2066 (lv_at hl 1 rfl) ?_
  refine lv_icmp_eq (tgt := 2073) hx hb dL_law_2068 (by decide) (fun c113 => ?_) (fun c113 => ?_)
  · have h := gif_t c113 h
    refine lv_iload hx hb dL_law_2073 (lv_at hl 1 rfl) ?_
    obtain ⟨_, hv, h⟩ := hb_some h
    have K2090 : ∀ (H : Heap) (locs : List Loc) (ls : Array Slot), va_P (dC, dI) vwCl (hW 138 ca b I106 O102 J103) H → va_S A s.heap H locs → lv_has ls 9 [(0, .ref sb), (1, .ref (b 0)), (2, .ref (b 129)), (3, .ref (b 137)), (4, .int p4)] → W p l e room_1 s m #[Value.ref sb] below meth c H locs (cn + 1) (sn + 6) Q (F0 m 2090 ls []) := by
      intro H locs ls hP hS hl
      refine lv_goto (tgt := 2558) hx hb dL_law_2090 (by decide) ?_
      refine W.widen (k := cn + 8) (n := sn + 100) (by omega) (by omega) ?_
      cases h
      exact K _ _ _ hP hS (lv_sub hl [0, 1, 2, 3, 4] rfl)
    have h := hv
    refine lv_if_ne (tgt := 2090) hx hb dL_law_2075 (by decide) (fun c112 => ?_) (fun c112 => ?_)
    · have h := gif_f c112 h
      refine W.widen (k := (cn + 1)) (n := (sn + 6)) (by omega) (by omega) ?_
      cases h
      exact K2090 _ _ _ hP hS (lv_sub hl [2, 3, 4, 5, 6] rfl)
    · have h := gif_t c112 h
      refine lv_aload_n hx hb dL_law_2078 rfl (lv_at hl 5 rfl) ?_
      refine lv_iconst (v := 0) hx hb dL_law_2079 (by decide) ?_
      refine ga23 X hP kc_137 (sk_in hN kc_137 (by decide)) (L := 1) (by decide) (by decide) dL_law_2080 ?_
      refine lv_iload hx hb dL_law_2081 (lv_at hl 0 rfl) ?_
      refine lv_i2l (v := (r107).toInt64) hx hb dL_law_2083 rfl ?_
      refine W.lcmp hx hb dL_law_2084 ?_
      refine lv_if_eq (tgt := 2090) hx hb dL_law_2085 (by decide) (fun c111 => ?_) (fun c111 => ?_)
      · have h := gif_t c111 h
        refine W.widen (k := (cn + 1)) (n := (sn + 6)) (by omega) (by omega) ?_
        cases h
        exact K2090 _ _ _ hP hS (lv_sub hl [2, 3, 4, 5, 6] rfl)
      · have h := gif_f c111 h
        refine lv_iconst (v := 0) hx hb dL_law_2088 (by decide) ?_
        cases h
  · have h := gif_f c113 h
    refine lv_iconst (v := 0) hx hb dL_law_2071 (by decide) ?_
    cases h
def f_L_case36 (SL : Nat) (sx : Nat → Int32) (p4 : Int32) (I : Nat → Nat → Int32) (O : Nat → Nat → Option Nat) (J : Nat → Nat → Int64) : Option ((Nat → Nat → Int32) × (Nat → Nat → Option Nat) × (Nat → Nat → Int64)) :=
  (f_L_secondsToNext I O J).bind fun (r104, I101, O102, J103) =>
  (f_X8_secondsToNext I101).bind fun (r107, I106) =>
  (f_X8_thrown I106).bind fun r109 =>
  if r109 = r104 then
    (show Option (Unit) from
      if r104 = 0 then
        if (lg_cmp (J103 137 (0 : Int32).toNatClampNeg) ((r107).toInt64)) = 0 then
          some ()
        else
          none
      else
        some ()).bind fun _ =>
    some (I106, O102, J103)
  else
    none
set_option maxHeartbeats 8000000 in
set_option maxRecDepth 100000 in
theorem lc36 {p : Program} {l : Launch} {e : Env} {s : State} {m : MethodId} {below : List Frame} {meth : Method} {c : Code} {Q : State → Prop} {sb SL : Nat} {sx : Nat → Int32} {dC : Nat → ClassId} {dI : Nat → Nat → Nat} {ca : Nat → ClassId} {b : Nat → Nat} {A : Nat → Prop} (hlf : l.stackTraces = false) (hml : c.maxLocals = 9) (X : gCx p s m #[Value.ref sb] c RL cL_law wsL_law 9 dC dI ca b A 138) (hX : va_X sb SL sx s s.heap) (hbl : sb < s.heap.size) (hbA : ¬ A sb) (p4 : Int32) (I : Nat → Nat → Int32) (O : Nat → Nat → Option Nat) (J : Nat → Nat → Int64) (I9 : Nat → Nat → Int32) (O9 : Nat → Nat → Option Nat) (J9 : Nat → Nat → Int64) (h : f_L_case36 SL sx p4 I O J = some (I9, O9, J9)) {cn sn : Nat} (hc : cn + 8 ≤ 601024) (hs : sn + 100 ≤ 7293034) (H : Heap) (locs : List Loc) (ls : Array Slot) (hP : va_P (dC, dI) vwCl (hW 138 ca b I O J) H) (hS : va_S A s.heap H locs) (hl : lv_has ls 9 [(0, .ref sb), (1, .ref (b 0)), (2, .ref (b 129)), (3, .ref (b 137)), (4, .int p4)]) (K : ∀ (H : Heap) (locs : List Loc) (ls : Array Slot), va_P (dC, dI) vwCl (hW 138 ca b I9 O9 J9) H → va_S A s.heap H locs → lv_has ls 9 [(0, .ref sb), (1, .ref (b 0)), (2, .ref (b 129)), (3, .ref (b 137)), (4, .int p4)] → W p l e room_1 s m #[Value.ref sb] below meth c H locs (cn + 8) (sn + 100) Q (F0 m 2558 ls [])) : W p l e room_1 s m #[Value.ref sb] below meth c H locs cn sn Q (F0 m 2093 ls []) := by
  have hx := X.x
  have hb := X.cb
  have hA := X.ad
  have hN : 138 ≤ 138 := Nat.le_refl 138
  have hRc : room_1.cells = 601024 := rfl
  have hRs : room_1.slots = 7293034 := rfl
  unfold f_L_case36 at h
  refine lv_aload_n hx hb dL_law_2093 rfl (lv_at hl 1 rfl) ?_
  refine lv_aload_n hx hb dL_law_2094 rfl (lv_at hl 3 rfl) ?_
  obtain ⟨q105, hcq105, h⟩ := hb_some h
  refine gcSW_i (As := [.ref (b 0), .ref (b 137)]) (rest := []) (BH := (fun (u : (Nat → Nat → Int32) × (Nat → Nat → Option Nat) × (Nat → Nat → Int64)) H => va_P (dC, dI) vwCl (hW 138 ca b u.1 u.2.1 u.2.2) H)) X hP hS (c_L_secondsToNext hlf hN hA I O J q105 hcq105) (vx_cwSW 2 X.ts gL_law_L_secondsToNext rfl rfl rfl (by decide +kernel) ⟨Nat.le_of_ble_eq_true rfl, Nat.le_of_ble_eq_true rfl⟩) rfl hl.1 rfl (Nat.le_of_ble_eq_true rfl) dL_law_2095 ⟨by omega, by omega⟩ (fun r104 u9 H locs hw hP hS => ?_)
  obtain ⟨I101, O102, J103⟩ := u9
  subst hw
  refine lv_istore (lv' := [(5, .int r104), (0, .ref sb), (1, .ref (b 0)), (2, .ref (b 129)), (3, .ref (b 137)), (4, .int p4)]) hx hb dL_law_2098 hl (by decide) rfl (fun ls hl => ?_)
  refine lv_aload_n hx hb dL_law_2100 rfl (lv_at hl 3 rfl) ?_
  obtain ⟨q108, hcq108, h⟩ := hb_some h
  refine gdV_i (As := []) (rest := []) (BH := (fun (u : Nat → Nat → Int32) H => va_P (dC, dI) vwCl (hW 138 ca b u O102 J103) H)) X hP hS (c_X8_secondsToNext hN hA I101 O102 J103 q108 hcq108) (cwV 0 X.ts gL_law_X8_secondsToNext rfl rfl rfl (by decide +kernel) ⟨Nat.le_of_ble_eq_true rfl, Nat.le_of_ble_eq_true rfl⟩) (gr8 X hP kc_129 (sk_in hN kc_129 (by decide))) rfl hl.1 rfl (Nat.le_of_ble_eq_true rfl) dL_law_2101 ⟨by omega, by omega⟩ (fun r107 I106 H locs hw hP hS => ?_)
  subst hw
  refine lv_istore (lv' := [(6, .int r107), (5, .int r104), (0, .ref sb), (1, .ref (b 0)), (2, .ref (b 129)), (3, .ref (b 137)), (4, .int p4)]) hx hb dL_law_2104 hl (by decide) rfl (fun ls hl => ?_)
  refine lv_aload_n hx hb dL_law_2106 rfl (lv_at hl 4 rfl) ?_
  obtain ⟨q110, hcq110, h⟩ := hb_some h
  refine gdV_i (As := []) (rest := []) (BH := (fun (u : Unit) H => va_P (dC, dI) vwCl (hW 138 ca b I106 O102 J103) H)) X hP hS (c_X8_thrown hN hA I106 O102 J103 q110 hcq110) (cwV 0 X.ts gL_law_X8_thrown rfl rfl rfl (by decide +kernel) ⟨Nat.le_of_ble_eq_true rfl, Nat.le_of_ble_eq_true rfl⟩) (gr8 X hP kc_129 (sk_in hN kc_129 (by decide))) rfl hl.1 rfl (Nat.le_of_ble_eq_true rfl) dL_law_2107 ⟨by omega, by omega⟩ (fun r109 u9 H locs hw hP hS => ?_)
  have hw := hw.symm
  subst hw
  refine lv_iload hx hb dL_law_2110 (lv_at hl 1 rfl) ?_
  refine lv_icmp_eq (tgt := 2117) hx hb dL_law_2112 (by decide) (fun c113 => ?_) (fun c113 => ?_)
  · have h := gif_t c113 h
    refine lv_iload hx hb dL_law_2117 (lv_at hl 1 rfl) ?_
    obtain ⟨_, hv, h⟩ := hb_some h
    have K2134 : ∀ (H : Heap) (locs : List Loc) (ls : Array Slot), va_P (dC, dI) vwCl (hW 138 ca b I106 O102 J103) H → va_S A s.heap H locs → lv_has ls 9 [(0, .ref sb), (1, .ref (b 0)), (2, .ref (b 129)), (3, .ref (b 137)), (4, .int p4)] → W p l e room_1 s m #[Value.ref sb] below meth c H locs (cn + 1) (sn + 6) Q (F0 m 2134 ls []) := by
      intro H locs ls hP hS hl
      refine lv_goto (tgt := 2558) hx hb dL_law_2134 (by decide) ?_
      refine W.widen (k := cn + 8) (n := sn + 100) (by omega) (by omega) ?_
      cases h
      exact K _ _ _ hP hS (lv_sub hl [0, 1, 2, 3, 4] rfl)
    have h := hv
    refine lv_if_ne (tgt := 2134) hx hb dL_law_2119 (by decide) (fun c112 => ?_) (fun c112 => ?_)
    · have h := gif_f c112 h
      refine W.widen (k := (cn + 1)) (n := (sn + 6)) (by omega) (by omega) ?_
      cases h
      exact K2134 _ _ _ hP hS (lv_sub hl [2, 3, 4, 5, 6] rfl)
    · have h := gif_t c112 h
      refine lv_aload_n hx hb dL_law_2122 rfl (lv_at hl 5 rfl) ?_
      refine lv_iconst (v := 0) hx hb dL_law_2123 (by decide) ?_
      refine ga23 X hP kc_137 (sk_in hN kc_137 (by decide)) (L := 1) (by decide) (by decide) dL_law_2124 ?_
      refine lv_iload hx hb dL_law_2125 (lv_at hl 0 rfl) ?_
      refine lv_i2l (v := (r107).toInt64) hx hb dL_law_2127 rfl ?_
      refine W.lcmp hx hb dL_law_2128 ?_
      refine lv_if_eq (tgt := 2134) hx hb dL_law_2129 (by decide) (fun c111 => ?_) (fun c111 => ?_)
      · have h := gif_t c111 h
        refine W.widen (k := (cn + 1)) (n := (sn + 6)) (by omega) (by omega) ?_
        cases h
        exact K2134 _ _ _ hP hS (lv_sub hl [2, 3, 4, 5, 6] rfl)
      · have h := gif_f c111 h
        refine lv_iconst (v := 0) hx hb dL_law_2132 (by decide) ?_
        cases h
  · have h := gif_f c113 h
    refine lv_iconst (v := 0) hx hb dL_law_2115 (by decide) ?_
    cases h
def f_L_case37 (SL : Nat) (sx : Nat → Int32) (p4 : Int32) (I : Nat → Nat → Int32) (O : Nat → Nat → Option Nat) (J : Nat → Nat → Int64) : Option ((Nat → Nat → Int32) × (Nat → Nat → Option Nat) × (Nat → Nat → Int64)) :=
  hg (gin (p4 + (1 : Int32)) SL) <|
  hg (gin (p4 + (2 : Int32)) SL) <|
  (f_L_flownWithPace (sx (p4 + (1 : Int32)).toNatClampNeg) (sx (p4 + (2 : Int32)).toNatClampNeg) I O J).bind fun (r104, I101, O102, J103) =>
  hg (gin (p4 + (1 : Int32)) SL) <|
  hg (gin (p4 + (2 : Int32)) SL) <|
  (f_X8_flownWithPace (sx (p4 + (1 : Int32)).toNatClampNeg) (sx (p4 + (2 : Int32)).toNatClampNeg) I101).bind fun (r107, I106) =>
  (f_X8_thrown I106).bind fun r109 =>
  if r109 = r104 then
    (show Option (Unit) from
      if r104 = 0 then
        if (lg_cmp (J103 137 (0 : Int32).toNatClampNeg) ((r107).toInt64)) = 0 then
          some ()
        else
          none
      else
        some ()).bind fun _ =>
    some (I106, O102, J103)
  else
    none
set_option maxHeartbeats 8000000 in
set_option maxRecDepth 100000 in
theorem lc37 {p : Program} {l : Launch} {e : Env} {s : State} {m : MethodId} {below : List Frame} {meth : Method} {c : Code} {Q : State → Prop} {sb SL : Nat} {sx : Nat → Int32} {dC : Nat → ClassId} {dI : Nat → Nat → Nat} {ca : Nat → ClassId} {b : Nat → Nat} {A : Nat → Prop} (hlf : l.stackTraces = false) (hml : c.maxLocals = 9) (X : gCx p s m #[Value.ref sb] c RL cL_law wsL_law 9 dC dI ca b A 138) (hX : va_X sb SL sx s s.heap) (hbl : sb < s.heap.size) (hbA : ¬ A sb) (p4 : Int32) (I : Nat → Nat → Int32) (O : Nat → Nat → Option Nat) (J : Nat → Nat → Int64) (I9 : Nat → Nat → Int32) (O9 : Nat → Nat → Option Nat) (J9 : Nat → Nat → Int64) (h : f_L_case37 SL sx p4 I O J = some (I9, O9, J9)) {cn sn : Nat} (hc : cn + 8 ≤ 601024) (hs : sn + 100 ≤ 7293034) (H : Heap) (locs : List Loc) (ls : Array Slot) (hP : va_P (dC, dI) vwCl (hW 138 ca b I O J) H) (hS : va_S A s.heap H locs) (hl : lv_has ls 9 [(0, .ref sb), (1, .ref (b 0)), (2, .ref (b 129)), (3, .ref (b 137)), (4, .int p4)]) (K : ∀ (H : Heap) (locs : List Loc) (ls : Array Slot), va_P (dC, dI) vwCl (hW 138 ca b I9 O9 J9) H → va_S A s.heap H locs → lv_has ls 9 [(0, .ref sb), (1, .ref (b 0)), (2, .ref (b 129)), (3, .ref (b 137)), (4, .int p4)] → W p l e room_1 s m #[Value.ref sb] below meth c H locs (cn + 8) (sn + 100) Q (F0 m 2558 ls [])) : W p l e room_1 s m #[Value.ref sb] below meth c H locs cn sn Q (F0 m 2137 ls []) := by
  have hx := X.x
  have hb := X.cb
  have hA := X.ad
  have hN : 138 ≤ 138 := Nat.le_refl 138
  have hRc : room_1.cells = 601024 := rfl
  have hRs : room_1.slots = 7293034 := rfl
  unfold f_L_case37 at h
  refine lv_aload_n hx hb dL_law_2137 rfl (lv_at hl 1 rfl) ?_
  refine lv_aload_n hx hb dL_law_2138 rfl (lv_at hl 0 rfl) ?_
  refine lv_iload hx hb dL_law_2139 (lv_at hl 4 rfl) ?_
  refine lv_iconst (v := 1) hx hb dL_law_2141 (by decide) ?_
  refine lv_iadd hx hb dL_law_2142 ?_
  obtain ⟨hgi, h⟩ := hg_some h
  refine va_sld hx hb hX hbl hbA hS (gin_vp hgi) dL_law_2143 ?_
  refine lv_aload_n hx hb dL_law_2144 rfl (lv_at hl 0 rfl) ?_
  refine lv_iload hx hb dL_law_2145 (lv_at hl 4 rfl) ?_
  refine lv_iconst (v := 2) hx hb dL_law_2147 (by decide) ?_
  refine lv_iadd hx hb dL_law_2148 ?_
  obtain ⟨hgi, h⟩ := hg_some h
  refine va_sld hx hb hX hbl hbA hS (gin_vp hgi) dL_law_2149 ?_
  refine lv_aload_n hx hb dL_law_2150 rfl (lv_at hl 3 rfl) ?_
  obtain ⟨q105, hcq105, h⟩ := hb_some h
  refine gcSW_i (As := [.ref (b 0), .int (sx (p4 + (1 : Int32)).toNatClampNeg), .int (sx (p4 + (2 : Int32)).toNatClampNeg), .ref (b 137)]) (rest := []) (BH := (fun (u : (Nat → Nat → Int32) × (Nat → Nat → Option Nat) × (Nat → Nat → Int64)) H => va_P (dC, dI) vwCl (hW 138 ca b u.1 u.2.1 u.2.2) H)) X hP hS (c_L_flownWithPace hlf hN hA I O J (sx (p4 + (1 : Int32)).toNatClampNeg) (sx (p4 + (2 : Int32)).toNatClampNeg) q105 hcq105) (vx_cwSW 4 X.ts gL_law_L_flownWithPace rfl rfl rfl (by decide +kernel) ⟨Nat.le_of_ble_eq_true rfl, Nat.le_of_ble_eq_true rfl⟩) rfl hl.1 rfl (Nat.le_of_ble_eq_true rfl) dL_law_2151 ⟨by omega, by omega⟩ (fun r104 u9 H locs hw hP hS => ?_)
  obtain ⟨I101, O102, J103⟩ := u9
  subst hw
  refine lv_istore (lv' := [(5, .int r104), (0, .ref sb), (1, .ref (b 0)), (2, .ref (b 129)), (3, .ref (b 137)), (4, .int p4)]) hx hb dL_law_2154 hl (by decide) rfl (fun ls hl => ?_)
  refine lv_aload_n hx hb dL_law_2156 rfl (lv_at hl 3 rfl) ?_
  refine lv_aload_n hx hb dL_law_2157 rfl (lv_at hl 1 rfl) ?_
  refine lv_iload hx hb dL_law_2158 (lv_at hl 5 rfl) ?_
  refine lv_iconst (v := 1) hx hb dL_law_2160 (by decide) ?_
  refine lv_iadd hx hb dL_law_2161 ?_
  obtain ⟨hgi, h⟩ := hg_some h
  refine va_sld hx hb hX hbl hbA hS (gin_vp hgi) dL_law_2162 ?_
  refine lv_aload_n hx hb dL_law_2163 rfl (lv_at hl 1 rfl) ?_
  refine lv_iload hx hb dL_law_2164 (lv_at hl 5 rfl) ?_
  refine lv_iconst (v := 2) hx hb dL_law_2166 (by decide) ?_
  refine lv_iadd hx hb dL_law_2167 ?_
  obtain ⟨hgi, h⟩ := hg_some h
  refine va_sld hx hb hX hbl hbA hS (gin_vp hgi) dL_law_2168 ?_
  obtain ⟨q108, hcq108, h⟩ := hb_some h
  refine gdV_i (As := [.int (sx (p4 + (1 : Int32)).toNatClampNeg), .int (sx (p4 + (2 : Int32)).toNatClampNeg)]) (rest := []) (BH := (fun (u : Nat → Nat → Int32) H => va_P (dC, dI) vwCl (hW 138 ca b u O102 J103) H)) X hP hS (c_X8_flownWithPace hN hA I101 O102 J103 (sx (p4 + (1 : Int32)).toNatClampNeg) (sx (p4 + (2 : Int32)).toNatClampNeg) q108 hcq108) (cwV 2 X.ts gL_law_X8_flownWithPace rfl rfl rfl (by decide +kernel) ⟨Nat.le_of_ble_eq_true rfl, Nat.le_of_ble_eq_true rfl⟩) (gr8 X hP kc_129 (sk_in hN kc_129 (by decide))) rfl hl.1 rfl (Nat.le_of_ble_eq_true rfl) dL_law_2169 ⟨by omega, by omega⟩ (fun r107 I106 H locs hw hP hS => ?_)
  subst hw
  refine lv_istore (lv' := [(6, .int r107), (5, .int r104), (0, .ref sb), (1, .ref (b 0)), (2, .ref (b 129)), (3, .ref (b 137)), (4, .int p4)]) hx hb dL_law_2172 hl (by decide) rfl (fun ls hl => ?_)
  refine lv_aload_n hx hb dL_law_2174 rfl (lv_at hl 4 rfl) ?_
  obtain ⟨q110, hcq110, h⟩ := hb_some h
  refine gdV_i (As := []) (rest := []) (BH := (fun (u : Unit) H => va_P (dC, dI) vwCl (hW 138 ca b I106 O102 J103) H)) X hP hS (c_X8_thrown hN hA I106 O102 J103 q110 hcq110) (cwV 0 X.ts gL_law_X8_thrown rfl rfl rfl (by decide +kernel) ⟨Nat.le_of_ble_eq_true rfl, Nat.le_of_ble_eq_true rfl⟩) (gr8 X hP kc_129 (sk_in hN kc_129 (by decide))) rfl hl.1 rfl (Nat.le_of_ble_eq_true rfl) dL_law_2175 ⟨by omega, by omega⟩ (fun r109 u9 H locs hw hP hS => ?_)
  have hw := hw.symm
  subst hw
  refine lv_iload hx hb dL_law_2178 (lv_at hl 1 rfl) ?_
  refine lv_icmp_eq (tgt := 2185) hx hb dL_law_2180 (by decide) (fun c113 => ?_) (fun c113 => ?_)
  · have h := gif_t c113 h
    refine lv_iload hx hb dL_law_2185 (lv_at hl 1 rfl) ?_
    obtain ⟨_, hv, h⟩ := hb_some h
    have K2202 : ∀ (H : Heap) (locs : List Loc) (ls : Array Slot), va_P (dC, dI) vwCl (hW 138 ca b I106 O102 J103) H → va_S A s.heap H locs → lv_has ls 9 [(0, .ref sb), (1, .ref (b 0)), (2, .ref (b 129)), (3, .ref (b 137)), (4, .int p4)] → W p l e room_1 s m #[Value.ref sb] below meth c H locs (cn + 3) (sn + 18) Q (F0 m 2202 ls []) := by
      intro H locs ls hP hS hl
      refine lv_goto (tgt := 2558) hx hb dL_law_2202 (by decide) ?_
      refine W.widen (k := cn + 8) (n := sn + 100) (by omega) (by omega) ?_
      cases h
      exact K _ _ _ hP hS (lv_sub hl [0, 1, 2, 3, 4] rfl)
    have h := hv
    refine lv_if_ne (tgt := 2202) hx hb dL_law_2187 (by decide) (fun c112 => ?_) (fun c112 => ?_)
    · have h := gif_f c112 h
      refine W.widen (k := (cn + 3)) (n := (sn + 18)) (by omega) (by omega) ?_
      cases h
      exact K2202 _ _ _ hP hS (lv_sub hl [2, 3, 4, 5, 6] rfl)
    · have h := gif_t c112 h
      refine lv_aload_n hx hb dL_law_2190 rfl (lv_at hl 5 rfl) ?_
      refine lv_iconst (v := 0) hx hb dL_law_2191 (by decide) ?_
      refine ga23 X hP kc_137 (sk_in hN kc_137 (by decide)) (L := 1) (by decide) (by decide) dL_law_2192 ?_
      refine lv_iload hx hb dL_law_2193 (lv_at hl 0 rfl) ?_
      refine lv_i2l (v := (r107).toInt64) hx hb dL_law_2195 rfl ?_
      refine W.lcmp hx hb dL_law_2196 ?_
      refine lv_if_eq (tgt := 2202) hx hb dL_law_2197 (by decide) (fun c111 => ?_) (fun c111 => ?_)
      · have h := gif_t c111 h
        refine W.widen (k := (cn + 3)) (n := (sn + 18)) (by omega) (by omega) ?_
        cases h
        exact K2202 _ _ _ hP hS (lv_sub hl [2, 3, 4, 5, 6] rfl)
      · have h := gif_f c111 h
        refine lv_iconst (v := 0) hx hb dL_law_2200 (by decide) ?_
        cases h
  · have h := gif_f c113 h
    refine lv_iconst (v := 0) hx hb dL_law_2183 (by decide) ?_
    cases h
def f_L_case38 (SL : Nat) (sx : Nat → Int32) (p4 : Int32) (I : Nat → Nat → Int32) (O : Nat → Nat → Option Nat) (J : Nat → Nat → Int64) : Option ((Nat → Nat → Int32) × (Nat → Nat → Option Nat) × (Nat → Nat → Int64)) :=
  hg (gin (p4 + (1 : Int32)) SL) <|
  (f_L_bestPace (sx (p4 + (1 : Int32)).toNatClampNeg) I O J).bind fun (r104, I101, O102, J103) =>
  hg (gin (p4 + (1 : Int32)) SL) <|
  (f_X8_bestPace (sx (p4 + (1 : Int32)).toNatClampNeg) I101).bind fun (r107, I106) =>
  (f_X8_thrown I106).bind fun r109 =>
  if r109 = r104 then
    (show Option (Unit) from
      if r104 = 0 then
        if (lg_cmp (J103 137 (0 : Int32).toNatClampNeg) ((r107).toInt64)) = 0 then
          some ()
        else
          none
      else
        some ()).bind fun _ =>
    some (I106, O102, J103)
  else
    none
set_option maxHeartbeats 8000000 in
set_option maxRecDepth 100000 in
theorem lc38 {p : Program} {l : Launch} {e : Env} {s : State} {m : MethodId} {below : List Frame} {meth : Method} {c : Code} {Q : State → Prop} {sb SL : Nat} {sx : Nat → Int32} {dC : Nat → ClassId} {dI : Nat → Nat → Nat} {ca : Nat → ClassId} {b : Nat → Nat} {A : Nat → Prop} (hlf : l.stackTraces = false) (hml : c.maxLocals = 9) (X : gCx p s m #[Value.ref sb] c RL cL_law wsL_law 9 dC dI ca b A 138) (hX : va_X sb SL sx s s.heap) (hbl : sb < s.heap.size) (hbA : ¬ A sb) (p4 : Int32) (I : Nat → Nat → Int32) (O : Nat → Nat → Option Nat) (J : Nat → Nat → Int64) (I9 : Nat → Nat → Int32) (O9 : Nat → Nat → Option Nat) (J9 : Nat → Nat → Int64) (h : f_L_case38 SL sx p4 I O J = some (I9, O9, J9)) {cn sn : Nat} (hc : cn + 8 ≤ 601024) (hs : sn + 100 ≤ 7293034) (H : Heap) (locs : List Loc) (ls : Array Slot) (hP : va_P (dC, dI) vwCl (hW 138 ca b I O J) H) (hS : va_S A s.heap H locs) (hl : lv_has ls 9 [(0, .ref sb), (1, .ref (b 0)), (2, .ref (b 129)), (3, .ref (b 137)), (4, .int p4)]) (K : ∀ (H : Heap) (locs : List Loc) (ls : Array Slot), va_P (dC, dI) vwCl (hW 138 ca b I9 O9 J9) H → va_S A s.heap H locs → lv_has ls 9 [(0, .ref sb), (1, .ref (b 0)), (2, .ref (b 129)), (3, .ref (b 137)), (4, .int p4)] → W p l e room_1 s m #[Value.ref sb] below meth c H locs (cn + 8) (sn + 100) Q (F0 m 2558 ls [])) : W p l e room_1 s m #[Value.ref sb] below meth c H locs cn sn Q (F0 m 2205 ls []) := by
  have hx := X.x
  have hb := X.cb
  have hA := X.ad
  have hN : 138 ≤ 138 := Nat.le_refl 138
  have hRc : room_1.cells = 601024 := rfl
  have hRs : room_1.slots = 7293034 := rfl
  unfold f_L_case38 at h
  refine lv_aload_n hx hb dL_law_2205 rfl (lv_at hl 1 rfl) ?_
  refine lv_aload_n hx hb dL_law_2206 rfl (lv_at hl 0 rfl) ?_
  refine lv_iload hx hb dL_law_2207 (lv_at hl 4 rfl) ?_
  refine lv_iconst (v := 1) hx hb dL_law_2209 (by decide) ?_
  refine lv_iadd hx hb dL_law_2210 ?_
  obtain ⟨hgi, h⟩ := hg_some h
  refine va_sld hx hb hX hbl hbA hS (gin_vp hgi) dL_law_2211 ?_
  refine lv_aload_n hx hb dL_law_2212 rfl (lv_at hl 3 rfl) ?_
  obtain ⟨q105, hcq105, h⟩ := hb_some h
  refine gcSW_i (As := [.ref (b 0), .int (sx (p4 + (1 : Int32)).toNatClampNeg), .ref (b 137)]) (rest := []) (BH := (fun (u : (Nat → Nat → Int32) × (Nat → Nat → Option Nat) × (Nat → Nat → Int64)) H => va_P (dC, dI) vwCl (hW 138 ca b u.1 u.2.1 u.2.2) H)) X hP hS (c_L_bestPace hlf hN hA I O J (sx (p4 + (1 : Int32)).toNatClampNeg) q105 hcq105) (vx_cwSW 3 X.ts gL_law_L_bestPace rfl rfl rfl (by decide +kernel) ⟨Nat.le_of_ble_eq_true rfl, Nat.le_of_ble_eq_true rfl⟩) rfl hl.1 rfl (Nat.le_of_ble_eq_true rfl) dL_law_2213 ⟨by omega, by omega⟩ (fun r104 u9 H locs hw hP hS => ?_)
  obtain ⟨I101, O102, J103⟩ := u9
  subst hw
  refine lv_istore (lv' := [(5, .int r104), (0, .ref sb), (1, .ref (b 0)), (2, .ref (b 129)), (3, .ref (b 137)), (4, .int p4)]) hx hb dL_law_2216 hl (by decide) rfl (fun ls hl => ?_)
  refine lv_aload_n hx hb dL_law_2218 rfl (lv_at hl 3 rfl) ?_
  refine lv_aload_n hx hb dL_law_2219 rfl (lv_at hl 1 rfl) ?_
  refine lv_iload hx hb dL_law_2220 (lv_at hl 5 rfl) ?_
  refine lv_iconst (v := 1) hx hb dL_law_2222 (by decide) ?_
  refine lv_iadd hx hb dL_law_2223 ?_
  obtain ⟨hgi, h⟩ := hg_some h
  refine va_sld hx hb hX hbl hbA hS (gin_vp hgi) dL_law_2224 ?_
  obtain ⟨q108, hcq108, h⟩ := hb_some h
  refine gdV_i (As := [.int (sx (p4 + (1 : Int32)).toNatClampNeg)]) (rest := []) (BH := (fun (u : Nat → Nat → Int32) H => va_P (dC, dI) vwCl (hW 138 ca b u O102 J103) H)) X hP hS (c_X8_bestPace hN hA I101 O102 J103 (sx (p4 + (1 : Int32)).toNatClampNeg) q108 hcq108) (cwV 1 X.ts gL_law_X8_bestPace rfl rfl rfl (by decide +kernel) ⟨Nat.le_of_ble_eq_true rfl, Nat.le_of_ble_eq_true rfl⟩) (gr8 X hP kc_129 (sk_in hN kc_129 (by decide))) rfl hl.1 rfl (Nat.le_of_ble_eq_true rfl) dL_law_2225 ⟨by omega, by omega⟩ (fun r107 I106 H locs hw hP hS => ?_)
  subst hw
  refine lv_istore (lv' := [(6, .int r107), (5, .int r104), (0, .ref sb), (1, .ref (b 0)), (2, .ref (b 129)), (3, .ref (b 137)), (4, .int p4)]) hx hb dL_law_2228 hl (by decide) rfl (fun ls hl => ?_)
  refine lv_aload_n hx hb dL_law_2230 rfl (lv_at hl 4 rfl) ?_
  obtain ⟨q110, hcq110, h⟩ := hb_some h
  refine gdV_i (As := []) (rest := []) (BH := (fun (u : Unit) H => va_P (dC, dI) vwCl (hW 138 ca b I106 O102 J103) H)) X hP hS (c_X8_thrown hN hA I106 O102 J103 q110 hcq110) (cwV 0 X.ts gL_law_X8_thrown rfl rfl rfl (by decide +kernel) ⟨Nat.le_of_ble_eq_true rfl, Nat.le_of_ble_eq_true rfl⟩) (gr8 X hP kc_129 (sk_in hN kc_129 (by decide))) rfl hl.1 rfl (Nat.le_of_ble_eq_true rfl) dL_law_2231 ⟨by omega, by omega⟩ (fun r109 u9 H locs hw hP hS => ?_)
  have hw := hw.symm
  subst hw
  refine lv_iload hx hb dL_law_2234 (lv_at hl 1 rfl) ?_
  refine lv_icmp_eq (tgt := 2241) hx hb dL_law_2236 (by decide) (fun c113 => ?_) (fun c113 => ?_)
  · have h := gif_t c113 h
    refine lv_iload hx hb dL_law_2241 (lv_at hl 1 rfl) ?_
    obtain ⟨_, hv, h⟩ := hb_some h
    have K2258 : ∀ (H : Heap) (locs : List Loc) (ls : Array Slot), va_P (dC, dI) vwCl (hW 138 ca b I106 O102 J103) H → va_S A s.heap H locs → lv_has ls 9 [(0, .ref sb), (1, .ref (b 0)), (2, .ref (b 129)), (3, .ref (b 137)), (4, .int p4)] → W p l e room_1 s m #[Value.ref sb] below meth c H locs (cn + 2) (sn + 12) Q (F0 m 2258 ls []) := by
      intro H locs ls hP hS hl
      refine lv_goto (tgt := 2558) hx hb dL_law_2258 (by decide) ?_
      refine W.widen (k := cn + 8) (n := sn + 100) (by omega) (by omega) ?_
      cases h
      exact K _ _ _ hP hS (lv_sub hl [0, 1, 2, 3, 4] rfl)
    have h := hv
    refine lv_if_ne (tgt := 2258) hx hb dL_law_2243 (by decide) (fun c112 => ?_) (fun c112 => ?_)
    · have h := gif_f c112 h
      refine W.widen (k := (cn + 2)) (n := (sn + 12)) (by omega) (by omega) ?_
      cases h
      exact K2258 _ _ _ hP hS (lv_sub hl [2, 3, 4, 5, 6] rfl)
    · have h := gif_t c112 h
      refine lv_aload_n hx hb dL_law_2246 rfl (lv_at hl 5 rfl) ?_
      refine lv_iconst (v := 0) hx hb dL_law_2247 (by decide) ?_
      refine ga23 X hP kc_137 (sk_in hN kc_137 (by decide)) (L := 1) (by decide) (by decide) dL_law_2248 ?_
      refine lv_iload hx hb dL_law_2249 (lv_at hl 0 rfl) ?_
      refine lv_i2l (v := (r107).toInt64) hx hb dL_law_2251 rfl ?_
      refine W.lcmp hx hb dL_law_2252 ?_
      refine lv_if_eq (tgt := 2258) hx hb dL_law_2253 (by decide) (fun c111 => ?_) (fun c111 => ?_)
      · have h := gif_t c111 h
        refine W.widen (k := (cn + 2)) (n := (sn + 12)) (by omega) (by omega) ?_
        cases h
        exact K2258 _ _ _ hP hS (lv_sub hl [2, 3, 4, 5, 6] rfl)
      · have h := gif_f c111 h
        refine lv_iconst (v := 0) hx hb dL_law_2256 (by decide) ?_
        cases h
  · have h := gif_f c113 h
    refine lv_iconst (v := 0) hx hb dL_law_2239 (by decide) ?_
    cases h
def f_L_case39 (SL : Nat) (sx : Nat → Int32) (p4 : Int32) (I : Nat → Nat → Int32) (O : Nat → Nat → Option Nat) (J : Nat → Nat → Int64) : Option ((Nat → Nat → Int32) × (Nat → Nat → Option Nat) × (Nat → Nat → Int64)) :=
  (f_X7_isRacing I).bind fun r101 =>
  (f_X8_isRacing I).bind fun (r104, I103) =>
  if r101 = r104 then
    some (I103, O, J)
  else
    none
set_option maxHeartbeats 8000000 in
set_option maxRecDepth 100000 in
theorem lc39 {p : Program} {l : Launch} {e : Env} {s : State} {m : MethodId} {below : List Frame} {meth : Method} {c : Code} {Q : State → Prop} {sb SL : Nat} {sx : Nat → Int32} {dC : Nat → ClassId} {dI : Nat → Nat → Nat} {ca : Nat → ClassId} {b : Nat → Nat} {A : Nat → Prop} (hlf : l.stackTraces = false) (hml : c.maxLocals = 9) (X : gCx p s m #[Value.ref sb] c RL cL_law wsL_law 9 dC dI ca b A 138) (hX : va_X sb SL sx s s.heap) (hbl : sb < s.heap.size) (hbA : ¬ A sb) (p4 : Int32) (I : Nat → Nat → Int32) (O : Nat → Nat → Option Nat) (J : Nat → Nat → Int64) (I9 : Nat → Nat → Int32) (O9 : Nat → Nat → Option Nat) (J9 : Nat → Nat → Int64) (h : f_L_case39 SL sx p4 I O J = some (I9, O9, J9)) {cn sn : Nat} (hc : cn + 8 ≤ 601024) (hs : sn + 100 ≤ 7293034) (H : Heap) (locs : List Loc) (ls : Array Slot) (hP : va_P (dC, dI) vwCl (hW 138 ca b I O J) H) (hS : va_S A s.heap H locs) (hl : lv_has ls 9 [(0, .ref sb), (1, .ref (b 0)), (2, .ref (b 129)), (3, .ref (b 137)), (4, .int p4)]) (K : ∀ (H : Heap) (locs : List Loc) (ls : Array Slot), va_P (dC, dI) vwCl (hW 138 ca b I9 O9 J9) H → va_S A s.heap H locs → lv_has ls 9 [(0, .ref sb), (1, .ref (b 0)), (2, .ref (b 129)), (3, .ref (b 137)), (4, .int p4)] → W p l e room_1 s m #[Value.ref sb] below meth c H locs (cn + 8) (sn + 100) Q (F0 m 2558 ls [])) : W p l e room_1 s m #[Value.ref sb] below meth c H locs cn sn Q (F0 m 2261 ls []) := by
  have hx := X.x
  have hb := X.cb
  have hA := X.ad
  have hN : 138 ≤ 138 := Nat.le_refl 138
  have hRc : room_1.cells = 601024 := rfl
  have hRs : room_1.slots = 7293034 := rfl
  unfold f_L_case39 at h
  refine lv_aload_n hx hb dL_law_2261 rfl (lv_at hl 1 rfl) ?_
  obtain ⟨q102, hcq102, h⟩ := hb_some h
  refine gdV_i (As := []) (rest := []) (BH := (fun (u : Unit) H => va_P (dC, dI) vwCl (hW 138 ca b I O J) H)) X hP hS (c_X7_isRacing hN hA I O J q102 hcq102) (cwV 0 X.ts gL_law_X7_isRacing rfl rfl rfl (by decide +kernel) ⟨Nat.le_of_ble_eq_true rfl, Nat.le_of_ble_eq_true rfl⟩) (gr7 X hP kc_0 (sk_in hN kc_0 (by decide))) rfl hl.1 rfl (Nat.le_of_ble_eq_true rfl) dL_law_2262 ⟨by omega, by omega⟩ (fun r101 u9 H locs hw hP hS => ?_)
  have hw := hw.symm
  subst hw
  refine lv_aload_n hx hb dL_law_2265 rfl (lv_at hl 2 rfl) ?_
  obtain ⟨q105, hcq105, h⟩ := hb_some h
  refine gdV_i (As := []) (rest := [.int r101]) (BH := (fun (u : Nat → Nat → Int32) H => va_P (dC, dI) vwCl (hW 138 ca b u O J) H)) X hP hS (c_X8_isRacing hN hA I O J q105 hcq105) (cwV 0 X.ts gL_law_X8_isRacing rfl rfl rfl (by decide +kernel) ⟨Nat.le_of_ble_eq_true rfl, Nat.le_of_ble_eq_true rfl⟩) (gr8 X hP kc_129 (sk_in hN kc_129 (by decide))) rfl hl.1 rfl (Nat.le_of_ble_eq_true rfl) dL_law_2266 ⟨by omega, by omega⟩ (fun r104 I103 H locs hw hP hS => ?_)
  subst hw
  refine lv_icmp_eq (tgt := 2558) hx hb dL_law_2269 (by decide) (fun c106 => ?_) (fun c106 => ?_)
  · have h := gif_t c106 h
    refine W.widen (k := cn + 8) (n := sn + 100) (by omega) (by omega) ?_
    cases h
    exact K _ _ _ hP hS (lv_sub hl [0, 1, 2, 3, 4] rfl)
  · have h := gif_f c106 h
    refine lv_iconst (v := 0) hx hb dL_law_2272 (by decide) ?_
    cases h
def f_L_case40 (SL : Nat) (sx : Nat → Int32) (p4 : Int32) (I : Nat → Nat → Int32) (O : Nat → Nat → Option Nat) (J : Nat → Nat → Int64) : Option ((Nat → Nat → Int32) × (Nat → Nat → Option Nat) × (Nat → Nat → Int64)) :=
  (f_X7_seconds I).bind fun r101 =>
  (f_X8_seconds I).bind fun (r104, I103) =>
  if r101 = r104 then
    some (I103, O, J)
  else
    none
set_option maxHeartbeats 8000000 in
set_option maxRecDepth 100000 in
theorem lc40 {p : Program} {l : Launch} {e : Env} {s : State} {m : MethodId} {below : List Frame} {meth : Method} {c : Code} {Q : State → Prop} {sb SL : Nat} {sx : Nat → Int32} {dC : Nat → ClassId} {dI : Nat → Nat → Nat} {ca : Nat → ClassId} {b : Nat → Nat} {A : Nat → Prop} (hlf : l.stackTraces = false) (hml : c.maxLocals = 9) (X : gCx p s m #[Value.ref sb] c RL cL_law wsL_law 9 dC dI ca b A 138) (hX : va_X sb SL sx s s.heap) (hbl : sb < s.heap.size) (hbA : ¬ A sb) (p4 : Int32) (I : Nat → Nat → Int32) (O : Nat → Nat → Option Nat) (J : Nat → Nat → Int64) (I9 : Nat → Nat → Int32) (O9 : Nat → Nat → Option Nat) (J9 : Nat → Nat → Int64) (h : f_L_case40 SL sx p4 I O J = some (I9, O9, J9)) {cn sn : Nat} (hc : cn + 8 ≤ 601024) (hs : sn + 100 ≤ 7293034) (H : Heap) (locs : List Loc) (ls : Array Slot) (hP : va_P (dC, dI) vwCl (hW 138 ca b I O J) H) (hS : va_S A s.heap H locs) (hl : lv_has ls 9 [(0, .ref sb), (1, .ref (b 0)), (2, .ref (b 129)), (3, .ref (b 137)), (4, .int p4)]) (K : ∀ (H : Heap) (locs : List Loc) (ls : Array Slot), va_P (dC, dI) vwCl (hW 138 ca b I9 O9 J9) H → va_S A s.heap H locs → lv_has ls 9 [(0, .ref sb), (1, .ref (b 0)), (2, .ref (b 129)), (3, .ref (b 137)), (4, .int p4)] → W p l e room_1 s m #[Value.ref sb] below meth c H locs (cn + 8) (sn + 100) Q (F0 m 2558 ls [])) : W p l e room_1 s m #[Value.ref sb] below meth c H locs cn sn Q (F0 m 2274 ls []) := by
  have hx := X.x
  have hb := X.cb
  have hA := X.ad
  have hN : 138 ≤ 138 := Nat.le_refl 138
  have hRc : room_1.cells = 601024 := rfl
  have hRs : room_1.slots = 7293034 := rfl
  unfold f_L_case40 at h
  refine lv_aload_n hx hb dL_law_2274 rfl (lv_at hl 1 rfl) ?_
  obtain ⟨q102, hcq102, h⟩ := hb_some h
  refine gdV_i (As := []) (rest := []) (BH := (fun (u : Unit) H => va_P (dC, dI) vwCl (hW 138 ca b I O J) H)) X hP hS (c_X7_seconds hN hA I O J q102 hcq102) (cwV 0 X.ts gL_law_X7_seconds rfl rfl rfl (by decide +kernel) ⟨Nat.le_of_ble_eq_true rfl, Nat.le_of_ble_eq_true rfl⟩) (gr7 X hP kc_0 (sk_in hN kc_0 (by decide))) rfl hl.1 rfl (Nat.le_of_ble_eq_true rfl) dL_law_2275 ⟨by omega, by omega⟩ (fun r101 u9 H locs hw hP hS => ?_)
  have hw := hw.symm
  subst hw
  refine lv_aload_n hx hb dL_law_2278 rfl (lv_at hl 2 rfl) ?_
  obtain ⟨q105, hcq105, h⟩ := hb_some h
  refine gdV_i (As := []) (rest := [.int r101]) (BH := (fun (u : Nat → Nat → Int32) H => va_P (dC, dI) vwCl (hW 138 ca b u O J) H)) X hP hS (c_X8_seconds hN hA I O J q105 hcq105) (cwV 0 X.ts gL_law_X8_seconds rfl rfl rfl (by decide +kernel) ⟨Nat.le_of_ble_eq_true rfl, Nat.le_of_ble_eq_true rfl⟩) (gr8 X hP kc_129 (sk_in hN kc_129 (by decide))) rfl hl.1 rfl (Nat.le_of_ble_eq_true rfl) dL_law_2279 ⟨by omega, by omega⟩ (fun r104 I103 H locs hw hP hS => ?_)
  subst hw
  refine lv_icmp_eq (tgt := 2558) hx hb dL_law_2282 (by decide) (fun c106 => ?_) (fun c106 => ?_)
  · have h := gif_t c106 h
    refine W.widen (k := cn + 8) (n := sn + 100) (by omega) (by omega) ?_
    cases h
    exact K _ _ _ hP hS (lv_sub hl [0, 1, 2, 3, 4] rfl)
  · have h := gif_f c106 h
    refine lv_iconst (v := 0) hx hb dL_law_2285 (by decide) ?_
    cases h
def f_L_case41 (SL : Nat) (sx : Nat → Int32) (p4 : Int32) (I : Nat → Nat → Int32) (O : Nat → Nat → Option Nat) (J : Nat → Nat → Int64) : Option ((Nat → Nat → Int32) × (Nat → Nat → Option Nat) × (Nat → Nat → Int64)) :=
  (f_X7_arrived I).bind fun r101 =>
  (f_X8_arrived I).bind fun (r104, I103) =>
  if r101 = r104 then
    some (I103, O, J)
  else
    none
set_option maxHeartbeats 8000000 in
set_option maxRecDepth 100000 in
theorem lc41 {p : Program} {l : Launch} {e : Env} {s : State} {m : MethodId} {below : List Frame} {meth : Method} {c : Code} {Q : State → Prop} {sb SL : Nat} {sx : Nat → Int32} {dC : Nat → ClassId} {dI : Nat → Nat → Nat} {ca : Nat → ClassId} {b : Nat → Nat} {A : Nat → Prop} (hlf : l.stackTraces = false) (hml : c.maxLocals = 9) (X : gCx p s m #[Value.ref sb] c RL cL_law wsL_law 9 dC dI ca b A 138) (hX : va_X sb SL sx s s.heap) (hbl : sb < s.heap.size) (hbA : ¬ A sb) (p4 : Int32) (I : Nat → Nat → Int32) (O : Nat → Nat → Option Nat) (J : Nat → Nat → Int64) (I9 : Nat → Nat → Int32) (O9 : Nat → Nat → Option Nat) (J9 : Nat → Nat → Int64) (h : f_L_case41 SL sx p4 I O J = some (I9, O9, J9)) {cn sn : Nat} (hc : cn + 8 ≤ 601024) (hs : sn + 100 ≤ 7293034) (H : Heap) (locs : List Loc) (ls : Array Slot) (hP : va_P (dC, dI) vwCl (hW 138 ca b I O J) H) (hS : va_S A s.heap H locs) (hl : lv_has ls 9 [(0, .ref sb), (1, .ref (b 0)), (2, .ref (b 129)), (3, .ref (b 137)), (4, .int p4)]) (K : ∀ (H : Heap) (locs : List Loc) (ls : Array Slot), va_P (dC, dI) vwCl (hW 138 ca b I9 O9 J9) H → va_S A s.heap H locs → lv_has ls 9 [(0, .ref sb), (1, .ref (b 0)), (2, .ref (b 129)), (3, .ref (b 137)), (4, .int p4)] → W p l e room_1 s m #[Value.ref sb] below meth c H locs (cn + 8) (sn + 100) Q (F0 m 2558 ls [])) : W p l e room_1 s m #[Value.ref sb] below meth c H locs cn sn Q (F0 m 2287 ls []) := by
  have hx := X.x
  have hb := X.cb
  have hA := X.ad
  have hN : 138 ≤ 138 := Nat.le_refl 138
  have hRc : room_1.cells = 601024 := rfl
  have hRs : room_1.slots = 7293034 := rfl
  unfold f_L_case41 at h
  refine lv_aload_n hx hb dL_law_2287 rfl (lv_at hl 1 rfl) ?_
  obtain ⟨q102, hcq102, h⟩ := hb_some h
  refine gdV_i (As := []) (rest := []) (BH := (fun (u : Unit) H => va_P (dC, dI) vwCl (hW 138 ca b I O J) H)) X hP hS (c_X7_arrived hN hA I O J q102 hcq102) (cwV 0 X.ts gL_law_X7_arrived rfl rfl rfl (by decide +kernel) ⟨Nat.le_of_ble_eq_true rfl, Nat.le_of_ble_eq_true rfl⟩) (gr7 X hP kc_0 (sk_in hN kc_0 (by decide))) rfl hl.1 rfl (Nat.le_of_ble_eq_true rfl) dL_law_2288 ⟨by omega, by omega⟩ (fun r101 u9 H locs hw hP hS => ?_)
  have hw := hw.symm
  subst hw
  refine lv_aload_n hx hb dL_law_2291 rfl (lv_at hl 2 rfl) ?_
  obtain ⟨q105, hcq105, h⟩ := hb_some h
  refine gdV_i (As := []) (rest := [.int r101]) (BH := (fun (u : Nat → Nat → Int32) H => va_P (dC, dI) vwCl (hW 138 ca b u O J) H)) X hP hS (c_X8_arrived hN hA I O J q105 hcq105) (cwV 0 X.ts gL_law_X8_arrived rfl rfl rfl (by decide +kernel) ⟨Nat.le_of_ble_eq_true rfl, Nat.le_of_ble_eq_true rfl⟩) (gr8 X hP kc_129 (sk_in hN kc_129 (by decide))) rfl hl.1 rfl (Nat.le_of_ble_eq_true rfl) dL_law_2292 ⟨by omega, by omega⟩ (fun r104 I103 H locs hw hP hS => ?_)
  subst hw
  refine lv_icmp_eq (tgt := 2558) hx hb dL_law_2295 (by decide) (fun c106 => ?_) (fun c106 => ?_)
  · have h := gif_t c106 h
    refine W.widen (k := cn + 8) (n := sn + 100) (by omega) (by omega) ?_
    cases h
    exact K _ _ _ hP hS (lv_sub hl [0, 1, 2, 3, 4] rfl)
  · have h := gif_f c106 h
    refine lv_iconst (v := 0) hx hb dL_law_2298 (by decide) ?_
    cases h
def f_L_case42 (SL : Nat) (sx : Nat → Int32) (p4 : Int32) (I : Nat → Nat → Int32) (O : Nat → Nat → Option Nat) (J : Nat → Nat → Int64) : Option ((Nat → Nat → Int32) × (Nat → Nat → Option Nat) × (Nat → Nat → Int64)) :=
  hg (gin (p4 + (1 : Int32)) SL) <|
  (f_L_arrivedAt (sx (p4 + (1 : Int32)).toNatClampNeg) I J).bind fun (r102, J101) =>
  hg (gin (p4 + (1 : Int32)) SL) <|
  (f_X8_arrivedAt (sx (p4 + (1 : Int32)).toNatClampNeg) I).bind fun (r105, I104) =>
  (f_X8_thrown I104).bind fun r107 =>
  if r107 = r102 then
    (show Option (Unit) from
      if r102 = 0 then
        if (lg_cmp (J101 137 (0 : Int32).toNatClampNeg) ((r105).toInt64)) = 0 then
          some ()
        else
          none
      else
        some ()).bind fun _ =>
    some (I104, O, J101)
  else
    none
set_option maxHeartbeats 8000000 in
set_option maxRecDepth 100000 in
theorem lc42 {p : Program} {l : Launch} {e : Env} {s : State} {m : MethodId} {below : List Frame} {meth : Method} {c : Code} {Q : State → Prop} {sb SL : Nat} {sx : Nat → Int32} {dC : Nat → ClassId} {dI : Nat → Nat → Nat} {ca : Nat → ClassId} {b : Nat → Nat} {A : Nat → Prop} (hlf : l.stackTraces = false) (hml : c.maxLocals = 9) (X : gCx p s m #[Value.ref sb] c RL cL_law wsL_law 9 dC dI ca b A 138) (hX : va_X sb SL sx s s.heap) (hbl : sb < s.heap.size) (hbA : ¬ A sb) (p4 : Int32) (I : Nat → Nat → Int32) (O : Nat → Nat → Option Nat) (J : Nat → Nat → Int64) (I9 : Nat → Nat → Int32) (O9 : Nat → Nat → Option Nat) (J9 : Nat → Nat → Int64) (h : f_L_case42 SL sx p4 I O J = some (I9, O9, J9)) {cn sn : Nat} (hc : cn + 8 ≤ 601024) (hs : sn + 100 ≤ 7293034) (H : Heap) (locs : List Loc) (ls : Array Slot) (hP : va_P (dC, dI) vwCl (hW 138 ca b I O J) H) (hS : va_S A s.heap H locs) (hl : lv_has ls 9 [(0, .ref sb), (1, .ref (b 0)), (2, .ref (b 129)), (3, .ref (b 137)), (4, .int p4)]) (K : ∀ (H : Heap) (locs : List Loc) (ls : Array Slot), va_P (dC, dI) vwCl (hW 138 ca b I9 O9 J9) H → va_S A s.heap H locs → lv_has ls 9 [(0, .ref sb), (1, .ref (b 0)), (2, .ref (b 129)), (3, .ref (b 137)), (4, .int p4)] → W p l e room_1 s m #[Value.ref sb] below meth c H locs (cn + 8) (sn + 100) Q (F0 m 2558 ls [])) : W p l e room_1 s m #[Value.ref sb] below meth c H locs cn sn Q (F0 m 2300 ls []) := by
  have hx := X.x
  have hb := X.cb
  have hA := X.ad
  have hN : 138 ≤ 138 := Nat.le_refl 138
  have hRc : room_1.cells = 601024 := rfl
  have hRs : room_1.slots = 7293034 := rfl
  unfold f_L_case42 at h
  refine lv_aload_n hx hb dL_law_2300 rfl (lv_at hl 1 rfl) ?_
  refine lv_aload_n hx hb dL_law_2301 rfl (lv_at hl 0 rfl) ?_
  refine lv_iload hx hb dL_law_2302 (lv_at hl 4 rfl) ?_
  refine lv_iconst (v := 1) hx hb dL_law_2304 (by decide) ?_
  refine lv_iadd hx hb dL_law_2305 ?_
  obtain ⟨hgi, h⟩ := hg_some h
  refine va_sld hx hb hX hbl hbA hS (gin_vp hgi) dL_law_2306 ?_
  refine lv_aload_n hx hb dL_law_2307 rfl (lv_at hl 3 rfl) ?_
  obtain ⟨q103, hcq103, h⟩ := hb_some h
  refine gcSW_i (As := [.ref (b 0), .int (sx (p4 + (1 : Int32)).toNatClampNeg), .ref (b 137)]) (rest := []) (BH := (fun (u : Nat → Nat → Int64) H => va_P (dC, dI) vwCl (hW 138 ca b I O u) H)) X hP hS (c_L_arrivedAt hlf hN hA I O J (sx (p4 + (1 : Int32)).toNatClampNeg) q103 hcq103) (vx_cwSW 3 X.ts gL_law_L_arrivedAt rfl rfl rfl (by decide +kernel) ⟨Nat.le_of_ble_eq_true rfl, Nat.le_of_ble_eq_true rfl⟩) rfl hl.1 rfl (Nat.le_of_ble_eq_true rfl) dL_law_2308 ⟨by omega, by omega⟩ (fun r102 J101 H locs hw hP hS => ?_)
  subst hw
  refine lv_istore (lv' := [(5, .int r102), (0, .ref sb), (1, .ref (b 0)), (2, .ref (b 129)), (3, .ref (b 137)), (4, .int p4)]) hx hb dL_law_2311 hl (by decide) rfl (fun ls hl => ?_)
  refine lv_aload_n hx hb dL_law_2313 rfl (lv_at hl 3 rfl) ?_
  refine lv_aload_n hx hb dL_law_2314 rfl (lv_at hl 1 rfl) ?_
  refine lv_iload hx hb dL_law_2315 (lv_at hl 5 rfl) ?_
  refine lv_iconst (v := 1) hx hb dL_law_2317 (by decide) ?_
  refine lv_iadd hx hb dL_law_2318 ?_
  obtain ⟨hgi, h⟩ := hg_some h
  refine va_sld hx hb hX hbl hbA hS (gin_vp hgi) dL_law_2319 ?_
  obtain ⟨q106, hcq106, h⟩ := hb_some h
  refine gdV_i (As := [.int (sx (p4 + (1 : Int32)).toNatClampNeg)]) (rest := []) (BH := (fun (u : Nat → Nat → Int32) H => va_P (dC, dI) vwCl (hW 138 ca b u O J101) H)) X hP hS (c_X8_arrivedAt hN hA I O J101 (sx (p4 + (1 : Int32)).toNatClampNeg) q106 hcq106) (cwV 1 X.ts gL_law_X8_arrivedAt rfl rfl rfl (by decide +kernel) ⟨Nat.le_of_ble_eq_true rfl, Nat.le_of_ble_eq_true rfl⟩) (gr8 X hP kc_129 (sk_in hN kc_129 (by decide))) rfl hl.1 rfl (Nat.le_of_ble_eq_true rfl) dL_law_2320 ⟨by omega, by omega⟩ (fun r105 I104 H locs hw hP hS => ?_)
  subst hw
  refine lv_istore (lv' := [(6, .int r105), (5, .int r102), (0, .ref sb), (1, .ref (b 0)), (2, .ref (b 129)), (3, .ref (b 137)), (4, .int p4)]) hx hb dL_law_2323 hl (by decide) rfl (fun ls hl => ?_)
  refine lv_aload_n hx hb dL_law_2325 rfl (lv_at hl 4 rfl) ?_
  obtain ⟨q108, hcq108, h⟩ := hb_some h
  refine gdV_i (As := []) (rest := []) (BH := (fun (u : Unit) H => va_P (dC, dI) vwCl (hW 138 ca b I104 O J101) H)) X hP hS (c_X8_thrown hN hA I104 O J101 q108 hcq108) (cwV 0 X.ts gL_law_X8_thrown rfl rfl rfl (by decide +kernel) ⟨Nat.le_of_ble_eq_true rfl, Nat.le_of_ble_eq_true rfl⟩) (gr8 X hP kc_129 (sk_in hN kc_129 (by decide))) rfl hl.1 rfl (Nat.le_of_ble_eq_true rfl) dL_law_2326 ⟨by omega, by omega⟩ (fun r107 u9 H locs hw hP hS => ?_)
  have hw := hw.symm
  subst hw
  refine lv_iload hx hb dL_law_2329 (lv_at hl 1 rfl) ?_
  refine lv_icmp_eq (tgt := 2336) hx hb dL_law_2331 (by decide) (fun c111 => ?_) (fun c111 => ?_)
  · have h := gif_t c111 h
    refine lv_iload hx hb dL_law_2336 (lv_at hl 1 rfl) ?_
    obtain ⟨_, hv, h⟩ := hb_some h
    have K2353 : ∀ (H : Heap) (locs : List Loc) (ls : Array Slot), va_P (dC, dI) vwCl (hW 138 ca b I104 O J101) H → va_S A s.heap H locs → lv_has ls 9 [(0, .ref sb), (1, .ref (b 0)), (2, .ref (b 129)), (3, .ref (b 137)), (4, .int p4)] → W p l e room_1 s m #[Value.ref sb] below meth c H locs (cn + 1) (sn + 6) Q (F0 m 2353 ls []) := by
      intro H locs ls hP hS hl
      refine lv_goto (tgt := 2558) hx hb dL_law_2353 (by decide) ?_
      refine W.widen (k := cn + 8) (n := sn + 100) (by omega) (by omega) ?_
      cases h
      exact K _ _ _ hP hS (lv_sub hl [0, 1, 2, 3, 4] rfl)
    have h := hv
    refine lv_if_ne (tgt := 2353) hx hb dL_law_2338 (by decide) (fun c110 => ?_) (fun c110 => ?_)
    · have h := gif_f c110 h
      refine W.widen (k := (cn + 1)) (n := (sn + 6)) (by omega) (by omega) ?_
      cases h
      exact K2353 _ _ _ hP hS (lv_sub hl [2, 3, 4, 5, 6] rfl)
    · have h := gif_t c110 h
      refine lv_aload_n hx hb dL_law_2341 rfl (lv_at hl 5 rfl) ?_
      refine lv_iconst (v := 0) hx hb dL_law_2342 (by decide) ?_
      refine ga23 X hP kc_137 (sk_in hN kc_137 (by decide)) (L := 1) (by decide) (by decide) dL_law_2343 ?_
      refine lv_iload hx hb dL_law_2344 (lv_at hl 0 rfl) ?_
      refine lv_i2l (v := (r105).toInt64) hx hb dL_law_2346 rfl ?_
      refine W.lcmp hx hb dL_law_2347 ?_
      refine lv_if_eq (tgt := 2353) hx hb dL_law_2348 (by decide) (fun c109 => ?_) (fun c109 => ?_)
      · have h := gif_t c109 h
        refine W.widen (k := (cn + 1)) (n := (sn + 6)) (by omega) (by omega) ?_
        cases h
        exact K2353 _ _ _ hP hS (lv_sub hl [2, 3, 4, 5, 6] rfl)
      · have h := gif_f c109 h
        refine lv_iconst (v := 0) hx hb dL_law_2351 (by decide) ?_
        cases h
  · have h := gif_f c111 h
    refine lv_iconst (v := 0) hx hb dL_law_2334 (by decide) ?_
    cases h
def f_L_case43 (SL : Nat) (sx : Nat → Int32) (p4 : Int32) (I : Nat → Nat → Int32) (O : Nat → Nat → Option Nat) (J : Nat → Nat → Int64) : Option ((Nat → Nat → Int32) × (Nat → Nat → Option Nat) × (Nat → Nat → Int64)) :=
  hg (gin (p4 + (1 : Int32)) SL) <|
  (f_L_timeOf (sx (p4 + (1 : Int32)).toNatClampNeg) I J).bind fun (r102, J101) =>
  hg (gin (p4 + (1 : Int32)) SL) <|
  (f_X8_timeOf (sx (p4 + (1 : Int32)).toNatClampNeg) I).bind fun (r105, I104) =>
  (f_X8_thrown I104).bind fun r107 =>
  if r107 = r102 then
    (show Option (Unit) from
      if r102 = 0 then
        if (lg_cmp (J101 137 (0 : Int32).toNatClampNeg) ((r105).toInt64)) = 0 then
          some ()
        else
          none
      else
        some ()).bind fun _ =>
    some (I104, O, J101)
  else
    none
set_option maxHeartbeats 8000000 in
set_option maxRecDepth 100000 in
theorem lc43 {p : Program} {l : Launch} {e : Env} {s : State} {m : MethodId} {below : List Frame} {meth : Method} {c : Code} {Q : State → Prop} {sb SL : Nat} {sx : Nat → Int32} {dC : Nat → ClassId} {dI : Nat → Nat → Nat} {ca : Nat → ClassId} {b : Nat → Nat} {A : Nat → Prop} (hlf : l.stackTraces = false) (hml : c.maxLocals = 9) (X : gCx p s m #[Value.ref sb] c RL cL_law wsL_law 9 dC dI ca b A 138) (hX : va_X sb SL sx s s.heap) (hbl : sb < s.heap.size) (hbA : ¬ A sb) (p4 : Int32) (I : Nat → Nat → Int32) (O : Nat → Nat → Option Nat) (J : Nat → Nat → Int64) (I9 : Nat → Nat → Int32) (O9 : Nat → Nat → Option Nat) (J9 : Nat → Nat → Int64) (h : f_L_case43 SL sx p4 I O J = some (I9, O9, J9)) {cn sn : Nat} (hc : cn + 8 ≤ 601024) (hs : sn + 100 ≤ 7293034) (H : Heap) (locs : List Loc) (ls : Array Slot) (hP : va_P (dC, dI) vwCl (hW 138 ca b I O J) H) (hS : va_S A s.heap H locs) (hl : lv_has ls 9 [(0, .ref sb), (1, .ref (b 0)), (2, .ref (b 129)), (3, .ref (b 137)), (4, .int p4)]) (K : ∀ (H : Heap) (locs : List Loc) (ls : Array Slot), va_P (dC, dI) vwCl (hW 138 ca b I9 O9 J9) H → va_S A s.heap H locs → lv_has ls 9 [(0, .ref sb), (1, .ref (b 0)), (2, .ref (b 129)), (3, .ref (b 137)), (4, .int p4)] → W p l e room_1 s m #[Value.ref sb] below meth c H locs (cn + 8) (sn + 100) Q (F0 m 2558 ls [])) : W p l e room_1 s m #[Value.ref sb] below meth c H locs cn sn Q (F0 m 2356 ls []) := by
  have hx := X.x
  have hb := X.cb
  have hA := X.ad
  have hN : 138 ≤ 138 := Nat.le_refl 138
  have hRc : room_1.cells = 601024 := rfl
  have hRs : room_1.slots = 7293034 := rfl
  unfold f_L_case43 at h
  refine lv_aload_n hx hb dL_law_2356 rfl (lv_at hl 1 rfl) ?_
  refine lv_aload_n hx hb dL_law_2357 rfl (lv_at hl 0 rfl) ?_
  refine lv_iload hx hb dL_law_2358 (lv_at hl 4 rfl) ?_
  refine lv_iconst (v := 1) hx hb dL_law_2360 (by decide) ?_
  refine lv_iadd hx hb dL_law_2361 ?_
  obtain ⟨hgi, h⟩ := hg_some h
  refine va_sld hx hb hX hbl hbA hS (gin_vp hgi) dL_law_2362 ?_
  refine lv_aload_n hx hb dL_law_2363 rfl (lv_at hl 3 rfl) ?_
  obtain ⟨q103, hcq103, h⟩ := hb_some h
  refine gcSW_i (As := [.ref (b 0), .int (sx (p4 + (1 : Int32)).toNatClampNeg), .ref (b 137)]) (rest := []) (BH := (fun (u : Nat → Nat → Int64) H => va_P (dC, dI) vwCl (hW 138 ca b I O u) H)) X hP hS (c_L_timeOf hlf hN hA I O J (sx (p4 + (1 : Int32)).toNatClampNeg) q103 hcq103) (vx_cwSW 3 X.ts gL_law_L_timeOf rfl rfl rfl (by decide +kernel) ⟨Nat.le_of_ble_eq_true rfl, Nat.le_of_ble_eq_true rfl⟩) rfl hl.1 rfl (Nat.le_of_ble_eq_true rfl) dL_law_2364 ⟨by omega, by omega⟩ (fun r102 J101 H locs hw hP hS => ?_)
  subst hw
  refine lv_istore (lv' := [(5, .int r102), (0, .ref sb), (1, .ref (b 0)), (2, .ref (b 129)), (3, .ref (b 137)), (4, .int p4)]) hx hb dL_law_2367 hl (by decide) rfl (fun ls hl => ?_)
  refine lv_aload_n hx hb dL_law_2369 rfl (lv_at hl 3 rfl) ?_
  refine lv_aload_n hx hb dL_law_2370 rfl (lv_at hl 1 rfl) ?_
  refine lv_iload hx hb dL_law_2371 (lv_at hl 5 rfl) ?_
  refine lv_iconst (v := 1) hx hb dL_law_2373 (by decide) ?_
  refine lv_iadd hx hb dL_law_2374 ?_
  obtain ⟨hgi, h⟩ := hg_some h
  refine va_sld hx hb hX hbl hbA hS (gin_vp hgi) dL_law_2375 ?_
  obtain ⟨q106, hcq106, h⟩ := hb_some h
  refine gdV_i (As := [.int (sx (p4 + (1 : Int32)).toNatClampNeg)]) (rest := []) (BH := (fun (u : Nat → Nat → Int32) H => va_P (dC, dI) vwCl (hW 138 ca b u O J101) H)) X hP hS (c_X8_timeOf hN hA I O J101 (sx (p4 + (1 : Int32)).toNatClampNeg) q106 hcq106) (cwV 1 X.ts gL_law_X8_timeOf rfl rfl rfl (by decide +kernel) ⟨Nat.le_of_ble_eq_true rfl, Nat.le_of_ble_eq_true rfl⟩) (gr8 X hP kc_129 (sk_in hN kc_129 (by decide))) rfl hl.1 rfl (Nat.le_of_ble_eq_true rfl) dL_law_2376 ⟨by omega, by omega⟩ (fun r105 I104 H locs hw hP hS => ?_)
  subst hw
  refine lv_istore (lv' := [(6, .int r105), (5, .int r102), (0, .ref sb), (1, .ref (b 0)), (2, .ref (b 129)), (3, .ref (b 137)), (4, .int p4)]) hx hb dL_law_2379 hl (by decide) rfl (fun ls hl => ?_)
  refine lv_aload_n hx hb dL_law_2381 rfl (lv_at hl 4 rfl) ?_
  obtain ⟨q108, hcq108, h⟩ := hb_some h
  refine gdV_i (As := []) (rest := []) (BH := (fun (u : Unit) H => va_P (dC, dI) vwCl (hW 138 ca b I104 O J101) H)) X hP hS (c_X8_thrown hN hA I104 O J101 q108 hcq108) (cwV 0 X.ts gL_law_X8_thrown rfl rfl rfl (by decide +kernel) ⟨Nat.le_of_ble_eq_true rfl, Nat.le_of_ble_eq_true rfl⟩) (gr8 X hP kc_129 (sk_in hN kc_129 (by decide))) rfl hl.1 rfl (Nat.le_of_ble_eq_true rfl) dL_law_2382 ⟨by omega, by omega⟩ (fun r107 u9 H locs hw hP hS => ?_)
  have hw := hw.symm
  subst hw
  refine lv_iload hx hb dL_law_2385 (lv_at hl 1 rfl) ?_
  refine lv_icmp_eq (tgt := 2392) hx hb dL_law_2387 (by decide) (fun c111 => ?_) (fun c111 => ?_)
  · have h := gif_t c111 h
    refine lv_iload hx hb dL_law_2392 (lv_at hl 1 rfl) ?_
    obtain ⟨_, hv, h⟩ := hb_some h
    have K2409 : ∀ (H : Heap) (locs : List Loc) (ls : Array Slot), va_P (dC, dI) vwCl (hW 138 ca b I104 O J101) H → va_S A s.heap H locs → lv_has ls 9 [(0, .ref sb), (1, .ref (b 0)), (2, .ref (b 129)), (3, .ref (b 137)), (4, .int p4)] → W p l e room_1 s m #[Value.ref sb] below meth c H locs (cn + 2) (sn + 12) Q (F0 m 2409 ls []) := by
      intro H locs ls hP hS hl
      refine lv_goto (tgt := 2558) hx hb dL_law_2409 (by decide) ?_
      refine W.widen (k := cn + 8) (n := sn + 100) (by omega) (by omega) ?_
      cases h
      exact K _ _ _ hP hS (lv_sub hl [0, 1, 2, 3, 4] rfl)
    have h := hv
    refine lv_if_ne (tgt := 2409) hx hb dL_law_2394 (by decide) (fun c110 => ?_) (fun c110 => ?_)
    · have h := gif_f c110 h
      refine W.widen (k := (cn + 2)) (n := (sn + 12)) (by omega) (by omega) ?_
      cases h
      exact K2409 _ _ _ hP hS (lv_sub hl [2, 3, 4, 5, 6] rfl)
    · have h := gif_t c110 h
      refine lv_aload_n hx hb dL_law_2397 rfl (lv_at hl 5 rfl) ?_
      refine lv_iconst (v := 0) hx hb dL_law_2398 (by decide) ?_
      refine ga23 X hP kc_137 (sk_in hN kc_137 (by decide)) (L := 1) (by decide) (by decide) dL_law_2399 ?_
      refine lv_iload hx hb dL_law_2400 (lv_at hl 0 rfl) ?_
      refine lv_i2l (v := (r105).toInt64) hx hb dL_law_2402 rfl ?_
      refine W.lcmp hx hb dL_law_2403 ?_
      refine lv_if_eq (tgt := 2409) hx hb dL_law_2404 (by decide) (fun c109 => ?_) (fun c109 => ?_)
      · have h := gif_t c109 h
        refine W.widen (k := (cn + 2)) (n := (sn + 12)) (by omega) (by omega) ?_
        cases h
        exact K2409 _ _ _ hP hS (lv_sub hl [2, 3, 4, 5, 6] rfl)
      · have h := gif_f c109 h
        refine lv_iconst (v := 0) hx hb dL_law_2407 (by decide) ?_
        cases h
  · have h := gif_f c111 h
    refine lv_iconst (v := 0) hx hb dL_law_2390 (by decide) ?_
    cases h
def f_L_case44 (SL : Nat) (sx : Nat → Int32) (p4 : Int32) (I : Nat → Nat → Int32) (O : Nat → Nat → Option Nat) (J : Nat → Nat → Int64) : Option ((Nat → Nat → Int32) × (Nat → Nat → Option Nat) × (Nat → Nat → Int64)) :=
  (f_X7_flownByBirds I).bind fun r101 =>
  (f_X8_flownByBirds I).bind fun (r104, I103) =>
  if r101 = r104 then
    some (I103, O, J)
  else
    none
set_option maxHeartbeats 8000000 in
set_option maxRecDepth 100000 in
theorem lc44 {p : Program} {l : Launch} {e : Env} {s : State} {m : MethodId} {below : List Frame} {meth : Method} {c : Code} {Q : State → Prop} {sb SL : Nat} {sx : Nat → Int32} {dC : Nat → ClassId} {dI : Nat → Nat → Nat} {ca : Nat → ClassId} {b : Nat → Nat} {A : Nat → Prop} (hlf : l.stackTraces = false) (hml : c.maxLocals = 9) (X : gCx p s m #[Value.ref sb] c RL cL_law wsL_law 9 dC dI ca b A 138) (hX : va_X sb SL sx s s.heap) (hbl : sb < s.heap.size) (hbA : ¬ A sb) (p4 : Int32) (I : Nat → Nat → Int32) (O : Nat → Nat → Option Nat) (J : Nat → Nat → Int64) (I9 : Nat → Nat → Int32) (O9 : Nat → Nat → Option Nat) (J9 : Nat → Nat → Int64) (h : f_L_case44 SL sx p4 I O J = some (I9, O9, J9)) {cn sn : Nat} (hc : cn + 8 ≤ 601024) (hs : sn + 100 ≤ 7293034) (H : Heap) (locs : List Loc) (ls : Array Slot) (hP : va_P (dC, dI) vwCl (hW 138 ca b I O J) H) (hS : va_S A s.heap H locs) (hl : lv_has ls 9 [(0, .ref sb), (1, .ref (b 0)), (2, .ref (b 129)), (3, .ref (b 137)), (4, .int p4)]) (K : ∀ (H : Heap) (locs : List Loc) (ls : Array Slot), va_P (dC, dI) vwCl (hW 138 ca b I9 O9 J9) H → va_S A s.heap H locs → lv_has ls 9 [(0, .ref sb), (1, .ref (b 0)), (2, .ref (b 129)), (3, .ref (b 137)), (4, .int p4)] → W p l e room_1 s m #[Value.ref sb] below meth c H locs (cn + 8) (sn + 100) Q (F0 m 2558 ls [])) : W p l e room_1 s m #[Value.ref sb] below meth c H locs cn sn Q (F0 m 2412 ls []) := by
  have hx := X.x
  have hb := X.cb
  have hA := X.ad
  have hN : 138 ≤ 138 := Nat.le_refl 138
  have hRc : room_1.cells = 601024 := rfl
  have hRs : room_1.slots = 7293034 := rfl
  unfold f_L_case44 at h
  refine lv_aload_n hx hb dL_law_2412 rfl (lv_at hl 1 rfl) ?_
  obtain ⟨q102, hcq102, h⟩ := hb_some h
  refine gdV_i (As := []) (rest := []) (BH := (fun (u : Unit) H => va_P (dC, dI) vwCl (hW 138 ca b I O J) H)) X hP hS (c_X7_flownByBirds hN hA I O J q102 hcq102) (cwV 0 X.ts gL_law_X7_flownByBirds rfl rfl rfl (by decide +kernel) ⟨Nat.le_of_ble_eq_true rfl, Nat.le_of_ble_eq_true rfl⟩) (gr7 X hP kc_0 (sk_in hN kc_0 (by decide))) rfl hl.1 rfl (Nat.le_of_ble_eq_true rfl) dL_law_2413 ⟨by omega, by omega⟩ (fun r101 u9 H locs hw hP hS => ?_)
  have hw := hw.symm
  subst hw
  refine lv_aload_n hx hb dL_law_2416 rfl (lv_at hl 2 rfl) ?_
  obtain ⟨q105, hcq105, h⟩ := hb_some h
  refine gdV_i (As := []) (rest := [.int r101]) (BH := (fun (u : Nat → Nat → Int32) H => va_P (dC, dI) vwCl (hW 138 ca b u O J) H)) X hP hS (c_X8_flownByBirds hN hA I O J q105 hcq105) (cwV 0 X.ts gL_law_X8_flownByBirds rfl rfl rfl (by decide +kernel) ⟨Nat.le_of_ble_eq_true rfl, Nat.le_of_ble_eq_true rfl⟩) (gr8 X hP kc_129 (sk_in hN kc_129 (by decide))) rfl hl.1 rfl (Nat.le_of_ble_eq_true rfl) dL_law_2417 ⟨by omega, by omega⟩ (fun r104 I103 H locs hw hP hS => ?_)
  subst hw
  refine lv_icmp_eq (tgt := 2558) hx hb dL_law_2420 (by decide) (fun c106 => ?_) (fun c106 => ?_)
  · have h := gif_t c106 h
    refine W.widen (k := cn + 8) (n := sn + 100) (by omega) (by omega) ?_
    cases h
    exact K _ _ _ hP hS (lv_sub hl [0, 1, 2, 3, 4] rfl)
  · have h := gif_f c106 h
    refine lv_iconst (v := 0) hx hb dL_law_2423 (by decide) ?_
    cases h
def f_L_case45 (SL : Nat) (sx : Nat → Int32) (p4 : Int32) (I : Nat → Nat → Int32) (O : Nat → Nat → Option Nat) (J : Nat → Nat → Int64) : Option ((Nat → Nat → Int32) × (Nat → Nat → Option Nat) × (Nat → Nat → Int64)) :=
  (f_X7_flownByAccount I).bind fun r101 =>
  (f_X8_flownByAccount I).bind fun (r104, I103) =>
  if r101 = r104 then
    some (I103, O, J)
  else
    none
set_option maxHeartbeats 8000000 in
set_option maxRecDepth 100000 in
theorem lc45 {p : Program} {l : Launch} {e : Env} {s : State} {m : MethodId} {below : List Frame} {meth : Method} {c : Code} {Q : State → Prop} {sb SL : Nat} {sx : Nat → Int32} {dC : Nat → ClassId} {dI : Nat → Nat → Nat} {ca : Nat → ClassId} {b : Nat → Nat} {A : Nat → Prop} (hlf : l.stackTraces = false) (hml : c.maxLocals = 9) (X : gCx p s m #[Value.ref sb] c RL cL_law wsL_law 9 dC dI ca b A 138) (hX : va_X sb SL sx s s.heap) (hbl : sb < s.heap.size) (hbA : ¬ A sb) (p4 : Int32) (I : Nat → Nat → Int32) (O : Nat → Nat → Option Nat) (J : Nat → Nat → Int64) (I9 : Nat → Nat → Int32) (O9 : Nat → Nat → Option Nat) (J9 : Nat → Nat → Int64) (h : f_L_case45 SL sx p4 I O J = some (I9, O9, J9)) {cn sn : Nat} (hc : cn + 8 ≤ 601024) (hs : sn + 100 ≤ 7293034) (H : Heap) (locs : List Loc) (ls : Array Slot) (hP : va_P (dC, dI) vwCl (hW 138 ca b I O J) H) (hS : va_S A s.heap H locs) (hl : lv_has ls 9 [(0, .ref sb), (1, .ref (b 0)), (2, .ref (b 129)), (3, .ref (b 137)), (4, .int p4)]) (K : ∀ (H : Heap) (locs : List Loc) (ls : Array Slot), va_P (dC, dI) vwCl (hW 138 ca b I9 O9 J9) H → va_S A s.heap H locs → lv_has ls 9 [(0, .ref sb), (1, .ref (b 0)), (2, .ref (b 129)), (3, .ref (b 137)), (4, .int p4)] → W p l e room_1 s m #[Value.ref sb] below meth c H locs (cn + 8) (sn + 100) Q (F0 m 2558 ls [])) : W p l e room_1 s m #[Value.ref sb] below meth c H locs cn sn Q (F0 m 2425 ls []) := by
  have hx := X.x
  have hb := X.cb
  have hA := X.ad
  have hN : 138 ≤ 138 := Nat.le_refl 138
  have hRc : room_1.cells = 601024 := rfl
  have hRs : room_1.slots = 7293034 := rfl
  unfold f_L_case45 at h
  refine lv_aload_n hx hb dL_law_2425 rfl (lv_at hl 1 rfl) ?_
  obtain ⟨q102, hcq102, h⟩ := hb_some h
  refine gdV_i (As := []) (rest := []) (BH := (fun (u : Unit) H => va_P (dC, dI) vwCl (hW 138 ca b I O J) H)) X hP hS (c_X7_flownByAccount hN hA I O J q102 hcq102) (cwV 0 X.ts gL_law_X7_flownByAccount rfl rfl rfl (by decide +kernel) ⟨Nat.le_of_ble_eq_true rfl, Nat.le_of_ble_eq_true rfl⟩) (gr7 X hP kc_0 (sk_in hN kc_0 (by decide))) rfl hl.1 rfl (Nat.le_of_ble_eq_true rfl) dL_law_2426 ⟨by omega, by omega⟩ (fun r101 u9 H locs hw hP hS => ?_)
  have hw := hw.symm
  subst hw
  refine lv_aload_n hx hb dL_law_2429 rfl (lv_at hl 2 rfl) ?_
  obtain ⟨q105, hcq105, h⟩ := hb_some h
  refine gdV_i (As := []) (rest := [.int r101]) (BH := (fun (u : Nat → Nat → Int32) H => va_P (dC, dI) vwCl (hW 138 ca b u O J) H)) X hP hS (c_X8_flownByAccount hN hA I O J q105 hcq105) (cwV 0 X.ts gL_law_X8_flownByAccount rfl rfl rfl (by decide +kernel) ⟨Nat.le_of_ble_eq_true rfl, Nat.le_of_ble_eq_true rfl⟩) (gr8 X hP kc_129 (sk_in hN kc_129 (by decide))) rfl hl.1 rfl (Nat.le_of_ble_eq_true rfl) dL_law_2430 ⟨by omega, by omega⟩ (fun r104 I103 H locs hw hP hS => ?_)
  subst hw
  refine lv_icmp_eq (tgt := 2558) hx hb dL_law_2433 (by decide) (fun c106 => ?_) (fun c106 => ?_)
  · have h := gif_t c106 h
    refine W.widen (k := cn + 8) (n := sn + 100) (by omega) (by omega) ?_
    cases h
    exact K _ _ _ hP hS (lv_sub hl [0, 1, 2, 3, 4] rfl)
  · have h := gif_f c106 h
    refine lv_iconst (v := 0) hx hb dL_law_2436 (by decide) ?_
    cases h
def f_L_case46 (SL : Nat) (sx : Nat → Int32) (p4 : Int32) (I : Nat → Nat → Int32) (O : Nat → Nat → Option Nat) (J : Nat → Nat → Int64) : Option ((Nat → Nat → Int32) × (Nat → Nat → Option Nat) × (Nat → Nat → Int64)) :=
  (f_X7_drafts I).bind fun r101 =>
  (f_X8_drafts I).bind fun (r104, I103) =>
  if r101 = r104 then
    some (I103, O, J)
  else
    none
set_option maxHeartbeats 8000000 in
set_option maxRecDepth 100000 in
theorem lc46 {p : Program} {l : Launch} {e : Env} {s : State} {m : MethodId} {below : List Frame} {meth : Method} {c : Code} {Q : State → Prop} {sb SL : Nat} {sx : Nat → Int32} {dC : Nat → ClassId} {dI : Nat → Nat → Nat} {ca : Nat → ClassId} {b : Nat → Nat} {A : Nat → Prop} (hlf : l.stackTraces = false) (hml : c.maxLocals = 9) (X : gCx p s m #[Value.ref sb] c RL cL_law wsL_law 9 dC dI ca b A 138) (hX : va_X sb SL sx s s.heap) (hbl : sb < s.heap.size) (hbA : ¬ A sb) (p4 : Int32) (I : Nat → Nat → Int32) (O : Nat → Nat → Option Nat) (J : Nat → Nat → Int64) (I9 : Nat → Nat → Int32) (O9 : Nat → Nat → Option Nat) (J9 : Nat → Nat → Int64) (h : f_L_case46 SL sx p4 I O J = some (I9, O9, J9)) {cn sn : Nat} (hc : cn + 8 ≤ 601024) (hs : sn + 100 ≤ 7293034) (H : Heap) (locs : List Loc) (ls : Array Slot) (hP : va_P (dC, dI) vwCl (hW 138 ca b I O J) H) (hS : va_S A s.heap H locs) (hl : lv_has ls 9 [(0, .ref sb), (1, .ref (b 0)), (2, .ref (b 129)), (3, .ref (b 137)), (4, .int p4)]) (K : ∀ (H : Heap) (locs : List Loc) (ls : Array Slot), va_P (dC, dI) vwCl (hW 138 ca b I9 O9 J9) H → va_S A s.heap H locs → lv_has ls 9 [(0, .ref sb), (1, .ref (b 0)), (2, .ref (b 129)), (3, .ref (b 137)), (4, .int p4)] → W p l e room_1 s m #[Value.ref sb] below meth c H locs (cn + 8) (sn + 100) Q (F0 m 2558 ls [])) : W p l e room_1 s m #[Value.ref sb] below meth c H locs cn sn Q (F0 m 2438 ls []) := by
  have hx := X.x
  have hb := X.cb
  have hA := X.ad
  have hN : 138 ≤ 138 := Nat.le_refl 138
  have hRc : room_1.cells = 601024 := rfl
  have hRs : room_1.slots = 7293034 := rfl
  unfold f_L_case46 at h
  refine lv_aload_n hx hb dL_law_2438 rfl (lv_at hl 1 rfl) ?_
  obtain ⟨q102, hcq102, h⟩ := hb_some h
  refine gdV_i (As := []) (rest := []) (BH := (fun (u : Unit) H => va_P (dC, dI) vwCl (hW 138 ca b I O J) H)) X hP hS (c_X7_drafts hN hA I O J q102 hcq102) (cwV 0 X.ts gL_law_X7_drafts rfl rfl rfl (by decide +kernel) ⟨Nat.le_of_ble_eq_true rfl, Nat.le_of_ble_eq_true rfl⟩) (gr7 X hP kc_0 (sk_in hN kc_0 (by decide))) rfl hl.1 rfl (Nat.le_of_ble_eq_true rfl) dL_law_2439 ⟨by omega, by omega⟩ (fun r101 u9 H locs hw hP hS => ?_)
  have hw := hw.symm
  subst hw
  refine lv_aload_n hx hb dL_law_2442 rfl (lv_at hl 2 rfl) ?_
  obtain ⟨q105, hcq105, h⟩ := hb_some h
  refine gdV_i (As := []) (rest := [.int r101]) (BH := (fun (u : Nat → Nat → Int32) H => va_P (dC, dI) vwCl (hW 138 ca b u O J) H)) X hP hS (c_X8_drafts hN hA I O J q105 hcq105) (cwV 0 X.ts gL_law_X8_drafts rfl rfl rfl (by decide +kernel) ⟨Nat.le_of_ble_eq_true rfl, Nat.le_of_ble_eq_true rfl⟩) (gr8 X hP kc_129 (sk_in hN kc_129 (by decide))) rfl hl.1 rfl (Nat.le_of_ble_eq_true rfl) dL_law_2443 ⟨by omega, by omega⟩ (fun r104 I103 H locs hw hP hS => ?_)
  subst hw
  refine lv_icmp_eq (tgt := 2558) hx hb dL_law_2446 (by decide) (fun c106 => ?_) (fun c106 => ?_)
  · have h := gif_t c106 h
    refine W.widen (k := cn + 8) (n := sn + 100) (by omega) (by omega) ?_
    cases h
    exact K _ _ _ hP hS (lv_sub hl [0, 1, 2, 3, 4] rfl)
  · have h := gif_f c106 h
    refine lv_iconst (v := 0) hx hb dL_law_2449 (by decide) ?_
    cases h
def f_L_case47 (SL : Nat) (sx : Nat → Int32) (p4 : Int32) (I : Nat → Nat → Int32) (O : Nat → Nat → Option Nat) (J : Nat → Nat → Int64) : Option ((Nat → Nat → Int32) × (Nat → Nat → Option Nat) × (Nat → Nat → Int64)) :=
  (f_X7_changes I).bind fun r101 =>
  (f_X8_changes I).bind fun (r104, I103) =>
  if r101 = r104 then
    some (I103, O, J)
  else
    none
set_option maxHeartbeats 8000000 in
set_option maxRecDepth 100000 in
theorem lc47 {p : Program} {l : Launch} {e : Env} {s : State} {m : MethodId} {below : List Frame} {meth : Method} {c : Code} {Q : State → Prop} {sb SL : Nat} {sx : Nat → Int32} {dC : Nat → ClassId} {dI : Nat → Nat → Nat} {ca : Nat → ClassId} {b : Nat → Nat} {A : Nat → Prop} (hlf : l.stackTraces = false) (hml : c.maxLocals = 9) (X : gCx p s m #[Value.ref sb] c RL cL_law wsL_law 9 dC dI ca b A 138) (hX : va_X sb SL sx s s.heap) (hbl : sb < s.heap.size) (hbA : ¬ A sb) (p4 : Int32) (I : Nat → Nat → Int32) (O : Nat → Nat → Option Nat) (J : Nat → Nat → Int64) (I9 : Nat → Nat → Int32) (O9 : Nat → Nat → Option Nat) (J9 : Nat → Nat → Int64) (h : f_L_case47 SL sx p4 I O J = some (I9, O9, J9)) {cn sn : Nat} (hc : cn + 8 ≤ 601024) (hs : sn + 100 ≤ 7293034) (H : Heap) (locs : List Loc) (ls : Array Slot) (hP : va_P (dC, dI) vwCl (hW 138 ca b I O J) H) (hS : va_S A s.heap H locs) (hl : lv_has ls 9 [(0, .ref sb), (1, .ref (b 0)), (2, .ref (b 129)), (3, .ref (b 137)), (4, .int p4)]) (K : ∀ (H : Heap) (locs : List Loc) (ls : Array Slot), va_P (dC, dI) vwCl (hW 138 ca b I9 O9 J9) H → va_S A s.heap H locs → lv_has ls 9 [(0, .ref sb), (1, .ref (b 0)), (2, .ref (b 129)), (3, .ref (b 137)), (4, .int p4)] → W p l e room_1 s m #[Value.ref sb] below meth c H locs (cn + 8) (sn + 100) Q (F0 m 2558 ls [])) : W p l e room_1 s m #[Value.ref sb] below meth c H locs cn sn Q (F0 m 2451 ls []) := by
  have hx := X.x
  have hb := X.cb
  have hA := X.ad
  have hN : 138 ≤ 138 := Nat.le_refl 138
  have hRc : room_1.cells = 601024 := rfl
  have hRs : room_1.slots = 7293034 := rfl
  unfold f_L_case47 at h
  refine lv_aload_n hx hb dL_law_2451 rfl (lv_at hl 1 rfl) ?_
  obtain ⟨q102, hcq102, h⟩ := hb_some h
  refine gdV_i (As := []) (rest := []) (BH := (fun (u : Unit) H => va_P (dC, dI) vwCl (hW 138 ca b I O J) H)) X hP hS (c_X7_changes hN hA I O J q102 hcq102) (cwV 0 X.ts gL_law_X7_changes rfl rfl rfl (by decide +kernel) ⟨Nat.le_of_ble_eq_true rfl, Nat.le_of_ble_eq_true rfl⟩) (gr7 X hP kc_0 (sk_in hN kc_0 (by decide))) rfl hl.1 rfl (Nat.le_of_ble_eq_true rfl) dL_law_2452 ⟨by omega, by omega⟩ (fun r101 u9 H locs hw hP hS => ?_)
  have hw := hw.symm
  subst hw
  refine lv_aload_n hx hb dL_law_2455 rfl (lv_at hl 2 rfl) ?_
  obtain ⟨q105, hcq105, h⟩ := hb_some h
  refine gdV_i (As := []) (rest := [.int r101]) (BH := (fun (u : Nat → Nat → Int32) H => va_P (dC, dI) vwCl (hW 138 ca b u O J) H)) X hP hS (c_X8_changes hN hA I O J q105 hcq105) (cwV 0 X.ts gL_law_X8_changes rfl rfl rfl (by decide +kernel) ⟨Nat.le_of_ble_eq_true rfl, Nat.le_of_ble_eq_true rfl⟩) (gr8 X hP kc_129 (sk_in hN kc_129 (by decide))) rfl hl.1 rfl (Nat.le_of_ble_eq_true rfl) dL_law_2456 ⟨by omega, by omega⟩ (fun r104 I103 H locs hw hP hS => ?_)
  subst hw
  refine lv_icmp_eq (tgt := 2558) hx hb dL_law_2459 (by decide) (fun c106 => ?_) (fun c106 => ?_)
  · have h := gif_t c106 h
    refine W.widen (k := cn + 8) (n := sn + 100) (by omega) (by omega) ?_
    cases h
    exact K _ _ _ hP hS (lv_sub hl [0, 1, 2, 3, 4] rfl)
  · have h := gif_f c106 h
    refine lv_iconst (v := 0) hx hb dL_law_2462 (by decide) ?_
    cases h
def f_L_case48 (SL : Nat) (sx : Nat → Int32) (p4 : Int32) (I : Nat → Nat → Int32) (O : Nat → Nat → Option Nat) (J : Nat → Nat → Int64) : Option ((Nat → Nat → Int32) × (Nat → Nat → Option Nat) × (Nat → Nat → Int64)) :=
  (f_X7_rests I).bind fun r101 =>
  (f_X8_rests I).bind fun (r104, I103) =>
  if r101 = r104 then
    some (I103, O, J)
  else
    none
set_option maxHeartbeats 8000000 in
set_option maxRecDepth 100000 in
theorem lc48 {p : Program} {l : Launch} {e : Env} {s : State} {m : MethodId} {below : List Frame} {meth : Method} {c : Code} {Q : State → Prop} {sb SL : Nat} {sx : Nat → Int32} {dC : Nat → ClassId} {dI : Nat → Nat → Nat} {ca : Nat → ClassId} {b : Nat → Nat} {A : Nat → Prop} (hlf : l.stackTraces = false) (hml : c.maxLocals = 9) (X : gCx p s m #[Value.ref sb] c RL cL_law wsL_law 9 dC dI ca b A 138) (hX : va_X sb SL sx s s.heap) (hbl : sb < s.heap.size) (hbA : ¬ A sb) (p4 : Int32) (I : Nat → Nat → Int32) (O : Nat → Nat → Option Nat) (J : Nat → Nat → Int64) (I9 : Nat → Nat → Int32) (O9 : Nat → Nat → Option Nat) (J9 : Nat → Nat → Int64) (h : f_L_case48 SL sx p4 I O J = some (I9, O9, J9)) {cn sn : Nat} (hc : cn + 8 ≤ 601024) (hs : sn + 100 ≤ 7293034) (H : Heap) (locs : List Loc) (ls : Array Slot) (hP : va_P (dC, dI) vwCl (hW 138 ca b I O J) H) (hS : va_S A s.heap H locs) (hl : lv_has ls 9 [(0, .ref sb), (1, .ref (b 0)), (2, .ref (b 129)), (3, .ref (b 137)), (4, .int p4)]) (K : ∀ (H : Heap) (locs : List Loc) (ls : Array Slot), va_P (dC, dI) vwCl (hW 138 ca b I9 O9 J9) H → va_S A s.heap H locs → lv_has ls 9 [(0, .ref sb), (1, .ref (b 0)), (2, .ref (b 129)), (3, .ref (b 137)), (4, .int p4)] → W p l e room_1 s m #[Value.ref sb] below meth c H locs (cn + 8) (sn + 100) Q (F0 m 2558 ls [])) : W p l e room_1 s m #[Value.ref sb] below meth c H locs cn sn Q (F0 m 2464 ls []) := by
  have hx := X.x
  have hb := X.cb
  have hA := X.ad
  have hN : 138 ≤ 138 := Nat.le_refl 138
  have hRc : room_1.cells = 601024 := rfl
  have hRs : room_1.slots = 7293034 := rfl
  unfold f_L_case48 at h
  refine lv_aload_n hx hb dL_law_2464 rfl (lv_at hl 1 rfl) ?_
  obtain ⟨q102, hcq102, h⟩ := hb_some h
  refine gdV_i (As := []) (rest := []) (BH := (fun (u : Unit) H => va_P (dC, dI) vwCl (hW 138 ca b I O J) H)) X hP hS (c_X7_rests hN hA I O J q102 hcq102) (cwV 0 X.ts gL_law_X7_rests rfl rfl rfl (by decide +kernel) ⟨Nat.le_of_ble_eq_true rfl, Nat.le_of_ble_eq_true rfl⟩) (gr7 X hP kc_0 (sk_in hN kc_0 (by decide))) rfl hl.1 rfl (Nat.le_of_ble_eq_true rfl) dL_law_2465 ⟨by omega, by omega⟩ (fun r101 u9 H locs hw hP hS => ?_)
  have hw := hw.symm
  subst hw
  refine lv_aload_n hx hb dL_law_2468 rfl (lv_at hl 2 rfl) ?_
  obtain ⟨q105, hcq105, h⟩ := hb_some h
  refine gdV_i (As := []) (rest := [.int r101]) (BH := (fun (u : Nat → Nat → Int32) H => va_P (dC, dI) vwCl (hW 138 ca b u O J) H)) X hP hS (c_X8_rests hN hA I O J q105 hcq105) (cwV 0 X.ts gL_law_X8_rests rfl rfl rfl (by decide +kernel) ⟨Nat.le_of_ble_eq_true rfl, Nat.le_of_ble_eq_true rfl⟩) (gr8 X hP kc_129 (sk_in hN kc_129 (by decide))) rfl hl.1 rfl (Nat.le_of_ble_eq_true rfl) dL_law_2469 ⟨by omega, by omega⟩ (fun r104 I103 H locs hw hP hS => ?_)
  subst hw
  refine lv_icmp_eq (tgt := 2558) hx hb dL_law_2472 (by decide) (fun c106 => ?_) (fun c106 => ?_)
  · have h := gif_t c106 h
    refine W.widen (k := cn + 8) (n := sn + 100) (by omega) (by omega) ?_
    cases h
    exact K _ _ _ hP hS (lv_sub hl [0, 1, 2, 3, 4] rfl)
  · have h := gif_f c106 h
    refine lv_iconst (v := 0) hx hb dL_law_2475 (by decide) ?_
    cases h
def f_L_case49 (SL : Nat) (sx : Nat → Int32) (p4 : Int32) (I : Nat → Nat → Int32) (O : Nat → Nat → Option Nat) (J : Nat → Nat → Int64) : Option ((Nat → Nat → Int32) × (Nat → Nat → Option Nat) × (Nat → Nat → Int64)) :=
  (f_X7_races I).bind fun r101 =>
  (f_X8_races I).bind fun (r104, I103) =>
  if r101 = r104 then
    some (I103, O, J)
  else
    none
set_option maxHeartbeats 8000000 in
set_option maxRecDepth 100000 in
theorem lc49 {p : Program} {l : Launch} {e : Env} {s : State} {m : MethodId} {below : List Frame} {meth : Method} {c : Code} {Q : State → Prop} {sb SL : Nat} {sx : Nat → Int32} {dC : Nat → ClassId} {dI : Nat → Nat → Nat} {ca : Nat → ClassId} {b : Nat → Nat} {A : Nat → Prop} (hlf : l.stackTraces = false) (hml : c.maxLocals = 9) (X : gCx p s m #[Value.ref sb] c RL cL_law wsL_law 9 dC dI ca b A 138) (hX : va_X sb SL sx s s.heap) (hbl : sb < s.heap.size) (hbA : ¬ A sb) (p4 : Int32) (I : Nat → Nat → Int32) (O : Nat → Nat → Option Nat) (J : Nat → Nat → Int64) (I9 : Nat → Nat → Int32) (O9 : Nat → Nat → Option Nat) (J9 : Nat → Nat → Int64) (h : f_L_case49 SL sx p4 I O J = some (I9, O9, J9)) {cn sn : Nat} (hc : cn + 8 ≤ 601024) (hs : sn + 100 ≤ 7293034) (H : Heap) (locs : List Loc) (ls : Array Slot) (hP : va_P (dC, dI) vwCl (hW 138 ca b I O J) H) (hS : va_S A s.heap H locs) (hl : lv_has ls 9 [(0, .ref sb), (1, .ref (b 0)), (2, .ref (b 129)), (3, .ref (b 137)), (4, .int p4)]) (K : ∀ (H : Heap) (locs : List Loc) (ls : Array Slot), va_P (dC, dI) vwCl (hW 138 ca b I9 O9 J9) H → va_S A s.heap H locs → lv_has ls 9 [(0, .ref sb), (1, .ref (b 0)), (2, .ref (b 129)), (3, .ref (b 137)), (4, .int p4)] → W p l e room_1 s m #[Value.ref sb] below meth c H locs (cn + 8) (sn + 100) Q (F0 m 2558 ls [])) : W p l e room_1 s m #[Value.ref sb] below meth c H locs cn sn Q (F0 m 2477 ls []) := by
  have hx := X.x
  have hb := X.cb
  have hA := X.ad
  have hN : 138 ≤ 138 := Nat.le_refl 138
  have hRc : room_1.cells = 601024 := rfl
  have hRs : room_1.slots = 7293034 := rfl
  unfold f_L_case49 at h
  refine lv_aload_n hx hb dL_law_2477 rfl (lv_at hl 1 rfl) ?_
  obtain ⟨q102, hcq102, h⟩ := hb_some h
  refine gdV_i (As := []) (rest := []) (BH := (fun (u : Unit) H => va_P (dC, dI) vwCl (hW 138 ca b I O J) H)) X hP hS (c_X7_races hN hA I O J q102 hcq102) (cwV 0 X.ts gL_law_X7_races rfl rfl rfl (by decide +kernel) ⟨Nat.le_of_ble_eq_true rfl, Nat.le_of_ble_eq_true rfl⟩) (gr7 X hP kc_0 (sk_in hN kc_0 (by decide))) rfl hl.1 rfl (Nat.le_of_ble_eq_true rfl) dL_law_2478 ⟨by omega, by omega⟩ (fun r101 u9 H locs hw hP hS => ?_)
  have hw := hw.symm
  subst hw
  refine lv_aload_n hx hb dL_law_2481 rfl (lv_at hl 2 rfl) ?_
  obtain ⟨q105, hcq105, h⟩ := hb_some h
  refine gdV_i (As := []) (rest := [.int r101]) (BH := (fun (u : Nat → Nat → Int32) H => va_P (dC, dI) vwCl (hW 138 ca b u O J) H)) X hP hS (c_X8_races hN hA I O J q105 hcq105) (cwV 0 X.ts gL_law_X8_races rfl rfl rfl (by decide +kernel) ⟨Nat.le_of_ble_eq_true rfl, Nat.le_of_ble_eq_true rfl⟩) (gr8 X hP kc_129 (sk_in hN kc_129 (by decide))) rfl hl.1 rfl (Nat.le_of_ble_eq_true rfl) dL_law_2482 ⟨by omega, by omega⟩ (fun r104 I103 H locs hw hP hS => ?_)
  subst hw
  refine lv_icmp_eq (tgt := 2558) hx hb dL_law_2485 (by decide) (fun c106 => ?_) (fun c106 => ?_)
  · have h := gif_t c106 h
    refine W.widen (k := cn + 8) (n := sn + 100) (by omega) (by omega) ?_
    cases h
    exact K _ _ _ hP hS (lv_sub hl [0, 1, 2, 3, 4] rfl)
  · have h := gif_f c106 h
    refine lv_iconst (v := 0) hx hb dL_law_2488 (by decide) ?_
    cases h
def f_L_case50 (SL : Nat) (sx : Nat → Int32) (p4 : Int32) (I : Nat → Nat → Int32) (O : Nat → Nat → Option Nat) (J : Nat → Nat → Int64) : Option ((Nat → Nat → Int32) × (Nat → Nat → Option Nat) × (Nat → Nat → Int64)) :=
  (f_X7_winsInPairs I).bind fun r101 =>
  (f_X8_winsInPairs I).bind fun (r104, I103) =>
  if r101 = r104 then
    some (I103, O, J)
  else
    none
set_option maxHeartbeats 8000000 in
set_option maxRecDepth 100000 in
theorem lc50 {p : Program} {l : Launch} {e : Env} {s : State} {m : MethodId} {below : List Frame} {meth : Method} {c : Code} {Q : State → Prop} {sb SL : Nat} {sx : Nat → Int32} {dC : Nat → ClassId} {dI : Nat → Nat → Nat} {ca : Nat → ClassId} {b : Nat → Nat} {A : Nat → Prop} (hlf : l.stackTraces = false) (hml : c.maxLocals = 9) (X : gCx p s m #[Value.ref sb] c RL cL_law wsL_law 9 dC dI ca b A 138) (hX : va_X sb SL sx s s.heap) (hbl : sb < s.heap.size) (hbA : ¬ A sb) (p4 : Int32) (I : Nat → Nat → Int32) (O : Nat → Nat → Option Nat) (J : Nat → Nat → Int64) (I9 : Nat → Nat → Int32) (O9 : Nat → Nat → Option Nat) (J9 : Nat → Nat → Int64) (h : f_L_case50 SL sx p4 I O J = some (I9, O9, J9)) {cn sn : Nat} (hc : cn + 8 ≤ 601024) (hs : sn + 100 ≤ 7293034) (H : Heap) (locs : List Loc) (ls : Array Slot) (hP : va_P (dC, dI) vwCl (hW 138 ca b I O J) H) (hS : va_S A s.heap H locs) (hl : lv_has ls 9 [(0, .ref sb), (1, .ref (b 0)), (2, .ref (b 129)), (3, .ref (b 137)), (4, .int p4)]) (K : ∀ (H : Heap) (locs : List Loc) (ls : Array Slot), va_P (dC, dI) vwCl (hW 138 ca b I9 O9 J9) H → va_S A s.heap H locs → lv_has ls 9 [(0, .ref sb), (1, .ref (b 0)), (2, .ref (b 129)), (3, .ref (b 137)), (4, .int p4)] → W p l e room_1 s m #[Value.ref sb] below meth c H locs (cn + 8) (sn + 100) Q (F0 m 2558 ls [])) : W p l e room_1 s m #[Value.ref sb] below meth c H locs cn sn Q (F0 m 2490 ls []) := by
  have hx := X.x
  have hb := X.cb
  have hA := X.ad
  have hN : 138 ≤ 138 := Nat.le_refl 138
  have hRc : room_1.cells = 601024 := rfl
  have hRs : room_1.slots = 7293034 := rfl
  unfold f_L_case50 at h
  refine lv_aload_n hx hb dL_law_2490 rfl (lv_at hl 1 rfl) ?_
  obtain ⟨q102, hcq102, h⟩ := hb_some h
  refine gdV_i (As := []) (rest := []) (BH := (fun (u : Unit) H => va_P (dC, dI) vwCl (hW 138 ca b I O J) H)) X hP hS (c_X7_winsInPairs hN hA I O J q102 hcq102) (cwV 0 X.ts gL_law_X7_winsInPairs rfl rfl rfl (by decide +kernel) ⟨Nat.le_of_ble_eq_true rfl, Nat.le_of_ble_eq_true rfl⟩) (gr7 X hP kc_0 (sk_in hN kc_0 (by decide))) rfl hl.1 rfl (Nat.le_of_ble_eq_true rfl) dL_law_2491 ⟨by omega, by omega⟩ (fun r101 u9 H locs hw hP hS => ?_)
  have hw := hw.symm
  subst hw
  refine lv_aload_n hx hb dL_law_2494 rfl (lv_at hl 2 rfl) ?_
  obtain ⟨q105, hcq105, h⟩ := hb_some h
  refine gdV_i (As := []) (rest := [.int r101]) (BH := (fun (u : Nat → Nat → Int32) H => va_P (dC, dI) vwCl (hW 138 ca b u O J) H)) X hP hS (c_X8_winsInPairs hN hA I O J q105 hcq105) (cwV 0 X.ts gL_law_X8_winsInPairs rfl rfl rfl (by decide +kernel) ⟨Nat.le_of_ble_eq_true rfl, Nat.le_of_ble_eq_true rfl⟩) (gr8 X hP kc_129 (sk_in hN kc_129 (by decide))) rfl hl.1 rfl (Nat.le_of_ble_eq_true rfl) dL_law_2495 ⟨by omega, by omega⟩ (fun r104 I103 H locs hw hP hS => ?_)
  subst hw
  refine lv_icmp_eq (tgt := 2558) hx hb dL_law_2498 (by decide) (fun c106 => ?_) (fun c106 => ?_)
  · have h := gif_t c106 h
    refine W.widen (k := cn + 8) (n := sn + 100) (by omega) (by omega) ?_
    cases h
    exact K _ _ _ hP hS (lv_sub hl [0, 1, 2, 3, 4] rfl)
  · have h := gif_f c106 h
    refine lv_iconst (v := 0) hx hb dL_law_2501 (by decide) ?_
    cases h
def f_L_case51 (SL : Nat) (sx : Nat → Int32) (p4 : Int32) (I : Nat → Nat → Int32) (O : Nat → Nat → Option Nat) (J : Nat → Nat → Int64) : Option ((Nat → Nat → Int32) × (Nat → Nat → Option Nat) × (Nat → Nat → Int64)) :=
  (f_X7_meanFlown I).bind fun r101 =>
  (f_X8_meanFlown I).bind fun (r104, I103) =>
  (show Option (Unit) from
    if (Op.cmpValue (FP.dcmp r101 r104) .l) = 0 then
      some ()
    else
      if (Op.cmpValue (FP.dcmp r101 r101) .l) = 0 then
        none
      else
        if (Op.cmpValue (FP.dcmp r104 r104) .l) = 0 then
          none
        else
          some ()).bind fun _ =>
  some (I103, O, J)
set_option maxHeartbeats 8000000 in
set_option maxRecDepth 100000 in
theorem lc51 {p : Program} {l : Launch} {e : Env} {s : State} {m : MethodId} {below : List Frame} {meth : Method} {c : Code} {Q : State → Prop} {sb SL : Nat} {sx : Nat → Int32} {dC : Nat → ClassId} {dI : Nat → Nat → Nat} {ca : Nat → ClassId} {b : Nat → Nat} {A : Nat → Prop} (hlf : l.stackTraces = false) (hml : c.maxLocals = 9) (X : gCx p s m #[Value.ref sb] c RL cL_law wsL_law 9 dC dI ca b A 138) (hX : va_X sb SL sx s s.heap) (hbl : sb < s.heap.size) (hbA : ¬ A sb) (p4 : Int32) (I : Nat → Nat → Int32) (O : Nat → Nat → Option Nat) (J : Nat → Nat → Int64) (I9 : Nat → Nat → Int32) (O9 : Nat → Nat → Option Nat) (J9 : Nat → Nat → Int64) (h : f_L_case51 SL sx p4 I O J = some (I9, O9, J9)) {cn sn : Nat} (hc : cn + 8 ≤ 601024) (hs : sn + 100 ≤ 7293034) (H : Heap) (locs : List Loc) (ls : Array Slot) (hP : va_P (dC, dI) vwCl (hW 138 ca b I O J) H) (hS : va_S A s.heap H locs) (hl : lv_has ls 9 [(0, .ref sb), (1, .ref (b 0)), (2, .ref (b 129)), (3, .ref (b 137)), (4, .int p4)]) (K : ∀ (H : Heap) (locs : List Loc) (ls : Array Slot), va_P (dC, dI) vwCl (hW 138 ca b I9 O9 J9) H → va_S A s.heap H locs → lv_has ls 9 [(0, .ref sb), (1, .ref (b 0)), (2, .ref (b 129)), (3, .ref (b 137)), (4, .int p4)] → W p l e room_1 s m #[Value.ref sb] below meth c H locs (cn + 8) (sn + 100) Q (F0 m 2558 ls [])) : W p l e room_1 s m #[Value.ref sb] below meth c H locs cn sn Q (F0 m 2503 ls []) := by
  have hx := X.x
  have hb := X.cb
  have hA := X.ad
  have hN : 138 ≤ 138 := Nat.le_refl 138
  have hRc : room_1.cells = 601024 := rfl
  have hRs : room_1.slots = 7293034 := rfl
  unfold f_L_case51 at h
  refine lv_aload_n hx hb dL_law_2503 rfl (lv_at hl 1 rfl) ?_
  obtain ⟨q102, hcq102, h⟩ := hb_some h
  refine gdV_d (As := []) (rest := []) (BH := (fun (u : Unit) H => va_P (dC, dI) vwCl (hW 138 ca b I O J) H)) X hP hS (c_X7_meanFlown hN hA I O J q102 hcq102) (cwV 0 X.ts gL_law_X7_meanFlown rfl rfl rfl (by decide +kernel) ⟨Nat.le_of_ble_eq_true rfl, Nat.le_of_ble_eq_true rfl⟩) (gr7 X hP kc_0 (sk_in hN kc_0 (by decide))) rfl hl.1 rfl (Nat.le_of_ble_eq_true rfl) dL_law_2504 ⟨by omega, by omega⟩ (fun r101 u9 H locs hw hP hS => ?_)
  have hw := hw.symm
  subst hw
  refine lv_dstore (lv' := [(5, .double r101), (0, .ref sb), (1, .ref (b 0)), (2, .ref (b 129)), (3, .ref (b 137)), (4, .int p4)]) hx hb dL_law_2507 hl (by decide) rfl (fun ls hl => ?_)
  refine lv_aload_n hx hb dL_law_2509 rfl (lv_at hl 3 rfl) ?_
  obtain ⟨q105, hcq105, h⟩ := hb_some h
  refine gdV_d (As := []) (rest := []) (BH := (fun (u : Nat → Nat → Int32) H => va_P (dC, dI) vwCl (hW 138 ca b u O J) H)) X hP hS (c_X8_meanFlown hN hA I O J q105 hcq105) (cwV 0 X.ts gL_law_X8_meanFlown rfl rfl rfl (by decide +kernel) ⟨Nat.le_of_ble_eq_true rfl, Nat.le_of_ble_eq_true rfl⟩) (gr8 X hP kc_129 (sk_in hN kc_129 (by decide))) rfl hl.1 rfl (Nat.le_of_ble_eq_true rfl) dL_law_2510 ⟨by omega, by omega⟩ (fun r104 I103 H locs hw hP hS => ?_)
  subst hw
  refine lv_dstore (lv' := [(7, .double r104), (5, .double r101), (0, .ref sb), (1, .ref (b 0)), (2, .ref (b 129)), (3, .ref (b 137)), (4, .int p4)]) hx hb dL_law_2513 hl (by decide) rfl (fun ls hl => ?_)
  refine lv_dload hx hb dL_law_2515 (lv_at hl 1 rfl) ?_
  refine lv_dload hx hb dL_law_2517 (lv_at hl 0 rfl) ?_
  refine lv_dcmp hx hb dL_law_2519 ?_
  obtain ⟨_, hv, h⟩ := hb_some h
  have K2541 : ∀ (H : Heap) (locs : List Loc) (ls : Array Slot), va_P (dC, dI) vwCl (hW 138 ca b I103 O J) H → va_S A s.heap H locs → lv_has ls 9 [(0, .ref sb), (1, .ref (b 0)), (2, .ref (b 129)), (3, .ref (b 137)), (4, .int p4)] → W p l e room_1 s m #[Value.ref sb] below meth c H locs (cn + 0) (sn + 0) Q (F0 m 2541 ls []) := by
    intro H locs ls hP hS hl
    refine lv_goto (tgt := 2558) hx hb dL_law_2541 (by decide) ?_
    refine W.widen (k := cn + 8) (n := sn + 100) (by omega) (by omega) ?_
    cases h
    exact K _ _ _ hP hS (lv_sub hl [0, 1, 2, 3, 4] rfl)
  have h := hv
  refine lv_if_eq (tgt := 2541) hx hb dL_law_2520 (by decide) (fun c108 => ?_) (fun c108 => ?_)
  · have h := gif_t c108 h
    refine W.widen (k := (cn + 0)) (n := (sn + 0)) (by omega) (by omega) ?_
    cases h
    exact K2541 _ _ _ hP hS (lv_sub hl [2, 3, 4, 5, 6] rfl)
  · have h := gif_f c108 h
    refine lv_dload hx hb dL_law_2523 (lv_at hl 1 rfl) ?_
    refine lv_dload hx hb dL_law_2525 (lv_at hl 1 rfl) ?_
    refine lv_dcmp hx hb dL_law_2527 ?_
    refine lv_if_eq (tgt := 2539) hx hb dL_law_2528 (by decide) (fun c107 => ?_) (fun c107 => ?_)
    · have h := gif_t c107 h
      refine lv_iconst (v := 0) hx hb dL_law_2539 (by decide) ?_
      cases h
    · have h := gif_f c107 h
      refine lv_dload hx hb dL_law_2531 (lv_at hl 0 rfl) ?_
      refine lv_dload hx hb dL_law_2533 (lv_at hl 0 rfl) ?_
      refine lv_dcmp hx hb dL_law_2535 ?_
      refine lv_if_ne (tgt := 2541) hx hb dL_law_2536 (by decide) (fun c106 => ?_) (fun c106 => ?_)
      · have h := gif_f c106 h
        refine W.widen (k := (cn + 0)) (n := (sn + 0)) (by omega) (by omega) ?_
        cases h
        exact K2541 _ _ _ hP hS (lv_sub hl [2, 3, 4, 5, 6] rfl)
      · have h := gif_t c106 h
        refine lv_iconst (v := 0) hx hb dL_law_2539 (by decide) ?_
        cases h
def f_L_case52 (SL : Nat) (sx : Nat → Int32) (p4 : Int32) (I : Nat → Nat → Int32) (O : Nat → Nat → Option Nat) (J : Nat → Nat → Int64) : Option ((Nat → Nat → Int32) × (Nat → Nat → Option Nat) × (Nat → Nat → Int64)) :=
  (f_X7_digest 138 I O J).bind fun (r104, I101, O102, J103) =>
  (f_X8_digest I101 J103).bind fun (r108, I106, J107) =>
  if (lg_cmp r104 r108) = 0 then
    some (I106, O102, J107)
  else
    none
set_option maxHeartbeats 8000000 in
set_option maxRecDepth 100000 in
theorem lc52 {p : Program} {l : Launch} {e : Env} {s : State} {m : MethodId} {below : List Frame} {meth : Method} {c : Code} {Q : State → Prop} {sb SL : Nat} {sx : Nat → Int32} {dC : Nat → ClassId} {dI : Nat → Nat → Nat} {ca : Nat → ClassId} {b : Nat → Nat} {A : Nat → Prop} (hlf : l.stackTraces = false) (hml : c.maxLocals = 9) (X : gCx p s m #[Value.ref sb] c RL cL_law wsL_law 9 dC dI ca b A 138) (hX : va_X sb SL sx s s.heap) (hbl : sb < s.heap.size) (hbA : ¬ A sb) (p4 : Int32) (I : Nat → Nat → Int32) (O : Nat → Nat → Option Nat) (J : Nat → Nat → Int64) (I9 : Nat → Nat → Int32) (O9 : Nat → Nat → Option Nat) (J9 : Nat → Nat → Int64) (h : f_L_case52 SL sx p4 I O J = some (I9, O9, J9)) {cn sn : Nat} (hc : cn + 8 ≤ 601024) (hs : sn + 100 ≤ 7293034) (H : Heap) (locs : List Loc) (ls : Array Slot) (hP : va_P (dC, dI) vwCl (hW 138 ca b I O J) H) (hS : va_S A s.heap H locs) (hl : lv_has ls 9 [(0, .ref sb), (1, .ref (b 0)), (2, .ref (b 129)), (3, .ref (b 137)), (4, .int p4)]) (K : ∀ (H : Heap) (locs : List Loc) (ls : Array Slot), va_P (dC, dI) vwCl (hW 138 ca b I9 O9 J9) H → va_S A s.heap H locs → lv_has ls 9 [(0, .ref sb), (1, .ref (b 0)), (2, .ref (b 129)), (3, .ref (b 137)), (4, .int p4)] → W p l e room_1 s m #[Value.ref sb] below meth c H locs (cn + 8) (sn + 100) Q (F0 m 2558 ls [])) : W p l e room_1 s m #[Value.ref sb] below meth c H locs cn sn Q (F0 m 2544 ls []) := by
  have hx := X.x
  have hb := X.cb
  have hA := X.ad
  have hN : 138 ≤ 138 := Nat.le_refl 138
  have hRc : room_1.cells = 601024 := rfl
  have hRs : room_1.slots = 7293034 := rfl
  unfold f_L_case52 at h
  refine lv_aload_n hx hb dL_law_2544 rfl (lv_at hl 1 rfl) ?_
  obtain ⟨q105, hcq105, h⟩ := hb_some h
  refine gcV_l (As := []) (rest := []) (BH := (fun (u : (Nat → Nat → Int32) × (Nat → Nat → Option Nat) × (Nat → Nat → Int64)) H => va_P (dC, dI) vwCl (hW 138 ca b u.1 u.2.1 u.2.2) H)) X hP hS (c_X7_digest hN hA I O J q105 hcq105) (cwV 0 X.ts gL_law_X7_digest rfl rfl rfl (by decide +kernel) ⟨Nat.le_of_ble_eq_true rfl, Nat.le_of_ble_eq_true rfl⟩) (gr7 X hP kc_0 (sk_in hN kc_0 (by decide))) rfl hl.1 rfl (Nat.le_of_ble_eq_true rfl) dL_law_2545 ⟨by omega, by omega⟩ (fun r104 u9 H locs hw hP hS => ?_)
  obtain ⟨I101, O102, J103⟩ := u9
  subst hw
  refine lv_aload_n hx hb dL_law_2548 rfl (lv_at hl 2 rfl) ?_
  obtain ⟨q109, hcq109, h⟩ := hb_some h
  refine gdV_l (As := []) (rest := [.long r104]) (BH := (fun (u : (Nat → Nat → Int32) × (Nat → Nat → Int64)) H => va_P (dC, dI) vwCl (hW 138 ca b u.1 O102 u.2) H)) X hP hS (c_X8_digest hN hA I101 O102 J103 q109 hcq109) (cwV 0 X.ts gL_law_X8_digest rfl rfl rfl (by decide +kernel) ⟨Nat.le_of_ble_eq_true rfl, Nat.le_of_ble_eq_true rfl⟩) (gr8 X hP kc_129 (sk_in hN kc_129 (by decide))) rfl hl.1 rfl (Nat.le_of_ble_eq_true rfl) dL_law_2549 ⟨by omega, by omega⟩ (fun r108 u9 H locs hw hP hS => ?_)
  obtain ⟨I106, J107⟩ := u9
  subst hw
  refine W.lcmp hx hb dL_law_2552 ?_
  refine lv_if_eq (tgt := 2558) hx hb dL_law_2553 (by decide) (fun c110 => ?_) (fun c110 => ?_)
  · have h := gif_t c110 h
    refine W.widen (k := cn + 8) (n := sn + 100) (by omega) (by omega) ?_
    cases h
    exact K _ _ _ hP hS (lv_sub hl [0, 1, 2, 3, 4] rfl)
  · have h := gif_f c110 h
    refine lv_iconst (v := 0) hx hb dL_law_2556 (by decide) ?_
    cases h
def f_L_step (SL : Nat) (sx : Nat → Int32) (k : Nat) (p4 : Int32) (I : Nat → Nat → Int32) (O : Nat → Nat → Option Nat) (J : Nat → Nat → Int64) : Option ((Nat → Nat → Int32) × (Nat → Nat → Option Nat) × (Nat → Nat → Int64)) := match k with
  | 0 => f_L_case0 SL sx p4 I O J
  | 1 => f_L_case1 SL sx p4 I O J
  | 2 => f_L_case2 SL sx p4 I O J
  | 3 => f_L_case3 SL sx p4 I O J
  | 4 => f_L_case4 SL sx p4 I O J
  | 5 => f_L_case5 SL sx p4 I O J
  | 6 => f_L_case6 SL sx p4 I O J
  | 7 => f_L_case7 SL sx p4 I O J
  | 8 => f_L_case8 SL sx p4 I O J
  | 9 => f_L_case9 SL sx p4 I O J
  | 10 => f_L_case10 SL sx p4 I O J
  | 11 => f_L_case11 SL sx p4 I O J
  | 12 => f_L_case12 SL sx p4 I O J
  | 13 => f_L_case13 SL sx p4 I O J
  | 14 => f_L_case14 SL sx p4 I O J
  | 15 => f_L_case15 SL sx p4 I O J
  | 16 => f_L_case16 SL sx p4 I O J
  | 17 => f_L_case17 SL sx p4 I O J
  | 18 => f_L_case18 SL sx p4 I O J
  | 19 => f_L_case19 SL sx p4 I O J
  | 20 => f_L_case20 SL sx p4 I O J
  | 21 => f_L_case21 SL sx p4 I O J
  | 22 => f_L_case22 SL sx p4 I O J
  | 23 => f_L_case23 SL sx p4 I O J
  | 24 => f_L_case24 SL sx p4 I O J
  | 25 => f_L_case25 SL sx p4 I O J
  | 26 => f_L_case26 SL sx p4 I O J
  | 27 => f_L_case27 SL sx p4 I O J
  | 28 => f_L_case28 SL sx p4 I O J
  | 29 => f_L_case29 SL sx p4 I O J
  | 30 => f_L_case30 SL sx p4 I O J
  | 31 => f_L_case31 SL sx p4 I O J
  | 32 => f_L_case32 SL sx p4 I O J
  | 33 => f_L_case33 SL sx p4 I O J
  | 34 => f_L_case34 SL sx p4 I O J
  | 35 => f_L_case35 SL sx p4 I O J
  | 36 => f_L_case36 SL sx p4 I O J
  | 37 => f_L_case37 SL sx p4 I O J
  | 38 => f_L_case38 SL sx p4 I O J
  | 39 => f_L_case39 SL sx p4 I O J
  | 40 => f_L_case40 SL sx p4 I O J
  | 41 => f_L_case41 SL sx p4 I O J
  | 42 => f_L_case42 SL sx p4 I O J
  | 43 => f_L_case43 SL sx p4 I O J
  | 44 => f_L_case44 SL sx p4 I O J
  | 45 => f_L_case45 SL sx p4 I O J
  | 46 => f_L_case46 SL sx p4 I O J
  | 47 => f_L_case47 SL sx p4 I O J
  | 48 => f_L_case48 SL sx p4 I O J
  | 49 => f_L_case49 SL sx p4 I O J
  | 50 => f_L_case50 SL sx p4 I O J
  | 51 => f_L_case51 SL sx p4 I O J
  | 52 => f_L_case52 SL sx p4 I O J
  | _ => some (I, O, J)
def f_L_loop (SL : Nat) (sx : Nat → Int32) : Nat → Int32 → (Nat → Nat → Int32) → (Nat → Nat → Option Nat) → (Nat → Nat → Int64) → Option Unit
  | 0, _, _, _, _ => none
  | fuel + 1, p4, I, O, J => if (Int32.ofNat SL - (4 : Int32)) < p4 then some () else hg (gin p4 SL) <|
    (f_L_step SL sx (sx p4.toNatClampNeg &&& (63 : Int32)).toNatClampNeg p4 I O J).bind fun (I9, O9, J9) => hlet (p4 + 4) fun x => f_L_loop SL sx fuel x I9 O9 J9
set_option maxHeartbeats 8000000 in
set_option maxRecDepth 100000 in
theorem law_loop {p : Program} {l : Launch} {e : Env} {s : State} {m : MethodId} {below : List Frame} {meth : Method} {c : Code} {Q : State → Prop} {sb SL : Nat} {sx : Nat → Int32} {dC : Nat → ClassId} {dI : Nat → Nat → Nat} {ca : Nat → ClassId} {b : Nat → Nat} {A : Nat → Prop} (hlf : l.stackTraces = false) (hml : c.maxLocals = 9) (X : gCx p s m #[Value.ref sb] c RL cL_law wsL_law 9 dC dI ca b A 138) (hX : va_X sb SL sx s s.heap) (hbl : sb < s.heap.size) (hbA : ¬ A sb) (KT : ∀ (H : Heap) (locs : List Loc) (ls : Array Slot) (cn sn : Nat), cn ≤ 601024 → sn ≤ 7293034 → va_S A s.heap H locs → W p l e room_1 s m #[Value.ref sb] below meth c H locs cn sn Q (F0 m 2564 ls [])) : ∀ (fuel : Nat) (p4 : Int32) (I : Nat → Nat → Int32) (O : Nat → Nat → Option Nat) (J : Nat → Nat → Int64) (H : Heap) (locs : List Loc) (ls : Array Slot) (cn sn : Nat), f_L_loop SL sx fuel p4 I O J = some () → cn + 8 * fuel ≤ 601024 → sn + 100 * fuel ≤ 7293034 → va_P (dC, dI) vwCl (hW 138 ca b I O J) H → va_S A s.heap H locs → lv_has ls 9 [(0, .ref sb), (1, .ref (b 0)), (2, .ref (b 129)), (3, .ref (b 137)), (4, .int p4)] → W p l e room_1 s m #[Value.ref sb] below meth c H locs cn sn Q (F0 m 23 ls []) := by
  have hx := X.x
  have hb := X.cb
  have hRc : room_1.cells = 601024 := rfl
  have hRs : room_1.slots = 7293034 := rfl
  intro fuel
  induction fuel with
  | zero =>
    intro p4 I O J H locs ls cn sn h
    cases h
  | succ fuel ih =>
    intro p4 I O J H locs ls cn sn h hc hs hP hS hl
    rw [f_L_loop] at h
    refine lv_iload hx hb dL_law_23 (lv_at hl 4 rfl) ?_
    refine lv_aload_n hx hb dL_law_25 rfl (lv_at hl 0 rfl) ?_
    refine va_slen hx hb hX hbl hbA hS dL_law_26 ?_
    refine lv_iconst (v := 4) hx hb dL_law_27 (by decide) ?_
    refine lv_isub hx hb dL_law_28 ?_
    refine lv_icmp_gt (tgt := 2564) hx hb dL_law_29 (by decide) (fun c1 => ?_) (fun c1 => ?_)
    · exact KT H locs ls cn sn (by omega) (by omega) hS
    · have h := gif_f c1 h
      obtain ⟨hgi, h⟩ := hg_some h
      obtain ⟨⟨I9, O9, J9⟩, hv, h⟩ := hb_some h
      refine lv_aload_n hx hb dL_law_32 rfl (lv_at hl 0 rfl) ?_
      refine lv_iload hx hb dL_law_33 (lv_at hl 4 rfl) ?_
      refine va_sld hx hb hX hbl hbA hS (gin_vp hgi) dL_law_35 ?_
      refine lv_bipush (v := 63) hx hb dL_law_36 (by decide) ?_
      refine lv_iand hx hb dL_law_38 ?_
      obtain ⟨j, hj, ej⟩ := pk_andE (sx p4.toNatClampNeg) (m := 63) 6 rfl
      rw [ej] at hv ⊢
      rw [nI_clamp (Nat.lt_trans hj (by decide))] at hv
      have K : ∀ (H : Heap) (locs : List Loc) (ls : Array Slot), va_P (dC, dI) vwCl (hW 138 ca b I9 O9 J9) H → va_S A s.heap H locs → lv_has ls 9 [(0, .ref sb), (1, .ref (b 0)), (2, .ref (b 129)), (3, .ref (b 137)), (4, .int p4)] → W p l e room_1 s m #[Value.ref sb] below meth c H locs (cn + 8) (sn + 100) Q (F0 m 2558 ls []) := by
        intro H locs ls hP hS hl
        obtain ⟨x, ex, h⟩ := hlet_ex h
        refine lv_iinc (v := x) (lv' := [(4, .int x), (0, .ref sb), (1, .ref (b 0)), (2, .ref (b 129)), (3, .ref (b 137))]) hx hb dL_law_2558 hl (k := 4) rfl (by rw [ex]; rfl) (by decide) rfl (fun ls hl => ?_)
        refine lv_goto (tgt := 23) hx hb dL_law_2561 (by decide) ?_
        exact ih x I9 O9 J9 H locs ls (cn + 8) (sn + 100) h (by omega) (by omega) hP hS (lv_sub hl [1, 2, 3, 4, 0] rfl)
      match j, hj, hv with
      | 0, _, hv => exact lv_tableIn (tgt := 264) hx hb dL_law_39 (by decide) (by decide) rfl (by decide) (lc0 hlf hml X hX hbl hbA p4 I O J I9 O9 J9 hv (by omega) (by omega) H locs ls hP hS hl K)
      | 1, _, hv => exact lv_tableIn (tgt := 344) hx hb dL_law_39 (by decide) (by decide) rfl (by decide) (lc1 hlf hml X hX hbl hbA p4 I O J I9 O9 J9 hv (by omega) (by omega) H locs ls hP hS hl K)
      | 2, _, hv => exact lv_tableIn (tgt := 412) hx hb dL_law_39 (by decide) (by decide) rfl (by decide) (lc2 hlf hml X hX hbl hbA p4 I O J I9 O9 J9 hv (by omega) (by omega) H locs ls hP hS hl K)
      | 3, _, hv => exact lv_tableIn (tgt := 475) hx hb dL_law_39 (by decide) (by decide) rfl (by decide) (lc3 hlf hml X hX hbl hbA p4 I O J I9 O9 J9 hv (by omega) (by omega) H locs ls hP hS hl K)
      | 4, _, hv => exact lv_tableIn (tgt := 543) hx hb dL_law_39 (by decide) (by decide) rfl (by decide) (lc4 hlf hml X hX hbl hbA p4 I O J I9 O9 J9 hv (by omega) (by omega) H locs ls hP hS hl K)
      | 5, _, hv => exact lv_tableIn (tgt := 611) hx hb dL_law_39 (by decide) (by decide) rfl (by decide) (lc5 hlf hml X hX hbl hbA p4 I O J I9 O9 J9 hv (by omega) (by omega) H locs ls hP hS hl K)
      | 6, _, hv => exact lv_tableIn (tgt := 667) hx hb dL_law_39 (by decide) (by decide) rfl (by decide) (lc6 hlf hml X hX hbl hbA p4 I O J I9 O9 J9 hv (by omega) (by omega) H locs ls hP hS hl K)
      | 7, _, hv => exact lv_tableIn (tgt := 711) hx hb dL_law_39 (by decide) (by decide) rfl (by decide) (lc7 hlf hml X hX hbl hbA p4 I O J I9 O9 J9 hv (by omega) (by omega) H locs ls hP hS hl K)
      | 8, _, hv => exact lv_tableIn (tgt := 767) hx hb dL_law_39 (by decide) (by decide) rfl (by decide) (lc8 hlf hml X hX hbl hbA p4 I O J I9 O9 J9 hv (by omega) (by omega) H locs ls hP hS hl K)
      | 9, _, hv => exact lv_tableIn (tgt := 823) hx hb dL_law_39 (by decide) (by decide) rfl (by decide) (lc9 hlf hml X hX hbl hbA p4 I O J I9 O9 J9 hv (by omega) (by omega) H locs ls hP hS hl K)
      | 10, _, hv => exact lv_tableIn (tgt := 836) hx hb dL_law_39 (by decide) (by decide) rfl (by decide) (lc10 hlf hml X hX hbl hbA p4 I O J I9 O9 J9 hv (by omega) (by omega) H locs ls hP hS hl K)
      | 11, _, hv => exact lv_tableIn (tgt := 849) hx hb dL_law_39 (by decide) (by decide) rfl (by decide) (lc11 hlf hml X hX hbl hbA p4 I O J I9 O9 J9 hv (by omega) (by omega) H locs ls hP hS hl K)
      | 12, _, hv => exact lv_tableIn (tgt := 893) hx hb dL_law_39 (by decide) (by decide) rfl (by decide) (lc12 hlf hml X hX hbl hbA p4 I O J I9 O9 J9 hv (by omega) (by omega) H locs ls hP hS hl K)
      | 13, _, hv => exact lv_tableIn (tgt := 929) hx hb dL_law_39 (by decide) (by decide) rfl (by decide) (lc13 hlf hml X hX hbl hbA p4 I O J I9 O9 J9 hv (by omega) (by omega) H locs ls hP hS hl K)
      | 14, _, hv => exact lv_tableIn (tgt := 965) hx hb dL_law_39 (by decide) (by decide) rfl (by decide) (lc14 hlf hml X hX hbl hbA p4 I O J I9 O9 J9 hv (by omega) (by omega) H locs ls hP hS hl K)
      | 15, _, hv => exact lv_tableIn (tgt := 989) hx hb dL_law_39 (by decide) (by decide) rfl (by decide) (lc15 hlf hml X hX hbl hbA p4 I O J I9 O9 J9 hv (by omega) (by omega) H locs ls hP hS hl K)
      | 16, _, hv => exact lv_tableIn (tgt := 1002) hx hb dL_law_39 (by decide) (by decide) rfl (by decide) (lc16 hlf hml X hX hbl hbA p4 I O J I9 O9 J9 hv (by omega) (by omega) H locs ls hP hS hl K)
      | 17, _, hv => exact lv_tableIn (tgt := 1015) hx hb dL_law_39 (by decide) (by decide) rfl (by decide) (lc17 hlf hml X hX hbl hbA p4 I O J I9 O9 J9 hv (by omega) (by omega) H locs ls hP hS hl K)
      | 18, _, hv => exact lv_tableIn (tgt := 1071) hx hb dL_law_39 (by decide) (by decide) rfl (by decide) (lc18 hlf hml X hX hbl hbA p4 I O J I9 O9 J9 hv (by omega) (by omega) H locs ls hP hS hl K)
      | 19, _, hv => exact lv_tableIn (tgt := 1127) hx hb dL_law_39 (by decide) (by decide) rfl (by decide) (lc19 hlf hml X hX hbl hbA p4 I O J I9 O9 J9 hv (by omega) (by omega) H locs ls hP hS hl K)
      | 20, _, hv => exact lv_tableIn (tgt := 1183) hx hb dL_law_39 (by decide) (by decide) rfl (by decide) (lc20 hlf hml X hX hbl hbA p4 I O J I9 O9 J9 hv (by omega) (by omega) H locs ls hP hS hl K)
      | 21, _, hv => exact lv_tableIn (tgt := 1239) hx hb dL_law_39 (by decide) (by decide) rfl (by decide) (lc21 hlf hml X hX hbl hbA p4 I O J I9 O9 J9 hv (by omega) (by omega) H locs ls hP hS hl K)
      | 22, _, hv => exact lv_tableIn (tgt := 1295) hx hb dL_law_39 (by decide) (by decide) rfl (by decide) (lc22 hlf hml X hX hbl hbA p4 I O J I9 O9 J9 hv (by omega) (by omega) H locs ls hP hS hl K)
      | 23, _, hv => exact lv_tableIn (tgt := 1351) hx hb dL_law_39 (by decide) (by decide) rfl (by decide) (lc23 hlf hml X hX hbl hbA p4 I O J I9 O9 J9 hv (by omega) (by omega) H locs ls hP hS hl K)
      | 24, _, hv => exact lv_tableIn (tgt := 1407) hx hb dL_law_39 (by decide) (by decide) rfl (by decide) (lc24 hlf hml X hX hbl hbA p4 I O J I9 O9 J9 hv (by omega) (by omega) H locs ls hP hS hl K)
      | 25, _, hv => exact lv_tableIn (tgt := 1463) hx hb dL_law_39 (by decide) (by decide) rfl (by decide) (lc25 hlf hml X hX hbl hbA p4 I O J I9 O9 J9 hv (by omega) (by omega) H locs ls hP hS hl K)
      | 26, _, hv => exact lv_tableIn (tgt := 1519) hx hb dL_law_39 (by decide) (by decide) rfl (by decide) (lc26 hlf hml X hX hbl hbA p4 I O J I9 O9 J9 hv (by omega) (by omega) H locs ls hP hS hl K)
      | 27, _, hv => exact lv_tableIn (tgt := 1582) hx hb dL_law_39 (by decide) (by decide) rfl (by decide) (lc27 hlf hml X hX hbl hbA p4 I O J I9 O9 J9 hv (by omega) (by omega) H locs ls hP hS hl K)
      | 28, _, hv => exact lv_tableIn (tgt := 1638) hx hb dL_law_39 (by decide) (by decide) rfl (by decide) (lc28 hlf hml X hX hbl hbA p4 I O J I9 O9 J9 hv (by omega) (by omega) H locs ls hP hS hl K)
      | 29, _, hv => exact lv_tableIn (tgt := 1694) hx hb dL_law_39 (by decide) (by decide) rfl (by decide) (lc29 hlf hml X hX hbl hbA p4 I O J I9 O9 J9 hv (by omega) (by omega) H locs ls hP hS hl K)
      | 30, _, hv => exact lv_tableIn (tgt := 1750) hx hb dL_law_39 (by decide) (by decide) rfl (by decide) (lc30 hlf hml X hX hbl hbA p4 I O J I9 O9 J9 hv (by omega) (by omega) H locs ls hP hS hl K)
      | 31, _, hv => exact lv_tableIn (tgt := 1806) hx hb dL_law_39 (by decide) (by decide) rfl (by decide) (lc31 hlf hml X hX hbl hbA p4 I O J I9 O9 J9 hv (by omega) (by omega) H locs ls hP hS hl K)
      | 32, _, hv => exact lv_tableIn (tgt := 1869) hx hb dL_law_39 (by decide) (by decide) rfl (by decide) (lc32 hlf hml X hX hbl hbA p4 I O J I9 O9 J9 hv (by omega) (by omega) H locs ls hP hS hl K)
      | 33, _, hv => exact lv_tableIn (tgt := 1925) hx hb dL_law_39 (by decide) (by decide) rfl (by decide) (lc33 hlf hml X hX hbl hbA p4 I O J I9 O9 J9 hv (by omega) (by omega) H locs ls hP hS hl K)
      | 34, _, hv => exact lv_tableIn (tgt := 1981) hx hb dL_law_39 (by decide) (by decide) rfl (by decide) (lc34 hlf hml X hX hbl hbA p4 I O J I9 O9 J9 hv (by omega) (by omega) H locs ls hP hS hl K)
      | 35, _, hv => exact lv_tableIn (tgt := 2049) hx hb dL_law_39 (by decide) (by decide) rfl (by decide) (lc35 hlf hml X hX hbl hbA p4 I O J I9 O9 J9 hv (by omega) (by omega) H locs ls hP hS hl K)
      | 36, _, hv => exact lv_tableIn (tgt := 2093) hx hb dL_law_39 (by decide) (by decide) rfl (by decide) (lc36 hlf hml X hX hbl hbA p4 I O J I9 O9 J9 hv (by omega) (by omega) H locs ls hP hS hl K)
      | 37, _, hv => exact lv_tableIn (tgt := 2137) hx hb dL_law_39 (by decide) (by decide) rfl (by decide) (lc37 hlf hml X hX hbl hbA p4 I O J I9 O9 J9 hv (by omega) (by omega) H locs ls hP hS hl K)
      | 38, _, hv => exact lv_tableIn (tgt := 2205) hx hb dL_law_39 (by decide) (by decide) rfl (by decide) (lc38 hlf hml X hX hbl hbA p4 I O J I9 O9 J9 hv (by omega) (by omega) H locs ls hP hS hl K)
      | 39, _, hv => exact lv_tableIn (tgt := 2261) hx hb dL_law_39 (by decide) (by decide) rfl (by decide) (lc39 hlf hml X hX hbl hbA p4 I O J I9 O9 J9 hv (by omega) (by omega) H locs ls hP hS hl K)
      | 40, _, hv => exact lv_tableIn (tgt := 2274) hx hb dL_law_39 (by decide) (by decide) rfl (by decide) (lc40 hlf hml X hX hbl hbA p4 I O J I9 O9 J9 hv (by omega) (by omega) H locs ls hP hS hl K)
      | 41, _, hv => exact lv_tableIn (tgt := 2287) hx hb dL_law_39 (by decide) (by decide) rfl (by decide) (lc41 hlf hml X hX hbl hbA p4 I O J I9 O9 J9 hv (by omega) (by omega) H locs ls hP hS hl K)
      | 42, _, hv => exact lv_tableIn (tgt := 2300) hx hb dL_law_39 (by decide) (by decide) rfl (by decide) (lc42 hlf hml X hX hbl hbA p4 I O J I9 O9 J9 hv (by omega) (by omega) H locs ls hP hS hl K)
      | 43, _, hv => exact lv_tableIn (tgt := 2356) hx hb dL_law_39 (by decide) (by decide) rfl (by decide) (lc43 hlf hml X hX hbl hbA p4 I O J I9 O9 J9 hv (by omega) (by omega) H locs ls hP hS hl K)
      | 44, _, hv => exact lv_tableIn (tgt := 2412) hx hb dL_law_39 (by decide) (by decide) rfl (by decide) (lc44 hlf hml X hX hbl hbA p4 I O J I9 O9 J9 hv (by omega) (by omega) H locs ls hP hS hl K)
      | 45, _, hv => exact lv_tableIn (tgt := 2425) hx hb dL_law_39 (by decide) (by decide) rfl (by decide) (lc45 hlf hml X hX hbl hbA p4 I O J I9 O9 J9 hv (by omega) (by omega) H locs ls hP hS hl K)
      | 46, _, hv => exact lv_tableIn (tgt := 2438) hx hb dL_law_39 (by decide) (by decide) rfl (by decide) (lc46 hlf hml X hX hbl hbA p4 I O J I9 O9 J9 hv (by omega) (by omega) H locs ls hP hS hl K)
      | 47, _, hv => exact lv_tableIn (tgt := 2451) hx hb dL_law_39 (by decide) (by decide) rfl (by decide) (lc47 hlf hml X hX hbl hbA p4 I O J I9 O9 J9 hv (by omega) (by omega) H locs ls hP hS hl K)
      | 48, _, hv => exact lv_tableIn (tgt := 2464) hx hb dL_law_39 (by decide) (by decide) rfl (by decide) (lc48 hlf hml X hX hbl hbA p4 I O J I9 O9 J9 hv (by omega) (by omega) H locs ls hP hS hl K)
      | 49, _, hv => exact lv_tableIn (tgt := 2477) hx hb dL_law_39 (by decide) (by decide) rfl (by decide) (lc49 hlf hml X hX hbl hbA p4 I O J I9 O9 J9 hv (by omega) (by omega) H locs ls hP hS hl K)
      | 50, _, hv => exact lv_tableIn (tgt := 2490) hx hb dL_law_39 (by decide) (by decide) rfl (by decide) (lc50 hlf hml X hX hbl hbA p4 I O J I9 O9 J9 hv (by omega) (by omega) H locs ls hP hS hl K)
      | 51, _, hv => exact lv_tableIn (tgt := 2503) hx hb dL_law_39 (by decide) (by decide) rfl (by decide) (lc51 hlf hml X hX hbl hbA p4 I O J I9 O9 J9 hv (by omega) (by omega) H locs ls hP hS hl K)
      | 52, _, hv => exact lv_tableIn (tgt := 2544) hx hb dL_law_39 (by decide) (by decide) rfl (by decide) (lc52 hlf hml X hX hbl hbA p4 I O J I9 O9 J9 hv (by omega) (by omega) H locs ls hP hS hl K)
      | j + 53, hj, hv =>
        cases hv
        refine lv_tableOut (tgt := 2558) hx hb dL_law_39 (Or.inr (by rw [nI_toInt (Nat.lt_trans hj (by decide))]; omega)) (by decide) ?_
        refine W.widen (k := cn + 8) (n := sn + 100) (by omega) (by omega) ?_
        exact K H locs ls hP hS hl
