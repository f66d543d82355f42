def f_L_law_L565 (r32 : Int32) (I1_44 : Nat → Nat → Int32) (I2_48 : Nat → Nat → Int32) : Nat → Int32 → Int32 → Option (Int32)
  | 0, _, _ => none
  | fuel + 1, p50, p51 =>
    if r32 ≤ p51 then
      some p50
    else
      if p50 = 0 then
        some p50
      else
        (f_L_flown p51 I1_44).bind fun r64 =>
        (f_L_flown p51 I2_48).bind fun r66 =>
        (show Option (Int32) from
          if r64 = r66 then
            (f_L_strengthOf p51 I1_44).bind fun r70 =>
            (f_L_strengthOf p51 I2_48).bind fun r72 =>
            if r70 = r72 then
              (f_L_paceOf p51 I1_44).bind fun r74 =>
              (f_L_paceOf p51 I2_48).bind fun r76 =>
              if r74 = r76 then
                (f_L_laneOf p51 I1_44).bind fun r78 =>
                (f_L_laneOf p51 I2_48).bind fun r80 =>
                if r78 = r80 then
                  (f_L_isCalledIn p51 I1_44).bind fun r82 =>
                  (f_L_isCalledIn p51 I2_48).bind fun r84 =>
                  if r82 = r84 then
                    some (1 : Int32)
                  else
                    some (0 : Int32)
                else
                  some (0 : Int32)
              else
                some (0 : Int32)
            else
              some (0 : Int32)
          else
            some (0 : Int32)).bind fun p68 =>
        hlet (p51 + 1) fun x69 =>
        f_L_law_L565 r32 I1_44 I2_48 fuel p68 x69
def f_L_law_L249 (SL : Nat) (sx : Nat → Int32) (r32 : Int32) : Nat → Int32 → Int32 → Int32 → Int32 → (Nat → Nat → Int32) → (Nat → Nat → Option Nat) → (Nat → Nat → Int32) → Option (Int32 × Int32 × Int32 × (Nat → Nat → Int32) × (Nat → Nat → Option Nat) × (Nat → Nat → Int32))
  | 0, _, _, _, _, _, _, _ => none
  | fuel + 1, p34, p35, p36, p37, I1_38, O1_39, I2_40 =>
    if (8 : Int32) ≤ p37 then
      some (p34, p35, p36, I1_38, O1_39, I2_40)
    else
      if p34 = 0 then
        some (p34, p35, p36, I1_38, O1_39, I2_40)
      else
        if r32 ≤ 0 then
          some (p34, p35, p36, I1_38, O1_39, I2_40)
        else
          (f_L_cell SL sx ((56 : Int32) + (p37 - p37 / (8 : Int32) * (8 : Int32)))).bind fun r123 =>
          hg (gne ((1 : Int32) + p37)) <|
          (show Option (Int32) from
            if ((r123 / ((1 : Int32) + p37)) - (r123 / ((1 : Int32) + p37)) / (3 : Int32) * (3 : Int32)) ≤ 0 then
              some (0 : Int32)
            else
              some (1 : Int32)).bind fun p124 =>
          hg (gne r32) <|
          (show Option (Int32 × (Nat → Nat → Int32) × (Nat → Nat → Option Nat)) from
            if p124 = 0 then
              if (7 : Int32) ≤ p37 then
                (f_L_callIn (((r123 / ((1 : Int32) + p37)) / (3 : Int32)) - ((r123 / ((1 : Int32) + p37)) / (3 : Int32)) / r32 * r32) I1_38 O1_39).bind fun (r165, I1_163, O1_164) =>
                some (r165, I1_163, O1_164)
              else
                (f_L_pass (1 : Int32) I1_38 O1_39).bind fun (r169, I1_167, O1_168) =>
                some (r169, I1_167, O1_168)
            else
              (f_L_setPace (((r123 / ((1 : Int32) + p37)) / (3 : Int32)) - ((r123 / ((1 : Int32) + p37)) / (3 : Int32)) / r32 * r32) ((10 : Int32) + (((r123 / ((1 : Int32) + p37)) / (64 : Int32)) - ((r123 / ((1 : Int32) + p37)) / (64 : Int32)) / (31 : Int32) * (31 : Int32))) I1_38 O1_39).bind fun (r174, I1_172, O1_173) =>
              some (r174, I1_172, O1_173)).bind fun (p125, I1_126, O1_127) =>
          (show Option (Int32 × (Nat → Nat → Int32)) from
            if p36 ≤ 0 then
              some ((0 : Int32), I2_40)
            else
              (f_L_append (59 : Int32) I2_40).bind fun (r160, I2_159) =>
              some (r160, I2_159)).bind fun (p128, I2_129) =>
          (show Option (Int32) from
            if p124 = 0 then
              if (7 : Int32) ≤ p37 then
                some (110 : Int32)
              else
                some (116 : Int32)
            else
              some (112 : Int32)).bind fun p130 =>
          (f_L_append p130 I2_129).bind fun (r132, I2_131) =>
          (show Option (Int32) from
            if p124 = 0 then
              if p37 = (7 : Int32) then
                some (((r123 / ((1 : Int32) + p37)) / (3 : Int32)) - ((r123 / ((1 : Int32) + p37)) / (3 : Int32)) / r32 * r32)
              else
                some (1 : Int32)
            else
              some (((r123 / ((1 : Int32) + p37)) / (3 : Int32)) - ((r123 / ((1 : Int32) + p37)) / (3 : Int32)) / r32 * r32)).bind fun p134 =>
          (f_L_number p134 I2_131).bind fun (r136, I2_135) =>
          (show Option (Int32 × (Nat → Nat → Int32)) from
            if p124 = 0 then
              some (r136, I2_135)
            else
              (f_L_append (61 : Int32) I2_135).bind fun (r152, I2_151) =>
              some (r152, I2_151)).bind fun (p138, I2_139) =>
          (show Option (Int32 × (Nat → Nat → Int32)) from
            if p124 = 0 then
              some (p138, I2_139)
            else
              (f_L_number ((10 : Int32) + (((r123 / ((1 : Int32) + p37)) / (64 : Int32)) - ((r123 / ((1 : Int32) + p37)) / (64 : Int32)) / (31 : Int32) * (31 : Int32))) I2_139).bind fun (r148, I2_147) =>
              some (r148, I2_147)).bind fun (p140, I2_141) =>
          hlet (p36 + 1) fun x142 =>
          (show Option (Int32) from
            if p125 < 0 then
              some (0 : Int32)
            else
              if p140 ≤ 0 then
                some (0 : Int32)
              else
                some (1 : Int32)).bind fun p143 =>
          hlet (p37 + 1) fun x144 =>
          f_L_law_L249 SL sx r32 fuel p143 p140 x142 x144 I1_126 O1_127 I2_141
def f_L_law_L102 (SL : Nat) (sx : Nat → Int32) : Nat → Int32 → Int32 → (Nat → Nat → Int32) → (Nat → Nat → Option Nat) → (Nat → Nat → Int64) → (Nat → Nat → Int32) → (Nat → Nat → Option Nat) → (Nat → Nat → Int64) → Option (Int32 × (Nat → Nat → Int32) × (Nat → Nat → Option Nat) × (Nat → Nat → Int64) × (Nat → Nat → Int32) × (Nat → Nat → Option Nat) × (Nat → Nat → Int64))
  | 0, _, _, _, _, _, _, _, _ => none
  | fuel + 1, p9, p10, I1_11, O1_12, J1_13, I2_14, O2_15, J2_16 =>
    if (56 : Int32) ≤ p10 then
      some (p9, I1_11, O1_12, J1_13, I2_14, O2_15, J2_16)
    else
      if p9 = 0 then
        some (p9, I1_11, O1_12, J1_13, I2_14, O2_15, J2_16)
      else
        (f_L_cell SL sx p10).bind fun r192 =>
        (f_L_acts r192 I1_11 O1_12).bind fun (r195, I1_193, O1_194) =>
        (show Option (Int32 × (Nat → Nat → Int32) × (Nat → Nat → Option Nat) × (Nat → Nat → Int64) × (Nat → Nat → Int32) × (Nat → Nat → Option Nat) × (Nat → Nat → Int64)) from
          if 0 < (p10 - p10 / (3 : Int32) * (3 : Int32)) then
            (f_L_acts r192 I2_14 O2_15).bind fun (r207, I2_205, O2_206) =>
            if r207 = r195 then
              (f_X7_digest 129 I1_193 O1_194 J1_13).bind fun (r212, I1_209, O1_210, J1_211) =>
              (f_X7_digest 129 I2_205 O2_206 J2_16).bind fun (r217, I2_214, O2_215, J2_216) =>
              if (lg_cmp r212 r217) = 0 then
                if 0 < (p10 - p10 / (4 : Int32) * (4 : Int32)) then
                  some ((1 : Int32), I1_209, O1_210, J1_211, I2_214, O2_215, J2_216)
                else
                  if (p10 - p10 / (8 : Int32) * (8 : Int32)) = 0 then
                    (f_L_hangs I1_209 O1_210).bind fun (r226, I1_224, O1_225) =>
                    if r226 = 0 then
                      some ((0 : Int32), I1_224, O1_225, J1_211, I2_214, O2_215, J2_216)
                    else
                      some ((1 : Int32), I1_224, O1_225, J1_211, I2_214, O2_215, J2_216)
                  else
                    (f_L_hangs I2_214 O2_215).bind fun (r221, I2_219, O2_220) =>
                    if r221 = 0 then
                      some ((0 : Int32), I1_209, O1_210, J1_211, I2_219, O2_220, J2_216)
                    else
                      some ((1 : Int32), I1_209, O1_210, J1_211, I2_219, O2_220, J2_216)
              else
                some ((0 : Int32), I1_209, O1_210, J1_211, I2_214, O2_215, J2_216)
            else
              some ((0 : Int32), I1_193, O1_194, J1_13, I2_205, O2_206, J2_16)
          else
            (f_L_refuses (r192 - r192 / (100000 : Int32) * (100000 : Int32)) I2_14 O2_15).bind fun (r235, I2_233, O2_234) =>
            if r235 = 0 then
              some ((0 : Int32), I1_193, O1_194, J1_13, I2_233, O2_234, J2_16)
            else
              (f_L_acts r192 I2_233 O2_234).bind fun (r239, I2_237, O2_238) =>
              if r239 = r195 then
                (f_X7_digest 129 I1_193 O1_194 J1_13).bind fun (r244, I1_241, O1_242, J1_243) =>
                (f_X7_digest 129 I2_237 O2_238 J2_16).bind fun (r249, I2_246, O2_247, J2_248) =>
                if (lg_cmp r244 r249) = 0 then
                  if 0 < (p10 - p10 / (4 : Int32) * (4 : Int32)) then
                    some ((1 : Int32), I1_241, O1_242, J1_243, I2_246, O2_247, J2_248)
                  else
                    if (p10 - p10 / (8 : Int32) * (8 : Int32)) = 0 then
                      (f_L_hangs I1_241 O1_242).bind fun (r258, I1_256, O1_257) =>
                      if r258 = 0 then
                        some ((0 : Int32), I1_256, O1_257, J1_243, I2_246, O2_247, J2_248)
                      else
                        some ((1 : Int32), I1_256, O1_257, J1_243, I2_246, O2_247, J2_248)
                    else
                      (f_L_hangs I2_246 O2_247).bind fun (r253, I2_251, O2_252) =>
                      if r253 = 0 then
                        some ((0 : Int32), I1_241, O1_242, J1_243, I2_251, O2_252, J2_248)
                      else
                        some ((1 : Int32), I1_241, O1_242, J1_243, I2_251, O2_252, J2_248)
                else
                  some ((0 : Int32), I1_241, O1_242, J1_243, I2_246, O2_247, J2_248)
              else
                some ((0 : Int32), I1_193, O1_194, J1_13, I2_237, O2_238, J2_16)).bind fun (p197, I1_198, O1_199, J1_200, I2_201, O2_202, J2_203) =>
        hlet (p10 + 1) fun x204 =>
        f_L_law_L102 SL sx fuel p197 x204 I1_198 O1_199 J1_200 I2_201 O2_202 J2_203
def f_L_law (SL : Nat) (sx : Nat → Int32) (I1 : Nat → Nat → Int32) (O1 : Nat → Nat → Option Nat) (J1 : Nat → Nat → Int64) (I2 : Nat → Nat → Int32) (O2 : Nat → Nat → Option Nat) (J2 : Nat → Nat → Int64) : Option Int32 :=
  (f_L_undo I1 O1).bind fun (r2, I1_1) =>
  (show Option (Int32 × (Nat → Nat → Int32) × (Nat → Nat → Option Nat) × (Nat → Nat → Int32) × (Nat → Nat → Option Nat)) from
    if r2 = (-4 : Int32) then
      (f_L_goBack (0 : Int32) I1_1 O1).bind fun (r271, I1_269, O1_270) =>
      if r271 = (-4 : Int32) then
        (f_X7_firstError I1_269).bind fun (r274, I1_273) =>
        if r274 = 0 then
          (f_L_follow I1_273 O1_270).bind fun (r278, I1_276, O1_277) =>
          if r278 = (-3 : Int32) then
            (f_L_begin I1_276 O1_277).bind fun (r282, I1_280, O1_281) =>
            if r282 = (-4 : Int32) then
              (f_L_hangs I1_280 O1_281).bind fun (r286, I1_284, O1_285) =>
              if r286 = 0 then
                some ((0 : Int32), I1_284, O1_285, I2, O2)
              else
                (f_L_enter (22 : Int32) (700 : Int32) (0 : Int32) I1_284 O1_285).bind fun (r290, I1_288, O1_289) =>
                if r290 = 0 then
                  (f_L_enter (22 : Int32) (700 : Int32) (0 : Int32) I2 O2).bind fun (r294, I2_292, O2_293) =>
                  if r294 = 0 then
                    some ((1 : Int32), I1_288, O1_289, I2_292, O2_293)
                  else
                    some ((0 : Int32), I1_288, O1_289, I2_292, O2_293)
                else
                  some ((0 : Int32), I1_288, O1_289, I2, O2)
            else
              some ((0 : Int32), I1_280, O1_281, I2, O2)
          else
            some ((0 : Int32), I1_276, O1_277, I2, O2)
        else
          some ((0 : Int32), I1_273, O1_270, I2, O2)
      else
        some ((0 : Int32), I1_269, O1_270, I2, O2)
    else
      some ((0 : Int32), I1_1, O1, I2, O2)).bind fun (p4, I1_5, O1_6, I2_7, O2_8) =>
  (f_L_law_L102 SL sx 64 p4 (0 : Int32) I1_5 O1_6 J1 I2_7 O2_8 J2).bind fun (p17, I1_18, O1_19, J1_20, I2_21, O2_22, J2_23) =>
  (f_X7_clearBuffer I2_21).bind fun (r25, I2_24) =>
  (show Option (Int32 × (Nat → Nat → Int32) × (Nat → Nat → Option Nat) × (Nat → Nat → Int32) × (Nat → Nat → Option Nat)) from
    if p17 = 0 then
      some ((0 : Int32), I1_18, O1_19, I2_24, O2_22)
    else
      (f_L_begin I1_18 O1_19).bind fun (r183, I1_181, O1_182) =>
      (f_L_begin I2_24 O2_22).bind fun (r187, I2_185, O2_186) =>
      if r183 = r187 then
        some ((1 : Int32), I1_181, O1_182, I2_185, O2_186)
      else
        some ((0 : Int32), I1_181, O1_182, I2_185, O2_186)).bind fun (p27, I1_28, O1_29, I2_30, O2_31) =>
  (f_X7_sparrows I1_28).bind fun r32 =>
  (f_L_law_L249 SL sx r32 16 p27 r25 (0 : Int32) (0 : Int32) I1_28 O1_29 I2_30).bind fun (p41, p42, p43, I1_44, O1_45, I2_46) =>
  (show Option (Int32 × (Nat → Nat → Int32) × (Nat → Nat → Option Nat)) from
    if p41 = 0 then
      some ((0 : Int32), I2_46, O2_31)
    else
      hlet (fun (I2_93 : Nat → Nat → Int32) (O2_94 : Nat → Nat → Option Nat) => show Option (Int32 × (Nat → Nat → Int32) × (Nat → Nat → Option Nat)) from
        (f_X7_seconds I1_44).bind fun r96 =>
        (f_X7_seconds I2_93).bind fun r98 =>
        if r96 = r98 then
          (f_X7_flownByAccount I1_44).bind fun r100 =>
          (f_X7_flownByAccount I2_93).bind fun r102 =>
          if r100 = r102 then
            (f_X7_drafts I1_44).bind fun r104 =>
            (f_X7_drafts I2_93).bind fun r106 =>
            if r104 = r106 then
              some ((1 : Int32), I2_93, O2_94)
            else
              some ((0 : Int32), I2_93, O2_94)
          else
            some ((0 : Int32), I2_93, O2_94)
        else
          some ((0 : Int32), I2_93, O2_94)) fun j95 =>
      if r32 = 0 then
        j95 I2_46 O2_31
      else
        (f_X7_firstError I2_46).bind fun (r112, I2_111) =>
        if r112 = p42 then
          (f_L_follow I2_111 O2_31).bind fun (r116, I2_114, O2_115) =>
          if r116 = p43 then
            j95 I2_114 O2_115
          else
            some ((0 : Int32), I2_114, O2_115)
        else
          some ((0 : Int32), I2_111, O2_31)).bind fun (p47, I2_48, O2_49) =>
  (f_L_law_L565 r32 I1_44 I2_48 16 p47 (0 : Int32)).bind fun p52 =>
  if p52 = 0 then
    some (0 : Int32)
  else
    (f_L_hangs I1_44 O1_45).bind fun (r55, I1_53, O1_54) =>
    if r55 = 0 then
      some (0 : Int32)
    else
      (f_L_hangs I2_48 O2_49).bind fun (r59, I2_57, O2_58) =>
      if r59 = 0 then
        some (0 : Int32)
      else
        some (1 : Int32)
set_option maxHeartbeats 16000000 in
set_option maxRecDepth 100000 in
theorem law_walk {p : Program} {l : Launch} {e : Env} {s : State} {m : MethodId} {below : List Frame} {meth : Method} {c : Code} {Q : State → Prop} {sb SL : Nat} {sx : Nat → Int32} {dC : Nat → ClassId} {dI : Nat → Nat → Nat} {ca : Nat → ClassId} {b1 b2 : Nat → Nat} {A : Nat → Prop} (hlf : l.stackTraces = false) (X : pCx p s m #[Value.ref sb] c RL cL_law wsL_law 12 dC dI ca A) (had1 : gAd A b1 129) (had2 : gAd A b2 129) (hdj1 : ∀ i j, i < 129 → j < 129 → b2 i ≠ b1 j) (hdj2 : ∀ i j, i < 129 → j < 129 → b1 i ≠ b2 j) (hX : va_X sb SL sx s s.heap) (hbl : sb < s.heap.size) (hbA : ¬ A sb) (KT : ∀ (H : Heap) (locs : List Loc) (ls : Array Slot), va_S A s.heap H locs → W p l e room_1 s m #[Value.ref sb] below meth c H locs 650924 7148697 Q (F0 m 686 ls [.int 1])) (I1 : Nat → Nat → Int32) (O1 : Nat → Nat → Option Nat) (J1 : Nat → Nat → Int64) (I2 : Nat → Nat → Int32) (O2 : Nat → Nat → Option Nat) (J2 : Nat → Nat → Int64) (h : f_L_law SL sx I1 O1 J1 I2 O2 J2 = some 1) (H : Heap) (locs : List Loc) (ls : Array Slot) (hP : va_P (dC, dI) vwCl (hW 129 ca b1 I1 O1 J1) H) (hQ : va_P (dC, dI) vwCl (hW 129 ca b2 I2 O2 J2) H) (hS : va_S A s.heap H locs) (hl : lv_has ls 12 [(0, .ref sb), (1, .ref (b1 0)), (2, .ref (b2 0))]) : W p l e room_1 s m #[Value.ref sb] below meth c H locs 258 3600 Q (F0 m 16 ls []) := by
  have hx := X.x
  have hb := X.cb
  have hRc : room_1.cells = 650924 := rfl
  have hRs : room_1.slots = 7148697 := rfl
  unfold f_L_law at h
  refine lv_aload_n hx hb dL_law_16 rfl (lv_at hl 1 rfl) ?_
  obtain ⟨q3, hcq3, h⟩ := hb_some h
  refine pW_i (As := [.ref (b1 0)]) (rest := []) (BH := (fun (u : Nat → Nat → Int32) H => va_P (dC, dI) vwCl (hW 129 ca b1 u O1 J1) H)) X had1 hP hS (fun A1 hA1 => c_L_undo hlf (Nat.le_refl 129) hA1 I1 O1 J1 q3 hcq3) (vx_cwSW 1 X.ts gL_law_L_undo rfl rfl rfl (by decide +kernel) ⟨Nat.le_of_ble_eq_true rfl, Nat.le_of_ble_eq_true rfl⟩) rfl hl.1 rfl (Nat.le_of_ble_eq_true rfl) dL_law_17 ⟨Nat.le_of_ble_eq_true rfl, Nat.le_of_ble_eq_true rfl⟩ (fun r2 I1_1 H1 locs hw hP9 hz hk hS => ?_)
  subst hw
  have hQ := pKeep hdj1 hQ hk
  have hP := hP9
  clear hP9 hk hz
  refine lv_bipush (v := (-4)) hx hb dL_law_20 (by decide) ?_
  obtain ⟨⟨p4, I1_5, O1_6, I2_7, O2_8⟩, hv, h⟩ := hb_some h
  have K98 : ∀ (H : Heap) (locs : List Loc) (ls : Array Slot), va_P (dC, dI) vwCl (hW 129 ca b1 I1_5 O1_6 J1) H → va_P (dC, dI) vwCl (hW 129 ca b2 I2_7 O2_8 J2) H → va_S A s.heap H locs → lv_has ls 12 [(0, .ref sb), (1, .ref (b1 0)), (2, .ref (b2 0))] → W p l e room_1 s m #[Value.ref sb] below meth c H locs 1279 9726 Q (F0 m 98 ls [.int p4]) := by
    intro H locs ls hP hQ hS hl
    refine lv_istore_n (lv' := [(3, .int p4), (0, .ref sb), (1, .ref (b1 0)), (2, .ref (b2 0))]) hx hb dL_law_98 rfl hl (by decide) rfl (fun ls hl => ?_)
    refine lv_iconst (v := 0) hx hb dL_law_99 (by decide) ?_
    refine lv_istore (lv' := [(4, .int (0 : Int32)), (3, .int p4), (0, .ref sb), (1, .ref (b1 0)), (2, .ref (b2 0))]) hx hb dL_law_100 hl (by decide) rfl (fun ls hl => ?_)
    obtain ⟨⟨p17, I1_18, O1_19, J1_20, I2_21, O2_22, J2_23⟩, hv, h⟩ := hb_some h
    have K210 : ∀ (H : Heap) (locs : List Loc) (ls : Array Slot), va_P (dC, dI) vwCl (hW 129 ca b1 I1_18 O1_19 J1_20) H → va_P (dC, dI) vwCl (hW 129 ca b2 I2_21 O2_22 J2_23) H → va_S A s.heap H locs → lv_has ls 12 [(0, .ref sb), (1, .ref (b1 0)), (2, .ref (b2 0)), (3, .int p17)] → W p l e room_1 s m #[Value.ref sb] below meth c H locs 126591 760958 Q (F0 m 210 ls []) := by
      intro H locs ls hP hQ hS hl
      refine lv_aload_n hx hb dL_law_210 rfl (lv_at hl 2 rfl) ?_
      obtain ⟨q26, hcq26, h⟩ := hb_some h
      refine pV_i (As := []) (rest := []) (BH := (fun (u : Nat → Nat → Int32) H => va_P (dC, dI) vwCl (hW 129 ca b2 u O2_22 J2_23) H)) X had2 hQ hS (fun A1 hA1 => c_X7_clearBuffer (Nat.le_refl 129) hA1 I2_21 O2_22 J2_23 q26 hcq26) (cwV 0 X.ts gL_law_X7_clearBuffer rfl rfl rfl (by decide +kernel) ⟨Nat.le_of_ble_eq_true rfl, Nat.le_of_ble_eq_true rfl⟩) (pRecv X hQ) rfl hl.1 rfl (Nat.le_of_ble_eq_true rfl) dL_law_211 ⟨Nat.le_of_ble_eq_true rfl, Nat.le_of_ble_eq_true rfl⟩ (fun r25 I2_24 H1 locs hw hQ9 hz hk hS => ?_)
      subst hw
      have hP := pKeep hdj2 hP hk
      have hQ := hQ9
      clear hQ9 hk hz
      refine lv_istore (lv' := [(4, .int r25), (0, .ref sb), (1, .ref (b1 0)), (2, .ref (b2 0)), (3, .int p17)]) hx hb dL_law_214 hl (by decide) rfl (fun ls hl => ?_)
      refine lv_iconst (v := 0) hx hb dL_law_216 (by decide) ?_
      refine lv_istore (lv' := [(5, .int (0 : Int32)), (4, .int r25), (0, .ref sb), (1, .ref (b1 0)), (2, .ref (b2 0)), (3, .int p17)]) hx hb dL_law_217 hl (by decide) rfl (fun ls hl => ?_)
      refine lv_iload_n hx hb dL_law_219 rfl (lv_at hl 5 rfl) ?_
      obtain ⟨⟨p27, I1_28, O1_29, I2_30, O2_31⟩, hv, h⟩ := hb_some h
      have K239 : ∀ (H : Heap) (locs : List Loc) (ls : Array Slot), va_P (dC, dI) vwCl (hW 129 ca b1 I1_28 O1_29 J1_20) H → va_P (dC, dI) vwCl (hW 129 ca b2 I2_30 O2_31 J2_23) H → va_S A s.heap H locs → lv_has ls 12 [(0, .ref sb), (1, .ref (b1 0)), (2, .ref (b2 0)), (4, .int r25), (5, .int (0 : Int32))] → W p l e room_1 s m #[Value.ref sb] below meth c H locs 126593 760970 Q (F0 m 239 ls [.int p27]) := by
        intro H locs ls hP hQ hS hl
        refine lv_istore_n (lv' := [(3, .int p27), (0, .ref sb), (1, .ref (b1 0)), (2, .ref (b2 0)), (4, .int r25), (5, .int (0 : Int32))]) hx hb dL_law_239 rfl hl (by decide) rfl (fun ls hl => ?_)
        refine lv_aload_n hx hb dL_law_240 rfl (lv_at hl 2 rfl) ?_
        obtain ⟨q33, hcq33, h⟩ := hb_some h
        refine pV_i (As := []) (rest := []) (BH := (fun (u : Unit) H => va_P (dC, dI) vwCl (hW 129 ca b1 I1_28 O1_29 J1_20) H)) X had1 hP hS (fun A1 hA1 => c_X7_sparrows (Nat.le_refl 129) hA1 I1_28 O1_29 J1_20 q33 hcq33) (cwV 0 X.ts gL_law_X7_sparrows rfl rfl rfl (by decide +kernel) ⟨Nat.le_of_ble_eq_true rfl, Nat.le_of_ble_eq_true rfl⟩) (pRecv X hP) rfl hl.1 rfl (Nat.le_of_ble_eq_true rfl) dL_law_241 ⟨Nat.le_of_ble_eq_true rfl, Nat.le_of_ble_eq_true rfl⟩ (fun r32 u9 H1 locs hw hP9 hz hk hS => ?_)
        have hw := hw.symm
        subst hw
        have hQ := pKeep hdj1 hQ hk
        have hP := hP9
        clear hP9 hk hz
        refine lv_istore (lv' := [(6, .int r32), (3, .int p27), (0, .ref sb), (1, .ref (b1 0)), (2, .ref (b2 0)), (4, .int r25), (5, .int (0 : Int32))]) hx hb dL_law_244 hl (by decide) rfl (fun ls hl => ?_)
        refine lv_iconst (v := 0) hx hb dL_law_246 (by decide) ?_
        refine lv_istore (lv' := [(7, .int (0 : Int32)), (6, .int r32), (3, .int p27), (0, .ref sb), (1, .ref (b1 0)), (2, .ref (b2 0)), (4, .int r25), (5, .int (0 : Int32))]) hx hb dL_law_247 hl (by decide) rfl (fun ls hl => ?_)
        obtain ⟨⟨p41, p42, p43, I1_44, O1_45, I2_46⟩, hv, h⟩ := hb_some h
        have K496 : ∀ (H : Heap) (locs : List Loc) (ls : Array Slot), va_P (dC, dI) vwCl (hW 129 ca b1 I1_44 O1_45 J1_20) H → va_P (dC, dI) vwCl (hW 129 ca b2 I2_46 O2_31 J2_23) H → va_S A s.heap H locs → lv_has ls 12 [(1, .ref (b1 0)), (2, .ref (b2 0)), (3, .int p41), (4, .int p42), (5, .int p43), (6, .int r32)] → W p l e room_1 s m #[Value.ref sb] below meth c H locs 126833 762410 Q (F0 m 496 ls []) := by
          intro H locs ls hP hQ hS hl
          refine lv_iload_n hx hb dL_law_496 rfl (lv_at hl 2 rfl) ?_
          obtain ⟨⟨p47, I2_48, O2_49⟩, hv, h⟩ := hb_some h
          have K561 : ∀ (H : Heap) (locs : List Loc) (ls : Array Slot), va_P (dC, dI) vwCl (hW 129 ca b1 I1_44 O1_45 J1_20) H → va_P (dC, dI) vwCl (hW 129 ca b2 I2_48 O2_49 J2_23) H → va_S A s.heap H locs → lv_has ls 12 [(1, .ref (b1 0)), (2, .ref (b2 0)), (6, .int r32)] → W p l e room_1 s m #[Value.ref sb] below meth c H locs 126834 762416 Q (F0 m 561 ls [.int p47]) := by
            intro H locs ls hP hQ hS hl
            refine lv_istore_n (lv' := [(3, .int p47), (1, .ref (b1 0)), (2, .ref (b2 0)), (6, .int r32)]) hx hb dL_law_561 rfl hl (by decide) rfl (fun ls hl => ?_)
            refine lv_iconst (v := 0) hx hb dL_law_562 (by decide) ?_
            refine lv_istore (lv' := [(7, .int (0 : Int32)), (3, .int p47), (1, .ref (b1 0)), (2, .ref (b2 0)), (6, .int r32)]) hx hb dL_law_563 hl (by decide) rfl (fun ls hl => ?_)
            obtain ⟨p52, hv, h⟩ := hb_some h
            have K663 : ∀ (H : Heap) (locs : List Loc) (ls : Array Slot), va_P (dC, dI) vwCl (hW 129 ca b1 I1_44 O1_45 J1_20) H → va_P (dC, dI) vwCl (hW 129 ca b2 I2_48 O2_49 J2_23) H → va_S A s.heap H locs → lv_has ls 12 [(1, .ref (b1 0)), (2, .ref (b2 0)), (3, .int p52)] → W p l e room_1 s m #[Value.ref sb] below meth c H locs 126994 763376 Q (F0 m 663 ls []) := by
              intro H locs ls hP hQ hS hl
              refine lv_iload_n hx hb dL_law_663 rfl (lv_at hl 2 rfl) ?_
              refine lv_if_eq (tgt := 685) hx hb dL_law_664 (by decide) (fun c63 => ?_) (fun c63 => ?_)
              · have h := gif_t c63 h
                refine lv_iconst (v := 0) hx hb dL_law_685 (by decide) ?_
                exact absurd (Option.some.inj h) (by decide)
              · have h := gif_f c63 h
                refine lv_aload_n hx hb dL_law_667 rfl (lv_at hl 0 rfl) ?_
                obtain ⟨q56, hcq56, h⟩ := hb_some h
                refine pS_i (As := [.ref (b1 0)]) (rest := []) (BH := (fun (u : (Nat → Nat → Int32) × (Nat → Nat → Option Nat)) H => va_P (dC, dI) vwCl (hW 129 ca b1 u.1 u.2 J1_20) H)) X had1 hP hS (fun A1 hA1 => c_L_hangs hlf (Nat.le_refl 129) hA1 I1_44 O1_45 J1_20 q56 hcq56) (va_cwS 1 X.ts gL_law_L_hangs rfl rfl rfl (by decide +kernel) ⟨Nat.le_of_ble_eq_true rfl, Nat.le_of_ble_eq_true rfl⟩) rfl hl.1 rfl (Nat.le_of_ble_eq_true rfl) dL_law_668 ⟨Nat.le_of_ble_eq_true rfl, Nat.le_of_ble_eq_true rfl⟩ (fun r55 u9 H1 locs hw hP9 hz hk hS => ?_)
                obtain ⟨I1_53, O1_54⟩ := u9
                subst hw
                have hQ := pKeep hdj1 hQ hk
                have hP := hP9
                clear hP9 hk hz
                refine lv_if_eq (tgt := 685) hx hb dL_law_671 (by decide) (fun c62 => ?_) (fun c62 => ?_)
                · have h := gif_t c62 h
                  refine lv_iconst (v := 0) hx hb dL_law_685 (by decide) ?_
                  exact absurd (Option.some.inj h) (by decide)
                · have h := gif_f c62 h
                  refine lv_aload_n hx hb dL_law_674 rfl (lv_at hl 1 rfl) ?_
                  obtain ⟨q60, hcq60, h⟩ := hb_some h
                  refine pS_i (As := [.ref (b2 0)]) (rest := []) (BH := (fun (u : (Nat → Nat → Int32) × (Nat → Nat → Option Nat)) H => va_P (dC, dI) vwCl (hW 129 ca b2 u.1 u.2 J2_23) H)) X had2 hQ hS (fun A1 hA1 => c_L_hangs hlf (Nat.le_refl 129) hA1 I2_48 O2_49 J2_23 q60 hcq60) (va_cwS 1 X.ts gL_law_L_hangs rfl rfl rfl (by decide +kernel) ⟨Nat.le_of_ble_eq_true rfl, Nat.le_of_ble_eq_true rfl⟩) rfl hl.1 rfl (Nat.le_of_ble_eq_true rfl) dL_law_675 ⟨Nat.le_of_ble_eq_true rfl, Nat.le_of_ble_eq_true rfl⟩ (fun r59 u9 H1 locs hw hQ9 hz hk hS => ?_)
                  obtain ⟨I2_57, O2_58⟩ := u9
                  subst hw
                  have hP := pKeep hdj2 hP hk
                  have hQ := hQ9
                  clear hQ9 hk hz
                  refine lv_if_eq (tgt := 685) hx hb dL_law_678 (by decide) (fun c61 => ?_) (fun c61 => ?_)
                  · have h := gif_t c61 h
                    refine lv_iconst (v := 0) hx hb dL_law_685 (by decide) ?_
                    exact absurd (Option.some.inj h) (by decide)
                  · have h := gif_f c61 h
                    refine lv_iconst (v := 1) hx hb dL_law_681 (by decide) ?_
                    refine lv_goto (tgt := 686) hx hb dL_law_682 (by decide) ?_
                    refine W.widen (k := 650924) (n := 7148697) (Nat.le_of_ble_eq_true rfl) (Nat.le_of_ble_eq_true rfl) ?_
                    exact KT _ _ _ hS
            have hL565 : ∀ (fuel : Nat) (p50 : Int32) (p51 : Int32) (cn565 sn565 : Nat) (H : Heap) (locs : List Loc) (ls : Array Slot), cn565 + 10 * fuel ≤ 126994 → sn565 + 60 * fuel ≤ 763376 → f_L_law_L565 r32 I1_44 I2_48 fuel p50 p51 = some p52 → va_P (dC, dI) vwCl (hW 129 ca b1 I1_44 O1_45 J1_20) H → va_P (dC, dI) vwCl (hW 129 ca b2 I2_48 O2_49 J2_23) H → va_S A s.heap H locs → lv_has ls 12 [(1, .ref (b1 0)), (2, .ref (b2 0)), (3, .int p50), (6, .int r32), (7, .int p51)] → W p l e room_1 s m #[Value.ref sb] below meth c H locs cn565 sn565 Q (F0 m 565 ls []) := by
              intro fuel
              induction fuel with
              | zero =>
                intro p50 p51 cn565 sn565 H locs ls hcn565 hsn565 h hP hQ hS hl
                rw [f_L_law_L565] at h
                cases h
              | succ fuel ih =>
                intro p50 p51 cn565 sn565 H locs ls hcn565 hsn565 h hP hQ hS hl
                rw [f_L_law_L565] at h
                refine lv_iload hx hb dL_law_565 (lv_at hl 4 rfl) ?_
                refine lv_iload hx hb dL_law_567 (lv_at hl 3 rfl) ?_
                refine lv_icmp_ge (tgt := 663) hx hb dL_law_569 (by decide) (fun c92 => ?_) (fun c92 => ?_)
                · have h := gif_t c92 h
                  refine W.widen (k := 126994) (n := 763376) (by omega) (by omega) ?_
                  cases h
                  exact K663 _ _ _ hP hQ hS (lv_sub hl [0, 1, 2] rfl)
                · have h := gif_f c92 h
                  refine lv_iload_n hx hb dL_law_572 rfl (lv_at hl 2 rfl) ?_
                  refine lv_if_eq (tgt := 663) hx hb dL_law_573 (by decide) (fun c91 => ?_) (fun c91 => ?_)
                  · have h := gif_t c91 h
                    refine W.widen (k := 126994) (n := 763376) (by omega) (by omega) ?_
                    cases h
                    exact K663 _ _ _ hP hQ hS (lv_sub hl [0, 1, 2] rfl)
                  · have h := gif_f c91 h
                    refine lv_aload_n hx hb dL_law_576 rfl (lv_at hl 0 rfl) ?_
                    refine lv_iload hx hb dL_law_577 (lv_at hl 4 rfl) ?_
                    obtain ⟨q65, hcq65, h⟩ := hb_some h
                    refine pW_i (As := [.ref (b1 0), .int p51]) (rest := []) (BH := (fun (u : Unit) H => va_P (dC, dI) vwCl (hW 129 ca b1 I1_44 O1_45 J1_20) H)) X had1 hP hS (fun A1 hA1 => c_L_flown hlf (Nat.le_refl 129) hA1 I1_44 O1_45 J1_20 p51 q65 hcq65) (vx_cwSW 2 X.ts gL_law_L_flown rfl rfl rfl (by decide +kernel) ⟨Nat.le_of_ble_eq_true rfl, Nat.le_of_ble_eq_true rfl⟩) rfl hl.1 rfl (Nat.le_of_ble_eq_true rfl) dL_law_579 ⟨by omega, by omega⟩ (fun r64 u9 H1 locs hw hP9 hz hk hS => ?_)
                    have hw := hw.symm
                    subst hw
                    have hQ := pKeep hdj1 hQ hk
                    have hP := hP9
                    clear hP9 hk hz
                    refine lv_aload_n hx hb dL_law_582 rfl (lv_at hl 1 rfl) ?_
                    refine lv_iload hx hb dL_law_583 (lv_at hl 4 rfl) ?_
                    obtain ⟨q67, hcq67, h⟩ := hb_some h
                    refine pW_i (As := [.ref (b2 0), .int p51]) (rest := [.int r64]) (BH := (fun (u : Unit) H => va_P (dC, dI) vwCl (hW 129 ca b2 I2_48 O2_49 J2_23) H)) X had2 hQ hS (fun A1 hA1 => c_L_flown hlf (Nat.le_refl 129) hA1 I2_48 O2_49 J2_23 p51 q67 hcq67) (vx_cwSW 2 X.ts gL_law_L_flown rfl rfl rfl (by decide +kernel) ⟨Nat.le_of_ble_eq_true rfl, Nat.le_of_ble_eq_true rfl⟩) rfl hl.1 rfl (Nat.le_of_ble_eq_true rfl) dL_law_585 ⟨by omega, by omega⟩ (fun r66 u9 H1 locs hw hQ9 hz hk hS => ?_)
                    have hw := hw.symm
                    subst hw
                    have hP := pKeep hdj2 hP hk
                    have hQ := hQ9
                    clear hQ9 hk hz
                    obtain ⟨p68, hv, h⟩ := hb_some h
                    have K656 : ∀ (H : Heap) (locs : List Loc) (ls : Array Slot), va_P (dC, dI) vwCl (hW 129 ca b1 I1_44 O1_45 J1_20) H → va_P (dC, dI) vwCl (hW 129 ca b2 I2_48 O2_49 J2_23) H → va_S A s.heap H locs → lv_has ls 12 [(1, .ref (b1 0)), (2, .ref (b2 0)), (6, .int r32), (7, .int p51)] → W p l e room_1 s m #[Value.ref sb] below meth c H locs (cn565 + 10) (sn565 + 60) Q (F0 m 656 ls [.int p68]) := by
                      intro H locs ls hP hQ hS hl
                      refine lv_istore_n (lv' := [(3, .int p68), (1, .ref (b1 0)), (2, .ref (b2 0)), (6, .int r32), (7, .int p51)]) hx hb dL_law_656 rfl hl (by decide) rfl (fun ls hl => ?_)
                      obtain ⟨x69, ex69, h⟩ := hlet_ex h
                      refine lv_iinc (v := x69) (lv' := [(7, .int x69), (3, .int p68), (1, .ref (b1 0)), (2, .ref (b2 0)), (6, .int r32)]) hx hb dL_law_657 hl (k := 4) rfl (by rw [ex69]; rfl) (by decide) rfl (fun ls hl => ?_)
                      refine lv_goto (tgt := 565) hx hb dL_law_660 (by decide) ?_
                      exact ih _ _ (cn565 + 10) (sn565 + 60) _ _ _ (by omega) (by omega) h hP hQ hS (lv_sub hl [2, 3, 1, 4, 0] rfl)
                    have h := hv
                    refine lv_icmp_ne (tgt := 655) hx hb dL_law_588 (by decide) (fun c90 => ?_) (fun c90 => ?_)
                    · have h := gif_f c90 h
                      refine lv_iconst (v := 0) hx hb dL_law_655 (by decide) ?_
                      refine W.widen (k := (cn565 + 10)) (n := (sn565 + 60)) (by omega) (by omega) ?_
                      cases h
                      exact K656 _ _ _ hP hQ hS (lv_sub hl [0, 1, 3, 4] rfl)
                    · have h := gif_t c90 h
                      refine lv_aload_n hx hb dL_law_591 rfl (lv_at hl 0 rfl) ?_
                      refine lv_iload hx hb dL_law_592 (lv_at hl 4 rfl) ?_
                      obtain ⟨q71, hcq71, h⟩ := hb_some h
                      refine pW_i (As := [.ref (b1 0), .int p51]) (rest := []) (BH := (fun (u : Unit) H => va_P (dC, dI) vwCl (hW 129 ca b1 I1_44 O1_45 J1_20) H)) X had1 hP hS (fun A1 hA1 => c_L_strengthOf hlf (Nat.le_refl 129) hA1 I1_44 O1_45 J1_20 p51 q71 hcq71) (vx_cwSW 2 X.ts gL_law_L_strengthOf rfl rfl rfl (by decide +kernel) ⟨Nat.le_of_ble_eq_true rfl, Nat.le_of_ble_eq_true rfl⟩) rfl hl.1 rfl (Nat.le_of_ble_eq_true rfl) dL_law_594 ⟨by omega, by omega⟩ (fun r70 u9 H1 locs hw hP9 hz hk hS => ?_)
                      have hw := hw.symm
                      subst hw
                      have hQ := pKeep hdj1 hQ hk
                      have hP := hP9
                      clear hP9 hk hz
                      refine lv_aload_n hx hb dL_law_597 rfl (lv_at hl 1 rfl) ?_
                      refine lv_iload hx hb dL_law_598 (lv_at hl 4 rfl) ?_
                      obtain ⟨q73, hcq73, h⟩ := hb_some h
                      refine pW_i (As := [.ref (b2 0), .int p51]) (rest := [.int r70]) (BH := (fun (u : Unit) H => va_P (dC, dI) vwCl (hW 129 ca b2 I2_48 O2_49 J2_23) H)) X had2 hQ hS (fun A1 hA1 => c_L_strengthOf hlf (Nat.le_refl 129) hA1 I2_48 O2_49 J2_23 p51 q73 hcq73) (vx_cwSW 2 X.ts gL_law_L_strengthOf rfl rfl rfl (by decide +kernel) ⟨Nat.le_of_ble_eq_true rfl, Nat.le_of_ble_eq_true rfl⟩) rfl hl.1 rfl (Nat.le_of_ble_eq_true rfl) dL_law_600 ⟨by omega, by omega⟩ (fun r72 u9 H1 locs hw hQ9 hz hk hS => ?_)
                      have hw := hw.symm
                      subst hw
                      have hP := pKeep hdj2 hP hk
                      have hQ := hQ9
                      clear hQ9 hk hz
                      refine lv_icmp_ne (tgt := 655) hx hb dL_law_603 (by decide) (fun c89 => ?_) (fun c89 => ?_)
                      · have h := gif_f c89 h
                        refine lv_iconst (v := 0) hx hb dL_law_655 (by decide) ?_
                        refine W.widen (k := (cn565 + 10)) (n := (sn565 + 60)) (by omega) (by omega) ?_
                        cases h
                        exact K656 _ _ _ hP hQ hS (lv_sub hl [0, 1, 3, 4] rfl)
                      · have h := gif_t c89 h
                        refine lv_aload_n hx hb dL_law_606 rfl (lv_at hl 0 rfl) ?_
                        refine lv_iload hx hb dL_law_607 (lv_at hl 4 rfl) ?_
                        obtain ⟨q75, hcq75, h⟩ := hb_some h
                        refine pW_i (As := [.ref (b1 0), .int p51]) (rest := []) (BH := (fun (u : Unit) H => va_P (dC, dI) vwCl (hW 129 ca b1 I1_44 O1_45 J1_20) H)) X had1 hP hS (fun A1 hA1 => c_L_paceOf hlf (Nat.le_refl 129) hA1 I1_44 O1_45 J1_20 p51 q75 hcq75) (vx_cwSW 2 X.ts gL_law_L_paceOf rfl rfl rfl (by decide +kernel) ⟨Nat.le_of_ble_eq_true rfl, Nat.le_of_ble_eq_true rfl⟩) rfl hl.1 rfl (Nat.le_of_ble_eq_true rfl) dL_law_609 ⟨by omega, by omega⟩ (fun r74 u9 H1 locs hw hP9 hz hk hS => ?_)
                        have hw := hw.symm
                        subst hw
                        have hQ := pKeep hdj1 hQ hk
                        have hP := hP9
                        clear hP9 hk hz
                        refine lv_aload_n hx hb dL_law_612 rfl (lv_at hl 1 rfl) ?_
                        refine lv_iload hx hb dL_law_613 (lv_at hl 4 rfl) ?_
                        obtain ⟨q77, hcq77, h⟩ := hb_some h
                        refine pW_i (As := [.ref (b2 0), .int p51]) (rest := [.int r74]) (BH := (fun (u : Unit) H => va_P (dC, dI) vwCl (hW 129 ca b2 I2_48 O2_49 J2_23) H)) X had2 hQ hS (fun A1 hA1 => c_L_paceOf hlf (Nat.le_refl 129) hA1 I2_48 O2_49 J2_23 p51 q77 hcq77) (vx_cwSW 2 X.ts gL_law_L_paceOf rfl rfl rfl (by decide +kernel) ⟨Nat.le_of_ble_eq_true rfl, Nat.le_of_ble_eq_true rfl⟩) rfl hl.1 rfl (Nat.le_of_ble_eq_true rfl) dL_law_615 ⟨by omega, by omega⟩ (fun r76 u9 H1 locs hw hQ9 hz hk hS => ?_)
                        have hw := hw.symm
                        subst hw
                        have hP := pKeep hdj2 hP hk
                        have hQ := hQ9
                        clear hQ9 hk hz
                        refine lv_icmp_ne (tgt := 655) hx hb dL_law_618 (by decide) (fun c88 => ?_) (fun c88 => ?_)
                        · have h := gif_f c88 h
                          refine lv_iconst (v := 0) hx hb dL_law_655 (by decide) ?_
                          refine W.widen (k := (cn565 + 10)) (n := (sn565 + 60)) (by omega) (by omega) ?_
                          cases h
                          exact K656 _ _ _ hP hQ hS (lv_sub hl [0, 1, 3, 4] rfl)
                        · have h := gif_t c88 h
                          refine lv_aload_n hx hb dL_law_621 rfl (lv_at hl 0 rfl) ?_
                          refine lv_iload hx hb dL_law_622 (lv_at hl 4 rfl) ?_
                          obtain ⟨q79, hcq79, h⟩ := hb_some h
                          refine pW_i (As := [.ref (b1 0), .int p51]) (rest := []) (BH := (fun (u : Unit) H => va_P (dC, dI) vwCl (hW 129 ca b1 I1_44 O1_45 J1_20) H)) X had1 hP hS (fun A1 hA1 => c_L_laneOf hlf (Nat.le_refl 129) hA1 I1_44 O1_45 J1_20 p51 q79 hcq79) (vx_cwSW 2 X.ts gL_law_L_laneOf rfl rfl rfl (by decide +kernel) ⟨Nat.le_of_ble_eq_true rfl, Nat.le_of_ble_eq_true rfl⟩) rfl hl.1 rfl (Nat.le_of_ble_eq_true rfl) dL_law_624 ⟨by omega, by omega⟩ (fun r78 u9 H1 locs hw hP9 hz hk hS => ?_)
                          have hw := hw.symm
                          subst hw
                          have hQ := pKeep hdj1 hQ hk
                          have hP := hP9
                          clear hP9 hk hz
                          refine lv_aload_n hx hb dL_law_627 rfl (lv_at hl 1 rfl) ?_
                          refine lv_iload hx hb dL_law_628 (lv_at hl 4 rfl) ?_
                          obtain ⟨q81, hcq81, h⟩ := hb_some h
                          refine pW_i (As := [.ref (b2 0), .int p51]) (rest := [.int r78]) (BH := (fun (u : Unit) H => va_P (dC, dI) vwCl (hW 129 ca b2 I2_48 O2_49 J2_23) H)) X had2 hQ hS (fun A1 hA1 => c_L_laneOf hlf (Nat.le_refl 129) hA1 I2_48 O2_49 J2_23 p51 q81 hcq81) (vx_cwSW 2 X.ts gL_law_L_laneOf rfl rfl rfl (by decide +kernel) ⟨Nat.le_of_ble_eq_true rfl, Nat.le_of_ble_eq_true rfl⟩) rfl hl.1 rfl (Nat.le_of_ble_eq_true rfl) dL_law_630 ⟨by omega, by omega⟩ (fun r80 u9 H1 locs hw hQ9 hz hk hS => ?_)
                          have hw := hw.symm
                          subst hw
                          have hP := pKeep hdj2 hP hk
                          have hQ := hQ9
                          clear hQ9 hk hz
                          refine lv_icmp_ne (tgt := 655) hx hb dL_law_633 (by decide) (fun c87 => ?_) (fun c87 => ?_)
                          · have h := gif_f c87 h
                            refine lv_iconst (v := 0) hx hb dL_law_655 (by decide) ?_
                            refine W.widen (k := (cn565 + 10)) (n := (sn565 + 60)) (by omega) (by omega) ?_
                            cases h
                            exact K656 _ _ _ hP hQ hS (lv_sub hl [0, 1, 3, 4] rfl)
                          · have h := gif_t c87 h
                            refine lv_aload_n hx hb dL_law_636 rfl (lv_at hl 0 rfl) ?_
                            refine lv_iload hx hb dL_law_637 (lv_at hl 4 rfl) ?_
                            obtain ⟨q83, hcq83, h⟩ := hb_some h
                            refine pW_i (As := [.ref (b1 0), .int p51]) (rest := []) (BH := (fun (u : Unit) H => va_P (dC, dI) vwCl (hW 129 ca b1 I1_44 O1_45 J1_20) H)) X had1 hP hS (fun A1 hA1 => c_L_isCalledIn hlf (Nat.le_refl 129) hA1 I1_44 O1_45 J1_20 p51 q83 hcq83) (vx_cwSW 2 X.ts gL_law_L_isCalledIn rfl rfl rfl (by decide +kernel) ⟨Nat.le_of_ble_eq_true rfl, Nat.le_of_ble_eq_true rfl⟩) rfl hl.1 rfl (Nat.le_of_ble_eq_true rfl) dL_law_639 ⟨by omega, by omega⟩ (fun r82 u9 H1 locs hw hP9 hz hk hS => ?_)
                            have hw := hw.symm
                            subst hw
                            have hQ := pKeep hdj1 hQ hk
                            have hP := hP9
                            clear hP9 hk hz
                            refine lv_aload_n hx hb dL_law_642 rfl (lv_at hl 1 rfl) ?_
                            refine lv_iload hx hb dL_law_643 (lv_at hl 4 rfl) ?_
                            obtain ⟨q85, hcq85, h⟩ := hb_some h
                            refine pW_i (As := [.ref (b2 0), .int p51]) (rest := [.int r82]) (BH := (fun (u : Unit) H => va_P (dC, dI) vwCl (hW 129 ca b2 I2_48 O2_49 J2_23) H)) X had2 hQ hS (fun A1 hA1 => c_L_isCalledIn hlf (Nat.le_refl 129) hA1 I2_48 O2_49 J2_23 p51 q85 hcq85) (vx_cwSW 2 X.ts gL_law_L_isCalledIn rfl rfl rfl (by decide +kernel) ⟨Nat.le_of_ble_eq_true rfl, Nat.le_of_ble_eq_true rfl⟩) rfl hl.1 rfl (Nat.le_of_ble_eq_true rfl) dL_law_645 ⟨by omega, by omega⟩ (fun r84 u9 H1 locs hw hQ9 hz hk hS => ?_)
                            have hw := hw.symm
                            subst hw
                            have hP := pKeep hdj2 hP hk
                            have hQ := hQ9
                            clear hQ9 hk hz
                            refine lv_icmp_ne (tgt := 655) hx hb dL_law_648 (by decide) (fun c86 => ?_) (fun c86 => ?_)
                            · have h := gif_f c86 h
                              refine lv_iconst (v := 0) hx hb dL_law_655 (by decide) ?_
                              cases h
                              exact K656 _ _ _ hP hQ hS (lv_sub hl [0, 1, 3, 4] rfl)
                            · have h := gif_t c86 h
                              refine lv_iconst (v := 1) hx hb dL_law_651 (by decide) ?_
                              refine lv_goto (tgt := 656) hx hb dL_law_652 (by decide) ?_
                              cases h
                              exact K656 _ _ _ hP hQ hS (lv_sub hl [0, 1, 3, 4] rfl)
            exact hL565 16 _ _ 126834 762416 _ _ _ (Nat.le_of_ble_eq_true rfl) (Nat.le_of_ble_eq_true rfl) hv hP hQ hS (lv_sub hl [2, 3, 1, 4, 0] rfl)
          have h := hv
          refine lv_if_eq (tgt := 560) hx hb dL_law_497 (by decide) (fun c121 => ?_) (fun c121 => ?_)
          · have h := gif_t c121 h
            refine lv_iconst (v := 0) hx hb dL_law_560 (by decide) ?_
            refine W.widen (k := 126834) (n := 762416) (Nat.le_of_ble_eq_true rfl) (Nat.le_of_ble_eq_true rfl) ?_
            cases h
            exact K561 _ _ _ hP hQ hS (lv_sub hl [0, 1, 5] rfl)
          · have h := gif_f c121 h
            refine lv_iload hx hb dL_law_500 (lv_at hl 5 rfl) ?_
            obtain ⟨j95, ej95, h⟩ := hlet_ex h
            have K523 : ∀ (I2_93 : Nat → Nat → Int32) (O2_94 : Nat → Nat → Option Nat) (H : Heap) (locs : List Loc) (ls : Array Slot), j95 I2_93 O2_94 = some (p47, I2_48, O2_49) → va_P (dC, dI) vwCl (hW 129 ca b1 I1_44 O1_45 J1_20) H → va_P (dC, dI) vwCl (hW 129 ca b2 I2_93 O2_94 J2_23) H → va_S A s.heap H locs → lv_has ls 12 [(1, .ref (b1 0)), (2, .ref (b2 0)), (6, .int r32)] → W p l e room_1 s m #[Value.ref sb] below meth c H locs 126834 762416 Q (F0 m 523 ls []) := by
              intro I2_93 O2_94 H locs ls h hP hQ hS hl
              rw [ej95] at h
              refine lv_aload_n hx hb dL_law_523 rfl (lv_at hl 0 rfl) ?_
              obtain ⟨q97, hcq97, h⟩ := hb_some h
              refine pV_i (As := []) (rest := []) (BH := (fun (u : Unit) H => va_P (dC, dI) vwCl (hW 129 ca b1 I1_44 O1_45 J1_20) H)) X had1 hP hS (fun A1 hA1 => c_X7_seconds (Nat.le_refl 129) hA1 I1_44 O1_45 J1_20 q97 hcq97) (cwV 0 X.ts gL_law_X7_seconds rfl rfl rfl (by decide +kernel) ⟨Nat.le_of_ble_eq_true rfl, Nat.le_of_ble_eq_true rfl⟩) (pRecv X hP) rfl hl.1 rfl (Nat.le_of_ble_eq_true rfl) dL_law_524 ⟨Nat.le_of_ble_eq_true rfl, Nat.le_of_ble_eq_true rfl⟩ (fun r96 u9 H1 locs hw hP9 hz hk hS => ?_)
              have hw := hw.symm
              subst hw
              have hQ := pKeep hdj1 hQ hk
              have hP := hP9
              clear hP9 hk hz
              refine lv_aload_n hx hb dL_law_527 rfl (lv_at hl 1 rfl) ?_
              obtain ⟨q99, hcq99, h⟩ := hb_some h
              refine pV_i (As := []) (rest := [.int r96]) (BH := (fun (u : Unit) H => va_P (dC, dI) vwCl (hW 129 ca b2 I2_93 O2_94 J2_23) H)) X had2 hQ hS (fun A1 hA1 => c_X7_seconds (Nat.le_refl 129) hA1 I2_93 O2_94 J2_23 q99 hcq99) (cwV 0 X.ts gL_law_X7_seconds rfl rfl rfl (by decide +kernel) ⟨Nat.le_of_ble_eq_true rfl, Nat.le_of_ble_eq_true rfl⟩) (pRecv X hQ) rfl hl.1 rfl (Nat.le_of_ble_eq_true rfl) dL_law_528 ⟨Nat.le_of_ble_eq_true rfl, Nat.le_of_ble_eq_true rfl⟩ (fun r98 u9 H1 locs hw hQ9 hz hk hS => ?_)
              have hw := hw.symm
              subst hw
              have hP := pKeep hdj2 hP hk
              have hQ := hQ9
              clear hQ9 hk hz
              refine lv_icmp_ne (tgt := 560) hx hb dL_law_531 (by decide) (fun c110 => ?_) (fun c110 => ?_)
              · have h := gif_f c110 h
                refine lv_iconst (v := 0) hx hb dL_law_560 (by decide) ?_
                cases h
                exact K561 _ _ _ hP hQ hS (lv_sub hl [0, 1, 2] rfl)
              · have h := gif_t c110 h
                refine lv_aload_n hx hb dL_law_534 rfl (lv_at hl 0 rfl) ?_
                obtain ⟨q101, hcq101, h⟩ := hb_some h
                refine pV_i (As := []) (rest := []) (BH := (fun (u : Unit) H => va_P (dC, dI) vwCl (hW 129 ca b1 I1_44 O1_45 J1_20) H)) X had1 hP hS (fun A1 hA1 => c_X7_flownByAccount (Nat.le_refl 129) hA1 I1_44 O1_45 J1_20 q101 hcq101) (cwV 0 X.ts gL_law_X7_flownByAccount rfl rfl rfl (by decide +kernel) ⟨Nat.le_of_ble_eq_true rfl, Nat.le_of_ble_eq_true rfl⟩) (pRecv X hP) rfl hl.1 rfl (Nat.le_of_ble_eq_true rfl) dL_law_535 ⟨Nat.le_of_ble_eq_true rfl, Nat.le_of_ble_eq_true rfl⟩ (fun r100 u9 H1 locs hw hP9 hz hk hS => ?_)
                have hw := hw.symm
                subst hw
                have hQ := pKeep hdj1 hQ hk
                have hP := hP9
                clear hP9 hk hz
                refine lv_aload_n hx hb dL_law_538 rfl (lv_at hl 1 rfl) ?_
                obtain ⟨q103, hcq103, h⟩ := hb_some h
                refine pV_i (As := []) (rest := [.int r100]) (BH := (fun (u : Unit) H => va_P (dC, dI) vwCl (hW 129 ca b2 I2_93 O2_94 J2_23) H)) X had2 hQ hS (fun A1 hA1 => c_X7_flownByAccount (Nat.le_refl 129) hA1 I2_93 O2_94 J2_23 q103 hcq103) (cwV 0 X.ts gL_law_X7_flownByAccount rfl rfl rfl (by decide +kernel) ⟨Nat.le_of_ble_eq_true rfl, Nat.le_of_ble_eq_true rfl⟩) (pRecv X hQ) rfl hl.1 rfl (Nat.le_of_ble_eq_true rfl) dL_law_539 ⟨Nat.le_of_ble_eq_true rfl, Nat.le_of_ble_eq_true rfl⟩ (fun r102 u9 H1 locs hw hQ9 hz hk hS => ?_)
                have hw := hw.symm
                subst hw
                have hP := pKeep hdj2 hP hk
                have hQ := hQ9
                clear hQ9 hk hz
                refine lv_icmp_ne (tgt := 560) hx hb dL_law_542 (by decide) (fun c109 => ?_) (fun c109 => ?_)
                · have h := gif_f c109 h
                  refine lv_iconst (v := 0) hx hb dL_law_560 (by decide) ?_
                  cases h
                  exact K561 _ _ _ hP hQ hS (lv_sub hl [0, 1, 2] rfl)
                · have h := gif_t c109 h
                  refine lv_aload_n hx hb dL_law_545 rfl (lv_at hl 0 rfl) ?_
                  obtain ⟨q105, hcq105, h⟩ := hb_some h
                  refine pV_i (As := []) (rest := []) (BH := (fun (u : Unit) H => va_P (dC, dI) vwCl (hW 129 ca b1 I1_44 O1_45 J1_20) H)) X had1 hP hS (fun A1 hA1 => c_X7_drafts (Nat.le_refl 129) hA1 I1_44 O1_45 J1_20 q105 hcq105) (cwV 0 X.ts gL_law_X7_drafts rfl rfl rfl (by decide +kernel) ⟨Nat.le_of_ble_eq_true rfl, Nat.le_of_ble_eq_true rfl⟩) (pRecv X hP) rfl hl.1 rfl (Nat.le_of_ble_eq_true rfl) dL_law_546 ⟨Nat.le_of_ble_eq_true rfl, Nat.le_of_ble_eq_true rfl⟩ (fun r104 u9 H1 locs hw hP9 hz hk hS => ?_)
                  have hw := hw.symm
                  subst hw
                  have hQ := pKeep hdj1 hQ hk
                  have hP := hP9
                  clear hP9 hk hz
                  refine lv_aload_n hx hb dL_law_549 rfl (lv_at hl 1 rfl) ?_
                  obtain ⟨q107, hcq107, h⟩ := hb_some h
                  refine pV_i (As := []) (rest := [.int r104]) (BH := (fun (u : Unit) H => va_P (dC, dI) vwCl (hW 129 ca b2 I2_93 O2_94 J2_23) H)) X had2 hQ hS (fun A1 hA1 => c_X7_drafts (Nat.le_refl 129) hA1 I2_93 O2_94 J2_23 q107 hcq107) (cwV 0 X.ts gL_law_X7_drafts rfl rfl rfl (by decide +kernel) ⟨Nat.le_of_ble_eq_true rfl, Nat.le_of_ble_eq_true rfl⟩) (pRecv X hQ) rfl hl.1 rfl (Nat.le_of_ble_eq_true rfl) dL_law_550 ⟨Nat.le_of_ble_eq_true rfl, Nat.le_of_ble_eq_true rfl⟩ (fun r106 u9 H1 locs hw hQ9 hz hk hS => ?_)
                  have hw := hw.symm
                  subst hw
                  have hP := pKeep hdj2 hP hk
                  have hQ := hQ9
                  clear hQ9 hk hz
                  refine lv_icmp_ne (tgt := 560) hx hb dL_law_553 (by decide) (fun c108 => ?_) (fun c108 => ?_)
                  · have h := gif_f c108 h
                    refine lv_iconst (v := 0) hx hb dL_law_560 (by decide) ?_
                    cases h
                    exact K561 _ _ _ hP hQ hS (lv_sub hl [0, 1, 2] rfl)
                  · have h := gif_t c108 h
                    refine lv_iconst (v := 1) hx hb dL_law_556 (by decide) ?_
                    refine lv_goto (tgt := 561) hx hb dL_law_557 (by decide) ?_
                    cases h
                    exact K561 _ _ _ hP hQ hS (lv_sub hl [0, 1, 2] rfl)
            refine lv_if_eq (tgt := 523) hx hb dL_law_502 (by decide) (fun c120 => ?_) (fun c120 => ?_)
            · have h := gif_t c120 h
              refine W.widen (k := 126834) (n := 762416) (Nat.le_of_ble_eq_true rfl) (Nat.le_of_ble_eq_true rfl) ?_
              exact K523 _ _ _ _ _ h hP hQ hS (lv_sub hl [0, 1, 5] rfl)
            · have h := gif_f c120 h
              refine lv_aload_n hx hb dL_law_505 rfl (lv_at hl 1 rfl) ?_
              obtain ⟨q113, hcq113, h⟩ := hb_some h
              refine pV_i (As := []) (rest := []) (BH := (fun (u : Nat → Nat → Int32) H => va_P (dC, dI) vwCl (hW 129 ca b2 u O2_31 J2_23) H)) X had2 hQ hS (fun A1 hA1 => c_X7_firstError (Nat.le_refl 129) hA1 I2_46 O2_31 J2_23 q113 hcq113) (cwV 0 X.ts gL_law_X7_firstError rfl rfl rfl (by decide +kernel) ⟨Nat.le_of_ble_eq_true rfl, Nat.le_of_ble_eq_true rfl⟩) (pRecv X hQ) rfl hl.1 rfl (Nat.le_of_ble_eq_true rfl) dL_law_506 ⟨Nat.le_of_ble_eq_true rfl, Nat.le_of_ble_eq_true rfl⟩ (fun r112 I2_111 H1 locs hw hQ9 hz hk hS => ?_)
              subst hw
              have hP := pKeep hdj2 hP hk
              have hQ := hQ9
              clear hQ9 hk hz
              refine lv_iload hx hb dL_law_509 (lv_at hl 3 rfl) ?_
              refine lv_icmp_ne (tgt := 560) hx hb dL_law_511 (by decide) (fun c119 => ?_) (fun c119 => ?_)
              · have h := gif_f c119 h
                refine lv_iconst (v := 0) hx hb dL_law_560 (by decide) ?_
                refine W.widen (k := 126834) (n := 762416) (Nat.le_of_ble_eq_true rfl) (Nat.le_of_ble_eq_true rfl) ?_
                cases h
                exact K561 _ _ _ hP hQ hS (lv_sub hl [0, 1, 5] rfl)
              · have h := gif_t c119 h
                refine lv_aload_n hx hb dL_law_514 rfl (lv_at hl 1 rfl) ?_
                obtain ⟨q117, hcq117, h⟩ := hb_some h
                refine pW_i (As := [.ref (b2 0)]) (rest := []) (BH := (fun (u : (Nat → Nat → Int32) × (Nat → Nat → Option Nat)) H => va_P (dC, dI) vwCl (hW 129 ca b2 u.1 u.2 J2_23) H)) X had2 hQ hS (fun A1 hA1 => c_L_follow hlf (Nat.le_refl 129) hA1 I2_111 O2_31 J2_23 q117 hcq117) (vx_cwSW 1 X.ts gL_law_L_follow rfl rfl rfl (by decide +kernel) ⟨Nat.le_of_ble_eq_true rfl, Nat.le_of_ble_eq_true rfl⟩) rfl hl.1 rfl (Nat.le_of_ble_eq_true rfl) dL_law_515 ⟨Nat.le_of_ble_eq_true rfl, Nat.le_of_ble_eq_true rfl⟩ (fun r116 u9 H1 locs hw hQ9 hz hk hS => ?_)
                obtain ⟨I2_114, O2_115⟩ := u9
                subst hw
                have hP := pKeep hdj2 hP hk
                have hQ := hQ9
                clear hQ9 hk hz
                refine lv_iload hx hb dL_law_518 (lv_at hl 4 rfl) ?_
                refine lv_icmp_ne (tgt := 560) hx hb dL_law_520 (by decide) (fun c118 => ?_) (fun c118 => ?_)
                · have h := gif_f c118 h
                  refine lv_iconst (v := 0) hx hb dL_law_560 (by decide) ?_
                  cases h
                  exact K561 _ _ _ hP hQ hS (lv_sub hl [0, 1, 5] rfl)
                · have h := gif_t c118 h
                  exact K523 _ _ _ _ _ h hP hQ hS (lv_sub hl [0, 1, 5] rfl)
        have hL249 : ∀ (fuel : Nat) (p34 : Int32) (p35 : Int32) (p36 : Int32) (p37 : Int32) (I1_38 : Nat → Nat → Int32) (O1_39 : Nat → Nat → Option Nat) (I2_40 : Nat → Nat → Int32) (cn249 sn249 : Nat) (H : Heap) (locs : List Loc) (ls : Array Slot), cn249 + 15 * fuel ≤ 126833 → sn249 + 90 * fuel ≤ 762410 → f_L_law_L249 SL sx r32 fuel p34 p35 p36 p37 I1_38 O1_39 I2_40 = some (p41, p42, p43, I1_44, O1_45, I2_46) → va_P (dC, dI) vwCl (hW 129 ca b1 I1_38 O1_39 J1_20) H → va_P (dC, dI) vwCl (hW 129 ca b2 I2_40 O2_31 J2_23) H → va_S A s.heap H locs → lv_has ls 12 [(0, .ref sb), (1, .ref (b1 0)), (2, .ref (b2 0)), (3, .int p34), (4, .int p35), (5, .int p36), (6, .int r32), (7, .int p37)] → W p l e room_1 s m #[Value.ref sb] below meth c H locs cn249 sn249 Q (F0 m 249 ls []) := by
          intro fuel
          induction fuel with
          | zero =>
            intro p34 p35 p36 p37 I1_38 O1_39 I2_40 cn249 sn249 H locs ls hcn249 hsn249 h hP hQ hS hl
            rw [f_L_law_L249] at h
            cases h
          | succ fuel ih =>
            intro p34 p35 p36 p37 I1_38 O1_39 I2_40 cn249 sn249 H locs ls hcn249 hsn249 h hP hQ hS hl
            rw [f_L_law_L249] at h
            refine lv_iload hx hb dL_law_249 (lv_at hl 7 rfl) ?_
            refine lv_bipush (v := 8) hx hb dL_law_251 (by decide) ?_
            refine lv_icmp_ge (tgt := 496) hx hb dL_law_253 (by decide) (fun c180 => ?_) (fun c180 => ?_)
            · have h := gif_t c180 h
              refine W.widen (k := 126833) (n := 762410) (by omega) (by omega) ?_
              cases h
              exact K496 _ _ _ hP hQ hS (lv_sub hl [1, 2, 3, 4, 5, 6] rfl)
            · have h := gif_f c180 h
              refine lv_iload_n hx hb dL_law_256 rfl (lv_at hl 3 rfl) ?_
              refine lv_if_eq (tgt := 496) hx hb dL_law_257 (by decide) (fun c179 => ?_) (fun c179 => ?_)
              · have h := gif_t c179 h
                refine W.widen (k := 126833) (n := 762410) (by omega) (by omega) ?_
                cases h
                exact K496 _ _ _ hP hQ hS (lv_sub hl [1, 2, 3, 4, 5, 6] rfl)
              · have h := gif_f c179 h
                refine lv_iload hx hb dL_law_260 (lv_at hl 6 rfl) ?_
                refine lv_if_le (tgt := 496) hx hb dL_law_262 (by decide) (fun c178 => ?_) (fun c178 => ?_)
                · have h := gif_t c178 h
                  refine W.widen (k := 126833) (n := 762410) (by omega) (by omega) ?_
                  cases h
                  exact K496 _ _ _ hP hQ hS (lv_sub hl [1, 2, 3, 4, 5, 6] rfl)
                · have h := gif_f c178 h
                  refine lv_aload_n hx hb dL_law_265 rfl (lv_at hl 0 rfl) ?_
                  refine lv_bipush (v := 56) hx hb dL_law_266 (by decide) ?_
                  refine lv_iload hx hb dL_law_268 (lv_at hl 7 rfl) ?_
                  refine lv_bipush (v := 8) hx hb dL_law_270 (by decide) ?_
                  refine lv_irem hx hb dL_law_272 (by decide) ?_
                  refine lv_iadd hx hb dL_law_273 ?_
                  obtain ⟨q122, hcq122, h⟩ := hb_some h
                  refine cell_call (rest := []) X hX hbl hbA hS (c_L_cell ((56 : Int32) + (p37 - p37 / (8 : Int32) * (8 : Int32))) q122 hcq122) (va_cwS 2 X.ts gL_law_L_cell rfl rfl rfl (by decide +kernel) ⟨Nat.le_of_ble_eq_true rfl, Nat.le_of_ble_eq_true rfl⟩) hl.1 rfl (Nat.le_of_ble_eq_true rfl) dL_law_274 ⟨by omega, by omega⟩ (fun r123 H1 locs hw hz hk hS => ?_)
                  have hw := hw.symm
                  subst hw
                  have hP := pKeepA hP hk
                  have hQ := pKeepA hQ hk
                  clear hk hz
                  refine lv_iconst (v := 1) hx hb dL_law_277 (by decide) ?_
                  refine lv_iload hx hb dL_law_278 (lv_at hl 7 rfl) ?_
                  refine lv_iadd hx hb dL_law_280 ?_
                  obtain ⟨hgd, h⟩ := hg_some h
                  refine lv_idiv hx hb dL_law_281 (gne_of hgd) ?_
                  refine lv_istore (lv' := [(8, .int (r123 / ((1 : Int32) + p37))), (0, .ref sb), (1, .ref (b1 0)), (2, .ref (b2 0)), (3, .int p34), (4, .int p35), (5, .int p36), (6, .int r32), (7, .int p37)]) hx hb dL_law_282 hl (by decide) rfl (fun ls hl => ?_)
                  refine lv_iload hx hb dL_law_284 (lv_at hl 0 rfl) ?_
                  refine lv_iconst (v := 3) hx hb dL_law_286 (by decide) ?_
                  refine lv_irem hx hb dL_law_287 (by decide) ?_
                  obtain ⟨p124, hv, h⟩ := hb_some h
                  have K296 : ∀ (H : Heap) (locs : List Loc) (ls : Array Slot), va_P (dC, dI) vwCl (hW 129 ca b1 I1_38 O1_39 J1_20) H → va_P (dC, dI) vwCl (hW 129 ca b2 I2_40 O2_31 J2_23) H → va_S A s.heap H locs → lv_has ls 12 [(0, .ref sb), (1, .ref (b1 0)), (2, .ref (b2 0)), (5, .int p36), (6, .int r32), (7, .int p37), (8, .int (r123 / ((1 : Int32) + p37)))] → W p l e room_1 s m #[Value.ref sb] below meth c H locs cn249 sn249 Q (F0 m 296 ls [.int p124]) := by
                    intro H locs ls hP hQ hS hl
                    refine lv_istore (lv' := [(9, .int p124), (0, .ref sb), (1, .ref (b1 0)), (2, .ref (b2 0)), (5, .int p36), (6, .int r32), (7, .int p37), (8, .int (r123 / ((1 : Int32) + p37)))]) hx hb dL_law_296 hl (by decide) rfl (fun ls hl => ?_)
                    refine lv_iload hx hb dL_law_298 (lv_at hl 7 rfl) ?_
                    refine lv_iconst (v := 3) hx hb dL_law_300 (by decide) ?_
                    refine lv_idiv hx hb dL_law_301 (by decide) ?_
                    refine lv_iload hx hb dL_law_302 (lv_at hl 5 rfl) ?_
                    obtain ⟨hgd, h⟩ := hg_some h
                    refine lv_irem hx hb dL_law_304 (gne_of hgd) ?_
                    refine lv_istore (lv' := [(10, .int (((r123 / ((1 : Int32) + p37)) / (3 : Int32)) - ((r123 / ((1 : Int32) + p37)) / (3 : Int32)) / r32 * r32)), (9, .int p124), (0, .ref sb), (1, .ref (b1 0)), (2, .ref (b2 0)), (5, .int p36), (6, .int r32), (7, .int p37), (8, .int (r123 / ((1 : Int32) + p37)))]) hx hb dL_law_305 hl (by decide) rfl (fun ls hl => ?_)
                    refine lv_iload hx hb dL_law_307 (lv_at hl 1 rfl) ?_
                    obtain ⟨⟨p125, I1_126, O1_127⟩, hv, h⟩ := hb_some h
                    have K353 : ∀ (H : Heap) (locs : List Loc) (ls : Array Slot), va_P (dC, dI) vwCl (hW 129 ca b1 I1_126 O1_127 J1_20) H → va_P (dC, dI) vwCl (hW 129 ca b2 I2_40 O2_31 J2_23) H → va_S A s.heap H locs → lv_has ls 12 [(0, .ref sb), (1, .ref (b1 0)), (2, .ref (b2 0)), (5, .int p36), (6, .int r32), (7, .int p37), (8, .int (r123 / ((1 : Int32) + p37))), (9, .int p124), (10, .int (((r123 / ((1 : Int32) + p37)) / (3 : Int32)) - ((r123 / ((1 : Int32) + p37)) / (3 : Int32)) / r32 * r32))] → W p l e room_1 s m #[Value.ref sb] below meth c H locs (cn249 + 6) (sn249 + 36) Q (F0 m 353 ls [.int p125]) := by
                      intro H locs ls hP hQ hS hl
                      refine lv_istore (lv' := [(11, .int p125), (0, .ref sb), (1, .ref (b1 0)), (2, .ref (b2 0)), (5, .int p36), (6, .int r32), (7, .int p37), (8, .int (r123 / ((1 : Int32) + p37))), (9, .int p124), (10, .int (((r123 / ((1 : Int32) + p37)) / (3 : Int32)) - ((r123 / ((1 : Int32) + p37)) / (3 : Int32)) / r32 * r32))]) hx hb dL_law_353 hl (by decide) rfl (fun ls hl => ?_)
                      refine lv_iload hx hb dL_law_355 (lv_at hl 4 rfl) ?_
                      obtain ⟨⟨p128, I2_129⟩, hv, h⟩ := hb_some h
                      have K370 : ∀ (H : Heap) (locs : List Loc) (ls : Array Slot), va_P (dC, dI) vwCl (hW 129 ca b1 I1_126 O1_127 J1_20) H → va_P (dC, dI) vwCl (hW 129 ca b2 I2_129 O2_31 J2_23) H → va_S A s.heap H locs → lv_has ls 12 [(0, .ref sb), (1, .ref (b1 0)), (2, .ref (b2 0)), (5, .int p36), (6, .int r32), (7, .int p37), (8, .int (r123 / ((1 : Int32) + p37))), (9, .int p124), (10, .int (((r123 / ((1 : Int32) + p37)) / (3 : Int32)) - ((r123 / ((1 : Int32) + p37)) / (3 : Int32)) / r32 * r32)), (11, .int p125)] → W p l e room_1 s m #[Value.ref sb] below meth c H locs (cn249 + 7) (sn249 + 42) Q (F0 m 370 ls [.int p128]) := by
                        intro H locs ls hP hQ hS hl
                        refine lv_istore (lv' := [(4, .int p128), (0, .ref sb), (1, .ref (b1 0)), (2, .ref (b2 0)), (5, .int p36), (6, .int r32), (7, .int p37), (8, .int (r123 / ((1 : Int32) + p37))), (9, .int p124), (10, .int (((r123 / ((1 : Int32) + p37)) / (3 : Int32)) - ((r123 / ((1 : Int32) + p37)) / (3 : Int32)) / r32 * r32)), (11, .int p125)]) hx hb dL_law_370 hl (by decide) rfl (fun ls hl => ?_)
                        refine lv_aload_n hx hb dL_law_372 rfl (lv_at hl 3 rfl) ?_
                        refine lv_iload hx hb dL_law_373 (lv_at hl 8 rfl) ?_
                        obtain ⟨p130, hv, h⟩ := hb_some h
                        have K397 : ∀ (H : Heap) (locs : List Loc) (ls : Array Slot), va_P (dC, dI) vwCl (hW 129 ca b1 I1_126 O1_127 J1_20) H → va_P (dC, dI) vwCl (hW 129 ca b2 I2_129 O2_31 J2_23) H → va_S A s.heap H locs → lv_has ls 12 [(0, .ref sb), (1, .ref (b1 0)), (2, .ref (b2 0)), (5, .int p36), (6, .int r32), (7, .int p37), (8, .int (r123 / ((1 : Int32) + p37))), (9, .int p124), (10, .int (((r123 / ((1 : Int32) + p37)) / (3 : Int32)) - ((r123 / ((1 : Int32) + p37)) / (3 : Int32)) / r32 * r32)), (11, .int p125)] → W p l e room_1 s m #[Value.ref sb] below meth c H locs (cn249 + 7) (sn249 + 42) Q (F0 m 397 ls [.int p130, .ref (b2 0)]) := by
                          intro H locs ls hP hQ hS hl
                          obtain ⟨q133, hcq133, h⟩ := hb_some h
                          refine pW_i (As := [.ref (b2 0), .int p130]) (rest := []) (BH := (fun (u : Nat → Nat → Int32) H => va_P (dC, dI) vwCl (hW 129 ca b2 u O2_31 J2_23) H)) X had2 hQ hS (fun A1 hA1 => c_L_append hlf (Nat.le_refl 129) hA1 I2_129 O2_31 J2_23 p130 q133 hcq133) (vx_cwSW 2 X.ts gL_law_L_append rfl rfl rfl (by decide +kernel) ⟨Nat.le_of_ble_eq_true rfl, Nat.le_of_ble_eq_true rfl⟩) rfl hl.1 rfl (Nat.le_of_ble_eq_true rfl) dL_law_397 ⟨by omega, by omega⟩ (fun r132 I2_131 H1 locs hw hQ9 hz hk hS => ?_)
                          subst hw
                          have hP := pKeep hdj2 hP hk
                          have hQ := hQ9
                          clear hQ9 hk hz
                          refine lv_istore (lv' := [(4, .int r132), (0, .ref sb), (1, .ref (b1 0)), (2, .ref (b2 0)), (5, .int p36), (6, .int r32), (7, .int p37), (8, .int (r123 / ((1 : Int32) + p37))), (9, .int p124), (10, .int (((r123 / ((1 : Int32) + p37)) / (3 : Int32)) - ((r123 / ((1 : Int32) + p37)) / (3 : Int32)) / r32 * r32)), (11, .int p125)]) hx hb dL_law_400 hl (by decide) rfl (fun ls hl => ?_)
                          refine lv_aload_n hx hb dL_law_402 rfl (lv_at hl 3 rfl) ?_
                          refine lv_iload hx hb dL_law_403 (lv_at hl 8 rfl) ?_
                          obtain ⟨p134, hv, h⟩ := hb_some h
                          have K421 : ∀ (H : Heap) (locs : List Loc) (ls : Array Slot), va_P (dC, dI) vwCl (hW 129 ca b1 I1_126 O1_127 J1_20) H → va_P (dC, dI) vwCl (hW 129 ca b2 I2_131 O2_31 J2_23) H → va_S A s.heap H locs → lv_has ls 12 [(0, .ref sb), (1, .ref (b1 0)), (2, .ref (b2 0)), (5, .int p36), (6, .int r32), (7, .int p37), (8, .int (r123 / ((1 : Int32) + p37))), (9, .int p124), (11, .int p125)] → W p l e room_1 s m #[Value.ref sb] below meth c H locs (cn249 + 8) (sn249 + 48) Q (F0 m 421 ls [.int p134, .ref (b2 0)]) := by
                            intro H locs ls hP hQ hS hl
                            obtain ⟨q137, hcq137, h⟩ := hb_some h
                            refine pS_i (As := [.ref (b2 0), .int p134]) (rest := []) (BH := (fun (u : Nat → Nat → Int32) H => va_P (dC, dI) vwCl (hW 129 ca b2 u O2_31 J2_23) H)) X had2 hQ hS (fun A1 hA1 => c_L_number hlf (Nat.le_refl 129) hA1 I2_131 O2_31 J2_23 p134 q137 hcq137) (va_cwS 2 X.ts gL_law_L_number rfl rfl rfl (by decide +kernel) ⟨Nat.le_of_ble_eq_true rfl, Nat.le_of_ble_eq_true rfl⟩) rfl hl.1 rfl (Nat.le_of_ble_eq_true rfl) dL_law_421 ⟨by omega, by omega⟩ (fun r136 I2_135 H1 locs hw hQ9 hz hk hS => ?_)
                            subst hw
                            have hP := pKeep hdj2 hP hk
                            have hQ := hQ9
                            clear hQ9 hk hz
                            refine lv_istore (lv' := [(4, .int r136), (0, .ref sb), (1, .ref (b1 0)), (2, .ref (b2 0)), (5, .int p36), (6, .int r32), (7, .int p37), (8, .int (r123 / ((1 : Int32) + p37))), (9, .int p124), (11, .int p125)]) hx hb dL_law_424 hl (by decide) rfl (fun ls hl => ?_)
                            refine lv_iload hx hb dL_law_426 (lv_at hl 8 rfl) ?_
                            obtain ⟨⟨p138, I2_139⟩, hv, h⟩ := hb_some h
                            have K442 : ∀ (H : Heap) (locs : List Loc) (ls : Array Slot), va_P (dC, dI) vwCl (hW 129 ca b1 I1_126 O1_127 J1_20) H → va_P (dC, dI) vwCl (hW 129 ca b2 I2_139 O2_31 J2_23) H → va_S A s.heap H locs → lv_has ls 12 [(0, .ref sb), (1, .ref (b1 0)), (2, .ref (b2 0)), (5, .int p36), (6, .int r32), (7, .int p37), (8, .int (r123 / ((1 : Int32) + p37))), (9, .int p124), (11, .int p125)] → W p l e room_1 s m #[Value.ref sb] below meth c H locs (cn249 + 12) (sn249 + 72) Q (F0 m 442 ls [.int p138]) := by
                              intro H locs ls hP hQ hS hl
                              refine lv_istore (lv' := [(4, .int p138), (0, .ref sb), (1, .ref (b1 0)), (2, .ref (b2 0)), (5, .int p36), (6, .int r32), (7, .int p37), (8, .int (r123 / ((1 : Int32) + p37))), (9, .int p124), (11, .int p125)]) hx hb dL_law_442 hl (by decide) rfl (fun ls hl => ?_)
                              refine lv_iload hx hb dL_law_444 (lv_at hl 8 rfl) ?_
                              obtain ⟨⟨p140, I2_141⟩, hv, h⟩ := hb_some h
                              have K469 : ∀ (H : Heap) (locs : List Loc) (ls : Array Slot), va_P (dC, dI) vwCl (hW 129 ca b1 I1_126 O1_127 J1_20) H → va_P (dC, dI) vwCl (hW 129 ca b2 I2_141 O2_31 J2_23) H → va_S A s.heap H locs → lv_has ls 12 [(0, .ref sb), (1, .ref (b1 0)), (2, .ref (b2 0)), (5, .int p36), (6, .int r32), (7, .int p37), (11, .int p125)] → W p l e room_1 s m #[Value.ref sb] below meth c H locs (cn249 + 15) (sn249 + 90) Q (F0 m 469 ls [.int p140]) := by
                                intro H locs ls hP hQ hS hl
                                refine lv_istore (lv' := [(4, .int p140), (0, .ref sb), (1, .ref (b1 0)), (2, .ref (b2 0)), (5, .int p36), (6, .int r32), (7, .int p37), (11, .int p125)]) hx hb dL_law_469 hl (by decide) rfl (fun ls hl => ?_)
                                obtain ⟨x142, ex142, h⟩ := hlet_ex h
                                refine lv_iinc (v := x142) (lv' := [(5, .int x142), (4, .int p140), (0, .ref sb), (1, .ref (b1 0)), (2, .ref (b2 0)), (6, .int r32), (7, .int p37), (11, .int p125)]) hx hb dL_law_471 hl (k := 4) rfl (by rw [ex142]; rfl) (by decide) rfl (fun ls hl => ?_)
                                refine lv_iload hx hb dL_law_474 (lv_at hl 7 rfl) ?_
                                obtain ⟨p143, hv, h⟩ := hb_some h
                                have K489 : ∀ (H : Heap) (locs : List Loc) (ls : Array Slot), va_P (dC, dI) vwCl (hW 129 ca b1 I1_126 O1_127 J1_20) H → va_P (dC, dI) vwCl (hW 129 ca b2 I2_141 O2_31 J2_23) H → va_S A s.heap H locs → lv_has ls 12 [(0, .ref sb), (1, .ref (b1 0)), (2, .ref (b2 0)), (4, .int p140), (5, .int x142), (6, .int r32), (7, .int p37)] → W p l e room_1 s m #[Value.ref sb] below meth c H locs (cn249 + 15) (sn249 + 90) Q (F0 m 489 ls [.int p143]) := by
                                  intro H locs ls hP hQ hS hl
                                  refine lv_istore_n (lv' := [(3, .int p143), (0, .ref sb), (1, .ref (b1 0)), (2, .ref (b2 0)), (4, .int p140), (5, .int x142), (6, .int r32), (7, .int p37)]) hx hb dL_law_489 rfl hl (by decide) rfl (fun ls hl => ?_)
                                  obtain ⟨x144, ex144, h⟩ := hlet_ex h
                                  refine lv_iinc (v := x144) (lv' := [(7, .int x144), (3, .int p143), (0, .ref sb), (1, .ref (b1 0)), (2, .ref (b2 0)), (4, .int p140), (5, .int x142), (6, .int r32)]) hx hb dL_law_490 hl (k := 7) rfl (by rw [ex144]; rfl) (by decide) rfl (fun ls hl => ?_)
                                  refine lv_goto (tgt := 249) hx hb dL_law_493 (by decide) ?_
                                  exact ih _ _ _ _ _ _ _ (cn249 + 15) (sn249 + 90) _ _ _ (by omega) (by omega) h hP hQ hS (lv_sub hl [2, 3, 4, 1, 5, 6, 7, 0] rfl)
                                have h := hv
                                refine lv_if_lt (tgt := 488) hx hb dL_law_476 (by decide) (fun c146 => ?_) (fun c146 => ?_)
                                · have h := gif_t c146 h
                                  refine lv_iconst (v := 0) hx hb dL_law_488 (by decide) ?_
                                  cases h
                                  exact K489 _ _ _ hP hQ hS (lv_sub hl [2, 3, 4, 1, 0, 5, 6] rfl)
                                · have h := gif_f c146 h
                                  refine lv_iload hx hb dL_law_479 (lv_at hl 1 rfl) ?_
                                  refine lv_if_le (tgt := 488) hx hb dL_law_481 (by decide) (fun c145 => ?_) (fun c145 => ?_)
                                  · have h := gif_t c145 h
                                    refine lv_iconst (v := 0) hx hb dL_law_488 (by decide) ?_
                                    cases h
                                    exact K489 _ _ _ hP hQ hS (lv_sub hl [2, 3, 4, 1, 0, 5, 6] rfl)
                                  · have h := gif_f c145 h
                                    refine lv_iconst (v := 1) hx hb dL_law_484 (by decide) ?_
                                    refine lv_goto (tgt := 489) hx hb dL_law_485 (by decide) ?_
                                    cases h
                                    exact K489 _ _ _ hP hQ hS (lv_sub hl [2, 3, 4, 1, 0, 5, 6] rfl)
                              have h := hv
                              refine lv_if_eq (tgt := 467) hx hb dL_law_446 (by decide) (fun c150 => ?_) (fun c150 => ?_)
                              · have h := gif_t c150 h
                                refine lv_iload hx hb dL_law_467 (lv_at hl 0 rfl) ?_
                                refine W.widen (k := (cn249 + 15)) (n := (sn249 + 90)) (by omega) (by omega) ?_
                                cases h
                                exact K469 _ _ _ hP hQ hS (lv_sub hl [1, 2, 3, 4, 5, 6, 9] rfl)
                              · have h := gif_f c150 h
                                refine lv_aload_n hx hb dL_law_449 rfl (lv_at hl 3 rfl) ?_
                                refine lv_bipush (v := 10) hx hb dL_law_450 (by decide) ?_
                                refine lv_iload hx hb dL_law_452 (lv_at hl 7 rfl) ?_
                                refine lv_bipush (v := 64) hx hb dL_law_454 (by decide) ?_
                                refine lv_idiv hx hb dL_law_456 (by decide) ?_
                                refine lv_bipush (v := 31) hx hb dL_law_457 (by decide) ?_
                                refine lv_irem hx hb dL_law_459 (by decide) ?_
                                refine lv_iadd hx hb dL_law_460 ?_
                                obtain ⟨q149, hcq149, h⟩ := hb_some h
                                refine pS_i (As := [.ref (b2 0), .int ((10 : Int32) + (((r123 / ((1 : Int32) + p37)) / (64 : Int32)) - ((r123 / ((1 : Int32) + p37)) / (64 : Int32)) / (31 : Int32) * (31 : Int32)))]) (rest := []) (BH := (fun (u : Nat → Nat → Int32) H => va_P (dC, dI) vwCl (hW 129 ca b2 u O2_31 J2_23) H)) X had2 hQ hS (fun A1 hA1 => c_L_number hlf (Nat.le_refl 129) hA1 I2_139 O2_31 J2_23 ((10 : Int32) + (((r123 / ((1 : Int32) + p37)) / (64 : Int32)) - ((r123 / ((1 : Int32) + p37)) / (64 : Int32)) / (31 : Int32) * (31 : Int32))) q149 hcq149) (va_cwS 2 X.ts gL_law_L_number rfl rfl rfl (by decide +kernel) ⟨Nat.le_of_ble_eq_true rfl, Nat.le_of_ble_eq_true rfl⟩) rfl hl.1 rfl (Nat.le_of_ble_eq_true rfl) dL_law_461 ⟨by omega, by omega⟩ (fun r148 I2_147 H1 locs hw hQ9 hz hk hS => ?_)
                                subst hw
                                have hP := pKeep hdj2 hP hk
                                have hQ := hQ9
                                clear hQ9 hk hz
                                refine lv_goto (tgt := 469) hx hb dL_law_464 (by decide) ?_
                                cases h
                                exact K469 _ _ _ hP hQ hS (lv_sub hl [1, 2, 3, 4, 5, 6, 9] rfl)
                            have h := hv
                            refine lv_if_eq (tgt := 440) hx hb dL_law_428 (by decide) (fun c154 => ?_) (fun c154 => ?_)
                            · have h := gif_t c154 h
                              refine lv_iload hx hb dL_law_440 (lv_at hl 0 rfl) ?_
                              refine W.widen (k := (cn249 + 12)) (n := (sn249 + 72)) (by omega) (by omega) ?_
                              cases h
                              exact K442 _ _ _ hP hQ hS (lv_sub hl [1, 2, 3, 4, 5, 6, 7, 8, 9] rfl)
                            · have h := gif_f c154 h
                              refine lv_aload_n hx hb dL_law_431 rfl (lv_at hl 3 rfl) ?_
                              refine lv_bipush (v := 61) hx hb dL_law_432 (by decide) ?_
                              obtain ⟨q153, hcq153, h⟩ := hb_some h
                              refine pW_i (As := [.ref (b2 0), .int (61 : Int32)]) (rest := []) (BH := (fun (u : Nat → Nat → Int32) H => va_P (dC, dI) vwCl (hW 129 ca b2 u O2_31 J2_23) H)) X had2 hQ hS (fun A1 hA1 => c_L_append hlf (Nat.le_refl 129) hA1 I2_135 O2_31 J2_23 (61 : Int32) q153 hcq153) (vx_cwSW 2 X.ts gL_law_L_append rfl rfl rfl (by decide +kernel) ⟨Nat.le_of_ble_eq_true rfl, Nat.le_of_ble_eq_true rfl⟩) rfl hl.1 rfl (Nat.le_of_ble_eq_true rfl) dL_law_434 ⟨by omega, by omega⟩ (fun r152 I2_151 H1 locs hw hQ9 hz hk hS => ?_)
                              subst hw
                              have hP := pKeep hdj2 hP hk
                              have hQ := hQ9
                              clear hQ9 hk hz
                              refine lv_goto (tgt := 442) hx hb dL_law_437 (by decide) ?_
                              cases h
                              exact K442 _ _ _ hP hQ hS (lv_sub hl [1, 2, 3, 4, 5, 6, 7, 8, 9] rfl)
                          have h := hv
                          refine lv_if_ne (tgt := 415) hx hb dL_law_405 (by decide) (fun c156 => ?_) (fun c156 => ?_)
                          · have h := gif_f c156 h
                            refine lv_iload hx hb dL_law_415 (lv_at hl 9 rfl) ?_
                            refine lv_goto (tgt := 421) hx hb dL_law_417 (by decide) ?_
                            cases h
                            exact K421 _ _ _ hP hQ hS (lv_sub hl [1, 2, 3, 4, 5, 6, 7, 8, 10] rfl)
                          · have h := gif_t c156 h
                            refine lv_iload hx hb dL_law_408 (lv_at hl 6 rfl) ?_
                            refine lv_bipush (v := 7) hx hb dL_law_410 (by decide) ?_
                            refine lv_icmp_ne (tgt := 420) hx hb dL_law_412 (by decide) (fun c155 => ?_) (fun c155 => ?_)
                            · have h := gif_f c155 h
                              refine lv_iconst (v := 1) hx hb dL_law_420 (by decide) ?_
                              cases h
                              exact K421 _ _ _ hP hQ hS (lv_sub hl [1, 2, 3, 4, 5, 6, 7, 8, 10] rfl)
                            · have h := gif_t c155 h
                              refine lv_iload hx hb dL_law_415 (lv_at hl 9 rfl) ?_
                              refine lv_goto (tgt := 421) hx hb dL_law_417 (by decide) ?_
                              cases h
                              exact K421 _ _ _ hP hQ hS (lv_sub hl [1, 2, 3, 4, 5, 6, 7, 8, 10] rfl)
                        have h := hv
                        refine lv_if_eq (tgt := 383) hx hb dL_law_375 (by decide) (fun c158 => ?_) (fun c158 => ?_)
                        · have h := gif_t c158 h
                          refine lv_iload hx hb dL_law_383 (lv_at hl 6 rfl) ?_
                          refine lv_bipush (v := 7) hx hb dL_law_385 (by decide) ?_
                          refine lv_icmp_ge (tgt := 395) hx hb dL_law_387 (by decide) (fun c157 => ?_) (fun c157 => ?_)
                          · have h := gif_t c157 h
                            refine lv_bipush (v := 110) hx hb dL_law_395 (by decide) ?_
                            cases h
                            exact K397 _ _ _ hP hQ hS (lv_sub hl [1, 2, 3, 4, 5, 6, 7, 8, 9, 10] rfl)
                          · have h := gif_f c157 h
                            refine lv_bipush (v := 116) hx hb dL_law_390 (by decide) ?_
                            refine lv_goto (tgt := 397) hx hb dL_law_392 (by decide) ?_
                            cases h
                            exact K397 _ _ _ hP hQ hS (lv_sub hl [1, 2, 3, 4, 5, 6, 7, 8, 9, 10] rfl)
                        · have h := gif_f c158 h
                          refine lv_bipush (v := 112) hx hb dL_law_378 (by decide) ?_
                          refine lv_goto (tgt := 397) hx hb dL_law_380 (by decide) ?_
                          cases h
                          exact K397 _ _ _ hP hQ hS (lv_sub hl [1, 2, 3, 4, 5, 6, 7, 8, 9, 10] rfl)
                      have h := hv
                      refine lv_if_le (tgt := 369) hx hb dL_law_357 (by decide) (fun c162 => ?_) (fun c162 => ?_)
                      · have h := gif_t c162 h
                        refine lv_iconst (v := 0) hx hb dL_law_369 (by decide) ?_
                        refine W.widen (k := (cn249 + 7)) (n := (sn249 + 42)) (by omega) (by omega) ?_
                        cases h
                        exact K370 _ _ _ hP hQ hS (lv_sub hl [1, 2, 3, 4, 5, 6, 7, 8, 9, 0] rfl)
                      · have h := gif_f c162 h
                        refine lv_aload_n hx hb dL_law_360 rfl (lv_at hl 3 rfl) ?_
                        refine lv_bipush (v := 59) hx hb dL_law_361 (by decide) ?_
                        obtain ⟨q161, hcq161, h⟩ := hb_some h
                        refine pW_i (As := [.ref (b2 0), .int (59 : Int32)]) (rest := []) (BH := (fun (u : Nat → Nat → Int32) H => va_P (dC, dI) vwCl (hW 129 ca b2 u O2_31 J2_23) H)) X had2 hQ hS (fun A1 hA1 => c_L_append hlf (Nat.le_refl 129) hA1 I2_40 O2_31 J2_23 (59 : Int32) q161 hcq161) (vx_cwSW 2 X.ts gL_law_L_append rfl rfl rfl (by decide +kernel) ⟨Nat.le_of_ble_eq_true rfl, Nat.le_of_ble_eq_true rfl⟩) rfl hl.1 rfl (Nat.le_of_ble_eq_true rfl) dL_law_363 ⟨by omega, by omega⟩ (fun r160 I2_159 H1 locs hw hQ9 hz hk hS => ?_)
                        subst hw
                        have hP := pKeep hdj2 hP hk
                        have hQ := hQ9
                        clear hQ9 hk hz
                        refine lv_goto (tgt := 370) hx hb dL_law_366 (by decide) ?_
                        cases h
                        exact K370 _ _ _ hP hQ hS (lv_sub hl [1, 2, 3, 4, 5, 6, 7, 8, 9, 0] rfl)
                    have h := hv
                    refine lv_if_eq (tgt := 332) hx hb dL_law_309 (by decide) (fun c176 => ?_) (fun c176 => ?_)
                    · have h := gif_t c176 h
                      refine lv_iload hx hb dL_law_332 (lv_at hl 7 rfl) ?_
                      refine lv_bipush (v := 7) hx hb dL_law_334 (by decide) ?_
                      refine lv_icmp_ge (tgt := 347) hx hb dL_law_336 (by decide) (fun c171 => ?_) (fun c171 => ?_)
                      · have h := gif_t c171 h
                        refine lv_aload_n hx hb dL_law_347 rfl (lv_at hl 3 rfl) ?_
                        refine lv_iload hx hb dL_law_348 (lv_at hl 0 rfl) ?_
                        obtain ⟨q166, hcq166, h⟩ := hb_some h
                        refine pW_i (As := [.ref (b1 0), .int (((r123 / ((1 : Int32) + p37)) / (3 : Int32)) - ((r123 / ((1 : Int32) + p37)) / (3 : Int32)) / r32 * r32)]) (rest := []) (BH := (fun (u : (Nat → Nat → Int32) × (Nat → Nat → Option Nat)) H => va_P (dC, dI) vwCl (hW 129 ca b1 u.1 u.2 J1_20) H)) X had1 hP hS (fun A1 hA1 => c_L_callIn hlf (Nat.le_refl 129) hA1 I1_38 O1_39 J1_20 (((r123 / ((1 : Int32) + p37)) / (3 : Int32)) - ((r123 / ((1 : Int32) + p37)) / (3 : Int32)) / r32 * r32) q166 hcq166) (vx_cwSW 2 X.ts gL_law_L_callIn rfl rfl rfl (by decide +kernel) ⟨Nat.le_of_ble_eq_true rfl, Nat.le_of_ble_eq_true rfl⟩) rfl hl.1 rfl (Nat.le_of_ble_eq_true rfl) dL_law_350 ⟨by omega, by omega⟩ (fun r165 u9 H1 locs hw hP9 hz hk hS => ?_)
                        obtain ⟨I1_163, O1_164⟩ := u9
                        subst hw
                        have hQ := pKeep hdj1 hQ hk
                        have hP := hP9
                        clear hP9 hk hz
                        refine W.widen (k := (cn249 + 6)) (n := (sn249 + 36)) (by omega) (by omega) ?_
                        cases h
                        exact K353 _ _ _ hP hQ hS (lv_sub hl [2, 3, 4, 5, 6, 7, 8, 1, 0] rfl)
                      · have h := gif_f c171 h
                        refine lv_aload_n hx hb dL_law_339 rfl (lv_at hl 3 rfl) ?_
                        refine lv_iconst (v := 1) hx hb dL_law_340 (by decide) ?_
                        obtain ⟨q170, hcq170, h⟩ := hb_some h
                        refine pW_i (As := [.ref (b1 0), .int (1 : Int32)]) (rest := []) (BH := (fun (u : (Nat → Nat → Int32) × (Nat → Nat → Option Nat)) H => va_P (dC, dI) vwCl (hW 129 ca b1 u.1 u.2 J1_20) H)) X had1 hP hS (fun A1 hA1 => c_L_pass hlf (Nat.le_refl 129) hA1 I1_38 O1_39 J1_20 (1 : Int32) q170 hcq170) (vx_cwSW 2 X.ts gL_law_L_pass rfl rfl rfl (by decide +kernel) ⟨Nat.le_of_ble_eq_true rfl, Nat.le_of_ble_eq_true rfl⟩) rfl hl.1 rfl (Nat.le_of_ble_eq_true rfl) dL_law_341 ⟨by omega, by omega⟩ (fun r169 u9 H1 locs hw hP9 hz hk hS => ?_)
                        obtain ⟨I1_167, O1_168⟩ := u9
                        subst hw
                        have hQ := pKeep hdj1 hQ hk
                        have hP := hP9
                        clear hP9 hk hz
                        refine lv_goto (tgt := 353) hx hb dL_law_344 (by decide) ?_
                        refine W.widen (k := (cn249 + 6)) (n := (sn249 + 36)) (by omega) (by omega) ?_
                        cases h
                        exact K353 _ _ _ hP hQ hS (lv_sub hl [2, 3, 4, 5, 6, 7, 8, 1, 0] rfl)
                    · have h := gif_f c176 h
                      refine lv_aload_n hx hb dL_law_312 rfl (lv_at hl 3 rfl) ?_
                      refine lv_iload hx hb dL_law_313 (lv_at hl 0 rfl) ?_
                      refine lv_bipush (v := 10) hx hb dL_law_315 (by decide) ?_
                      refine lv_iload hx hb dL_law_317 (lv_at hl 8 rfl) ?_
                      refine lv_bipush (v := 64) hx hb dL_law_319 (by decide) ?_
                      refine lv_idiv hx hb dL_law_321 (by decide) ?_
                      refine lv_bipush (v := 31) hx hb dL_law_322 (by decide) ?_
                      refine lv_irem hx hb dL_law_324 (by decide) ?_
                      refine lv_iadd hx hb dL_law_325 ?_
                      obtain ⟨q175, hcq175, h⟩ := hb_some h
                      refine pW_i (As := [.ref (b1 0), .int (((r123 / ((1 : Int32) + p37)) / (3 : Int32)) - ((r123 / ((1 : Int32) + p37)) / (3 : Int32)) / r32 * r32), .int ((10 : Int32) + (((r123 / ((1 : Int32) + p37)) / (64 : Int32)) - ((r123 / ((1 : Int32) + p37)) / (64 : Int32)) / (31 : Int32) * (31 : Int32)))]) (rest := []) (BH := (fun (u : (Nat → Nat → Int32) × (Nat → Nat → Option Nat)) H => va_P (dC, dI) vwCl (hW 129 ca b1 u.1 u.2 J1_20) H)) X had1 hP hS (fun A1 hA1 => c_L_setPace hlf (Nat.le_refl 129) hA1 I1_38 O1_39 J1_20 (((r123 / ((1 : Int32) + p37)) / (3 : Int32)) - ((r123 / ((1 : Int32) + p37)) / (3 : Int32)) / r32 * r32) ((10 : Int32) + (((r123 / ((1 : Int32) + p37)) / (64 : Int32)) - ((r123 / ((1 : Int32) + p37)) / (64 : Int32)) / (31 : Int32) * (31 : Int32))) q175 hcq175) (vx_cwSW 3 X.ts gL_law_L_setPace rfl rfl rfl (by decide +kernel) ⟨Nat.le_of_ble_eq_true rfl, Nat.le_of_ble_eq_true rfl⟩) rfl hl.1 rfl (Nat.le_of_ble_eq_true rfl) dL_law_326 ⟨by omega, by omega⟩ (fun r174 u9 H1 locs hw hP9 hz hk hS => ?_)
                      obtain ⟨I1_172, O1_173⟩ := u9
                      subst hw
                      have hQ := pKeep hdj1 hQ hk
                      have hP := hP9
                      clear hP9 hk hz
                      refine lv_goto (tgt := 353) hx hb dL_law_329 (by decide) ?_
                      refine W.widen (k := (cn249 + 6)) (n := (sn249 + 36)) (by omega) (by omega) ?_
                      cases h
                      exact K353 _ _ _ hP hQ hS (lv_sub hl [2, 3, 4, 5, 6, 7, 8, 1, 0] rfl)
                  have h := hv
                  refine lv_if_le (tgt := 295) hx hb dL_law_288 (by decide) (fun c177 => ?_) (fun c177 => ?_)
                  · have h := gif_t c177 h
                    refine lv_iconst (v := 0) hx hb dL_law_295 (by decide) ?_
                    cases h
                    exact K296 _ _ _ hP hQ hS (lv_sub hl [1, 2, 3, 6, 7, 8, 0] rfl)
                  · have h := gif_f c177 h
                    refine lv_iconst (v := 1) hx hb dL_law_291 (by decide) ?_
                    refine lv_goto (tgt := 296) hx hb dL_law_292 (by decide) ?_
                    cases h
                    exact K296 _ _ _ hP hQ hS (lv_sub hl [1, 2, 3, 6, 7, 8, 0] rfl)
        exact hL249 16 _ _ _ _ _ _ _ 126593 760970 _ _ _ (Nat.le_of_ble_eq_true rfl) (Nat.le_of_ble_eq_true rfl) hv hP hQ hS (lv_sub hl [3, 4, 5, 2, 6, 7, 1, 0] rfl)
      have h := hv
      refine lv_if_eq (tgt := 238) hx hb dL_law_220 (by decide) (fun c190 => ?_) (fun c190 => ?_)
      · have h := gif_t c190 h
        refine lv_iconst (v := 0) hx hb dL_law_238 (by decide) ?_
        refine W.widen (k := 126593) (n := 760970) (Nat.le_of_ble_eq_true rfl) (Nat.le_of_ble_eq_true rfl) ?_
        cases h
        exact K239 _ _ _ hP hQ hS (lv_sub hl [2, 3, 4, 1, 0] rfl)
      · have h := gif_f c190 h
        refine lv_aload_n hx hb dL_law_223 rfl (lv_at hl 3 rfl) ?_
        obtain ⟨q184, hcq184, h⟩ := hb_some h
        refine pW_i (As := [.ref (b1 0)]) (rest := []) (BH := (fun (u : (Nat → Nat → Int32) × (Nat → Nat → Option Nat)) H => va_P (dC, dI) vwCl (hW 129 ca b1 u.1 u.2 J1_20) H)) X had1 hP hS (fun A1 hA1 => c_L_begin hlf (Nat.le_refl 129) hA1 I1_18 O1_19 J1_20 q184 hcq184) (vx_cwSW 1 X.ts gL_law_L_begin rfl rfl rfl (by decide +kernel) ⟨Nat.le_of_ble_eq_true rfl, Nat.le_of_ble_eq_true rfl⟩) rfl hl.1 rfl (Nat.le_of_ble_eq_true rfl) dL_law_224 ⟨Nat.le_of_ble_eq_true rfl, Nat.le_of_ble_eq_true rfl⟩ (fun r183 u9 H1 locs hw hP9 hz hk hS => ?_)
        obtain ⟨I1_181, O1_182⟩ := u9
        subst hw
        have hQ := pKeep hdj1 hQ hk
        have hP := hP9
        clear hP9 hk hz
        refine lv_aload_n hx hb dL_law_227 rfl (lv_at hl 4 rfl) ?_
        obtain ⟨q188, hcq188, h⟩ := hb_some h
        refine pW_i (As := [.ref (b2 0)]) (rest := [.int r183]) (BH := (fun (u : (Nat → Nat → Int32) × (Nat → Nat → Option Nat)) H => va_P (dC, dI) vwCl (hW 129 ca b2 u.1 u.2 J2_23) H)) X had2 hQ hS (fun A1 hA1 => c_L_begin hlf (Nat.le_refl 129) hA1 I2_24 O2_22 J2_23 q188 hcq188) (vx_cwSW 1 X.ts gL_law_L_begin rfl rfl rfl (by decide +kernel) ⟨Nat.le_of_ble_eq_true rfl, Nat.le_of_ble_eq_true rfl⟩) rfl hl.1 rfl (Nat.le_of_ble_eq_true rfl) dL_law_228 ⟨Nat.le_of_ble_eq_true rfl, Nat.le_of_ble_eq_true rfl⟩ (fun r187 u9 H1 locs hw hQ9 hz hk hS => ?_)
        obtain ⟨I2_185, O2_186⟩ := u9
        subst hw
        have hP := pKeep hdj2 hP hk
        have hQ := hQ9
        clear hQ9 hk hz
        refine lv_icmp_ne (tgt := 238) hx hb dL_law_231 (by decide) (fun c189 => ?_) (fun c189 => ?_)
        · have h := gif_f c189 h
          refine lv_iconst (v := 0) hx hb dL_law_238 (by decide) ?_
          cases h
          exact K239 _ _ _ hP hQ hS (lv_sub hl [2, 3, 4, 1, 0] rfl)
        · have h := gif_t c189 h
          refine lv_iconst (v := 1) hx hb dL_law_234 (by decide) ?_
          refine lv_goto (tgt := 239) hx hb dL_law_235 (by decide) ?_
          cases h
          exact K239 _ _ _ hP hQ hS (lv_sub hl [2, 3, 4, 1, 0] rfl)
    have hL102 : ∀ (fuel : Nat) (p9 : Int32) (p10 : Int32) (I1_11 : Nat → Nat → Int32) (O1_12 : Nat → Nat → Option Nat) (J1_13 : Nat → Nat → Int64) (I2_14 : Nat → Nat → Int32) (O2_15 : Nat → Nat → Option Nat) (J2_16 : Nat → Nat → Int64) (cn102 sn102 : Nat) (H : Heap) (locs : List Loc) (ls : Array Slot), cn102 + 1958 * fuel ≤ 126591 → sn102 + 11738 * fuel ≤ 760958 → f_L_law_L102 SL sx fuel p9 p10 I1_11 O1_12 J1_13 I2_14 O2_15 J2_16 = some (p17, I1_18, O1_19, J1_20, I2_21, O2_22, J2_23) → va_P (dC, dI) vwCl (hW 129 ca b1 I1_11 O1_12 J1_13) H → va_P (dC, dI) vwCl (hW 129 ca b2 I2_14 O2_15 J2_16) H → va_S A s.heap H locs → lv_has ls 12 [(0, .ref sb), (1, .ref (b1 0)), (2, .ref (b2 0)), (3, .int p9), (4, .int p10)] → W p l e room_1 s m #[Value.ref sb] below meth c H locs cn102 sn102 Q (F0 m 102 ls []) := by
      intro fuel
      induction fuel with
      | zero =>
        intro p9 p10 I1_11 O1_12 J1_13 I2_14 O2_15 J2_16 cn102 sn102 H locs ls hcn102 hsn102 h hP hQ hS hl
        rw [f_L_law_L102] at h
        cases h
      | succ fuel ih =>
        intro p9 p10 I1_11 O1_12 J1_13 I2_14 O2_15 J2_16 cn102 sn102 H locs ls hcn102 hsn102 h hP hQ hS hl
        rw [f_L_law_L102] at h
        refine lv_iload hx hb dL_law_102 (lv_at hl 4 rfl) ?_
        refine lv_bipush (v := 56) hx hb dL_law_104 (by decide) ?_
        refine lv_icmp_ge (tgt := 210) hx hb dL_law_106 (by decide) (fun c268 => ?_) (fun c268 => ?_)
        · have h := gif_t c268 h
          refine W.widen (k := 126591) (n := 760958) (by omega) (by omega) ?_
          cases h
          exact K210 _ _ _ hP hQ hS (lv_sub hl [0, 1, 2, 3] rfl)
        · have h := gif_f c268 h
          refine lv_iload_n hx hb dL_law_109 rfl (lv_at hl 3 rfl) ?_
          refine lv_if_eq (tgt := 210) hx hb dL_law_110 (by decide) (fun c267 => ?_) (fun c267 => ?_)
          · have h := gif_t c267 h
            refine W.widen (k := 126591) (n := 760958) (by omega) (by omega) ?_
            cases h
            exact K210 _ _ _ hP hQ hS (lv_sub hl [0, 1, 2, 3] rfl)
          · have h := gif_f c267 h
            refine lv_aload_n hx hb dL_law_113 rfl (lv_at hl 0 rfl) ?_
            refine lv_iload hx hb dL_law_114 (lv_at hl 4 rfl) ?_
            obtain ⟨q191, hcq191, h⟩ := hb_some h
            refine cell_call (rest := []) X hX hbl hbA hS (c_L_cell p10 q191 hcq191) (va_cwS 2 X.ts gL_law_L_cell rfl rfl rfl (by decide +kernel) ⟨Nat.le_of_ble_eq_true rfl, Nat.le_of_ble_eq_true rfl⟩) hl.1 rfl (Nat.le_of_ble_eq_true rfl) dL_law_116 ⟨by omega, by omega⟩ (fun r192 H1 locs hw hz hk hS => ?_)
            have hw := hw.symm
            subst hw
            have hP := pKeepA hP hk
            have hQ := pKeepA hQ hk
            clear hk hz
            refine lv_istore (lv' := [(5, .int r192), (0, .ref sb), (1, .ref (b1 0)), (2, .ref (b2 0)), (3, .int p9), (4, .int p10)]) hx hb dL_law_119 hl (by decide) rfl (fun ls hl => ?_)
            refine lv_aload_n hx hb dL_law_121 rfl (lv_at hl 2 rfl) ?_
            refine lv_iload hx hb dL_law_122 (lv_at hl 0 rfl) ?_
            obtain ⟨q196, hcq196, h⟩ := hb_some h
            refine pS_i (As := [.ref (b1 0), .int r192]) (rest := []) (BH := (fun (u : (Nat → Nat → Int32) × (Nat → Nat → Option Nat)) H => va_P (dC, dI) vwCl (hW 129 ca b1 u.1 u.2 J1_13) H)) X had1 hP hS (fun A1 hA1 => c_L_acts hlf (Nat.le_refl 129) hA1 I1_11 O1_12 J1_13 r192 q196 hcq196) (va_cwS 2 X.ts gL_law_L_acts rfl rfl rfl (by decide +kernel) ⟨Nat.le_of_ble_eq_true rfl, Nat.le_of_ble_eq_true rfl⟩) rfl hl.1 rfl (Nat.le_of_ble_eq_true rfl) dL_law_124 ⟨by omega, by omega⟩ (fun r195 u9 H1 locs hw hP9 hz hk hS => ?_)
            obtain ⟨I1_193, O1_194⟩ := u9
            subst hw
            have hQ := pKeep hdj1 hQ hk
            have hP := hP9
            clear hP9 hk hz
            refine lv_istore (lv' := [(6, .int r195), (5, .int r192), (0, .ref sb), (1, .ref (b1 0)), (2, .ref (b2 0)), (3, .int p9), (4, .int p10)]) hx hb dL_law_127 hl (by decide) rfl (fun ls hl => ?_)
            refine lv_iload hx hb dL_law_129 (lv_at hl 6 rfl) ?_
            refine lv_iconst (v := 3) hx hb dL_law_131 (by decide) ?_
            refine lv_irem hx hb dL_law_132 (by decide) ?_
            obtain ⟨⟨p197, I1_198, O1_199, J1_200, I2_201, O2_202, J2_203⟩, hv, h⟩ := hb_some h
            have K203 : ∀ (H : Heap) (locs : List Loc) (ls : Array Slot), va_P (dC, dI) vwCl (hW 129 ca b1 I1_198 O1_199 J1_200) H → va_P (dC, dI) vwCl (hW 129 ca b2 I2_201 O2_202 J2_203) H → va_S A s.heap H locs → lv_has ls 12 [(0, .ref sb), (1, .ref (b1 0)), (2, .ref (b2 0)), (4, .int p10)] → W p l e room_1 s m #[Value.ref sb] below meth c H locs (cn102 + 1958) (sn102 + 11738) Q (F0 m 203 ls [.int p197]) := by
              intro H locs ls hP hQ hS hl
              refine lv_istore_n (lv' := [(3, .int p197), (0, .ref sb), (1, .ref (b1 0)), (2, .ref (b2 0)), (4, .int p10)]) hx hb dL_law_203 rfl hl (by decide) rfl (fun ls hl => ?_)
              obtain ⟨x204, ex204, h⟩ := hlet_ex h
              refine lv_iinc (v := x204) (lv' := [(4, .int x204), (3, .int p197), (0, .ref sb), (1, .ref (b1 0)), (2, .ref (b2 0))]) hx hb dL_law_204 hl (k := 4) rfl (by rw [ex204]; rfl) (by decide) rfl (fun ls hl => ?_)
              refine lv_goto (tgt := 102) hx hb dL_law_207 (by decide) ?_
              exact ih _ _ _ _ _ _ _ _ (cn102 + 1958) (sn102 + 11738) _ _ _ (by omega) (by omega) h hP hQ hS (lv_sub hl [2, 3, 4, 1, 0] rfl)
            have h := hv
            refine lv_if_gt (tgt := 149) hx hb dL_law_133 (by decide) (fun c266 => ?_) (fun c266 => ?_)
            · have h := gif_t c266 h
              refine lv_aload_n hx hb dL_law_149 rfl (lv_at hl 4 rfl) ?_
              refine lv_iload hx hb dL_law_150 (lv_at hl 1 rfl) ?_
              obtain ⟨q208, hcq208, h⟩ := hb_some h
              refine pS_i (As := [.ref (b2 0), .int r192]) (rest := []) (BH := (fun (u : (Nat → Nat → Int32) × (Nat → Nat → Option Nat)) H => va_P (dC, dI) vwCl (hW 129 ca b2 u.1 u.2 J2_16) H)) X had2 hQ hS (fun A1 hA1 => c_L_acts hlf (Nat.le_refl 129) hA1 I2_14 O2_15 J2_16 r192 q208 hcq208) (va_cwS 2 X.ts gL_law_L_acts rfl rfl rfl (by decide +kernel) ⟨Nat.le_of_ble_eq_true rfl, Nat.le_of_ble_eq_true rfl⟩) rfl hl.1 rfl (Nat.le_of_ble_eq_true rfl) dL_law_152 ⟨by omega, by omega⟩ (fun r207 u9 H1 locs hw hQ9 hz hk hS => ?_)
              obtain ⟨I2_205, O2_206⟩ := u9
              subst hw
              have hP := pKeep hdj2 hP hk
              have hQ := hQ9
              clear hQ9 hk hz
              refine lv_iload hx hb dL_law_155 (lv_at hl 0 rfl) ?_
              refine lv_icmp_ne (tgt := 202) hx hb dL_law_157 (by decide) (fun c232 => ?_) (fun c232 => ?_)
              · have h := gif_f c232 h
                refine lv_iconst (v := 0) hx hb dL_law_202 (by decide) ?_
                refine W.widen (k := (cn102 + 1958)) (n := (sn102 + 11738)) (by omega) (by omega) ?_
                cases h
                exact K203 _ _ _ hP hQ hS (lv_sub hl [2, 3, 4, 6] rfl)
              · have h := gif_t c232 h
                refine lv_aload_n hx hb dL_law_160 rfl (lv_at hl 3 rfl) ?_
                obtain ⟨q213, hcq213, h⟩ := hb_some h
                refine pV_l (As := []) (rest := []) (BH := (fun (u : (Nat → Nat → Int32) × (Nat → Nat → Option Nat) × (Nat → Nat → Int64)) H => va_P (dC, dI) vwCl (hW 129 ca b1 u.1 u.2.1 u.2.2) H)) X had1 hP hS (fun A1 hA1 => c_X7_digest (Nat.le_refl 129) hA1 I1_193 O1_194 J1_13 q213 hcq213) (cwV 0 X.ts gL_law_X7_digest rfl rfl rfl (by decide +kernel) ⟨Nat.le_of_ble_eq_true rfl, Nat.le_of_ble_eq_true rfl⟩) (pRecv X hP) rfl hl.1 rfl (Nat.le_of_ble_eq_true rfl) dL_law_161 ⟨by omega, by omega⟩ (fun r212 u9 H1 locs hw hP9 hz hk hS => ?_)
                obtain ⟨I1_209, O1_210, J1_211⟩ := u9
                subst hw
                have hQ := pKeep hdj1 hQ hk
                have hP := hP9
                clear hP9 hk hz
                refine lv_aload_n hx hb dL_law_164 rfl (lv_at hl 4 rfl) ?_
                obtain ⟨q218, hcq218, h⟩ := hb_some h
                refine pV_l (As := []) (rest := [.long r212]) (BH := (fun (u : (Nat → Nat → Int32) × (Nat → Nat → Option Nat) × (Nat → Nat → Int64)) H => va_P (dC, dI) vwCl (hW 129 ca b2 u.1 u.2.1 u.2.2) H)) X had2 hQ hS (fun A1 hA1 => c_X7_digest (Nat.le_refl 129) hA1 I2_205 O2_206 J2_16 q218 hcq218) (cwV 0 X.ts gL_law_X7_digest rfl rfl rfl (by decide +kernel) ⟨Nat.le_of_ble_eq_true rfl, Nat.le_of_ble_eq_true rfl⟩) (pRecv X hQ) rfl hl.1 rfl (Nat.le_of_ble_eq_true rfl) dL_law_165 ⟨by omega, by omega⟩ (fun r217 u9 H1 locs hw hQ9 hz hk hS => ?_)
                obtain ⟨I2_214, O2_215, J2_216⟩ := u9
                subst hw
                have hP := pKeep hdj2 hP hk
                have hQ := hQ9
                clear hQ9 hk hz
                refine W.lcmp hx hb dL_law_168 ?_
                refine lv_if_ne (tgt := 202) hx hb dL_law_169 (by decide) (fun c231 => ?_) (fun c231 => ?_)
                · have h := gif_f c231 h
                  refine lv_iconst (v := 0) hx hb dL_law_202 (by decide) ?_
                  refine W.widen (k := (cn102 + 1958)) (n := (sn102 + 11738)) (by omega) (by omega) ?_
                  cases h
                  exact K203 _ _ _ hP hQ hS (lv_sub hl [2, 3, 4, 6] rfl)
                · have h := gif_t c231 h
                  refine lv_iload hx hb dL_law_172 (lv_at hl 6 rfl) ?_
                  refine lv_iconst (v := 4) hx hb dL_law_174 (by decide) ?_
                  refine lv_irem hx hb dL_law_175 (by decide) ?_
                  refine lv_if_gt (tgt := 198) hx hb dL_law_176 (by decide) (fun c230 => ?_) (fun c230 => ?_)
                  · have h := gif_t c230 h
                    refine lv_iconst (v := 1) hx hb dL_law_198 (by decide) ?_
                    refine lv_goto (tgt := 203) hx hb dL_law_199 (by decide) ?_
                    refine W.widen (k := (cn102 + 1958)) (n := (sn102 + 11738)) (by omega) (by omega) ?_
                    cases h
                    exact K203 _ _ _ hP hQ hS (lv_sub hl [2, 3, 4, 6] rfl)
                  · have h := gif_f c230 h
                    refine lv_iload hx hb dL_law_179 (lv_at hl 6 rfl) ?_
                    refine lv_bipush (v := 8) hx hb dL_law_181 (by decide) ?_
                    refine lv_irem hx hb dL_law_183 (by decide) ?_
                    refine lv_if_ne (tgt := 191) hx hb dL_law_184 (by decide) (fun c229 => ?_) (fun c229 => ?_)
                    · have h := gif_f c229 h
                      refine lv_aload_n hx hb dL_law_191 rfl (lv_at hl 4 rfl) ?_
                      obtain ⟨q222, hcq222, h⟩ := hb_some h
                      refine pS_i (As := [.ref (b2 0)]) (rest := []) (BH := (fun (u : (Nat → Nat → Int32) × (Nat → Nat → Option Nat)) H => va_P (dC, dI) vwCl (hW 129 ca b2 u.1 u.2 J2_216) H)) X had2 hQ hS (fun A1 hA1 => c_L_hangs hlf (Nat.le_refl 129) hA1 I2_214 O2_215 J2_216 q222 hcq222) (va_cwS 1 X.ts gL_law_L_hangs rfl rfl rfl (by decide +kernel) ⟨Nat.le_of_ble_eq_true rfl, Nat.le_of_ble_eq_true rfl⟩) rfl hl.1 rfl (Nat.le_of_ble_eq_true rfl) dL_law_192 ⟨by omega, by omega⟩ (fun r221 u9 H1 locs hw hQ9 hz hk hS => ?_)
                      obtain ⟨I2_219, O2_220⟩ := u9
                      subst hw
                      have hP := pKeep hdj2 hP hk
                      have hQ := hQ9
                      clear hQ9 hk hz
                      refine lv_if_eq (tgt := 202) hx hb dL_law_195 (by decide) (fun c223 => ?_) (fun c223 => ?_)
                      · have h := gif_t c223 h
                        refine lv_iconst (v := 0) hx hb dL_law_202 (by decide) ?_
                        refine W.widen (k := (cn102 + 1958)) (n := (sn102 + 11738)) (by omega) (by omega) ?_
                        cases h
                        exact K203 _ _ _ hP hQ hS (lv_sub hl [2, 3, 4, 6] rfl)
                      · have h := gif_f c223 h
                        refine lv_iconst (v := 1) hx hb dL_law_198 (by decide) ?_
                        refine lv_goto (tgt := 203) hx hb dL_law_199 (by decide) ?_
                        refine W.widen (k := (cn102 + 1958)) (n := (sn102 + 11738)) (by omega) (by omega) ?_
                        cases h
                        exact K203 _ _ _ hP hQ hS (lv_sub hl [2, 3, 4, 6] rfl)
                    · have h := gif_t c229 h
                      refine lv_aload_n hx hb dL_law_187 rfl (lv_at hl 3 rfl) ?_
                      refine lv_goto (tgt := 192) hx hb dL_law_188 (by decide) ?_
                      obtain ⟨q227, hcq227, h⟩ := hb_some h
                      refine pS_i (As := [.ref (b1 0)]) (rest := []) (BH := (fun (u : (Nat → Nat → Int32) × (Nat → Nat → Option Nat)) H => va_P (dC, dI) vwCl (hW 129 ca b1 u.1 u.2 J1_211) H)) X had1 hP hS (fun A1 hA1 => c_L_hangs hlf (Nat.le_refl 129) hA1 I1_209 O1_210 J1_211 q227 hcq227) (va_cwS 1 X.ts gL_law_L_hangs rfl rfl rfl (by decide +kernel) ⟨Nat.le_of_ble_eq_true rfl, Nat.le_of_ble_eq_true rfl⟩) rfl hl.1 rfl (Nat.le_of_ble_eq_true rfl) dL_law_192 ⟨by omega, by omega⟩ (fun r226 u9 H1 locs hw hP9 hz hk hS => ?_)
                      obtain ⟨I1_224, O1_225⟩ := u9
                      subst hw
                      have hQ := pKeep hdj1 hQ hk
                      have hP := hP9
                      clear hP9 hk hz
                      refine lv_if_eq (tgt := 202) hx hb dL_law_195 (by decide) (fun c228 => ?_) (fun c228 => ?_)
                      · have h := gif_t c228 h
                        refine lv_iconst (v := 0) hx hb dL_law_202 (by decide) ?_
                        refine W.widen (k := (cn102 + 1958)) (n := (sn102 + 11738)) (by omega) (by omega) ?_
                        cases h
                        exact K203 _ _ _ hP hQ hS (lv_sub hl [2, 3, 4, 6] rfl)
                      · have h := gif_f c228 h
                        refine lv_iconst (v := 1) hx hb dL_law_198 (by decide) ?_
                        refine lv_goto (tgt := 203) hx hb dL_law_199 (by decide) ?_
                        refine W.widen (k := (cn102 + 1958)) (n := (sn102 + 11738)) (by omega) (by omega) ?_
                        cases h
                        exact K203 _ _ _ hP hQ hS (lv_sub hl [2, 3, 4, 6] rfl)
            · have h := gif_f c266 h
              refine lv_aload_n hx hb dL_law_136 rfl (lv_at hl 4 rfl) ?_
              refine lv_iload hx hb dL_law_137 (lv_at hl 1 rfl) ?_
              refine lv_ldcw (v := 100000) hx hb X.ow (X.ts _ (by decide +kernel)) dL_law_139 ?_
              refine lv_irem hx hb dL_law_142 (by decide) ?_
              obtain ⟨q236, hcq236, h⟩ := hb_some h
              refine pS_i (As := [.ref (b2 0), .int (r192 - r192 / (100000 : Int32) * (100000 : Int32))]) (rest := []) (BH := (fun (u : (Nat → Nat → Int32) × (Nat → Nat → Option Nat)) H => va_P (dC, dI) vwCl (hW 129 ca b2 u.1 u.2 J2_16) H)) X had2 hQ hS (fun A1 hA1 => c_L_refuses hlf (Nat.le_refl 129) hA1 I2_14 O2_15 J2_16 (r192 - r192 / (100000 : Int32) * (100000 : Int32)) q236 hcq236) (va_cwS 2 X.ts gL_law_L_refuses rfl rfl rfl (by decide +kernel) ⟨Nat.le_of_ble_eq_true rfl, Nat.le_of_ble_eq_true rfl⟩) rfl hl.1 rfl (Nat.le_of_ble_eq_true rfl) dL_law_143 ⟨by omega, by omega⟩ (fun r235 u9 H1 locs hw hQ9 hz hk hS => ?_)
              obtain ⟨I2_233, O2_234⟩ := u9
              subst hw
              have hP := pKeep hdj2 hP hk
              have hQ := hQ9
              clear hQ9 hk hz
              refine lv_if_eq (tgt := 202) hx hb dL_law_146 (by decide) (fun c265 => ?_) (fun c265 => ?_)
              · have h := gif_t c265 h
                refine lv_iconst (v := 0) hx hb dL_law_202 (by decide) ?_
                refine W.widen (k := (cn102 + 1958)) (n := (sn102 + 11738)) (by omega) (by omega) ?_
                cases h
                exact K203 _ _ _ hP hQ hS (lv_sub hl [2, 3, 4, 6] rfl)
              · have h := gif_f c265 h
                refine lv_aload_n hx hb dL_law_149 rfl (lv_at hl 4 rfl) ?_
                refine lv_iload hx hb dL_law_150 (lv_at hl 1 rfl) ?_
                obtain ⟨q240, hcq240, h⟩ := hb_some h
                refine pS_i (As := [.ref (b2 0), .int r192]) (rest := []) (BH := (fun (u : (Nat → Nat → Int32) × (Nat → Nat → Option Nat)) H => va_P (dC, dI) vwCl (hW 129 ca b2 u.1 u.2 J2_16) H)) X had2 hQ hS (fun A1 hA1 => c_L_acts hlf (Nat.le_refl 129) hA1 I2_233 O2_234 J2_16 r192 q240 hcq240) (va_cwS 2 X.ts gL_law_L_acts rfl rfl rfl (by decide +kernel) ⟨Nat.le_of_ble_eq_true rfl, Nat.le_of_ble_eq_true rfl⟩) rfl hl.1 rfl (Nat.le_of_ble_eq_true rfl) dL_law_152 ⟨by omega, by omega⟩ (fun r239 u9 H1 locs hw hQ9 hz hk hS => ?_)
                obtain ⟨I2_237, O2_238⟩ := u9
                subst hw
                have hP := pKeep hdj2 hP hk
                have hQ := hQ9
                clear hQ9 hk hz
                refine lv_iload hx hb dL_law_155 (lv_at hl 0 rfl) ?_
                refine lv_icmp_ne (tgt := 202) hx hb dL_law_157 (by decide) (fun c264 => ?_) (fun c264 => ?_)
                · have h := gif_f c264 h
                  refine lv_iconst (v := 0) hx hb dL_law_202 (by decide) ?_
                  refine W.widen (k := (cn102 + 1958)) (n := (sn102 + 11738)) (by omega) (by omega) ?_
                  cases h
                  exact K203 _ _ _ hP hQ hS (lv_sub hl [2, 3, 4, 6] rfl)
                · have h := gif_t c264 h
                  refine lv_aload_n hx hb dL_law_160 rfl (lv_at hl 3 rfl) ?_
                  obtain ⟨q245, hcq245, h⟩ := hb_some h
                  refine pV_l (As := []) (rest := []) (BH := (fun (u : (Nat → Nat → Int32) × (Nat → Nat → Option Nat) × (Nat → Nat → Int64)) H => va_P (dC, dI) vwCl (hW 129 ca b1 u.1 u.2.1 u.2.2) H)) X had1 hP hS (fun A1 hA1 => c_X7_digest (Nat.le_refl 129) hA1 I1_193 O1_194 J1_13 q245 hcq245) (cwV 0 X.ts gL_law_X7_digest rfl rfl rfl (by decide +kernel) ⟨Nat.le_of_ble_eq_true rfl, Nat.le_of_ble_eq_true rfl⟩) (pRecv X hP) rfl hl.1 rfl (Nat.le_of_ble_eq_true rfl) dL_law_161 ⟨by omega, by omega⟩ (fun r244 u9 H1 locs hw hP9 hz hk hS => ?_)
                  obtain ⟨I1_241, O1_242, J1_243⟩ := u9
                  subst hw
                  have hQ := pKeep hdj1 hQ hk
                  have hP := hP9
                  clear hP9 hk hz
                  refine lv_aload_n hx hb dL_law_164 rfl (lv_at hl 4 rfl) ?_
                  obtain ⟨q250, hcq250, h⟩ := hb_some h
                  refine pV_l (As := []) (rest := [.long r244]) (BH := (fun (u : (Nat → Nat → Int32) × (Nat → Nat → Option Nat) × (Nat → Nat → Int64)) H => va_P (dC, dI) vwCl (hW 129 ca b2 u.1 u.2.1 u.2.2) H)) X had2 hQ hS (fun A1 hA1 => c_X7_digest (Nat.le_refl 129) hA1 I2_237 O2_238 J2_16 q250 hcq250) (cwV 0 X.ts gL_law_X7_digest rfl rfl rfl (by decide +kernel) ⟨Nat.le_of_ble_eq_true rfl, Nat.le_of_ble_eq_true rfl⟩) (pRecv X hQ) rfl hl.1 rfl (Nat.le_of_ble_eq_true rfl) dL_law_165 ⟨by omega, by omega⟩ (fun r249 u9 H1 locs hw hQ9 hz hk hS => ?_)
                  obtain ⟨I2_246, O2_247, J2_248⟩ := u9
                  subst hw
                  have hP := pKeep hdj2 hP hk
                  have hQ := hQ9
                  clear hQ9 hk hz
                  refine W.lcmp hx hb dL_law_168 ?_
                  refine lv_if_ne (tgt := 202) hx hb dL_law_169 (by decide) (fun c263 => ?_) (fun c263 => ?_)
                  · have h := gif_f c263 h
                    refine lv_iconst (v := 0) hx hb dL_law_202 (by decide) ?_
                    refine W.widen (k := (cn102 + 1958)) (n := (sn102 + 11738)) (by omega) (by omega) ?_
                    cases h
                    exact K203 _ _ _ hP hQ hS (lv_sub hl [2, 3, 4, 6] rfl)
                  · have h := gif_t c263 h
                    refine lv_iload hx hb dL_law_172 (lv_at hl 6 rfl) ?_
                    refine lv_iconst (v := 4) hx hb dL_law_174 (by decide) ?_
                    refine lv_irem hx hb dL_law_175 (by decide) ?_
                    refine lv_if_gt (tgt := 198) hx hb dL_law_176 (by decide) (fun c262 => ?_) (fun c262 => ?_)
                    · have h := gif_t c262 h
                      refine lv_iconst (v := 1) hx hb dL_law_198 (by decide) ?_
                      refine lv_goto (tgt := 203) hx hb dL_law_199 (by decide) ?_
                      refine W.widen (k := (cn102 + 1958)) (n := (sn102 + 11738)) (by omega) (by omega) ?_
                      cases h
                      exact K203 _ _ _ hP hQ hS (lv_sub hl [2, 3, 4, 6] rfl)
                    · have h := gif_f c262 h
                      refine lv_iload hx hb dL_law_179 (lv_at hl 6 rfl) ?_
                      refine lv_bipush (v := 8) hx hb dL_law_181 (by decide) ?_
                      refine lv_irem hx hb dL_law_183 (by decide) ?_
                      refine lv_if_ne (tgt := 191) hx hb dL_law_184 (by decide) (fun c261 => ?_) (fun c261 => ?_)
                      · have h := gif_f c261 h
                        refine lv_aload_n hx hb dL_law_191 rfl (lv_at hl 4 rfl) ?_
                        obtain ⟨q254, hcq254, h⟩ := hb_some h
                        refine pS_i (As := [.ref (b2 0)]) (rest := []) (BH := (fun (u : (Nat → Nat → Int32) × (Nat → Nat → Option Nat)) H => va_P (dC, dI) vwCl (hW 129 ca b2 u.1 u.2 J2_248) H)) X had2 hQ hS (fun A1 hA1 => c_L_hangs hlf (Nat.le_refl 129) hA1 I2_246 O2_247 J2_248 q254 hcq254) (va_cwS 1 X.ts gL_law_L_hangs rfl rfl rfl (by decide +kernel) ⟨Nat.le_of_ble_eq_true rfl, Nat.le_of_ble_eq_true rfl⟩) rfl hl.1 rfl (Nat.le_of_ble_eq_true rfl) dL_law_192 ⟨by omega, by omega⟩ (fun r253 u9 H1 locs hw hQ9 hz hk hS => ?_)
                        obtain ⟨I2_251, O2_252⟩ := u9
                        subst hw
                        have hP := pKeep hdj2 hP hk
                        have hQ := hQ9
                        clear hQ9 hk hz
                        refine lv_if_eq (tgt := 202) hx hb dL_law_195 (by decide) (fun c255 => ?_) (fun c255 => ?_)
                        · have h := gif_t c255 h
                          refine lv_iconst (v := 0) hx hb dL_law_202 (by decide) ?_
                          cases h
                          exact K203 _ _ _ hP hQ hS (lv_sub hl [2, 3, 4, 6] rfl)
                        · have h := gif_f c255 h
                          refine lv_iconst (v := 1) hx hb dL_law_198 (by decide) ?_
                          refine lv_goto (tgt := 203) hx hb dL_law_199 (by decide) ?_
                          cases h
                          exact K203 _ _ _ hP hQ hS (lv_sub hl [2, 3, 4, 6] rfl)
                      · have h := gif_t c261 h
                        refine lv_aload_n hx hb dL_law_187 rfl (lv_at hl 3 rfl) ?_
                        refine lv_goto (tgt := 192) hx hb dL_law_188 (by decide) ?_
                        obtain ⟨q259, hcq259, h⟩ := hb_some h
                        refine pS_i (As := [.ref (b1 0)]) (rest := []) (BH := (fun (u : (Nat → Nat → Int32) × (Nat → Nat → Option Nat)) H => va_P (dC, dI) vwCl (hW 129 ca b1 u.1 u.2 J1_243) H)) X had1 hP hS (fun A1 hA1 => c_L_hangs hlf (Nat.le_refl 129) hA1 I1_241 O1_242 J1_243 q259 hcq259) (va_cwS 1 X.ts gL_law_L_hangs rfl rfl rfl (by decide +kernel) ⟨Nat.le_of_ble_eq_true rfl, Nat.le_of_ble_eq_true rfl⟩) rfl hl.1 rfl (Nat.le_of_ble_eq_true rfl) dL_law_192 ⟨by omega, by omega⟩ (fun r258 u9 H1 locs hw hP9 hz hk hS => ?_)
                        obtain ⟨I1_256, O1_257⟩ := u9
                        subst hw
                        have hQ := pKeep hdj1 hQ hk
                        have hP := hP9
                        clear hP9 hk hz
                        refine lv_if_eq (tgt := 202) hx hb dL_law_195 (by decide) (fun c260 => ?_) (fun c260 => ?_)
                        · have h := gif_t c260 h
                          refine lv_iconst (v := 0) hx hb dL_law_202 (by decide) ?_
                          cases h
                          exact K203 _ _ _ hP hQ hS (lv_sub hl [2, 3, 4, 6] rfl)
                        · have h := gif_f c260 h
                          refine lv_iconst (v := 1) hx hb dL_law_198 (by decide) ?_
                          refine lv_goto (tgt := 203) hx hb dL_law_199 (by decide) ?_
                          cases h
                          exact K203 _ _ _ hP hQ hS (lv_sub hl [2, 3, 4, 6] rfl)
    exact hL102 64 _ _ _ _ _ _ _ _ 1279 9726 _ _ _ (Nat.le_of_ble_eq_true rfl) (Nat.le_of_ble_eq_true rfl) hv hP hQ hS (lv_sub hl [2, 3, 4, 1, 0] rfl)
  have h := hv
  refine lv_icmp_ne (tgt := 97) hx hb dL_law_22 (by decide) (fun c303 => ?_) (fun c303 => ?_)
  · have h := gif_f c303 h
    refine lv_iconst (v := 0) hx hb dL_law_97 (by decide) ?_
    refine W.widen (k := 1279) (n := 9726) (Nat.le_of_ble_eq_true rfl) (Nat.le_of_ble_eq_true rfl) ?_
    cases h
    exact K98 _ _ _ hP hQ hS (lv_sub hl [0, 1, 2] rfl)
  · have h := gif_t c303 h
    refine lv_aload_n hx hb dL_law_25 rfl (lv_at hl 1 rfl) ?_
    refine lv_iconst (v := 0) hx hb dL_law_26 (by decide) ?_
    obtain ⟨q272, hcq272, h⟩ := hb_some h
    refine pW_i (As := [.ref (b1 0), .int (0 : Int32)]) (rest := []) (BH := (fun (u : (Nat → Nat → Int32) × (Nat → Nat → Option Nat)) H => va_P (dC, dI) vwCl (hW 129 ca b1 u.1 u.2 J1) H)) X had1 hP hS (fun A1 hA1 => c_L_goBack hlf (Nat.le_refl 129) hA1 I1_1 O1 J1 (0 : Int32) q272 hcq272) (vx_cwSW 2 X.ts gL_law_L_goBack rfl rfl rfl (by decide +kernel) ⟨Nat.le_of_ble_eq_true rfl, Nat.le_of_ble_eq_true rfl⟩) rfl hl.1 rfl (Nat.le_of_ble_eq_true rfl) dL_law_27 ⟨Nat.le_of_ble_eq_true rfl, Nat.le_of_ble_eq_true rfl⟩ (fun r271 u9 H1 locs hw hP9 hz hk hS => ?_)
    obtain ⟨I1_269, O1_270⟩ := u9
    subst hw
    have hQ := pKeep hdj1 hQ hk
    have hP := hP9
    clear hP9 hk hz
    refine lv_bipush (v := (-4)) hx hb dL_law_30 (by decide) ?_
    refine lv_icmp_ne (tgt := 97) hx hb dL_law_32 (by decide) (fun c302 => ?_) (fun c302 => ?_)
    · have h := gif_f c302 h
      refine lv_iconst (v := 0) hx hb dL_law_97 (by decide) ?_
      refine W.widen (k := 1279) (n := 9726) (Nat.le_of_ble_eq_true rfl) (Nat.le_of_ble_eq_true rfl) ?_
      cases h
      exact K98 _ _ _ hP hQ hS (lv_sub hl [0, 1, 2] rfl)
    · have h := gif_t c302 h
      refine lv_aload_n hx hb dL_law_35 rfl (lv_at hl 1 rfl) ?_
      obtain ⟨q275, hcq275, h⟩ := hb_some h
      refine pV_i (As := []) (rest := []) (BH := (fun (u : Nat → Nat → Int32) H => va_P (dC, dI) vwCl (hW 129 ca b1 u O1_270 J1) H)) X had1 hP hS (fun A1 hA1 => c_X7_firstError (Nat.le_refl 129) hA1 I1_269 O1_270 J1 q275 hcq275) (cwV 0 X.ts gL_law_X7_firstError rfl rfl rfl (by decide +kernel) ⟨Nat.le_of_ble_eq_true rfl, Nat.le_of_ble_eq_true rfl⟩) (pRecv X hP) rfl hl.1 rfl (Nat.le_of_ble_eq_true rfl) dL_law_36 ⟨Nat.le_of_ble_eq_true rfl, Nat.le_of_ble_eq_true rfl⟩ (fun r274 I1_273 H1 locs hw hP9 hz hk hS => ?_)
      subst hw
      have hQ := pKeep hdj1 hQ hk
      have hP := hP9
      clear hP9 hk hz
      refine lv_if_ne (tgt := 97) hx hb dL_law_39 (by decide) (fun c301 => ?_) (fun c301 => ?_)
      · have h := gif_f c301 h
        refine lv_iconst (v := 0) hx hb dL_law_97 (by decide) ?_
        refine W.widen (k := 1279) (n := 9726) (Nat.le_of_ble_eq_true rfl) (Nat.le_of_ble_eq_true rfl) ?_
        cases h
        exact K98 _ _ _ hP hQ hS (lv_sub hl [0, 1, 2] rfl)
      · have h := gif_t c301 h
        refine lv_aload_n hx hb dL_law_42 rfl (lv_at hl 1 rfl) ?_
        obtain ⟨q279, hcq279, h⟩ := hb_some h
        refine pW_i (As := [.ref (b1 0)]) (rest := []) (BH := (fun (u : (Nat → Nat → Int32) × (Nat → Nat → Option Nat)) H => va_P (dC, dI) vwCl (hW 129 ca b1 u.1 u.2 J1) H)) X had1 hP hS (fun A1 hA1 => c_L_follow hlf (Nat.le_refl 129) hA1 I1_273 O1_270 J1 q279 hcq279) (vx_cwSW 1 X.ts gL_law_L_follow rfl rfl rfl (by decide +kernel) ⟨Nat.le_of_ble_eq_true rfl, Nat.le_of_ble_eq_true rfl⟩) rfl hl.1 rfl (Nat.le_of_ble_eq_true rfl) dL_law_43 ⟨Nat.le_of_ble_eq_true rfl, Nat.le_of_ble_eq_true rfl⟩ (fun r278 u9 H1 locs hw hP9 hz hk hS => ?_)
        obtain ⟨I1_276, O1_277⟩ := u9
        subst hw
        have hQ := pKeep hdj1 hQ hk
        have hP := hP9
        clear hP9 hk hz
        refine lv_bipush (v := (-3)) hx hb dL_law_46 (by decide) ?_
        refine lv_icmp_ne (tgt := 97) hx hb dL_law_48 (by decide) (fun c300 => ?_) (fun c300 => ?_)
        · have h := gif_f c300 h
          refine lv_iconst (v := 0) hx hb dL_law_97 (by decide) ?_
          refine W.widen (k := 1279) (n := 9726) (Nat.le_of_ble_eq_true rfl) (Nat.le_of_ble_eq_true rfl) ?_
          cases h
          exact K98 _ _ _ hP hQ hS (lv_sub hl [0, 1, 2] rfl)
        · have h := gif_t c300 h
          refine lv_aload_n hx hb dL_law_51 rfl (lv_at hl 1 rfl) ?_
          obtain ⟨q283, hcq283, h⟩ := hb_some h
          refine pW_i (As := [.ref (b1 0)]) (rest := []) (BH := (fun (u : (Nat → Nat → Int32) × (Nat → Nat → Option Nat)) H => va_P (dC, dI) vwCl (hW 129 ca b1 u.1 u.2 J1) H)) X had1 hP hS (fun A1 hA1 => c_L_begin hlf (Nat.le_refl 129) hA1 I1_276 O1_277 J1 q283 hcq283) (vx_cwSW 1 X.ts gL_law_L_begin rfl rfl rfl (by decide +kernel) ⟨Nat.le_of_ble_eq_true rfl, Nat.le_of_ble_eq_true rfl⟩) rfl hl.1 rfl (Nat.le_of_ble_eq_true rfl) dL_law_52 ⟨Nat.le_of_ble_eq_true rfl, Nat.le_of_ble_eq_true rfl⟩ (fun r282 u9 H1 locs hw hP9 hz hk hS => ?_)
          obtain ⟨I1_280, O1_281⟩ := u9
          subst hw
          have hQ := pKeep hdj1 hQ hk
          have hP := hP9
          clear hP9 hk hz
          refine lv_bipush (v := (-4)) hx hb dL_law_55 (by decide) ?_
          refine lv_icmp_ne (tgt := 97) hx hb dL_law_57 (by decide) (fun c299 => ?_) (fun c299 => ?_)
          · have h := gif_f c299 h
            refine lv_iconst (v := 0) hx hb dL_law_97 (by decide) ?_
            refine W.widen (k := 1279) (n := 9726) (Nat.le_of_ble_eq_true rfl) (Nat.le_of_ble_eq_true rfl) ?_
            cases h
            exact K98 _ _ _ hP hQ hS (lv_sub hl [0, 1, 2] rfl)
          · have h := gif_t c299 h
            refine lv_aload_n hx hb dL_law_60 rfl (lv_at hl 1 rfl) ?_
            obtain ⟨q287, hcq287, h⟩ := hb_some h
            refine pS_i (As := [.ref (b1 0)]) (rest := []) (BH := (fun (u : (Nat → Nat → Int32) × (Nat → Nat → Option Nat)) H => va_P (dC, dI) vwCl (hW 129 ca b1 u.1 u.2 J1) H)) X had1 hP hS (fun A1 hA1 => c_L_hangs hlf (Nat.le_refl 129) hA1 I1_280 O1_281 J1 q287 hcq287) (va_cwS 1 X.ts gL_law_L_hangs rfl rfl rfl (by decide +kernel) ⟨Nat.le_of_ble_eq_true rfl, Nat.le_of_ble_eq_true rfl⟩) rfl hl.1 rfl (Nat.le_of_ble_eq_true rfl) dL_law_61 ⟨Nat.le_of_ble_eq_true rfl, Nat.le_of_ble_eq_true rfl⟩ (fun r286 u9 H1 locs hw hP9 hz hk hS => ?_)
            obtain ⟨I1_284, O1_285⟩ := u9
            subst hw
            have hQ := pKeep hdj1 hQ hk
            have hP := hP9
            clear hP9 hk hz
            refine lv_if_eq (tgt := 97) hx hb dL_law_64 (by decide) (fun c298 => ?_) (fun c298 => ?_)
            · have h := gif_t c298 h
              refine lv_iconst (v := 0) hx hb dL_law_97 (by decide) ?_
              refine W.widen (k := 1279) (n := 9726) (Nat.le_of_ble_eq_true rfl) (Nat.le_of_ble_eq_true rfl) ?_
              cases h
              exact K98 _ _ _ hP hQ hS (lv_sub hl [0, 1, 2] rfl)
            · have h := gif_f c298 h
              refine lv_aload_n hx hb dL_law_67 rfl (lv_at hl 1 rfl) ?_
              refine lv_bipush (v := 22) hx hb dL_law_68 (by decide) ?_
              refine lv_sipush (v := 700) hx hb dL_law_70 (by decide) ?_
              refine lv_iconst (v := 0) hx hb dL_law_73 (by decide) ?_
              obtain ⟨q291, hcq291, h⟩ := hb_some h
              refine pW_i (As := [.ref (b1 0), .int (22 : Int32), .int (700 : Int32), .int (0 : Int32)]) (rest := []) (BH := (fun (u : (Nat → Nat → Int32) × (Nat → Nat → Option Nat)) H => va_P (dC, dI) vwCl (hW 129 ca b1 u.1 u.2 J1) H)) X had1 hP hS (fun A1 hA1 => c_L_enter hlf (Nat.le_refl 129) hA1 I1_284 O1_285 J1 (22 : Int32) (700 : Int32) (0 : Int32) q291 hcq291) (vx_cwSW 4 X.ts gL_law_L_enter rfl rfl rfl (by decide +kernel) ⟨Nat.le_of_ble_eq_true rfl, Nat.le_of_ble_eq_true rfl⟩) rfl hl.1 rfl (Nat.le_of_ble_eq_true rfl) dL_law_74 ⟨Nat.le_of_ble_eq_true rfl, Nat.le_of_ble_eq_true rfl⟩ (fun r290 u9 H1 locs hw hP9 hz hk hS => ?_)
              obtain ⟨I1_288, O1_289⟩ := u9
              subst hw
              have hQ := pKeep hdj1 hQ hk
              have hP := hP9
              clear hP9 hk hz
              refine lv_if_ne (tgt := 97) hx hb dL_law_77 (by decide) (fun c297 => ?_) (fun c297 => ?_)
              · have h := gif_f c297 h
                refine lv_iconst (v := 0) hx hb dL_law_97 (by decide) ?_
                refine W.widen (k := 1279) (n := 9726) (Nat.le_of_ble_eq_true rfl) (Nat.le_of_ble_eq_true rfl) ?_
                cases h
                exact K98 _ _ _ hP hQ hS (lv_sub hl [0, 1, 2] rfl)
              · have h := gif_t c297 h
                refine lv_aload_n hx hb dL_law_80 rfl (lv_at hl 2 rfl) ?_
                refine lv_bipush (v := 22) hx hb dL_law_81 (by decide) ?_
                refine lv_sipush (v := 700) hx hb dL_law_83 (by decide) ?_
                refine lv_iconst (v := 0) hx hb dL_law_86 (by decide) ?_
                obtain ⟨q295, hcq295, h⟩ := hb_some h
                refine pW_i (As := [.ref (b2 0), .int (22 : Int32), .int (700 : Int32), .int (0 : Int32)]) (rest := []) (BH := (fun (u : (Nat → Nat → Int32) × (Nat → Nat → Option Nat)) H => va_P (dC, dI) vwCl (hW 129 ca b2 u.1 u.2 J2) H)) X had2 hQ hS (fun A1 hA1 => c_L_enter hlf (Nat.le_refl 129) hA1 I2 O2 J2 (22 : Int32) (700 : Int32) (0 : Int32) q295 hcq295) (vx_cwSW 4 X.ts gL_law_L_enter rfl rfl rfl (by decide +kernel) ⟨Nat.le_of_ble_eq_true rfl, Nat.le_of_ble_eq_true rfl⟩) rfl hl.1 rfl (Nat.le_of_ble_eq_true rfl) dL_law_87 ⟨Nat.le_of_ble_eq_true rfl, Nat.le_of_ble_eq_true rfl⟩ (fun r294 u9 H1 locs hw hQ9 hz hk hS => ?_)
                obtain ⟨I2_292, O2_293⟩ := u9
                subst hw
                have hP := pKeep hdj2 hP hk
                have hQ := hQ9
                clear hQ9 hk hz
                refine lv_if_ne (tgt := 97) hx hb dL_law_90 (by decide) (fun c296 => ?_) (fun c296 => ?_)
                · have h := gif_f c296 h
                  refine lv_iconst (v := 0) hx hb dL_law_97 (by decide) ?_
                  cases h
                  exact K98 _ _ _ hP hQ hS (lv_sub hl [0, 1, 2] rfl)
                · have h := gif_t c296 h
                  refine lv_iconst (v := 1) hx hb dL_law_93 (by decide) ?_
                  refine lv_goto (tgt := 98) hx hb dL_law_94 (by decide) ?_
                  cases h
                  exact K98 _ _ _ hP hQ hS (lv_sub hl [0, 1, 2] rfl)
