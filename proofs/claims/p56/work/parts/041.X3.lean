def f_X3_takeFrom_L58 (t0 : Nat) (a1 : Nat) : Nat → Int32 → (Nat → Nat → Int32) → Option (Nat → Nat → Int32)
  | 0, _, _ => none
  | fuel + 1, p4, I5 =>
    if (4 : Int32) ≤ p4 then
      some I5
    else
      if (4 : Int32) ≤ p4 then
        some I5
      else
        hg (gin p4 4) <|
        hg (gin p4 4) <|
        hlet (gup I5 (t0 + 3) (p4.toNatClampNeg) (I5 (a1 + 3) (p4.toNatClampNeg))) fun I20 =>
        hlet (p4 + 1) fun x21 =>
        f_X3_takeFrom_L58 t0 a1 fuel x21 I20
def f_X3_takeFrom_L2 (t0 : Nat) (a1 : Nat) : Nat → Int32 → (Nat → Nat → Int32) → Option (Nat → Nat → Int32)
  | 0, _, _ => none
  | fuel + 1, p1, I2 =>
    if (8 : Int32) ≤ p1 then
      some I2
    else
      if (8 : Int32) ≤ p1 then
        some I2
      else
        hg (gin p1 8) <|
        hg (gin p1 8) <|
        (show Option (Nat → Nat → Int32) from
          (f_X6_takeFrom ((t0 + 1) + 3 + p1.toNatClampNeg) ((a1 + 1) + 3 + p1.toNatClampNeg) I2).bind fun I28 =>
          some I28).bind fun I26 =>
        hlet (p1 + 1) fun x27 =>
        f_X3_takeFrom_L2 t0 a1 fuel x27 I26
def f_X3_takeFrom (t0 : Nat) (a1 : Nat) (I : Nat → Nat → Int32) : Option (Nat → Nat → Int32) :=
  (f_X3_takeFrom_L2 t0 a1 FU (0 : Int32) I).bind fun I3 =>
  (f_X3_takeFrom_L58 t0 a1 FU (0 : Int32) I3).bind fun I6 =>
  hlet (gup I6 t0 3 (I6 a1 3)) fun I7 =>
  hlet (gup I7 t0 4 (I7 a1 4)) fun I8 =>
  hg (gz (I8 a1 5)) <|
  hlet (gup I8 t0 5 (I8 a1 5)) fun I9 =>
  hlet (gup I9 t0 6 (I9 a1 6)) fun I10 =>
  hlet (gup I10 t0 7 (I10 a1 7)) fun I11 =>
  hlet (gup I11 t0 8 (I11 a1 8)) fun I12 =>
  hlet (gup I12 t0 9 (I12 a1 9)) fun I13 =>
  hlet (gup I13 t0 10 (I13 a1 10)) fun I14 =>
  hlet (gup I14 t0 11 (I14 a1 11)) fun I15 =>
  hlet (gup I15 t0 12 (I15 a1 12)) fun I16 =>
  hlet (gup I16 t0 13 (I16 a1 13)) fun I17 =>
  some I17
set_option maxHeartbeats 8000000 in
set_option maxRecDepth 100000 in
theorem c_X3_takeFrom {l : Launch} {dC : Nat → ClassId} {dI : Nat → Nat → Nat} {ca : Nat → ClassId} {b : Nat → Nat} {A : Nat → Prop} {N : Nat} (hN : 129 ≤ N) (hA : gAd A b N) (I : Nat → Nat → Int32) (O : Nat → Nat → Option Nat) (J : Nat → Nat → Int64) (t0 : Nat) (a1 : Nat) (hk_t0 : SHK t0 = 3) (hk_a1 : SHK a1 = 3) (res : Nat → Nat → Int32) (h : f_X3_takeFrom t0 a1 I = some res) : Met l yX3_takeFrom wsX3_takeFrom ({ frames := 1, cells := 0, slots := 0, locals := 21 } : Room) (va_Pc [.ref (b t0), .ref (b a1)] (gPre dC dI ca b A N I O J)) (va_Qv (fun (u : Nat → Nat → Int32) => res = u) (fun (u : Nat → Nat → Int32) t => va_P (dC, dI) vwCl (hW N ca b u O J) t.heap) A) 0 0 A := by
  refine Met.ofW (cc := cX3_takeFrom) (maxL := 5) (ret := none) (by decide) rfl ?_
  intro p e s m args below meth c s₁ B hml hv
  obtain ⟨rfl, hP, hK, hA2, hth⟩ := hv
  have hx := B.exec
  have hb := B.bytes
  have hr := B.returns
  have hlk := B.notSynchronized
  have X : gCx p s m ([.ref (b t0), .ref (b a1)] : List Value).toArray c RX3 cX3_takeFrom wsX3_takeFrom 5 dC dI ca b A N := ⟨hx, hb, hml, findClass_of_methodNamed B.named, atoms_spec (ws := wsX3_takeFrom) B.pre, hK, hA, hA2, hth⟩
  have hi3 : ∀ w ∈ wsX30, w ∈ wsX3_takeFrom := (fun w h => List.mem_cons_of_mem _ (List.mem_append_left _ (List.mem_append_right _ h)))
  have hS : va_S A s.heap s.heap [] := va_S.rf
  have hl := lv_entry ([.ref (b t0), .ref (b a1)] : List Value) (n := 5) (Nat.le_of_ble_eq_true rfl)
  rw [lg_entry_eq]
  generalize (lg_sl ([.ref (b t0), .ref (b a1)] : List Value) ++ List.replicate (5 - (lg_sl ([.ref (b t0), .ref (b a1)] : List Value)).length) Slot.unset).toArray = ls at hl ⊢
  have hl : lv_has ls 5 [(0, .ref (b t0)), (1, .ref (b a1))] := hl
  unfold f_X3_takeFrom at h
  refine lv_iconst (v := 0) hx hb dX3_takeFrom_0 (by decide) ?_
  refine lv_istore_n (lv' := [(2, .int (0 : Int32)), (0, .ref (b t0)), (1, .ref (b a1))]) hx hb dX3_takeFrom_1 rfl hl (by decide) rfl (fun ls hl => ?_)
  obtain ⟨I3, hv, h⟩ := hb_some h
  have K56 : ∀ (H : Heap) (locs : List Loc) (ls : Array Slot), va_P (dC, dI) vwCl (hW N ca b I3 O J) H → va_S A s.heap H locs → lv_has ls 5 [(0, .ref (b t0)), (1, .ref (b a1))] → W p l e (headSpec wsX3_takeFrom ({ frames := 1, cells := 0, slots := 0, locals := 21 } : Room)).room s m ([.ref (b t0), .ref (b a1)] : List Value).toArray below meth c H locs 0 0 (MQ below (va_Qv (fun (u : Nat → Nat → Int32) => res = u) (fun (u : Nat → Nat → Int32) t => va_P (dC, dI) vwCl (hW N ca b u O J) t.heap) A) ([.ref (b t0), .ref (b a1)] : List Value).toArray s 0 0 A) (F0 m 56 ls []) := by
    intro H locs ls hP hS hl
    refine lv_iconst (v := 0) hx hb dX3_takeFrom_56 (by decide) ?_
    refine lv_istore_n (lv' := [(2, .int (0 : Int32)), (0, .ref (b t0)), (1, .ref (b a1))]) hx hb dX3_takeFrom_57 rfl hl (by decide) rfl (fun ls hl => ?_)
    obtain ⟨I6, hv, h⟩ := hb_some h
    have K94 : ∀ (H : Heap) (locs : List Loc) (ls : Array Slot), va_P (dC, dI) vwCl (hW N ca b I6 O J) H → va_S A s.heap H locs → lv_has ls 5 [(0, .ref (b t0)), (1, .ref (b a1))] → W p l e (headSpec wsX3_takeFrom ({ frames := 1, cells := 0, slots := 0, locals := 21 } : Room)).room s m ([.ref (b t0), .ref (b a1)] : List Value).toArray below meth c H locs 0 0 (MQ below (va_Qv (fun (u : Nat → Nat → Int32) => res = u) (fun (u : Nat → Nat → Int32) t => va_P (dC, dI) vwCl (hW N ca b u O J) t.heap) A) ([.ref (b t0), .ref (b a1)] : List Value).toArray s 0 0 A) (F0 m 94 ls []) := by
      intro H locs ls hP hS hl
      refine lv_aload_n hx hb dX3_takeFrom_94 rfl (lv_at hl 0 rfl) ?_
      refine lv_aload_n hx hb dX3_takeFrom_95 rfl (lv_at hl 1 rfl) ?_
      refine gg3_3 X hP hk_a1 (sk_in hN hk_a1 (by decide)) hi3 (List.mem_of_getElem? (i := 3) rfl) dX3_takeFrom_96 ?_
      refine gp3_3 X hP hS hk_t0 (sk_in hN hk_t0 (by decide)) hi3 (List.mem_of_getElem? (i := 3) rfl) dX3_takeFrom_99 (fun H locs hP hS => ?_)
      obtain ⟨I7, eI7, h⟩ := hlet_ex h
      rw [← eI7] at hP
      refine lv_aload_n hx hb dX3_takeFrom_102 rfl (lv_at hl 0 rfl) ?_
      refine lv_aload_n hx hb dX3_takeFrom_103 rfl (lv_at hl 1 rfl) ?_
      refine gg3_4 X hP hk_a1 (sk_in hN hk_a1 (by decide)) hi3 (List.mem_of_getElem? (i := 4) rfl) dX3_takeFrom_104 ?_
      refine gp3_4 X hP hS hk_t0 (sk_in hN hk_t0 (by decide)) hi3 (List.mem_of_getElem? (i := 4) rfl) dX3_takeFrom_107 (fun H locs hP hS => ?_)
      obtain ⟨I8, eI8, h⟩ := hlet_ex h
      rw [← eI8] at hP
      refine lv_aload_n hx hb dX3_takeFrom_110 rfl (lv_at hl 0 rfl) ?_
      refine lv_aload_n hx hb dX3_takeFrom_111 rfl (lv_at hl 1 rfl) ?_
      refine gg3_5 X hP hk_a1 (sk_in hN hk_a1 (by decide)) hi3 (List.mem_of_getElem? (i := 5) rfl) dX3_takeFrom_112 ?_
      obtain ⟨hgv, h⟩ := hg_some h
      refine gp3_5 X hP hS hk_t0 (sk_in hN hk_t0 (by decide)) hi3 (List.mem_of_getElem? (i := 5) rfl) hgv dX3_takeFrom_115 (fun H locs hP hS => ?_)
      obtain ⟨I9, eI9, h⟩ := hlet_ex h
      rw [← eI9] at hP
      refine lv_aload_n hx hb dX3_takeFrom_118 rfl (lv_at hl 0 rfl) ?_
      refine lv_aload_n hx hb dX3_takeFrom_119 rfl (lv_at hl 1 rfl) ?_
      refine gg3_6 X hP hk_a1 (sk_in hN hk_a1 (by decide)) hi3 (List.mem_of_getElem? (i := 6) rfl) dX3_takeFrom_120 ?_
      refine gp3_6 X hP hS hk_t0 (sk_in hN hk_t0 (by decide)) hi3 (List.mem_of_getElem? (i := 6) rfl) dX3_takeFrom_123 (fun H locs hP hS => ?_)
      obtain ⟨I10, eI10, h⟩ := hlet_ex h
      rw [← eI10] at hP
      refine lv_aload_n hx hb dX3_takeFrom_126 rfl (lv_at hl 0 rfl) ?_
      refine lv_aload_n hx hb dX3_takeFrom_127 rfl (lv_at hl 1 rfl) ?_
      refine gg3_7 X hP hk_a1 (sk_in hN hk_a1 (by decide)) hi3 (List.mem_of_getElem? (i := 7) rfl) dX3_takeFrom_128 ?_
      refine gp3_7 X hP hS hk_t0 (sk_in hN hk_t0 (by decide)) hi3 (List.mem_of_getElem? (i := 7) rfl) dX3_takeFrom_131 (fun H locs hP hS => ?_)
      obtain ⟨I11, eI11, h⟩ := hlet_ex h
      rw [← eI11] at hP
      refine lv_aload_n hx hb dX3_takeFrom_134 rfl (lv_at hl 0 rfl) ?_
      refine lv_aload_n hx hb dX3_takeFrom_135 rfl (lv_at hl 1 rfl) ?_
      refine gg3_8 X hP hk_a1 (sk_in hN hk_a1 (by decide)) hi3 (List.mem_of_getElem? (i := 8) rfl) dX3_takeFrom_136 ?_
      refine gp3_8 X hP hS hk_t0 (sk_in hN hk_t0 (by decide)) hi3 (List.mem_of_getElem? (i := 8) rfl) dX3_takeFrom_139 (fun H locs hP hS => ?_)
      obtain ⟨I12, eI12, h⟩ := hlet_ex h
      rw [← eI12] at hP
      refine lv_aload_n hx hb dX3_takeFrom_142 rfl (lv_at hl 0 rfl) ?_
      refine lv_aload_n hx hb dX3_takeFrom_143 rfl (lv_at hl 1 rfl) ?_
      refine gg3_9 X hP hk_a1 (sk_in hN hk_a1 (by decide)) hi3 (List.mem_of_getElem? (i := 9) rfl) dX3_takeFrom_144 ?_
      refine gp3_9 X hP hS hk_t0 (sk_in hN hk_t0 (by decide)) hi3 (List.mem_of_getElem? (i := 9) rfl) dX3_takeFrom_147 (fun H locs hP hS => ?_)
      obtain ⟨I13, eI13, h⟩ := hlet_ex h
      rw [← eI13] at hP
      refine lv_aload_n hx hb dX3_takeFrom_150 rfl (lv_at hl 0 rfl) ?_
      refine lv_aload_n hx hb dX3_takeFrom_151 rfl (lv_at hl 1 rfl) ?_
      refine gg3_10 X hP hk_a1 (sk_in hN hk_a1 (by decide)) hi3 (List.mem_of_getElem? (i := 10) rfl) dX3_takeFrom_152 ?_
      refine gp3_10 X hP hS hk_t0 (sk_in hN hk_t0 (by decide)) hi3 (List.mem_of_getElem? (i := 10) rfl) dX3_takeFrom_155 (fun H locs hP hS => ?_)
      obtain ⟨I14, eI14, h⟩ := hlet_ex h
      rw [← eI14] at hP
      refine lv_aload_n hx hb dX3_takeFrom_158 rfl (lv_at hl 0 rfl) ?_
      refine lv_aload_n hx hb dX3_takeFrom_159 rfl (lv_at hl 1 rfl) ?_
      refine gg3_11 X hP hk_a1 (sk_in hN hk_a1 (by decide)) hi3 (List.mem_of_getElem? (i := 11) rfl) dX3_takeFrom_160 ?_
      refine gp3_11 X hP hS hk_t0 (sk_in hN hk_t0 (by decide)) hi3 (List.mem_of_getElem? (i := 11) rfl) dX3_takeFrom_163 (fun H locs hP hS => ?_)
      obtain ⟨I15, eI15, h⟩ := hlet_ex h
      rw [← eI15] at hP
      refine lv_aload_n hx hb dX3_takeFrom_166 rfl (lv_at hl 0 rfl) ?_
      refine lv_aload_n hx hb dX3_takeFrom_167 rfl (lv_at hl 1 rfl) ?_
      refine gg3_12 X hP hk_a1 (sk_in hN hk_a1 (by decide)) hi3 (List.mem_of_getElem? (i := 12) rfl) dX3_takeFrom_168 ?_
      refine gp3_12 X hP hS hk_t0 (sk_in hN hk_t0 (by decide)) hi3 (List.mem_of_getElem? (i := 12) rfl) dX3_takeFrom_171 (fun H locs hP hS => ?_)
      obtain ⟨I16, eI16, h⟩ := hlet_ex h
      rw [← eI16] at hP
      refine lv_aload_n hx hb dX3_takeFrom_174 rfl (lv_at hl 0 rfl) ?_
      refine lv_aload_n hx hb dX3_takeFrom_175 rfl (lv_at hl 1 rfl) ?_
      refine gg3_13 X hP hk_a1 (sk_in hN hk_a1 (by decide)) hi3 (List.mem_of_getElem? (i := 13) rfl) dX3_takeFrom_176 ?_
      refine gp3_13 X hP hS hk_t0 (sk_in hN hk_t0 (by decide)) hi3 (List.mem_of_getElem? (i := 13) rfl) dX3_takeFrom_179 (fun H locs hP hS => ?_)
      obtain ⟨I17, eI17, h⟩ := hlet_ex h
      rw [← eI17] at hP
      exact W.vret hx hb hr (fun t9 ht hW => ⟨⟨I17, rfl, (Option.some.inj h).symm, gEnd ht hP⟩, hS.F ht⟩) hS.2.2 dX3_takeFrom_182 hlk
    have hL58 : ∀ (fuel : Nat) (p4 : Int32) (I5 : Nat → Nat → Int32) (H : Heap) (locs : List Loc) (ls : Array Slot), f_X3_takeFrom_L58 t0 a1 fuel p4 I5 = some I6 → va_P (dC, dI) vwCl (hW N ca b I5 O J) H → va_S A s.heap H locs → lv_has ls 5 [(0, .ref (b t0)), (1, .ref (b a1)), (2, .int p4)] → W p l e (headSpec wsX3_takeFrom ({ frames := 1, cells := 0, slots := 0, locals := 21 } : Room)).room s m ([.ref (b t0), .ref (b a1)] : List Value).toArray below meth c H locs 0 0 (MQ below (va_Qv (fun (u : Nat → Nat → Int32) => res = u) (fun (u : Nat → Nat → Int32) t => va_P (dC, dI) vwCl (hW N ca b u O J) t.heap) A) ([.ref (b t0), .ref (b a1)] : List Value).toArray s 0 0 A) (F0 m 58 ls []) := by
      intro fuel
      induction fuel with
      | zero =>
        intro p4 I5 H locs ls h hP hS hl
        rw [f_X3_takeFrom_L58] at h
        cases h
      | succ fuel ih =>
        intro p4 I5 H locs ls h hP hS hl
        rw [f_X3_takeFrom_L58] at h
        refine lv_iload_n hx hb dX3_takeFrom_58 rfl (lv_at hl 2 rfl) ?_
        refine lv_aload_n hx hb dX3_takeFrom_59 rfl (lv_at hl 0 rfl) ?_
        refine gg3_2 X hP hk_t0 (sk_in hN hk_t0 (by decide)) hi3 (List.mem_of_getElem? (i := 2) rfl) dX3_takeFrom_60 ?_
        refine gl20 X hP (sk3_3 hk_t0) (sk_in hN (sk3_3 hk_t0) (by decide)) (L := 4) (sk3_l hk_t0) (v := 4) (by decide) dX3_takeFrom_63 ?_
        refine lv_icmp_ge (tgt := 94) hx hb dX3_takeFrom_64 (by decide) (fun c23 => ?_) (fun c23 => ?_)
        · have h := gif_t c23 h
          cases h
          exact K94 _ _ _ hP hS (lv_sub hl [0, 1] rfl)
        · have h := gif_f c23 h
          refine lv_iload_n hx hb dX3_takeFrom_67 rfl (lv_at hl 2 rfl) ?_
          refine lv_aload_n hx hb dX3_takeFrom_68 rfl (lv_at hl 1 rfl) ?_
          refine gg3_2 X hP hk_a1 (sk_in hN hk_a1 (by decide)) hi3 (List.mem_of_getElem? (i := 2) rfl) dX3_takeFrom_69 ?_
          refine gl20 X hP (sk3_3 hk_a1) (sk_in hN (sk3_3 hk_a1) (by decide)) (L := 4) (sk3_l hk_a1) (v := 4) (by decide) dX3_takeFrom_72 ?_
          refine lv_icmp_ge (tgt := 94) hx hb dX3_takeFrom_73 (by decide) (fun c22 => ?_) (fun c22 => ?_)
          · have h := gif_t c22 h
            cases h
            exact K94 _ _ _ hP hS (lv_sub hl [0, 1] rfl)
          · have h := gif_f c22 h
            refine lv_aload_n hx hb dX3_takeFrom_76 rfl (lv_at hl 0 rfl) ?_
            refine gg3_2 X hP hk_t0 (sk_in hN hk_t0 (by decide)) hi3 (List.mem_of_getElem? (i := 2) rfl) dX3_takeFrom_77 ?_
            refine lv_iload_n hx hb dX3_takeFrom_80 rfl (lv_at hl 2 rfl) ?_
            refine lv_aload_n hx hb dX3_takeFrom_81 rfl (lv_at hl 1 rfl) ?_
            refine gg3_2 X hP hk_a1 (sk_in hN hk_a1 (by decide)) hi3 (List.mem_of_getElem? (i := 2) rfl) dX3_takeFrom_82 ?_
            refine lv_iload_n hx hb dX3_takeFrom_85 rfl (lv_at hl 2 rfl) ?_
            obtain ⟨hgi18, h⟩ := hg_some h
            refine ga20 X hP (sk3_3 hk_a1) (sk_in hN (sk3_3 hk_a1) (by decide)) (L := 4) (sk3_l hk_a1) hgi18 dX3_takeFrom_86 ?_
            obtain ⟨hgi19, h⟩ := hg_some h
            refine gs20 X hP hS (sk3_3 hk_t0) (sk_in hN (sk3_3 hk_t0) (by decide)) (L := 4) (sk3_l hk_t0) hgi19 dX3_takeFrom_87 (fun H locs hP hS => ?_)
            obtain ⟨I20, eI20, h⟩ := hlet_ex h
            rw [← eI20] at hP
            obtain ⟨x21, ex21, h⟩ := hlet_ex h
            refine lv_iinc (v := x21) (lv' := [(2, .int x21), (0, .ref (b t0)), (1, .ref (b a1))]) hx hb dX3_takeFrom_88 hl (k := 2) rfl (by rw [ex21]; rfl) (by decide) rfl (fun ls hl => ?_)
            refine lv_goto (tgt := 58) hx hb dX3_takeFrom_91 (by decide) ?_
            exact ih _ _ _ _ _ h hP hS (lv_sub hl [1, 2, 0] rfl)
    exact hL58 FU _ _ _ _ _ hv hP hS (lv_sub hl [1, 2, 0] rfl)
  have hL2 : ∀ (fuel : Nat) (p1 : Int32) (I2 : Nat → Nat → Int32) (H : Heap) (locs : List Loc) (ls : Array Slot), f_X3_takeFrom_L2 t0 a1 fuel p1 I2 = some I3 → va_P (dC, dI) vwCl (hW N ca b I2 O J) H → va_S A s.heap H locs → lv_has ls 5 [(0, .ref (b t0)), (1, .ref (b a1)), (2, .int p1)] → W p l e (headSpec wsX3_takeFrom ({ frames := 1, cells := 0, slots := 0, locals := 21 } : Room)).room s m ([.ref (b t0), .ref (b a1)] : List Value).toArray below meth c H locs 0 0 (MQ below (va_Qv (fun (u : Nat → Nat → Int32) => res = u) (fun (u : Nat → Nat → Int32) t => va_P (dC, dI) vwCl (hW N ca b u O J) t.heap) A) ([.ref (b t0), .ref (b a1)] : List Value).toArray s 0 0 A) (F0 m 2 ls []) := by
    intro fuel
    induction fuel with
    | zero =>
      intro p1 I2 H locs ls h hP hS hl
      rw [f_X3_takeFrom_L2] at h
      cases h
    | succ fuel ih =>
      intro p1 I2 H locs ls h hP hS hl
      rw [f_X3_takeFrom_L2] at h
      refine lv_iload_n hx hb dX3_takeFrom_2 rfl (lv_at hl 2 rfl) ?_
      refine lv_aload_n hx hb dX3_takeFrom_3 rfl (lv_at hl 0 rfl) ?_
      refine gg3_0 X hP hk_t0 (sk_in hN hk_t0 (by decide)) hi3 (List.mem_of_getElem? (i := 1) rfl) dX3_takeFrom_4 ?_
      refine gl24 X hP (sk3_1 hk_t0) (sk_in hN (sk3_1 hk_t0) (by decide)) dX3_takeFrom_7 ?_
      refine lv_icmp_ge (tgt := 56) hx hb dX3_takeFrom_8 (by decide) (fun c31 => ?_) (fun c31 => ?_)
      · have h := gif_t c31 h
        cases h
        exact K56 _ _ _ hP hS (lv_sub hl [0, 1] rfl)
      · have h := gif_f c31 h
        refine lv_iload_n hx hb dX3_takeFrom_11 rfl (lv_at hl 2 rfl) ?_
        refine lv_aload_n hx hb dX3_takeFrom_12 rfl (lv_at hl 1 rfl) ?_
        refine gg3_0 X hP hk_a1 (sk_in hN hk_a1 (by decide)) hi3 (List.mem_of_getElem? (i := 1) rfl) dX3_takeFrom_13 ?_
        refine gl24 X hP (sk3_1 hk_a1) (sk_in hN (sk3_1 hk_a1) (by decide)) dX3_takeFrom_16 ?_
        refine lv_icmp_ge (tgt := 56) hx hb dX3_takeFrom_17 (by decide) (fun c30 => ?_) (fun c30 => ?_)
        · have h := gif_t c30 h
          cases h
          exact K56 _ _ _ hP hS (lv_sub hl [0, 1] rfl)
        · have h := gif_f c30 h
          refine lv_aload_n hx hb dX3_takeFrom_20 rfl (lv_at hl 0 rfl) ?_
          refine gg3_0 X hP hk_t0 (sk_in hN hk_t0 (by decide)) hi3 (List.mem_of_getElem? (i := 1) rfl) dX3_takeFrom_21 ?_
          refine lv_iload_n hx hb dX3_takeFrom_24 rfl (lv_at hl 2 rfl) ?_
          obtain ⟨hgi24, h⟩ := hg_some h
          refine ga24 X hP (sk3_1 hk_t0) (sk_in hN (sk3_1 hk_t0) (by decide)) hgi24 dX3_takeFrom_25 ?_
          refine lv_astore_n (lv' := [(3, .ref (b ((t0 + 1) + 3 + p1.toNatClampNeg))), (0, .ref (b t0)), (1, .ref (b a1)), (2, .int p1)]) hx hb dX3_takeFrom_26 rfl hl (by decide) rfl (fun ls hl => ?_)
          refine lv_aload_n hx hb dX3_takeFrom_27 rfl (lv_at hl 2 rfl) ?_
          refine gg3_0 X hP hk_a1 (sk_in hN hk_a1 (by decide)) hi3 (List.mem_of_getElem? (i := 1) rfl) dX3_takeFrom_28 ?_
          refine lv_iload_n hx hb dX3_takeFrom_31 rfl (lv_at hl 3 rfl) ?_
          obtain ⟨hgi25, h⟩ := hg_some h
          refine ga24 X hP (sk3_1 hk_a1) (sk_in hN (sk3_1 hk_a1) (by decide)) hgi25 dX3_takeFrom_32 ?_
          refine lv_astore (lv' := [(4, .ref (b ((a1 + 1) + 3 + p1.toNatClampNeg))), (3, .ref (b ((t0 + 1) + 3 + p1.toNatClampNeg))), (0, .ref (b t0)), (1, .ref (b a1)), (2, .int p1)]) hx hb dX3_takeFrom_33 hl (by decide) rfl (fun ls hl => ?_)
          refine lv_aload_n hx hb dX3_takeFrom_35 rfl (lv_at hl 1 rfl) ?_
          obtain ⟨I26, hv, h⟩ := hb_some h
          have K50 : ∀ (H : Heap) (locs : List Loc) (ls : Array Slot), va_P (dC, dI) vwCl (hW N ca b I26 O J) H → va_S A s.heap H locs → lv_has ls 5 [(0, .ref (b t0)), (1, .ref (b a1)), (2, .int p1)] → W p l e (headSpec wsX3_takeFrom ({ frames := 1, cells := 0, slots := 0, locals := 21 } : Room)).room s m ([.ref (b t0), .ref (b a1)] : List Value).toArray below meth c H locs 0 0 (MQ below (va_Qv (fun (u : Nat → Nat → Int32) => res = u) (fun (u : Nat → Nat → Int32) t => va_P (dC, dI) vwCl (hW N ca b u O J) t.heap) A) ([.ref (b t0), .ref (b a1)] : List Value).toArray s 0 0 A) (F0 m 50 ls []) := by
            intro H locs ls hP hS hl
            obtain ⟨x27, ex27, h⟩ := hlet_ex h
            refine lv_iinc (v := x27) (lv' := [(2, .int x27), (0, .ref (b t0)), (1, .ref (b a1))]) hx hb dX3_takeFrom_50 hl (k := 2) rfl (by rw [ex27]; rfl) (by decide) rfl (fun ls hl => ?_)
            refine lv_goto (tgt := 2) hx hb dX3_takeFrom_53 (by decide) ?_
            exact ih _ _ _ _ _ h hP hS (lv_sub hl [1, 2, 0] rfl)
          have h := hv
          refine lv_ifnull hx hb dX3_takeFrom_36 ?_
          refine lv_aload hx hb dX3_takeFrom_39 (lv_at hl 0 rfl) ?_
          refine lv_ifnull hx hb dX3_takeFrom_41 ?_
          refine lv_aload_n hx hb dX3_takeFrom_44 rfl (lv_at hl 1 rfl) ?_
          refine lv_aload hx hb dX3_takeFrom_45 (lv_at hl 0 rfl) ?_
          obtain ⟨q29, hcq29, h⟩ := hb_some h
          refine gdV_v (As := [.ref (b ((a1 + 1) + 3 + p1.toNatClampNeg))]) (rest := []) (BH := (fun (u : Nat → Nat → Int32) H => va_P (dC, dI) vwCl (hW N ca b u O J) H)) X hP hS (c_X6_takeFrom hN hA I2 O J ((t0 + 1) + 3 + p1.toNatClampNeg) ((a1 + 1) + 3 + p1.toNatClampNeg) (sk24 (sk3_1 hk_t0) (gin_lt hgi24)) (sk24 (sk3_1 hk_a1) (gin_lt hgi25)) q29 hcq29) (cwV 1 X.ts gX3_takeFrom_X6_takeFrom rfl rfl rfl (by decide +kernel) ⟨Nat.le_of_ble_eq_true rfl, Nat.le_of_ble_eq_true rfl⟩) (gr6 X hP (sk24 (sk3_1 hk_t0) (gin_lt hgi24)) (sk_in hN (sk24 (sk3_1 hk_t0) (gin_lt hgi24)) (by decide))) rfl hl.1 rfl (Nat.le_of_ble_eq_true rfl) dX3_takeFrom_47 ⟨Nat.le_of_ble_eq_true rfl, Nat.le_of_ble_eq_true rfl⟩ (fun I28 H locs hw hP hS => ?_)
          have hw := hw.symm
          subst hw
          cases h
          exact K50 _ _ _ hP hS (lv_sub hl [2, 3, 4] rfl)
  exact hL2 FU _ _ _ _ _ hv hP hS (lv_sub hl [1, 2, 0] rfl)
def f_X3_at (t0 : Nat) (a1 : Int32) (I : Nat → Nat → Int32) : Option (Option Nat) :=
  if a1 < 0 then
    some (none : Option Nat)
  else
    if (I t0 3) ≤ a1 then
      some (none : Option Nat)
    else
      if a1 < (8 : Int32) then
        hg (gin a1 8) <|
        some (some ((t0 + 1) + 3 + a1.toNatClampNeg))
      else
        some (none : Option Nat)
set_option maxHeartbeats 8000000 in
set_option maxRecDepth 100000 in
theorem c_X3_at {l : Launch} {dC : Nat → ClassId} {dI : Nat → Nat → Nat} {ca : Nat → ClassId} {b : Nat → Nat} {A : Nat → Prop} {N : Nat} (hN : 129 ≤ N) (hA : gAd A b N) (I : Nat → Nat → Int32) (O : Nat → Nat → Option Nat) (J : Nat → Nat → Int64) (t0 : Nat) (a1 : Int32) (hk_t0 : SHK t0 = 3) (res : Option Nat) (h : f_X3_at t0 a1 I = some res) : Met l yX3_at wsX3_at ({ frames := 0, cells := 0, slots := 0, locals := 0 } : Room) (va_Pc [.ref (b t0), .int a1] (gPre dC dI ca b A N I O J)) (va_Qq (fun (r : Option Nat) (u : Unit) => ∃ v, r = Option.map b v ∧ res = v) (fun (u : Unit) t => va_P (dC, dI) vwCl (hW N ca b I O J) t.heap) A) 0 0 A := by
  refine Met.ofW (cc := cX3_at) (maxL := 2) (ret := (some (.object "SparrowRace$Sparrow"))) (by decide) rfl ?_
  intro p e s m args below meth c s₁ B hml hv
  obtain ⟨rfl, hP, hK, hA2, hth⟩ := hv
  have hx := B.exec
  have hb := B.bytes
  have hr := B.returns
  have hlk := B.notSynchronized
  have X : gCx p s m ([.ref (b t0), .int a1] : List Value).toArray c RX3 cX3_at wsX3_at 2 dC dI ca b A N := ⟨hx, hb, hml, findClass_of_methodNamed B.named, atoms_spec (ws := wsX3_at) B.pre, hK, hA, hA2, hth⟩
  have hi3 : ∀ w ∈ wsX30, w ∈ wsX3_at := (fun w h => List.mem_cons_of_mem _ (List.mem_append_right _ h))
  have hS : va_S A s.heap s.heap [] := va_S.rf
  have hl := lv_entry ([.ref (b t0), .int a1] : List Value) (n := 2) (Nat.le_of_ble_eq_true rfl)
  rw [lg_entry_eq]
  generalize (lg_sl ([.ref (b t0), .int a1] : List Value) ++ List.replicate (2 - (lg_sl ([.ref (b t0), .int a1] : List Value)).length) Slot.unset).toArray = ls at hl ⊢
  have hl : lv_has ls 2 [(0, .ref (b t0)), (1, .int a1)] := hl
  unfold f_X3_at at h
  refine lv_iload_n hx hb dX3_at_0 rfl (lv_at hl 1 rfl) ?_
  refine lv_if_lt (tgt := 21) hx hb dX3_at_1 (by decide) (fun c4 => ?_) (fun c4 => ?_)
  · have h := gif_t c4 h
    refine lv_null hx hb dX3_at_21 ?_
    exact W.aret (v := .null) (rt := (.object "SparrowRace$Sparrow")) hx hb hr (Or.inl ⟨_, rfl⟩) (Or.inl rfl) (fun t9 ht hW => ⟨⟨Option.map b (none : Option Nat), (), rfl, ⟨(none : Option Nat), rfl, (Option.some.inj h).symm⟩, gEnd ht hP⟩, hS.F ht⟩) hS.2.2 dX3_at_22 hlk
  · have h := gif_f c4 h
    refine lv_iload_n hx hb dX3_at_4 rfl (lv_at hl 1 rfl) ?_
    refine lv_aload_n hx hb dX3_at_5 rfl (lv_at hl 0 rfl) ?_
    refine gg3_3 X hP hk_t0 (sk_in hN hk_t0 (by decide)) hi3 (List.mem_of_getElem? (i := 1) rfl) dX3_at_6 ?_
    refine lv_icmp_ge (tgt := 21) hx hb dX3_at_9 (by decide) (fun c3 => ?_) (fun c3 => ?_)
    · have h := gif_t c3 h
      refine lv_null hx hb dX3_at_21 ?_
      exact W.aret (v := .null) (rt := (.object "SparrowRace$Sparrow")) hx hb hr (Or.inl ⟨_, rfl⟩) (Or.inl rfl) (fun t9 ht hW => ⟨⟨Option.map b (none : Option Nat), (), rfl, ⟨(none : Option Nat), rfl, (Option.some.inj h).symm⟩, gEnd ht hP⟩, hS.F ht⟩) hS.2.2 dX3_at_22 hlk
    · have h := gif_f c3 h
      refine lv_iload_n hx hb dX3_at_12 rfl (lv_at hl 1 rfl) ?_
      refine lv_aload_n hx hb dX3_at_13 rfl (lv_at hl 0 rfl) ?_
      refine gg3_0 X hP hk_t0 (sk_in hN hk_t0 (by decide)) hi3 (List.mem_of_getElem? (i := 2) rfl) dX3_at_14 ?_
      refine gl24 X hP (sk3_1 hk_t0) (sk_in hN (sk3_1 hk_t0) (by decide)) dX3_at_17 ?_
      refine lv_icmp_lt (tgt := 23) hx hb dX3_at_18 (by decide) (fun c2 => ?_) (fun c2 => ?_)
      · have h := gif_t c2 h
        refine lv_aload_n hx hb dX3_at_23 rfl (lv_at hl 0 rfl) ?_
        refine gg3_0 X hP hk_t0 (sk_in hN hk_t0 (by decide)) hi3 (List.mem_of_getElem? (i := 2) rfl) dX3_at_24 ?_
        refine lv_iload_n hx hb dX3_at_27 rfl (lv_at hl 1 rfl) ?_
        obtain ⟨hgi1, h⟩ := hg_some h
        refine ga24 X hP (sk3_1 hk_t0) (sk_in hN (sk3_1 hk_t0) (by decide)) hgi1 dX3_at_28 ?_
        exact W.aret (v := .ref (b ((t0 + 1) + 3 + a1.toNatClampNeg))) (rt := (.object "SparrowRace$Sparrow")) hx hb hr (Or.inl ⟨_, rfl⟩) (Or.inr ⟨_, rfl⟩) (fun t9 ht hW => ⟨⟨Option.map b (some ((t0 + 1) + 3 + a1.toNatClampNeg)), (), rfl, ⟨(some ((t0 + 1) + 3 + a1.toNatClampNeg)), rfl, (Option.some.inj h).symm⟩, gEnd ht hP⟩, hS.F ht⟩) hS.2.2 dX3_at_29 hlk
      · have h := gif_f c2 h
        refine lv_null hx hb dX3_at_21 ?_
        exact W.aret (v := .null) (rt := (.object "SparrowRace$Sparrow")) hx hb hr (Or.inl ⟨_, rfl⟩) (Or.inl rfl) (fun t9 ht hW => ⟨⟨Option.map b (none : Option Nat), (), rfl, ⟨(none : Option Nat), rfl, (Option.some.inj h).symm⟩, gEnd ht hP⟩, hS.F ht⟩) hS.2.2 dX3_at_22 hlk
def f_X3_limitAt (t0 : Nat) (a1 : Int32) (I : Nat → Nat → Int32) : Option (Int32) :=
  if a1 < 0 then
    some (0 : Int32)
  else
    if (4 : Int32) ≤ a1 then
      some (0 : Int32)
    else
      hg (gin a1 4) <|
      some (I (t0 + 3) (a1.toNatClampNeg))
set_option maxHeartbeats 8000000 in
set_option maxRecDepth 100000 in
theorem c_X3_limitAt {l : Launch} {dC : Nat → ClassId} {dI : Nat → Nat → Nat} {ca : Nat → ClassId} {b : Nat → Nat} {A : Nat → Prop} {N : Nat} (hN : 129 ≤ N) (hA : gAd A b N) (I : Nat → Nat → Int32) (O : Nat → Nat → Option Nat) (J : Nat → Nat → Int64) (t0 : Nat) (a1 : Int32) (hk_t0 : SHK t0 = 3) (res : Int32) (h : f_X3_limitAt t0 a1 I = some res) : Met l yX3_limitAt wsX3_limitAt ({ frames := 0, cells := 0, slots := 0, locals := 0 } : Room) (va_Pc [.ref (b t0), .int a1] (gPre dC dI ca b A N I O J)) (va_Qi (fun (r : Int32) (u : Unit) => res = r) (fun (u : Unit) t => va_P (dC, dI) vwCl (hW N ca b I O J) t.heap) A) 0 0 A := by
  refine Met.ofW (cc := cX3_limitAt) (maxL := 2) (ret := (some .int)) (by decide) rfl ?_
  intro p e s m args below meth c s₁ B hml hv
  obtain ⟨rfl, hP, hK, hA2, hth⟩ := hv
  have hx := B.exec
  have hb := B.bytes
  have hr := B.returns
  have hlk := B.notSynchronized
  have X : gCx p s m ([.ref (b t0), .int a1] : List Value).toArray c RX3 cX3_limitAt wsX3_limitAt 2 dC dI ca b A N := ⟨hx, hb, hml, findClass_of_methodNamed B.named, atoms_spec (ws := wsX3_limitAt) B.pre, hK, hA, hA2, hth⟩
  have hi3 : ∀ w ∈ wsX30, w ∈ wsX3_limitAt := (fun w h => List.mem_cons_of_mem _ (List.mem_append_right _ h))
  have hS : va_S A s.heap s.heap [] := va_S.rf
  have hl := lv_entry ([.ref (b t0), .int a1] : List Value) (n := 2) (Nat.le_of_ble_eq_true rfl)
  rw [lg_entry_eq]
  generalize (lg_sl ([.ref (b t0), .int a1] : List Value) ++ List.replicate (2 - (lg_sl ([.ref (b t0), .int a1] : List Value)).length) Slot.unset).toArray = ls at hl ⊢
  have hl : lv_has ls 2 [(0, .ref (b t0)), (1, .int a1)] := hl
  unfold f_X3_limitAt at h
  refine lv_iload_n hx hb dX3_limitAt_0 rfl (lv_at hl 1 rfl) ?_
  refine lv_if_lt (tgt := 22) hx hb dX3_limitAt_1 (by decide) (fun c3 => ?_) (fun c3 => ?_)
  · have h := gif_t c3 h
    refine lv_iconst (v := 0) hx hb dX3_limitAt_22 (by decide) ?_
    exact W.iret hx hb hr (fun t9 ht hW => ⟨⟨(0 : Int32), (), rfl, (Option.some.inj h).symm, gEnd ht hP⟩, hS.F ht⟩) hS.2.2 dX3_limitAt_23 hlk
  · have h := gif_f c3 h
    refine lv_iload_n hx hb dX3_limitAt_4 rfl (lv_at hl 1 rfl) ?_
    refine lv_aload_n hx hb dX3_limitAt_5 rfl (lv_at hl 0 rfl) ?_
    refine gg3_2 X hP hk_t0 (sk_in hN hk_t0 (by decide)) hi3 (List.mem_of_getElem? (i := 1) rfl) dX3_limitAt_6 ?_
    refine gl20 X hP (sk3_3 hk_t0) (sk_in hN (sk3_3 hk_t0) (by decide)) (L := 4) (sk3_l hk_t0) (v := 4) (by decide) dX3_limitAt_9 ?_
    refine lv_icmp_ge (tgt := 22) hx hb dX3_limitAt_10 (by decide) (fun c2 => ?_) (fun c2 => ?_)
    · have h := gif_t c2 h
      refine lv_iconst (v := 0) hx hb dX3_limitAt_22 (by decide) ?_
      exact W.iret hx hb hr (fun t9 ht hW => ⟨⟨(0 : Int32), (), rfl, (Option.some.inj h).symm, gEnd ht hP⟩, hS.F ht⟩) hS.2.2 dX3_limitAt_23 hlk
    · have h := gif_f c2 h
      refine lv_aload_n hx hb dX3_limitAt_13 rfl (lv_at hl 0 rfl) ?_
      refine gg3_2 X hP hk_t0 (sk_in hN hk_t0 (by decide)) hi3 (List.mem_of_getElem? (i := 1) rfl) dX3_limitAt_14 ?_
      refine lv_iload_n hx hb dX3_limitAt_17 rfl (lv_at hl 1 rfl) ?_
      obtain ⟨hgi1, h⟩ := hg_some h
      refine ga20 X hP (sk3_3 hk_t0) (sk_in hN (sk3_3 hk_t0) (by decide)) (L := 4) (sk3_l hk_t0) hgi1 dX3_limitAt_18 ?_
      refine lv_goto (tgt := 23) hx hb dX3_limitAt_19 (by decide) ?_
      exact W.iret hx hb hr (fun t9 ht hW => ⟨⟨(I (t0 + 3) (a1.toNatClampNeg)), (), rfl, (Option.some.inj h).symm, gEnd ht hP⟩, hS.F ht⟩) hS.2.2 dX3_limitAt_23 hlk
def f_X3_changeLimit (t0 : Nat) (a1 : Int32) (a2 : Int32) (I : Nat → Nat → Int32) : Option (Nat → Nat → Int32) :=
  if a1 < 0 then
    some I
  else
    if (4 : Int32) ≤ a1 then
      some I
    else
      hg (gin a1 4) <|
      hlet (gup I (t0 + 3) (a1.toNatClampNeg) a2) fun I2 =>
      some I2
set_option maxHeartbeats 8000000 in
set_option maxRecDepth 100000 in
theorem c_X3_changeLimit {l : Launch} {dC : Nat → ClassId} {dI : Nat → Nat → Nat} {ca : Nat → ClassId} {b : Nat → Nat} {A : Nat → Prop} {N : Nat} (hN : 129 ≤ N) (hA : gAd A b N) (I : Nat → Nat → Int32) (O : Nat → Nat → Option Nat) (J : Nat → Nat → Int64) (t0 : Nat) (a1 : Int32) (a2 : Int32) (hk_t0 : SHK t0 = 3) (res : Nat → Nat → Int32) (h : f_X3_changeLimit t0 a1 a2 I = some res) : Met l yX3_changeLimit wsX3_changeLimit ({ frames := 0, cells := 0, slots := 0, locals := 0 } : Room) (va_Pc [.ref (b t0), .int a1, .int a2] (gPre dC dI ca b A N I O J)) (va_Qv (fun (u : Nat → Nat → Int32) => res = u) (fun (u : Nat → Nat → Int32) t => va_P (dC, dI) vwCl (hW N ca b u O J) t.heap) A) 0 0 A := by
  refine Met.ofW (cc := cX3_changeLimit) (maxL := 3) (ret := none) (by decide) rfl ?_
  intro p e s m args below meth c s₁ B hml hv
  obtain ⟨rfl, hP, hK, hA2, hth⟩ := hv
  have hx := B.exec
  have hb := B.bytes
  have hr := B.returns
  have hlk := B.notSynchronized
  have X : gCx p s m ([.ref (b t0), .int a1, .int a2] : List Value).toArray c RX3 cX3_changeLimit wsX3_changeLimit 3 dC dI ca b A N := ⟨hx, hb, hml, findClass_of_methodNamed B.named, atoms_spec (ws := wsX3_changeLimit) B.pre, hK, hA, hA2, hth⟩
  have hi3 : ∀ w ∈ wsX30, w ∈ wsX3_changeLimit := (fun w h => List.mem_cons_of_mem _ (List.mem_append_right _ h))
  have hS : va_S A s.heap s.heap [] := va_S.rf
  have hl := lv_entry ([.ref (b t0), .int a1, .int a2] : List Value) (n := 3) (Nat.le_of_ble_eq_true rfl)
  rw [lg_entry_eq]
  generalize (lg_sl ([.ref (b t0), .int a1, .int a2] : List Value) ++ List.replicate (3 - (lg_sl ([.ref (b t0), .int a1, .int a2] : List Value)).length) Slot.unset).toArray = ls at hl ⊢
  have hl : lv_has ls 3 [(0, .ref (b t0)), (1, .int a1), (2, .int a2)] := hl
  unfold f_X3_changeLimit at h
  refine lv_iload_n hx hb dX3_changeLimit_0 rfl (lv_at hl 1 rfl) ?_
  refine lv_if_lt (tgt := 20) hx hb dX3_changeLimit_1 (by decide) (fun c4 => ?_) (fun c4 => ?_)
  · have h := gif_t c4 h
    exact W.vret hx hb hr (fun t9 ht hW => ⟨⟨I, rfl, (Option.some.inj h).symm, gEnd ht hP⟩, hS.F ht⟩) hS.2.2 dX3_changeLimit_20 hlk
  · have h := gif_f c4 h
    refine lv_iload_n hx hb dX3_changeLimit_4 rfl (lv_at hl 1 rfl) ?_
    refine lv_aload_n hx hb dX3_changeLimit_5 rfl (lv_at hl 0 rfl) ?_
    refine gg3_2 X hP hk_t0 (sk_in hN hk_t0 (by decide)) hi3 (List.mem_of_getElem? (i := 1) rfl) dX3_changeLimit_6 ?_
    refine gl20 X hP (sk3_3 hk_t0) (sk_in hN (sk3_3 hk_t0) (by decide)) (L := 4) (sk3_l hk_t0) (v := 4) (by decide) dX3_changeLimit_9 ?_
    refine lv_icmp_ge (tgt := 20) hx hb dX3_changeLimit_10 (by decide) (fun c3 => ?_) (fun c3 => ?_)
    · have h := gif_t c3 h
      exact W.vret hx hb hr (fun t9 ht hW => ⟨⟨I, rfl, (Option.some.inj h).symm, gEnd ht hP⟩, hS.F ht⟩) hS.2.2 dX3_changeLimit_20 hlk
    · have h := gif_f c3 h
      refine lv_aload_n hx hb dX3_changeLimit_13 rfl (lv_at hl 0 rfl) ?_
      refine gg3_2 X hP hk_t0 (sk_in hN hk_t0 (by decide)) hi3 (List.mem_of_getElem? (i := 1) rfl) dX3_changeLimit_14 ?_
      refine lv_iload_n hx hb dX3_changeLimit_17 rfl (lv_at hl 1 rfl) ?_
      refine lv_iload_n hx hb dX3_changeLimit_18 rfl (lv_at hl 2 rfl) ?_
      obtain ⟨hgi1, h⟩ := hg_some h
      refine gs20 X hP hS (sk3_3 hk_t0) (sk_in hN (sk3_3 hk_t0) (by decide)) (L := 4) (sk3_l hk_t0) hgi1 dX3_changeLimit_19 (fun H locs hP hS => ?_)
      obtain ⟨I2, eI2, h⟩ := hlet_ex h
      rw [← eI2] at hP
      exact W.vret hx hb hr (fun t9 ht hW => ⟨⟨I2, rfl, (Option.some.inj h).symm, gEnd ht hP⟩, hS.F ht⟩) hS.2.2 dX3_changeLimit_20 hlk
def f_X3_addSparrow (t0 : Nat) (a1 : Int32) (a2 : Int32) (a3 : Int32) (I : Nat → Nat → Int32) : Option (Int32 × (Nat → Nat → Int32)) :=
  hlet (gup I t0 3 ((I t0 3) + (1 : Int32))) fun I1 =>
  (f_X3_at t0 ((I1 t0 3) - (1 : Int32)) I1).bind fun r2 =>
  (show Option (Nat → Nat → Int32) from
    hopt r2 (
      some I1) fun n5 => hk n5 6 <|
    hlet (gup I1 n5 1 a1) fun I6 =>
    hlet (gup I6 n5 2 a2) fun I7 =>
    hlet (gup I7 n5 3 a3) fun I8 =>
    hlet (gup I8 n5 12 (-1 : Int32)) fun I9 =>
    (f_X6_goToStart n5 (0 : Int32) I9).bind fun I10 =>
    some I10).bind fun I4 =>
  some (((I4 t0 3) - (1 : Int32)), I4)
set_option maxHeartbeats 8000000 in
set_option maxRecDepth 100000 in
theorem c_X3_addSparrow {l : Launch} {dC : Nat → ClassId} {dI : Nat → Nat → Nat} {ca : Nat → ClassId} {b : Nat → Nat} {A : Nat → Prop} {N : Nat} (hN : 129 ≤ N) (hA : gAd A b N) (I : Nat → Nat → Int32) (O : Nat → Nat → Option Nat) (J : Nat → Nat → Int64) (t0 : Nat) (a1 : Int32) (a2 : Int32) (a3 : Int32) (hk_t0 : SHK t0 = 3) (res : Int32 × (Nat → Nat → Int32)) (h : f_X3_addSparrow t0 a1 a2 a3 I = some res) : Met l yX3_addSparrow wsX3_addSparrow ({ frames := 1, cells := 0, slots := 0, locals := 21 } : Room) (va_Pc [.ref (b t0), .int a1, .int a2, .int a3] (gPre dC dI ca b A N I O J)) (va_Qi (fun (r : Int32) (u : Nat → Nat → Int32) => res = (r, u)) (fun (u : Nat → Nat → Int32) t => va_P (dC, dI) vwCl (hW N ca b u O J) t.heap) A) 0 0 A := by
  refine Met.ofW (cc := cX3_addSparrow) (maxL := 5) (ret := (some .int)) (by decide) rfl ?_
  intro p e s m args below meth c s₁ B hml hv
  obtain ⟨rfl, hP, hK, hA2, hth⟩ := hv
  have hx := B.exec
  have hb := B.bytes
  have hr := B.returns
  have hlk := B.notSynchronized
  have X : gCx p s m ([.ref (b t0), .int a1, .int a2, .int a3] : List Value).toArray c RX3 cX3_addSparrow wsX3_addSparrow 5 dC dI ca b A N := ⟨hx, hb, hml, findClass_of_methodNamed B.named, atoms_spec (ws := wsX3_addSparrow) B.pre, hK, hA, hA2, hth⟩
  have hi3 : ∀ w ∈ wsX30, w ∈ wsX3_addSparrow := (fun w h => List.mem_cons_of_mem _ (List.mem_append_left _ (List.mem_append_right _ h)))
  have hi6 : ∀ w ∈ wsX60, w ∈ wsX3_addSparrow := (fun w h => List.mem_cons_of_mem _ (List.mem_append_right _ h))
  have hS : va_S A s.heap s.heap [] := va_S.rf
  have hl := lv_entry ([.ref (b t0), .int a1, .int a2, .int a3] : List Value) (n := 5) (Nat.le_of_ble_eq_true rfl)
  rw [lg_entry_eq]
  generalize (lg_sl ([.ref (b t0), .int a1, .int a2, .int a3] : List Value) ++ List.replicate (5 - (lg_sl ([.ref (b t0), .int a1, .int a2, .int a3] : List Value)).length) Slot.unset).toArray = ls at hl ⊢
  have hl : lv_has ls 5 [(0, .ref (b t0)), (1, .int a1), (2, .int a2), (3, .int a3)] := hl
  unfold f_X3_addSparrow at h
  refine lv_aload_n hx hb dX3_addSparrow_0 rfl (lv_at hl 0 rfl) ?_
  refine lv_dup hx hb dX3_addSparrow_1 rfl ?_
  refine gg3_3 X hP hk_t0 (sk_in hN hk_t0 (by decide)) hi3 (List.mem_of_getElem? (i := 1) rfl) dX3_addSparrow_2 ?_
  refine lv_iconst (v := 1) hx hb dX3_addSparrow_5 (by decide) ?_
  refine lv_iadd hx hb dX3_addSparrow_6 ?_
  refine gp3_3 X hP hS hk_t0 (sk_in hN hk_t0 (by decide)) hi3 (List.mem_of_getElem? (i := 1) rfl) dX3_addSparrow_7 (fun H locs hP hS => ?_)
  obtain ⟨I1, eI1, h⟩ := hlet_ex h
  rw [← eI1] at hP
  refine lv_aload_n hx hb dX3_addSparrow_10 rfl (lv_at hl 0 rfl) ?_
  refine lv_aload_n hx hb dX3_addSparrow_11 rfl (lv_at hl 0 rfl) ?_
  refine gg3_3 X hP hk_t0 (sk_in hN hk_t0 (by decide)) hi3 (List.mem_of_getElem? (i := 1) rfl) dX3_addSparrow_12 ?_
  refine lv_iconst (v := 1) hx hb dX3_addSparrow_15 (by decide) ?_
  refine lv_isub hx hb dX3_addSparrow_16 ?_
  obtain ⟨q3, hcq3, h⟩ := hb_some h
  refine gdV_q (As := [.int ((I1 t0 3) - (1 : Int32))]) (rest := []) (BH := (fun (u : Unit) H => va_P (dC, dI) vwCl (hW N ca b I1 O J) H)) X hP hS (c_X3_at hN hA I1 O J t0 ((I1 t0 3) - (1 : Int32)) hk_t0 q3 hcq3) (cwV 1 X.ts gX3_addSparrow_X3_at rfl rfl rfl (by decide +kernel) ⟨Nat.le_of_ble_eq_true rfl, Nat.le_of_ble_eq_true rfl⟩) (gr3 X hP hk_t0 (sk_in hN hk_t0 (by decide))) rfl hl.1 rfl (Nat.le_of_ble_eq_true rfl) dX3_addSparrow_17 ⟨Nat.le_of_ble_eq_true rfl, Nat.le_of_ble_eq_true rfl⟩ (fun r2 u9 H locs hw hP hS => ?_)
  obtain ⟨r2, rfl, hw⟩ := hw
  have hw := hw.symm
  subst hw
  refine gv_astore (r := Option.map b r2) (lv' := [(4, va_rf (Option.map b r2)), (0, .ref (b t0)), (1, .int a1), (2, .int a2), (3, .int a3)]) hx hb dX3_addSparrow_20 hl (by decide) rfl (fun ls hl => ?_)
  refine gv_aload (r := Option.map b r2) hx hb dX3_addSparrow_22 (lv_at hl 0 rfl) ?_
  obtain ⟨I4, hv, h⟩ := hb_some h
  have K57 : ∀ (H : Heap) (locs : List Loc) (ls : Array Slot), va_P (dC, dI) vwCl (hW N ca b I4 O J) H → va_S A s.heap H locs → lv_has ls 5 [(0, .ref (b t0))] → W p l e (headSpec wsX3_addSparrow ({ frames := 1, cells := 0, slots := 0, locals := 21 } : Room)).room s m ([.ref (b t0), .int a1, .int a2, .int a3] : List Value).toArray below meth c H locs 0 0 (MQ below (va_Qi (fun (r : Int32) (u : Nat → Nat → Int32) => res = (r, u)) (fun (u : Nat → Nat → Int32) t => va_P (dC, dI) vwCl (hW N ca b u O J) t.heap) A) ([.ref (b t0), .int a1, .int a2, .int a3] : List Value).toArray s 0 0 A) (F0 m 57 ls []) := by
    intro H locs ls hP hS hl
    refine lv_aload_n hx hb dX3_addSparrow_57 rfl (lv_at hl 0 rfl) ?_
    refine gg3_3 X hP hk_t0 (sk_in hN hk_t0 (by decide)) hi3 (List.mem_of_getElem? (i := 1) rfl) dX3_addSparrow_58 ?_
    refine lv_iconst (v := 1) hx hb dX3_addSparrow_61 (by decide) ?_
    refine lv_isub hx hb dX3_addSparrow_62 ?_
    exact W.iret hx hb hr (fun t9 ht hW => ⟨⟨((I4 t0 3) - (1 : Int32)), I4, rfl, (Option.some.inj h).symm, gEnd ht hP⟩, hS.F ht⟩) hS.2.2 dX3_addSparrow_63 hlk
  have h := hv
  cases r2 with
  | none =>
    have h := hopt_n h
    refine lv_ifnullN (tgt := 57) hx hb dX3_addSparrow_24 (by decide) ?_
    cases h
    exact K57 _ _ _ hP hS (lv_sub hl [1] rfl)
  | some n5 =>
    obtain ⟨hk_n5, h⟩ := hk_some (hopt_s h)
    refine lv_ifnull hx hb dX3_addSparrow_24 ?_
    refine lv_aload hx hb dX3_addSparrow_27 (lv_at hl 0 rfl) ?_
    refine lv_iload_n hx hb dX3_addSparrow_29 rfl (lv_at hl 2 rfl) ?_
    refine gp6_1 X hP hS hk_n5 (sk_in hN hk_n5 (by decide)) hi6 (List.mem_of_getElem? (i := 2) rfl) dX3_addSparrow_30 (fun H locs hP hS => ?_)
    obtain ⟨I6, eI6, h⟩ := hlet_ex h
    rw [← eI6] at hP
    refine lv_aload hx hb dX3_addSparrow_33 (lv_at hl 0 rfl) ?_
    refine lv_iload_n hx hb dX3_addSparrow_35 rfl (lv_at hl 3 rfl) ?_
    refine gp6_2 X hP hS hk_n5 (sk_in hN hk_n5 (by decide)) hi6 (List.mem_of_getElem? (i := 3) rfl) dX3_addSparrow_36 (fun H locs hP hS => ?_)
    obtain ⟨I7, eI7, h⟩ := hlet_ex h
    rw [← eI7] at hP
    refine lv_aload hx hb dX3_addSparrow_39 (lv_at hl 0 rfl) ?_
    refine lv_iload_n hx hb dX3_addSparrow_41 rfl (lv_at hl 4 rfl) ?_
    refine gp6_3 X hP hS hk_n5 (sk_in hN hk_n5 (by decide)) hi6 (List.mem_of_getElem? (i := 4) rfl) dX3_addSparrow_42 (fun H locs hP hS => ?_)
    obtain ⟨I8, eI8, h⟩ := hlet_ex h
    rw [← eI8] at hP
    refine lv_aload hx hb dX3_addSparrow_45 (lv_at hl 0 rfl) ?_
    refine lv_iconst (v := (-1)) hx hb dX3_addSparrow_47 (by decide) ?_
    refine gp6_12 X hP hS hk_n5 (sk_in hN hk_n5 (by decide)) hi6 (List.mem_of_getElem? (i := 5) rfl) dX3_addSparrow_48 (fun H locs hP hS => ?_)
    obtain ⟨I9, eI9, h⟩ := hlet_ex h
    rw [← eI9] at hP
    refine lv_aload hx hb dX3_addSparrow_51 (lv_at hl 0 rfl) ?_
    refine lv_iconst (v := 0) hx hb dX3_addSparrow_53 (by decide) ?_
    obtain ⟨q11, hcq11, h⟩ := hb_some h
    refine gdV_v (As := [.int (0 : Int32)]) (rest := []) (BH := (fun (u : Nat → Nat → Int32) H => va_P (dC, dI) vwCl (hW N ca b u O J) H)) X hP hS (c_X6_goToStart hN hA I9 O J n5 (0 : Int32) hk_n5 q11 hcq11) (cwV 1 X.ts gX3_addSparrow_X6_goToStart rfl rfl rfl (by decide +kernel) ⟨Nat.le_of_ble_eq_true rfl, Nat.le_of_ble_eq_true rfl⟩) (gr6 X hP hk_n5 (sk_in hN hk_n5 (by decide))) rfl hl.1 rfl (Nat.le_of_ble_eq_true rfl) dX3_addSparrow_54 ⟨Nat.le_of_ble_eq_true rfl, Nat.le_of_ble_eq_true rfl⟩ (fun I10 H locs hw hP hS => ?_)
    have hw := hw.symm
    subst hw
    cases h
    exact K57 _ _ _ hP hS (lv_sub hl [1] rfl)
def f_X3_partFromPartner (t0 : Nat) (a1 : Nat) (I : Nat → Nat → Int32) : Option (Nat → Nat → Int32) :=
  (f_X3_at t0 (I a1 12) I).bind fun r1 =>
  (show Option (Nat → Nat → Int32) from
    hopt r1 (
      some I) fun n5 => hk n5 6 <|
    hlet (gup I n5 12 (-1 : Int32)) fun I6 =>
    some I6).bind fun I3 =>
  hlet (gup I3 a1 12 (-1 : Int32)) fun I4 =>
  some I4
set_option maxHeartbeats 8000000 in
set_option maxRecDepth 100000 in
theorem c_X3_partFromPartner {l : Launch} {dC : Nat → ClassId} {dI : Nat → Nat → Nat} {ca : Nat → ClassId} {b : Nat → Nat} {A : Nat → Prop} {N : Nat} (hN : 129 ≤ N) (hA : gAd A b N) (I : Nat → Nat → Int32) (O : Nat → Nat → Option Nat) (J : Nat → Nat → Int64) (t0 : Nat) (a1 : Nat) (hk_t0 : SHK t0 = 3) (hk_a1 : SHK a1 = 6) (res : Nat → Nat → Int32) (h : f_X3_partFromPartner t0 a1 I = some res) : Met l yX3_partFromPartner wsX3_partFromPartner ({ frames := 1, cells := 0, slots := 0, locals := 21 } : Room) (va_Pc [.ref (b t0), .ref (b a1)] (gPre dC dI ca b A N I O J)) (va_Qv (fun (u : Nat → Nat → Int32) => res = u) (fun (u : Nat → Nat → Int32) t => va_P (dC, dI) vwCl (hW N ca b u O J) t.heap) A) 0 0 A := by
  refine Met.ofW (cc := cX3_partFromPartner) (maxL := 3) (ret := none) (by decide) rfl ?_
  intro p e s m args below meth c s₁ B hml hv
  obtain ⟨rfl, hP, hK, hA2, hth⟩ := hv
  have hx := B.exec
  have hb := B.bytes
  have hr := B.returns
  have hlk := B.notSynchronized
  have X : gCx p s m ([.ref (b t0), .ref (b a1)] : List Value).toArray c RX3 cX3_partFromPartner wsX3_partFromPartner 3 dC dI ca b A N := ⟨hx, hb, hml, findClass_of_methodNamed B.named, atoms_spec (ws := wsX3_partFromPartner) B.pre, hK, hA, hA2, hth⟩
  have hi6 : ∀ w ∈ wsX60, w ∈ wsX3_partFromPartner := (fun w h => List.mem_cons_of_mem _ (List.mem_append_left _ (List.mem_append_right _ h)))
  have hS : va_S A s.heap s.heap [] := va_S.rf
  have hl := lv_entry ([.ref (b t0), .ref (b a1)] : List Value) (n := 3) (Nat.le_of_ble_eq_true rfl)
  rw [lg_entry_eq]
  generalize (lg_sl ([.ref (b t0), .ref (b a1)] : List Value) ++ List.replicate (3 - (lg_sl ([.ref (b t0), .ref (b a1)] : List Value)).length) Slot.unset).toArray = ls at hl ⊢
  have hl : lv_has ls 3 [(0, .ref (b t0)), (1, .ref (b a1))] := hl
  unfold f_X3_partFromPartner at h
  refine lv_aload_n hx hb dX3_partFromPartner_0 rfl (lv_at hl 0 rfl) ?_
  refine lv_aload_n hx hb dX3_partFromPartner_1 rfl (lv_at hl 1 rfl) ?_
  refine gg6_12 X hP hk_a1 (sk_in hN hk_a1 (by decide)) hi6 (List.mem_of_getElem? (i := 1) rfl) dX3_partFromPartner_2 ?_
  obtain ⟨q2, hcq2, h⟩ := hb_some h
  refine gdV_q (As := [.int (I a1 12)]) (rest := []) (BH := (fun (u : Unit) H => va_P (dC, dI) vwCl (hW N ca b I O J) H)) X hP hS (c_X3_at hN hA I O J t0 (I a1 12) hk_t0 q2 hcq2) (cwV 1 X.ts gX3_partFromPartner_X3_at rfl rfl rfl (by decide +kernel) ⟨Nat.le_of_ble_eq_true rfl, Nat.le_of_ble_eq_true rfl⟩) (gr3 X hP hk_t0 (sk_in hN hk_t0 (by decide))) rfl hl.1 rfl (Nat.le_of_ble_eq_true rfl) dX3_partFromPartner_5 ⟨Nat.le_of_ble_eq_true rfl, Nat.le_of_ble_eq_true rfl⟩ (fun r1 u9 H locs hw hP hS => ?_)
  obtain ⟨r1, rfl, hw⟩ := hw
  have hw := hw.symm
  subst hw
  refine gv_astore_n (r := Option.map b r1) (lv' := [(2, va_rf (Option.map b r1)), (0, .ref (b t0)), (1, .ref (b a1))]) hx hb dX3_partFromPartner_8 rfl hl (by decide) rfl (fun ls hl => ?_)
  refine gv_aload_n (r := Option.map b r1) hx hb dX3_partFromPartner_9 rfl (lv_at hl 0 rfl) ?_
  obtain ⟨I3, hv, h⟩ := hb_some h
  have K18 : ∀ (H : Heap) (locs : List Loc) (ls : Array Slot), va_P (dC, dI) vwCl (hW N ca b I3 O J) H → va_S A s.heap H locs → lv_has ls 3 [(1, .ref (b a1))] → W p l e (headSpec wsX3_partFromPartner ({ frames := 1, cells := 0, slots := 0, locals := 21 } : Room)).room s m ([.ref (b t0), .ref (b a1)] : List Value).toArray below meth c H locs 0 0 (MQ below (va_Qv (fun (u : Nat → Nat → Int32) => res = u) (fun (u : Nat → Nat → Int32) t => va_P (dC, dI) vwCl (hW N ca b u O J) t.heap) A) ([.ref (b t0), .ref (b a1)] : List Value).toArray s 0 0 A) (F0 m 18 ls []) := by
    intro H locs ls hP hS hl
    refine lv_aload_n hx hb dX3_partFromPartner_18 rfl (lv_at hl 0 rfl) ?_
    refine lv_iconst (v := (-1)) hx hb dX3_partFromPartner_19 (by decide) ?_
    refine gp6_12 X hP hS hk_a1 (sk_in hN hk_a1 (by decide)) hi6 (List.mem_of_getElem? (i := 1) rfl) dX3_partFromPartner_20 (fun H locs hP hS => ?_)
    obtain ⟨I4, eI4, h⟩ := hlet_ex h
    rw [← eI4] at hP
    exact W.vret hx hb hr (fun t9 ht hW => ⟨⟨I4, rfl, (Option.some.inj h).symm, gEnd ht hP⟩, hS.F ht⟩) hS.2.2 dX3_partFromPartner_23 hlk
  have h := hv
  cases r1 with
  | none =>
    have h := hopt_n h
    refine lv_ifnullN (tgt := 18) hx hb dX3_partFromPartner_10 (by decide) ?_
    cases h
    exact K18 _ _ _ hP hS (lv_sub hl [2] rfl)
  | some n5 =>
    obtain ⟨hk_n5, h⟩ := hk_some (hopt_s h)
    refine lv_ifnull hx hb dX3_partFromPartner_10 ?_
    refine lv_aload_n hx hb dX3_partFromPartner_13 rfl (lv_at hl 0 rfl) ?_
    refine lv_iconst (v := (-1)) hx hb dX3_partFromPartner_14 (by decide) ?_
    refine gp6_12 X hP hS hk_n5 (sk_in hN hk_n5 (by decide)) hi6 (List.mem_of_getElem? (i := 1) rfl) dX3_partFromPartner_15 (fun H locs hP hS => ?_)
    obtain ⟨I6, eI6, h⟩ := hlet_ex h
    rw [← eI6] at hP
    cases h
    exact K18 _ _ _ hP hS (lv_sub hl [2] rfl)
def f_X3_makePair (t0 : Nat) (a1 : Nat) (a2 : Nat) (I : Nat → Nat → Int32) : Option (Nat → Nat → Int32) :=
  (f_X3_partFromPartner t0 a1 I).bind fun I1 =>
  (f_X3_partFromPartner t0 a2 I1).bind fun I3 =>
  hlet (gup I3 a1 12 (I3 a2 0)) fun I5 =>
  hlet (gup I5 a2 12 (I5 a1 0)) fun I6 =>
  some I6
set_option maxHeartbeats 8000000 in
set_option maxRecDepth 100000 in
theorem c_X3_makePair {l : Launch} {dC : Nat → ClassId} {dI : Nat → Nat → Nat} {ca : Nat → ClassId} {b : Nat → Nat} {A : Nat → Prop} {N : Nat} (hN : 129 ≤ N) (hA : gAd A b N) (I : Nat → Nat → Int32) (O : Nat → Nat → Option Nat) (J : Nat → Nat → Int64) (t0 : Nat) (a1 : Nat) (a2 : Nat) (hk_t0 : SHK t0 = 3) (hk_a1 : SHK a1 = 6) (hk_a2 : SHK a2 = 6) (res : Nat → Nat → Int32) (h : f_X3_makePair t0 a1 a2 I = some res) : Met l yX3_makePair wsX3_makePair ({ frames := 2, cells := 0, slots := 0, locals := 43 } : Room) (va_Pc [.ref (b t0), .ref (b a1), .ref (b a2)] (gPre dC dI ca b A N I O J)) (va_Qv (fun (u : Nat → Nat → Int32) => res = u) (fun (u : Nat → Nat → Int32) t => va_P (dC, dI) vwCl (hW N ca b u O J) t.heap) A) 0 0 A := by
  refine Met.ofW (cc := cX3_makePair) (maxL := 3) (ret := none) (by decide) rfl ?_
  intro p e s m args below meth c s₁ B hml hv
  obtain ⟨rfl, hP, hK, hA2, hth⟩ := hv
  have hx := B.exec
  have hb := B.bytes
  have hr := B.returns
  have hlk := B.notSynchronized
  have X : gCx p s m ([.ref (b t0), .ref (b a1), .ref (b a2)] : List Value).toArray c RX3 cX3_makePair wsX3_makePair 3 dC dI ca b A N := ⟨hx, hb, hml, findClass_of_methodNamed B.named, atoms_spec (ws := wsX3_makePair) B.pre, hK, hA, hA2, hth⟩
  have hi6 : ∀ w ∈ wsX60, w ∈ wsX3_makePair := (fun w h => List.mem_cons_of_mem _ (List.mem_append_left _ (List.mem_append_right _ h)))
  have hS : va_S A s.heap s.heap [] := va_S.rf
  have hl := lv_entry ([.ref (b t0), .ref (b a1), .ref (b a2)] : List Value) (n := 3) (Nat.le_of_ble_eq_true rfl)
  rw [lg_entry_eq]
  generalize (lg_sl ([.ref (b t0), .ref (b a1), .ref (b a2)] : List Value) ++ List.replicate (3 - (lg_sl ([.ref (b t0), .ref (b a1), .ref (b a2)] : List Value)).length) Slot.unset).toArray = ls at hl ⊢
  have hl : lv_has ls 3 [(0, .ref (b t0)), (1, .ref (b a1)), (2, .ref (b a2))] := hl
  unfold f_X3_makePair at h
  refine lv_aload_n hx hb dX3_makePair_0 rfl (lv_at hl 0 rfl) ?_
  refine lv_aload_n hx hb dX3_makePair_1 rfl (lv_at hl 1 rfl) ?_
  obtain ⟨q2, hcq2, h⟩ := hb_some h
  refine gdV_v (As := [.ref (b a1)]) (rest := []) (BH := (fun (u : Nat → Nat → Int32) H => va_P (dC, dI) vwCl (hW N ca b u O J) H)) X hP hS (c_X3_partFromPartner hN hA I O J t0 a1 hk_t0 hk_a1 q2 hcq2) (cwV 1 X.ts gX3_makePair_X3_partFromPartner rfl rfl rfl (by decide +kernel) ⟨Nat.le_of_ble_eq_true rfl, Nat.le_of_ble_eq_true rfl⟩) (gr3 X hP hk_t0 (sk_in hN hk_t0 (by decide))) rfl hl.1 rfl (Nat.le_of_ble_eq_true rfl) dX3_makePair_2 ⟨Nat.le_of_ble_eq_true rfl, Nat.le_of_ble_eq_true rfl⟩ (fun I1 H locs hw hP hS => ?_)
  have hw := hw.symm
  subst hw
  refine lv_aload_n hx hb dX3_makePair_5 rfl (lv_at hl 0 rfl) ?_
  refine lv_aload_n hx hb dX3_makePair_6 rfl (lv_at hl 2 rfl) ?_
  obtain ⟨q4, hcq4, h⟩ := hb_some h
  refine gdV_v (As := [.ref (b a2)]) (rest := []) (BH := (fun (u : Nat → Nat → Int32) H => va_P (dC, dI) vwCl (hW N ca b u O J) H)) X hP hS (c_X3_partFromPartner hN hA I1 O J t0 a2 hk_t0 hk_a2 q4 hcq4) (cwV 1 X.ts gX3_makePair_X3_partFromPartner rfl rfl rfl (by decide +kernel) ⟨Nat.le_of_ble_eq_true rfl, Nat.le_of_ble_eq_true rfl⟩) (gr3 X hP hk_t0 (sk_in hN hk_t0 (by decide))) rfl hl.1 rfl (Nat.le_of_ble_eq_true rfl) dX3_makePair_7 ⟨Nat.le_of_ble_eq_true rfl, Nat.le_of_ble_eq_true rfl⟩ (fun I3 H locs hw hP hS => ?_)
  have hw := hw.symm
  subst hw
  refine lv_aload_n hx hb dX3_makePair_10 rfl (lv_at hl 1 rfl) ?_
  refine lv_aload_n hx hb dX3_makePair_11 rfl (lv_at hl 2 rfl) ?_
  refine gg6_0 X hP hk_a2 (sk_in hN hk_a2 (by decide)) hi6 (List.mem_of_getElem? (i := 1) rfl) dX3_makePair_12 ?_
  refine gp6_12 X hP hS hk_a1 (sk_in hN hk_a1 (by decide)) hi6 (List.mem_of_getElem? (i := 2) rfl) dX3_makePair_15 (fun H locs hP hS => ?_)
  obtain ⟨I5, eI5, h⟩ := hlet_ex h
  rw [← eI5] at hP
  refine lv_aload_n hx hb dX3_makePair_18 rfl (lv_at hl 2 rfl) ?_
  refine lv_aload_n hx hb dX3_makePair_19 rfl (lv_at hl 1 rfl) ?_
  refine gg6_0 X hP hk_a1 (sk_in hN hk_a1 (by decide)) hi6 (List.mem_of_getElem? (i := 1) rfl) dX3_makePair_20 ?_
  refine gp6_12 X hP hS hk_a2 (sk_in hN hk_a2 (by decide)) hi6 (List.mem_of_getElem? (i := 2) rfl) dX3_makePair_23 (fun H locs hP hS => ?_)
  obtain ⟨I6, eI6, h⟩ := hlet_ex h
  rw [← eI6] at hP
  exact W.vret hx hb hr (fun t9 ht hW => ⟨⟨I6, rfl, (Option.some.inj h).symm, gEnd ht hP⟩, hS.F ht⟩) hS.2.2 dX3_makePair_26 hlk
def f_X3_isThere (t0 : Nat) (a1 : Option Nat) (I : Nat → Nat → Int32) : Option (Int32) :=
  hopt a1 (
    some (0 : Int32)) fun n1 => hk n1 6 <|
  if (I t0 3) ≤ (I n1 0) then
    some (0 : Int32)
  else
    some (1 : Int32)
set_option maxHeartbeats 8000000 in
set_option maxRecDepth 100000 in
theorem c_X3_isThere {l : Launch} {dC : Nat → ClassId} {dI : Nat → Nat → Nat} {ca : Nat → ClassId} {b : Nat → Nat} {A : Nat → Prop} {N : Nat} (hN : 129 ≤ N) (hA : gAd A b N) (I : Nat → Nat → Int32) (O : Nat → Nat → Option Nat) (J : Nat → Nat → Int64) (t0 : Nat) (a1 : Option Nat) (hk_t0 : SHK t0 = 3) (res : Int32) (h : f_X3_isThere t0 a1 I = some res) : Met l yX3_isThere wsX3_isThere ({ frames := 0, cells := 0, slots := 0, locals := 0 } : Room) (va_Pc [.ref (b t0), va_rf (Option.map b a1)] (gPre dC dI ca b A N I O J)) (va_Qi (fun (r : Int32) (u : Unit) => res = r) (fun (u : Unit) t => va_P (dC, dI) vwCl (hW N ca b I O J) t.heap) A) 0 0 A := by
  refine Met.ofW (cc := cX3_isThere) (maxL := 2) (ret := (some .boolean)) (by decide) rfl ?_
  intro p e s m args below meth c s₁ B hml hv
  obtain ⟨rfl, hP, hK, hA2, hth⟩ := hv
  have hx := B.exec
  have hb := B.bytes
  have hr := B.returns
  have hlk := B.notSynchronized
  have X : gCx p s m ([.ref (b t0), va_rf (Option.map b a1)] : List Value).toArray c RX3 cX3_isThere wsX3_isThere 2 dC dI ca b A N := ⟨hx, hb, hml, findClass_of_methodNamed B.named, atoms_spec (ws := wsX3_isThere) B.pre, hK, hA, hA2, hth⟩
  have hi3 : ∀ w ∈ wsX30, w ∈ wsX3_isThere := (fun w h => List.mem_cons_of_mem _ (List.mem_append_right _ h))
  have hi6 : ∀ w ∈ wsX60, w ∈ wsX3_isThere := (fun w h => List.mem_cons_of_mem _ (List.mem_append_left _ (List.mem_append_right _ h)))
  have hS : va_S A s.heap s.heap [] := va_S.rf
  have hl := lv_entry ([.ref (b t0), va_rf (Option.map b a1)] : List Value) (n := 2) (by simp [lg_sl, va_rf_cat, cat_ref, cat_int])
  rw [lg_entry_eq]
  generalize (lg_sl ([.ref (b t0), va_rf (Option.map b a1)] : List Value) ++ List.replicate (2 - (lg_sl ([.ref (b t0), va_rf (Option.map b a1)] : List Value)).length) Slot.unset).toArray = ls at hl ⊢
  have hl : lv_has ls 2 [(0, .ref (b t0)), (1, va_rf (Option.map b a1))] := by simpa [lv_args, va_rf_cat, cat_ref, cat_int] using hl
  unfold f_X3_isThere at h
  refine gv_aload_n (r := Option.map b a1) hx hb dX3_isThere_0 rfl (lv_at hl 1 rfl) ?_
  cases a1 with
  | none =>
    have h := hopt_n h
    refine lv_ifnullN (tgt := 19) hx hb dX3_isThere_1 (by decide) ?_
    refine lv_iconst (v := 0) hx hb dX3_isThere_19 (by decide) ?_
    exact W.zret (ty := .boolean) hx hb hr (by decide) (fun t9 ht hW => ⟨⟨(0 : Int32), (), rfl, (Option.some.inj h).symm, gEnd ht hP⟩, hS.F ht⟩) hS.2.2 dX3_isThere_20 hlk
  | some n1 =>
    obtain ⟨hk_n1, h⟩ := hk_some (hopt_s h)
    refine lv_ifnull hx hb dX3_isThere_1 ?_
    refine lv_aload_n hx hb dX3_isThere_4 rfl (lv_at hl 1 rfl) ?_
    refine gg6_0 X hP hk_n1 (sk_in hN hk_n1 (by decide)) hi6 (List.mem_of_getElem? (i := 1) rfl) dX3_isThere_5 ?_
    refine lv_aload_n hx hb dX3_isThere_8 rfl (lv_at hl 0 rfl) ?_
    refine gg3_3 X hP hk_t0 (sk_in hN hk_t0 (by decide)) hi3 (List.mem_of_getElem? (i := 2) rfl) dX3_isThere_9 ?_
    refine lv_icmp_ge (tgt := 19) hx hb dX3_isThere_12 (by decide) (fun c2 => ?_) (fun c2 => ?_)
    · have h := gif_t c2 h
      refine lv_iconst (v := 0) hx hb dX3_isThere_19 (by decide) ?_
      exact W.zret (ty := .boolean) hx hb hr (by decide) (fun t9 ht hW => ⟨⟨(0 : Int32), (), rfl, (Option.some.inj h).symm, gEnd ht hP⟩, hS.F ht⟩) hS.2.2 dX3_isThere_20 hlk
    · have h := gif_f c2 h
      refine lv_iconst (v := 1) hx hb dX3_isThere_15 (by decide) ?_
      refine lv_goto (tgt := 20) hx hb dX3_isThere_16 (by decide) ?_
      exact W.zret (ty := .boolean) hx hb hr (by decide) (fun t9 ht hW => ⟨⟨(1 : Int32), (), rfl, (Option.some.inj h).symm, gEnd ht hP⟩, hS.F ht⟩) hS.2.2 dX3_isThere_20 hlk
def f_X3_countPairs_L13 (t0 : Nat) (I : Nat → Nat → Int32) : Nat → Int32 → Int32 → Option (Int32)
  | 0, _, _ => none
  | fuel + 1, p1, p2 =>
    if (8 : Int32) ≤ p2 then
      some p1
    else
      hg (gin p2 8) <|
      (f_X3_isThere t0 (some ((t0 + 1) + 3 + p2.toNatClampNeg)) I).bind fun r5 =>
      (show Option (Int32) from
        if r5 = 0 then
          some p1
        else
          if (I ((t0 + 1) + 3 + p2.toNatClampNeg) 12) ≤ (I ((t0 + 1) + 3 + p2.toNatClampNeg) 0) then
            some p1
          else
            hlet (p1 + 1) fun x9 =>
            some x9).bind fun p7 =>
      hlet (p2 + 1) fun x8 =>
      f_X3_countPairs_L13 t0 I fuel p7 x8
def f_X3_countPairs (t0 : Nat) (I : Nat → Nat → Int32) : Option (Int32) :=
  (f_X3_countPairs_L13 t0 I FU (0 : Int32) (0 : Int32)).bind fun p3 =>
  some p3
set_option maxHeartbeats 8000000 in
set_option maxRecDepth 100000 in
theorem c_X3_countPairs {l : Launch} {dC : Nat → ClassId} {dI : Nat → Nat → Nat} {ca : Nat → ClassId} {b : Nat → Nat} {A : Nat → Prop} {N : Nat} (hN : 129 ≤ N) (hA : gAd A b N) (I : Nat → Nat → Int32) (O : Nat → Nat → Option Nat) (J : Nat → Nat → Int64) (t0 : Nat) (hk_t0 : SHK t0 = 3) (res : Int32) (h : f_X3_countPairs t0 I = some res) : Met l yX3_countPairs wsX3_countPairs ({ frames := 1, cells := 0, slots := 0, locals := 21 } : Room) (va_Pc [.ref (b t0)] (gPre dC dI ca b A N I O J)) (va_Qi (fun (r : Int32) (u : Unit) => res = r) (fun (u : Unit) t => va_P (dC, dI) vwCl (hW N ca b I O J) t.heap) A) 0 0 A := by
  refine Met.ofW (cc := cX3_countPairs) (maxL := 6) (ret := (some .int)) (by decide) rfl ?_
  intro p e s m args below meth c s₁ B hml hv
  obtain ⟨rfl, hP, hK, hA2, hth⟩ := hv
  have hx := B.exec
  have hb := B.bytes
  have hr := B.returns
  have hlk := B.notSynchronized
  have X : gCx p s m ([.ref (b t0)] : List Value).toArray c RX3 cX3_countPairs wsX3_countPairs 6 dC dI ca b A N := ⟨hx, hb, hml, findClass_of_methodNamed B.named, atoms_spec (ws := wsX3_countPairs) B.pre, hK, hA, hA2, hth⟩
  have hi3 : ∀ w ∈ wsX30, w ∈ wsX3_countPairs := (fun w h => List.mem_cons_of_mem _ (List.mem_append_left _ (List.mem_append_right _ h)))
  have hi6 : ∀ w ∈ wsX60, w ∈ wsX3_countPairs := (fun w h => List.mem_cons_of_mem _ (List.mem_append_right _ h))
  have hS : va_S A s.heap s.heap [] := va_S.rf
  have hl := lv_entry ([.ref (b t0)] : List Value) (n := 6) (Nat.le_of_ble_eq_true rfl)
  rw [lg_entry_eq]
  generalize (lg_sl ([.ref (b t0)] : List Value) ++ List.replicate (6 - (lg_sl ([.ref (b t0)] : List Value)).length) Slot.unset).toArray = ls at hl ⊢
  have hl : lv_has ls 6 [(0, .ref (b t0))] := hl
  unfold f_X3_countPairs at h
  refine lv_iconst (v := 0) hx hb dX3_countPairs_0 (by decide) ?_
  refine lv_istore_n (lv' := [(1, .int (0 : Int32)), (0, .ref (b t0))]) hx hb dX3_countPairs_1 rfl hl (by decide) rfl (fun ls hl => ?_)
  refine lv_aload_n hx hb dX3_countPairs_2 rfl (lv_at hl 1 rfl) ?_
  refine gg3_0 X hP hk_t0 (sk_in hN hk_t0 (by decide)) hi3 (List.mem_of_getElem? (i := 1) rfl) dX3_countPairs_3 ?_
  refine lv_astore_n (lv' := [(2, .ref (b (t0 + 1))), (1, .int (0 : Int32)), (0, .ref (b t0))]) hx hb dX3_countPairs_6 rfl hl (by decide) rfl (fun ls hl => ?_)
  refine lv_aload_n hx hb dX3_countPairs_7 rfl (lv_at hl 0 rfl) ?_
  refine gl24 X hP (sk3_1 hk_t0) (sk_in hN (sk3_1 hk_t0) (by decide)) dX3_countPairs_8 ?_
  refine lv_istore_n (lv' := [(3, .int (8 : Int32)), (2, .ref (b (t0 + 1))), (1, .int (0 : Int32)), (0, .ref (b t0))]) hx hb dX3_countPairs_9 rfl hl (by decide) rfl (fun ls hl => ?_)
  refine lv_iconst (v := 0) hx hb dX3_countPairs_10 (by decide) ?_
  refine lv_istore (lv' := [(4, .int (0 : Int32)), (3, .int (8 : Int32)), (2, .ref (b (t0 + 1))), (1, .int (0 : Int32)), (0, .ref (b t0))]) hx hb dX3_countPairs_11 hl (by decide) rfl (fun ls hl => ?_)
  obtain ⟨p3, hv, h⟩ := hb_some h
  have K56 : ∀ (H : Heap) (locs : List Loc) (ls : Array Slot), va_P (dC, dI) vwCl (hW N ca b I O J) H → va_S A s.heap H locs → lv_has ls 6 [(1, .int p3)] → W p l e (headSpec wsX3_countPairs ({ frames := 1, cells := 0, slots := 0, locals := 21 } : Room)).room s m ([.ref (b t0)] : List Value).toArray below meth c H locs 0 0 (MQ below (va_Qi (fun (r : Int32) (u : Unit) => res = r) (fun (u : Unit) t => va_P (dC, dI) vwCl (hW N ca b I O J) t.heap) A) ([.ref (b t0)] : List Value).toArray s 0 0 A) (F0 m 56 ls []) := by
    intro H locs ls hP hS hl
    refine lv_iload_n hx hb dX3_countPairs_56 rfl (lv_at hl 0 rfl) ?_
    exact W.iret hx hb hr (fun t9 ht hW => ⟨⟨p3, (), rfl, (Option.some.inj h).symm, gEnd ht hP⟩, hS.F ht⟩) hS.2.2 dX3_countPairs_57 hlk
  have hL13 : ∀ (fuel : Nat) (p1 : Int32) (p2 : Int32) (H : Heap) (locs : List Loc) (ls : Array Slot), f_X3_countPairs_L13 t0 I fuel p1 p2 = some p3 → va_P (dC, dI) vwCl (hW N ca b I O J) H → va_S A s.heap H locs → lv_has ls 6 [(0, .ref (b t0)), (1, .int p1), (2, .ref (b (t0 + 1))), (3, .int (8 : Int32)), (4, .int p2)] → W p l e (headSpec wsX3_countPairs ({ frames := 1, cells := 0, slots := 0, locals := 21 } : Room)).room s m ([.ref (b t0)] : List Value).toArray below meth c H locs 0 0 (MQ below (va_Qi (fun (r : Int32) (u : Unit) => res = r) (fun (u : Unit) t => va_P (dC, dI) vwCl (hW N ca b I O J) t.heap) A) ([.ref (b t0)] : List Value).toArray s 0 0 A) (F0 m 13 ls []) := by
    intro fuel
    induction fuel with
    | zero =>
      intro p1 p2 H locs ls h hP hS hl
      rw [f_X3_countPairs_L13] at h
      cases h
    | succ fuel ih =>
      intro p1 p2 H locs ls h hP hS hl
      rw [f_X3_countPairs_L13] at h
      refine lv_iload hx hb dX3_countPairs_13 (lv_at hl 4 rfl) ?_
      refine lv_iload_n hx hb dX3_countPairs_15 rfl (lv_at hl 3 rfl) ?_
      refine lv_icmp_ge (tgt := 56) hx hb dX3_countPairs_16 (by decide) (fun c12 => ?_) (fun c12 => ?_)
      · have h := gif_t c12 h
        cases h
        exact K56 _ _ _ hP hS (lv_sub hl [1] rfl)
      · have h := gif_f c12 h
        refine lv_aload_n hx hb dX3_countPairs_19 rfl (lv_at hl 2 rfl) ?_
        refine lv_iload hx hb dX3_countPairs_20 (lv_at hl 4 rfl) ?_
        obtain ⟨hgi4, h⟩ := hg_some h
        refine ga24 X hP (sk3_1 hk_t0) (sk_in hN (sk3_1 hk_t0) (by decide)) hgi4 dX3_countPairs_22 ?_
        refine lv_astore (lv' := [(5, .ref (b ((t0 + 1) + 3 + p2.toNatClampNeg))), (0, .ref (b t0)), (1, .int p1), (2, .ref (b (t0 + 1))), (3, .int (8 : Int32)), (4, .int p2)]) hx hb dX3_countPairs_23 hl (by decide) rfl (fun ls hl => ?_)
        refine lv_aload_n hx hb dX3_countPairs_25 rfl (lv_at hl 1 rfl) ?_
        refine lv_aload hx hb dX3_countPairs_26 (lv_at hl 0 rfl) ?_
        obtain ⟨q6, hcq6, h⟩ := hb_some h
        refine gdV_i (As := [.ref (b ((t0 + 1) + 3 + p2.toNatClampNeg))]) (rest := []) (BH := (fun (u : Unit) H => va_P (dC, dI) vwCl (hW N ca b I O J) H)) X hP hS (c_X3_isThere hN hA I O J t0 (some ((t0 + 1) + 3 + p2.toNatClampNeg)) hk_t0 q6 hcq6) (cwV 1 X.ts gX3_countPairs_X3_isThere rfl rfl rfl (by decide +kernel) ⟨Nat.le_of_ble_eq_true rfl, Nat.le_of_ble_eq_true rfl⟩) (gr3 X hP hk_t0 (sk_in hN hk_t0 (by decide))) rfl hl.1 rfl (Nat.le_of_ble_eq_true rfl) dX3_countPairs_28 ⟨Nat.le_of_ble_eq_true rfl, Nat.le_of_ble_eq_true rfl⟩ (fun r5 u9 H locs hw hP hS => ?_)
        have hw := hw.symm
        subst hw
        obtain ⟨p7, hv, h⟩ := hb_some h
        have K50 : ∀ (H : Heap) (locs : List Loc) (ls : Array Slot), va_P (dC, dI) vwCl (hW N ca b I O J) H → va_S A s.heap H locs → lv_has ls 6 [(0, .ref (b t0)), (1, .int p7), (2, .ref (b (t0 + 1))), (3, .int (8 : Int32)), (4, .int p2)] → W p l e (headSpec wsX3_countPairs ({ frames := 1, cells := 0, slots := 0, locals := 21 } : Room)).room s m ([.ref (b t0)] : List Value).toArray below meth c H locs 0 0 (MQ below (va_Qi (fun (r : Int32) (u : Unit) => res = r) (fun (u : Unit) t => va_P (dC, dI) vwCl (hW N ca b I O J) t.heap) A) ([.ref (b t0)] : List Value).toArray s 0 0 A) (F0 m 50 ls []) := by
          intro H locs ls hP hS hl
          obtain ⟨x8, ex8, h⟩ := hlet_ex h
          refine lv_iinc (v := x8) (lv' := [(4, .int x8), (0, .ref (b t0)), (1, .int p7), (2, .ref (b (t0 + 1))), (3, .int (8 : Int32))]) hx hb dX3_countPairs_50 hl (k := 4) rfl (by rw [ex8]; rfl) (by decide) rfl (fun ls hl => ?_)
          refine lv_goto (tgt := 13) hx hb dX3_countPairs_53 (by decide) ?_
          exact ih _ _ _ _ _ h hP hS (lv_sub hl [1, 2, 3, 4, 0] rfl)
        have h := hv
        refine lv_if_eq (tgt := 50) hx hb dX3_countPairs_31 (by decide) (fun c11 => ?_) (fun c11 => ?_)
        · have h := gif_t c11 h
          cases h
          exact K50 _ _ _ hP hS (lv_sub hl [1, 2, 3, 4, 5] rfl)
        · have h := gif_f c11 h
          refine lv_aload hx hb dX3_countPairs_34 (lv_at hl 0 rfl) ?_
          refine gg6_12 X hP (sk24 (sk3_1 hk_t0) (gin_lt hgi4)) (sk_in hN (sk24 (sk3_1 hk_t0) (gin_lt hgi4)) (by decide)) hi6 (List.mem_of_getElem? (i := 2) rfl) dX3_countPairs_36 ?_
          refine lv_aload hx hb dX3_countPairs_39 (lv_at hl 0 rfl) ?_
          refine gg6_0 X hP (sk24 (sk3_1 hk_t0) (gin_lt hgi4)) (sk_in hN (sk24 (sk3_1 hk_t0) (gin_lt hgi4)) (by decide)) hi6 (List.mem_of_getElem? (i := 3) rfl) dX3_countPairs_41 ?_
          refine lv_icmp_le (tgt := 50) hx hb dX3_countPairs_44 (by decide) (fun c10 => ?_) (fun c10 => ?_)
          · have h := gif_t c10 h
            cases h
            exact K50 _ _ _ hP hS (lv_sub hl [1, 2, 3, 4, 5] rfl)
          · have h := gif_f c10 h
            obtain ⟨x9, ex9, h⟩ := hlet_ex h
            refine lv_iinc (v := x9) (lv' := [(1, .int x9), (5, .ref (b ((t0 + 1) + 3 + p2.toNatClampNeg))), (0, .ref (b t0)), (2, .ref (b (t0 + 1))), (3, .int (8 : Int32)), (4, .int p2)]) hx hb dX3_countPairs_47 hl (k := 2) rfl (by rw [ex9]; rfl) (by decide) rfl (fun ls hl => ?_)
            cases h
            exact K50 _ _ _ hP hS (lv_sub hl [2, 0, 3, 4, 5] rfl)
  exact hL13 FU _ _ _ _ _ hv hP hS (lv_sub hl [4, 3, 2, 1, 0] rfl)
def f_X3_startRace_L10 (t0 : Nat) : Nat → Int32 → (Nat → Nat → Int32) → Option (Nat → Nat → Int32)
  | 0, _, _ => none
  | fuel + 1, p1, I2 =>
    if (8 : Int32) ≤ p1 then
      some I2
    else
      hg (gin p1 8) <|
      (f_X3_isThere t0 (some ((t0 + 1) + 3 + p1.toNatClampNeg)) I2).bind fun r13 =>
      (show Option (Nat → Nat → Int32) from
        if r13 = 0 then
          some I2
        else
          (f_X6_goToStart ((t0 + 1) + 3 + p1.toNatClampNeg) (1 : Int32) I2).bind fun I17 =>
          some I17).bind fun I15 =>
      hlet (p1 + 1) fun x16 =>
      f_X3_startRace_L10 t0 fuel x16 I15
def f_X3_startRace (t0 : Nat) (I : Nat → Nat → Int32) : Option (Nat → Nat → Int32) :=
  (f_X3_startRace_L10 t0 FU (0 : Int32) I).bind fun I3 =>
  hlet (gup I3 t0 5 (1 : Int32)) fun I4 =>
  hlet (gup I4 t0 6 (0 : Int32)) fun I5 =>
  hlet (gup I5 t0 7 (0 : Int32)) fun I6 =>
  hlet (gup I6 t0 8 (0 : Int32)) fun I7 =>
  hlet (gup I7 t0 9 (0 : Int32)) fun I8 =>
  hlet (gup I8 t0 10 (0 : Int32)) fun I9 =>
  hlet (gup I9 t0 11 (0 : Int32)) fun I10 =>
  hlet (gup I10 t0 12 ((I10 t0 12) + (1 : Int32))) fun I11 =>
  some I11
set_option maxHeartbeats 8000000 in
set_option maxRecDepth 100000 in
theorem c_X3_startRace {l : Launch} {dC : Nat → ClassId} {dI : Nat → Nat → Nat} {ca : Nat → ClassId} {b : Nat → Nat} {A : Nat → Prop} {N : Nat} (hN : 129 ≤ N) (hA : gAd A b N) (I : Nat → Nat → Int32) (O : Nat → Nat → Option Nat) (J : Nat → Nat → Int64) (t0 : Nat) (hk_t0 : SHK t0 = 3) (res : Nat → Nat → Int32) (h : f_X3_startRace t0 I = some res) : Met l yX3_startRace wsX3_startRace ({ frames := 1, cells := 0, slots := 0, locals := 21 } : Room) (va_Pc [.ref (b t0)] (gPre dC dI ca b A N I O J)) (va_Qv (fun (u : Nat → Nat → Int32) => res = u) (fun (u : Nat → Nat → Int32) t => va_P (dC, dI) vwCl (hW N ca b u O J) t.heap) A) 0 0 A := by
  refine Met.ofW (cc := cX3_startRace) (maxL := 5) (ret := none) (by decide) rfl ?_
  intro p e s m args below meth c s₁ B hml hv
  obtain ⟨rfl, hP, hK, hA2, hth⟩ := hv
  have hx := B.exec
  have hb := B.bytes
  have hr := B.returns
  have hlk := B.notSynchronized
  have X : gCx p s m ([.ref (b t0)] : List Value).toArray c RX3 cX3_startRace wsX3_startRace 5 dC dI ca b A N := ⟨hx, hb, hml, findClass_of_methodNamed B.named, atoms_spec (ws := wsX3_startRace) B.pre, hK, hA, hA2, hth⟩
  have hi3 : ∀ w ∈ wsX30, w ∈ wsX3_startRace := (fun w h => List.mem_cons_of_mem _ (List.mem_append_left _ (List.mem_append_right _ h)))
  have hS : va_S A s.heap s.heap [] := va_S.rf
  have hl := lv_entry ([.ref (b t0)] : List Value) (n := 5) (Nat.le_of_ble_eq_true rfl)
  rw [lg_entry_eq]
  generalize (lg_sl ([.ref (b t0)] : List Value) ++ List.replicate (5 - (lg_sl ([.ref (b t0)] : List Value)).length) Slot.unset).toArray = ls at hl ⊢
  have hl : lv_has ls 5 [(0, .ref (b t0))] := hl
  unfold f_X3_startRace at h
  refine lv_aload_n hx hb dX3_startRace_0 rfl (lv_at hl 0 rfl) ?_
  refine gg3_0 X hP hk_t0 (sk_in hN hk_t0 (by decide)) hi3 (List.mem_of_getElem? (i := 1) rfl) dX3_startRace_1 ?_
  refine lv_astore_n (lv' := [(1, .ref (b (t0 + 1))), (0, .ref (b t0))]) hx hb dX3_startRace_4 rfl hl (by decide) rfl (fun ls hl => ?_)
  refine lv_aload_n hx hb dX3_startRace_5 rfl (lv_at hl 0 rfl) ?_
  refine gl24 X hP (sk3_1 hk_t0) (sk_in hN (sk3_1 hk_t0) (by decide)) dX3_startRace_6 ?_
  refine lv_istore_n (lv' := [(2, .int (8 : Int32)), (1, .ref (b (t0 + 1))), (0, .ref (b t0))]) hx hb dX3_startRace_7 rfl hl (by decide) rfl (fun ls hl => ?_)
  refine lv_iconst (v := 0) hx hb dX3_startRace_8 (by decide) ?_
  refine lv_istore_n (lv' := [(3, .int (0 : Int32)), (2, .int (8 : Int32)), (1, .ref (b (t0 + 1))), (0, .ref (b t0))]) hx hb dX3_startRace_9 rfl hl (by decide) rfl (fun ls hl => ?_)
  obtain ⟨I3, hv, h⟩ := hb_some h
  have K41 : ∀ (H : Heap) (locs : List Loc) (ls : Array Slot), va_P (dC, dI) vwCl (hW N ca b I3 O J) H → va_S A s.heap H locs → lv_has ls 5 [(0, .ref (b t0))] → W p l e (headSpec wsX3_startRace ({ frames := 1, cells := 0, slots := 0, locals := 21 } : Room)).room s m ([.ref (b t0)] : List Value).toArray below meth c H locs 0 0 (MQ below (va_Qv (fun (u : Nat → Nat → Int32) => res = u) (fun (u : Nat → Nat → Int32) t => va_P (dC, dI) vwCl (hW N ca b u O J) t.heap) A) ([.ref (b t0)] : List Value).toArray s 0 0 A) (F0 m 41 ls []) := by
    intro H locs ls hP hS hl
    refine lv_aload_n hx hb dX3_startRace_41 rfl (lv_at hl 0 rfl) ?_
    refine lv_iconst (v := 1) hx hb dX3_startRace_42 (by decide) ?_
    refine gp3_5 X hP hS hk_t0 (sk_in hN hk_t0 (by decide)) hi3 (List.mem_of_getElem? (i := 2) rfl) (by decide) dX3_startRace_43 (fun H locs hP hS => ?_)
    obtain ⟨I4, eI4, h⟩ := hlet_ex h
    rw [← eI4] at hP
    refine lv_aload_n hx hb dX3_startRace_46 rfl (lv_at hl 0 rfl) ?_
    refine lv_iconst (v := 0) hx hb dX3_startRace_47 (by decide) ?_
    refine gp3_6 X hP hS hk_t0 (sk_in hN hk_t0 (by decide)) hi3 (List.mem_of_getElem? (i := 3) rfl) dX3_startRace_48 (fun H locs hP hS => ?_)
    obtain ⟨I5, eI5, h⟩ := hlet_ex h
    rw [← eI5] at hP
    refine lv_aload_n hx hb dX3_startRace_51 rfl (lv_at hl 0 rfl) ?_
    refine lv_iconst (v := 0) hx hb dX3_startRace_52 (by decide) ?_
    refine gp3_7 X hP hS hk_t0 (sk_in hN hk_t0 (by decide)) hi3 (List.mem_of_getElem? (i := 4) rfl) dX3_startRace_53 (fun H locs hP hS => ?_)
    obtain ⟨I6, eI6, h⟩ := hlet_ex h
    rw [← eI6] at hP
    refine lv_aload_n hx hb dX3_startRace_56 rfl (lv_at hl 0 rfl) ?_
    refine lv_iconst (v := 0) hx hb dX3_startRace_57 (by decide) ?_
    refine gp3_8 X hP hS hk_t0 (sk_in hN hk_t0 (by decide)) hi3 (List.mem_of_getElem? (i := 5) rfl) dX3_startRace_58 (fun H locs hP hS => ?_)
    obtain ⟨I7, eI7, h⟩ := hlet_ex h
    rw [← eI7] at hP
    refine lv_aload_n hx hb dX3_startRace_61 rfl (lv_at hl 0 rfl) ?_
    refine lv_iconst (v := 0) hx hb dX3_startRace_62 (by decide) ?_
    refine gp3_9 X hP hS hk_t0 (sk_in hN hk_t0 (by decide)) hi3 (List.mem_of_getElem? (i := 6) rfl) dX3_startRace_63 (fun H locs hP hS => ?_)
    obtain ⟨I8, eI8, h⟩ := hlet_ex h
    rw [← eI8] at hP
    refine lv_aload_n hx hb dX3_startRace_66 rfl (lv_at hl 0 rfl) ?_
    refine lv_iconst (v := 0) hx hb dX3_startRace_67 (by decide) ?_
    refine gp3_10 X hP hS hk_t0 (sk_in hN hk_t0 (by decide)) hi3 (List.mem_of_getElem? (i := 7) rfl) dX3_startRace_68 (fun H locs hP hS => ?_)
    obtain ⟨I9, eI9, h⟩ := hlet_ex h
    rw [← eI9] at hP
    refine lv_aload_n hx hb dX3_startRace_71 rfl (lv_at hl 0 rfl) ?_
    refine lv_iconst (v := 0) hx hb dX3_startRace_72 (by decide) ?_
    refine gp3_11 X hP hS hk_t0 (sk_in hN hk_t0 (by decide)) hi3 (List.mem_of_getElem? (i := 8) rfl) dX3_startRace_73 (fun H locs hP hS => ?_)
    obtain ⟨I10, eI10, h⟩ := hlet_ex h
    rw [← eI10] at hP
    refine lv_aload_n hx hb dX3_startRace_76 rfl (lv_at hl 0 rfl) ?_
    refine lv_dup hx hb dX3_startRace_77 rfl ?_
    refine gg3_12 X hP hk_t0 (sk_in hN hk_t0 (by decide)) hi3 (List.mem_of_getElem? (i := 9) rfl) dX3_startRace_78 ?_
    refine lv_iconst (v := 1) hx hb dX3_startRace_81 (by decide) ?_
    refine lv_iadd hx hb dX3_startRace_82 ?_
    refine gp3_12 X hP hS hk_t0 (sk_in hN hk_t0 (by decide)) hi3 (List.mem_of_getElem? (i := 9) rfl) dX3_startRace_83 (fun H locs hP hS => ?_)
    obtain ⟨I11, eI11, h⟩ := hlet_ex h
    rw [← eI11] at hP
    exact W.vret hx hb hr (fun t9 ht hW => ⟨⟨I11, rfl, (Option.some.inj h).symm, gEnd ht hP⟩, hS.F ht⟩) hS.2.2 dX3_startRace_86 hlk
  have hL10 : ∀ (fuel : Nat) (p1 : Int32) (I2 : Nat → Nat → Int32) (H : Heap) (locs : List Loc) (ls : Array Slot), f_X3_startRace_L10 t0 fuel p1 I2 = some I3 → va_P (dC, dI) vwCl (hW N ca b I2 O J) H → va_S A s.heap H locs → lv_has ls 5 [(0, .ref (b t0)), (1, .ref (b (t0 + 1))), (2, .int (8 : Int32)), (3, .int p1)] → W p l e (headSpec wsX3_startRace ({ frames := 1, cells := 0, slots := 0, locals := 21 } : Room)).room s m ([.ref (b t0)] : List Value).toArray below meth c H locs 0 0 (MQ below (va_Qv (fun (u : Nat → Nat → Int32) => res = u) (fun (u : Nat → Nat → Int32) t => va_P (dC, dI) vwCl (hW N ca b u O J) t.heap) A) ([.ref (b t0)] : List Value).toArray s 0 0 A) (F0 m 10 ls []) := by
    intro fuel
    induction fuel with
    | zero =>
      intro p1 I2 H locs ls h hP hS hl
      rw [f_X3_startRace_L10] at h
      cases h
    | succ fuel ih =>
      intro p1 I2 H locs ls h hP hS hl
      rw [f_X3_startRace_L10] at h
      refine lv_iload_n hx hb dX3_startRace_10 rfl (lv_at hl 3 rfl) ?_
      refine lv_iload_n hx hb dX3_startRace_11 rfl (lv_at hl 2 rfl) ?_
      refine lv_icmp_ge (tgt := 41) hx hb dX3_startRace_12 (by decide) (fun c20 => ?_) (fun c20 => ?_)
      · have h := gif_t c20 h
        cases h
        exact K41 _ _ _ hP hS (lv_sub hl [0] rfl)
      · have h := gif_f c20 h
        refine lv_aload_n hx hb dX3_startRace_15 rfl (lv_at hl 1 rfl) ?_
        refine lv_iload_n hx hb dX3_startRace_16 rfl (lv_at hl 3 rfl) ?_
        obtain ⟨hgi12, h⟩ := hg_some h
        refine ga24 X hP (sk3_1 hk_t0) (sk_in hN (sk3_1 hk_t0) (by decide)) hgi12 dX3_startRace_17 ?_
        refine lv_astore (lv' := [(4, .ref (b ((t0 + 1) + 3 + p1.toNatClampNeg))), (0, .ref (b t0)), (1, .ref (b (t0 + 1))), (2, .int (8 : Int32)), (3, .int p1)]) hx hb dX3_startRace_18 hl (by decide) rfl (fun ls hl => ?_)
        refine lv_aload_n hx hb dX3_startRace_20 rfl (lv_at hl 1 rfl) ?_
        refine lv_aload hx hb dX3_startRace_21 (lv_at hl 0 rfl) ?_
        obtain ⟨q14, hcq14, h⟩ := hb_some h
        refine gdV_i (As := [.ref (b ((t0 + 1) + 3 + p1.toNatClampNeg))]) (rest := []) (BH := (fun (u : Unit) H => va_P (dC, dI) vwCl (hW N ca b I2 O J) H)) X hP hS (c_X3_isThere hN hA I2 O J t0 (some ((t0 + 1) + 3 + p1.toNatClampNeg)) hk_t0 q14 hcq14) (cwV 1 X.ts gX3_startRace_X3_isThere rfl rfl rfl (by decide +kernel) ⟨Nat.le_of_ble_eq_true rfl, Nat.le_of_ble_eq_true rfl⟩) (gr3 X hP hk_t0 (sk_in hN hk_t0 (by decide))) rfl hl.1 rfl (Nat.le_of_ble_eq_true rfl) dX3_startRace_23 ⟨Nat.le_of_ble_eq_true rfl, Nat.le_of_ble_eq_true rfl⟩ (fun r13 u9 H locs hw hP hS => ?_)
        have hw := hw.symm
        subst hw
        obtain ⟨I15, hv, h⟩ := hb_some h
        have K35 : ∀ (H : Heap) (locs : List Loc) (ls : Array Slot), va_P (dC, dI) vwCl (hW N ca b I15 O J) H → va_S A s.heap H locs → lv_has ls 5 [(0, .ref (b t0)), (1, .ref (b (t0 + 1))), (2, .int (8 : Int32)), (3, .int p1)] → W p l e (headSpec wsX3_startRace ({ frames := 1, cells := 0, slots := 0, locals := 21 } : Room)).room s m ([.ref (b t0)] : List Value).toArray below meth c H locs 0 0 (MQ below (va_Qv (fun (u : Nat → Nat → Int32) => res = u) (fun (u : Nat → Nat → Int32) t => va_P (dC, dI) vwCl (hW N ca b u O J) t.heap) A) ([.ref (b t0)] : List Value).toArray s 0 0 A) (F0 m 35 ls []) := by
          intro H locs ls hP hS hl
          obtain ⟨x16, ex16, h⟩ := hlet_ex h
          refine lv_iinc (v := x16) (lv' := [(3, .int x16), (0, .ref (b t0)), (1, .ref (b (t0 + 1))), (2, .int (8 : Int32))]) hx hb dX3_startRace_35 hl (k := 3) rfl (by rw [ex16]; rfl) (by decide) rfl (fun ls hl => ?_)
          refine lv_goto (tgt := 10) hx hb dX3_startRace_38 (by decide) ?_
          exact ih _ _ _ _ _ h hP hS (lv_sub hl [1, 2, 3, 0] rfl)
        have h := hv
        refine lv_if_eq (tgt := 35) hx hb dX3_startRace_26 (by decide) (fun c19 => ?_) (fun c19 => ?_)
        · have h := gif_t c19 h
          cases h
          exact K35 _ _ _ hP hS (lv_sub hl [1, 2, 3, 4] rfl)
        · have h := gif_f c19 h
          refine lv_aload hx hb dX3_startRace_29 (lv_at hl 0 rfl) ?_
          refine lv_iconst (v := 1) hx hb dX3_startRace_31 (by decide) ?_
          obtain ⟨q18, hcq18, h⟩ := hb_some h
          refine gdV_v (As := [.int (1 : Int32)]) (rest := []) (BH := (fun (u : Nat → Nat → Int32) H => va_P (dC, dI) vwCl (hW N ca b u O J) H)) X hP hS (c_X6_goToStart hN hA I2 O J ((t0 + 1) + 3 + p1.toNatClampNeg) (1 : Int32) (sk24 (sk3_1 hk_t0) (gin_lt hgi12)) q18 hcq18) (cwV 1 X.ts gX3_startRace_X6_goToStart rfl rfl rfl (by decide +kernel) ⟨Nat.le_of_ble_eq_true rfl, Nat.le_of_ble_eq_true rfl⟩) (gr6 X hP (sk24 (sk3_1 hk_t0) (gin_lt hgi12)) (sk_in hN (sk24 (sk3_1 hk_t0) (gin_lt hgi12)) (by decide))) rfl hl.1 rfl (Nat.le_of_ble_eq_true rfl) dX3_startRace_32 ⟨Nat.le_of_ble_eq_true rfl, Nat.le_of_ble_eq_true rfl⟩ (fun I17 H locs hw hP hS => ?_)
          have hw := hw.symm
          subst hw
          cases h
          exact K35 _ _ _ hP hS (lv_sub hl [1, 2, 3, 4] rfl)
  exact hL10 FU _ _ _ _ _ hv hP hS (lv_sub hl [3, 2, 1, 0] rfl)
def f_X3_countAheadOf_L14 (t0 : Nat) (a1 : Nat) (I : Nat → Nat → Int32) : Nat → Int32 → Int32 → Option (Int32)
  | 0, _, _ => none
  | fuel + 1, p1, p2 =>
    if (8 : Int32) ≤ p2 then
      some p1
    else
      hg (gin p2 8) <|
      (f_X3_isThere t0 (some ((t0 + 1) + 3 + p2.toNatClampNeg)) I).bind fun r5 =>
      (show Option (Int32) from
        if r5 = 0 then
          some p1
        else
          (f_X6_isAheadOf ((t0 + 1) + 3 + p2.toNatClampNeg) a1 I).bind fun r9 =>
          if r9 = 0 then
            some p1
          else
            hlet (p1 + 1) fun x11 =>
            some x11).bind fun p7 =>
      hlet (p2 + 1) fun x8 =>
      f_X3_countAheadOf_L14 t0 a1 I fuel p7 x8
def f_X3_countAheadOf (t0 : Nat) (a1 : Nat) (I : Nat → Nat → Int32) : Option (Int32) :=
  (f_X3_countAheadOf_L14 t0 a1 I FU (0 : Int32) (0 : Int32)).bind fun p3 =>
  some p3
set_option maxHeartbeats 8000000 in
set_option maxRecDepth 100000 in
theorem c_X3_countAheadOf {l : Launch} {dC : Nat → ClassId} {dI : Nat → Nat → Nat} {ca : Nat → ClassId} {b : Nat → Nat} {A : Nat → Prop} {N : Nat} (hN : 129 ≤ N) (hA : gAd A b N) (I : Nat → Nat → Int32) (O : Nat → Nat → Option Nat) (J : Nat → Nat → Int64) (t0 : Nat) (a1 : Nat) (hk_t0 : SHK t0 = 3) (hk_a1 : SHK a1 = 6) (res : Int32) (h : f_X3_countAheadOf t0 a1 I = some res) : Met l yX3_countAheadOf wsX3_countAheadOf ({ frames := 1, cells := 0, slots := 0, locals := 23 } : Room) (va_Pc [.ref (b t0), .ref (b a1)] (gPre dC dI ca b A N I O J)) (va_Qi (fun (r : Int32) (u : Unit) => res = r) (fun (u : Unit) t => va_P (dC, dI) vwCl (hW N ca b I O J) t.heap) A) 0 0 A := by
  refine Met.ofW (cc := cX3_countAheadOf) (maxL := 7) (ret := (some .int)) (by decide) rfl ?_
  intro p e s m args below meth c s₁ B hml hv
  obtain ⟨rfl, hP, hK, hA2, hth⟩ := hv
  have hx := B.exec
  have hb := B.bytes
  have hr := B.returns
  have hlk := B.notSynchronized
  have X : gCx p s m ([.ref (b t0), .ref (b a1)] : List Value).toArray c RX3 cX3_countAheadOf wsX3_countAheadOf 7 dC dI ca b A N := ⟨hx, hb, hml, findClass_of_methodNamed B.named, atoms_spec (ws := wsX3_countAheadOf) B.pre, hK, hA, hA2, hth⟩
  have hi3 : ∀ w ∈ wsX30, w ∈ wsX3_countAheadOf := (fun w h => List.mem_cons_of_mem _ (List.mem_append_left _ (List.mem_append_right _ h)))
  have hS : va_S A s.heap s.heap [] := va_S.rf
  have hl := lv_entry ([.ref (b t0), .ref (b a1)] : List Value) (n := 7) (Nat.le_of_ble_eq_true rfl)
  rw [lg_entry_eq]
  generalize (lg_sl ([.ref (b t0), .ref (b a1)] : List Value) ++ List.replicate (7 - (lg_sl ([.ref (b t0), .ref (b a1)] : List Value)).length) Slot.unset).toArray = ls at hl ⊢
  have hl : lv_has ls 7 [(0, .ref (b t0)), (1, .ref (b a1))] := hl
  unfold f_X3_countAheadOf at h
  refine lv_iconst (v := 0) hx hb dX3_countAheadOf_0 (by decide) ?_
  refine lv_istore_n (lv' := [(2, .int (0 : Int32)), (0, .ref (b t0)), (1, .ref (b a1))]) hx hb dX3_countAheadOf_1 rfl hl (by decide) rfl (fun ls hl => ?_)
  refine lv_aload_n hx hb dX3_countAheadOf_2 rfl (lv_at hl 1 rfl) ?_
  refine gg3_0 X hP hk_t0 (sk_in hN hk_t0 (by decide)) hi3 (List.mem_of_getElem? (i := 1) rfl) dX3_countAheadOf_3 ?_
  refine lv_astore_n (lv' := [(3, .ref (b (t0 + 1))), (2, .int (0 : Int32)), (0, .ref (b t0)), (1, .ref (b a1))]) hx hb dX3_countAheadOf_6 rfl hl (by decide) rfl (fun ls hl => ?_)
  refine lv_aload_n hx hb dX3_countAheadOf_7 rfl (lv_at hl 0 rfl) ?_
  refine gl24 X hP (sk3_1 hk_t0) (sk_in hN (sk3_1 hk_t0) (by decide)) dX3_countAheadOf_8 ?_
  refine lv_istore (lv' := [(4, .int (8 : Int32)), (3, .ref (b (t0 + 1))), (2, .int (0 : Int32)), (0, .ref (b t0)), (1, .ref (b a1))]) hx hb dX3_countAheadOf_9 hl (by decide) rfl (fun ls hl => ?_)
  refine lv_iconst (v := 0) hx hb dX3_countAheadOf_11 (by decide) ?_
  refine lv_istore (lv' := [(5, .int (0 : Int32)), (4, .int (8 : Int32)), (3, .ref (b (t0 + 1))), (2, .int (0 : Int32)), (0, .ref (b t0)), (1, .ref (b a1))]) hx hb dX3_countAheadOf_12 hl (by decide) rfl (fun ls hl => ?_)
  obtain ⟨p3, hv, h⟩ := hb_some h
  have K54 : ∀ (H : Heap) (locs : List Loc) (ls : Array Slot), va_P (dC, dI) vwCl (hW N ca b I O J) H → va_S A s.heap H locs → lv_has ls 7 [(2, .int p3)] → W p l e (headSpec wsX3_countAheadOf ({ frames := 1, cells := 0, slots := 0, locals := 23 } : Room)).room s m ([.ref (b t0), .ref (b a1)] : List Value).toArray below meth c H locs 0 0 (MQ below (va_Qi (fun (r : Int32) (u : Unit) => res = r) (fun (u : Unit) t => va_P (dC, dI) vwCl (hW N ca b I O J) t.heap) A) ([.ref (b t0), .ref (b a1)] : List Value).toArray s 0 0 A) (F0 m 54 ls []) := by
    intro H locs ls hP hS hl
    refine lv_iload_n hx hb dX3_countAheadOf_54 rfl (lv_at hl 0 rfl) ?_
    exact W.iret hx hb hr (fun t9 ht hW => ⟨⟨p3, (), rfl, (Option.some.inj h).symm, gEnd ht hP⟩, hS.F ht⟩) hS.2.2 dX3_countAheadOf_55 hlk
  have hL14 : ∀ (fuel : Nat) (p1 : Int32) (p2 : Int32) (H : Heap) (locs : List Loc) (ls : Array Slot), f_X3_countAheadOf_L14 t0 a1 I fuel p1 p2 = some p3 → va_P (dC, dI) vwCl (hW N ca b I O J) H → va_S A s.heap H locs → lv_has ls 7 [(0, .ref (b t0)), (1, .ref (b a1)), (2, .int p1), (3, .ref (b (t0 + 1))), (4, .int (8 : Int32)), (5, .int p2)] → W p l e (headSpec wsX3_countAheadOf ({ frames := 1, cells := 0, slots := 0, locals := 23 } : Room)).room s m ([.ref (b t0), .ref (b a1)] : List Value).toArray below meth c H locs 0 0 (MQ below (va_Qi (fun (r : Int32) (u : Unit) => res = r) (fun (u : Unit) t => va_P (dC, dI) vwCl (hW N ca b I O J) t.heap) A) ([.ref (b t0), .ref (b a1)] : List Value).toArray s 0 0 A) (F0 m 14 ls []) := by
    intro fuel
    induction fuel with
    | zero =>
      intro p1 p2 H locs ls h hP hS hl
      rw [f_X3_countAheadOf_L14] at h
      cases h
    | succ fuel ih =>
      intro p1 p2 H locs ls h hP hS hl
      rw [f_X3_countAheadOf_L14] at h
      refine lv_iload hx hb dX3_countAheadOf_14 (lv_at hl 5 rfl) ?_
      refine lv_iload hx hb dX3_countAheadOf_16 (lv_at hl 4 rfl) ?_
      refine lv_icmp_ge (tgt := 54) hx hb dX3_countAheadOf_18 (by decide) (fun c14 => ?_) (fun c14 => ?_)
      · have h := gif_t c14 h
        cases h
        exact K54 _ _ _ hP hS (lv_sub hl [2] rfl)
      · have h := gif_f c14 h
        refine lv_aload_n hx hb dX3_countAheadOf_21 rfl (lv_at hl 3 rfl) ?_
        refine lv_iload hx hb dX3_countAheadOf_22 (lv_at hl 5 rfl) ?_
        obtain ⟨hgi4, h⟩ := hg_some h
        refine ga24 X hP (sk3_1 hk_t0) (sk_in hN (sk3_1 hk_t0) (by decide)) hgi4 dX3_countAheadOf_24 ?_
        refine lv_astore (lv' := [(6, .ref (b ((t0 + 1) + 3 + p2.toNatClampNeg))), (0, .ref (b t0)), (1, .ref (b a1)), (2, .int p1), (3, .ref (b (t0 + 1))), (4, .int (8 : Int32)), (5, .int p2)]) hx hb dX3_countAheadOf_25 hl (by decide) rfl (fun ls hl => ?_)
        refine lv_aload_n hx hb dX3_countAheadOf_27 rfl (lv_at hl 1 rfl) ?_
        refine lv_aload hx hb dX3_countAheadOf_28 (lv_at hl 0 rfl) ?_
        obtain ⟨q6, hcq6, h⟩ := hb_some h
        refine gdV_i (As := [.ref (b ((t0 + 1) + 3 + p2.toNatClampNeg))]) (rest := []) (BH := (fun (u : Unit) H => va_P (dC, dI) vwCl (hW N ca b I O J) H)) X hP hS (c_X3_isThere hN hA I O J t0 (some ((t0 + 1) + 3 + p2.toNatClampNeg)) hk_t0 q6 hcq6) (cwV 1 X.ts gX3_countAheadOf_X3_isThere rfl rfl rfl (by decide +kernel) ⟨Nat.le_of_ble_eq_true rfl, Nat.le_of_ble_eq_true rfl⟩) (gr3 X hP hk_t0 (sk_in hN hk_t0 (by decide))) rfl hl.1 rfl (Nat.le_of_ble_eq_true rfl) dX3_countAheadOf_30 ⟨Nat.le_of_ble_eq_true rfl, Nat.le_of_ble_eq_true rfl⟩ (fun r5 u9 H locs hw hP hS => ?_)
        have hw := hw.symm
        subst hw
        obtain ⟨p7, hv, h⟩ := hb_some h
        have K48 : ∀ (H : Heap) (locs : List Loc) (ls : Array Slot), va_P (dC, dI) vwCl (hW N ca b I O J) H → va_S A s.heap H locs → lv_has ls 7 [(0, .ref (b t0)), (1, .ref (b a1)), (2, .int p7), (3, .ref (b (t0 + 1))), (4, .int (8 : Int32)), (5, .int p2)] → W p l e (headSpec wsX3_countAheadOf ({ frames := 1, cells := 0, slots := 0, locals := 23 } : Room)).room s m ([.ref (b t0), .ref (b a1)] : List Value).toArray below meth c H locs 0 0 (MQ below (va_Qi (fun (r : Int32) (u : Unit) => res = r) (fun (u : Unit) t => va_P (dC, dI) vwCl (hW N ca b I O J) t.heap) A) ([.ref (b t0), .ref (b a1)] : List Value).toArray s 0 0 A) (F0 m 48 ls []) := by
          intro H locs ls hP hS hl
          obtain ⟨x8, ex8, h⟩ := hlet_ex h
          refine lv_iinc (v := x8) (lv' := [(5, .int x8), (0, .ref (b t0)), (1, .ref (b a1)), (2, .int p7), (3, .ref (b (t0 + 1))), (4, .int (8 : Int32))]) hx hb dX3_countAheadOf_48 hl (k := 5) rfl (by rw [ex8]; rfl) (by decide) rfl (fun ls hl => ?_)
          refine lv_goto (tgt := 14) hx hb dX3_countAheadOf_51 (by decide) ?_
          exact ih _ _ _ _ _ h hP hS (lv_sub hl [1, 2, 3, 4, 5, 0] rfl)
        have h := hv
        refine lv_if_eq (tgt := 48) hx hb dX3_countAheadOf_33 (by decide) (fun c13 => ?_) (fun c13 => ?_)
        · have h := gif_t c13 h
          cases h
          exact K48 _ _ _ hP hS (lv_sub hl [1, 2, 3, 4, 5, 6] rfl)
        · have h := gif_f c13 h
          refine lv_aload hx hb dX3_countAheadOf_36 (lv_at hl 0 rfl) ?_
          refine lv_aload_n hx hb dX3_countAheadOf_38 rfl (lv_at hl 2 rfl) ?_
          obtain ⟨q10, hcq10, h⟩ := hb_some h
          refine gdV_i (As := [.ref (b a1)]) (rest := []) (BH := (fun (u : Unit) H => va_P (dC, dI) vwCl (hW N ca b I O J) H)) X hP hS (c_X6_isAheadOf hN hA I O J ((t0 + 1) + 3 + p2.toNatClampNeg) a1 (sk24 (sk3_1 hk_t0) (gin_lt hgi4)) hk_a1 q10 hcq10) (cwV 1 X.ts gX3_countAheadOf_X6_isAheadOf rfl rfl rfl (by decide +kernel) ⟨Nat.le_of_ble_eq_true rfl, Nat.le_of_ble_eq_true rfl⟩) (gr6 X hP (sk24 (sk3_1 hk_t0) (gin_lt hgi4)) (sk_in hN (sk24 (sk3_1 hk_t0) (gin_lt hgi4)) (by decide))) rfl hl.1 rfl (Nat.le_of_ble_eq_true rfl) dX3_countAheadOf_39 ⟨Nat.le_of_ble_eq_true rfl, Nat.le_of_ble_eq_true rfl⟩ (fun r9 u9 H locs hw hP hS => ?_)
          have hw := hw.symm
          subst hw
          refine lv_if_eq (tgt := 48) hx hb dX3_countAheadOf_42 (by decide) (fun c12 => ?_) (fun c12 => ?_)
          · have h := gif_t c12 h
            cases h
            exact K48 _ _ _ hP hS (lv_sub hl [1, 2, 3, 4, 5, 6] rfl)
          · have h := gif_f c12 h
            obtain ⟨x11, ex11, h⟩ := hlet_ex h
            refine lv_iinc (v := x11) (lv' := [(2, .int x11), (6, .ref (b ((t0 + 1) + 3 + p2.toNatClampNeg))), (0, .ref (b t0)), (1, .ref (b a1)), (3, .ref (b (t0 + 1))), (4, .int (8 : Int32)), (5, .int p2)]) hx hb dX3_countAheadOf_45 hl (k := 3) rfl (by rw [ex11]; rfl) (by decide) rfl (fun ls hl => ?_)
            cases h
            exact K48 _ _ _ hP hS (lv_sub hl [2, 3, 0, 4, 5, 6] rfl)
  exact hL14 FU _ _ _ _ _ hv hP hS (lv_sub hl [4, 5, 3, 2, 1, 0] rfl)
def f_X3_insertInOrder_L2 (t0 : Nat) (a1 : Nat) (I : Nat → Nat → Int32) : Nat → Int32 → (Nat → Nat → Option Nat) → Option (Nat → Nat → Option Nat)
  | 0, _, _ => none
  | fuel + 1, p1, O2 =>
    hlet (fun (p3 : Int32) (O4 : Nat → Nat → Option Nat) => show Option (Nat → Nat → Option Nat) from
      if p3 < 0 then
        some O4
      else
        if (8 : Int32) ≤ p3 then
          some O4
        else
          hg (gin p3 8) <|
          hlet (gup O4 (t0 + 2) (p3.toNatClampNeg) (some a1)) fun O7 =>
          some O7) fun j5 =>
    if p1 ≤ 0 then
      j5 p1 O2
    else
      if (8 : Int32) ≤ p1 then
        j5 p1 O2
      else
        hg (gin (p1 - (1 : Int32)) 8) <|
        hlet (ov 6 (O2 (t0 + 2) ((p1 - (1 : Int32)).toNatClampNeg))) fun r11 =>
        hopt r11 (
          j5 p1 O2) fun n12 => hk n12 6 <|
        (f_X6_isAheadOf n12 a1 I).bind fun r13 =>
        if r13 = 0 then
          hg (gin p1 8) <|
          hlet (gup O2 (t0 + 2) (p1.toNatClampNeg) (some n12)) fun O16 =>
          hlet (p1 + (-1)) fun x17 =>
          f_X3_insertInOrder_L2 t0 a1 I fuel x17 O16
        else
          j5 p1 O2
def f_X3_insertInOrder (t0 : Nat) (a1 : Nat) (a2 : Int32) (I : Nat → Nat → Int32) (O : Nat → Nat → Option Nat) : Option (Nat → Nat → Option Nat) :=
  f_X3_insertInOrder_L2 t0 a1 I FU a2 O
set_option maxHeartbeats 8000000 in
set_option maxRecDepth 100000 in
theorem c_X3_insertInOrder {l : Launch} {dC : Nat → ClassId} {dI : Nat → Nat → Nat} {ca : Nat → ClassId} {b : Nat → Nat} {A : Nat → Prop} {N : Nat} (hN : 129 ≤ N) (hA : gAd A b N) (I : Nat → Nat → Int32) (O : Nat → Nat → Option Nat) (J : Nat → Nat → Int64) (t0 : Nat) (a1 : Nat) (a2 : Int32) (hk_t0 : SHK t0 = 3) (hk_a1 : SHK a1 = 6) (res : Nat → Nat → Option Nat) (h : f_X3_insertInOrder t0 a1 a2 I O = some res) : Met l yX3_insertInOrder wsX3_insertInOrder ({ frames := 1, cells := 0, slots := 0, locals := 23 } : Room) (va_Pc [.ref (b t0), .ref (b a1), .int a2] (gPre dC dI ca b A N I O J)) (va_Qv (fun (u : Nat → Nat → Option Nat) => res = u) (fun (u : Nat → Nat → Option Nat) t => va_P (dC, dI) vwCl (hW N ca b I u J) t.heap) A) 0 0 A := by
  refine Met.ofW (cc := cX3_insertInOrder) (maxL := 5) (ret := none) (by decide) rfl ?_
  intro p e s m args below meth c s₁ B hml hv
  obtain ⟨rfl, hP, hK, hA2, hth⟩ := hv
  have hx := B.exec
  have hb := B.bytes
  have hr := B.returns
  have hlk := B.notSynchronized
  have X : gCx p s m ([.ref (b t0), .ref (b a1), .int a2] : List Value).toArray c RX3 cX3_insertInOrder wsX3_insertInOrder 5 dC dI ca b A N := ⟨hx, hb, hml, findClass_of_methodNamed B.named, atoms_spec (ws := wsX3_insertInOrder) B.pre, hK, hA, hA2, hth⟩
  have hi3 : ∀ w ∈ wsX30, w ∈ wsX3_insertInOrder := (fun w h => List.mem_cons_of_mem _ (List.mem_append_left _ (List.mem_append_right _ h)))
  have hS : va_S A s.heap s.heap [] := va_S.rf
  have hl := lv_entry ([.ref (b t0), .ref (b a1), .int a2] : List Value) (n := 5) (Nat.le_of_ble_eq_true rfl)
  rw [lg_entry_eq]
  generalize (lg_sl ([.ref (b t0), .ref (b a1), .int a2] : List Value) ++ List.replicate (5 - (lg_sl ([.ref (b t0), .ref (b a1), .int a2] : List Value)).length) Slot.unset).toArray = ls at hl ⊢
  have hl : lv_has ls 5 [(0, .ref (b t0)), (1, .ref (b a1)), (2, .int a2)] := hl
  unfold f_X3_insertInOrder at h
  refine lv_iload_n hx hb dX3_insertInOrder_0 rfl (lv_at hl 2 rfl) ?_
  refine lv_istore_n (lv' := [(3, .int a2), (0, .ref (b t0)), (1, .ref (b a1)), (2, .int a2)]) hx hb dX3_insertInOrder_1 rfl hl (by decide) rfl (fun ls hl => ?_)
  have hL2 : ∀ (fuel : Nat) (p1 : Int32) (O2 : Nat → Nat → Option Nat) (H : Heap) (locs : List Loc) (ls : Array Slot), f_X3_insertInOrder_L2 t0 a1 I fuel p1 O2 = some res → va_P (dC, dI) vwCl (hW N ca b I O2 J) H → va_S A s.heap H locs → lv_has ls 5 [(0, .ref (b t0)), (1, .ref (b a1)), (3, .int p1)] → W p l e (headSpec wsX3_insertInOrder ({ frames := 1, cells := 0, slots := 0, locals := 23 } : Room)).room s m ([.ref (b t0), .ref (b a1), .int a2] : List Value).toArray below meth c H locs 0 0 (MQ below (va_Qv (fun (u : Nat → Nat → Option Nat) => res = u) (fun (u : Nat → Nat → Option Nat) t => va_P (dC, dI) vwCl (hW N ca b I u J) t.heap) A) ([.ref (b t0), .ref (b a1), .int a2] : List Value).toArray s 0 0 A) (F0 m 2 ls []) := by
    intro fuel
    induction fuel with
    | zero =>
      intro p1 O2 H locs ls h hP hS hl
      rw [f_X3_insertInOrder_L2] at h
      cases h
    | succ fuel ih =>
      intro p1 O2 H locs ls h hP hS hl
      rw [f_X3_insertInOrder_L2] at h
      refine lv_iload_n hx hb dX3_insertInOrder_2 rfl (lv_at hl 2 rfl) ?_
      obtain ⟨j5, ej5, h⟩ := hlet_ex h
      have K56 : ∀ (p3 : Int32) (O4 : Nat → Nat → Option Nat) (H : Heap) (locs : List Loc) (ls : Array Slot), j5 p3 O4 = some res → va_P (dC, dI) vwCl (hW N ca b I O4 J) H → va_S A s.heap H locs → lv_has ls 5 [(0, .ref (b t0)), (1, .ref (b a1)), (3, .int p3)] → W p l e (headSpec wsX3_insertInOrder ({ frames := 1, cells := 0, slots := 0, locals := 23 } : Room)).room s m ([.ref (b t0), .ref (b a1), .int a2] : List Value).toArray below meth c H locs 0 0 (MQ below (va_Qv (fun (u : Nat → Nat → Option Nat) => res = u) (fun (u : Nat → Nat → Option Nat) t => va_P (dC, dI) vwCl (hW N ca b I u J) t.heap) A) ([.ref (b t0), .ref (b a1), .int a2] : List Value).toArray s 0 0 A) (F0 m 56 ls []) := by
        intro p3 O4 H locs ls h hP hS hl
        rw [ej5] at h
        refine lv_iload_n hx hb dX3_insertInOrder_56 rfl (lv_at hl 2 rfl) ?_
        refine lv_if_lt (tgt := 76) hx hb dX3_insertInOrder_57 (by decide) (fun c9 => ?_) (fun c9 => ?_)
        · have h := gif_t c9 h
          exact W.vret hx hb hr (fun t9 ht hW => ⟨⟨O4, rfl, (Option.some.inj h).symm, gEnd ht hP⟩, hS.F ht⟩) hS.2.2 dX3_insertInOrder_76 hlk
        · have h := gif_f c9 h
          refine lv_iload_n hx hb dX3_insertInOrder_60 rfl (lv_at hl 2 rfl) ?_
          refine lv_aload_n hx hb dX3_insertInOrder_61 rfl (lv_at hl 0 rfl) ?_
          refine gg3_1 X hP hk_t0 (sk_in hN hk_t0 (by decide)) hi3 (List.mem_of_getElem? (i := 1) rfl) dX3_insertInOrder_62 ?_
          refine gl26 X hP (sk3_2 hk_t0) (sk_in hN (sk3_2 hk_t0) (by decide)) dX3_insertInOrder_65 ?_
          refine lv_icmp_ge (tgt := 76) hx hb dX3_insertInOrder_66 (by decide) (fun c8 => ?_) (fun c8 => ?_)
          · have h := gif_t c8 h
            exact W.vret hx hb hr (fun t9 ht hW => ⟨⟨O4, rfl, (Option.some.inj h).symm, gEnd ht hP⟩, hS.F ht⟩) hS.2.2 dX3_insertInOrder_76 hlk
          · have h := gif_f c8 h
            refine lv_aload_n hx hb dX3_insertInOrder_69 rfl (lv_at hl 0 rfl) ?_
            refine gg3_1 X hP hk_t0 (sk_in hN hk_t0 (by decide)) hi3 (List.mem_of_getElem? (i := 1) rfl) dX3_insertInOrder_70 ?_
            refine lv_iload_n hx hb dX3_insertInOrder_73 rfl (lv_at hl 2 rfl) ?_
            refine lv_aload_n hx hb dX3_insertInOrder_74 rfl (lv_at hl 1 rfl) ?_
            obtain ⟨hgi6, h⟩ := hg_some h
            refine gs26 X hP hS (sk3_2 hk_t0) (sk_in hN (sk3_2 hk_t0) (by decide)) hk_a1 (sk_in hN hk_a1 (by decide)) hgi6 dX3_insertInOrder_75 (fun H locs hP hS => ?_)
            obtain ⟨O7, eO7, h⟩ := hlet_ex h
            rw [← eO7] at hP
            exact W.vret hx hb hr (fun t9 ht hW => ⟨⟨O7, rfl, (Option.some.inj h).symm, gEnd ht hP⟩, hS.F ht⟩) hS.2.2 dX3_insertInOrder_76 hlk
      refine lv_if_le (tgt := 56) hx hb dX3_insertInOrder_3 (by decide) (fun c20 => ?_) (fun c20 => ?_)
      · have h := gif_t c20 h
        exact K56 _ _ _ _ _ h hP hS (lv_sub hl [0, 1, 2] rfl)
      · have h := gif_f c20 h
        refine lv_iload_n hx hb dX3_insertInOrder_6 rfl (lv_at hl 2 rfl) ?_
        refine lv_aload_n hx hb dX3_insertInOrder_7 rfl (lv_at hl 0 rfl) ?_
        refine gg3_1 X hP hk_t0 (sk_in hN hk_t0 (by decide)) hi3 (List.mem_of_getElem? (i := 1) rfl) dX3_insertInOrder_8 ?_
        refine gl26 X hP (sk3_2 hk_t0) (sk_in hN (sk3_2 hk_t0) (by decide)) dX3_insertInOrder_11 ?_
        refine lv_icmp_ge (tgt := 56) hx hb dX3_insertInOrder_12 (by decide) (fun c19 => ?_) (fun c19 => ?_)
        · have h := gif_t c19 h
          exact K56 _ _ _ _ _ h hP hS (lv_sub hl [0, 1, 2] rfl)
        · have h := gif_f c19 h
          refine lv_aload_n hx hb dX3_insertInOrder_15 rfl (lv_at hl 0 rfl) ?_
          refine gg3_1 X hP hk_t0 (sk_in hN hk_t0 (by decide)) hi3 (List.mem_of_getElem? (i := 1) rfl) dX3_insertInOrder_16 ?_
          refine lv_iload_n hx hb dX3_insertInOrder_19 rfl (lv_at hl 2 rfl) ?_
          refine lv_iconst (v := 1) hx hb dX3_insertInOrder_20 (by decide) ?_
          refine lv_isub hx hb dX3_insertInOrder_21 ?_
          obtain ⟨hgi10, h⟩ := hg_some h
          refine ga26 X hP (sk3_2 hk_t0) (sk_in hN (sk3_2 hk_t0) (by decide)) hgi10 dX3_insertInOrder_22 ?_
          refine gv_top (fun r11 er11 => ?_)
          have h := hlet_some er11 h
          refine gv_astore (r := Option.map b r11) (lv' := [(4, va_rf (Option.map b r11)), (0, .ref (b t0)), (1, .ref (b a1)), (3, .int p1)]) hx hb dX3_insertInOrder_23 hl (by decide) rfl (fun ls hl => ?_)
          refine gv_aload (r := Option.map b r11) hx hb dX3_insertInOrder_25 (lv_at hl 0 rfl) ?_
          cases r11 with
          | none =>
            have h := hopt_n h
            refine lv_ifnullN (tgt := 56) hx hb dX3_insertInOrder_27 (by decide) ?_
            exact K56 _ _ _ _ _ h hP hS (lv_sub hl [1, 2, 3] rfl)
          | some n12 =>
            obtain ⟨hk_n12, h⟩ := hk_some (hopt_s h)
            refine lv_ifnull hx hb dX3_insertInOrder_27 ?_
            refine lv_aload hx hb dX3_insertInOrder_30 (lv_at hl 0 rfl) ?_
            refine lv_aload_n hx hb dX3_insertInOrder_32 rfl (lv_at hl 2 rfl) ?_
            obtain ⟨q14, hcq14, h⟩ := hb_some h
            refine gdV_i (As := [.ref (b a1)]) (rest := []) (BH := (fun (u : Unit) H => va_P (dC, dI) vwCl (hW N ca b I O2 J) H)) X hP hS (c_X6_isAheadOf hN hA I O2 J n12 a1 hk_n12 hk_a1 q14 hcq14) (cwV 1 X.ts gX3_insertInOrder_X6_isAheadOf rfl rfl rfl (by decide +kernel) ⟨Nat.le_of_ble_eq_true rfl, Nat.le_of_ble_eq_true rfl⟩) (gr6 X hP hk_n12 (sk_in hN hk_n12 (by decide))) rfl hl.1 rfl (Nat.le_of_ble_eq_true rfl) dX3_insertInOrder_33 ⟨Nat.le_of_ble_eq_true rfl, Nat.le_of_ble_eq_true rfl⟩ (fun r13 u9 H locs hw hP hS => ?_)
            have hw := hw.symm
            subst hw
            refine lv_if_eq (tgt := 42) hx hb dX3_insertInOrder_36 (by decide) (fun c18 => ?_) (fun c18 => ?_)
            · have h := gif_t c18 h
              refine lv_aload_n hx hb dX3_insertInOrder_42 rfl (lv_at hl 1 rfl) ?_
              refine gg3_1 X hP hk_t0 (sk_in hN hk_t0 (by decide)) hi3 (List.mem_of_getElem? (i := 1) rfl) dX3_insertInOrder_43 ?_
              refine lv_iload_n hx hb dX3_insertInOrder_46 rfl (lv_at hl 3 rfl) ?_
              refine lv_aload hx hb dX3_insertInOrder_47 (lv_at hl 0 rfl) ?_
              obtain ⟨hgi15, h⟩ := hg_some h
              refine gs26 X hP hS (sk3_2 hk_t0) (sk_in hN (sk3_2 hk_t0) (by decide)) hk_n12 (sk_in hN hk_n12 (by decide)) hgi15 dX3_insertInOrder_49 (fun H locs hP hS => ?_)
              obtain ⟨O16, eO16, h⟩ := hlet_ex h
              rw [← eO16] at hP
              obtain ⟨x17, ex17, h⟩ := hlet_ex h
              refine lv_iinc (v := x17) (lv' := [(3, .int x17), (4, .ref (b n12)), (0, .ref (b t0)), (1, .ref (b a1))]) hx hb dX3_insertInOrder_50 hl (k := 3) rfl (by rw [ex17]; rfl) (by decide) rfl (fun ls hl => ?_)
              refine lv_goto (tgt := 2) hx hb dX3_insertInOrder_53 (by decide) ?_
              exact ih _ _ _ _ _ h hP hS (lv_sub hl [2, 3, 0] rfl)
            · have h := gif_f c18 h
              refine lv_goto (tgt := 56) hx hb dX3_insertInOrder_39 (by decide) ?_
              exact K56 _ _ _ _ _ h hP hS (lv_sub hl [1, 2, 3] rfl)
  exact hL2 FU _ _ _ _ _ h hP hS (lv_sub hl [1, 2, 0] rfl)
def f_X3_putInOrder_L13 (t0 : Nat) (I : Nat → Nat → Int32) : Nat → Int32 → Int32 → (Nat → Nat → Option Nat) → Option (Nat → Nat → Option Nat)
  | 0, _, _, _ => none
  | fuel + 1, p1, p2, O3 =>
    if (8 : Int32) ≤ p2 then
      some O3
    else
      hg (gin p2 8) <|
      (f_X3_isThere t0 (some ((t0 + 1) + 3 + p2.toNatClampNeg)) I).bind fun r6 =>
      (show Option (Int32 × (Nat → Nat → Option Nat)) from
        if r6 = 0 then
          some (p1, O3)
        else
          (f_X3_insertInOrder t0 ((t0 + 1) + 3 + p2.toNatClampNeg) p1 I O3).bind fun O11 =>
          hlet (p1 + 1) fun x13 =>
          some (x13, O11)).bind fun (p8, O9) =>
      hlet (p2 + 1) fun x10 =>
      f_X3_putInOrder_L13 t0 I fuel p8 x10 O9
def f_X3_putInOrder (t0 : Nat) (I : Nat → Nat → Int32) (O : Nat → Nat → Option Nat) : Option (Nat → Nat → Option Nat) :=
  (f_X3_putInOrder_L13 t0 I FU (0 : Int32) (0 : Int32) O).bind fun O4 =>
  some O4
set_option maxHeartbeats 8000000 in
set_option maxRecDepth 100000 in
theorem c_X3_putInOrder {l : Launch} {dC : Nat → ClassId} {dI : Nat → Nat → Nat} {ca : Nat → ClassId} {b : Nat → Nat} {A : Nat → Prop} {N : Nat} (hN : 129 ≤ N) (hA : gAd A b N) (I : Nat → Nat → Int32) (O : Nat → Nat → Option Nat) (J : Nat → Nat → Int64) (t0 : Nat) (hk_t0 : SHK t0 = 3) (res : Nat → Nat → Option Nat) (h : f_X3_putInOrder t0 I O = some res) : Met l yX3_putInOrder wsX3_putInOrder ({ frames := 2, cells := 0, slots := 0, locals := 47 } : Room) (va_Pc [.ref (b t0)] (gPre dC dI ca b A N I O J)) (va_Qv (fun (u : Nat → Nat → Option Nat) => res = u) (fun (u : Nat → Nat → Option Nat) t => va_P (dC, dI) vwCl (hW N ca b I u J) t.heap) A) 0 0 A := by
  refine Met.ofW (cc := cX3_putInOrder) (maxL := 6) (ret := none) (by decide) rfl ?_
  intro p e s m args below meth c s₁ B hml hv
  obtain ⟨rfl, hP, hK, hA2, hth⟩ := hv
  have hx := B.exec
  have hb := B.bytes
  have hr := B.returns
  have hlk := B.notSynchronized
  have X : gCx p s m ([.ref (b t0)] : List Value).toArray c RX3 cX3_putInOrder wsX3_putInOrder 6 dC dI ca b A N := ⟨hx, hb, hml, findClass_of_methodNamed B.named, atoms_spec (ws := wsX3_putInOrder) B.pre, hK, hA, hA2, hth⟩
  have hi3 : ∀ w ∈ wsX30, w ∈ wsX3_putInOrder := (fun w h => List.mem_cons_of_mem _ (List.mem_append_left _ (List.mem_append_right _ h)))
  have hS : va_S A s.heap s.heap [] := va_S.rf
  have hl := lv_entry ([.ref (b t0)] : List Value) (n := 6) (Nat.le_of_ble_eq_true rfl)
  rw [lg_entry_eq]
  generalize (lg_sl ([.ref (b t0)] : List Value) ++ List.replicate (6 - (lg_sl ([.ref (b t0)] : List Value)).length) Slot.unset).toArray = ls at hl ⊢
  have hl : lv_has ls 6 [(0, .ref (b t0))] := hl
  unfold f_X3_putInOrder at h
  refine lv_iconst (v := 0) hx hb dX3_putInOrder_0 (by decide) ?_
  refine lv_istore_n (lv' := [(1, .int (0 : Int32)), (0, .ref (b t0))]) hx hb dX3_putInOrder_1 rfl hl (by decide) rfl (fun ls hl => ?_)
  refine lv_aload_n hx hb dX3_putInOrder_2 rfl (lv_at hl 1 rfl) ?_
  refine gg3_0 X hP hk_t0 (sk_in hN hk_t0 (by decide)) hi3 (List.mem_of_getElem? (i := 1) rfl) dX3_putInOrder_3 ?_
  refine lv_astore_n (lv' := [(2, .ref (b (t0 + 1))), (1, .int (0 : Int32)), (0, .ref (b t0))]) hx hb dX3_putInOrder_6 rfl hl (by decide) rfl (fun ls hl => ?_)
  refine lv_aload_n hx hb dX3_putInOrder_7 rfl (lv_at hl 0 rfl) ?_
  refine gl24 X hP (sk3_1 hk_t0) (sk_in hN (sk3_1 hk_t0) (by decide)) dX3_putInOrder_8 ?_
  refine lv_istore_n (lv' := [(3, .int (8 : Int32)), (2, .ref (b (t0 + 1))), (1, .int (0 : Int32)), (0, .ref (b t0))]) hx hb dX3_putInOrder_9 rfl hl (by decide) rfl (fun ls hl => ?_)
  refine lv_iconst (v := 0) hx hb dX3_putInOrder_10 (by decide) ?_
  refine lv_istore (lv' := [(4, .int (0 : Int32)), (3, .int (8 : Int32)), (2, .ref (b (t0 + 1))), (1, .int (0 : Int32)), (0, .ref (b t0))]) hx hb dX3_putInOrder_11 hl (by decide) rfl (fun ls hl => ?_)
  obtain ⟨O4, hv, h⟩ := hb_some h
  have K50 : ∀ (H : Heap) (locs : List Loc) (ls : Array Slot), va_P (dC, dI) vwCl (hW N ca b I O4 J) H → va_S A s.heap H locs → lv_has ls 6 [] → W p l e (headSpec wsX3_putInOrder ({ frames := 2, cells := 0, slots := 0, locals := 47 } : Room)).room s m ([.ref (b t0)] : List Value).toArray below meth c H locs 0 0 (MQ below (va_Qv (fun (u : Nat → Nat → Option Nat) => res = u) (fun (u : Nat → Nat → Option Nat) t => va_P (dC, dI) vwCl (hW N ca b I u J) t.heap) A) ([.ref (b t0)] : List Value).toArray s 0 0 A) (F0 m 50 ls []) := by
    intro H locs ls hP hS hl
    exact W.vret hx hb hr (fun t9 ht hW => ⟨⟨O4, rfl, (Option.some.inj h).symm, gEnd ht hP⟩, hS.F ht⟩) hS.2.2 dX3_putInOrder_50 hlk
  have hL13 : ∀ (fuel : Nat) (p1 : Int32) (p2 : Int32) (O3 : Nat → Nat → Option Nat) (H : Heap) (locs : List Loc) (ls : Array Slot), f_X3_putInOrder_L13 t0 I fuel p1 p2 O3 = some O4 → va_P (dC, dI) vwCl (hW N ca b I O3 J) H → va_S A s.heap H locs → lv_has ls 6 [(0, .ref (b t0)), (1, .int p1), (2, .ref (b (t0 + 1))), (3, .int (8 : Int32)), (4, .int p2)] → W p l e (headSpec wsX3_putInOrder ({ frames := 2, cells := 0, slots := 0, locals := 47 } : Room)).room s m ([.ref (b t0)] : List Value).toArray below meth c H locs 0 0 (MQ below (va_Qv (fun (u : Nat → Nat → Option Nat) => res = u) (fun (u : Nat → Nat → Option Nat) t => va_P (dC, dI) vwCl (hW N ca b I u J) t.heap) A) ([.ref (b t0)] : List Value).toArray s 0 0 A) (F0 m 13 ls []) := by
    intro fuel
    induction fuel with
    | zero =>
      intro p1 p2 O3 H locs ls h hP hS hl
      rw [f_X3_putInOrder_L13] at h
      cases h
    | succ fuel ih =>
      intro p1 p2 O3 H locs ls h hP hS hl
      rw [f_X3_putInOrder_L13] at h
      refine lv_iload hx hb dX3_putInOrder_13 (lv_at hl 4 rfl) ?_
      refine lv_iload_n hx hb dX3_putInOrder_15 rfl (lv_at hl 3 rfl) ?_
      refine lv_icmp_ge (tgt := 50) hx hb dX3_putInOrder_16 (by decide) (fun c15 => ?_) (fun c15 => ?_)
      · have h := gif_t c15 h
        cases h
        exact K50 _ _ _ hP hS (lv_sub hl [] rfl)
      · have h := gif_f c15 h
        refine lv_aload_n hx hb dX3_putInOrder_19 rfl (lv_at hl 2 rfl) ?_
        refine lv_iload hx hb dX3_putInOrder_20 (lv_at hl 4 rfl) ?_
        obtain ⟨hgi5, h⟩ := hg_some h
        refine ga24 X hP (sk3_1 hk_t0) (sk_in hN (sk3_1 hk_t0) (by decide)) hgi5 dX3_putInOrder_22 ?_
        refine lv_astore (lv' := [(5, .ref (b ((t0 + 1) + 3 + p2.toNatClampNeg))), (0, .ref (b t0)), (1, .int p1), (2, .ref (b (t0 + 1))), (3, .int (8 : Int32)), (4, .int p2)]) hx hb dX3_putInOrder_23 hl (by decide) rfl (fun ls hl => ?_)
        refine lv_aload_n hx hb dX3_putInOrder_25 rfl (lv_at hl 1 rfl) ?_
        refine lv_aload hx hb dX3_putInOrder_26 (lv_at hl 0 rfl) ?_
        obtain ⟨q7, hcq7, h⟩ := hb_some h
        refine gdV_i (As := [.ref (b ((t0 + 1) + 3 + p2.toNatClampNeg))]) (rest := []) (BH := (fun (u : Unit) H => va_P (dC, dI) vwCl (hW N ca b I O3 J) H)) X hP hS (c_X3_isThere hN hA I O3 J t0 (some ((t0 + 1) + 3 + p2.toNatClampNeg)) hk_t0 q7 hcq7) (cwV 1 X.ts gX3_putInOrder_X3_isThere rfl rfl rfl (by decide +kernel) ⟨Nat.le_of_ble_eq_true rfl, Nat.le_of_ble_eq_true rfl⟩) (gr3 X hP hk_t0 (sk_in hN hk_t0 (by decide))) rfl hl.1 rfl (Nat.le_of_ble_eq_true rfl) dX3_putInOrder_28 ⟨Nat.le_of_ble_eq_true rfl, Nat.le_of_ble_eq_true rfl⟩ (fun r6 u9 H locs hw hP hS => ?_)
        have hw := hw.symm
        subst hw
        obtain ⟨⟨p8, O9⟩, hv, h⟩ := hb_some h
        have K44 : ∀ (H : Heap) (locs : List Loc) (ls : Array Slot), va_P (dC, dI) vwCl (hW N ca b I O9 J) H → va_S A s.heap H locs → lv_has ls 6 [(0, .ref (b t0)), (1, .int p8), (2, .ref (b (t0 + 1))), (3, .int (8 : Int32)), (4, .int p2)] → W p l e (headSpec wsX3_putInOrder ({ frames := 2, cells := 0, slots := 0, locals := 47 } : Room)).room s m ([.ref (b t0)] : List Value).toArray below meth c H locs 0 0 (MQ below (va_Qv (fun (u : Nat → Nat → Option Nat) => res = u) (fun (u : Nat → Nat → Option Nat) t => va_P (dC, dI) vwCl (hW N ca b I u J) t.heap) A) ([.ref (b t0)] : List Value).toArray s 0 0 A) (F0 m 44 ls []) := by
          intro H locs ls hP hS hl
          obtain ⟨x10, ex10, h⟩ := hlet_ex h
          refine lv_iinc (v := x10) (lv' := [(4, .int x10), (0, .ref (b t0)), (1, .int p8), (2, .ref (b (t0 + 1))), (3, .int (8 : Int32))]) hx hb dX3_putInOrder_44 hl (k := 4) rfl (by rw [ex10]; rfl) (by decide) rfl (fun ls hl => ?_)
          refine lv_goto (tgt := 13) hx hb dX3_putInOrder_47 (by decide) ?_
          exact ih _ _ _ _ _ _ h hP hS (lv_sub hl [1, 2, 3, 4, 0] rfl)
        have h := hv
        refine lv_if_eq (tgt := 44) hx hb dX3_putInOrder_31 (by decide) (fun c14 => ?_) (fun c14 => ?_)
        · have h := gif_t c14 h
          cases h
          exact K44 _ _ _ hP hS (lv_sub hl [1, 2, 3, 4, 5] rfl)
        · have h := gif_f c14 h
          refine lv_aload_n hx hb dX3_putInOrder_34 rfl (lv_at hl 1 rfl) ?_
          refine lv_aload hx hb dX3_putInOrder_35 (lv_at hl 0 rfl) ?_
          refine lv_iload_n hx hb dX3_putInOrder_37 rfl (lv_at hl 2 rfl) ?_
          obtain ⟨q12, hcq12, h⟩ := hb_some h
          refine gdV_v (As := [.ref (b ((t0 + 1) + 3 + p2.toNatClampNeg)), .int p1]) (rest := []) (BH := (fun (u : Nat → Nat → Option Nat) H => va_P (dC, dI) vwCl (hW N ca b I u J) H)) X hP hS (c_X3_insertInOrder hN hA I O3 J t0 ((t0 + 1) + 3 + p2.toNatClampNeg) p1 hk_t0 (sk24 (sk3_1 hk_t0) (gin_lt hgi5)) q12 hcq12) (cwV 2 X.ts gX3_putInOrder_X3_insertInOrder rfl rfl rfl (by decide +kernel) ⟨Nat.le_of_ble_eq_true rfl, Nat.le_of_ble_eq_true rfl⟩) (gr3 X hP hk_t0 (sk_in hN hk_t0 (by decide))) rfl hl.1 rfl (Nat.le_of_ble_eq_true rfl) dX3_putInOrder_38 ⟨Nat.le_of_ble_eq_true rfl, Nat.le_of_ble_eq_true rfl⟩ (fun O11 H locs hw hP hS => ?_)
          have hw := hw.symm
          subst hw
          obtain ⟨x13, ex13, h⟩ := hlet_ex h
          refine lv_iinc (v := x13) (lv' := [(1, .int x13), (5, .ref (b ((t0 + 1) + 3 + p2.toNatClampNeg))), (0, .ref (b t0)), (2, .ref (b (t0 + 1))), (3, .int (8 : Int32)), (4, .int p2)]) hx hb dX3_putInOrder_41 hl (k := 2) rfl (by rw [ex13]; rfl) (by decide) rfl (fun ls hl => ?_)
          cases h
          exact K44 _ _ _ hP hS (lv_sub hl [2, 0, 3, 4, 5] rfl)
  exact hL13 FU _ _ _ _ _ _ hv hP hS (lv_sub hl [4, 3, 2, 1, 0] rfl)
def f_X3_inOrder (t0 : Nat) (a1 : Int32) (I : Nat → Nat → Int32) (O : Nat → Nat → Option Nat) : Option (Option Nat) :=
  if a1 < 0 then
    some (none : Option Nat)
  else
    if (I t0 3) ≤ a1 then
      some (none : Option Nat)
    else
      if a1 < (8 : Int32) then
        hg (gin a1 8) <|
        hlet (ov 6 (O (t0 + 2) (a1.toNatClampNeg))) fun r2 =>
        some r2
      else
        some (none : Option Nat)
set_option maxHeartbeats 8000000 in
set_option maxRecDepth 100000 in
theorem c_X3_inOrder {l : Launch} {dC : Nat → ClassId} {dI : Nat → Nat → Nat} {ca : Nat → ClassId} {b : Nat → Nat} {A : Nat → Prop} {N : Nat} (hN : 129 ≤ N) (hA : gAd A b N) (I : Nat → Nat → Int32) (O : Nat → Nat → Option Nat) (J : Nat → Nat → Int64) (t0 : Nat) (a1 : Int32) (hk_t0 : SHK t0 = 3) (res : Option Nat) (h : f_X3_inOrder t0 a1 I O = some res) : Met l yX3_inOrder wsX3_inOrder ({ frames := 0, cells := 0, slots := 0, locals := 0 } : Room) (va_Pc [.ref (b t0), .int a1] (gPre dC dI ca b A N I O J)) (va_Qq (fun (r : Option Nat) (u : Unit) => ∃ v, r = Option.map b v ∧ res = v) (fun (u : Unit) t => va_P (dC, dI) vwCl (hW N ca b I O J) t.heap) A) 0 0 A := by
  refine Met.ofW (cc := cX3_inOrder) (maxL := 2) (ret := (some (.object "SparrowRace$Sparrow"))) (by decide) rfl ?_
  intro p e s m args below meth c s₁ B hml hv
  obtain ⟨rfl, hP, hK, hA2, hth⟩ := hv
  have hx := B.exec
  have hb := B.bytes
  have hr := B.returns
  have hlk := B.notSynchronized
  have X : gCx p s m ([.ref (b t0), .int a1] : List Value).toArray c RX3 cX3_inOrder wsX3_inOrder 2 dC dI ca b A N := ⟨hx, hb, hml, findClass_of_methodNamed B.named, atoms_spec (ws := wsX3_inOrder) B.pre, hK, hA, hA2, hth⟩
  have hi3 : ∀ w ∈ wsX30, w ∈ wsX3_inOrder := (fun w h => List.mem_cons_of_mem _ (List.mem_append_right _ h))
  have hS : va_S A s.heap s.heap [] := va_S.rf
  have hl := lv_entry ([.ref (b t0), .int a1] : List Value) (n := 2) (Nat.le_of_ble_eq_true rfl)
  rw [lg_entry_eq]
  generalize (lg_sl ([.ref (b t0), .int a1] : List Value) ++ List.replicate (2 - (lg_sl ([.ref (b t0), .int a1] : List Value)).length) Slot.unset).toArray = ls at hl ⊢
  have hl : lv_has ls 2 [(0, .ref (b t0)), (1, .int a1)] := hl
  unfold f_X3_inOrder at h
  refine lv_iload_n hx hb dX3_inOrder_0 rfl (lv_at hl 1 rfl) ?_
  refine lv_if_lt (tgt := 21) hx hb dX3_inOrder_1 (by decide) (fun c5 => ?_) (fun c5 => ?_)
  · have h := gif_t c5 h
    refine lv_null hx hb dX3_inOrder_21 ?_
    exact W.aret (v := .null) (rt := (.object "SparrowRace$Sparrow")) hx hb hr (Or.inl ⟨_, rfl⟩) (Or.inl rfl) (fun t9 ht hW => ⟨⟨Option.map b (none : Option Nat), (), rfl, ⟨(none : Option Nat), rfl, (Option.some.inj h).symm⟩, gEnd ht hP⟩, hS.F ht⟩) hS.2.2 dX3_inOrder_22 hlk
  · have h := gif_f c5 h
    refine lv_iload_n hx hb dX3_inOrder_4 rfl (lv_at hl 1 rfl) ?_
    refine lv_aload_n hx hb dX3_inOrder_5 rfl (lv_at hl 0 rfl) ?_
    refine gg3_3 X hP hk_t0 (sk_in hN hk_t0 (by decide)) hi3 (List.mem_of_getElem? (i := 1) rfl) dX3_inOrder_6 ?_
    refine lv_icmp_ge (tgt := 21) hx hb dX3_inOrder_9 (by decide) (fun c4 => ?_) (fun c4 => ?_)
    · have h := gif_t c4 h
      refine lv_null hx hb dX3_inOrder_21 ?_
      exact W.aret (v := .null) (rt := (.object "SparrowRace$Sparrow")) hx hb hr (Or.inl ⟨_, rfl⟩) (Or.inl rfl) (fun t9 ht hW => ⟨⟨Option.map b (none : Option Nat), (), rfl, ⟨(none : Option Nat), rfl, (Option.some.inj h).symm⟩, gEnd ht hP⟩, hS.F ht⟩) hS.2.2 dX3_inOrder_22 hlk
    · have h := gif_f c4 h
      refine lv_iload_n hx hb dX3_inOrder_12 rfl (lv_at hl 1 rfl) ?_
      refine lv_aload_n hx hb dX3_inOrder_13 rfl (lv_at hl 0 rfl) ?_
      refine gg3_1 X hP hk_t0 (sk_in hN hk_t0 (by decide)) hi3 (List.mem_of_getElem? (i := 2) rfl) dX3_inOrder_14 ?_
      refine gl26 X hP (sk3_2 hk_t0) (sk_in hN (sk3_2 hk_t0) (by decide)) dX3_inOrder_17 ?_
      refine lv_icmp_lt (tgt := 23) hx hb dX3_inOrder_18 (by decide) (fun c3 => ?_) (fun c3 => ?_)
      · have h := gif_t c3 h
        refine lv_aload_n hx hb dX3_inOrder_23 rfl (lv_at hl 0 rfl) ?_
        refine gg3_1 X hP hk_t0 (sk_in hN hk_t0 (by decide)) hi3 (List.mem_of_getElem? (i := 2) rfl) dX3_inOrder_24 ?_
        refine lv_iload_n hx hb dX3_inOrder_27 rfl (lv_at hl 1 rfl) ?_
        obtain ⟨hgi1, h⟩ := hg_some h
        refine ga26 X hP (sk3_2 hk_t0) (sk_in hN (sk3_2 hk_t0) (by decide)) hgi1 dX3_inOrder_28 ?_
        refine gv_top (fun r2 er2 => ?_)
        have h := hlet_some er2 h
        exact W.aret (v := va_rf (Option.map b r2)) (rt := (.object "SparrowRace$Sparrow")) hx hb hr (Or.inl ⟨_, rfl⟩) (va_rf_or _) (fun t9 ht hW => ⟨⟨Option.map b r2, (), rfl, ⟨r2, rfl, (Option.some.inj h).symm⟩, gEnd ht hP⟩, hS.F ht⟩) hS.2.2 dX3_inOrder_29 hlk
      · have h := gif_f c3 h
        refine lv_null hx hb dX3_inOrder_21 ?_
        exact W.aret (v := .null) (rt := (.object "SparrowRace$Sparrow")) hx hb hr (Or.inl ⟨_, rfl⟩) (Or.inl rfl) (fun t9 ht hW => ⟨⟨Option.map b (none : Option Nat), (), rfl, ⟨(none : Option Nat), rfl, (Option.some.inj h).symm⟩, gEnd ht hP⟩, hS.F ht⟩) hS.2.2 dX3_inOrder_22 hlk
def f_X3_arrivedAs_L11 (t0 : Nat) (a1 : Int32) (I : Nat → Nat → Int32) : Nat → Int32 → Option (Option Nat)
  | 0, _ => none
  | fuel + 1, p1 =>
    if (8 : Int32) ≤ p1 then
      some (none : Option Nat)
    else
      hg (gin p1 8) <|
      (f_X3_isThere t0 (some ((t0 + 1) + 3 + p1.toNatClampNeg)) I).bind fun r3 =>
      hlet (fun (_ : Unit) => show Option (Option Nat) from
        hlet (p1 + 1) fun x6 =>
        f_X3_arrivedAs_L11 t0 a1 I fuel x6) fun j5 =>
      if r3 = 0 then
        j5 ()
      else
        if (I ((t0 + 1) + 3 + p1.toNatClampNeg) 9) = (3 : Int32) then
          if (I ((t0 + 1) + 3 + p1.toNatClampNeg) 13) = a1 then
            some (some ((t0 + 1) + 3 + p1.toNatClampNeg))
          else
            j5 ()
        else
          j5 ()
def f_X3_arrivedAs (t0 : Nat) (a1 : Int32) (I : Nat → Nat → Int32) : Option (Option Nat) :=
  f_X3_arrivedAs_L11 t0 a1 I FU (0 : Int32)
set_option maxHeartbeats 8000000 in
set_option maxRecDepth 100000 in
theorem c_X3_arrivedAs {l : Launch} {dC : Nat → ClassId} {dI : Nat → Nat → Nat} {ca : Nat → ClassId} {b : Nat → Nat} {A : Nat → Prop} {N : Nat} (hN : 129 ≤ N) (hA : gAd A b N) (I : Nat → Nat → Int32) (O : Nat → Nat → Option Nat) (J : Nat → Nat → Int64) (t0 : Nat) (a1 : Int32) (hk_t0 : SHK t0 = 3) (res : Option Nat) (h : f_X3_arrivedAs t0 a1 I = some res) : Met l yX3_arrivedAs wsX3_arrivedAs ({ frames := 1, cells := 0, slots := 0, locals := 21 } : Room) (va_Pc [.ref (b t0), .int a1] (gPre dC dI ca b A N I O J)) (va_Qq (fun (r : Option Nat) (u : Unit) => ∃ v, r = Option.map b v ∧ res = v) (fun (u : Unit) t => va_P (dC, dI) vwCl (hW N ca b I O J) t.heap) A) 0 0 A := by
  refine Met.ofW (cc := cX3_arrivedAs) (maxL := 6) (ret := (some (.object "SparrowRace$Sparrow"))) (by decide) rfl ?_
  intro p e s m args below meth c s₁ B hml hv
  obtain ⟨rfl, hP, hK, hA2, hth⟩ := hv
  have hx := B.exec
  have hb := B.bytes
  have hr := B.returns
  have hlk := B.notSynchronized
  have X : gCx p s m ([.ref (b t0), .int a1] : List Value).toArray c RX3 cX3_arrivedAs wsX3_arrivedAs 6 dC dI ca b A N := ⟨hx, hb, hml, findClass_of_methodNamed B.named, atoms_spec (ws := wsX3_arrivedAs) B.pre, hK, hA, hA2, hth⟩
  have hi3 : ∀ w ∈ wsX30, w ∈ wsX3_arrivedAs := (fun w h => List.mem_cons_of_mem _ (List.mem_append_left _ (List.mem_append_right _ h)))
  have hi6 : ∀ w ∈ wsX60, w ∈ wsX3_arrivedAs := (fun w h => List.mem_cons_of_mem _ (List.mem_append_right _ h))
  have hS : va_S A s.heap s.heap [] := va_S.rf
  have hl := lv_entry ([.ref (b t0), .int a1] : List Value) (n := 6) (Nat.le_of_ble_eq_true rfl)
  rw [lg_entry_eq]
  generalize (lg_sl ([.ref (b t0), .int a1] : List Value) ++ List.replicate (6 - (lg_sl ([.ref (b t0), .int a1] : List Value)).length) Slot.unset).toArray = ls at hl ⊢
  have hl : lv_has ls 6 [(0, .ref (b t0)), (1, .int a1)] := hl
  unfold f_X3_arrivedAs at h
  refine lv_aload_n hx hb dX3_arrivedAs_0 rfl (lv_at hl 0 rfl) ?_
  refine gg3_0 X hP hk_t0 (sk_in hN hk_t0 (by decide)) hi3 (List.mem_of_getElem? (i := 1) rfl) dX3_arrivedAs_1 ?_
  refine lv_astore_n (lv' := [(2, .ref (b (t0 + 1))), (0, .ref (b t0)), (1, .int a1)]) hx hb dX3_arrivedAs_4 rfl hl (by decide) rfl (fun ls hl => ?_)
  refine lv_aload_n hx hb dX3_arrivedAs_5 rfl (lv_at hl 0 rfl) ?_
  refine gl24 X hP (sk3_1 hk_t0) (sk_in hN (sk3_1 hk_t0) (by decide)) dX3_arrivedAs_6 ?_
  refine lv_istore_n (lv' := [(3, .int (8 : Int32)), (2, .ref (b (t0 + 1))), (0, .ref (b t0)), (1, .int a1)]) hx hb dX3_arrivedAs_7 rfl hl (by decide) rfl (fun ls hl => ?_)
  refine lv_iconst (v := 0) hx hb dX3_arrivedAs_8 (by decide) ?_
  refine lv_istore (lv' := [(4, .int (0 : Int32)), (3, .int (8 : Int32)), (2, .ref (b (t0 + 1))), (0, .ref (b t0)), (1, .int a1)]) hx hb dX3_arrivedAs_9 hl (by decide) rfl (fun ls hl => ?_)
  have hL11 : ∀ (fuel : Nat) (p1 : Int32) (H : Heap) (locs : List Loc) (ls : Array Slot), f_X3_arrivedAs_L11 t0 a1 I fuel p1 = some res → va_P (dC, dI) vwCl (hW N ca b I O J) H → va_S A s.heap H locs → lv_has ls 6 [(0, .ref (b t0)), (1, .int a1), (2, .ref (b (t0 + 1))), (3, .int (8 : Int32)), (4, .int p1)] → W p l e (headSpec wsX3_arrivedAs ({ frames := 1, cells := 0, slots := 0, locals := 21 } : Room)).room s m ([.ref (b t0), .int a1] : List Value).toArray below meth c H locs 0 0 (MQ below (va_Qq (fun (r : Option Nat) (u : Unit) => ∃ v, r = Option.map b v ∧ res = v) (fun (u : Unit) t => va_P (dC, dI) vwCl (hW N ca b I O J) t.heap) A) ([.ref (b t0), .int a1] : List Value).toArray s 0 0 A) (F0 m 11 ls []) := by
    intro fuel
    induction fuel with
    | zero =>
      intro p1 H locs ls h hP hS hl
      rw [f_X3_arrivedAs_L11] at h
      cases h
    | succ fuel ih =>
      intro p1 H locs ls h hP hS hl
      rw [f_X3_arrivedAs_L11] at h
      refine lv_iload hx hb dX3_arrivedAs_11 (lv_at hl 4 rfl) ?_
      refine lv_iload_n hx hb dX3_arrivedAs_13 rfl (lv_at hl 3 rfl) ?_
      refine lv_icmp_ge (tgt := 59) hx hb dX3_arrivedAs_14 (by decide) (fun c10 => ?_) (fun c10 => ?_)
      · have h := gif_t c10 h
        refine lv_null hx hb dX3_arrivedAs_59 ?_
        exact W.aret (v := .null) (rt := (.object "SparrowRace$Sparrow")) hx hb hr (Or.inl ⟨_, rfl⟩) (Or.inl rfl) (fun t9 ht hW => ⟨⟨Option.map b (none : Option Nat), (), rfl, ⟨(none : Option Nat), rfl, (Option.some.inj h).symm⟩, gEnd ht hP⟩, hS.F ht⟩) hS.2.2 dX3_arrivedAs_60 hlk
      · have h := gif_f c10 h
        refine lv_aload_n hx hb dX3_arrivedAs_17 rfl (lv_at hl 2 rfl) ?_
        refine lv_iload hx hb dX3_arrivedAs_18 (lv_at hl 4 rfl) ?_
        obtain ⟨hgi2, h⟩ := hg_some h
        refine ga24 X hP (sk3_1 hk_t0) (sk_in hN (sk3_1 hk_t0) (by decide)) hgi2 dX3_arrivedAs_20 ?_
        refine lv_astore (lv' := [(5, .ref (b ((t0 + 1) + 3 + p1.toNatClampNeg))), (0, .ref (b t0)), (1, .int a1), (2, .ref (b (t0 + 1))), (3, .int (8 : Int32)), (4, .int p1)]) hx hb dX3_arrivedAs_21 hl (by decide) rfl (fun ls hl => ?_)
        refine lv_aload_n hx hb dX3_arrivedAs_23 rfl (lv_at hl 1 rfl) ?_
        refine lv_aload hx hb dX3_arrivedAs_24 (lv_at hl 0 rfl) ?_
        obtain ⟨q4, hcq4, h⟩ := hb_some h
        refine gdV_i (As := [.ref (b ((t0 + 1) + 3 + p1.toNatClampNeg))]) (rest := []) (BH := (fun (u : Unit) H => va_P (dC, dI) vwCl (hW N ca b I O J) H)) X hP hS (c_X3_isThere hN hA I O J t0 (some ((t0 + 1) + 3 + p1.toNatClampNeg)) hk_t0 q4 hcq4) (cwV 1 X.ts gX3_arrivedAs_X3_isThere rfl rfl rfl (by decide +kernel) ⟨Nat.le_of_ble_eq_true rfl, Nat.le_of_ble_eq_true rfl⟩) (gr3 X hP hk_t0 (sk_in hN hk_t0 (by decide))) rfl hl.1 rfl (Nat.le_of_ble_eq_true rfl) dX3_arrivedAs_26 ⟨Nat.le_of_ble_eq_true rfl, Nat.le_of_ble_eq_true rfl⟩ (fun r3 u9 H locs hw hP hS => ?_)
        have hw := hw.symm
        subst hw
        obtain ⟨j5, ej5, h⟩ := hlet_ex h
        have K53 : ∀ (H : Heap) (locs : List Loc) (ls : Array Slot), j5 () = some res → va_P (dC, dI) vwCl (hW N ca b I O J) H → va_S A s.heap H locs → lv_has ls 6 [(0, .ref (b t0)), (1, .int a1), (2, .ref (b (t0 + 1))), (3, .int (8 : Int32)), (4, .int p1)] → W p l e (headSpec wsX3_arrivedAs ({ frames := 1, cells := 0, slots := 0, locals := 21 } : Room)).room s m ([.ref (b t0), .int a1] : List Value).toArray below meth c H locs 0 0 (MQ below (va_Qq (fun (r : Option Nat) (u : Unit) => ∃ v, r = Option.map b v ∧ res = v) (fun (u : Unit) t => va_P (dC, dI) vwCl (hW N ca b I O J) t.heap) A) ([.ref (b t0), .int a1] : List Value).toArray s 0 0 A) (F0 m 53 ls []) := by
          intro H locs ls h hP hS hl
          rw [ej5] at h
          obtain ⟨x6, ex6, h⟩ := hlet_ex h
          refine lv_iinc (v := x6) (lv' := [(4, .int x6), (0, .ref (b t0)), (1, .int a1), (2, .ref (b (t0 + 1))), (3, .int (8 : Int32))]) hx hb dX3_arrivedAs_53 hl (k := 4) rfl (by rw [ex6]; rfl) (by decide) rfl (fun ls hl => ?_)
          refine lv_goto (tgt := 11) hx hb dX3_arrivedAs_56 (by decide) ?_
          exact ih _ _ _ _ h hP hS (lv_sub hl [1, 2, 3, 4, 0] rfl)
        refine lv_if_eq (tgt := 53) hx hb dX3_arrivedAs_29 (by decide) (fun c9 => ?_) (fun c9 => ?_)
        · have h := gif_t c9 h
          exact K53 _ _ _ h hP hS (lv_sub hl [1, 2, 3, 4, 5] rfl)
        · have h := gif_f c9 h
          refine lv_aload hx hb dX3_arrivedAs_32 (lv_at hl 0 rfl) ?_
          refine gg6_9 X hP (sk24 (sk3_1 hk_t0) (gin_lt hgi2)) (sk_in hN (sk24 (sk3_1 hk_t0) (gin_lt hgi2)) (by decide)) hi6 (List.mem_of_getElem? (i := 2) rfl) dX3_arrivedAs_34 ?_
          refine lv_iconst (v := 3) hx hb dX3_arrivedAs_37 (by decide) ?_
          refine lv_icmp_ne (tgt := 53) hx hb dX3_arrivedAs_38 (by decide) (fun c8 => ?_) (fun c8 => ?_)
          · have h := gif_f c8 h
            exact K53 _ _ _ h hP hS (lv_sub hl [1, 2, 3, 4, 5] rfl)
          · have h := gif_t c8 h
            refine lv_aload hx hb dX3_arrivedAs_41 (lv_at hl 0 rfl) ?_
            refine gg6_13 X hP (sk24 (sk3_1 hk_t0) (gin_lt hgi2)) (sk_in hN (sk24 (sk3_1 hk_t0) (gin_lt hgi2)) (by decide)) hi6 (List.mem_of_getElem? (i := 3) rfl) dX3_arrivedAs_43 ?_
            refine lv_iload_n hx hb dX3_arrivedAs_46 rfl (lv_at hl 2 rfl) ?_
            refine lv_icmp_ne (tgt := 53) hx hb dX3_arrivedAs_47 (by decide) (fun c7 => ?_) (fun c7 => ?_)
            · have h := gif_f c7 h
              exact K53 _ _ _ h hP hS (lv_sub hl [1, 2, 3, 4, 5] rfl)
            · have h := gif_t c7 h
              refine lv_aload hx hb dX3_arrivedAs_50 (lv_at hl 0 rfl) ?_
              exact W.aret (v := .ref (b ((t0 + 1) + 3 + p1.toNatClampNeg))) (rt := (.object "SparrowRace$Sparrow")) hx hb hr (Or.inl ⟨_, rfl⟩) (Or.inr ⟨_, rfl⟩) (fun t9 ht hW => ⟨⟨Option.map b (some ((t0 + 1) + 3 + p1.toNatClampNeg)), (), rfl, ⟨(some ((t0 + 1) + 3 + p1.toNatClampNeg)), rfl, (Option.some.inj h).symm⟩, gEnd ht hP⟩, hS.F ht⟩) hS.2.2 dX3_arrivedAs_52 hlk
  exact hL11 FU _ _ _ _ h hP hS (lv_sub hl [3, 4, 2, 1, 0] rfl)
def f_X3_sumFlown_L13 (t0 : Nat) (I : Nat → Nat → Int32) : Nat → Int32 → Int32 → Option (Int32)
  | 0, _, _ => none
  | fuel + 1, p1, p2 =>
    if (8 : Int32) ≤ p2 then
      some p1
    else
      hg (gin p2 8) <|
      (f_X3_isThere t0 (some ((t0 + 1) + 3 + p2.toNatClampNeg)) I).bind fun r5 =>
      (show Option (Int32) from
        if r5 = 0 then
          some p1
        else
          some (p1 + (I ((t0 + 1) + 3 + p2.toNatClampNeg) 4))).bind fun p7 =>
      hlet (p2 + 1) fun x8 =>
      f_X3_sumFlown_L13 t0 I fuel p7 x8
def f_X3_sumFlown (t0 : Nat) (I : Nat → Nat → Int32) : Option (Int32) :=
  (f_X3_sumFlown_L13 t0 I FU (0 : Int32) (0 : Int32)).bind fun p3 =>
  some p3
set_option maxHeartbeats 8000000 in
set_option maxRecDepth 100000 in
theorem c_X3_sumFlown {l : Launch} {dC : Nat → ClassId} {dI : Nat → Nat → Nat} {ca : Nat → ClassId} {b : Nat → Nat} {A : Nat → Prop} {N : Nat} (hN : 129 ≤ N) (hA : gAd A b N) (I : Nat → Nat → Int32) (O : Nat → Nat → Option Nat) (J : Nat → Nat → Int64) (t0 : Nat) (hk_t0 : SHK t0 = 3) (res : Int32) (h : f_X3_sumFlown t0 I = some res) : Met l yX3_sumFlown wsX3_sumFlown ({ frames := 1, cells := 0, slots := 0, locals := 21 } : Room) (va_Pc [.ref (b t0)] (gPre dC dI ca b A N I O J)) (va_Qi (fun (r : Int32) (u : Unit) => res = r) (fun (u : Unit) t => va_P (dC, dI) vwCl (hW N ca b I O J) t.heap) A) 0 0 A := by
  refine Met.ofW (cc := cX3_sumFlown) (maxL := 6) (ret := (some .int)) (by decide) rfl ?_
  intro p e s m args below meth c s₁ B hml hv
  obtain ⟨rfl, hP, hK, hA2, hth⟩ := hv
  have hx := B.exec
  have hb := B.bytes
  have hr := B.returns
  have hlk := B.notSynchronized
  have X : gCx p s m ([.ref (b t0)] : List Value).toArray c RX3 cX3_sumFlown wsX3_sumFlown 6 dC dI ca b A N := ⟨hx, hb, hml, findClass_of_methodNamed B.named, atoms_spec (ws := wsX3_sumFlown) B.pre, hK, hA, hA2, hth⟩
  have hi3 : ∀ w ∈ wsX30, w ∈ wsX3_sumFlown := (fun w h => List.mem_cons_of_mem _ (List.mem_append_left _ (List.mem_append_right _ h)))
  have hi6 : ∀ w ∈ wsX60, w ∈ wsX3_sumFlown := (fun w h => List.mem_cons_of_mem _ (List.mem_append_right _ h))
  have hS : va_S A s.heap s.heap [] := va_S.rf
  have hl := lv_entry ([.ref (b t0)] : List Value) (n := 6) (Nat.le_of_ble_eq_true rfl)
  rw [lg_entry_eq]
  generalize (lg_sl ([.ref (b t0)] : List Value) ++ List.replicate (6 - (lg_sl ([.ref (b t0)] : List Value)).length) Slot.unset).toArray = ls at hl ⊢
  have hl : lv_has ls 6 [(0, .ref (b t0))] := hl
  unfold f_X3_sumFlown at h
  refine lv_iconst (v := 0) hx hb dX3_sumFlown_0 (by decide) ?_
  refine lv_istore_n (lv' := [(1, .int (0 : Int32)), (0, .ref (b t0))]) hx hb dX3_sumFlown_1 rfl hl (by decide) rfl (fun ls hl => ?_)
  refine lv_aload_n hx hb dX3_sumFlown_2 rfl (lv_at hl 1 rfl) ?_
  refine gg3_0 X hP hk_t0 (sk_in hN hk_t0 (by decide)) hi3 (List.mem_of_getElem? (i := 1) rfl) dX3_sumFlown_3 ?_
  refine lv_astore_n (lv' := [(2, .ref (b (t0 + 1))), (1, .int (0 : Int32)), (0, .ref (b t0))]) hx hb dX3_sumFlown_6 rfl hl (by decide) rfl (fun ls hl => ?_)
  refine lv_aload_n hx hb dX3_sumFlown_7 rfl (lv_at hl 0 rfl) ?_
  refine gl24 X hP (sk3_1 hk_t0) (sk_in hN (sk3_1 hk_t0) (by decide)) dX3_sumFlown_8 ?_
  refine lv_istore_n (lv' := [(3, .int (8 : Int32)), (2, .ref (b (t0 + 1))), (1, .int (0 : Int32)), (0, .ref (b t0))]) hx hb dX3_sumFlown_9 rfl hl (by decide) rfl (fun ls hl => ?_)
  refine lv_iconst (v := 0) hx hb dX3_sumFlown_10 (by decide) ?_
  refine lv_istore (lv' := [(4, .int (0 : Int32)), (3, .int (8 : Int32)), (2, .ref (b (t0 + 1))), (1, .int (0 : Int32)), (0, .ref (b t0))]) hx hb dX3_sumFlown_11 hl (by decide) rfl (fun ls hl => ?_)
  obtain ⟨p3, hv, h⟩ := hb_some h
  have K48 : ∀ (H : Heap) (locs : List Loc) (ls : Array Slot), va_P (dC, dI) vwCl (hW N ca b I O J) H → va_S A s.heap H locs → lv_has ls 6 [(1, .int p3)] → W p l e (headSpec wsX3_sumFlown ({ frames := 1, cells := 0, slots := 0, locals := 21 } : Room)).room s m ([.ref (b t0)] : List Value).toArray below meth c H locs 0 0 (MQ below (va_Qi (fun (r : Int32) (u : Unit) => res = r) (fun (u : Unit) t => va_P (dC, dI) vwCl (hW N ca b I O J) t.heap) A) ([.ref (b t0)] : List Value).toArray s 0 0 A) (F0 m 48 ls []) := by
    intro H locs ls hP hS hl
    refine lv_iload_n hx hb dX3_sumFlown_48 rfl (lv_at hl 0 rfl) ?_
    exact W.iret hx hb hr (fun t9 ht hW => ⟨⟨p3, (), rfl, (Option.some.inj h).symm, gEnd ht hP⟩, hS.F ht⟩) hS.2.2 dX3_sumFlown_49 hlk
  have hL13 : ∀ (fuel : Nat) (p1 : Int32) (p2 : Int32) (H : Heap) (locs : List Loc) (ls : Array Slot), f_X3_sumFlown_L13 t0 I fuel p1 p2 = some p3 → va_P (dC, dI) vwCl (hW N ca b I O J) H → va_S A s.heap H locs → lv_has ls 6 [(0, .ref (b t0)), (1, .int p1), (2, .ref (b (t0 + 1))), (3, .int (8 : Int32)), (4, .int p2)] → W p l e (headSpec wsX3_sumFlown ({ frames := 1, cells := 0, slots := 0, locals := 21 } : Room)).room s m ([.ref (b t0)] : List Value).toArray below meth c H locs 0 0 (MQ below (va_Qi (fun (r : Int32) (u : Unit) => res = r) (fun (u : Unit) t => va_P (dC, dI) vwCl (hW N ca b I O J) t.heap) A) ([.ref (b t0)] : List Value).toArray s 0 0 A) (F0 m 13 ls []) := by
    intro fuel
    induction fuel with
    | zero =>
      intro p1 p2 H locs ls h hP hS hl
      rw [f_X3_sumFlown_L13] at h
      cases h
    | succ fuel ih =>
      intro p1 p2 H locs ls h hP hS hl
      rw [f_X3_sumFlown_L13] at h
      refine lv_iload hx hb dX3_sumFlown_13 (lv_at hl 4 rfl) ?_
      refine lv_iload_n hx hb dX3_sumFlown_15 rfl (lv_at hl 3 rfl) ?_
      refine lv_icmp_ge (tgt := 48) hx hb dX3_sumFlown_16 (by decide) (fun c10 => ?_) (fun c10 => ?_)
      · have h := gif_t c10 h
        cases h
        exact K48 _ _ _ hP hS (lv_sub hl [1] rfl)
      · have h := gif_f c10 h
        refine lv_aload_n hx hb dX3_sumFlown_19 rfl (lv_at hl 2 rfl) ?_
        refine lv_iload hx hb dX3_sumFlown_20 (lv_at hl 4 rfl) ?_
        obtain ⟨hgi4, h⟩ := hg_some h
        refine ga24 X hP (sk3_1 hk_t0) (sk_in hN (sk3_1 hk_t0) (by decide)) hgi4 dX3_sumFlown_22 ?_
        refine lv_astore (lv' := [(5, .ref (b ((t0 + 1) + 3 + p2.toNatClampNeg))), (0, .ref (b t0)), (1, .int p1), (2, .ref (b (t0 + 1))), (3, .int (8 : Int32)), (4, .int p2)]) hx hb dX3_sumFlown_23 hl (by decide) rfl (fun ls hl => ?_)
        refine lv_aload_n hx hb dX3_sumFlown_25 rfl (lv_at hl 1 rfl) ?_
        refine lv_aload hx hb dX3_sumFlown_26 (lv_at hl 0 rfl) ?_
        obtain ⟨q6, hcq6, h⟩ := hb_some h
        refine gdV_i (As := [.ref (b ((t0 + 1) + 3 + p2.toNatClampNeg))]) (rest := []) (BH := (fun (u : Unit) H => va_P (dC, dI) vwCl (hW N ca b I O J) H)) X hP hS (c_X3_isThere hN hA I O J t0 (some ((t0 + 1) + 3 + p2.toNatClampNeg)) hk_t0 q6 hcq6) (cwV 1 X.ts gX3_sumFlown_X3_isThere rfl rfl rfl (by decide +kernel) ⟨Nat.le_of_ble_eq_true rfl, Nat.le_of_ble_eq_true rfl⟩) (gr3 X hP hk_t0 (sk_in hN hk_t0 (by decide))) rfl hl.1 rfl (Nat.le_of_ble_eq_true rfl) dX3_sumFlown_28 ⟨Nat.le_of_ble_eq_true rfl, Nat.le_of_ble_eq_true rfl⟩ (fun r5 u9 H locs hw hP hS => ?_)
        have hw := hw.symm
        subst hw
        obtain ⟨p7, hv, h⟩ := hb_some h
        have K42 : ∀ (H : Heap) (locs : List Loc) (ls : Array Slot), va_P (dC, dI) vwCl (hW N ca b I O J) H → va_S A s.heap H locs → lv_has ls 6 [(0, .ref (b t0)), (1, .int p7), (2, .ref (b (t0 + 1))), (3, .int (8 : Int32)), (4, .int p2)] → W p l e (headSpec wsX3_sumFlown ({ frames := 1, cells := 0, slots := 0, locals := 21 } : Room)).room s m ([.ref (b t0)] : List Value).toArray below meth c H locs 0 0 (MQ below (va_Qi (fun (r : Int32) (u : Unit) => res = r) (fun (u : Unit) t => va_P (dC, dI) vwCl (hW N ca b I O J) t.heap) A) ([.ref (b t0)] : List Value).toArray s 0 0 A) (F0 m 42 ls []) := by
          intro H locs ls hP hS hl
          obtain ⟨x8, ex8, h⟩ := hlet_ex h
          refine lv_iinc (v := x8) (lv' := [(4, .int x8), (0, .ref (b t0)), (1, .int p7), (2, .ref (b (t0 + 1))), (3, .int (8 : Int32))]) hx hb dX3_sumFlown_42 hl (k := 4) rfl (by rw [ex8]; rfl) (by decide) rfl (fun ls hl => ?_)
          refine lv_goto (tgt := 13) hx hb dX3_sumFlown_45 (by decide) ?_
          exact ih _ _ _ _ _ h hP hS (lv_sub hl [1, 2, 3, 4, 0] rfl)
        have h := hv
        refine lv_if_eq (tgt := 42) hx hb dX3_sumFlown_31 (by decide) (fun c9 => ?_) (fun c9 => ?_)
        · have h := gif_t c9 h
          cases h
          exact K42 _ _ _ hP hS (lv_sub hl [1, 2, 3, 4, 5] rfl)
        · have h := gif_f c9 h
          refine lv_iload_n hx hb dX3_sumFlown_34 rfl (lv_at hl 2 rfl) ?_
          refine lv_aload hx hb dX3_sumFlown_35 (lv_at hl 0 rfl) ?_
          refine gg6_4 X hP (sk24 (sk3_1 hk_t0) (gin_lt hgi4)) (sk_in hN (sk24 (sk3_1 hk_t0) (gin_lt hgi4)) (by decide)) hi6 (List.mem_of_getElem? (i := 2) rfl) dX3_sumFlown_37 ?_
          refine lv_iadd hx hb dX3_sumFlown_40 ?_
          refine lv_istore_n (lv' := [(1, .int (p1 + (I ((t0 + 1) + 3 + p2.toNatClampNeg) 4))), (5, .ref (b ((t0 + 1) + 3 + p2.toNatClampNeg))), (0, .ref (b t0)), (2, .ref (b (t0 + 1))), (3, .int (8 : Int32)), (4, .int p2)]) hx hb dX3_sumFlown_41 rfl hl (by decide) rfl (fun ls hl => ?_)
          cases h
          exact K42 _ _ _ hP hS (lv_sub hl [2, 0, 3, 4, 5] rfl)
  exact hL13 FU _ _ _ _ _ hv hP hS (lv_sub hl [4, 3, 2, 1, 0] rfl)
def f_X3_isInTheWay (t0 : Nat) (a1 : Option Nat) (a2 : Nat) (a3 : Int32) (I : Nat → Nat → Int32) : Option (Int32) :=
  hopt a1 (
    some (0 : Int32)) fun n1 => hk n1 6 <|
  if (I t0 3) ≤ (I n1 0) then
    some (0 : Int32)
  else
    if (I n1 0) = (I a2 0) then
      some (0 : Int32)
    else
      if (I n1 9) = (1 : Int32) then
        if (I n1 8) = a3 then
          some (1 : Int32)
        else
          some (0 : Int32)
      else
        some (0 : Int32)
set_option maxHeartbeats 8000000 in
set_option maxRecDepth 100000 in
theorem c_X3_isInTheWay {l : Launch} {dC : Nat → ClassId} {dI : Nat → Nat → Nat} {ca : Nat → ClassId} {b : Nat → Nat} {A : Nat → Prop} {N : Nat} (hN : 129 ≤ N) (hA : gAd A b N) (I : Nat → Nat → Int32) (O : Nat → Nat → Option Nat) (J : Nat → Nat → Int64) (t0 : Nat) (a1 : Option Nat) (a2 : Nat) (a3 : Int32) (hk_t0 : SHK t0 = 3) (hk_a2 : SHK a2 = 6) (res : Int32) (h : f_X3_isInTheWay t0 a1 a2 a3 I = some res) : Met l yX3_isInTheWay wsX3_isInTheWay ({ frames := 0, cells := 0, slots := 0, locals := 0 } : Room) (va_Pc [.ref (b t0), va_rf (Option.map b a1), .ref (b a2), .int a3] (gPre dC dI ca b A N I O J)) (va_Qi (fun (r : Int32) (u : Unit) => res = r) (fun (u : Unit) t => va_P (dC, dI) vwCl (hW N ca b I O J) t.heap) A) 0 0 A := by
  refine Met.ofW (cc := cX3_isInTheWay) (maxL := 4) (ret := (some .boolean)) (by decide) rfl ?_
  intro p e s m args below meth c s₁ B hml hv
  obtain ⟨rfl, hP, hK, hA2, hth⟩ := hv
  have hx := B.exec
  have hb := B.bytes
  have hr := B.returns
  have hlk := B.notSynchronized
  have X : gCx p s m ([.ref (b t0), va_rf (Option.map b a1), .ref (b a2), .int a3] : List Value).toArray c RX3 cX3_isInTheWay wsX3_isInTheWay 4 dC dI ca b A N := ⟨hx, hb, hml, findClass_of_methodNamed B.named, atoms_spec (ws := wsX3_isInTheWay) B.pre, hK, hA, hA2, hth⟩
  have hi3 : ∀ w ∈ wsX30, w ∈ wsX3_isInTheWay := (fun w h => List.mem_cons_of_mem _ (List.mem_append_right _ h))
  have hi6 : ∀ w ∈ wsX60, w ∈ wsX3_isInTheWay := (fun w h => List.mem_cons_of_mem _ (List.mem_append_left _ (List.mem_append_right _ h)))
  have hS : va_S A s.heap s.heap [] := va_S.rf
  have hl := lv_entry ([.ref (b t0), va_rf (Option.map b a1), .ref (b a2), .int a3] : List Value) (n := 4) (by simp [lg_sl, va_rf_cat, cat_ref, cat_int])
  rw [lg_entry_eq]
  generalize (lg_sl ([.ref (b t0), va_rf (Option.map b a1), .ref (b a2), .int a3] : List Value) ++ List.replicate (4 - (lg_sl ([.ref (b t0), va_rf (Option.map b a1), .ref (b a2), .int a3] : List Value)).length) Slot.unset).toArray = ls at hl ⊢
  have hl : lv_has ls 4 [(0, .ref (b t0)), (1, va_rf (Option.map b a1)), (2, .ref (b a2)), (3, .int a3)] := by simpa [lv_args, va_rf_cat, cat_ref, cat_int] using hl
  unfold f_X3_isInTheWay at h
  refine gv_aload_n (r := Option.map b a1) hx hb dX3_isInTheWay_0 rfl (lv_at hl 1 rfl) ?_
  cases a1 with
  | none =>
    have h := hopt_n h
    refine lv_ifnullN (tgt := 46) hx hb dX3_isInTheWay_1 (by decide) ?_
    refine lv_iconst (v := 0) hx hb dX3_isInTheWay_46 (by decide) ?_
    exact W.zret (ty := .boolean) hx hb hr (by decide) (fun t9 ht hW => ⟨⟨(0 : Int32), (), rfl, (Option.some.inj h).symm, gEnd ht hP⟩, hS.F ht⟩) hS.2.2 dX3_isInTheWay_47 hlk
  | some n1 =>
    obtain ⟨hk_n1, h⟩ := hk_some (hopt_s h)
    refine lv_ifnull hx hb dX3_isInTheWay_1 ?_
    refine lv_aload_n hx hb dX3_isInTheWay_4 rfl (lv_at hl 1 rfl) ?_
    refine gg6_0 X hP hk_n1 (sk_in hN hk_n1 (by decide)) hi6 (List.mem_of_getElem? (i := 1) rfl) dX3_isInTheWay_5 ?_
    refine lv_aload_n hx hb dX3_isInTheWay_8 rfl (lv_at hl 0 rfl) ?_
    refine gg3_3 X hP hk_t0 (sk_in hN hk_t0 (by decide)) hi3 (List.mem_of_getElem? (i := 2) rfl) dX3_isInTheWay_9 ?_
    refine lv_icmp_ge (tgt := 46) hx hb dX3_isInTheWay_12 (by decide) (fun c5 => ?_) (fun c5 => ?_)
    · have h := gif_t c5 h
      refine lv_iconst (v := 0) hx hb dX3_isInTheWay_46 (by decide) ?_
      exact W.zret (ty := .boolean) hx hb hr (by decide) (fun t9 ht hW => ⟨⟨(0 : Int32), (), rfl, (Option.some.inj h).symm, gEnd ht hP⟩, hS.F ht⟩) hS.2.2 dX3_isInTheWay_47 hlk
    · have h := gif_f c5 h
      refine lv_aload_n hx hb dX3_isInTheWay_15 rfl (lv_at hl 1 rfl) ?_
      refine gg6_0 X hP hk_n1 (sk_in hN hk_n1 (by decide)) hi6 (List.mem_of_getElem? (i := 1) rfl) dX3_isInTheWay_16 ?_
      refine lv_aload_n hx hb dX3_isInTheWay_19 rfl (lv_at hl 2 rfl) ?_
      refine gg6_0 X hP hk_a2 (sk_in hN hk_a2 (by decide)) hi6 (List.mem_of_getElem? (i := 1) rfl) dX3_isInTheWay_20 ?_
      refine lv_icmp_eq (tgt := 46) hx hb dX3_isInTheWay_23 (by decide) (fun c4 => ?_) (fun c4 => ?_)
      · have h := gif_t c4 h
        refine lv_iconst (v := 0) hx hb dX3_isInTheWay_46 (by decide) ?_
        exact W.zret (ty := .boolean) hx hb hr (by decide) (fun t9 ht hW => ⟨⟨(0 : Int32), (), rfl, (Option.some.inj h).symm, gEnd ht hP⟩, hS.F ht⟩) hS.2.2 dX3_isInTheWay_47 hlk
      · have h := gif_f c4 h
        refine lv_aload_n hx hb dX3_isInTheWay_26 rfl (lv_at hl 1 rfl) ?_
        refine gg6_9 X hP hk_n1 (sk_in hN hk_n1 (by decide)) hi6 (List.mem_of_getElem? (i := 3) rfl) dX3_isInTheWay_27 ?_
        refine lv_iconst (v := 1) hx hb dX3_isInTheWay_30 (by decide) ?_
        refine lv_icmp_ne (tgt := 46) hx hb dX3_isInTheWay_31 (by decide) (fun c3 => ?_) (fun c3 => ?_)
        · have h := gif_f c3 h
          refine lv_iconst (v := 0) hx hb dX3_isInTheWay_46 (by decide) ?_
          exact W.zret (ty := .boolean) hx hb hr (by decide) (fun t9 ht hW => ⟨⟨(0 : Int32), (), rfl, (Option.some.inj h).symm, gEnd ht hP⟩, hS.F ht⟩) hS.2.2 dX3_isInTheWay_47 hlk
        · have h := gif_t c3 h
          refine lv_aload_n hx hb dX3_isInTheWay_34 rfl (lv_at hl 1 rfl) ?_
          refine gg6_8 X hP hk_n1 (sk_in hN hk_n1 (by decide)) hi6 (List.mem_of_getElem? (i := 4) rfl) dX3_isInTheWay_35 ?_
          refine lv_iload_n hx hb dX3_isInTheWay_38 rfl (lv_at hl 3 rfl) ?_
          refine lv_icmp_ne (tgt := 46) hx hb dX3_isInTheWay_39 (by decide) (fun c2 => ?_) (fun c2 => ?_)
          · have h := gif_f c2 h
            refine lv_iconst (v := 0) hx hb dX3_isInTheWay_46 (by decide) ?_
            exact W.zret (ty := .boolean) hx hb hr (by decide) (fun t9 ht hW => ⟨⟨(0 : Int32), (), rfl, (Option.some.inj h).symm, gEnd ht hP⟩, hS.F ht⟩) hS.2.2 dX3_isInTheWay_47 hlk
          · have h := gif_t c2 h
            refine lv_iconst (v := 1) hx hb dX3_isInTheWay_42 (by decide) ?_
            refine lv_goto (tgt := 47) hx hb dX3_isInTheWay_43 (by decide) ?_
            exact W.zret (ty := .boolean) hx hb hr (by decide) (fun t9 ht hW => ⟨⟨(1 : Int32), (), rfl, (Option.some.inj h).symm, gEnd ht hP⟩, hS.F ht⟩) hS.2.2 dX3_isInTheWay_47 hlk
def f_X3_nextAhead_L20 (t0 : Nat) (a1 : Nat) (I : Nat → Nat → Int32) : Nat → Option Nat → Int32 → Int32 → Option (Option Nat)
  | 0, _, _, _ => none
  | fuel + 1, p1, p2, p3 =>
    if (8 : Int32) ≤ p3 then
      some p1
    else
      hg (gin p3 8) <|
      (f_X3_isInTheWay t0 (some ((t0 + 1) + 3 + p3.toNatClampNeg)) a1 (I a1 8) I).bind fun r6 =>
      (show Option (Option Nat × Int32) from
        if r6 = 0 then
          some (p1, p2)
        else
          (f_X6_feetBehind a1 ((t0 + 1) + 3 + p3.toNatClampNeg) I).bind fun r11 =>
          if p2 ≤ r11 then
            some (p1, p2)
          else
            some ((some ((t0 + 1) + 3 + p3.toNatClampNeg)), r11)).bind fun (p8, p9) =>
      hlet (p3 + 1) fun x10 =>
      f_X3_nextAhead_L20 t0 a1 I fuel p8 p9 x10
def f_X3_nextAhead (t0 : Nat) (a1 : Nat) (I : Nat → Nat → Int32) : Option (Option Nat) :=
  (f_X3_nextAhead_L20 t0 a1 I FU (none : Option Nat) (401 : Int32) (0 : Int32)).bind fun p4 =>
  some p4
set_option maxHeartbeats 8000000 in
set_option maxRecDepth 100000 in
theorem c_X3_nextAhead {l : Launch} {dC : Nat → ClassId} {dI : Nat → Nat → Nat} {ca : Nat → ClassId} {b : Nat → Nat} {A : Nat → Prop} {N : Nat} (hN : 129 ≤ N) (hA : gAd A b N) (I : Nat → Nat → Int32) (O : Nat → Nat → Option Nat) (J : Nat → Nat → Int64) (t0 : Nat) (a1 : Nat) (hk_t0 : SHK t0 = 3) (hk_a1 : SHK a1 = 6) (res : Option Nat) (h : f_X3_nextAhead t0 a1 I = some res) : Met l yX3_nextAhead wsX3_nextAhead ({ frames := 1, cells := 0, slots := 0, locals := 23 } : Room) (va_Pc [.ref (b t0), .ref (b a1)] (gPre dC dI ca b A N I O J)) (va_Qq (fun (r : Option Nat) (u : Unit) => ∃ v, r = Option.map b v ∧ res = v) (fun (u : Unit) t => va_P (dC, dI) vwCl (hW N ca b I O J) t.heap) A) 0 0 A := by
  refine Met.ofW (cc := cX3_nextAhead) (maxL := 9) (ret := (some (.object "SparrowRace$Sparrow"))) (by decide) rfl ?_
  intro p e s m args below meth c s₁ B hml hv
  obtain ⟨rfl, hP, hK, hA2, hth⟩ := hv
  have hx := B.exec
  have hb := B.bytes
  have hr := B.returns
  have hlk := B.notSynchronized
  have X : gCx p s m ([.ref (b t0), .ref (b a1)] : List Value).toArray c RX3 cX3_nextAhead wsX3_nextAhead 9 dC dI ca b A N := ⟨hx, hb, hml, findClass_of_methodNamed B.named, atoms_spec (ws := wsX3_nextAhead) B.pre, hK, hA, hA2, hth⟩
  have hi3 : ∀ w ∈ wsX30, w ∈ wsX3_nextAhead := (fun w h => List.mem_cons_of_mem _ (List.mem_append_left _ (List.mem_append_right _ h)))
  have hi6 : ∀ w ∈ wsX60, w ∈ wsX3_nextAhead := (fun w h => List.mem_cons_of_mem _ (List.mem_append_right _ h))
  have hS : va_S A s.heap s.heap [] := va_S.rf
  have hl := lv_entry ([.ref (b t0), .ref (b a1)] : List Value) (n := 9) (Nat.le_of_ble_eq_true rfl)
  rw [lg_entry_eq]
  generalize (lg_sl ([.ref (b t0), .ref (b a1)] : List Value) ++ List.replicate (9 - (lg_sl ([.ref (b t0), .ref (b a1)] : List Value)).length) Slot.unset).toArray = ls at hl ⊢
  have hl : lv_has ls 9 [(0, .ref (b t0)), (1, .ref (b a1))] := hl
  unfold f_X3_nextAhead at h
  refine lv_null hx hb dX3_nextAhead_0 ?_
  refine gv_astore_n (r := (none : Option Nat)) (lv' := [(2, va_rf (Option.map b (none : Option Nat))), (0, .ref (b t0)), (1, .ref (b a1))]) hx hb dX3_nextAhead_1 rfl hl (by decide) rfl (fun ls hl => ?_)
  refine lv_sipush (v := 401) hx hb dX3_nextAhead_2 (by decide) ?_
  refine lv_istore_n (i := 3) (lv' := [(3, .int (401 : Int32)), (2, va_rf (Option.map b (none : Option Nat))), (0, .ref (b t0)), (1, .ref (b a1))]) hx hb dX3_nextAhead_5 rfl hl (by decide) (by simp [va_rf_cat, cat_ref, cat_int]) (fun ls hl => ?_)
  refine lv_aload_n hx hb dX3_nextAhead_6 rfl (lv_at hl 2 rfl) ?_
  refine gg3_0 X hP hk_t0 (sk_in hN hk_t0 (by decide)) hi3 (List.mem_of_getElem? (i := 1) rfl) dX3_nextAhead_7 ?_
  refine lv_astore (lv' := [(4, .ref (b (t0 + 1))), (3, .int (401 : Int32)), (2, va_rf (Option.map b (none : Option Nat))), (0, .ref (b t0)), (1, .ref (b a1))]) hx hb dX3_nextAhead_10 hl (by decide) rfl (fun ls hl => ?_)
  refine lv_aload hx hb dX3_nextAhead_12 (lv_at hl 0 rfl) ?_
  refine gl24 X hP (sk3_1 hk_t0) (sk_in hN (sk3_1 hk_t0) (by decide)) dX3_nextAhead_14 ?_
  refine lv_istore (lv' := [(5, .int (8 : Int32)), (4, .ref (b (t0 + 1))), (3, .int (401 : Int32)), (2, va_rf (Option.map b (none : Option Nat))), (0, .ref (b t0)), (1, .ref (b a1))]) hx hb dX3_nextAhead_15 hl (by decide) rfl (fun ls hl => ?_)
  refine lv_iconst (v := 0) hx hb dX3_nextAhead_17 (by decide) ?_
  refine lv_istore (lv' := [(6, .int (0 : Int32)), (5, .int (8 : Int32)), (4, .ref (b (t0 + 1))), (3, .int (401 : Int32)), (2, va_rf (Option.map b (none : Option Nat))), (0, .ref (b t0)), (1, .ref (b a1))]) hx hb dX3_nextAhead_18 hl (by decide) rfl (fun ls hl => ?_)
  obtain ⟨p4, hv, h⟩ := hb_some h
  have K74 : ∀ (H : Heap) (locs : List Loc) (ls : Array Slot), va_P (dC, dI) vwCl (hW N ca b I O J) H → va_S A s.heap H locs → lv_has ls 9 [(2, va_rf (Option.map b p4))] → W p l e (headSpec wsX3_nextAhead ({ frames := 1, cells := 0, slots := 0, locals := 23 } : Room)).room s m ([.ref (b t0), .ref (b a1)] : List Value).toArray below meth c H locs 0 0 (MQ below (va_Qq (fun (r : Option Nat) (u : Unit) => ∃ v, r = Option.map b v ∧ res = v) (fun (u : Unit) t => va_P (dC, dI) vwCl (hW N ca b I O J) t.heap) A) ([.ref (b t0), .ref (b a1)] : List Value).toArray s 0 0 A) (F0 m 74 ls []) := by
    intro H locs ls hP hS hl
    refine gv_aload_n (r := Option.map b p4) hx hb dX3_nextAhead_74 rfl (lv_at hl 0 rfl) ?_
    exact W.aret (v := va_rf (Option.map b p4)) (rt := (.object "SparrowRace$Sparrow")) hx hb hr (Or.inl ⟨_, rfl⟩) (va_rf_or _) (fun t9 ht hW => ⟨⟨Option.map b p4, (), rfl, ⟨p4, rfl, (Option.some.inj h).symm⟩, gEnd ht hP⟩, hS.F ht⟩) hS.2.2 dX3_nextAhead_75 hlk
  have hL20 : ∀ (fuel : Nat) (p1 : Option Nat) (p2 : Int32) (p3 : Int32) (H : Heap) (locs : List Loc) (ls : Array Slot), f_X3_nextAhead_L20 t0 a1 I fuel p1 p2 p3 = some p4 → va_P (dC, dI) vwCl (hW N ca b I O J) H → va_S A s.heap H locs → lv_has ls 9 [(0, .ref (b t0)), (1, .ref (b a1)), (2, va_rf (Option.map b p1)), (3, .int p2), (4, .ref (b (t0 + 1))), (5, .int (8 : Int32)), (6, .int p3)] → W p l e (headSpec wsX3_nextAhead ({ frames := 1, cells := 0, slots := 0, locals := 23 } : Room)).room s m ([.ref (b t0), .ref (b a1)] : List Value).toArray below meth c H locs 0 0 (MQ below (va_Qq (fun (r : Option Nat) (u : Unit) => ∃ v, r = Option.map b v ∧ res = v) (fun (u : Unit) t => va_P (dC, dI) vwCl (hW N ca b I O J) t.heap) A) ([.ref (b t0), .ref (b a1)] : List Value).toArray s 0 0 A) (F0 m 20 ls []) := by
    intro fuel
    induction fuel with
    | zero =>
      intro p1 p2 p3 H locs ls h hP hS hl
      rw [f_X3_nextAhead_L20] at h
      cases h
    | succ fuel ih =>
      intro p1 p2 p3 H locs ls h hP hS hl
      rw [f_X3_nextAhead_L20] at h
      refine lv_iload hx hb dX3_nextAhead_20 (lv_at hl 6 rfl) ?_
      refine lv_iload hx hb dX3_nextAhead_22 (lv_at hl 5 rfl) ?_
      refine lv_icmp_ge (tgt := 74) hx hb dX3_nextAhead_24 (by decide) (fun c15 => ?_) (fun c15 => ?_)
      · have h := gif_t c15 h
        cases h
        exact K74 _ _ _ hP hS (lv_sub hl [2] rfl)
      · have h := gif_f c15 h
        refine lv_aload hx hb dX3_nextAhead_27 (lv_at hl 4 rfl) ?_
        refine lv_iload hx hb dX3_nextAhead_29 (lv_at hl 6 rfl) ?_
        obtain ⟨hgi5, h⟩ := hg_some h
        refine ga24 X hP (sk3_1 hk_t0) (sk_in hN (sk3_1 hk_t0) (by decide)) hgi5 dX3_nextAhead_31 ?_
        refine lv_astore (lv' := [(7, .ref (b ((t0 + 1) + 3 + p3.toNatClampNeg))), (0, .ref (b t0)), (1, .ref (b a1)), (2, va_rf (Option.map b p1)), (3, .int p2), (4, .ref (b (t0 + 1))), (5, .int (8 : Int32)), (6, .int p3)]) hx hb dX3_nextAhead_32 hl (by decide) rfl (fun ls hl => ?_)
        refine lv_aload_n hx hb dX3_nextAhead_34 rfl (lv_at hl 1 rfl) ?_
        refine lv_aload hx hb dX3_nextAhead_35 (lv_at hl 0 rfl) ?_
        refine lv_aload_n hx hb dX3_nextAhead_37 rfl (lv_at hl 2 rfl) ?_
        refine lv_aload_n hx hb dX3_nextAhead_38 rfl (lv_at hl 2 rfl) ?_
        refine gg6_8 X hP hk_a1 (sk_in hN hk_a1 (by decide)) hi6 (List.mem_of_getElem? (i := 2) rfl) dX3_nextAhead_39 ?_
        obtain ⟨q7, hcq7, h⟩ := hb_some h
        refine gdV_i (As := [.ref (b ((t0 + 1) + 3 + p3.toNatClampNeg)), .ref (b a1), .int (I a1 8)]) (rest := []) (BH := (fun (u : Unit) H => va_P (dC, dI) vwCl (hW N ca b I O J) H)) X hP hS (c_X3_isInTheWay hN hA I O J t0 (some ((t0 + 1) + 3 + p3.toNatClampNeg)) a1 (I a1 8) hk_t0 hk_a1 q7 hcq7) (cwV 3 X.ts gX3_nextAhead_X3_isInTheWay rfl rfl rfl (by decide +kernel) ⟨Nat.le_of_ble_eq_true rfl, Nat.le_of_ble_eq_true rfl⟩) (gr3 X hP hk_t0 (sk_in hN hk_t0 (by decide))) rfl hl.1 rfl (Nat.le_of_ble_eq_true rfl) dX3_nextAhead_42 ⟨Nat.le_of_ble_eq_true rfl, Nat.le_of_ble_eq_true rfl⟩ (fun r6 u9 H locs hw hP hS => ?_)
        have hw := hw.symm
        subst hw
        obtain ⟨⟨p8, p9⟩, hv, h⟩ := hb_some h
        have K68 : ∀ (H : Heap) (locs : List Loc) (ls : Array Slot), va_P (dC, dI) vwCl (hW N ca b I O J) H → va_S A s.heap H locs → lv_has ls 9 [(0, .ref (b t0)), (1, .ref (b a1)), (2, va_rf (Option.map b p8)), (3, .int p9), (4, .ref (b (t0 + 1))), (5, .int (8 : Int32)), (6, .int p3)] → W p l e (headSpec wsX3_nextAhead ({ frames := 1, cells := 0, slots := 0, locals := 23 } : Room)).room s m ([.ref (b t0), .ref (b a1)] : List Value).toArray below meth c H locs 0 0 (MQ below (va_Qq (fun (r : Option Nat) (u : Unit) => ∃ v, r = Option.map b v ∧ res = v) (fun (u : Unit) t => va_P (dC, dI) vwCl (hW N ca b I O J) t.heap) A) ([.ref (b t0), .ref (b a1)] : List Value).toArray s 0 0 A) (F0 m 68 ls []) := by
          intro H locs ls hP hS hl
          obtain ⟨x10, ex10, h⟩ := hlet_ex h
          refine lv_iinc (v := x10) (lv' := [(6, .int x10), (0, .ref (b t0)), (1, .ref (b a1)), (2, va_rf (Option.map b p8)), (3, .int p9), (4, .ref (b (t0 + 1))), (5, .int (8 : Int32))]) hx hb dX3_nextAhead_68 hl (k := 6) rfl (by rw [ex10]; rfl) (by decide) rfl (fun ls hl => ?_)
          refine lv_goto (tgt := 20) hx hb dX3_nextAhead_71 (by decide) ?_
          exact ih _ _ _ _ _ _ h hP hS (lv_sub hl [1, 2, 3, 4, 5, 6, 0] rfl)
        have h := hv
        refine lv_if_eq (tgt := 68) hx hb dX3_nextAhead_45 (by decide) (fun c14 => ?_) (fun c14 => ?_)
        · have h := gif_t c14 h
          cases h
          exact K68 _ _ _ hP hS (lv_sub hl [1, 2, 3, 4, 5, 6, 7] rfl)
        · have h := gif_f c14 h
          refine lv_aload_n hx hb dX3_nextAhead_48 rfl (lv_at hl 2 rfl) ?_
          refine lv_aload hx hb dX3_nextAhead_49 (lv_at hl 0 rfl) ?_
          obtain ⟨q12, hcq12, h⟩ := hb_some h
          refine gdV_i (As := [.ref (b ((t0 + 1) + 3 + p3.toNatClampNeg))]) (rest := []) (BH := (fun (u : Unit) H => va_P (dC, dI) vwCl (hW N ca b I O J) H)) X hP hS (c_X6_feetBehind hN hA I O J a1 ((t0 + 1) + 3 + p3.toNatClampNeg) hk_a1 (sk24 (sk3_1 hk_t0) (gin_lt hgi5)) q12 hcq12) (cwV 1 X.ts gX3_nextAhead_X6_feetBehind rfl rfl rfl (by decide +kernel) ⟨Nat.le_of_ble_eq_true rfl, Nat.le_of_ble_eq_true rfl⟩) (gr6 X hP hk_a1 (sk_in hN hk_a1 (by decide))) rfl hl.1 rfl (Nat.le_of_ble_eq_true rfl) dX3_nextAhead_51 ⟨Nat.le_of_ble_eq_true rfl, Nat.le_of_ble_eq_true rfl⟩ (fun r11 u9 H locs hw hP hS => ?_)
          have hw := hw.symm
          subst hw
          refine lv_istore (lv' := [(8, .int r11), (7, .ref (b ((t0 + 1) + 3 + p3.toNatClampNeg))), (0, .ref (b t0)), (1, .ref (b a1)), (2, va_rf (Option.map b p1)), (3, .int p2), (4, .ref (b (t0 + 1))), (5, .int (8 : Int32)), (6, .int p3)]) hx hb dX3_nextAhead_54 hl (by decide) rfl (fun ls hl => ?_)
          refine lv_iload hx hb dX3_nextAhead_56 (lv_at hl 0 rfl) ?_
          refine lv_iload_n hx hb dX3_nextAhead_58 rfl (lv_at hl 5 rfl) ?_
          refine lv_icmp_ge (tgt := 68) hx hb dX3_nextAhead_59 (by decide) (fun c13 => ?_) (fun c13 => ?_)
          · have h := gif_t c13 h
            cases h
            exact K68 _ _ _ hP hS (lv_sub hl [2, 3, 4, 5, 6, 7, 8] rfl)
          · have h := gif_f c13 h
            refine lv_iload hx hb dX3_nextAhead_62 (lv_at hl 0 rfl) ?_
            refine lv_istore_n (i := 3) (lv' := [(3, .int r11), (8, .int r11), (7, .ref (b ((t0 + 1) + 3 + p3.toNatClampNeg))), (0, .ref (b t0)), (1, .ref (b a1)), (2, va_rf (Option.map b p1)), (4, .ref (b (t0 + 1))), (5, .int (8 : Int32)), (6, .int p3)]) hx hb dX3_nextAhead_64 rfl hl (by decide) (by simp [va_rf_cat, cat_ref, cat_int]) (fun ls hl => ?_)
            refine lv_aload hx hb dX3_nextAhead_65 (lv_at hl 2 rfl) ?_
            refine lv_astore_n (lv' := [(2, .ref (b ((t0 + 1) + 3 + p3.toNatClampNeg))), (3, .int r11), (8, .int r11), (7, .ref (b ((t0 + 1) + 3 + p3.toNatClampNeg))), (0, .ref (b t0)), (1, .ref (b a1)), (4, .ref (b (t0 + 1))), (5, .int (8 : Int32)), (6, .int p3)]) hx hb dX3_nextAhead_67 rfl hl (by decide) rfl (fun ls hl => ?_)
            cases h
            exact K68 _ _ _ hP hS (lv_sub hl [4, 5, 0, 1, 6, 7, 8] rfl)
  exact hL20 FU _ _ _ _ _ _ hv hP hS (lv_sub hl [5, 6, 4, 3, 2, 1, 0] rfl)
def f_X3_gapOf (t0 : Nat) (a1 : Nat) (I : Nat → Nat → Int32) : Option (Int32) :=
  (f_X3_nextAhead t0 a1 I).bind fun r1 =>
  hopt r1 (
    some (0 : Int32)) fun n3 => hk n3 6 <|
  (f_X6_feetBehind a1 n3 I).bind fun r4 =>
  some r4
set_option maxHeartbeats 8000000 in
set_option maxRecDepth 100000 in
theorem c_X3_gapOf {l : Launch} {dC : Nat → ClassId} {dI : Nat → Nat → Nat} {ca : Nat → ClassId} {b : Nat → Nat} {A : Nat → Prop} {N : Nat} (hN : 129 ≤ N) (hA : gAd A b N) (I : Nat → Nat → Int32) (O : Nat → Nat → Option Nat) (J : Nat → Nat → Int64) (t0 : Nat) (a1 : Nat) (hk_t0 : SHK t0 = 3) (hk_a1 : SHK a1 = 6) (res : Int32) (h : f_X3_gapOf t0 a1 I = some res) : Met l yX3_gapOf wsX3_gapOf ({ frames := 2, cells := 0, slots := 0, locals := 51 } : Room) (va_Pc [.ref (b t0), .ref (b a1)] (gPre dC dI ca b A N I O J)) (va_Qi (fun (r : Int32) (u : Unit) => res = r) (fun (u : Unit) t => va_P (dC, dI) vwCl (hW N ca b I O J) t.heap) A) 0 0 A := by
  refine Met.ofW (cc := cX3_gapOf) (maxL := 3) (ret := (some .int)) (by decide) rfl ?_
  intro p e s m args below meth c s₁ B hml hv
  obtain ⟨rfl, hP, hK, hA2, hth⟩ := hv
  have hx := B.exec
  have hb := B.bytes
  have hr := B.returns
  have hlk := B.notSynchronized
  have X : gCx p s m ([.ref (b t0), .ref (b a1)] : List Value).toArray c RX3 cX3_gapOf wsX3_gapOf 3 dC dI ca b A N := ⟨hx, hb, hml, findClass_of_methodNamed B.named, atoms_spec (ws := wsX3_gapOf) B.pre, hK, hA, hA2, hth⟩
  have hS : va_S A s.heap s.heap [] := va_S.rf
  have hl := lv_entry ([.ref (b t0), .ref (b a1)] : List Value) (n := 3) (Nat.le_of_ble_eq_true rfl)
  rw [lg_entry_eq]
  generalize (lg_sl ([.ref (b t0), .ref (b a1)] : List Value) ++ List.replicate (3 - (lg_sl ([.ref (b t0), .ref (b a1)] : List Value)).length) Slot.unset).toArray = ls at hl ⊢
  have hl : lv_has ls 3 [(0, .ref (b t0)), (1, .ref (b a1))] := hl
  unfold f_X3_gapOf at h
  refine lv_aload_n hx hb dX3_gapOf_0 rfl (lv_at hl 0 rfl) ?_
  refine lv_aload_n hx hb dX3_gapOf_1 rfl (lv_at hl 1 rfl) ?_
  obtain ⟨q2, hcq2, h⟩ := hb_some h
  refine gdV_q (As := [.ref (b a1)]) (rest := []) (BH := (fun (u : Unit) H => va_P (dC, dI) vwCl (hW N ca b I O J) H)) X hP hS (c_X3_nextAhead hN hA I O J t0 a1 hk_t0 hk_a1 q2 hcq2) (cwV 1 X.ts gX3_gapOf_X3_nextAhead rfl rfl rfl (by decide +kernel) ⟨Nat.le_of_ble_eq_true rfl, Nat.le_of_ble_eq_true rfl⟩) (gr3 X hP hk_t0 (sk_in hN hk_t0 (by decide))) rfl hl.1 rfl (Nat.le_of_ble_eq_true rfl) dX3_gapOf_2 ⟨Nat.le_of_ble_eq_true rfl, Nat.le_of_ble_eq_true rfl⟩ (fun r1 u9 H locs hw hP hS => ?_)
  obtain ⟨r1, rfl, hw⟩ := hw
  have hw := hw.symm
  subst hw
  refine gv_astore_n (r := Option.map b r1) (lv' := [(2, va_rf (Option.map b r1)), (0, .ref (b t0)), (1, .ref (b a1))]) hx hb dX3_gapOf_5 rfl hl (by decide) rfl (fun ls hl => ?_)
  refine gv_aload_n (r := Option.map b r1) hx hb dX3_gapOf_6 rfl (lv_at hl 0 rfl) ?_
  cases r1 with
  | none =>
    have h := hopt_n h
    refine lv_ifnonnullN hx hb dX3_gapOf_7 ?_
    refine lv_iconst (v := 0) hx hb dX3_gapOf_10 (by decide) ?_
    refine lv_goto (tgt := 19) hx hb dX3_gapOf_11 (by decide) ?_
    exact W.iret hx hb hr (fun t9 ht hW => ⟨⟨(0 : Int32), (), rfl, (Option.some.inj h).symm, gEnd ht hP⟩, hS.F ht⟩) hS.2.2 dX3_gapOf_19 hlk
  | some n3 =>
    obtain ⟨hk_n3, h⟩ := hk_some (hopt_s h)
    refine lv_ifnonnull (tgt := 14) hx hb dX3_gapOf_7 (by decide) ?_
    refine lv_aload_n hx hb dX3_gapOf_14 rfl (lv_at hl 2 rfl) ?_
    refine lv_aload_n hx hb dX3_gapOf_15 rfl (lv_at hl 0 rfl) ?_
    obtain ⟨q5, hcq5, h⟩ := hb_some h
    refine gdV_i (As := [.ref (b n3)]) (rest := []) (BH := (fun (u : Unit) H => va_P (dC, dI) vwCl (hW N ca b I O J) H)) X hP hS (c_X6_feetBehind hN hA I O J a1 n3 hk_a1 hk_n3 q5 hcq5) (cwV 1 X.ts gX3_gapOf_X6_feetBehind rfl rfl rfl (by decide +kernel) ⟨Nat.le_of_ble_eq_true rfl, Nat.le_of_ble_eq_true rfl⟩) (gr6 X hP hk_a1 (sk_in hN hk_a1 (by decide))) rfl hl.1 rfl (Nat.le_of_ble_eq_true rfl) dX3_gapOf_16 ⟨Nat.le_of_ble_eq_true rfl, Nat.le_of_ble_eq_true rfl⟩ (fun r4 u9 H locs hw hP hS => ?_)
    have hw := hw.symm
    subst hw
    exact W.iret hx hb hr (fun t9 ht hW => ⟨⟨r4, (), rfl, (Option.some.inj h).symm, gEnd ht hP⟩, hS.F ht⟩) hS.2.2 dX3_gapOf_19 hlk
def f_X3_allowedFeet (t0 : Nat) (a1 : Nat) (I : Nat → Nat → Int32) : Option (Int32) :=
  (f_X6_partOfCourse a1 I).bind fun r1 =>
  (show Option (Int32) from
    if (r1 - (4 : Int32)) < 0 then
      some (I a1 1)
    else
      (f_X3_limitAt t0 (r1 - (4 : Int32)) I).bind fun r5 =>
      (show Option (Int32) from
        if (I a1 8) = (1 : Int32) then
          some (2 : Int32)
        else
          some (0 : Int32)).bind fun p7 =>
      (show Option (Int32) from
        if (I a1 1) ≤ (r5 + p7) then
          some (I a1 1)
        else
          some (r5 + p7)).bind fun p8 =>
      some p8).bind fun p3 =>
  if (4 : Int32) ≤ (p3 - ((I a1 7) / (10 : Int32))) then
    some (p3 - ((I a1 7) / (10 : Int32)))
  else
    some (4 : Int32)
set_option maxHeartbeats 8000000 in
set_option maxRecDepth 100000 in
theorem c_X3_allowedFeet {l : Launch} {dC : Nat → ClassId} {dI : Nat → Nat → Nat} {ca : Nat → ClassId} {b : Nat → Nat} {A : Nat → Prop} {N : Nat} (hN : 129 ≤ N) (hA : gAd A b N) (I : Nat → Nat → Int32) (O : Nat → Nat → Option Nat) (J : Nat → Nat → Int64) (t0 : Nat) (a1 : Nat) (hk_t0 : SHK t0 = 3) (hk_a1 : SHK a1 = 6) (res : Int32) (h : f_X3_allowedFeet t0 a1 I = some res) : Met l yX3_allowedFeet wsX3_allowedFeet ({ frames := 1, cells := 0, slots := 0, locals := 21 } : Room) (va_Pc [.ref (b t0), .ref (b a1)] (gPre dC dI ca b A N I O J)) (va_Qi (fun (r : Int32) (u : Unit) => res = r) (fun (u : Unit) t => va_P (dC, dI) vwCl (hW N ca b I O J) t.heap) A) 0 0 A := by
  refine Met.ofW (cc := cX3_allowedFeet) (maxL := 5) (ret := (some .int)) (by decide) rfl ?_
  intro p e s m args below meth c s₁ B hml hv
  obtain ⟨rfl, hP, hK, hA2, hth⟩ := hv
  have hx := B.exec
  have hb := B.bytes
  have hr := B.returns
  have hlk := B.notSynchronized
  have X : gCx p s m ([.ref (b t0), .ref (b a1)] : List Value).toArray c RX3 cX3_allowedFeet wsX3_allowedFeet 5 dC dI ca b A N := ⟨hx, hb, hml, findClass_of_methodNamed B.named, atoms_spec (ws := wsX3_allowedFeet) B.pre, hK, hA, hA2, hth⟩
  have hi6 : ∀ w ∈ wsX60, w ∈ wsX3_allowedFeet := (fun w h => List.mem_cons_of_mem _ (List.mem_append_left _ (List.mem_append_right _ h)))
  have hS : va_S A s.heap s.heap [] := va_S.rf
  have hl := lv_entry ([.ref (b t0), .ref (b a1)] : List Value) (n := 5) (Nat.le_of_ble_eq_true rfl)
  rw [lg_entry_eq]
  generalize (lg_sl ([.ref (b t0), .ref (b a1)] : List Value) ++ List.replicate (5 - (lg_sl ([.ref (b t0), .ref (b a1)] : List Value)).length) Slot.unset).toArray = ls at hl ⊢
  have hl : lv_has ls 5 [(0, .ref (b t0)), (1, .ref (b a1))] := hl
  unfold f_X3_allowedFeet at h
  refine lv_aload_n hx hb dX3_allowedFeet_0 rfl (lv_at hl 1 rfl) ?_
  refine gg6_1 X hP hk_a1 (sk_in hN hk_a1 (by decide)) hi6 (List.mem_of_getElem? (i := 1) rfl) dX3_allowedFeet_1 ?_
  refine lv_istore_n (lv' := [(2, .int (I a1 1)), (0, .ref (b t0)), (1, .ref (b a1))]) hx hb dX3_allowedFeet_4 rfl hl (by decide) rfl (fun ls hl => ?_)
  refine lv_aload_n hx hb dX3_allowedFeet_5 rfl (lv_at hl 2 rfl) ?_
  obtain ⟨q2, hcq2, h⟩ := hb_some h
  refine gdV_i (As := []) (rest := []) (BH := (fun (u : Unit) H => va_P (dC, dI) vwCl (hW N ca b I O J) H)) X hP hS (c_X6_partOfCourse hN hA I O J a1 hk_a1 q2 hcq2) (cwV 0 X.ts gX3_allowedFeet_X6_partOfCourse rfl rfl rfl (by decide +kernel) ⟨Nat.le_of_ble_eq_true rfl, Nat.le_of_ble_eq_true rfl⟩) (gr6 X hP hk_a1 (sk_in hN hk_a1 (by decide))) rfl hl.1 rfl (Nat.le_of_ble_eq_true rfl) dX3_allowedFeet_6 ⟨Nat.le_of_ble_eq_true rfl, Nat.le_of_ble_eq_true rfl⟩ (fun r1 u9 H locs hw hP hS => ?_)
  have hw := hw.symm
  subst hw
  refine lv_iconst (v := 4) hx hb dX3_allowedFeet_9 (by decide) ?_
  refine lv_isub hx hb dX3_allowedFeet_10 ?_
  refine lv_istore_n (lv' := [(3, .int (r1 - (4 : Int32))), (2, .int (I a1 1)), (0, .ref (b t0)), (1, .ref (b a1))]) hx hb dX3_allowedFeet_11 rfl hl (by decide) rfl (fun ls hl => ?_)
  refine lv_iload_n hx hb dX3_allowedFeet_12 rfl (lv_at hl 0 rfl) ?_
  obtain ⟨p3, hv, h⟩ := hb_some h
  have K50 : ∀ (H : Heap) (locs : List Loc) (ls : Array Slot), va_P (dC, dI) vwCl (hW N ca b I O J) H → va_S A s.heap H locs → lv_has ls 5 [(1, .ref (b a1)), (2, .int p3)] → W p l e (headSpec wsX3_allowedFeet ({ frames := 1, cells := 0, slots := 0, locals := 21 } : Room)).room s m ([.ref (b t0), .ref (b a1)] : List Value).toArray below meth c H locs 0 0 (MQ below (va_Qi (fun (r : Int32) (u : Unit) => res = r) (fun (u : Unit) t => va_P (dC, dI) vwCl (hW N ca b I O J) t.heap) A) ([.ref (b t0), .ref (b a1)] : List Value).toArray s 0 0 A) (F0 m 50 ls []) := by
    intro H locs ls hP hS hl
    refine lv_iload_n hx hb dX3_allowedFeet_50 rfl (lv_at hl 1 rfl) ?_
    refine lv_aload_n hx hb dX3_allowedFeet_51 rfl (lv_at hl 0 rfl) ?_
    refine gg6_7 X hP hk_a1 (sk_in hN hk_a1 (by decide)) hi6 (List.mem_of_getElem? (i := 3) rfl) dX3_allowedFeet_52 ?_
    refine lv_bipush (v := 10) hx hb dX3_allowedFeet_55 (by decide) ?_
    refine lv_idiv hx hb dX3_allowedFeet_57 (by decide) ?_
    refine lv_isub hx hb dX3_allowedFeet_58 ?_
    refine lv_istore_n (lv' := [(2, .int (p3 - ((I a1 7) / (10 : Int32)))), (1, .ref (b a1))]) hx hb dX3_allowedFeet_59 rfl hl (by decide) rfl (fun ls hl => ?_)
    refine lv_iload_n hx hb dX3_allowedFeet_60 rfl (lv_at hl 0 rfl) ?_
    refine lv_iconst (v := 4) hx hb dX3_allowedFeet_61 (by decide) ?_
    refine lv_icmp_ge (tgt := 69) hx hb dX3_allowedFeet_62 (by decide) (fun c4 => ?_) (fun c4 => ?_)
    · have h := gif_t c4 h
      refine lv_iload_n hx hb dX3_allowedFeet_69 rfl (lv_at hl 0 rfl) ?_
      exact W.iret hx hb hr (fun t9 ht hW => ⟨⟨(p3 - ((I a1 7) / (10 : Int32))), (), rfl, (Option.some.inj h).symm, gEnd ht hP⟩, hS.F ht⟩) hS.2.2 dX3_allowedFeet_70 hlk
    · have h := gif_f c4 h
      refine lv_iconst (v := 4) hx hb dX3_allowedFeet_65 (by decide) ?_
      refine lv_goto (tgt := 70) hx hb dX3_allowedFeet_66 (by decide) ?_
      exact W.iret hx hb hr (fun t9 ht hW => ⟨⟨(4 : Int32), (), rfl, (Option.some.inj h).symm, gEnd ht hP⟩, hS.F ht⟩) hS.2.2 dX3_allowedFeet_70 hlk
  have h := hv
  refine lv_if_lt (tgt := 50) hx hb dX3_allowedFeet_13 (by decide) (fun c11 => ?_) (fun c11 => ?_)
  · have h := gif_t c11 h
    cases h
    exact K50 _ _ _ hP hS (lv_sub hl [3, 1] rfl)
  · have h := gif_f c11 h
    refine lv_aload_n hx hb dX3_allowedFeet_16 rfl (lv_at hl 2 rfl) ?_
    refine lv_iload_n hx hb dX3_allowedFeet_17 rfl (lv_at hl 0 rfl) ?_
    obtain ⟨q6, hcq6, h⟩ := hb_some h
    refine gdV_i (As := [.int (r1 - (4 : Int32))]) (rest := []) (BH := (fun (u : Unit) H => va_P (dC, dI) vwCl (hW N ca b I O J) H)) X hP hS (c_X3_limitAt hN hA I O J t0 (r1 - (4 : Int32)) hk_t0 q6 hcq6) (cwV 1 X.ts gX3_allowedFeet_X3_limitAt rfl rfl rfl (by decide +kernel) ⟨Nat.le_of_ble_eq_true rfl, Nat.le_of_ble_eq_true rfl⟩) (gr3 X hP hk_t0 (sk_in hN hk_t0 (by decide))) rfl hl.1 rfl (Nat.le_of_ble_eq_true rfl) dX3_allowedFeet_18 ⟨Nat.le_of_ble_eq_true rfl, Nat.le_of_ble_eq_true rfl⟩ (fun r5 u9 H locs hw hP hS => ?_)
    have hw := hw.symm
    subst hw
    refine lv_aload_n hx hb dX3_allowedFeet_21 rfl (lv_at hl 3 rfl) ?_
    refine gg6_8 X hP hk_a1 (sk_in hN hk_a1 (by decide)) hi6 (List.mem_of_getElem? (i := 2) rfl) dX3_allowedFeet_22 ?_
    refine lv_iconst (v := 1) hx hb dX3_allowedFeet_25 (by decide) ?_
    obtain ⟨p7, hv, h⟩ := hb_some h
    have K34 : ∀ (H : Heap) (locs : List Loc) (ls : Array Slot), va_P (dC, dI) vwCl (hW N ca b I O J) H → va_S A s.heap H locs → lv_has ls 5 [(1, .ref (b a1)), (2, .int (I a1 1))] → W p l e (headSpec wsX3_allowedFeet ({ frames := 1, cells := 0, slots := 0, locals := 21 } : Room)).room s m ([.ref (b t0), .ref (b a1)] : List Value).toArray below meth c H locs 0 0 (MQ below (va_Qi (fun (r : Int32) (u : Unit) => res = r) (fun (u : Unit) t => va_P (dC, dI) vwCl (hW N ca b I O J) t.heap) A) ([.ref (b t0), .ref (b a1)] : List Value).toArray s 0 0 A) (F0 m 34 ls [.int p7, .int r5]) := by
      intro H locs ls hP hS hl
      refine lv_iadd hx hb dX3_allowedFeet_34 ?_
      refine lv_istore (lv' := [(4, .int (r5 + p7)), (1, .ref (b a1)), (2, .int (I a1 1))]) hx hb dX3_allowedFeet_35 hl (by decide) rfl (fun ls hl => ?_)
      refine lv_iload hx hb dX3_allowedFeet_37 (lv_at hl 0 rfl) ?_
      refine lv_iload_n hx hb dX3_allowedFeet_39 rfl (lv_at hl 2 rfl) ?_
      obtain ⟨p8, hv, h⟩ := hb_some h
      have K49 : ∀ (H : Heap) (locs : List Loc) (ls : Array Slot), va_P (dC, dI) vwCl (hW N ca b I O J) H → va_S A s.heap H locs → lv_has ls 5 [(1, .ref (b a1))] → W p l e (headSpec wsX3_allowedFeet ({ frames := 1, cells := 0, slots := 0, locals := 21 } : Room)).room s m ([.ref (b t0), .ref (b a1)] : List Value).toArray below meth c H locs 0 0 (MQ below (va_Qi (fun (r : Int32) (u : Unit) => res = r) (fun (u : Unit) t => va_P (dC, dI) vwCl (hW N ca b I O J) t.heap) A) ([.ref (b t0), .ref (b a1)] : List Value).toArray s 0 0 A) (F0 m 49 ls [.int p8]) := by
        intro H locs ls hP hS hl
        refine lv_istore_n (lv' := [(2, .int p8), (1, .ref (b a1))]) hx hb dX3_allowedFeet_49 rfl hl (by decide) rfl (fun ls hl => ?_)
        cases h
        exact K50 _ _ _ hP hS (lv_sub hl [1, 0] rfl)
      have h := hv
      refine lv_icmp_ge (tgt := 48) hx hb dX3_allowedFeet_40 (by decide) (fun c9 => ?_) (fun c9 => ?_)
      · have h := gif_t c9 h
        refine lv_iload_n hx hb dX3_allowedFeet_48 rfl (lv_at hl 2 rfl) ?_
        cases h
        exact K49 _ _ _ hP hS (lv_sub hl [1] rfl)
      · have h := gif_f c9 h
        refine lv_iload hx hb dX3_allowedFeet_43 (lv_at hl 0 rfl) ?_
        refine lv_goto (tgt := 49) hx hb dX3_allowedFeet_45 (by decide) ?_
        cases h
        exact K49 _ _ _ hP hS (lv_sub hl [1] rfl)
    have h := hv
    refine lv_icmp_ne (tgt := 33) hx hb dX3_allowedFeet_26 (by decide) (fun c10 => ?_) (fun c10 => ?_)
    · have h := gif_f c10 h
      refine lv_iconst (v := 0) hx hb dX3_allowedFeet_33 (by decide) ?_
      cases h
      exact K34 _ _ _ hP hS (lv_sub hl [3, 1] rfl)
    · have h := gif_t c10 h
      refine lv_iconst (v := 2) hx hb dX3_allowedFeet_29 (by decide) ?_
      refine lv_goto (tgt := 34) hx hb dX3_allowedFeet_30 (by decide) ?_
      cases h
      exact K34 _ _ _ hP hS (lv_sub hl [3, 1] rfl)
def f_X3_draftFeet (t0 : Nat) (a1 : Nat) (a2 : Option Nat) (I : Nat → Nat → Int32) : Option (Int32) :=
  hopt a2 (
    some (0 : Int32)) fun n1 => hk n1 6 <|
  (f_X6_feetBehind a1 n1 I).bind fun r2 =>
  if r2 ≤ (8 : Int32) then
    if (I n1 0) = (I a1 12) then
      some (2 : Int32)
    else
      some (1 : Int32)
  else
    some (0 : Int32)
set_option maxHeartbeats 8000000 in
set_option maxRecDepth 100000 in
theorem c_X3_draftFeet {l : Launch} {dC : Nat → ClassId} {dI : Nat → Nat → Nat} {ca : Nat → ClassId} {b : Nat → Nat} {A : Nat → Prop} {N : Nat} (hN : 129 ≤ N) (hA : gAd A b N) (I : Nat → Nat → Int32) (O : Nat → Nat → Option Nat) (J : Nat → Nat → Int64) (t0 : Nat) (a1 : Nat) (a2 : Option Nat) (hk_t0 : SHK t0 = 3) (hk_a1 : SHK a1 = 6) (res : Int32) (h : f_X3_draftFeet t0 a1 a2 I = some res) : Met l yX3_draftFeet wsX3_draftFeet ({ frames := 1, cells := 0, slots := 0, locals := 22 } : Room) (va_Pc [.ref (b t0), .ref (b a1), va_rf (Option.map b a2)] (gPre dC dI ca b A N I O J)) (va_Qi (fun (r : Int32) (u : Unit) => res = r) (fun (u : Unit) t => va_P (dC, dI) vwCl (hW N ca b I O J) t.heap) A) 0 0 A := by
  refine Met.ofW (cc := cX3_draftFeet) (maxL := 3) (ret := (some .int)) (by decide) rfl ?_
  intro p e s m args below meth c s₁ B hml hv
  obtain ⟨rfl, hP, hK, hA2, hth⟩ := hv
  have hx := B.exec
  have hb := B.bytes
  have hr := B.returns
  have hlk := B.notSynchronized
  have X : gCx p s m ([.ref (b t0), .ref (b a1), va_rf (Option.map b a2)] : List Value).toArray c RX3 cX3_draftFeet wsX3_draftFeet 3 dC dI ca b A N := ⟨hx, hb, hml, findClass_of_methodNamed B.named, atoms_spec (ws := wsX3_draftFeet) B.pre, hK, hA, hA2, hth⟩
  have hi6 : ∀ w ∈ wsX60, w ∈ wsX3_draftFeet := (fun w h => List.mem_cons_of_mem _ (List.mem_append_right _ h))
  have hS : va_S A s.heap s.heap [] := va_S.rf
  have hl := lv_entry ([.ref (b t0), .ref (b a1), va_rf (Option.map b a2)] : List Value) (n := 3) (by simp [lg_sl, va_rf_cat, cat_ref, cat_int])
  rw [lg_entry_eq]
  generalize (lg_sl ([.ref (b t0), .ref (b a1), va_rf (Option.map b a2)] : List Value) ++ List.replicate (3 - (lg_sl ([.ref (b t0), .ref (b a1), va_rf (Option.map b a2)] : List Value)).length) Slot.unset).toArray = ls at hl ⊢
  have hl : lv_has ls 3 [(0, .ref (b t0)), (1, .ref (b a1)), (2, va_rf (Option.map b a2))] := by simpa [lv_args, va_rf_cat, cat_ref, cat_int] using hl
  unfold f_X3_draftFeet at h
  refine gv_aload_n (r := Option.map b a2) hx hb dX3_draftFeet_0 rfl (lv_at hl 2 rfl) ?_
  cases a2 with
  | none =>
    have h := hopt_n h
    refine lv_ifnullN (tgt := 14) hx hb dX3_draftFeet_1 (by decide) ?_
    refine lv_iconst (v := 0) hx hb dX3_draftFeet_14 (by decide) ?_
    exact W.iret hx hb hr (fun t9 ht hW => ⟨⟨(0 : Int32), (), rfl, (Option.some.inj h).symm, gEnd ht hP⟩, hS.F ht⟩) hS.2.2 dX3_draftFeet_15 hlk
  | some n1 =>
    obtain ⟨hk_n1, h⟩ := hk_some (hopt_s h)
    refine lv_ifnull hx hb dX3_draftFeet_1 ?_
    refine lv_aload_n hx hb dX3_draftFeet_4 rfl (lv_at hl 1 rfl) ?_
    refine lv_aload_n hx hb dX3_draftFeet_5 rfl (lv_at hl 2 rfl) ?_
    obtain ⟨q3, hcq3, h⟩ := hb_some h
    refine gdV_i (As := [.ref (b n1)]) (rest := []) (BH := (fun (u : Unit) H => va_P (dC, dI) vwCl (hW N ca b I O J) H)) X hP hS (c_X6_feetBehind hN hA I O J a1 n1 hk_a1 hk_n1 q3 hcq3) (cwV 1 X.ts gX3_draftFeet_X6_feetBehind rfl rfl rfl (by decide +kernel) ⟨Nat.le_of_ble_eq_true rfl, Nat.le_of_ble_eq_true rfl⟩) (gr6 X hP hk_a1 (sk_in hN hk_a1 (by decide))) rfl hl.1 rfl (Nat.le_of_ble_eq_true rfl) dX3_draftFeet_6 ⟨Nat.le_of_ble_eq_true rfl, Nat.le_of_ble_eq_true rfl⟩ (fun r2 u9 H locs hw hP hS => ?_)
    have hw := hw.symm
    subst hw
    refine lv_bipush (v := 8) hx hb dX3_draftFeet_9 (by decide) ?_
    refine lv_icmp_le (tgt := 16) hx hb dX3_draftFeet_11 (by decide) (fun c5 => ?_) (fun c5 => ?_)
    · have h := gif_t c5 h
      refine lv_aload_n hx hb dX3_draftFeet_16 rfl (lv_at hl 2 rfl) ?_
      refine gg6_0 X hP hk_n1 (sk_in hN hk_n1 (by decide)) hi6 (List.mem_of_getElem? (i := 1) rfl) dX3_draftFeet_17 ?_
      refine lv_aload_n hx hb dX3_draftFeet_20 rfl (lv_at hl 1 rfl) ?_
      refine gg6_12 X hP hk_a1 (sk_in hN hk_a1 (by decide)) hi6 (List.mem_of_getElem? (i := 2) rfl) dX3_draftFeet_21 ?_
      refine lv_icmp_ne (tgt := 31) hx hb dX3_draftFeet_24 (by decide) (fun c4 => ?_) (fun c4 => ?_)
      · have h := gif_f c4 h
        refine lv_iconst (v := 1) hx hb dX3_draftFeet_31 (by decide) ?_
        exact W.iret hx hb hr (fun t9 ht hW => ⟨⟨(1 : Int32), (), rfl, (Option.some.inj h).symm, gEnd ht hP⟩, hS.F ht⟩) hS.2.2 dX3_draftFeet_32 hlk
      · have h := gif_t c4 h
        refine lv_iconst (v := 2) hx hb dX3_draftFeet_27 (by decide) ?_
        refine lv_goto (tgt := 32) hx hb dX3_draftFeet_28 (by decide) ?_
        exact W.iret hx hb hr (fun t9 ht hW => ⟨⟨(2 : Int32), (), rfl, (Option.some.inj h).symm, gEnd ht hP⟩, hS.F ht⟩) hS.2.2 dX3_draftFeet_32 hlk
    · have h := gif_f c5 h
      refine lv_iconst (v := 0) hx hb dX3_draftFeet_14 (by decide) ?_
      exact W.iret hx hb hr (fun t9 ht hW => ⟨⟨(0 : Int32), (), rfl, (Option.some.inj h).symm, gEnd ht hP⟩, hS.F ht⟩) hS.2.2 dX3_draftFeet_15 hlk
def f_X3_mayChangeLane_L21 (t0 : Nat) (a1 : Nat) (I : Nat → Nat → Int32) : Nat → Int32 → Option (Int32)
  | 0, _ => none
  | fuel + 1, p3 =>
    if (8 : Int32) ≤ p3 then
      some (1 : Int32)
    else
      hg (gin p3 8) <|
      (f_X3_isInTheWay t0 (some ((t0 + 1) + 3 + p3.toNatClampNeg)) a1 ((1 : Int32) - (I a1 8)) I).bind fun r5 =>
      hlet (fun (_ : Unit) => show Option (Int32) from
        hlet (p3 + 1) fun x8 =>
        f_X3_mayChangeLane_L21 t0 a1 I fuel x8) fun j7 =>
      if r5 = 0 then
        j7 ()
      else
        (f_X6_feetBehind a1 ((t0 + 1) + 3 + p3.toNatClampNeg) I).bind fun r9 =>
        if r9 ≤ (3 : Int32) then
          some (0 : Int32)
        else
          if r9 < (397 : Int32) then
            j7 ()
          else
            some (0 : Int32)
def f_X3_mayChangeLane (t0 : Nat) (a1 : Nat) (I : Nat → Nat → Int32) : Option (Int32) :=
  (f_X6_partOfCourse a1 I).bind fun r1 =>
  if r1 < (4 : Int32) then
    f_X3_mayChangeLane_L21 t0 a1 I FU (0 : Int32)
  else
    some (0 : Int32)
set_option maxHeartbeats 8000000 in
set_option maxRecDepth 100000 in
theorem c_X3_mayChangeLane {l : Launch} {dC : Nat → ClassId} {dI : Nat → Nat → Nat} {ca : Nat → ClassId} {b : Nat → Nat} {A : Nat → Prop} {N : Nat} (hN : 129 ≤ N) (hA : gAd A b N) (I : Nat → Nat → Int32) (O : Nat → Nat → Option Nat) (J : Nat → Nat → Int64) (t0 : Nat) (a1 : Nat) (hk_t0 : SHK t0 = 3) (hk_a1 : SHK a1 = 6) (res : Int32) (h : f_X3_mayChangeLane t0 a1 I = some res) : Met l yX3_mayChangeLane wsX3_mayChangeLane ({ frames := 1, cells := 0, slots := 0, locals := 23 } : Room) (va_Pc [.ref (b t0), .ref (b a1)] (gPre dC dI ca b A N I O J)) (va_Qi (fun (r : Int32) (u : Unit) => res = r) (fun (u : Unit) t => va_P (dC, dI) vwCl (hW N ca b I O J) t.heap) A) 0 0 A := by
  refine Met.ofW (cc := cX3_mayChangeLane) (maxL := 7) (ret := (some .boolean)) (by decide) rfl ?_
  intro p e s m args below meth c s₁ B hml hv
  obtain ⟨rfl, hP, hK, hA2, hth⟩ := hv
  have hx := B.exec
  have hb := B.bytes
  have hr := B.returns
  have hlk := B.notSynchronized
  have X : gCx p s m ([.ref (b t0), .ref (b a1)] : List Value).toArray c RX3 cX3_mayChangeLane wsX3_mayChangeLane 7 dC dI ca b A N := ⟨hx, hb, hml, findClass_of_methodNamed B.named, atoms_spec (ws := wsX3_mayChangeLane) B.pre, hK, hA, hA2, hth⟩
  have hi3 : ∀ w ∈ wsX30, w ∈ wsX3_mayChangeLane := (fun w h => List.mem_cons_of_mem _ (List.mem_append_left _ (List.mem_append_right _ h)))
  have hi6 : ∀ w ∈ wsX60, w ∈ wsX3_mayChangeLane := (fun w h => List.mem_cons_of_mem _ (List.mem_append_right _ h))
  have hS : va_S A s.heap s.heap [] := va_S.rf
  have hl := lv_entry ([.ref (b t0), .ref (b a1)] : List Value) (n := 7) (Nat.le_of_ble_eq_true rfl)
  rw [lg_entry_eq]
  generalize (lg_sl ([.ref (b t0), .ref (b a1)] : List Value) ++ List.replicate (7 - (lg_sl ([.ref (b t0), .ref (b a1)] : List Value)).length) Slot.unset).toArray = ls at hl ⊢
  have hl : lv_has ls 7 [(0, .ref (b t0)), (1, .ref (b a1))] := hl
  unfold f_X3_mayChangeLane at h
  refine lv_aload_n hx hb dX3_mayChangeLane_0 rfl (lv_at hl 1 rfl) ?_
  obtain ⟨q2, hcq2, h⟩ := hb_some h
  refine gdV_i (As := []) (rest := []) (BH := (fun (u : Unit) H => va_P (dC, dI) vwCl (hW N ca b I O J) H)) X hP hS (c_X6_partOfCourse hN hA I O J a1 hk_a1 q2 hcq2) (cwV 0 X.ts gX3_mayChangeLane_X6_partOfCourse rfl rfl rfl (by decide +kernel) ⟨Nat.le_of_ble_eq_true rfl, Nat.le_of_ble_eq_true rfl⟩) (gr6 X hP hk_a1 (sk_in hN hk_a1 (by decide))) rfl hl.1 rfl (Nat.le_of_ble_eq_true rfl) dX3_mayChangeLane_1 ⟨Nat.le_of_ble_eq_true rfl, Nat.le_of_ble_eq_true rfl⟩ (fun r1 u9 H locs hw hP hS => ?_)
  have hw := hw.symm
  subst hw
  refine lv_iconst (v := 4) hx hb dX3_mayChangeLane_4 (by decide) ?_
  refine lv_icmp_lt (tgt := 10) hx hb dX3_mayChangeLane_5 (by decide) (fun c15 => ?_) (fun c15 => ?_)
  · have h := gif_t c15 h
    refine lv_aload_n hx hb dX3_mayChangeLane_10 rfl (lv_at hl 0 rfl) ?_
    refine gg3_0 X hP hk_t0 (sk_in hN hk_t0 (by decide)) hi3 (List.mem_of_getElem? (i := 1) rfl) dX3_mayChangeLane_11 ?_
    refine lv_astore_n (lv' := [(2, .ref (b (t0 + 1))), (0, .ref (b t0)), (1, .ref (b a1))]) hx hb dX3_mayChangeLane_14 rfl hl (by decide) rfl (fun ls hl => ?_)
    refine lv_aload_n hx hb dX3_mayChangeLane_15 rfl (lv_at hl 0 rfl) ?_
    refine gl24 X hP (sk3_1 hk_t0) (sk_in hN (sk3_1 hk_t0) (by decide)) dX3_mayChangeLane_16 ?_
    refine lv_istore_n (lv' := [(3, .int (8 : Int32)), (2, .ref (b (t0 + 1))), (0, .ref (b t0)), (1, .ref (b a1))]) hx hb dX3_mayChangeLane_17 rfl hl (by decide) rfl (fun ls hl => ?_)
    refine lv_iconst (v := 0) hx hb dX3_mayChangeLane_18 (by decide) ?_
    refine lv_istore (lv' := [(4, .int (0 : Int32)), (3, .int (8 : Int32)), (2, .ref (b (t0 + 1))), (0, .ref (b t0)), (1, .ref (b a1))]) hx hb dX3_mayChangeLane_19 hl (by decide) rfl (fun ls hl => ?_)
    have hL21 : ∀ (fuel : Nat) (p3 : Int32) (H : Heap) (locs : List Loc) (ls : Array Slot), f_X3_mayChangeLane_L21 t0 a1 I fuel p3 = some res → va_P (dC, dI) vwCl (hW N ca b I O J) H → va_S A s.heap H locs → lv_has ls 7 [(0, .ref (b t0)), (1, .ref (b a1)), (2, .ref (b (t0 + 1))), (3, .int (8 : Int32)), (4, .int p3)] → W p l e (headSpec wsX3_mayChangeLane ({ frames := 1, cells := 0, slots := 0, locals := 23 } : Room)).room s m ([.ref (b t0), .ref (b a1)] : List Value).toArray below meth c H locs 0 0 (MQ below (va_Qi (fun (r : Int32) (u : Unit) => res = r) (fun (u : Unit) t => va_P (dC, dI) vwCl (hW N ca b I O J) t.heap) A) ([.ref (b t0), .ref (b a1)] : List Value).toArray s 0 0 A) (F0 m 21 ls []) := by
      intro fuel
      induction fuel with
      | zero =>
        intro p3 H locs ls h hP hS hl
        rw [f_X3_mayChangeLane_L21] at h
        cases h
      | succ fuel ih =>
        intro p3 H locs ls h hP hS hl
        rw [f_X3_mayChangeLane_L21] at h
        refine lv_iload hx hb dX3_mayChangeLane_21 (lv_at hl 4 rfl) ?_
        refine lv_iload_n hx hb dX3_mayChangeLane_23 rfl (lv_at hl 3 rfl) ?_
        refine lv_icmp_ge (tgt := 79) hx hb dX3_mayChangeLane_24 (by decide) (fun c14 => ?_) (fun c14 => ?_)
        · have h := gif_t c14 h
          refine lv_iconst (v := 1) hx hb dX3_mayChangeLane_79 (by decide) ?_
          exact W.zret (ty := .boolean) hx hb hr (by decide) (fun t9 ht hW => ⟨⟨(1 : Int32), (), rfl, (Option.some.inj h).symm, gEnd ht hP⟩, hS.F ht⟩) hS.2.2 dX3_mayChangeLane_80 hlk
        · have h := gif_f c14 h
          refine lv_aload_n hx hb dX3_mayChangeLane_27 rfl (lv_at hl 2 rfl) ?_
          refine lv_iload hx hb dX3_mayChangeLane_28 (lv_at hl 4 rfl) ?_
          obtain ⟨hgi4, h⟩ := hg_some h
          refine ga24 X hP (sk3_1 hk_t0) (sk_in hN (sk3_1 hk_t0) (by decide)) hgi4 dX3_mayChangeLane_30 ?_
          refine lv_astore (lv' := [(5, .ref (b ((t0 + 1) + 3 + p3.toNatClampNeg))), (0, .ref (b t0)), (1, .ref (b a1)), (2, .ref (b (t0 + 1))), (3, .int (8 : Int32)), (4, .int p3)]) hx hb dX3_mayChangeLane_31 hl (by decide) rfl (fun ls hl => ?_)
          refine lv_aload_n hx hb dX3_mayChangeLane_33 rfl (lv_at hl 1 rfl) ?_
          refine lv_aload hx hb dX3_mayChangeLane_34 (lv_at hl 0 rfl) ?_
          refine lv_aload_n hx hb dX3_mayChangeLane_36 rfl (lv_at hl 2 rfl) ?_
          refine lv_iconst (v := 1) hx hb dX3_mayChangeLane_37 (by decide) ?_
          refine lv_aload_n hx hb dX3_mayChangeLane_38 rfl (lv_at hl 2 rfl) ?_
          refine gg6_8 X hP hk_a1 (sk_in hN hk_a1 (by decide)) hi6 (List.mem_of_getElem? (i := 2) rfl) dX3_mayChangeLane_39 ?_
          refine lv_isub hx hb dX3_mayChangeLane_42 ?_
          obtain ⟨q6, hcq6, h⟩ := hb_some h
          refine gdV_i (As := [.ref (b ((t0 + 1) + 3 + p3.toNatClampNeg)), .ref (b a1), .int ((1 : Int32) - (I a1 8))]) (rest := []) (BH := (fun (u : Unit) H => va_P (dC, dI) vwCl (hW N ca b I O J) H)) X hP hS (c_X3_isInTheWay hN hA I O J t0 (some ((t0 + 1) + 3 + p3.toNatClampNeg)) a1 ((1 : Int32) - (I a1 8)) hk_t0 hk_a1 q6 hcq6) (cwV 3 X.ts gX3_mayChangeLane_X3_isInTheWay rfl rfl rfl (by decide +kernel) ⟨Nat.le_of_ble_eq_true rfl, Nat.le_of_ble_eq_true rfl⟩) (gr3 X hP hk_t0 (sk_in hN hk_t0 (by decide))) rfl hl.1 rfl (Nat.le_of_ble_eq_true rfl) dX3_mayChangeLane_43 ⟨Nat.le_of_ble_eq_true rfl, Nat.le_of_ble_eq_true rfl⟩ (fun r5 u9 H locs hw hP hS => ?_)
          have hw := hw.symm
          subst hw
          obtain ⟨j7, ej7, h⟩ := hlet_ex h
          have K73 : ∀ (H : Heap) (locs : List Loc) (ls : Array Slot), j7 () = some res → va_P (dC, dI) vwCl (hW N ca b I O J) H → va_S A s.heap H locs → lv_has ls 7 [(0, .ref (b t0)), (1, .ref (b a1)), (2, .ref (b (t0 + 1))), (3, .int (8 : Int32)), (4, .int p3)] → W p l e (headSpec wsX3_mayChangeLane ({ frames := 1, cells := 0, slots := 0, locals := 23 } : Room)).room s m ([.ref (b t0), .ref (b a1)] : List Value).toArray below meth c H locs 0 0 (MQ below (va_Qi (fun (r : Int32) (u : Unit) => res = r) (fun (u : Unit) t => va_P (dC, dI) vwCl (hW N ca b I O J) t.heap) A) ([.ref (b t0), .ref (b a1)] : List Value).toArray s 0 0 A) (F0 m 73 ls []) := by
            intro H locs ls h hP hS hl
            rw [ej7] at h
            obtain ⟨x8, ex8, h⟩ := hlet_ex h
            refine lv_iinc (v := x8) (lv' := [(4, .int x8), (0, .ref (b t0)), (1, .ref (b a1)), (2, .ref (b (t0 + 1))), (3, .int (8 : Int32))]) hx hb dX3_mayChangeLane_73 hl (k := 4) rfl (by rw [ex8]; rfl) (by decide) rfl (fun ls hl => ?_)
            refine lv_goto (tgt := 21) hx hb dX3_mayChangeLane_76 (by decide) ?_
            exact ih _ _ _ _ h hP hS (lv_sub hl [1, 2, 3, 4, 0] rfl)
          refine lv_if_eq (tgt := 73) hx hb dX3_mayChangeLane_46 (by decide) (fun c13 => ?_) (fun c13 => ?_)
          · have h := gif_t c13 h
            exact K73 _ _ _ h hP hS (lv_sub hl [1, 2, 3, 4, 5] rfl)
          · have h := gif_f c13 h
            refine lv_aload_n hx hb dX3_mayChangeLane_49 rfl (lv_at hl 2 rfl) ?_
            refine lv_aload hx hb dX3_mayChangeLane_50 (lv_at hl 0 rfl) ?_
            obtain ⟨q10, hcq10, h⟩ := hb_some h
            refine gdV_i (As := [.ref (b ((t0 + 1) + 3 + p3.toNatClampNeg))]) (rest := []) (BH := (fun (u : Unit) H => va_P (dC, dI) vwCl (hW N ca b I O J) H)) X hP hS (c_X6_feetBehind hN hA I O J a1 ((t0 + 1) + 3 + p3.toNatClampNeg) hk_a1 (sk24 (sk3_1 hk_t0) (gin_lt hgi4)) q10 hcq10) (cwV 1 X.ts gX3_mayChangeLane_X6_feetBehind rfl rfl rfl (by decide +kernel) ⟨Nat.le_of_ble_eq_true rfl, Nat.le_of_ble_eq_true rfl⟩) (gr6 X hP hk_a1 (sk_in hN hk_a1 (by decide))) rfl hl.1 rfl (Nat.le_of_ble_eq_true rfl) dX3_mayChangeLane_52 ⟨Nat.le_of_ble_eq_true rfl, Nat.le_of_ble_eq_true rfl⟩ (fun r9 u9 H locs hw hP hS => ?_)
            have hw := hw.symm
            subst hw
            refine lv_istore (lv' := [(6, .int r9), (5, .ref (b ((t0 + 1) + 3 + p3.toNatClampNeg))), (0, .ref (b t0)), (1, .ref (b a1)), (2, .ref (b (t0 + 1))), (3, .int (8 : Int32)), (4, .int p3)]) hx hb dX3_mayChangeLane_55 hl (by decide) rfl (fun ls hl => ?_)
            refine lv_iload hx hb dX3_mayChangeLane_57 (lv_at hl 0 rfl) ?_
            refine lv_iconst (v := 3) hx hb dX3_mayChangeLane_59 (by decide) ?_
            refine lv_icmp_le (tgt := 71) hx hb dX3_mayChangeLane_60 (by decide) (fun c12 => ?_) (fun c12 => ?_)
            · have h := gif_t c12 h
              refine lv_iconst (v := 0) hx hb dX3_mayChangeLane_71 (by decide) ?_
              exact W.zret (ty := .boolean) hx hb hr (by decide) (fun t9 ht hW => ⟨⟨(0 : Int32), (), rfl, (Option.some.inj h).symm, gEnd ht hP⟩, hS.F ht⟩) hS.2.2 dX3_mayChangeLane_72 hlk
            · have h := gif_f c12 h
              refine lv_iload hx hb dX3_mayChangeLane_63 (lv_at hl 0 rfl) ?_
              refine lv_sipush (v := 397) hx hb dX3_mayChangeLane_65 (by decide) ?_
              refine lv_icmp_lt (tgt := 73) hx hb dX3_mayChangeLane_68 (by decide) (fun c11 => ?_) (fun c11 => ?_)
              · have h := gif_t c11 h
                exact K73 _ _ _ h hP hS (lv_sub hl [2, 3, 4, 5, 6] rfl)
              · have h := gif_f c11 h
                refine lv_iconst (v := 0) hx hb dX3_mayChangeLane_71 (by decide) ?_
                exact W.zret (ty := .boolean) hx hb hr (by decide) (fun t9 ht hW => ⟨⟨(0 : Int32), (), rfl, (Option.some.inj h).symm, gEnd ht hP⟩, hS.F ht⟩) hS.2.2 dX3_mayChangeLane_72 hlk
    exact hL21 FU _ _ _ _ h hP hS (lv_sub hl [3, 4, 2, 1, 0] rfl)
  · have h := gif_f c15 h
    refine lv_iconst (v := 0) hx hb dX3_mayChangeLane_8 (by decide) ?_
    exact W.zret (ty := .boolean) hx hb hr (by decide) (fun t9 ht hW => ⟨⟨(0 : Int32), (), rfl, (Option.some.inj h).symm, gEnd ht hP⟩, hS.F ht⟩) hS.2.2 dX3_mayChangeLane_9 hlk
def f_X3_noteArrival (t0 : Nat) (a1 : Nat) (I : Nat → Nat → Int32) : Option (Nat → Nat → Int32) :=
  hlet (gup I a1 9 (3 : Int32)) fun I1 =>
  hlet (gup I1 a1 13 (I1 t0 7)) fun I2 =>
  hlet (gup I2 a1 14 (I2 t0 6)) fun I3 =>
  (show Option (Nat → Nat → Int32) from
    if (I3 t0 7) = 0 then
      if (I3 a1 12) = (-1 : Int32) then
        some I3
      else
        hlet (gup I3 t0 13 ((I3 t0 13) + (1 : Int32))) fun I6 =>
        some I6
    else
      some I3).bind fun I4 =>
  hlet (gup I4 t0 7 ((I4 t0 7) + (1 : Int32))) fun I5 =>
  some I5
set_option maxHeartbeats 8000000 in
set_option maxRecDepth 100000 in
theorem c_X3_noteArrival {l : Launch} {dC : Nat → ClassId} {dI : Nat → Nat → Nat} {ca : Nat → ClassId} {b : Nat → Nat} {A : Nat → Prop} {N : Nat} (hN : 129 ≤ N) (hA : gAd A b N) (I : Nat → Nat → Int32) (O : Nat → Nat → Option Nat) (J : Nat → Nat → Int64) (t0 : Nat) (a1 : Nat) (hk_t0 : SHK t0 = 3) (hk_a1 : SHK a1 = 6) (res : Nat → Nat → Int32) (h : f_X3_noteArrival t0 a1 I = some res) : Met l yX3_noteArrival wsX3_noteArrival ({ frames := 0, cells := 0, slots := 0, locals := 0 } : Room) (va_Pc [.ref (b t0), .ref (b a1)] (gPre dC dI ca b A N I O J)) (va_Qv (fun (u : Nat → Nat → Int32) => res = u) (fun (u : Nat → Nat → Int32) t => va_P (dC, dI) vwCl (hW N ca b u O J) t.heap) A) 0 0 A := by
  refine Met.ofW (cc := cX3_noteArrival) (maxL := 2) (ret := none) (by decide) rfl ?_
  intro p e s m args below meth c s₁ B hml hv
  obtain ⟨rfl, hP, hK, hA2, hth⟩ := hv
  have hx := B.exec
  have hb := B.bytes
  have hr := B.returns
  have hlk := B.notSynchronized
  have X : gCx p s m ([.ref (b t0), .ref (b a1)] : List Value).toArray c RX3 cX3_noteArrival wsX3_noteArrival 2 dC dI ca b A N := ⟨hx, hb, hml, findClass_of_methodNamed B.named, atoms_spec (ws := wsX3_noteArrival) B.pre, hK, hA, hA2, hth⟩
  have hi3 : ∀ w ∈ wsX30, w ∈ wsX3_noteArrival := (fun w h => List.mem_cons_of_mem _ (List.mem_append_right _ h))
  have hi6 : ∀ w ∈ wsX60, w ∈ wsX3_noteArrival := (fun w h => List.mem_cons_of_mem _ (List.mem_append_left _ (List.mem_append_right _ h)))
  have hS : va_S A s.heap s.heap [] := va_S.rf
  have hl := lv_entry ([.ref (b t0), .ref (b a1)] : List Value) (n := 2) (Nat.le_of_ble_eq_true rfl)
  rw [lg_entry_eq]
  generalize (lg_sl ([.ref (b t0), .ref (b a1)] : List Value) ++ List.replicate (2 - (lg_sl ([.ref (b t0), .ref (b a1)] : List Value)).length) Slot.unset).toArray = ls at hl ⊢
  have hl : lv_has ls 2 [(0, .ref (b t0)), (1, .ref (b a1))] := hl
  unfold f_X3_noteArrival at h
  refine lv_aload_n hx hb dX3_noteArrival_0 rfl (lv_at hl 1 rfl) ?_
  refine lv_iconst (v := 3) hx hb dX3_noteArrival_1 (by decide) ?_
  refine gp6_9 X hP hS hk_a1 (sk_in hN hk_a1 (by decide)) hi6 (List.mem_of_getElem? (i := 1) rfl) dX3_noteArrival_2 (fun H locs hP hS => ?_)
  obtain ⟨I1, eI1, h⟩ := hlet_ex h
  rw [← eI1] at hP
  refine lv_aload_n hx hb dX3_noteArrival_5 rfl (lv_at hl 1 rfl) ?_
  refine lv_aload_n hx hb dX3_noteArrival_6 rfl (lv_at hl 0 rfl) ?_
  refine gg3_7 X hP hk_t0 (sk_in hN hk_t0 (by decide)) hi3 (List.mem_of_getElem? (i := 2) rfl) dX3_noteArrival_7 ?_
  refine gp6_13 X hP hS hk_a1 (sk_in hN hk_a1 (by decide)) hi6 (List.mem_of_getElem? (i := 3) rfl) dX3_noteArrival_10 (fun H locs hP hS => ?_)
  obtain ⟨I2, eI2, h⟩ := hlet_ex h
  rw [← eI2] at hP
  refine lv_aload_n hx hb dX3_noteArrival_13 rfl (lv_at hl 1 rfl) ?_
  refine lv_aload_n hx hb dX3_noteArrival_14 rfl (lv_at hl 0 rfl) ?_
  refine gg3_6 X hP hk_t0 (sk_in hN hk_t0 (by decide)) hi3 (List.mem_of_getElem? (i := 4) rfl) dX3_noteArrival_15 ?_
  refine gp6_14 X hP hS hk_a1 (sk_in hN hk_a1 (by decide)) hi6 (List.mem_of_getElem? (i := 5) rfl) dX3_noteArrival_18 (fun H locs hP hS => ?_)
  obtain ⟨I3, eI3, h⟩ := hlet_ex h
  rw [← eI3] at hP
  refine lv_aload_n hx hb dX3_noteArrival_21 rfl (lv_at hl 0 rfl) ?_
  refine gg3_7 X hP hk_t0 (sk_in hN hk_t0 (by decide)) hi3 (List.mem_of_getElem? (i := 2) rfl) dX3_noteArrival_22 ?_
  obtain ⟨I4, hv, h⟩ := hb_some h
  have K46 : ∀ (H : Heap) (locs : List Loc) (ls : Array Slot), va_P (dC, dI) vwCl (hW N ca b I4 O J) H → va_S A s.heap H locs → lv_has ls 2 [(0, .ref (b t0))] → W p l e (headSpec wsX3_noteArrival ({ frames := 0, cells := 0, slots := 0, locals := 0 } : Room)).room s m ([.ref (b t0), .ref (b a1)] : List Value).toArray below meth c H locs 0 0 (MQ below (va_Qv (fun (u : Nat → Nat → Int32) => res = u) (fun (u : Nat → Nat → Int32) t => va_P (dC, dI) vwCl (hW N ca b u O J) t.heap) A) ([.ref (b t0), .ref (b a1)] : List Value).toArray s 0 0 A) (F0 m 46 ls []) := by
    intro H locs ls hP hS hl
    refine lv_aload_n hx hb dX3_noteArrival_46 rfl (lv_at hl 0 rfl) ?_
    refine lv_dup hx hb dX3_noteArrival_47 rfl ?_
    refine gg3_7 X hP hk_t0 (sk_in hN hk_t0 (by decide)) hi3 (List.mem_of_getElem? (i := 2) rfl) dX3_noteArrival_48 ?_
    refine lv_iconst (v := 1) hx hb dX3_noteArrival_51 (by decide) ?_
    refine lv_iadd hx hb dX3_noteArrival_52 ?_
    refine gp3_7 X hP hS hk_t0 (sk_in hN hk_t0 (by decide)) hi3 (List.mem_of_getElem? (i := 2) rfl) dX3_noteArrival_53 (fun H locs hP hS => ?_)
    obtain ⟨I5, eI5, h⟩ := hlet_ex h
    rw [← eI5] at hP
    exact W.vret hx hb hr (fun t9 ht hW => ⟨⟨I5, rfl, (Option.some.inj h).symm, gEnd ht hP⟩, hS.F ht⟩) hS.2.2 dX3_noteArrival_56 hlk
  have h := hv
  refine lv_if_ne (tgt := 46) hx hb dX3_noteArrival_25 (by decide) (fun c8 => ?_) (fun c8 => ?_)
  · have h := gif_f c8 h
    cases h
    exact K46 _ _ _ hP hS (lv_sub hl [0] rfl)
  · have h := gif_t c8 h
    refine lv_aload_n hx hb dX3_noteArrival_28 rfl (lv_at hl 1 rfl) ?_
    refine gg6_12 X hP hk_a1 (sk_in hN hk_a1 (by decide)) hi6 (List.mem_of_getElem? (i := 6) rfl) dX3_noteArrival_29 ?_
    refine lv_iconst (v := (-1)) hx hb dX3_noteArrival_32 (by decide) ?_
    refine lv_icmp_eq (tgt := 46) hx hb dX3_noteArrival_33 (by decide) (fun c7 => ?_) (fun c7 => ?_)
    · have h := gif_t c7 h
      cases h
      exact K46 _ _ _ hP hS (lv_sub hl [0] rfl)
    · have h := gif_f c7 h
      refine lv_aload_n hx hb dX3_noteArrival_36 rfl (lv_at hl 0 rfl) ?_
      refine lv_dup hx hb dX3_noteArrival_37 rfl ?_
      refine gg3_13 X hP hk_t0 (sk_in hN hk_t0 (by decide)) hi3 (List.mem_of_getElem? (i := 7) rfl) dX3_noteArrival_38 ?_
      refine lv_iconst (v := 1) hx hb dX3_noteArrival_41 (by decide) ?_
      refine lv_iadd hx hb dX3_noteArrival_42 ?_
      refine gp3_13 X hP hS hk_t0 (sk_in hN hk_t0 (by decide)) hi3 (List.mem_of_getElem? (i := 7) rfl) dX3_noteArrival_43 (fun H locs hP hS => ?_)
      obtain ⟨I6, eI6, h⟩ := hlet_ex h
      rw [← eI6] at hP
      cases h
      exact K46 _ _ _ hP hS (lv_sub hl [0] rfl)
def f_X3_flyOn (t0 : Nat) (a1 : Nat) (a2 : Int32) (I : Nat → Nat → Int32) : Option (Nat → Nat → Int32) :=
  (f_X6_lapsOver a1 I).bind fun r1 =>
  (show Option (Int32) from
    if ((I a1 4) + a2) < ((r1 + (1 : Int32)) * (400 : Int32)) then
      some (0 : Int32)
    else
      some (1 : Int32)).bind fun p3 =>
  (show Option (Int32) from
    if p3 = 0 then
      some (0 : Int32)
    else
      if ((r1 + (1 : Int32)) * (400 : Int32)) < ((I t0 4) * (400 : Int32)) then
        some (0 : Int32)
      else
        some (1 : Int32)).bind fun p4 =>
  (show Option (Int32) from
    if p3 = 0 then
      some (0 : Int32)
    else
      if p4 = 0 then
        if (I a1 11) = 0 then
          some (0 : Int32)
        else
          some (1 : Int32)
      else
        some (0 : Int32)).bind fun p5 =>
  (show Option (Int32) from
    if p4 = 0 then
      if p5 = 0 then
        some ((I a1 4) + a2)
      else
        some ((r1 + (1 : Int32)) * (400 : Int32))
    else
      some ((r1 + (1 : Int32)) * (400 : Int32))).bind fun p6 =>
  hlet (gup I a1 5 (p6 - (I a1 4))) fun I7 =>
  hlet (gup I7 a1 4 p6) fun I8 =>
  hlet (gup I8 t0 8 ((I8 t0 8) + (I8 a1 5))) fun I9 =>
  if p4 = 0 then
    if p5 = 0 then
      some I9
    else
      (f_X6_goToNest a1 I9).bind fun I10 =>
      hlet (gup I10 t0 11 ((I10 t0 11) + (1 : Int32))) fun I12 =>
      some I12
  else
    (f_X3_noteArrival t0 a1 I9).bind fun I14 =>
    some I14
set_option maxHeartbeats 8000000 in
set_option maxRecDepth 100000 in
theorem c_X3_flyOn {l : Launch} {dC : Nat → ClassId} {dI : Nat → Nat → Nat} {ca : Nat → ClassId} {b : Nat → Nat} {A : Nat → Prop} {N : Nat} (hN : 129 ≤ N) (hA : gAd A b N) (I : Nat → Nat → Int32) (O : Nat → Nat → Option Nat) (J : Nat → Nat → Int64) (t0 : Nat) (a1 : Nat) (a2 : Int32) (hk_t0 : SHK t0 = 3) (hk_a1 : SHK a1 = 6) (res : Nat → Nat → Int32) (h : f_X3_flyOn t0 a1 a2 I = some res) : Met l yX3_flyOn wsX3_flyOn ({ frames := 1, cells := 0, slots := 0, locals := 21 } : Room) (va_Pc [.ref (b t0), .ref (b a1), .int a2] (gPre dC dI ca b A N I O J)) (va_Qv (fun (u : Nat → Nat → Int32) => res = u) (fun (u : Nat → Nat → Int32) t => va_P (dC, dI) vwCl (hW N ca b u O J) t.heap) A) 0 0 A := by
  refine Met.ofW (cc := cX3_flyOn) (maxL := 8) (ret := none) (by decide) rfl ?_
  intro p e s m args below meth c s₁ B hml hv
  obtain ⟨rfl, hP, hK, hA2, hth⟩ := hv
  have hx := B.exec
  have hb := B.bytes
  have hr := B.returns
  have hlk := B.notSynchronized
  have X : gCx p s m ([.ref (b t0), .ref (b a1), .int a2] : List Value).toArray c RX3 cX3_flyOn wsX3_flyOn 8 dC dI ca b A N := ⟨hx, hb, hml, findClass_of_methodNamed B.named, atoms_spec (ws := wsX3_flyOn) B.pre, hK, hA, hA2, hth⟩
  have hi3 : ∀ w ∈ wsX30, w ∈ wsX3_flyOn := (fun w h => List.mem_cons_of_mem _ (List.mem_append_right _ h))
  have hi6 : ∀ w ∈ wsX60, w ∈ wsX3_flyOn := (fun w h => List.mem_cons_of_mem _ (List.mem_append_left _ (List.mem_append_right _ h)))
  have hS : va_S A s.heap s.heap [] := va_S.rf
  have hl := lv_entry ([.ref (b t0), .ref (b a1), .int a2] : List Value) (n := 8) (Nat.le_of_ble_eq_true rfl)
  rw [lg_entry_eq]
  generalize (lg_sl ([.ref (b t0), .ref (b a1), .int a2] : List Value) ++ List.replicate (8 - (lg_sl ([.ref (b t0), .ref (b a1), .int a2] : List Value)).length) Slot.unset).toArray = ls at hl ⊢
  have hl : lv_has ls 8 [(0, .ref (b t0)), (1, .ref (b a1)), (2, .int a2)] := hl
  unfold f_X3_flyOn at h
  refine lv_aload_n hx hb dX3_flyOn_0 rfl (lv_at hl 1 rfl) ?_
  obtain ⟨q2, hcq2, h⟩ := hb_some h
  refine gdV_i (As := []) (rest := []) (BH := (fun (u : Unit) H => va_P (dC, dI) vwCl (hW N ca b I O J) H)) X hP hS (c_X6_lapsOver hN hA I O J a1 hk_a1 q2 hcq2) (cwV 0 X.ts gX3_flyOn_X6_lapsOver rfl rfl rfl (by decide +kernel) ⟨Nat.le_of_ble_eq_true rfl, Nat.le_of_ble_eq_true rfl⟩) (gr6 X hP hk_a1 (sk_in hN hk_a1 (by decide))) rfl hl.1 rfl (Nat.le_of_ble_eq_true rfl) dX3_flyOn_1 ⟨Nat.le_of_ble_eq_true rfl, Nat.le_of_ble_eq_true rfl⟩ (fun r1 u9 H locs hw hP hS => ?_)
  have hw := hw.symm
  subst hw
  refine lv_iconst (v := 1) hx hb dX3_flyOn_4 (by decide) ?_
  refine lv_iadd hx hb dX3_flyOn_5 ?_
  refine lv_sipush (v := 400) hx hb dX3_flyOn_6 (by decide) ?_
  refine lv_imul hx hb dX3_flyOn_9 ?_
  refine lv_istore_n (lv' := [(3, .int ((r1 + (1 : Int32)) * (400 : Int32))), (0, .ref (b t0)), (1, .ref (b a1)), (2, .int a2)]) hx hb dX3_flyOn_10 rfl hl (by decide) rfl (fun ls hl => ?_)
  refine lv_aload_n hx hb dX3_flyOn_11 rfl (lv_at hl 2 rfl) ?_
  refine gg6_4 X hP hk_a1 (sk_in hN hk_a1 (by decide)) hi6 (List.mem_of_getElem? (i := 1) rfl) dX3_flyOn_12 ?_
  refine lv_iload_n hx hb dX3_flyOn_15 rfl (lv_at hl 3 rfl) ?_
  refine lv_iadd hx hb dX3_flyOn_16 ?_
  refine lv_istore (lv' := [(4, .int ((I a1 4) + a2)), (3, .int ((r1 + (1 : Int32)) * (400 : Int32))), (0, .ref (b t0)), (1, .ref (b a1)), (2, .int a2)]) hx hb dX3_flyOn_17 hl (by decide) rfl (fun ls hl => ?_)
  refine lv_iload hx hb dX3_flyOn_19 (lv_at hl 0 rfl) ?_
  refine lv_iload_n hx hb dX3_flyOn_21 rfl (lv_at hl 1 rfl) ?_
  obtain ⟨p3, hv, h⟩ := hb_some h
  have K30 : ∀ (H : Heap) (locs : List Loc) (ls : Array Slot), va_P (dC, dI) vwCl (hW N ca b I O J) H → va_S A s.heap H locs → lv_has ls 8 [(0, .ref (b t0)), (1, .ref (b a1)), (3, .int ((r1 + (1 : Int32)) * (400 : Int32))), (4, .int ((I a1 4) + a2))] → W p l e (headSpec wsX3_flyOn ({ frames := 1, cells := 0, slots := 0, locals := 21 } : Room)).room s m ([.ref (b t0), .ref (b a1), .int a2] : List Value).toArray below meth c H locs 0 0 (MQ below (va_Qv (fun (u : Nat → Nat → Int32) => res = u) (fun (u : Nat → Nat → Int32) t => va_P (dC, dI) vwCl (hW N ca b u O J) t.heap) A) ([.ref (b t0), .ref (b a1), .int a2] : List Value).toArray s 0 0 A) (F0 m 30 ls [.int p3]) := by
    intro H locs ls hP hS hl
    refine lv_istore (lv' := [(5, .int p3), (0, .ref (b t0)), (1, .ref (b a1)), (3, .int ((r1 + (1 : Int32)) * (400 : Int32))), (4, .int ((I a1 4) + a2))]) hx hb dX3_flyOn_30 hl (by decide) rfl (fun ls hl => ?_)
    refine lv_iload hx hb dX3_flyOn_32 (lv_at hl 0 rfl) ?_
    obtain ⟨p4, hv, h⟩ := hb_some h
    have K54 : ∀ (H : Heap) (locs : List Loc) (ls : Array Slot), va_P (dC, dI) vwCl (hW N ca b I O J) H → va_S A s.heap H locs → lv_has ls 8 [(0, .ref (b t0)), (1, .ref (b a1)), (3, .int ((r1 + (1 : Int32)) * (400 : Int32))), (4, .int ((I a1 4) + a2)), (5, .int p3)] → W p l e (headSpec wsX3_flyOn ({ frames := 1, cells := 0, slots := 0, locals := 21 } : Room)).room s m ([.ref (b t0), .ref (b a1), .int a2] : List Value).toArray below meth c H locs 0 0 (MQ below (va_Qv (fun (u : Nat → Nat → Int32) => res = u) (fun (u : Nat → Nat → Int32) t => va_P (dC, dI) vwCl (hW N ca b u O J) t.heap) A) ([.ref (b t0), .ref (b a1), .int a2] : List Value).toArray s 0 0 A) (F0 m 54 ls [.int p4]) := by
      intro H locs ls hP hS hl
      refine lv_istore (lv' := [(6, .int p4), (0, .ref (b t0)), (1, .ref (b a1)), (3, .int ((r1 + (1 : Int32)) * (400 : Int32))), (4, .int ((I a1 4) + a2)), (5, .int p3)]) hx hb dX3_flyOn_54 hl (by decide) rfl (fun ls hl => ?_)
      refine lv_iload hx hb dX3_flyOn_56 (lv_at hl 5 rfl) ?_
      obtain ⟨p5, hv, h⟩ := hb_some h
      have K78 : ∀ (H : Heap) (locs : List Loc) (ls : Array Slot), va_P (dC, dI) vwCl (hW N ca b I O J) H → va_S A s.heap H locs → lv_has ls 8 [(0, .ref (b t0)), (1, .ref (b a1)), (3, .int ((r1 + (1 : Int32)) * (400 : Int32))), (4, .int ((I a1 4) + a2)), (6, .int p4)] → W p l e (headSpec wsX3_flyOn ({ frames := 1, cells := 0, slots := 0, locals := 21 } : Room)).room s m ([.ref (b t0), .ref (b a1), .int a2] : List Value).toArray below meth c H locs 0 0 (MQ below (va_Qv (fun (u : Nat → Nat → Int32) => res = u) (fun (u : Nat → Nat → Int32) t => va_P (dC, dI) vwCl (hW N ca b u O J) t.heap) A) ([.ref (b t0), .ref (b a1), .int a2] : List Value).toArray s 0 0 A) (F0 m 78 ls [.int p5]) := by
        intro H locs ls hP hS hl
        refine lv_istore (lv' := [(7, .int p5), (0, .ref (b t0)), (1, .ref (b a1)), (3, .int ((r1 + (1 : Int32)) * (400 : Int32))), (4, .int ((I a1 4) + a2)), (6, .int p4)]) hx hb dX3_flyOn_78 hl (by decide) rfl (fun ls hl => ?_)
        refine lv_iload hx hb dX3_flyOn_80 (lv_at hl 5 rfl) ?_
        obtain ⟨p6, hv, h⟩ := hb_some h
        have K93 : ∀ (H : Heap) (locs : List Loc) (ls : Array Slot), va_P (dC, dI) vwCl (hW N ca b I O J) H → va_S A s.heap H locs → lv_has ls 8 [(0, .ref (b t0)), (1, .ref (b a1)), (4, .int p6), (6, .int p4), (7, .int p5)] → W p l e (headSpec wsX3_flyOn ({ frames := 1, cells := 0, slots := 0, locals := 21 } : Room)).room s m ([.ref (b t0), .ref (b a1), .int a2] : List Value).toArray below meth c H locs 0 0 (MQ below (va_Qv (fun (u : Nat → Nat → Int32) => res = u) (fun (u : Nat → Nat → Int32) t => va_P (dC, dI) vwCl (hW N ca b u O J) t.heap) A) ([.ref (b t0), .ref (b a1), .int a2] : List Value).toArray s 0 0 A) (F0 m 93 ls []) := by
          intro H locs ls hP hS hl
          refine lv_aload_n hx hb dX3_flyOn_93 rfl (lv_at hl 1 rfl) ?_
          refine lv_iload hx hb dX3_flyOn_94 (lv_at hl 2 rfl) ?_
          refine lv_aload_n hx hb dX3_flyOn_96 rfl (lv_at hl 1 rfl) ?_
          refine gg6_4 X hP hk_a1 (sk_in hN hk_a1 (by decide)) hi6 (List.mem_of_getElem? (i := 1) rfl) dX3_flyOn_97 ?_
          refine lv_isub hx hb dX3_flyOn_100 ?_
          refine gp6_5 X hP hS hk_a1 (sk_in hN hk_a1 (by decide)) hi6 (List.mem_of_getElem? (i := 4) rfl) dX3_flyOn_101 (fun H locs hP hS => ?_)
          obtain ⟨I7, eI7, h⟩ := hlet_ex h
          rw [← eI7] at hP
          refine lv_aload_n hx hb dX3_flyOn_104 rfl (lv_at hl 1 rfl) ?_
          refine lv_iload hx hb dX3_flyOn_105 (lv_at hl 2 rfl) ?_
          refine gp6_4 X hP hS hk_a1 (sk_in hN hk_a1 (by decide)) hi6 (List.mem_of_getElem? (i := 1) rfl) dX3_flyOn_107 (fun H locs hP hS => ?_)
          obtain ⟨I8, eI8, h⟩ := hlet_ex h
          rw [← eI8] at hP
          refine lv_aload_n hx hb dX3_flyOn_110 rfl (lv_at hl 0 rfl) ?_
          refine lv_dup hx hb dX3_flyOn_111 rfl ?_
          refine gg3_8 X hP hk_t0 (sk_in hN hk_t0 (by decide)) hi3 (List.mem_of_getElem? (i := 5) rfl) dX3_flyOn_112 ?_
          refine lv_aload_n hx hb dX3_flyOn_115 rfl (lv_at hl 1 rfl) ?_
          refine gg6_5 X hP hk_a1 (sk_in hN hk_a1 (by decide)) hi6 (List.mem_of_getElem? (i := 4) rfl) dX3_flyOn_116 ?_
          refine lv_iadd hx hb dX3_flyOn_119 ?_
          refine gp3_8 X hP hS hk_t0 (sk_in hN hk_t0 (by decide)) hi3 (List.mem_of_getElem? (i := 5) rfl) dX3_flyOn_120 (fun H locs hP hS => ?_)
          obtain ⟨I9, eI9, h⟩ := hlet_ex h
          rw [← eI9] at hP
          refine lv_iload hx hb dX3_flyOn_123 (lv_at hl 3 rfl) ?_
          refine lv_if_eq (tgt := 136) hx hb dX3_flyOn_125 (by decide) (fun c16 => ?_) (fun c16 => ?_)
          · have h := gif_t c16 h
            refine lv_iload hx hb dX3_flyOn_136 (lv_at hl 4 rfl) ?_
            refine lv_if_eq (tgt := 155) hx hb dX3_flyOn_138 (by decide) (fun c13 => ?_) (fun c13 => ?_)
            · have h := gif_t c13 h
              exact W.vret hx hb hr (fun t9 ht hW => ⟨⟨I9, rfl, (Option.some.inj h).symm, gEnd ht hP⟩, hS.F ht⟩) hS.2.2 dX3_flyOn_155 hlk
            · have h := gif_f c13 h
              refine lv_aload_n hx hb dX3_flyOn_141 rfl (lv_at hl 1 rfl) ?_
              obtain ⟨q11, hcq11, h⟩ := hb_some h
              refine gdV_v (As := []) (rest := []) (BH := (fun (u : Nat → Nat → Int32) H => va_P (dC, dI) vwCl (hW N ca b u O J) H)) X hP hS (c_X6_goToNest hN hA I9 O J a1 hk_a1 q11 hcq11) (cwV 0 X.ts gX3_flyOn_X6_goToNest rfl rfl rfl (by decide +kernel) ⟨Nat.le_of_ble_eq_true rfl, Nat.le_of_ble_eq_true rfl⟩) (gr6 X hP hk_a1 (sk_in hN hk_a1 (by decide))) rfl hl.1 rfl (Nat.le_of_ble_eq_true rfl) dX3_flyOn_142 ⟨Nat.le_of_ble_eq_true rfl, Nat.le_of_ble_eq_true rfl⟩ (fun I10 H locs hw hP hS => ?_)
              have hw := hw.symm
              subst hw
              refine lv_aload_n hx hb dX3_flyOn_145 rfl (lv_at hl 0 rfl) ?_
              refine lv_dup hx hb dX3_flyOn_146 rfl ?_
              refine gg3_11 X hP hk_t0 (sk_in hN hk_t0 (by decide)) hi3 (List.mem_of_getElem? (i := 6) rfl) dX3_flyOn_147 ?_
              refine lv_iconst (v := 1) hx hb dX3_flyOn_150 (by decide) ?_
              refine lv_iadd hx hb dX3_flyOn_151 ?_
              refine gp3_11 X hP hS hk_t0 (sk_in hN hk_t0 (by decide)) hi3 (List.mem_of_getElem? (i := 6) rfl) dX3_flyOn_152 (fun H locs hP hS => ?_)
              obtain ⟨I12, eI12, h⟩ := hlet_ex h
              rw [← eI12] at hP
              exact W.vret hx hb hr (fun t9 ht hW => ⟨⟨I12, rfl, (Option.some.inj h).symm, gEnd ht hP⟩, hS.F ht⟩) hS.2.2 dX3_flyOn_155 hlk
          · have h := gif_f c16 h
            refine lv_aload_n hx hb dX3_flyOn_128 rfl (lv_at hl 0 rfl) ?_
            refine lv_aload_n hx hb dX3_flyOn_129 rfl (lv_at hl 1 rfl) ?_
            obtain ⟨q15, hcq15, h⟩ := hb_some h
            refine gdV_v (As := [.ref (b a1)]) (rest := []) (BH := (fun (u : Nat → Nat → Int32) H => va_P (dC, dI) vwCl (hW N ca b u O J) H)) X hP hS (c_X3_noteArrival hN hA I9 O J t0 a1 hk_t0 hk_a1 q15 hcq15) (cwV 1 X.ts gX3_flyOn_X3_noteArrival rfl rfl rfl (by decide +kernel) ⟨Nat.le_of_ble_eq_true rfl, Nat.le_of_ble_eq_true rfl⟩) (gr3 X hP hk_t0 (sk_in hN hk_t0 (by decide))) rfl hl.1 rfl (Nat.le_of_ble_eq_true rfl) dX3_flyOn_130 ⟨Nat.le_of_ble_eq_true rfl, Nat.le_of_ble_eq_true rfl⟩ (fun I14 H locs hw hP hS => ?_)
            have hw := hw.symm
            subst hw
            refine lv_goto (tgt := 155) hx hb dX3_flyOn_133 (by decide) ?_
            exact W.vret hx hb hr (fun t9 ht hW => ⟨⟨I14, rfl, (Option.some.inj h).symm, gEnd ht hP⟩, hS.F ht⟩) hS.2.2 dX3_flyOn_155 hlk
        have h := hv
        refine lv_if_ne (tgt := 90) hx hb dX3_flyOn_82 (by decide) (fun c18 => ?_) (fun c18 => ?_)
        · have h := gif_f c18 h
          refine lv_iload_n hx hb dX3_flyOn_90 rfl (lv_at hl 3 rfl) ?_
          refine lv_istore (lv' := [(4, .int ((r1 + (1 : Int32)) * (400 : Int32))), (7, .int p5), (0, .ref (b t0)), (1, .ref (b a1)), (3, .int ((r1 + (1 : Int32)) * (400 : Int32))), (6, .int p4)]) hx hb dX3_flyOn_91 hl (by decide) rfl (fun ls hl => ?_)
          cases h
          exact K93 _ _ _ hP hS (lv_sub hl [2, 3, 0, 5, 1] rfl)
        · have h := gif_t c18 h
          refine lv_iload hx hb dX3_flyOn_85 (lv_at hl 0 rfl) ?_
          refine lv_if_eq (tgt := 93) hx hb dX3_flyOn_87 (by decide) (fun c17 => ?_) (fun c17 => ?_)
          · have h := gif_t c17 h
            cases h
            exact K93 _ _ _ hP hS (lv_sub hl [1, 2, 4, 5, 0] rfl)
          · have h := gif_f c17 h
            refine lv_iload_n hx hb dX3_flyOn_90 rfl (lv_at hl 3 rfl) ?_
            refine lv_istore (lv' := [(4, .int ((r1 + (1 : Int32)) * (400 : Int32))), (7, .int p5), (0, .ref (b t0)), (1, .ref (b a1)), (3, .int ((r1 + (1 : Int32)) * (400 : Int32))), (6, .int p4)]) hx hb dX3_flyOn_91 hl (by decide) rfl (fun ls hl => ?_)
            cases h
            exact K93 _ _ _ hP hS (lv_sub hl [2, 3, 0, 5, 1] rfl)
      have h := hv
      refine lv_if_eq (tgt := 77) hx hb dX3_flyOn_58 (by decide) (fun c21 => ?_) (fun c21 => ?_)
      · have h := gif_t c21 h
        refine lv_iconst (v := 0) hx hb dX3_flyOn_77 (by decide) ?_
        cases h
        exact K78 _ _ _ hP hS (lv_sub hl [1, 2, 3, 4, 0] rfl)
      · have h := gif_f c21 h
        refine lv_iload hx hb dX3_flyOn_61 (lv_at hl 0 rfl) ?_
        refine lv_if_ne (tgt := 77) hx hb dX3_flyOn_63 (by decide) (fun c20 => ?_) (fun c20 => ?_)
        · have h := gif_f c20 h
          refine lv_iconst (v := 0) hx hb dX3_flyOn_77 (by decide) ?_
          cases h
          exact K78 _ _ _ hP hS (lv_sub hl [1, 2, 3, 4, 0] rfl)
        · have h := gif_t c20 h
          refine lv_aload_n hx hb dX3_flyOn_66 rfl (lv_at hl 2 rfl) ?_
          refine gg6_11 X hP hk_a1 (sk_in hN hk_a1 (by decide)) hi6 (List.mem_of_getElem? (i := 3) rfl) dX3_flyOn_67 ?_
          refine lv_if_eq (tgt := 77) hx hb dX3_flyOn_70 (by decide) (fun c19 => ?_) (fun c19 => ?_)
          · have h := gif_t c19 h
            refine lv_iconst (v := 0) hx hb dX3_flyOn_77 (by decide) ?_
            cases h
            exact K78 _ _ _ hP hS (lv_sub hl [1, 2, 3, 4, 0] rfl)
          · have h := gif_f c19 h
            refine lv_iconst (v := 1) hx hb dX3_flyOn_73 (by decide) ?_
            refine lv_goto (tgt := 78) hx hb dX3_flyOn_74 (by decide) ?_
            cases h
            exact K78 _ _ _ hP hS (lv_sub hl [1, 2, 3, 4, 0] rfl)
    have h := hv
    refine lv_if_eq (tgt := 53) hx hb dX3_flyOn_34 (by decide) (fun c23 => ?_) (fun c23 => ?_)
    · have h := gif_t c23 h
      refine lv_iconst (v := 0) hx hb dX3_flyOn_53 (by decide) ?_
      cases h
      exact K54 _ _ _ hP hS (lv_sub hl [1, 2, 3, 4, 0] rfl)
    · have h := gif_f c23 h
      refine lv_iload_n hx hb dX3_flyOn_37 rfl (lv_at hl 3 rfl) ?_
      refine lv_aload_n hx hb dX3_flyOn_38 rfl (lv_at hl 1 rfl) ?_
      refine gg3_4 X hP hk_t0 (sk_in hN hk_t0 (by decide)) hi3 (List.mem_of_getElem? (i := 2) rfl) dX3_flyOn_39 ?_
      refine lv_sipush (v := 400) hx hb dX3_flyOn_42 (by decide) ?_
      refine lv_imul hx hb dX3_flyOn_45 ?_
      refine lv_icmp_lt (tgt := 53) hx hb dX3_flyOn_46 (by decide) (fun c22 => ?_) (fun c22 => ?_)
      · have h := gif_t c22 h
        refine lv_iconst (v := 0) hx hb dX3_flyOn_53 (by decide) ?_
        cases h
        exact K54 _ _ _ hP hS (lv_sub hl [1, 2, 3, 4, 0] rfl)
      · have h := gif_f c22 h
        refine lv_iconst (v := 1) hx hb dX3_flyOn_49 (by decide) ?_
        refine lv_goto (tgt := 54) hx hb dX3_flyOn_50 (by decide) ?_
        cases h
        exact K54 _ _ _ hP hS (lv_sub hl [1, 2, 3, 4, 0] rfl)
  have h := hv
  refine lv_icmp_lt (tgt := 29) hx hb dX3_flyOn_22 (by decide) (fun c24 => ?_) (fun c24 => ?_)
  · have h := gif_t c24 h
    refine lv_iconst (v := 0) hx hb dX3_flyOn_29 (by decide) ?_
    cases h
    exact K30 _ _ _ hP hS (lv_sub hl [2, 3, 1, 0] rfl)
  · have h := gif_f c24 h
    refine lv_iconst (v := 1) hx hb dX3_flyOn_25 (by decide) ?_
    refine lv_goto (tgt := 30) hx hb dX3_flyOn_26 (by decide) ?_
    cases h
    exact K30 _ _ _ hP hS (lv_sub hl [2, 3, 1, 0] rfl)
def f_X3_fly (t0 : Nat) (a1 : Nat) (I : Nat → Nat → Int32) : Option (Nat → Nat → Int32) :=
  (f_X3_nextAhead t0 a1 I).bind fun r1 =>
  (f_X3_draftFeet t0 a1 r1 I).bind fun r3 =>
  (show Option (Nat → Nat → Int32) from
    if r3 ≤ 0 then
      some I
    else
      hlet (gup I t0 9 ((I t0 9) + (1 : Int32))) fun I38 =>
      some I38).bind fun I5 =>
  (f_X3_allowedFeet t0 a1 I5).bind fun r6 =>
  (show Option (Option Nat × (Nat → Nat → Int32)) from
    hopt r1 (
      some ((none : Option Nat), I5)) fun n27 => hk n27 6 <|
    (f_X6_feetBehind a1 n27 I5).bind fun r28 =>
    if (r6 + r3) < (r28 - (1 : Int32)) then
      some ((some n27), I5)
    else
      (f_X3_mayChangeLane t0 a1 I5).bind fun r30 =>
      if r30 = 0 then
        some ((some n27), I5)
      else
        hlet (gup I5 a1 8 ((1 : Int32) - (I5 a1 8))) fun I32 =>
        hlet (gup I32 t0 10 ((I32 t0 10) + (1 : Int32))) fun I33 =>
        (f_X3_nextAhead t0 a1 I33).bind fun r34 =>
        some (r34, I33)).bind fun (p8, I9) =>
  (show Option (Int32) from
    hopt p8 (
      some (r6 + r3)) fun n22 => hk n22 6 <|
    (f_X6_feetBehind a1 n22 I9).bind fun r23 =>
    (show Option (Int32) from
      if (r6 + r3) ≤ (r23 - (1 : Int32)) then
        some (r6 + r3)
      else
        some (r23 - (1 : Int32))).bind fun p25 =>
    some p25).bind fun p10 =>
  (show Option (Int32) from
    if r3 ≤ 0 then
      some (0 : Int32)
    else
      some (1 : Int32)).bind fun p11 =>
  (f_X6_flyWithStrength a1 p10 p11 I9).bind fun (r13, I12) =>
  (show Option (Nat → Nat → Int32) from
    if r13 < (15 : Int32) then
      some I12
    else
      if (100 : Int32) ≤ (I12 a1 7) then
        some I12
      else
        hlet (gup I12 a1 7 ((I12 a1 7) + (1 : Int32))) fun I18 =>
        some I18).bind fun I15 =>
  (f_X3_flyOn t0 a1 r13 I15).bind fun I16 =>
  some I16
set_option maxHeartbeats 8000000 in
set_option maxRecDepth 100000 in
theorem c_X3_fly {l : Launch} {dC : Nat → ClassId} {dI : Nat → Nat → Nat} {ca : Nat → ClassId} {b : Nat → Nat} {A : Nat → Prop} {N : Nat} (hN : 129 ≤ N) (hA : gAd A b N) (I : Nat → Nat → Int32) (O : Nat → Nat → Option Nat) (J : Nat → Nat → Int64) (t0 : Nat) (a1 : Nat) (hk_t0 : SHK t0 = 3) (hk_a1 : SHK a1 = 6) (res : Nat → Nat → Int32) (h : f_X3_fly t0 a1 I = some res) : Met l yX3_fly wsX3_fly ({ frames := 2, cells := 0, slots := 0, locals := 51 } : Room) (va_Pc [.ref (b t0), .ref (b a1)] (gPre dC dI ca b A N I O J)) (va_Qv (fun (u : Nat → Nat → Int32) => res = u) (fun (u : Nat → Nat → Int32) t => va_P (dC, dI) vwCl (hW N ca b u O J) t.heap) A) 0 0 A := by
  refine Met.ofW (cc := cX3_fly) (maxL := 6) (ret := none) (by decide) rfl ?_
  intro p e s m args below meth c s₁ B hml hv
  obtain ⟨rfl, hP, hK, hA2, hth⟩ := hv
  have hx := B.exec
  have hb := B.bytes
  have hr := B.returns
  have hlk := B.notSynchronized
  have X : gCx p s m ([.ref (b t0), .ref (b a1)] : List Value).toArray c RX3 cX3_fly wsX3_fly 6 dC dI ca b A N := ⟨hx, hb, hml, findClass_of_methodNamed B.named, atoms_spec (ws := wsX3_fly) B.pre, hK, hA, hA2, hth⟩
  have hi3 : ∀ w ∈ wsX30, w ∈ wsX3_fly := (fun w h => List.mem_cons_of_mem _ (List.mem_append_left _ (List.mem_append_right _ h)))
  have hi6 : ∀ w ∈ wsX60, w ∈ wsX3_fly := (fun w h => List.mem_cons_of_mem _ (List.mem_append_right _ h))
  have hS : va_S A s.heap s.heap [] := va_S.rf
  have hl := lv_entry ([.ref (b t0), .ref (b a1)] : List Value) (n := 6) (Nat.le_of_ble_eq_true rfl)
  rw [lg_entry_eq]
  generalize (lg_sl ([.ref (b t0), .ref (b a1)] : List Value) ++ List.replicate (6 - (lg_sl ([.ref (b t0), .ref (b a1)] : List Value)).length) Slot.unset).toArray = ls at hl ⊢
  have hl : lv_has ls 6 [(0, .ref (b t0)), (1, .ref (b a1))] := hl
  unfold f_X3_fly at h
  refine lv_aload_n hx hb dX3_fly_0 rfl (lv_at hl 0 rfl) ?_
  refine lv_aload_n hx hb dX3_fly_1 rfl (lv_at hl 1 rfl) ?_
  obtain ⟨q2, hcq2, h⟩ := hb_some h
  refine gdV_q (As := [.ref (b a1)]) (rest := []) (BH := (fun (u : Unit) H => va_P (dC, dI) vwCl (hW N ca b I O J) H)) X hP hS (c_X3_nextAhead hN hA I O J t0 a1 hk_t0 hk_a1 q2 hcq2) (cwV 1 X.ts gX3_fly_X3_nextAhead rfl rfl rfl (by decide +kernel) ⟨Nat.le_of_ble_eq_true rfl, Nat.le_of_ble_eq_true rfl⟩) (gr3 X hP hk_t0 (sk_in hN hk_t0 (by decide))) rfl hl.1 rfl (Nat.le_of_ble_eq_true rfl) dX3_fly_2 ⟨Nat.le_of_ble_eq_true rfl, Nat.le_of_ble_eq_true rfl⟩ (fun r1 u9 H locs hw hP hS => ?_)
  obtain ⟨r1, rfl, hw⟩ := hw
  have hw := hw.symm
  subst hw
  refine gv_astore_n (r := Option.map b r1) (lv' := [(2, va_rf (Option.map b r1)), (0, .ref (b t0)), (1, .ref (b a1))]) hx hb dX3_fly_5 rfl hl (by decide) rfl (fun ls hl => ?_)
  refine lv_aload_n hx hb dX3_fly_6 rfl (lv_at hl 1 rfl) ?_
  refine lv_aload_n hx hb dX3_fly_7 rfl (lv_at hl 2 rfl) ?_
  refine gv_aload_n (r := Option.map b r1) hx hb dX3_fly_8 rfl (lv_at hl 0 rfl) ?_
  obtain ⟨q4, hcq4, h⟩ := hb_some h
  refine gdV_i (As := [.ref (b a1), va_rf (Option.map b r1)]) (rest := []) (BH := (fun (u : Unit) H => va_P (dC, dI) vwCl (hW N ca b I O J) H)) X hP hS (c_X3_draftFeet hN hA I O J t0 a1 r1 hk_t0 hk_a1 q4 hcq4) (cwV 2 X.ts gX3_fly_X3_draftFeet rfl rfl rfl (by decide +kernel) ⟨Nat.le_of_ble_eq_true rfl, Nat.le_of_ble_eq_true rfl⟩) (gr3 X hP hk_t0 (sk_in hN hk_t0 (by decide))) rfl hl.1 rfl (Nat.le_of_ble_eq_true rfl) dX3_fly_9 ⟨Nat.le_of_ble_eq_true rfl, Nat.le_of_ble_eq_true rfl⟩ (fun r3 u9 H locs hw hP hS => ?_)
  have hw := hw.symm
  subst hw
  refine lv_istore_n (i := 3) (lv' := [(3, .int r3), (2, va_rf (Option.map b r1)), (0, .ref (b t0)), (1, .ref (b a1))]) hx hb dX3_fly_12 rfl hl (by decide) (by simp [va_rf_cat, cat_ref, cat_int]) (fun ls hl => ?_)
  refine lv_iload_n hx hb dX3_fly_13 rfl (lv_at hl 0 rfl) ?_
  obtain ⟨I5, hv, h⟩ := hb_some h
  have K27 : ∀ (H : Heap) (locs : List Loc) (ls : Array Slot), va_P (dC, dI) vwCl (hW N ca b I5 O J) H → va_S A s.heap H locs → lv_has ls 6 [(0, .ref (b t0)), (1, .ref (b a1)), (2, va_rf (Option.map b r1)), (3, .int r3)] → W p l e (headSpec wsX3_fly ({ frames := 2, cells := 0, slots := 0, locals := 51 } : Room)).room s m ([.ref (b t0), .ref (b a1)] : List Value).toArray below meth c H locs 0 0 (MQ below (va_Qv (fun (u : Nat → Nat → Int32) => res = u) (fun (u : Nat → Nat → Int32) t => va_P (dC, dI) vwCl (hW N ca b u O J) t.heap) A) ([.ref (b t0), .ref (b a1)] : List Value).toArray s 0 0 A) (F0 m 27 ls []) := by
    intro H locs ls hP hS hl
    refine lv_aload_n hx hb dX3_fly_27 rfl (lv_at hl 0 rfl) ?_
    refine lv_aload_n hx hb dX3_fly_28 rfl (lv_at hl 1 rfl) ?_
    obtain ⟨q7, hcq7, h⟩ := hb_some h
    refine gdV_i (As := [.ref (b a1)]) (rest := []) (BH := (fun (u : Unit) H => va_P (dC, dI) vwCl (hW N ca b I5 O J) H)) X hP hS (c_X3_allowedFeet hN hA I5 O J t0 a1 hk_t0 hk_a1 q7 hcq7) (cwV 1 X.ts gX3_fly_X3_allowedFeet rfl rfl rfl (by decide +kernel) ⟨Nat.le_of_ble_eq_true rfl, Nat.le_of_ble_eq_true rfl⟩) (gr3 X hP hk_t0 (sk_in hN hk_t0 (by decide))) rfl hl.1 rfl (Nat.le_of_ble_eq_true rfl) dX3_fly_29 ⟨Nat.le_of_ble_eq_true rfl, Nat.le_of_ble_eq_true rfl⟩ (fun r6 u9 H locs hw hP hS => ?_)
    have hw := hw.symm
    subst hw
    refine lv_iload_n hx hb dX3_fly_32 rfl (lv_at hl 3 rfl) ?_
    refine lv_iadd hx hb dX3_fly_33 ?_
    refine lv_istore (lv' := [(4, .int (r6 + r3)), (0, .ref (b t0)), (1, .ref (b a1)), (2, va_rf (Option.map b r1)), (3, .int r3)]) hx hb dX3_fly_34 hl (by decide) rfl (fun ls hl => ?_)
    refine gv_aload_n (r := Option.map b r1) hx hb dX3_fly_36 rfl (lv_at hl 3 rfl) ?_
    obtain ⟨⟨p8, I9⟩, hv, h⟩ := hb_some h
    have K86 : ∀ (H : Heap) (locs : List Loc) (ls : Array Slot), va_P (dC, dI) vwCl (hW N ca b I9 O J) H → va_S A s.heap H locs → lv_has ls 6 [(0, .ref (b t0)), (1, .ref (b a1)), (2, va_rf (Option.map b p8)), (3, .int r3), (4, .int (r6 + r3))] → W p l e (headSpec wsX3_fly ({ frames := 2, cells := 0, slots := 0, locals := 51 } : Room)).room s m ([.ref (b t0), .ref (b a1)] : List Value).toArray below meth c H locs 0 0 (MQ below (va_Qv (fun (u : Nat → Nat → Int32) => res = u) (fun (u : Nat → Nat → Int32) t => va_P (dC, dI) vwCl (hW N ca b u O J) t.heap) A) ([.ref (b t0), .ref (b a1)] : List Value).toArray s 0 0 A) (F0 m 86 ls []) := by
      intro H locs ls hP hS hl
      refine gv_aload_n (r := Option.map b p8) hx hb dX3_fly_86 rfl (lv_at hl 2 rfl) ?_
      obtain ⟨p10, hv, h⟩ := hb_some h
      have K115 : ∀ (H : Heap) (locs : List Loc) (ls : Array Slot), va_P (dC, dI) vwCl (hW N ca b I9 O J) H → va_S A s.heap H locs → lv_has ls 6 [(0, .ref (b t0)), (1, .ref (b a1)), (3, .int r3), (4, .int p10)] → W p l e (headSpec wsX3_fly ({ frames := 2, cells := 0, slots := 0, locals := 51 } : Room)).room s m ([.ref (b t0), .ref (b a1)] : List Value).toArray below meth c H locs 0 0 (MQ below (va_Qv (fun (u : Nat → Nat → Int32) => res = u) (fun (u : Nat → Nat → Int32) t => va_P (dC, dI) vwCl (hW N ca b u O J) t.heap) A) ([.ref (b t0), .ref (b a1)] : List Value).toArray s 0 0 A) (F0 m 115 ls []) := by
        intro H locs ls hP hS hl
        refine lv_aload_n hx hb dX3_fly_115 rfl (lv_at hl 1 rfl) ?_
        refine lv_iload hx hb dX3_fly_116 (lv_at hl 3 rfl) ?_
        refine lv_iload_n hx hb dX3_fly_118 rfl (lv_at hl 2 rfl) ?_
        obtain ⟨p11, hv, h⟩ := hb_some h
        have K127 : ∀ (H : Heap) (locs : List Loc) (ls : Array Slot), va_P (dC, dI) vwCl (hW N ca b I9 O J) H → va_S A s.heap H locs → lv_has ls 6 [(0, .ref (b t0)), (1, .ref (b a1))] → W p l e (headSpec wsX3_fly ({ frames := 2, cells := 0, slots := 0, locals := 51 } : Room)).room s m ([.ref (b t0), .ref (b a1)] : List Value).toArray below meth c H locs 0 0 (MQ below (va_Qv (fun (u : Nat → Nat → Int32) => res = u) (fun (u : Nat → Nat → Int32) t => va_P (dC, dI) vwCl (hW N ca b u O J) t.heap) A) ([.ref (b t0), .ref (b a1)] : List Value).toArray s 0 0 A) (F0 m 127 ls [.int p11, .int p10, .ref (b a1)]) := by
          intro H locs ls hP hS hl
          obtain ⟨q14, hcq14, h⟩ := hb_some h
          refine gdV_i (As := [.int p10, .int p11]) (rest := []) (BH := (fun (u : Nat → Nat → Int32) H => va_P (dC, dI) vwCl (hW N ca b u O J) H)) X hP hS (c_X6_flyWithStrength hN hA I9 O J a1 p10 p11 hk_a1 q14 hcq14) (cwV 2 X.ts gX3_fly_X6_flyWithStrength rfl rfl rfl (by decide +kernel) ⟨Nat.le_of_ble_eq_true rfl, Nat.le_of_ble_eq_true rfl⟩) (gr6 X hP hk_a1 (sk_in hN hk_a1 (by decide))) rfl hl.1 rfl (Nat.le_of_ble_eq_true rfl) dX3_fly_127 ⟨Nat.le_of_ble_eq_true rfl, Nat.le_of_ble_eq_true rfl⟩ (fun r13 I12 H locs hw hP hS => ?_)
          subst hw
          refine lv_istore (lv' := [(4, .int r13), (0, .ref (b t0)), (1, .ref (b a1))]) hx hb dX3_fly_130 hl (by decide) rfl (fun ls hl => ?_)
          refine lv_iload hx hb dX3_fly_132 (lv_at hl 0 rfl) ?_
          refine lv_bipush (v := 15) hx hb dX3_fly_134 (by decide) ?_
          obtain ⟨I15, hv, h⟩ := hb_some h
          have K158 : ∀ (H : Heap) (locs : List Loc) (ls : Array Slot), va_P (dC, dI) vwCl (hW N ca b I15 O J) H → va_S A s.heap H locs → lv_has ls 6 [(0, .ref (b t0)), (1, .ref (b a1)), (4, .int r13)] → W p l e (headSpec wsX3_fly ({ frames := 2, cells := 0, slots := 0, locals := 51 } : Room)).room s m ([.ref (b t0), .ref (b a1)] : List Value).toArray below meth c H locs 0 0 (MQ below (va_Qv (fun (u : Nat → Nat → Int32) => res = u) (fun (u : Nat → Nat → Int32) t => va_P (dC, dI) vwCl (hW N ca b u O J) t.heap) A) ([.ref (b t0), .ref (b a1)] : List Value).toArray s 0 0 A) (F0 m 158 ls []) := by
            intro H locs ls hP hS hl
            refine lv_aload_n hx hb dX3_fly_158 rfl (lv_at hl 0 rfl) ?_
            refine lv_aload_n hx hb dX3_fly_159 rfl (lv_at hl 1 rfl) ?_
            refine lv_iload hx hb dX3_fly_160 (lv_at hl 2 rfl) ?_
            obtain ⟨q17, hcq17, h⟩ := hb_some h
            refine gdV_v (As := [.ref (b a1), .int r13]) (rest := []) (BH := (fun (u : Nat → Nat → Int32) H => va_P (dC, dI) vwCl (hW N ca b u O J) H)) X hP hS (c_X3_flyOn hN hA I15 O J t0 a1 r13 hk_t0 hk_a1 q17 hcq17) (cwV 2 X.ts gX3_fly_X3_flyOn rfl rfl rfl (by decide +kernel) ⟨Nat.le_of_ble_eq_true rfl, Nat.le_of_ble_eq_true rfl⟩) (gr3 X hP hk_t0 (sk_in hN hk_t0 (by decide))) rfl hl.1 rfl (Nat.le_of_ble_eq_true rfl) dX3_fly_162 ⟨Nat.le_of_ble_eq_true rfl, Nat.le_of_ble_eq_true rfl⟩ (fun I16 H locs hw hP hS => ?_)
            have hw := hw.symm
            subst hw
            exact W.vret hx hb hr (fun t9 ht hW => ⟨⟨I16, rfl, (Option.some.inj h).symm, gEnd ht hP⟩, hS.F ht⟩) hS.2.2 dX3_fly_165 hlk
          have h := hv
          refine lv_icmp_lt (tgt := 158) hx hb dX3_fly_136 (by decide) (fun c20 => ?_) (fun c20 => ?_)
          · have h := gif_t c20 h
            cases h
            exact K158 _ _ _ hP hS (lv_sub hl [1, 2, 0] rfl)
          · have h := gif_f c20 h
            refine lv_aload_n hx hb dX3_fly_139 rfl (lv_at hl 2 rfl) ?_
            refine gg6_7 X hP hk_a1 (sk_in hN hk_a1 (by decide)) hi6 (List.mem_of_getElem? (i := 4) rfl) dX3_fly_140 ?_
            refine lv_bipush (v := 100) hx hb dX3_fly_143 (by decide) ?_
            refine lv_icmp_ge (tgt := 158) hx hb dX3_fly_145 (by decide) (fun c19 => ?_) (fun c19 => ?_)
            · have h := gif_t c19 h
              cases h
              exact K158 _ _ _ hP hS (lv_sub hl [1, 2, 0] rfl)
            · have h := gif_f c19 h
              refine lv_aload_n hx hb dX3_fly_148 rfl (lv_at hl 2 rfl) ?_
              refine lv_dup hx hb dX3_fly_149 rfl ?_
              refine gg6_7 X hP hk_a1 (sk_in hN hk_a1 (by decide)) hi6 (List.mem_of_getElem? (i := 4) rfl) dX3_fly_150 ?_
              refine lv_iconst (v := 1) hx hb dX3_fly_153 (by decide) ?_
              refine lv_iadd hx hb dX3_fly_154 ?_
              refine gp6_7 X hP hS hk_a1 (sk_in hN hk_a1 (by decide)) hi6 (List.mem_of_getElem? (i := 4) rfl) dX3_fly_155 (fun H locs hP hS => ?_)
              obtain ⟨I18, eI18, h⟩ := hlet_ex h
              rw [← eI18] at hP
              cases h
              exact K158 _ _ _ hP hS (lv_sub hl [1, 2, 0] rfl)
        have h := hv
        refine lv_if_le (tgt := 126) hx hb dX3_fly_119 (by decide) (fun c21 => ?_) (fun c21 => ?_)
        · have h := gif_t c21 h
          refine lv_iconst (v := 0) hx hb dX3_fly_126 (by decide) ?_
          cases h
          exact K127 _ _ _ hP hS (lv_sub hl [0, 1] rfl)
        · have h := gif_f c21 h
          refine lv_iconst (v := 1) hx hb dX3_fly_122 (by decide) ?_
          refine lv_goto (tgt := 127) hx hb dX3_fly_123 (by decide) ?_
          cases h
          exact K127 _ _ _ hP hS (lv_sub hl [0, 1] rfl)
      have h := hv
      cases p8 with
      | none =>
        have h := hopt_n h
        refine lv_ifnullN (tgt := 115) hx hb dX3_fly_87 (by decide) ?_
        cases h
        exact K115 _ _ _ hP hS (lv_sub hl [0, 1, 3, 4] rfl)
      | some n22 =>
        obtain ⟨hk_n22, h⟩ := hk_some (hopt_s h)
        refine lv_ifnull hx hb dX3_fly_87 ?_
        refine lv_aload_n hx hb dX3_fly_90 rfl (lv_at hl 1 rfl) ?_
        refine lv_aload_n hx hb dX3_fly_91 rfl (lv_at hl 2 rfl) ?_
        obtain ⟨q24, hcq24, h⟩ := hb_some h
        refine gdV_i (As := [.ref (b n22)]) (rest := []) (BH := (fun (u : Unit) H => va_P (dC, dI) vwCl (hW N ca b I9 O J) H)) X hP hS (c_X6_feetBehind hN hA I9 O J a1 n22 hk_a1 hk_n22 q24 hcq24) (cwV 1 X.ts gX3_fly_X6_feetBehind rfl rfl rfl (by decide +kernel) ⟨Nat.le_of_ble_eq_true rfl, Nat.le_of_ble_eq_true rfl⟩) (gr6 X hP hk_a1 (sk_in hN hk_a1 (by decide))) rfl hl.1 rfl (Nat.le_of_ble_eq_true rfl) dX3_fly_92 ⟨Nat.le_of_ble_eq_true rfl, Nat.le_of_ble_eq_true rfl⟩ (fun r23 u9 H locs hw hP hS => ?_)
        have hw := hw.symm
        subst hw
        refine lv_iconst (v := 1) hx hb dX3_fly_95 (by decide) ?_
        refine lv_isub hx hb dX3_fly_96 ?_
        refine lv_istore (lv' := [(5, .int (r23 - (1 : Int32))), (0, .ref (b t0)), (1, .ref (b a1)), (2, .ref (b n22)), (3, .int r3), (4, .int (r6 + r3))]) hx hb dX3_fly_97 hl (by decide) rfl (fun ls hl => ?_)
        refine lv_iload hx hb dX3_fly_99 (lv_at hl 0 rfl) ?_
        refine lv_iload hx hb dX3_fly_101 (lv_at hl 5 rfl) ?_
        obtain ⟨p25, hv, h⟩ := hb_some h
        have K113 : ∀ (H : Heap) (locs : List Loc) (ls : Array Slot), va_P (dC, dI) vwCl (hW N ca b I9 O J) H → va_S A s.heap H locs → lv_has ls 6 [(0, .ref (b t0)), (1, .ref (b a1)), (3, .int r3)] → W p l e (headSpec wsX3_fly ({ frames := 2, cells := 0, slots := 0, locals := 51 } : Room)).room s m ([.ref (b t0), .ref (b a1)] : List Value).toArray below meth c H locs 0 0 (MQ below (va_Qv (fun (u : Nat → Nat → Int32) => res = u) (fun (u : Nat → Nat → Int32) t => va_P (dC, dI) vwCl (hW N ca b u O J) t.heap) A) ([.ref (b t0), .ref (b a1)] : List Value).toArray s 0 0 A) (F0 m 113 ls [.int p25]) := by
          intro H locs ls hP hS hl
          refine lv_istore (lv' := [(4, .int p25), (0, .ref (b t0)), (1, .ref (b a1)), (3, .int r3)]) hx hb dX3_fly_113 hl (by decide) rfl (fun ls hl => ?_)
          cases h
          exact K115 _ _ _ hP hS (lv_sub hl [1, 2, 3, 0] rfl)
        have h := hv
        refine lv_icmp_ge (tgt := 111) hx hb dX3_fly_103 (by decide) (fun c26 => ?_) (fun c26 => ?_)
        · have h := gif_t c26 h
          refine lv_iload hx hb dX3_fly_111 (lv_at hl 5 rfl) ?_
          cases h
          exact K113 _ _ _ hP hS (lv_sub hl [1, 2, 4] rfl)
        · have h := gif_f c26 h
          refine lv_iload hx hb dX3_fly_106 (lv_at hl 0 rfl) ?_
          refine lv_goto (tgt := 113) hx hb dX3_fly_108 (by decide) ?_
          cases h
          exact K113 _ _ _ hP hS (lv_sub hl [1, 2, 4] rfl)
    have h := hv
    cases r1 with
    | none =>
      have h := hopt_n h
      refine lv_ifnullN (tgt := 86) hx hb dX3_fly_37 (by decide) ?_
      cases h
      exact K86 _ _ _ hP hS (lv_sub hl [1, 2, 3, 4, 0] rfl)
    | some n27 =>
      obtain ⟨hk_n27, h⟩ := hk_some (hopt_s h)
      refine lv_ifnull hx hb dX3_fly_37 ?_
      refine lv_iload hx hb dX3_fly_40 (lv_at hl 0 rfl) ?_
      refine lv_aload_n hx hb dX3_fly_42 rfl (lv_at hl 2 rfl) ?_
      refine lv_aload_n hx hb dX3_fly_43 rfl (lv_at hl 3 rfl) ?_
      obtain ⟨q29, hcq29, h⟩ := hb_some h
      refine gdV_i (As := [.ref (b n27)]) (rest := [.int (r6 + r3)]) (BH := (fun (u : Unit) H => va_P (dC, dI) vwCl (hW N ca b I5 O J) H)) X hP hS (c_X6_feetBehind hN hA I5 O J a1 n27 hk_a1 hk_n27 q29 hcq29) (cwV 1 X.ts gX3_fly_X6_feetBehind rfl rfl rfl (by decide +kernel) ⟨Nat.le_of_ble_eq_true rfl, Nat.le_of_ble_eq_true rfl⟩) (gr6 X hP hk_a1 (sk_in hN hk_a1 (by decide))) rfl hl.1 rfl (Nat.le_of_ble_eq_true rfl) dX3_fly_44 ⟨Nat.le_of_ble_eq_true rfl, Nat.le_of_ble_eq_true rfl⟩ (fun r28 u9 H locs hw hP hS => ?_)
      have hw := hw.symm
      subst hw
      refine lv_iconst (v := 1) hx hb dX3_fly_47 (by decide) ?_
      refine lv_isub hx hb dX3_fly_48 ?_
      refine lv_icmp_lt (tgt := 86) hx hb dX3_fly_49 (by decide) (fun c37 => ?_) (fun c37 => ?_)
      · have h := gif_t c37 h
        cases h
        exact K86 _ _ _ hP hS (lv_sub hl [1, 2, 3, 4, 0] rfl)
      · have h := gif_f c37 h
        refine lv_aload_n hx hb dX3_fly_52 rfl (lv_at hl 1 rfl) ?_
        refine lv_aload_n hx hb dX3_fly_53 rfl (lv_at hl 2 rfl) ?_
        obtain ⟨q31, hcq31, h⟩ := hb_some h
        refine gdV_i (As := [.ref (b a1)]) (rest := []) (BH := (fun (u : Unit) H => va_P (dC, dI) vwCl (hW N ca b I5 O J) H)) X hP hS (c_X3_mayChangeLane hN hA I5 O J t0 a1 hk_t0 hk_a1 q31 hcq31) (cwV 1 X.ts gX3_fly_X3_mayChangeLane rfl rfl rfl (by decide +kernel) ⟨Nat.le_of_ble_eq_true rfl, Nat.le_of_ble_eq_true rfl⟩) (gr3 X hP hk_t0 (sk_in hN hk_t0 (by decide))) rfl hl.1 rfl (Nat.le_of_ble_eq_true rfl) dX3_fly_54 ⟨Nat.le_of_ble_eq_true rfl, Nat.le_of_ble_eq_true rfl⟩ (fun r30 u9 H locs hw hP hS => ?_)
        have hw := hw.symm
        subst hw
        refine lv_if_eq (tgt := 86) hx hb dX3_fly_57 (by decide) (fun c36 => ?_) (fun c36 => ?_)
        · have h := gif_t c36 h
          cases h
          exact K86 _ _ _ hP hS (lv_sub hl [1, 2, 3, 4, 0] rfl)
        · have h := gif_f c36 h
          refine lv_aload_n hx hb dX3_fly_60 rfl (lv_at hl 2 rfl) ?_
          refine lv_iconst (v := 1) hx hb dX3_fly_61 (by decide) ?_
          refine lv_aload_n hx hb dX3_fly_62 rfl (lv_at hl 2 rfl) ?_
          refine gg6_8 X hP hk_a1 (sk_in hN hk_a1 (by decide)) hi6 (List.mem_of_getElem? (i := 2) rfl) dX3_fly_63 ?_
          refine lv_isub hx hb dX3_fly_66 ?_
          refine gp6_8 X hP hS hk_a1 (sk_in hN hk_a1 (by decide)) hi6 (List.mem_of_getElem? (i := 2) rfl) dX3_fly_67 (fun H locs hP hS => ?_)
          obtain ⟨I32, eI32, h⟩ := hlet_ex h
          rw [← eI32] at hP
          refine lv_aload_n hx hb dX3_fly_70 rfl (lv_at hl 1 rfl) ?_
          refine lv_dup hx hb dX3_fly_71 rfl ?_
          refine gg3_10 X hP hk_t0 (sk_in hN hk_t0 (by decide)) hi3 (List.mem_of_getElem? (i := 3) rfl) dX3_fly_72 ?_
          refine lv_iconst (v := 1) hx hb dX3_fly_75 (by decide) ?_
          refine lv_iadd hx hb dX3_fly_76 ?_
          refine gp3_10 X hP hS hk_t0 (sk_in hN hk_t0 (by decide)) hi3 (List.mem_of_getElem? (i := 3) rfl) dX3_fly_77 (fun H locs hP hS => ?_)
          obtain ⟨I33, eI33, h⟩ := hlet_ex h
          rw [← eI33] at hP
          refine lv_aload_n hx hb dX3_fly_80 rfl (lv_at hl 1 rfl) ?_
          refine lv_aload_n hx hb dX3_fly_81 rfl (lv_at hl 2 rfl) ?_
          obtain ⟨q35, hcq35, h⟩ := hb_some h
          refine gdV_q (As := [.ref (b a1)]) (rest := []) (BH := (fun (u : Unit) H => va_P (dC, dI) vwCl (hW N ca b I33 O J) H)) X hP hS (c_X3_nextAhead hN hA I33 O J t0 a1 hk_t0 hk_a1 q35 hcq35) (cwV 1 X.ts gX3_fly_X3_nextAhead rfl rfl rfl (by decide +kernel) ⟨Nat.le_of_ble_eq_true rfl, Nat.le_of_ble_eq_true rfl⟩) (gr3 X hP hk_t0 (sk_in hN hk_t0 (by decide))) rfl hl.1 rfl (Nat.le_of_ble_eq_true rfl) dX3_fly_82 ⟨Nat.le_of_ble_eq_true rfl, Nat.le_of_ble_eq_true rfl⟩ (fun r34 u9 H locs hw hP hS => ?_)
          obtain ⟨r34, rfl, hw⟩ := hw
          have hw := hw.symm
          subst hw
          refine gv_astore_n (r := Option.map b r34) (lv' := [(2, va_rf (Option.map b r34)), (4, .int (r6 + r3)), (0, .ref (b t0)), (1, .ref (b a1)), (3, .int r3)]) hx hb dX3_fly_85 rfl hl (by decide) rfl (fun ls hl => ?_)
          cases h
          exact K86 _ _ _ hP hS (lv_sub hl [2, 3, 0, 4, 1] rfl)
  have h := hv
  refine lv_if_le (tgt := 27) hx hb dX3_fly_14 (by decide) (fun c39 => ?_) (fun c39 => ?_)
  · have h := gif_t c39 h
    cases h
    exact K27 _ _ _ hP hS (lv_sub hl [2, 3, 1, 0] rfl)
  · have h := gif_f c39 h
    refine lv_aload_n hx hb dX3_fly_17 rfl (lv_at hl 2 rfl) ?_
    refine lv_dup hx hb dX3_fly_18 rfl ?_
    refine gg3_9 X hP hk_t0 (sk_in hN hk_t0 (by decide)) hi3 (List.mem_of_getElem? (i := 1) rfl) dX3_fly_19 ?_
    refine lv_iconst (v := 1) hx hb dX3_fly_22 (by decide) ?_
    refine lv_iadd hx hb dX3_fly_23 ?_
    refine gp3_9 X hP hS hk_t0 (sk_in hN hk_t0 (by decide)) hi3 (List.mem_of_getElem? (i := 1) rfl) dX3_fly_24 (fun H locs hP hS => ?_)
    obtain ⟨I38, eI38, h⟩ := hlet_ex h
    rw [← eI38] at hP
    cases h
    exact K27 _ _ _ hP hS (lv_sub hl [2, 3, 1, 0] rfl)
def f_X3_letGoBy_L30 (t0 : Nat) (O7 : Nat → Nat → Option Nat) : Nat → Int32 → (Nat → Nat → Int32) → Option (Nat → Nat → Int32)
  | 0, _, _ => none
  | fuel + 1, p9, I10 =>
    if (I10 t0 3) ≤ p9 then
      some I10
    else
      (f_X3_inOrder t0 p9 I10 O7).bind fun r16 =>
      (show Option (Nat → Nat → Int32) from
        hopt r16 (
          some I10) fun n20 => hk n20 6 <|
        (f_X6_startsTurnFlying n20 I10).bind fun (r22, I21) =>
        if r22 = 0 then
          some I21
        else
          (f_X3_fly t0 n20 I21).bind fun I24 =>
          some I24).bind fun I18 =>
      hlet (p9 + 1) fun x19 =>
      f_X3_letGoBy_L30 t0 O7 fuel x19 I18
def f_X3_letGoBy_L2 (t0 : Nat) (a1 : Int32) : Nat → Int32 → (Nat → Nat → Int32) → (Nat → Nat → Option Nat) → Option ((Nat → Nat → Int32) × (Nat → Nat → Option Nat))
  | 0, _, _, _ => none
  | fuel + 1, p1, I2, O3 =>
    if a1 ≤ p1 then
      some (I2, O3)
    else
      if (I2 t0 5) = 0 then
        some (I2, O3)
      else
        hlet (gup I2 t0 6 ((I2 t0 6) + (1 : Int32))) fun I6 =>
        (f_X3_putInOrder t0 I6 O3).bind fun O7 =>
        (f_X3_letGoBy_L30 t0 O7 FU (0 : Int32) I6).bind fun I11 =>
        (show Option (Int32) from
          if (I11 t0 3) ≤ (I11 t0 7) then
            some (0 : Int32)
          else
            some (1 : Int32)).bind fun p12 =>
        hg (gz p12) <|
        hlet (gup I11 t0 5 p12) fun I13 =>
        hlet (p1 + 1) fun x14 =>
        f_X3_letGoBy_L2 t0 a1 fuel x14 I13 O7
def f_X3_letGoBy (t0 : Nat) (a1 : Int32) (I : Nat → Nat → Int32) (O : Nat → Nat → Option Nat) : Option ((Nat → Nat → Int32) × (Nat → Nat → Option Nat)) :=
  (f_X3_letGoBy_L2 t0 a1 FU (0 : Int32) I O).bind fun (I4, O5) =>
  some (I4, O5)
set_option maxHeartbeats 8000000 in
set_option maxRecDepth 100000 in
theorem c_X3_letGoBy {l : Launch} {dC : Nat → ClassId} {dI : Nat → Nat → Nat} {ca : Nat → ClassId} {b : Nat → Nat} {A : Nat → Prop} {N : Nat} (hN : 129 ≤ N) (hA : gAd A b N) (I : Nat → Nat → Int32) (O : Nat → Nat → Option Nat) (J : Nat → Nat → Int64) (t0 : Nat) (a1 : Int32) (hk_t0 : SHK t0 = 3) (res : (Nat → Nat → Int32) × (Nat → Nat → Option Nat)) (h : f_X3_letGoBy t0 a1 I O = some res) : Met l yX3_letGoBy wsX3_letGoBy ({ frames := 3, cells := 0, slots := 0, locals := 76 } : Room) (va_Pc [.ref (b t0), .int a1] (gPre dC dI ca b A N I O J)) (va_Qv (fun (u : (Nat → Nat → Int32) × (Nat → Nat → Option Nat)) => res = u) (fun (u : (Nat → Nat → Int32) × (Nat → Nat → Option Nat)) t => va_P (dC, dI) vwCl (hW N ca b u.1 u.2 J) t.heap) A) 0 0 A := by
  refine Met.ofW (cc := cX3_letGoBy) (maxL := 5) (ret := none) (by decide) rfl ?_
  intro p e s m args below meth c s₁ B hml hv
  obtain ⟨rfl, hP, hK, hA2, hth⟩ := hv
  have hx := B.exec
  have hb := B.bytes
  have hr := B.returns
  have hlk := B.notSynchronized
  have X : gCx p s m ([.ref (b t0), .int a1] : List Value).toArray c RX3 cX3_letGoBy wsX3_letGoBy 5 dC dI ca b A N := ⟨hx, hb, hml, findClass_of_methodNamed B.named, atoms_spec (ws := wsX3_letGoBy) B.pre, hK, hA, hA2, hth⟩
  have hi3 : ∀ w ∈ wsX30, w ∈ wsX3_letGoBy := (fun w h => List.mem_cons_of_mem _ (List.mem_append_left _ (List.mem_append_right _ h)))
  have hS : va_S A s.heap s.heap [] := va_S.rf
  have hl := lv_entry ([.ref (b t0), .int a1] : List Value) (n := 5) (Nat.le_of_ble_eq_true rfl)
  rw [lg_entry_eq]
  generalize (lg_sl ([.ref (b t0), .int a1] : List Value) ++ List.replicate (5 - (lg_sl ([.ref (b t0), .int a1] : List Value)).length) Slot.unset).toArray = ls at hl ⊢
  have hl : lv_has ls 5 [(0, .ref (b t0)), (1, .int a1)] := hl
  unfold f_X3_letGoBy at h
  refine lv_iconst (v := 0) hx hb dX3_letGoBy_0 (by decide) ?_
  refine lv_istore_n (lv' := [(2, .int (0 : Int32)), (0, .ref (b t0)), (1, .int a1)]) hx hb dX3_letGoBy_1 rfl hl (by decide) rfl (fun ls hl => ?_)
  obtain ⟨⟨I4, O5⟩, hv, h⟩ := hb_some h
  have K96 : ∀ (H : Heap) (locs : List Loc) (ls : Array Slot), va_P (dC, dI) vwCl (hW N ca b I4 O5 J) H → va_S A s.heap H locs → lv_has ls 5 [] → W p l e (headSpec wsX3_letGoBy ({ frames := 3, cells := 0, slots := 0, locals := 76 } : Room)).room s m ([.ref (b t0), .int a1] : List Value).toArray below meth c H locs 0 0 (MQ below (va_Qv (fun (u : (Nat → Nat → Int32) × (Nat → Nat → Option Nat)) => res = u) (fun (u : (Nat → Nat → Int32) × (Nat → Nat → Option Nat)) t => va_P (dC, dI) vwCl (hW N ca b u.1 u.2 J) t.heap) A) ([.ref (b t0), .int a1] : List Value).toArray s 0 0 A) (F0 m 96 ls []) := by
    intro H locs ls hP hS hl
    exact W.vret hx hb hr (fun t9 ht hW => ⟨⟨(I4, O5), rfl, (Option.some.inj h).symm, gEnd ht hP⟩, hS.F ht⟩) hS.2.2 dX3_letGoBy_96 hlk
  have hL2 : ∀ (fuel : Nat) (p1 : Int32) (I2 : Nat → Nat → Int32) (O3 : Nat → Nat → Option Nat) (H : Heap) (locs : List Loc) (ls : Array Slot), f_X3_letGoBy_L2 t0 a1 fuel p1 I2 O3 = some (I4, O5) → va_P (dC, dI) vwCl (hW N ca b I2 O3 J) H → va_S A s.heap H locs → lv_has ls 5 [(0, .ref (b t0)), (1, .int a1), (2, .int p1)] → W p l e (headSpec wsX3_letGoBy ({ frames := 3, cells := 0, slots := 0, locals := 76 } : Room)).room s m ([.ref (b t0), .int a1] : List Value).toArray below meth c H locs 0 0 (MQ below (va_Qv (fun (u : (Nat → Nat → Int32) × (Nat → Nat → Option Nat)) => res = u) (fun (u : (Nat → Nat → Int32) × (Nat → Nat → Option Nat)) t => va_P (dC, dI) vwCl (hW N ca b u.1 u.2 J) t.heap) A) ([.ref (b t0), .int a1] : List Value).toArray s 0 0 A) (F0 m 2 ls []) := by
    intro fuel
    induction fuel with
    | zero =>
      intro p1 I2 O3 H locs ls h hP hS hl
      rw [f_X3_letGoBy_L2] at h
      cases h
    | succ fuel ih =>
      intro p1 I2 O3 H locs ls h hP hS hl
      rw [f_X3_letGoBy_L2] at h
      refine lv_iload_n hx hb dX3_letGoBy_2 rfl (lv_at hl 2 rfl) ?_
      refine lv_iload_n hx hb dX3_letGoBy_3 rfl (lv_at hl 1 rfl) ?_
      refine lv_icmp_ge (tgt := 96) hx hb dX3_letGoBy_4 (by decide) (fun c29 => ?_) (fun c29 => ?_)
      · have h := gif_t c29 h
        cases h
        exact K96 _ _ _ hP hS (lv_sub hl [] rfl)
      · have h := gif_f c29 h
        refine lv_aload_n hx hb dX3_letGoBy_7 rfl (lv_at hl 0 rfl) ?_
        refine gg3_5 X hP hk_t0 (sk_in hN hk_t0 (by decide)) hi3 (List.mem_of_getElem? (i := 1) rfl) dX3_letGoBy_8 ?_
        refine lv_if_eq (tgt := 96) hx hb dX3_letGoBy_11 (by decide) (fun c28 => ?_) (fun c28 => ?_)
        · have h := gif_t c28 h
          cases h
          exact K96 _ _ _ hP hS (lv_sub hl [] rfl)
        · have h := gif_f c28 h
          refine lv_aload_n hx hb dX3_letGoBy_14 rfl (lv_at hl 0 rfl) ?_
          refine lv_dup hx hb dX3_letGoBy_15 rfl ?_
          refine gg3_6 X hP hk_t0 (sk_in hN hk_t0 (by decide)) hi3 (List.mem_of_getElem? (i := 2) rfl) dX3_letGoBy_16 ?_
          refine lv_iconst (v := 1) hx hb dX3_letGoBy_19 (by decide) ?_
          refine lv_iadd hx hb dX3_letGoBy_20 ?_
          refine gp3_6 X hP hS hk_t0 (sk_in hN hk_t0 (by decide)) hi3 (List.mem_of_getElem? (i := 2) rfl) dX3_letGoBy_21 (fun H locs hP hS => ?_)
          obtain ⟨I6, eI6, h⟩ := hlet_ex h
          rw [← eI6] at hP
          refine lv_aload_n hx hb dX3_letGoBy_24 rfl (lv_at hl 0 rfl) ?_
          obtain ⟨q8, hcq8, h⟩ := hb_some h
          refine gdV_v (As := []) (rest := []) (BH := (fun (u : Nat → Nat → Option Nat) H => va_P (dC, dI) vwCl (hW N ca b I6 u J) H)) X hP hS (c_X3_putInOrder hN hA I6 O3 J t0 hk_t0 q8 hcq8) (cwV 0 X.ts gX3_letGoBy_X3_putInOrder rfl rfl rfl (by decide +kernel) ⟨Nat.le_of_ble_eq_true rfl, Nat.le_of_ble_eq_true rfl⟩) (gr3 X hP hk_t0 (sk_in hN hk_t0 (by decide))) rfl hl.1 rfl (Nat.le_of_ble_eq_true rfl) dX3_letGoBy_25 ⟨Nat.le_of_ble_eq_true rfl, Nat.le_of_ble_eq_true rfl⟩ (fun O7 H locs hw hP hS => ?_)
          have hw := hw.symm
          subst hw
          refine lv_iconst (v := 0) hx hb dX3_letGoBy_28 (by decide) ?_
          refine lv_istore_n (lv' := [(3, .int (0 : Int32)), (0, .ref (b t0)), (1, .int a1), (2, .int p1)]) hx hb dX3_letGoBy_29 rfl hl (by decide) rfl (fun ls hl => ?_)
          obtain ⟨I11, hv, h⟩ := hb_some h
          have K70 : ∀ (H : Heap) (locs : List Loc) (ls : Array Slot), va_P (dC, dI) vwCl (hW N ca b I11 O7 J) H → va_S A s.heap H locs → lv_has ls 5 [(0, .ref (b t0)), (1, .int a1), (2, .int p1)] → W p l e (headSpec wsX3_letGoBy ({ frames := 3, cells := 0, slots := 0, locals := 76 } : Room)).room s m ([.ref (b t0), .int a1] : List Value).toArray below meth c H locs 0 0 (MQ below (va_Qv (fun (u : (Nat → Nat → Int32) × (Nat → Nat → Option Nat)) => res = u) (fun (u : (Nat → Nat → Int32) × (Nat → Nat → Option Nat)) t => va_P (dC, dI) vwCl (hW N ca b u.1 u.2 J) t.heap) A) ([.ref (b t0), .int a1] : List Value).toArray s 0 0 A) (F0 m 70 ls []) := by
            intro H locs ls hP hS hl
            refine lv_aload_n hx hb dX3_letGoBy_70 rfl (lv_at hl 0 rfl) ?_
            refine lv_aload_n hx hb dX3_letGoBy_71 rfl (lv_at hl 0 rfl) ?_
            refine gg3_7 X hP hk_t0 (sk_in hN hk_t0 (by decide)) hi3 (List.mem_of_getElem? (i := 4) rfl) dX3_letGoBy_72 ?_
            refine lv_aload_n hx hb dX3_letGoBy_75 rfl (lv_at hl 0 rfl) ?_
            refine gg3_3 X hP hk_t0 (sk_in hN hk_t0 (by decide)) hi3 (List.mem_of_getElem? (i := 3) rfl) dX3_letGoBy_76 ?_
            obtain ⟨p12, hv, h⟩ := hb_some h
            have K87 : ∀ (H : Heap) (locs : List Loc) (ls : Array Slot), va_P (dC, dI) vwCl (hW N ca b I11 O7 J) H → va_S A s.heap H locs → lv_has ls 5 [(0, .ref (b t0)), (1, .int a1), (2, .int p1)] → W p l e (headSpec wsX3_letGoBy ({ frames := 3, cells := 0, slots := 0, locals := 76 } : Room)).room s m ([.ref (b t0), .int a1] : List Value).toArray below meth c H locs 0 0 (MQ below (va_Qv (fun (u : (Nat → Nat → Int32) × (Nat → Nat → Option Nat)) => res = u) (fun (u : (Nat → Nat → Int32) × (Nat → Nat → Option Nat)) t => va_P (dC, dI) vwCl (hW N ca b u.1 u.2 J) t.heap) A) ([.ref (b t0), .int a1] : List Value).toArray s 0 0 A) (F0 m 87 ls [.int p12, .ref (b t0)]) := by
              intro H locs ls hP hS hl
              obtain ⟨hgv, h⟩ := hg_some h
              refine gp3_5 X hP hS hk_t0 (sk_in hN hk_t0 (by decide)) hi3 (List.mem_of_getElem? (i := 1) rfl) hgv dX3_letGoBy_87 (fun H locs hP hS => ?_)
              obtain ⟨I13, eI13, h⟩ := hlet_ex h
              rw [← eI13] at hP
              obtain ⟨x14, ex14, h⟩ := hlet_ex h
              refine lv_iinc (v := x14) (lv' := [(2, .int x14), (0, .ref (b t0)), (1, .int a1)]) hx hb dX3_letGoBy_90 hl (k := 2) rfl (by rw [ex14]; rfl) (by decide) rfl (fun ls hl => ?_)
              refine lv_goto (tgt := 2) hx hb dX3_letGoBy_93 (by decide) ?_
              exact ih _ _ _ _ _ _ h hP hS (lv_sub hl [1, 2, 0] rfl)
            have h := hv
            refine lv_icmp_ge (tgt := 86) hx hb dX3_letGoBy_79 (by decide) (fun c15 => ?_) (fun c15 => ?_)
            · have h := gif_t c15 h
              refine lv_iconst (v := 0) hx hb dX3_letGoBy_86 (by decide) ?_
              cases h
              exact K87 _ _ _ hP hS (lv_sub hl [0, 1, 2] rfl)
            · have h := gif_f c15 h
              refine lv_iconst (v := 1) hx hb dX3_letGoBy_82 (by decide) ?_
              refine lv_goto (tgt := 87) hx hb dX3_letGoBy_83 (by decide) ?_
              cases h
              exact K87 _ _ _ hP hS (lv_sub hl [0, 1, 2] rfl)
          have hL30 : ∀ (fuel : Nat) (p9 : Int32) (I10 : Nat → Nat → Int32) (H : Heap) (locs : List Loc) (ls : Array Slot), f_X3_letGoBy_L30 t0 O7 fuel p9 I10 = some I11 → va_P (dC, dI) vwCl (hW N ca b I10 O7 J) H → va_S A s.heap H locs → lv_has ls 5 [(0, .ref (b t0)), (1, .int a1), (2, .int p1), (3, .int p9)] → W p l e (headSpec wsX3_letGoBy ({ frames := 3, cells := 0, slots := 0, locals := 76 } : Room)).room s m ([.ref (b t0), .int a1] : List Value).toArray below meth c H locs 0 0 (MQ below (va_Qv (fun (u : (Nat → Nat → Int32) × (Nat → Nat → Option Nat)) => res = u) (fun (u : (Nat → Nat → Int32) × (Nat → Nat → Option Nat)) t => va_P (dC, dI) vwCl (hW N ca b u.1 u.2 J) t.heap) A) ([.ref (b t0), .int a1] : List Value).toArray s 0 0 A) (F0 m 30 ls []) := by
            intro fuel
            induction fuel with
            | zero =>
              intro p9 I10 H locs ls h hP hS hl
              rw [f_X3_letGoBy_L30] at h
              cases h
            | succ fuel ih =>
              intro p9 I10 H locs ls h hP hS hl
              rw [f_X3_letGoBy_L30] at h
              refine lv_iload_n hx hb dX3_letGoBy_30 rfl (lv_at hl 3 rfl) ?_
              refine lv_aload_n hx hb dX3_letGoBy_31 rfl (lv_at hl 0 rfl) ?_
              refine gg3_3 X hP hk_t0 (sk_in hN hk_t0 (by decide)) hi3 (List.mem_of_getElem? (i := 3) rfl) dX3_letGoBy_32 ?_
              refine lv_icmp_ge (tgt := 70) hx hb dX3_letGoBy_35 (by decide) (fun c27 => ?_) (fun c27 => ?_)
              · have h := gif_t c27 h
                cases h
                exact K70 _ _ _ hP hS (lv_sub hl [0, 1, 2] rfl)
              · have h := gif_f c27 h
                refine lv_aload_n hx hb dX3_letGoBy_38 rfl (lv_at hl 0 rfl) ?_
                refine lv_iload_n hx hb dX3_letGoBy_39 rfl (lv_at hl 3 rfl) ?_
                obtain ⟨q17, hcq17, h⟩ := hb_some h
                refine gdV_q (As := [.int p9]) (rest := []) (BH := (fun (u : Unit) H => va_P (dC, dI) vwCl (hW N ca b I10 O7 J) H)) X hP hS (c_X3_inOrder hN hA I10 O7 J t0 p9 hk_t0 q17 hcq17) (cwV 1 X.ts gX3_letGoBy_X3_inOrder rfl rfl rfl (by decide +kernel) ⟨Nat.le_of_ble_eq_true rfl, Nat.le_of_ble_eq_true rfl⟩) (gr3 X hP hk_t0 (sk_in hN hk_t0 (by decide))) rfl hl.1 rfl (Nat.le_of_ble_eq_true rfl) dX3_letGoBy_40 ⟨Nat.le_of_ble_eq_true rfl, Nat.le_of_ble_eq_true rfl⟩ (fun r16 u9 H locs hw hP hS => ?_)
                obtain ⟨r16, rfl, hw⟩ := hw
                have hw := hw.symm
                subst hw
                refine gv_astore (r := Option.map b r16) (lv' := [(4, va_rf (Option.map b r16)), (0, .ref (b t0)), (1, .int a1), (2, .int p1), (3, .int p9)]) hx hb dX3_letGoBy_43 hl (by decide) rfl (fun ls hl => ?_)
                refine gv_aload (r := Option.map b r16) hx hb dX3_letGoBy_45 (lv_at hl 0 rfl) ?_
                obtain ⟨I18, hv, h⟩ := hb_some h
                have K64 : ∀ (H : Heap) (locs : List Loc) (ls : Array Slot), va_P (dC, dI) vwCl (hW N ca b I18 O7 J) H → va_S A s.heap H locs → lv_has ls 5 [(0, .ref (b t0)), (1, .int a1), (2, .int p1), (3, .int p9)] → W p l e (headSpec wsX3_letGoBy ({ frames := 3, cells := 0, slots := 0, locals := 76 } : Room)).room s m ([.ref (b t0), .int a1] : List Value).toArray below meth c H locs 0 0 (MQ below (va_Qv (fun (u : (Nat → Nat → Int32) × (Nat → Nat → Option Nat)) => res = u) (fun (u : (Nat → Nat → Int32) × (Nat → Nat → Option Nat)) t => va_P (dC, dI) vwCl (hW N ca b u.1 u.2 J) t.heap) A) ([.ref (b t0), .int a1] : List Value).toArray s 0 0 A) (F0 m 64 ls []) := by
                  intro H locs ls hP hS hl
                  obtain ⟨x19, ex19, h⟩ := hlet_ex h
                  refine lv_iinc (v := x19) (lv' := [(3, .int x19), (0, .ref (b t0)), (1, .int a1), (2, .int p1)]) hx hb dX3_letGoBy_64 hl (k := 3) rfl (by rw [ex19]; rfl) (by decide) rfl (fun ls hl => ?_)
                  refine lv_goto (tgt := 30) hx hb dX3_letGoBy_67 (by decide) ?_
                  exact ih _ _ _ _ _ h hP hS (lv_sub hl [1, 2, 3, 0] rfl)
                have h := hv
                cases r16 with
                | none =>
                  have h := hopt_n h
                  refine lv_ifnullN (tgt := 64) hx hb dX3_letGoBy_47 (by decide) ?_
                  cases h
                  exact K64 _ _ _ hP hS (lv_sub hl [1, 2, 3, 4] rfl)
                | some n20 =>
                  obtain ⟨hk_n20, h⟩ := hk_some (hopt_s h)
                  refine lv_ifnull hx hb dX3_letGoBy_47 ?_
                  refine lv_aload hx hb dX3_letGoBy_50 (lv_at hl 0 rfl) ?_
                  obtain ⟨q23, hcq23, h⟩ := hb_some h
                  refine gdV_i (As := []) (rest := []) (BH := (fun (u : Nat → Nat → Int32) H => va_P (dC, dI) vwCl (hW N ca b u O7 J) H)) X hP hS (c_X6_startsTurnFlying hN hA I10 O7 J n20 hk_n20 q23 hcq23) (cwV 0 X.ts gX3_letGoBy_X6_startsTurnFlying rfl rfl rfl (by decide +kernel) ⟨Nat.le_of_ble_eq_true rfl, Nat.le_of_ble_eq_true rfl⟩) (gr6 X hP hk_n20 (sk_in hN hk_n20 (by decide))) rfl hl.1 rfl (Nat.le_of_ble_eq_true rfl) dX3_letGoBy_52 ⟨Nat.le_of_ble_eq_true rfl, Nat.le_of_ble_eq_true rfl⟩ (fun r22 I21 H locs hw hP hS => ?_)
                  subst hw
                  refine lv_if_eq (tgt := 64) hx hb dX3_letGoBy_55 (by decide) (fun c26 => ?_) (fun c26 => ?_)
                  · have h := gif_t c26 h
                    cases h
                    exact K64 _ _ _ hP hS (lv_sub hl [1, 2, 3, 4] rfl)
                  · have h := gif_f c26 h
                    refine lv_aload_n hx hb dX3_letGoBy_58 rfl (lv_at hl 1 rfl) ?_
                    refine lv_aload hx hb dX3_letGoBy_59 (lv_at hl 0 rfl) ?_
                    obtain ⟨q25, hcq25, h⟩ := hb_some h
                    refine gdV_v (As := [.ref (b n20)]) (rest := []) (BH := (fun (u : Nat → Nat → Int32) H => va_P (dC, dI) vwCl (hW N ca b u O7 J) H)) X hP hS (c_X3_fly hN hA I21 O7 J t0 n20 hk_t0 hk_n20 q25 hcq25) (cwV 1 X.ts gX3_letGoBy_X3_fly rfl rfl rfl (by decide +kernel) ⟨Nat.le_of_ble_eq_true rfl, Nat.le_of_ble_eq_true rfl⟩) (gr3 X hP hk_t0 (sk_in hN hk_t0 (by decide))) rfl hl.1 rfl (Nat.le_of_ble_eq_true rfl) dX3_letGoBy_61 ⟨Nat.le_of_ble_eq_true rfl, Nat.le_of_ble_eq_true rfl⟩ (fun I24 H locs hw hP hS => ?_)
                    have hw := hw.symm
                    subst hw
                    cases h
                    exact K64 _ _ _ hP hS (lv_sub hl [1, 2, 3, 4] rfl)
          exact hL30 FU _ _ _ _ _ hv hP hS (lv_sub hl [1, 2, 3, 0] rfl)
  exact hL2 FU _ _ _ _ _ _ hv hP hS (lv_sub hl [1, 2, 0] rfl)
