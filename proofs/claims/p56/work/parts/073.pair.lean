/-! TWO GAMES: each a world of 129 cells; a call on the one leaves the other's cells as they are. -/
def pCx (p : Program) (s : State) (m : MethodId) (args : Array Value) (c : Code) (own : String) (cc : ByteArray) (Ts : List Cond) (nL : Nat) (dC : Nat → ClassId) (dI : Nat → Nat → Nat) (ca : Nat → ClassId) (A : Nat → Prop) : Prop :=
  p.tables.exec = Jvm.exec ∧ c.code = cc ∧ c.maxLocals = nL ∧ s.vm.findClass own = some m.cls ∧ (∀ w ∈ Ts, w.before args s = true) ∧ va_K (dC, dI) vwCl (hT ca) s ∧ (∀ q, s.heap.size ≤ q → A q) ∧ gTh A s s.heap
def pAr (b : Nat → Nat) (n : Nat) : Nat → Prop := fun q => n ≤ q ∨ ∃ k, k < 129 ∧ q = b k
section PR
variable {p : Program} {l : Launch} {e : Env} {R : Room} {s : State} {m : MethodId} {args : Array Value} {below : List Frame} {meth : Method} {c : Code} {H H1 : Heap} {locs : List Loc} {cells slots : Nat} {Q : State → Prop}
variable {own : String} {cc : ByteArray} {Ts : List Cond} {nL : Nat} {dC : Nat → ClassId} {dI : Nat → Nat → Nat} {ca : Nat → ClassId} {b b' : Nat → Nat} {A : Nat → Prop} {N : Nat} {I : Nat → Nat → Int32} {O : Nat → Nat → Option Nat} {J : Nat → Nat → Int64} {pc : Nat} {ls : Array Slot} {rest : List Value}
theorem pCx.x (X : pCx p s m args c own cc Ts nL dC dI ca A) : p.tables.exec = Jvm.exec := X.1
theorem pCx.cb (X : pCx p s m args c own cc Ts nL dC dI ca A) : c.code = cc := X.2.1
theorem pCx.fix (X : pCx p s m args c own cc Ts nL dC dI ca A) : CallFix p m c cc nL s args Ts own := ⟨X.1, X.2.1, X.2.2.1, X.2.2.2.1, X.2.2.2.2.1⟩
theorem pCx.ow (X : pCx p s m args c own cc Ts nL dC dI ca A) : s.vm.findClass own = some m.cls := X.2.2.2.1
theorem pCx.ts (X : pCx p s m args c own cc Ts nL dC dI ca A) : ∀ w ∈ Ts, w.before args s = true := X.2.2.2.2.1
theorem pCx.K (X : pCx p s m args c own cc Ts nL dC dI ca A) : va_K (dC, dI) vwCl (hT ca) s := X.2.2.2.2.2.1
theorem pCx.aa (X : pCx p s m args c own cc Ts nL dC dI ca A) : ∀ q, s.heap.size ≤ q → A q := X.2.2.2.2.2.2.1
theorem pCx.th (X : pCx p s m args c own cc Ts nL dC dI ca A) : gTh A s s.heap := X.2.2.2.2.2.2.2
theorem gTh.narrow {A B : Nat → Prop} {U : State} {H : Heap} (h : gTh A U H) (hAB : ∀ q, B q → A q) : gTh B U H := ⟨h.1, h.2.1, h.2.2.1.narrow hAB, h.2.2.2.narrow hAB⟩
theorem pAr_A (X : pCx p s m args c own cc Ts nL dC dI ca A) (had : gAd A b 129) (hS : va_S A s.heap H locs) : ∀ q, pAr b H.size q → A q := fun q h => by
  rcases h with h | ⟨k, hk, rfl⟩
  · exact X.aa q (Nat.le_trans hS.1 h)
  · exact had.1 k hk
theorem pAr_ad {n : Nat} (had : gAd A b 129) : gAd (pAr b n) b 129 := ⟨fun k hk => Or.inr ⟨k, hk, rfl⟩, had.2⟩
theorem pCx.pre (X : pCx p s m args c own cc Ts nL dC dI ca A) (had : gAd A b 129) (hP : va_P (dC, dI) vwCl (hW 129 ca b I O J) H) (hS : va_S A s.heap H locs) : ∀ U : State, U.heap = H → s.WarmedH U.vm → gPre dC dI ca b (pAr b H.size) 129 I O J U := fun U hU hW =>
  ⟨by rw [hU]; exact hP, va_K.moved hW.alike X.K, fun q hq => Or.inl (by rw [← hU]; exact hq), by rw [hU]; exact ((X.th.kept hS.2.1).warm hW).narrow (pAr_A X had hS)⟩
theorem pRecv (X : pCx p s m args c own cc Ts nL dC dI ca A) (hP : va_P (dC, dI) vwCl (hW 129 ca b I O J) H) : ∃ cell : Cell, H[b 0]? = some cell ∧ cell.vm.isStatics = false ∧ s.vm.findClass RX7 = some cell.cls := va_recv X.K hP (ci := 7) (q := (RX7, TX7, 6)) rfl (hW_at (n := 0) (by decide) (hE_7 (by decide)))
theorem pKeep {D : va_G} {cl : List vw_C} (hd : ∀ i j, i < 129 → j < 129 → b' i ≠ b j) (hP : va_P D cl (hW 129 ca b' I O J) H) (hk : ∀ q : Nat, q < H.size → ¬ pAr b H.size q → H1[q]? = H[q]?) : va_P D cl (hW 129 ca b' I O J) H1 := hP.kept (fun k q hq => by
  have hlt := (hP k q hq).lt
  refine hk q.1 hlt (fun h => ?_)
  unfold hW at hq
  by_cases hl : k < 129
  · simp [hl] at hq
    rcases h with h | ⟨j, hj, e⟩
    · exact absurd hlt (Nat.not_lt.mpr h)
    · exact hd k j hl hj (by rw [← hq] at e; exact e)
  · simp [hl] at hq)
theorem pKeepA {D : va_G} {cl : List vw_C} {ws : va_W} (hP : va_P D cl ws H) (hk : ∀ q : Nat, q < H.size → H1[q]? = H[q]?) : va_P D cl ws H1 := hP.kept (fun k q hq => hk q.1 (hP k q hq).lt)
variable {S : Type} {y : MethodName} {bytes : ByteArray} {maxL mc ms n index : Nat} {ret : Option FieldType} {ws : List Cond} {rm : Room} {C : String} {As st0 : List Value} {BH : S → Heap → Prop}
theorem pS_i (X : pCx p s m args c own cc Ts nL dC dI ca A) (had : gAd A b 129) (hP : va_P (dC, dI) vwCl (hW 129 ca b I O J) H) (hS : va_S A s.heap H locs) {post : Int32 → S → Prop} (hM : ∀ A1, gAd A1 b 129 → Met l y ws rm (va_Pc As (gPre dC dI ca b A1 129 I O J)) (va_Qi post (fun u t => BH u t.heap) A1) mc ms A1) (cw : CallB R s args own index y bytes maxL ret ws rm mc ms n ∧ (Cond.static y).before args s = true) (hn : As.length = n) (hsize : ls.size = nL) (hstack : st0 = As.reverse ++ rest) (hroom : (rest.map fun v => v.category).sum ≤ 8) (hdg : decode cc pc = .ok (.invokestatic index, 3)) (hf : cells + mc ≤ R.cells ∧ slots + ms ≤ R.slots) (kk : ∀ (r : Int32) (u : S) (H1 : Heap) (locs1 : List Loc), post r u → BH u H1 → H.size ≤ H1.size → (∀ q : Nat, q < H.size → ¬ pAr b H.size q → H1[q]? = H[q]?) → va_S A s.heap H1 locs1 → W p l e R s m args below meth c H1 locs1 (cells + mc) (slots + ms) Q (F0 m (pc + 3) ls (.int r :: rest))) : W p l e R s m args below meth c H locs cells slots Q (F0 m pc ls st0) :=
  va_calli (va_runS X.fix (hM (pAr b H.size) (pAr_ad had)) cw ⟨gBlind, fun U hU hW => ⟨rfl, X.pre had hP hS U hU hW⟩⟩ rfl hn hsize hstack (lv_room hroom) hdg hf) hS (fun q _ h => pAr_A X had hS q h) (fun q h => pAr_A X had hS q h) (fun r u t H1 locs1 ht hvm hw hB hz hk hS1 => kk r u H1 locs1 hw (by rw [← ht]; exact hB) hz hk hS1)
theorem pW_i (X : pCx p s m args c own cc Ts nL dC dI ca A) (had : gAd A b 129) (hP : va_P (dC, dI) vwCl (hW 129 ca b I O J) H) (hS : va_S A s.heap H locs) {hh : List (Nat × Nat × Nat × Nat)} {post : Int32 → S → Prop} (hM : ∀ A1, gAd A1 b 129 → Met l y ws rm (va_Pc As (gPre dC dI ca b A1 129 I O J)) (va_Qi post (fun u t => BH u t.heap) A1) mc ms A1) (cw : vx_CSW R s args own index y bytes maxL ret hh ws rm mc ms n) (hn : As.length = n) (hsize : ls.size = nL) (hstack : st0 = As.reverse ++ rest) (hroom : (rest.map fun v => v.category).sum ≤ 8) (hdg : decode cc pc = .ok (.invokestatic index, 3)) (hf : cells + mc ≤ R.cells ∧ slots + ms ≤ R.slots) (kk : ∀ (r : Int32) (u : S) (H1 : Heap) (locs1 : List Loc), post r u → BH u H1 → H.size ≤ H1.size → (∀ q : Nat, q < H.size → ¬ pAr b H.size q → H1[q]? = H[q]?) → va_S A s.heap H1 locs1 → W p l e R s m args below meth c H1 locs1 (cells + mc) (slots + ms) Q (F0 m (pc + 3) ls (.int r :: rest))) : W p l e R s m args below meth c H locs cells slots Q (F0 m pc ls st0) :=
  va_calli (vx_runSW X.fix (hM (pAr b H.size) (pAr_ad had)) cw ⟨gBlind, fun U hU hW => ⟨rfl, X.pre had hP hS U hU hW⟩⟩ rfl hn hsize hstack (lv_room hroom) hdg hf) hS (fun q _ h => pAr_A X had hS q h) (fun q h => pAr_A X had hS q h) (fun r u t H1 locs1 ht hvm hw hB hz hk hS1 => kk r u H1 locs1 hw (by rw [← ht]; exact hB) hz hk hS1)
theorem pV_i (X : pCx p s m args c own cc Ts nL dC dI ca A) (had : gAd A b 129) (hP : va_P (dC, dI) vwCl (hW 129 ca b I O J) H) (hS : va_S A s.heap H locs) {post : Int32 → S → Prop} (hM : ∀ A1, gAd A1 b 129 → Met l y ws rm (va_Pc (.ref (b 0) :: As) (gPre dC dI ca b A1 129 I O J)) (va_Qi post (fun u t => BH u t.heap) A1) mc ms A1) (cw : CallW R s args own C index y bytes maxL ret ws rm mc ms n) (hrc : ∃ cell : Cell, H[b 0]? = some cell ∧ cell.vm.isStatics = false ∧ s.vm.findClass C = some cell.cls) (hn : As.length = n) (hsize : ls.size = nL) (hstack : st0 = As.reverse ++ .ref (b 0) :: rest) (hroom : (rest.map fun v => v.category).sum ≤ 8) (hdg : decode cc pc = .ok (.invokevirtual index, 3)) (hf : cells + mc ≤ R.cells ∧ slots + ms ≤ R.slots) (kk : ∀ (r : Int32) (u : S) (H1 : Heap) (locs1 : List Loc), post r u → BH u H1 → H.size ≤ H1.size → (∀ q : Nat, q < H.size → ¬ pAr b H.size q → H1[q]? = H[q]?) → va_S A s.heap H1 locs1 → W p l e R s m args below meth c H1 locs1 (cells + mc) (slots + ms) Q (F0 m (pc + 3) ls (.int r :: rest))) : W p l e R s m args below meth c H locs cells slots Q (F0 m pc ls st0) :=
  va_calli (va_runV X.fix (hM (pAr b H.size) (pAr_ad had)) cw ⟨gBlind, hrc, fun U hU hW => ⟨rfl, X.pre had hP hS U hU hW⟩⟩ rfl hn hsize hstack (lv_room hroom) hdg hf) hS (fun q _ h => pAr_A X had hS q h) (fun q h => pAr_A X had hS q h) (fun r u t H1 locs1 ht hvm hw hB hz hk hS1 => kk r u H1 locs1 hw (by rw [← ht]; exact hB) hz hk hS1)
theorem pV_l (X : pCx p s m args c own cc Ts nL dC dI ca A) (had : gAd A b 129) (hP : va_P (dC, dI) vwCl (hW 129 ca b I O J) H) (hS : va_S A s.heap H locs) {post : Int64 → S → Prop} (hM : ∀ A1, gAd A1 b 129 → Met l y ws rm (va_Pc (.ref (b 0) :: As) (gPre dC dI ca b A1 129 I O J)) (va_Ql post (fun u t => BH u t.heap) A1) mc ms A1) (cw : CallW R s args own C index y bytes maxL ret ws rm mc ms n) (hrc : ∃ cell : Cell, H[b 0]? = some cell ∧ cell.vm.isStatics = false ∧ s.vm.findClass C = some cell.cls) (hn : As.length = n) (hsize : ls.size = nL) (hstack : st0 = As.reverse ++ .ref (b 0) :: rest) (hroom : (rest.map fun v => v.category).sum ≤ 8) (hdg : decode cc pc = .ok (.invokevirtual index, 3)) (hf : cells + mc ≤ R.cells ∧ slots + ms ≤ R.slots) (kk : ∀ (r : Int64) (u : S) (H1 : Heap) (locs1 : List Loc), post r u → BH u H1 → H.size ≤ H1.size → (∀ q : Nat, q < H.size → ¬ pAr b H.size q → H1[q]? = H[q]?) → va_S A s.heap H1 locs1 → W p l e R s m args below meth c H1 locs1 (cells + mc) (slots + ms) Q (F0 m (pc + 3) ls (.long r :: rest))) : W p l e R s m args below meth c H locs cells slots Q (F0 m pc ls st0) :=
  va_calll (va_runV X.fix (hM (pAr b H.size) (pAr_ad had)) cw ⟨gBlind, hrc, fun U hU hW => ⟨rfl, X.pre had hP hS U hU hW⟩⟩ rfl hn hsize hstack (lv_room hroom) hdg hf) hS (fun q _ h => pAr_A X had hS q h) (fun q h => pAr_A X had hS q h) (fun r u t H1 locs1 ht hvm hw hB hz hk hS1 => kk r u H1 locs1 hw (by rw [← ht]; exact hB) hz hk hS1)
theorem pV_v (X : pCx p s m args c own cc Ts nL dC dI ca A) (had : gAd A b 129) (hP : va_P (dC, dI) vwCl (hW 129 ca b I O J) H) (hS : va_S A s.heap H locs) {post : S → Prop} (hM : ∀ A1, gAd A1 b 129 → Met l y ws rm (va_Pc (.ref (b 0) :: As) (gPre dC dI ca b A1 129 I O J)) (va_Qv post (fun u t => BH u t.heap) A1) mc ms A1) (cw : CallW R s args own C index y bytes maxL ret ws rm mc ms n) (hrc : ∃ cell : Cell, H[b 0]? = some cell ∧ cell.vm.isStatics = false ∧ s.vm.findClass C = some cell.cls) (hn : As.length = n) (hsize : ls.size = nL) (hstack : st0 = As.reverse ++ .ref (b 0) :: rest) (hroom : (rest.map fun v => v.category).sum ≤ 8) (hdg : decode cc pc = .ok (.invokevirtual index, 3)) (hf : cells + mc ≤ R.cells ∧ slots + ms ≤ R.slots) (kk : ∀ (u : S) (H1 : Heap) (locs1 : List Loc), post u → BH u H1 → H.size ≤ H1.size → (∀ q : Nat, q < H.size → ¬ pAr b H.size q → H1[q]? = H[q]?) → va_S A s.heap H1 locs1 → W p l e R s m args below meth c H1 locs1 (cells + mc) (slots + ms) Q (F0 m (pc + 3) ls (rest))) : W p l e R s m args below meth c H locs cells slots Q (F0 m pc ls st0) :=
  va_callv (va_runV X.fix (hM (pAr b H.size) (pAr_ad had)) cw ⟨gBlind, hrc, fun U hU hW => ⟨rfl, X.pre had hP hS U hU hW⟩⟩ rfl hn hsize hstack (lv_room hroom) hdg hf) hS (fun q _ h => pAr_A X had hS q h) (fun q h => pAr_A X had hS q h) (fun u t H1 locs1 ht hvm hw hB hz hk hS1 => kk u H1 locs1 hw (by rw [← ht]; exact hB) hz hk hS1)
/-- the script at the cell -/
def cPre (sb SL : Nat) (sx : Nat → Int32) (U : State) : Prop := va_X sb SL sx U U.heap
theorem cBlind {sb SL : Nat} {sx : Nat → Int32} {av : List Value} : FrameBlind (va_Pc av (cPre sb SL sx)) := fun a U g mk q => ⟨q.1, va_X.moved (u := U) (U := U.calling g mk a) (Vm.Alike.refl U.vm) q.2⟩
end PR
def f_L_cell (SL : Nat) (sx : Nat → Int32) (a1 : Int32) : Option Int32 :=
  if Int32.ofNat SL ≤ a1 then some (((49507 : Int32) * (a1 + 409) + 457) &&& 2147483647) else hg (gin a1 SL) <| some (sx a1.toNatClampNeg &&& 2147483647)
set_option maxHeartbeats 8000000 in
set_option maxRecDepth 100000 in
theorem c_L_cell {l : Launch} {sb SL : Nat} {sx : Nat → Int32} (a1 : Int32) (res : Int32) (h : f_L_cell SL sx a1 = some res) : Met l yL_cell wsL_cell ({ frames := 0, cells := 0, slots := 0, locals := 0 } : Room) (va_Pc [.ref sb, .int a1] (cPre sb SL sx)) (va_Qi (fun (r : Int32) (u : Unit) => res = r) (fun _ _ => True) (fun _ => False)) 0 0 (fun _ => False) := by
  refine Met.ofW (cc := cL_cell) (maxL := 2) (ret := (some .int)) (by decide) rfl ?_
  intro p e s m args below meth c s₁ B hml hv
  obtain ⟨rfl, hX⟩ := hv
  have hx := B.exec
  have hb := B.bytes
  have hr := B.returns
  have hlk := B.notSynchronized
  have hown := findClass_of_methodNamed B.named
  have hts := atoms_spec (ws := wsL_cell) B.pre
  have hS : va_S (fun _ => False) s.heap s.heap [] := va_S.rf
  have hl := lv_entry ([.ref sb, .int a1] : List Value) (n := 2) (Nat.le_of_ble_eq_true rfl)
  rw [lg_entry_eq]
  generalize (lg_sl ([.ref sb, .int a1] : List Value) ++ List.replicate (2 - (lg_sl ([.ref sb, .int a1] : List Value)).length) Slot.unset).toArray = ls at hl ⊢
  have hl : lv_has ls 2 [(0, .ref sb), (1, .int a1)] := hl
  have hbl : sb < s.heap.size := (Array.getElem?_eq_some_iff.mp hX.choose_spec.1).1
  have hbA : ¬ (fun _ : Nat => False) sb := fun h => h
  unfold f_L_cell at h
  refine lv_iload_n hx hb dL_cell_0 rfl (lv_at hl 1 rfl) ?_
  refine lv_aload_n hx hb dL_cell_1 rfl (lv_at hl 0 rfl) ?_
  refine va_slen hx hb hX hbl hbA hS dL_cell_2 ?_
  refine lv_icmp_ge (tgt := 12) hx hb dL_cell_3 (by decide) (fun c1 => ?_) (fun c1 => ?_)
  · have h := gif_t c1 h
    refine lv_ldc (v := 49507) hx hb hown (hts _ (List.mem_of_getElem? (i := 1) rfl)) dL_cell_12 ?_
    refine lv_iload_n hx hb dL_cell_14 rfl (lv_at hl 1 rfl) ?_
    refine lv_sipush (v := 409) hx hb dL_cell_15 (by decide) ?_
    refine lv_iadd hx hb dL_cell_18 ?_
    refine lv_imul hx hb dL_cell_19 ?_
    refine lv_sipush (v := 457) hx hb dL_cell_20 (by decide) ?_
    refine lv_iadd hx hb dL_cell_23 ?_
    refine lv_ldc (v := 2147483647) hx hb hown (hts _ (List.mem_of_getElem? (i := 2) rfl)) dL_cell_24 ?_
    refine lv_iand hx hb dL_cell_26 ?_
    exact W.iret hx hb hr (fun t9 ht hW => ⟨⟨_, (), rfl, (Option.some.inj h).symm, trivial⟩, hS.F ht⟩) hS.2.2 dL_cell_27 hlk
  · have h := gif_f c1 h
    obtain ⟨hgi, h⟩ := hg_some h
    refine lv_aload_n hx hb dL_cell_6 rfl (lv_at hl 0 rfl) ?_
    refine lv_iload_n hx hb dL_cell_7 rfl (lv_at hl 1 rfl) ?_
    refine va_sld hx hb hX hbl hbA hS (gin_vp hgi) dL_cell_8 ?_
    refine lv_goto (tgt := 24) hx hb dL_cell_9 (by decide) ?_
    refine lv_ldc (v := 2147483647) hx hb hown (hts _ (List.mem_of_getElem? (i := 2) rfl)) dL_cell_24 ?_
    refine lv_iand hx hb dL_cell_26 ?_
    exact W.iret hx hb hr (fun t9 ht hW => ⟨⟨_, (), rfl, (Option.some.inj h).symm, trivial⟩, hS.F ht⟩) hS.2.2 dL_cell_27 hlk
theorem cell_call {p : Program} {l : Launch} {e : Env} {R : Room} {s : State} {m : MethodId} {args : Array Value} {below : List Frame} {meth : Method} {c : Code} {H : Heap} {locs : List Loc} {cells slots : Nat} {Q : State → Prop} {own : String} {cc : ByteArray} {Ts : List Cond} {nL : Nat} {dC : Nat → ClassId} {dI : Nat → Nat → Nat} {ca : Nat → ClassId} {A : Nat → Prop} {pc : Nat} {ls : Array Slot} {rest st0 : List Value} {bytes : ByteArray} {maxL index : Nat} {ret : Option FieldType} {ws : List Cond} {y : MethodName} {rm : Room} {sb SL : Nat} {sx : Nat → Int32} {a1 res : Int32} (X : pCx p s m args c own cc Ts nL dC dI ca A) (hX : va_X sb SL sx s s.heap) (hbl : sb < s.heap.size) (hbA : ¬ A sb) (hS : va_S A s.heap H locs) (hM : Met l y ws rm (va_Pc [.ref sb, .int a1] (cPre sb SL sx)) (va_Qi (fun (r : Int32) (u : Unit) => res = r) (fun _ _ => True) (fun _ => False)) 0 0 (fun _ => False)) (cw : CallB R s args own index y bytes maxL ret ws rm 0 0 2 ∧ (Cond.static y).before args s = true) (hsize : ls.size = nL) (hstack : st0 = [.int a1, .ref sb] ++ rest) (hroom : (rest.map fun v => v.category).sum ≤ 8) (hdg : decode cc pc = .ok (.invokestatic index, 3)) (hf : cells + 0 ≤ R.cells ∧ slots + 0 ≤ R.slots) (kk : ∀ (r : Int32) (H1 : Heap) (locs1 : List Loc), res = r → H.size ≤ H1.size → (∀ q : Nat, q < H.size → H1[q]? = H[q]?) → va_S A s.heap H1 locs1 → W p l e R s m args below meth c H1 locs1 cells slots Q (F0 m (pc + 3) ls (.int r :: rest))) : W p l e R s m args below meth c H locs cells slots Q (F0 m pc ls st0) :=
  va_calli (a := ([.ref sb, .int a1] : List Value).toArray) (va_runS (As := [.ref sb, .int a1]) X.fix hM cw ⟨cBlind, fun U hU hW => ⟨rfl, va_X.moved hW.alike (by rw [hU]; exact hX.kept (hS.2.1 sb hbl hbA))⟩⟩ rfl rfl hsize hstack (lv_room hroom) hdg hf) hS (fun q _ h => h.elim) (fun q h => h.elim) (fun r u t H1 locs1 ht hvm hw hB hz hk hS1 => kk r H1 locs1 hw hz (fun q hq => hk q hq (fun h => h)) hS1)
