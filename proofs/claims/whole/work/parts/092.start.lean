/-! THE CLAIM OUT OF ONE WALK OF THE LAW'S BODY. Your part is whole_start (and what it stands on); all else here is the same for every law, but numbers. -/
def R_law : String := "SparrowRaceLaw"
def lw_P (b : Addr) (xs : List Int32) (args : Array Value) (s : State) : Prop := args = #[.ref b] ∧ s.IntsAt b xs ∧ xs.length ≤ 2048 ∧ (Jvm.Cond.and given_1 narrow_1).before args s = true
/-- what a walk over the start with the record d0 says of its end, said of the start itself -/
theorem lw_closed {s t : State} {o : Outcome} {d0 : Drawn} {L : List Loc} {k n : Nat} (hd0 : s.drawn.sameBut d0 lw_cs) (hv : ∃ v, o = .returned v) (hW : (s.setDrawn d0).WarmedH t.vm) (hs : (s.setDrawn d0).sameButNew ({ t with vm := s.vm } : State) L k n) : State.butDraws s t lw_cs (fun t1 => Framed s o t1 L k n) := by
  have h2 : t.drawn = d0 := congrArg State.drawn hs.1
  refine ⟨⟨hv, hW, State.sameButNew.setDrawn hs s.drawn⟩, ?_, by decide⟩
  rw [h2]
  exact hd0
def lw_Q (_ : Array Value) (s : State) (o : Outcome) (t : State) : Prop := o = .returned (some (.int 1)) ∧ State.butDraws s t lw_cs (fun t1 => Framed s o t1 [] 601024 7293034)
def lw_Z (below : List Frame) (a : Array Value) (s : State) : State → Prop := fun t => ∃ o, t.status = .running ∧ Ended t below o ∧ lw_Q a s o t
/-- the law's own end, with 1 on the stack, nothing written that was there before, its room as the claim has it; d0: the record of draws at this point (at the entry s.drawn: begin with 'refine W.base ?_' and 'have hd0 := Drawn.sameBut.refl s.drawn lw_cs') -/
theorem lw_ret {p : Program} {l : Launch} {e : Env} {s : State} {m : MethodId} {below : List Frame} {meth : Method} {c : Code} {b : Nat} {d0 : Drawn} (hd0 : s.drawn.sameBut d0 lw_cs) (hx : p.tables.exec = Jvm.exec) (hb : c.code = code) (hr : meth.sig.returnType = ret) (hlocks : meth.locks = false) {pc : Nat} {H : Heap} {ls : Array Slot} (hdg : decode code pc = .ok (.ireturn, 1)) : W p l e room_1 (s.setDrawn d0) m #[Value.ref b] below meth c H [] 601024 7293034 (lw_Z below #[Value.ref b] s) (F0 m pc ls [.int 1]) := by
  intro T hT X
  obtain ⟨fs, hret, hrun, hended, hW, hframe⟩ := X.leave (v := some (.int 1)) (hlocks := hlocks) (fun h => by rw [hr] at h; cases h)
  have hmeth' : T.vm.method? m = some meth := X.method'
  refine ⟨T.setFrames fs, ?_, .returned (some (.int 1)), hrun, hended, rfl, lw_closed hd0 ⟨_, rfl⟩ hW hframe⟩
  jvm_step X.here [X.here.top, hx, hb, hdg, hmeth', hr, ret, narrow_b1]
  (try refine ⟨rfl, ?_⟩); (try refine ⟨rfl, ?_⟩)
  first | (intro acts; rw [hret _ acts rfl rfl rfl]) | rw [hret _ _ rfl rfl rfl]
  exact Steps.refl _
/-- what holds at the law's entry: the machine, the code, the tables' words (any of lw_tbl by 'hts w (by decide +kernel)'), the script of L ints xs at the cell b, what the Statement gives of the start (any of its parts by flat_of_before) -/
def lw_At (p : Program) (s : State) (m : MethodId) (meth : Method) (c : Code) (b L : Nat) (xs : Nat → Int32) : Prop :=
  p.tables.exec = Jvm.exec ∧ c.code = code ∧ meth.sig.returnType = ret ∧ c.maxLocals = 9 ∧ s.vm.findClass R_law = some m.cls ∧ (∀ w ∈ lw_tbl, w.before #[Value.ref b] s = true) ∧ va_X b L xs s s.heap ∧ b < s.heap.size ∧ meth.locks = false ∧ (Jvm.Cond.and given_1 narrow_1).before #[Value.ref b] s = true
-- ===== YOUR PART BEGINS =====
theorem zt_mL8 : Cond.methodLink RL 135 yX8_init ∈ wsL_law := by decide +kernel
theorem zt_iL8 : Cond.instanceMethod yX8_init ∈ wsL_law := by decide +kernel
theorem zt_aL : Cond.arrayClass .long ∈ wsL_law := by decide +kernel
theorem zt_c7 : Cond.classLink RL 8 RX7 ∈ wsL_law := by decide +kernel
theorem zt_n7 : Cond.instantiable RX7 6 ∈ wsL_law := by decide +kernel
theorem zt_i7 : Cond.initialized RX7 ∈ wsL_law := by decide +kernel
theorem zt_c8 : Cond.classLink RL 133 RX8 ∈ wsL_law := by decide +kernel
theorem zt_n8 : Cond.instantiable RX8 17 ∈ wsL_law := by decide +kernel
theorem zt_i8 : Cond.initialized RX8 ∈ wsL_law := by decide +kernel
theorem zt_mL7 : Cond.methodLink RL 132 yX7_init ∈ wsL_law := by decide +kernel
theorem zt_iL7 : Cond.instanceMethod yX7_init ∈ wsL_law := by decide +kernel
theorem zt_flags {l : Launch} (h : l.flags = flags0) : l.stackTraces = false := by
  unfold Launch.stackTraces
  rw [h]
  decide
set_option maxHeartbeats 8000000 in
set_option maxRecDepth 100000 in
/-- THE LAW, from its entry -/
theorem whole_start {p : Program} {e : Env} {s : State} {m : MethodId} {below : List Frame} {meth : Method} {c : Code} (l : Launch) (hflags : l.flags = flags0) {b L : Nat} {xs : Nat → Int32} (hL : L ≤ 2048) (C0 : lw_At p s m meth c b L xs) : W p l e room_1 s m #[Value.ref b] below meth c s.heap [] 0 0 (lw_Z below #[Value.ref b] s) (entryFrame m ([Value.ref b] : List Value).toArray 9) := by
  obtain ⟨hx, hb, hr, hml, hown, hts, hX, hbl, hlocks, hgv⟩ := id C0
  obtain ⟨A, hAe⟩ : ∃ A : Nat → Prop, A = fun q : Nat => s.heap.size ≤ q := ⟨_, rfl⟩
  have hA : ∀ q : Nat, s.heap.size ≤ q → A q := fun q h => by rw [hAe]; exact h
  have hAn : ∀ a : Nat, a < s.heap.size → ¬ A a := fun a h => by rw [hAe]; exact Nat.not_le.mpr h
  have hbA : ¬ A b := hAn b hbl
  have hlf := zt_flags hflags
  obtain ⟨dC, dI, ca, hK⟩ := zt_K hts
  have hth := zt_Th hts hgv hAn
  have X : zkCx p s m #[Value.ref b] c RL cL_law wsL_law 9 dC dI ca A := ⟨hx, hb, hml, hown, fun w hw => hts w (wsL_law_in w hw), hK, hA, hth, va_AO.of (hts _ zt_over6), va_AO.of (hts _ zt_over3)⟩
  have hS : va_S A s.heap s.heap [] := va_S.rf
  have hP : va_P (dC, dI) vwCl (zkW 0 (fun _ => 0) (fun _ => .inr (0, []))) s.heap := fun k q h => by simp [zkW] at h
  have hD : va_D A (zkW 0 (fun _ => 0) (fun _ => .inr (0, []))) := ⟨fun i j p q h => by simp [zkW] at h, fun k q h => by simp [zkW] at h⟩
  have hl := lv_entry ([.ref b] : List Value) (n := 9) (Nat.le_of_ble_eq_true rfl)
  rw [lg_entry_eq]
  generalize (lg_sl ([.ref b] : List Value) ++ List.replicate (9 - (lg_sl ([.ref b] : List Value)).length) Slot.unset).toArray = ls at hl ⊢
  have hl : lv_has ls 9 [(0, .ref b)] := hl
  refine zk_new (N := 0) (ci := 7) (C := RX7) (T := TX7) (Nf := 6) (fs := [.null, .null, .null, .null, .null, .null]) (ty0 := tyX7) X hP hD hS rfl inlX7 tyX7_ok zt_c7 zt_n7 zt_i7 (fun j hj => by match j, hj with | 0, _ => rfl | 1, _ => rfl | 2, _ => rfl | 3, _ => rfl | 4, _ => rfl | 5, _ => rfl) (Nat.le_of_ble_eq_true rfl) (Nat.le_of_ble_eq_true rfl) dL_law_0 (fun q1 H hP hD hS => ?_)
  refine lv_dup hx hb dL_law_3 rfl ?_
  refine zk_callI (As := []) (rest := [.ref q1]) X hP hD hS (zc_X7_init zkB_at zkE_at) (cwI 0 X.ts gL_law_X7_init rfl rfl rfl (X.ts _ zt_i7) (X.ts _ zt_mL7) (X.ts _ zt_iL7) rfl (by decide +kernel) ⟨Nat.le_of_ble_eq_true rfl, Nat.le_of_ble_eq_true rfl⟩) rfl hl.1 rfl (Nat.le_of_ble_eq_true rfl) dL_law_4 ⟨Nat.le_of_ble_eq_true rfl, Nat.le_of_ble_eq_true rfl⟩ (fun u H locs hu hP hD hS => ?_)
  obtain ⟨b1, E1⟩ := u
  have a1 : b1 0 = q1 := hu.1.trans zkB_at
  have g1 : zkGame ca b1 E1 := hu.2
  clear hu
  dsimp only at hP hD
  refine lv_astore_n (lv' := [(1, .ref q1), (0, .ref b)]) hx hb dL_law_7 rfl hl (by decide) rfl (fun ls hl => ?_)
  refine zk_new (N := 129) (ci := 8) (C := RX8) (T := TX8) (Nf := 17) (fs := x8z) (ty0 := tyX8) X hP hD hS rfl inlX8 tyX8_ok zt_c8 zt_n8 zt_i8 (fun j hj => by match j, hj with | 0, _ => rfl | 1, _ => rfl | 2, _ => rfl | 3, _ => rfl | 4, _ => rfl | 5, _ => rfl | 6, _ => rfl | 7, _ => rfl | 8, _ => rfl | 9, _ => rfl | 10, _ => rfl | 11, _ => rfl | 12, _ => rfl | 13, _ => rfl | 14, _ => rfl | 15, _ => rfl | 16, _ => rfl | j + 17, h => exact absurd h (by omega)) (Nat.le_of_ble_eq_true rfl) (Nat.le_of_ble_eq_true rfl) dL_law_8 (fun q2 H hP hD hS => ?_)
  refine lv_dup hx hb dL_law_11 rfl ?_
  refine zk_callI (As := []) (rest := [.ref q2]) X hP hD hS (zc_X8_init zkB_at zkE_at) (cwI 0 X.ts gL_law_X8_init rfl rfl rfl (X.ts _ zt_i8) (X.ts _ zt_mL8) (X.ts _ zt_iL8) rfl (by decide +kernel) ⟨Nat.le_of_ble_eq_true rfl, Nat.le_of_ble_eq_true rfl⟩) rfl hl.1 rfl (Nat.le_of_ble_eq_true rfl) dL_law_12 ⟨Nat.le_of_ble_eq_true rfl, Nat.le_of_ble_eq_true rfl⟩ (fun u H locs hu hP hD hS => ?_)
  obtain ⟨b2, E2⟩ := u
  have u1 : ∀ k, k ≤ 129 → b2 k = zkB b1 129 q2 k := hu.1
  have u2 : ∀ k, k < 129 → E2 k = zkE E1 129 (.inr (8, x8z)) k := hu.2.1
  have g2 : zkRef ca b2 E2 (s0k 4) := hu.2.2
  clear hu
  dsimp only at hP hD
  have o1 : ∀ k, k < 129 → b2 k = b1 k := fun k hk => (u1 k (by omega)).trans (zkB_ne (by omega))
  have o2 : ∀ k, k < 129 → E2 k = E1 k := fun k hk => (u2 k hk).trans (zkE_ne (by omega))
  have a2 : b2 129 = q2 := (u1 129 (Nat.le_refl _)).trans zkB_at
  refine lv_astore_n (lv' := [(2, .ref q2), (1, .ref q1), (0, .ref b)]) hx hb dL_law_15 rfl hl (by decide) rfl (fun ls hl => ?_)
  refine lv_iconst (v := 1) hx hb dL_law_16 (by decide) ?_
  refine zk_newa (N := 137) (t := 3) (atype := .long) (ty := .long) (N' := 1) (a0 := (1, .inr (.inl (fun _ => 0)))) X hP hD hS zt_aL rfl rfl zk_unl (fun _ => rfl) (by decide) (by decide) (by decide) (Nat.le_of_ble_eq_true rfl) (Nat.le_of_ble_eq_true rfl) dL_law_17 (fun q3 H hP hD hS => ?_)
  refine lv_astore_n (lv' := [(3, .ref q3), (2, .ref q2), (1, .ref q1), (0, .ref b)]) hx hb dL_law_19 rfl hl (by decide) rfl (fun ls hl => ?_)
  refine lv_iconst (v := 0) hx hb dL_law_20 (by decide) ?_
  refine lv_istore (lv' := [(4, .int (0 : Int32)), (3, .ref q3), (2, .ref q2), (1, .ref q1), (0, .ref b)]) hx hb dL_law_21 hl (by decide) rfl (fun ls hl => ?_)
  have v0 : zkB b2 137 q3 0 = q1 := (zkB_ne (by omega)).trans ((o1 0 (by omega)).trans a1)
  have v129 : zkB b2 137 q3 129 = q2 := (zkB_ne (by omega)).trans a2
  have v137 : zkB b2 137 q3 137 = q3 := zkB_at
  have vb : ∀ k, k < 137 → zkB b2 137 q3 k = b2 k := fun k hk => zkB_ne (by omega)
  have ve : ∀ k, k < 137 → zkE E2 137 (.inl (ca 3, 1, .inr (.inl (fun _ => 0)))) k = E2 k := fun k hk => zkE_ne (by omega)
  have ve2 : zkE E2 137 (.inl (ca 3, 1, .inr (.inl (fun _ => 0)))) 137 = .inl (ca 3, 1, .inr (.inl (fun _ => 0))) := zkE_at
  generalize zkE E2 137 (.inl (ca 3, 1, .inr (.inl (fun _ => 0)))) = E3 at *
  generalize zkB b2 137 q3 = b3 at *
  have hbb : ∀ k, k < 129 → b3 k = b1 k := fun k hk => (vb k (by omega)).trans (o1 k hk)
  have hee : ∀ k, k < 129 → E3 k = E1 k := fun k hk => (ve k (by omega)).trans (o2 k hk)
  have gg : zkGame ca b3 E3 := by
    obtain ⟨x0, x1, x13, ⟨x25, x26, xs⟩, ⟨x99, x100, x101, xl⟩, ⟨x126, x127⟩, x128⟩ := g1
    refine ⟨?_, x1.k (M := 129) (by omega) (fun k _ h => hbb k h) (fun k _ h => hee k h), x13.k (M := 129) (by omega) (fun k _ h => hbb k h) (fun k _ h => hee k h), ⟨?_, ?_, fun i hi => (xs i hi).k (M := 129) (by omega) (fun k _ h => hbb k h) (fun k _ h => hee k h)⟩, ⟨?_, ?_, ?_, fun i hi => (xl i hi).k (M := 129) (by omega) (fun k _ h => hbb k h) (fun k _ h => hee k h)⟩, ⟨?_, ?_⟩, ?_⟩
    · rw [hee 0 (by omega), hbb 1 (by omega), hbb 13 (by omega), hbb 25 (by omega), hbb 99 (by omega), hbb 126 (by omega), hbb 128 (by omega)]; exact x0
    · rw [hee 25 (by omega), hbb 26 (by omega)]; exact x25
    · rw [hee 26 (by omega), refs_c (g := fun j => b1 (27 + 12 * j)) (fun j hj => hbb _ (by omega))]; exact x26
    · rw [hee 99 (by omega), hbb 100 (by omega), hbb 101 (by omega)]; exact x99
    · rw [hee 100 (by omega), refs_c (g := fun j => b1 (102 + 12 * j)) (fun j hj => hbb _ (by omega))]; exact x100
    · rw [hee 101 (by omega)]; exact x101
    · rw [hee 126 (by omega), hbb 127 (by omega)]; exact x126
    · rw [hee 127 (by omega)]; exact x127
    · rw [hee 128 (by omega)]; exact x128
  have gr : zkRef ca b3 E3 (s0k 4) := by
    obtain ⟨x129, x130, x131, x132, x133, x134, x135, x136⟩ := g2
    refine ⟨?_, (ve 130 (by omega)).trans x130, (ve 131 (by omega)).trans x131, (ve 132 (by omega)).trans x132, (ve 133 (by omega)).trans x133, (ve 134 (by omega)).trans x134, (ve 135 (by omega)).trans x135, (ve 136 (by omega)).trans x136⟩
    rw [ve 129 (by omega), vb 130 (by omega), vb 131 (by omega), vb 132 (by omega), vb 133 (by omega), vb 134 (by omega), vb 135 (by omega), vb 136 (by omega)]; exact x129
  have hAd : gAd A b3 138 := zk_Ad hD
  have eW : zkW 138 b3 E3 = hW 138 ca b3 w0I w0O w0J := zk_hW (zk_first gg gr ve2)
  have hP : va_P (dC, dI) vwCl (hW 138 ca b3 w0I w0O w0J) H := by rw [← eW]; exact hP
  have X2 : gCx p s m #[Value.ref b] c RL cL_law wsL_law 9 dC dI ca b3 A 138 := ⟨hx, hb, hml, hown, X.ts, hK, hAd, hA, hth⟩
  refine W.widen (k := 138) (n := 3224) (Nat.le_of_ble_eq_true rfl) (Nat.le_of_ble_eq_true rfl) ?_
  refine law_loop hlf hml X2 hX hbl hbA (fun H locs ls cn sn hcn hsn hS => ?_) 4096 0 w0I w0O w0J H locs ls 138 3224 (all_ok hL) (by omega) (by omega) hP hS ?_
  · refine lv_iconst (v := 1) hx hb dL_law_2564 (by decide) ?_
    refine va_forget (fun q hq => by have := hS.2.2 q hq; rw [hAe] at this; exact this) ?_
    refine W.widen (k := 601024) (n := 7293034) hcn hsn ?_
    refine W.base ?_
    exact lw_ret (Drawn.sameBut.refl s.drawn lw_cs) hx hb hr hlocks dL_law_2565
  · rw [v0, v129, v137]
    exact lv_sub hl [4, 3, 2, 1, 0] rfl
-- ===== YOUR PART ENDS =====
set_option maxHeartbeats 4000000 in
theorem lw_walk (l : Launch) (hflags : l.flags = flags0) (b : Addr) (xs : List Int32) : MetFree l x (headSpec (Jvm.Cond.code x code maxLocals ret :: tables_1) room_1) (lw_P b xs) (fun _ _ _ _ _ => True) lw_Q := by
  refine MetFree.of_bodyS (code := code) (maxLocals := maxLocals) (ret := ret) (by decide) ?_ ?_
  · intro args s m h hn
    obtain ⟨meth, c, h1, h2, h3, h4, h5, h6, -, -⟩ := Cond.code_spec hn (atoms_spec (ws := Jvm.Cond.code x code maxLocals ret :: tables_1) h _ List.mem_cons_self)
    exact ⟨meth, c, h1, h2, h3, h4, h5, h6⟩
  · intro p e s m args below meth c s₁ B hml0 hP _
    obtain ⟨rfl, hx, hbd, hgv⟩ := hP
    obtain ⟨scr, harrAt, hlist, hof, hsmall⟩ := hx
    obtain ⟨hcb, hkn, -, -⟩ := State.arrayAt?_spec harrAt
    have hown : s.vm.findClass R_law = some m.cls := findClass_of_methodNamed B.named
    have hts0 : ∀ c ∈ (Jvm.Cond.code x code maxLocals ret :: tables_1), c.before #[Value.ref b] s = true := atoms_spec (ws := Jvm.Cond.code x code maxLocals ret :: tables_1) B.pre
    have hts : ∀ w ∈ lw_tbl, w.before #[Value.ref b] s = true := k2_hts_sels lw_privs (fun w hw => hts0 w (List.mem_cons_of_mem _ hw)) lw_privs_ok
    have hml : c.maxLocals = 9 := B.maxLocals_eq (hts0 _ List.mem_cons_self)
    have X₀ : Stand p l e room_1 s m #[Value.ref b] below meth c s₁ [] 0 0 := Stand.of_body B
    have hh0 : s₁.heap = s.heap := by rw [B.state]; rfl
    have hsz : scr.slots.size = xs.length := by rw [← Array.length_toList, hlist, List.length_map]
    have hval : ∀ j : Nat, j < xs.length → scr.slots[j]? = some (.int (xs.getD j 0)) := fun j hj => by
      rw [← Array.getElem?_toList, hlist]
      simp [hj]
    have hbl : b < s.heap.size := (Array.getElem?_eq_some_iff.mp hcb).1
    have hX : va_X b xs.length (fun j => xs.getD j 0) s s.heap := ⟨scr, hcb, hof, hkn, hsz, hval⟩
    have K : W p l e room_1 s m #[Value.ref b] below meth c s₁.heap [] 0 0 (lw_Z below #[Value.ref b] s) (entryFrame m ([Value.ref b] : List Value).toArray 9) := by
      rw [hh0]
      exact whole_start l hflags hbd ⟨B.exec, B.bytes, B.returns, hml, hown, hts, hX, hbl, B.notSynchronized, hgv⟩
    obtain ⟨t, a1, o, b1, b2, b3⟩ := K s₁ rfl X₀
    exact ⟨t, o, a1, b1, b2, b3⟩
theorem lw_pre_spec {args : Array Value} {s : State} (h : (Jvm.Cond.and given_1 narrow_1).before args s = true) (hr : rest_1_c.before args s = true) : ∃ (b : Addr) (xs : List Int32), lw_P b xs args s := by
  have hs := flat_of_before _ h
  have hq := flat_of_before _ hr
  have hc : (Cond.count 1).before args s = true := hs _ (by decide +kernel)
  have harr : (Cond.arrayOf (.arg 0) .int).before args s = true := hs _ (by decide +kernel)
  have hle : (Cond.le (.length (.arg 0)) (.int 2048)).before args s = true := hs _ (by decide +kernel)
  have hlen : (Cond.isInt (.length (.arg 0))).before args s = true := hq _ (by decide +kernel)
  have hall : (Cond.all (.arg 0) (.isInt (.elem (.arg 0) (.index 0)))).before args s = true := hq _ (by decide +kernel)
  obtain ⟨b, xs, hb, hx⟩ := State.ints_of_pre rfl harr hlen hall
  have hsm : xs.length < 2 ^ 31 := hx.choose_spec.2.2.2
  have hev : (Term.length (.arg 0)).eval args s none [] s = some (.int xs.length.toInt32) := hx.length_eval hb
  have hv := Cond.le_ints hev (show (Term.int 2048).eval args s none [] s = some (.int 2048) from rfl)
  have hd : xs.length.toInt32 ≤ 2048 := by
    simpa [Cond.before, Cond.holds, hv] using hle
  have hN : xs.length ≤ 2048 := (Int32.ofNat_le_ofNat hsm (by decide)).mp (show Int32.ofNat xs.length ≤ Int32.ofNat 2048 from hd)
  exact ⟨b, xs, Cond.one_arg hc (show args[0]? = some (.ref b) from hb), hx, hN, h⟩
theorem lw_comes (l : Launch) (hflags : l.flags = flags0) : Comes l x (Jvm.Cond.code x code maxLocals ret :: tables_1) room_1 (fun tb e args s => Calls_1 tb e args s ∧ rest_1 tb e args s ∧ Pre_1 tb e args s)
    (fun _ _ args s o t => lw_Q args s o t) := by
  intro p e ha hc hk s m args below hf hfit hheap happ hpre
  obtain ⟨b, xs, hP⟩ := lw_pre_spec hpre.2.2 hpre.2.1
  obtain ⟨k, o, h1, h2, h3, hQ⟩ := lw_walk l hflags b xs p e ha hc hk s m args below hf ((Spec.applies_iff_loose hf).mp happ).1 hP trivial
  exact ⟨k, o, h1, h2, h3, hQ⟩
theorem lw_frame {s t : State} {o : Outcome} {args : Array Value} (h : State.butDraws s t lw_cs (fun t1 => Framed s o t1 [] 601024 7293034)) :
    State.butDraws s t [Jvm.Choice.named "NaN.bits"] (fun t1 => Framed s o t1 (fieldLocs frame_1_writes args s ++ arrayLocs frame_1_arrays args s ++ staticLocs frame_1_statics s) 601024 7293034) := h
theorem lw_limb (L : Cond) (hL : ∀ (args : Array Value) (s t : State), L.after args s (.returned (some (.int 1))) t = true) :
    ArmFor flags0 classFile x code maxLocals ret World_1 tables_1 room_1 Calls_1 rest_1 Pre_1
      (fun tb e a s o t => postC L tb e a s o t ∧ State.butDraws s t [Jvm.Choice.named "NaN.bits"] (fun t1 => Framed s o t1 (fieldLocs frame_1_writes a s ++ arrayLocs frame_1_arrays a s ++ staticLocs frame_1_statics s) 601024 7293034)) := by
  intro l hflags _ _ p e ha hc hk s m args below hf hfit hheap happ hpre
  obtain ⟨k, o, h1, h2, h3, rfl, hF⟩ := lw_comes l hflags p e ha hc hk s m args below hf hfit hheap happ hpre
  exact ⟨k, _, h1, h2, h3, hL args s _, lw_frame hF⟩
theorem i_vc : Claimed_1_1 ∧ Claimed_1_2 := ⟨lw_limb limb_1_1 (fun args s t => by simp [limb_1_1, Cond.after, Cond.holds, Cond.value]), lw_limb limb_1_2 (fun args s t => Cond.after_iff.mpr (by
  first | (rw [show limb_1_2 = Cond.eq .result (.int 1) from rfl, Cond.eq_ints (x := 1) (y := 1) rfl rfl]; simp; done) | (simp [limb_1_2, Cond.value, Term.eval]; done)))⟩
