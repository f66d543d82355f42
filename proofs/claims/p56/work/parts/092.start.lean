/-! THE CLAIM OUT OF ONE WALK OF THE LAW'S BODY. Your part is whole_start (and what it stands on); all else here is the same for every law, but numbers. -/
def R_law : String := "SparrowRaceLaw"
def lw_P (b : Addr) (xs : List Int32) (args : Array Value) (s : State) : Prop := args = #[.ref b] ∧ s.IntsAt b xs ∧ xs.length ≤ 260 ∧ (Jvm.Cond.and given_1 narrow_1).before args s = true
/-- what a walk over the start with the record d0 says of its end, said of the start itself -/
theorem lw_closed {s t : State} {o : Outcome} {d0 : Drawn} {L : List Loc} {k n : Nat} (hd0 : s.drawn.sameBut d0 lw_cs) (hv : ∃ v, o = .returned v) (hW : (s.setDrawn d0).WarmedH t.vm) (hs : (s.setDrawn d0).sameButNew ({ t with vm := s.vm } : State) L k n) : State.butDraws s t lw_cs (fun t1 => Framed s o t1 L k n) := by
  have h2 : t.drawn = d0 := congrArg State.drawn hs.1
  refine ⟨⟨hv, hW, State.sameButNew.setDrawn hs s.drawn⟩, ?_, by decide⟩
  rw [h2]
  exact hd0
def lw_Q (_ : Array Value) (s : State) (o : Outcome) (t : State) : Prop := o = .returned (some (.int 1)) ∧ State.butDraws s t lw_cs (fun t1 => Framed s o t1 [] 650924 7148697)
def lw_Z (below : List Frame) (a : Array Value) (s : State) : State → Prop := fun t => ∃ o, t.status = .running ∧ Ended t below o ∧ lw_Q a s o t
/-- the law's own end, with 1 on the stack, nothing written that was there before, its room as the claim has it; d0: the record of draws at this point (at the entry s.drawn: begin with 'refine W.base ?_' and 'have hd0 := Drawn.sameBut.refl s.drawn lw_cs') -/
theorem lw_ret {p : Program} {l : Launch} {e : Env} {s : State} {m : MethodId} {below : List Frame} {meth : Method} {c : Code} {b : Nat} {d0 : Drawn} (hd0 : s.drawn.sameBut d0 lw_cs) (hx : p.tables.exec = Jvm.exec) (hb : c.code = code) (hr : meth.sig.returnType = ret) (hlocks : meth.locks = false) {pc : Nat} {H : Heap} {ls : Array Slot} (hdg : decode code pc = .ok (.ireturn, 1)) : W p l e room_1 (s.setDrawn d0) m #[Value.ref b] below meth c H [] 650924 7148697 (lw_Z below #[Value.ref b] s) (F0 m pc ls [.int 1]) := by
  intro T hT X
  obtain ⟨fs, hret, hrun, hended, hW, hframe⟩ := X.leave (v := some (.int 1)) (hlocks := hlocks) (fun h => by rw [hr] at h; cases h)
  have hmeth' : T.vm.method? m = some meth := X.method'
  refine ⟨T.setFrames fs, ?_, .returned (some (.int 1)), hrun, hended, rfl, lw_closed hd0 ⟨_, rfl⟩ hW hframe⟩
  jvm_step X.here [X.here.top, hx, hb, hdg, hmeth', hr, ret, narrow_b1]
  (try refine ⟨rfl, ?_⟩); (try refine ⟨rfl, ?_⟩)
  first | (intro acts; rw [hret _ acts rfl rfl rfl]) | rw [hret _ _ rfl rfl rfl]
  exact Steps.refl _
/-- what holds at the law's entry: the machine, the code, the tables' words (any of lw_tbl by 'hts w (by decide +kernel)'), the script of L ints xs at the cell b, what the Statement gives of the start (any of its parts by flat_of_before) -/
def lw_At (p : Program) (s : State) (m : MethodId) (meth : Method) (c : Code) (b L : Nat) (xs : Nat → Int32) : Prop :=
  p.tables.exec = Jvm.exec ∧ c.code = code ∧ meth.sig.returnType = ret ∧ c.maxLocals = 12 ∧ s.vm.findClass R_law = some m.cls ∧ (∀ w ∈ lw_tbl, w.before #[Value.ref b] s = true) ∧ va_X b L xs s s.heap ∧ b < s.heap.size ∧ meth.locks = false ∧ (Jvm.Cond.and given_1 narrow_1).before #[Value.ref b] s = true
-- ===== YOUR PART BEGINS =====
theorem zt_c7 : Cond.classLink RL 10 RX7 ∈ wsL_law := by decide +kernel
theorem zt_n7 : Cond.instantiable RX7 6 ∈ wsL_law := by decide +kernel
theorem zt_i7 : Cond.initialized RX7 ∈ wsL_law := by decide +kernel
theorem zt_mL7 : Cond.methodLink RL 264 yX7_init ∈ wsL_law := by decide +kernel
theorem zt_iL7 : Cond.instanceMethod yX7_init ∈ wsL_law := by decide +kernel
theorem zt_flags {l : Launch} (h : l.flags = flags0) : l.stackTraces = false := by
  unfold Launch.stackTraces
  rw [h]
  decide
set_option maxHeartbeats 8000000 in
set_option maxRecDepth 100000 in
/-- THE LAW, from its entry -/
theorem whole_start {p : Program} {e : Env} {s : State} {m : MethodId} {below : List Frame} {meth : Method} {c : Code} (l : Launch) (hflags : l.flags = flags0) {b L : Nat} {xs : Nat → Int32} (hL : L ≤ 260) (C0 : lw_At p s m meth c b L xs) : W p l e room_1 s m #[Value.ref b] below meth c s.heap [] 0 0 (lw_Z below #[Value.ref b] s) (entryFrame m ([Value.ref b] : List Value).toArray 12) := by
  obtain ⟨hx, hb, hr, hml, hown, hts, hX, hbl, hlocks, hgv⟩ := id C0
  obtain ⟨A, hAe⟩ : ∃ A : Nat → Prop, A = fun q : Nat => s.heap.size ≤ q := ⟨_, rfl⟩
  have hA : ∀ q : Nat, s.heap.size ≤ q → A q := fun q h => by rw [hAe]; exact h
  have hAn : ∀ a : Nat, a < s.heap.size → ¬ A a := fun a h => by rw [hAe]; exact Nat.not_le.mpr h
  have hbA : ¬ A b := hAn b hbl
  have hlf := zt_flags hflags
  obtain ⟨dC, dI, ca, hK⟩ := zt_K hts
  have hth := zt_Th hts hgv hAn
  have X : zkCx p s m #[Value.ref b] c RL cL_law wsL_law 12 dC dI ca A := ⟨hx, hb, hml, hown, fun w hw => hts w (wsL_law_in w hw), hK, hA, hth, va_AO.of (hts _ zt_over6), va_AO.of (hts _ zt_over3)⟩
  have hS : va_S A s.heap s.heap [] := va_S.rf
  have hP : va_P (dC, dI) vwCl (zkW 0 (fun _ => 0) (fun _ => .inr (0, []))) s.heap := fun k q h => by simp [zkW] at h
  have hD : va_D A (zkW 0 (fun _ => 0) (fun _ => .inr (0, []))) := ⟨fun i j p q h => by simp [zkW] at h, fun k q h => by simp [zkW] at h⟩
  have hl := lv_entry ([.ref b] : List Value) (n := 12) (Nat.le_of_ble_eq_true rfl)
  rw [lg_entry_eq]
  generalize (lg_sl ([.ref b] : List Value) ++ List.replicate (12 - (lg_sl ([.ref b] : List Value)).length) Slot.unset).toArray = ls at hl ⊢
  have hl : lv_has ls 12 [(0, .ref b)] := hl
  refine zk_new (N := 0) (ci := 7) (C := RX7) (T := TX7) (Nf := 6) (fs := [.null, .null, .null, .null, .null, .null]) (ty0 := tyX7) X hP hD hS rfl inlX7 tyX7_ok zt_c7 zt_n7 zt_i7 (fun j hj => by match j, hj with | 0, _ => rfl | 1, _ => rfl | 2, _ => rfl | 3, _ => rfl | 4, _ => rfl | 5, _ => rfl) (Nat.le_of_ble_eq_true rfl) (Nat.le_of_ble_eq_true rfl) dL_law_0 (fun q1 H hP hD hS => ?_)
  refine lv_dup hx hb dL_law_3 rfl ?_
  refine zk_callI (As := []) (rest := [.ref q1]) X hP hD hS (zc_X7_init zkB_at zkE_at) (cwI 0 X.ts gL_law_X7_init rfl rfl rfl (X.ts _ zt_i7) (X.ts _ zt_mL7) (X.ts _ zt_iL7) rfl (by decide +kernel) ⟨Nat.le_of_ble_eq_true rfl, Nat.le_of_ble_eq_true rfl⟩) rfl hl.1 rfl (Nat.le_of_ble_eq_true rfl) dL_law_4 ⟨Nat.le_of_ble_eq_true rfl, Nat.le_of_ble_eq_true rfl⟩ (fun u H locs hu hP hD hS => ?_)
  obtain ⟨b1, E1⟩ := u
  have a1 : b1 0 = q1 := hu.1.trans zkB_at
  have g1 : zkGame ca b1 E1 := hu.2
  clear hu
  dsimp only at hP hD
  have hD1 := hD
  refine lv_astore_n (lv' := [(1, .ref q1), (0, .ref b)]) hx hb dL_law_7 rfl hl (by decide) rfl (fun ls hl => ?_)
  refine zk_new (N := 129) (ci := 7) (C := RX7) (T := TX7) (Nf := 6) (fs := [.null, .null, .null, .null, .null, .null]) (ty0 := tyX7) X hP hD hS rfl inlX7 tyX7_ok zt_c7 zt_n7 zt_i7 (fun j hj => by match j, hj with | 0, _ => rfl | 1, _ => rfl | 2, _ => rfl | 3, _ => rfl | 4, _ => rfl | 5, _ => rfl) (Nat.le_of_ble_eq_true rfl) (Nat.le_of_ble_eq_true rfl) dL_law_8 (fun q2 H hP hD hS => ?_)
  refine lv_dup hx hb dL_law_11 rfl ?_
  -- the two worlds from here on: the first game's cells, and the second's own
  have at1 : ∀ k, k < 129 → (zkW 130 (zkB b1 129 q2) (zkE E1 129 (.inr (7, [.null, .null, .null, .null, .null, .null]))))[k]? = some (b1 k, E1 k) := fun k hk => by
    rw [zkW_at (show k < 130 by omega) rfl, zkB_ne (by omega), zkE_ne (by omega)]
  have at2 : (zkW 130 (zkB b1 129 q2) (zkE E1 129 (.inr (7, [.null, .null, .null, .null, .null, .null]))))[129]? = some (q2, .inr (7, [.null, .null, .null, .null, .null, .null])) := by
    rw [zkW_at (show 129 < 130 by omega) rfl, zkB_at, zkE_at]
  have z1 : ∀ k q, (zkW 129 b1 E1)[k]? = some q → k < 129 ∧ q = (b1 k, E1 k) := fun k q h => by
    simp only [zkW, List.getElem?_map, List.getElem?_range] at h
    by_cases hk : k < 129
    · rw [List.getElem?_range hk] at h
      exact ⟨hk, (Option.some.inj h).symm⟩
    · rw [List.getElem?_eq_none (by rw [List.length_range]; omega)] at h
      exact absurd h (by simp)
  have hP1 : va_P (dC, dI) vwCl (zkW 129 b1 E1) H := fun k q h => by
    obtain ⟨hk, rfl⟩ := z1 k q h
    exact hP k _ (at1 k hk)
  have hP2 : va_P (dC, dI) vwCl (zkW 1 (fun _ => q2) (fun _ => .inr (7, [.null, .null, .null, .null, .null, .null]))) H := fun k q h => by
    have hk : k = 0 := by
      by_cases hk : k < 1
      · omega
      · exfalso
        simp only [zkW, List.getElem?_map] at h
        rw [List.getElem?_eq_none (by rw [List.length_range]; omega)] at h
        exact absurd h (by simp)
    subst hk
    have : q = (q2, .inr (7, [.null, .null, .null, .null, .null, .null])) := (Option.some.inj ((zkW_at (b := fun _ => q2) (E := fun _ => .inr (7, [.null, .null, .null, .null, .null, .null])) (show 0 < 1 by omega) rfl).symm.trans h)).symm
    rw [this]
    exact hP 129 _ at2
  have hne : ∀ k, k < 129 → b1 k ≠ q2 := fun k hk e => by
    have := hD.1 k 129 _ _ (at1 k hk) at2 e
    omega
  have hlt : ∀ k, k < 129 → b1 k < H.size := fun k hk => (hP1 k _ (zkW_at hk rfl)).lt
  obtain ⟨A2, hA2e⟩ : ∃ A2 : Nat → Prop, A2 = fun q : Nat => H.size ≤ q ∨ q = q2 := ⟨_, rfl⟩
  have hA2 : ∀ q, A2 q → A q := fun q h => by
    rw [hA2e] at h
    rcases h with h | h
    · exact hA q (Nat.le_trans hS.1 h)
    · rw [h]; exact hD.2 129 _ at2
  have hD2 : va_D A2 (zkW 1 (fun _ => q2) (fun _ => .inr (7, [.null, .null, .null, .null, .null, .null]))) := by
    have zz : ∀ k q, (zkW 1 (fun _ => q2) (fun _ => .inr (7, [.null, .null, .null, .null, .null, .null])))[k]? = some q → k = 0 ∧ q.1 = q2 := fun k q h => by
      have hk : k = 0 := by
        by_cases hk : k < 1
        · omega
        · exfalso
          simp only [zkW, List.getElem?_map] at h
          rw [List.getElem?_eq_none (by rw [List.length_range]; omega)] at h
          exact absurd h (by simp)
      subst hk
      exact ⟨rfl, congrArg (fun z => z.1) (Option.some.inj ((zkW_at (b := fun _ => q2) (E := fun _ => .inr (7, [.null, .null, .null, .null, .null, .null])) (show 0 < 1 by omega) rfl).symm.trans h)).symm⟩
    refine ⟨fun i j p q h1 h2 _ => (zz i p h1).1.trans (zz j q h2).1.symm, fun k q h => ?_⟩
    rw [(zz k q h).2, hA2e]; exact Or.inr rfl
  refine va_callv (S := (Nat → Nat) × (Nat → va_E)) (va_runI (As := []) (rest := [.ref q2]) X.fix (zc_X7_init (dC := dC) (dI := dI) (ca := ca) (A := A2) (a0 := q2) (b := fun _ => q2) (E := fun _ => .inr (7, [.null, .null, .null, .null, .null, .null])) rfl rfl) (cwI 0 X.ts gL_law_X7_init rfl rfl rfl (X.ts _ zt_i7) (X.ts _ zt_mL7) (X.ts _ zt_iL7) rfl (by decide +kernel) ⟨Nat.le_of_ble_eq_true rfl, Nat.le_of_ble_eq_true rfl⟩) ⟨zkBlind, fun U hU hW => ⟨rfl, by rw [hU]; exact hP2, hD2, va_K.moved hW.alike X.K, fun q hq => by rw [hA2e]; exact Or.inl (by rw [← hU]; exact hq), by rw [hU]; exact ((X.th.kept hS.2.1).warm hW).narrow hA2, va_AO.moved hW.alike X.ao.1, va_AO.moved hW.alike X.ao.2⟩⟩ rfl rfl hl.1 rfl (lv_room (Nat.le_of_ble_eq_true rfl)) dL_law_12 ⟨Nat.le_of_ble_eq_true rfl, Nat.le_of_ble_eq_true rfl⟩) hS (fun q _ h => hA2 q h) (fun q h => hA2 q h) (fun u t H1 locs1 ht hvm hu hB hz hk hS => ?_)
  obtain ⟨b2, E2⟩ := u
  have a2 : b2 0 = q2 := hu.1
  have g2 : zkGame ca b2 E2 := hu.2
  clear hu
  have hPb : va_P (dC, dI) vwCl (zkW 129 b2 E2) H1 := by rw [← ht]; exact hB.1
  have hDb : va_D A2 (zkW 129 b2 E2) := hB.2
  have hPa : va_P (dC, dI) vwCl (zkW 129 b1 E1) H1 := hP1.kept (fun k q h => by
    obtain ⟨hk2, rfl⟩ := z1 k q h
    exact hk _ (hlt k hk2) (fun z => by
      rw [hA2e] at z
      rcases z with z | z
      · exact absurd (hlt k hk2) (Nat.not_lt.mpr z)
      · exact hne k hk2 z))
  refine lv_astore_n (lv' := [(2, .ref q2), (1, .ref q1), (0, .ref b)]) hx hb dL_law_15 rfl hl (by decide) rfl (fun ls hl => ?_)
  have had1 : gAd A b1 129 := zk_Ad hD1
  have had2' : gAd A2 b2 129 := zk_Ad hDb
  have had2 : gAd A b2 129 := ⟨fun k hk => hA2 _ (had2'.1 k hk), had2'.2⟩
  have hdj : ∀ i j, i < 129 → j < 129 → b2 i ≠ b1 j := fun i j hi hj e => by
    have z := had2'.1 i hi
    rw [e, hA2e] at z
    rcases z with z | z
    · exact absurd (hlt j hj) (Nat.not_lt.mpr z)
    · exact hne j hj z
  have eW1 : zkW 129 b1 E1 = hW 129 ca b1 w0I w0O w0J := zk_hW (zk_first g1)
  have eW2 : zkW 129 b2 E2 = hW 129 ca b2 w0I w0O w0J := zk_hW (zk_first g2)
  rw [eW1] at hPa
  rw [eW2] at hPb
  have Xp : pCx p s m #[Value.ref b] c RL cL_law wsL_law 12 dC dI ca A := ⟨hx, hb, hml, hown, X.ts, hK, hA, hth⟩
  refine W.widen (k := 258) (n := 3600) (Nat.le_of_ble_eq_true rfl) (Nat.le_of_ble_eq_true rfl) ?_
  refine law_walk hlf Xp had1 had2 hdj (fun i j hi hj e => hdj j i hj hi e.symm) hX hbl hbA (fun H locs ls hS => ?_) w0I w0O w0J w0I w0O w0J law_all H1 locs1 ls hPa hPb hS ?_
  · refine va_forget (fun q hq => by have := hS.2.2 q hq; rw [hAe] at this; exact this) ?_
    refine W.base ?_
    exact lw_ret (Drawn.sameBut.refl s.drawn lw_cs) hx hb hr hlocks dL_law_686
  · rw [a1, a2]
    exact lv_sub hl [2, 1, 0] rfl
-- ===== YOUR PART ENDS =====
set_option maxHeartbeats 4000000 in
theorem lw_walk (l : Launch) (hflags : l.flags = flags0) (b : Addr) (xs : List Int32) : MetFree l x (headSpec (Jvm.Cond.code x code maxLocals ret :: tables_1) room_1) (lw_P b xs) (fun _ _ _ _ _ => True) lw_Q := by
  refine MetFree.of_bodyS (code := code) (maxLocals := maxLocals) (ret := ret) (by decide) ?_ ?_
  · intro args s m h hn
    obtain ⟨meth, c, h1, h2, h3, h4, h5, h6, -, -⟩ := Cond.code_spec hn (atoms_spec (ws := Jvm.Cond.code x code maxLocals ret :: tables_1) h _ List.mem_cons_self)
    exact ⟨meth, c, h1, h2, h3, h4, h5, h6⟩
  · intro p e s m args below meth c s₁ B hml0 hP _
    obtain ⟨rfl, hx, hbd, hgv⟩ := hP
    obtain ⟨scr, harrAt, hlist, hof, hsmall⟩ := hx
    obtain ⟨hcb, hkn, -, -⟩ := State.arrayAt?_spec harrAt
    have hown : s.vm.findClass R_law = some m.cls := findClass_of_methodNamed B.named
    have hts0 : ∀ c ∈ (Jvm.Cond.code x code maxLocals ret :: tables_1), c.before #[Value.ref b] s = true := atoms_spec (ws := Jvm.Cond.code x code maxLocals ret :: tables_1) B.pre
    have hts : ∀ w ∈ lw_tbl, w.before #[Value.ref b] s = true := k2_hts_sels lw_privs (fun w hw => hts0 w (List.mem_cons_of_mem _ hw)) lw_privs_ok
    have hml : c.maxLocals = 12 := B.maxLocals_eq (hts0 _ List.mem_cons_self)
    have X₀ : Stand p l e room_1 s m #[Value.ref b] below meth c s₁ [] 0 0 := Stand.of_body B
    have hh0 : s₁.heap = s.heap := by rw [B.state]; rfl
    have hsz : scr.slots.size = xs.length := by rw [← Array.length_toList, hlist, List.length_map]
    have hval : ∀ j : Nat, j < xs.length → scr.slots[j]? = some (.int (xs.getD j 0)) := fun j hj => by
      rw [← Array.getElem?_toList, hlist]
      simp [hj]
    have hbl : b < s.heap.size := (Array.getElem?_eq_some_iff.mp hcb).1
    have hX : va_X b xs.length (fun j => xs.getD j 0) s s.heap := ⟨scr, hcb, hof, hkn, hsz, hval⟩
    have K : W p l e room_1 s m #[Value.ref b] below meth c s₁.heap [] 0 0 (lw_Z below #[Value.ref b] s) (entryFrame m ([Value.ref b] : List Value).toArray 12) := by
      rw [hh0]
      exact whole_start l hflags hbd ⟨B.exec, B.bytes, B.returns, hml, hown, hts, hX, hbl, B.notSynchronized, hgv⟩
    obtain ⟨t, a1, o, b1, b2, b3⟩ := K s₁ rfl X₀
    exact ⟨t, o, a1, b1, b2, b3⟩
theorem lw_pre_spec {args : Array Value} {s : State} (h : (Jvm.Cond.and given_1 narrow_1).before args s = true) (hr : rest_1_c.before args s = true) : ∃ (b : Addr) (xs : List Int32), lw_P b xs args s := by
  have hs := flat_of_before _ h
  have hq := flat_of_before _ hr
  have hc : (Cond.count 1).before args s = true := hs _ (by decide +kernel)
  have harr : (Cond.arrayOf (.arg 0) .int).before args s = true := hs _ (by decide +kernel)
  have hle : (Cond.le (.length (.arg 0)) (.int 260)).before args s = true := hs _ (by decide +kernel)
  have hlen : (Cond.isInt (.length (.arg 0))).before args s = true := hq _ (by decide +kernel)
  have hall : (Cond.all (.arg 0) (.isInt (.elem (.arg 0) (.index 0)))).before args s = true := hq _ (by decide +kernel)
  obtain ⟨b, xs, hb, hx⟩ := State.ints_of_pre rfl harr hlen hall
  have hsm : xs.length < 2 ^ 31 := hx.choose_spec.2.2.2
  have hev : (Term.length (.arg 0)).eval args s none [] s = some (.int xs.length.toInt32) := hx.length_eval hb
  have hv := Cond.le_ints hev (show (Term.int 260).eval args s none [] s = some (.int 260) from rfl)
  have hd : xs.length.toInt32 ≤ 260 := by
    simpa [Cond.before, Cond.holds, hv] using hle
  have hN : xs.length ≤ 260 := (Int32.ofNat_le_ofNat hsm (by decide)).mp (show Int32.ofNat xs.length ≤ Int32.ofNat 260 from hd)
  exact ⟨b, xs, Cond.one_arg hc (show args[0]? = some (.ref b) from hb), hx, hN, h⟩
theorem lw_comes (l : Launch) (hflags : l.flags = flags0) : Comes l x (Jvm.Cond.code x code maxLocals ret :: tables_1) room_1 (fun tb e args s => Calls_1 tb e args s ∧ rest_1 tb e args s ∧ Pre_1 tb e args s)
    (fun _ _ args s o t => lw_Q args s o t) := by
  intro p e ha hc hk s m args below hf hfit hheap happ hpre
  obtain ⟨b, xs, hP⟩ := lw_pre_spec hpre.2.2 hpre.2.1
  obtain ⟨k, o, h1, h2, h3, hQ⟩ := lw_walk l hflags b xs p e ha hc hk s m args below hf ((Spec.applies_iff_loose hf).mp happ).1 hP trivial
  exact ⟨k, o, h1, h2, h3, hQ⟩
theorem lw_frame {s t : State} {o : Outcome} {args : Array Value} (h : State.butDraws s t lw_cs (fun t1 => Framed s o t1 [] 650924 7148697)) :
    State.butDraws s t [Jvm.Choice.named "NaN.bits"] (fun t1 => Framed s o t1 (fieldLocs frame_1_writes args s ++ arrayLocs frame_1_arrays args s ++ staticLocs frame_1_statics s) 650924 7148697) := h
theorem lw_limb (L : Cond) (hL : ∀ (args : Array Value) (s t : State), L.after args s (.returned (some (.int 1))) t = true) :
    ArmFor flags0 classFile x code maxLocals ret World_1 tables_1 room_1 Calls_1 rest_1 Pre_1
      (fun tb e a s o t => postC L tb e a s o t ∧ State.butDraws s t [Jvm.Choice.named "NaN.bits"] (fun t1 => Framed s o t1 (fieldLocs frame_1_writes a s ++ arrayLocs frame_1_arrays a s ++ staticLocs frame_1_statics s) 650924 7148697)) := by
  intro l hflags _ _ p e ha hc hk s m args below hf hfit hheap happ hpre
  obtain ⟨k, o, h1, h2, h3, rfl, hF⟩ := lw_comes l hflags p e ha hc hk s m args below hf hfit hheap happ hpre
  exact ⟨k, _, h1, h2, h3, hL args s _, lw_frame hF⟩
theorem i_vc : Claimed_1_1 ∧ Claimed_1_2 := ⟨lw_limb limb_1_1 (fun args s t => by simp [limb_1_1, Cond.after, Cond.holds, Cond.value]), lw_limb limb_1_2 (fun args s t => Cond.after_iff.mpr (by
  first | (rw [show limb_1_2 = Cond.eq .result (.int 1) from rfl, Cond.eq_ints (x := 1) (y := 1) rfl rfl]; simp; done) | (simp [limb_1_2, Cond.value, Term.eval]; done)))⟩
