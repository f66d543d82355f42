/-- the world while it is made: so many cells, their addresses, what they hold -/
def zkW (N : Nat) (b : Nat → Nat) (E : Nat → va_E) : va_W := (List.range N).map (fun n => (b n, E n))
def zkE (E : Nat → va_E) (n : Nat) (e : va_E) : Nat → va_E := fun k => if k = n then e else E k
def zkB (b : Nat → Nat) (n q : Nat) : Nat → Nat := fun k => if k = n then q else b k
theorem zkE_at {E : Nat → va_E} {n : Nat} {e : va_E} : zkE E n e n = e := if_pos rfl
theorem zkE_ne {E : Nat → va_E} {n k : Nat} {e : va_E} (h : k ≠ n) : zkE E n e k = E k := if_neg h
theorem zkB_at {b : Nat → Nat} {n q : Nat} : zkB b n q n = q := if_pos rfl
theorem zkB_ne {b : Nat → Nat} {n k q : Nat} (h : k ≠ n) : zkB b n q k = b k := if_neg h
theorem zkW_at {N : Nat} {b : Nat → Nat} {E : Nat → va_E} {n : Nat} {e : va_E} (h : n < N) (he : E n = e) : (zkW N b E)[n]? = some (b n, e) := by simp [zkW, h, he]
theorem zkW_set {N : Nat} {b : Nat → Nat} {E : Nat → va_E} {n : Nat} {e : va_E} : (zkW N b E).set n (b n, e) = zkW N b (zkE E n e) := by
  apply List.ext_getElem?
  intro i
  unfold zkW
  rw [List.getElem?_set]
  by_cases h : n = i
  · subst h
    by_cases hl : n < N
    · simp [hl, zkE]
    · simp [hl]
  · rw [if_neg h]
    by_cases hl : i < N
    · simp [hl, zkE, Ne.symm h]
    · simp [hl]
theorem zkW_app {N : Nat} {b : Nat → Nat} {E : Nat → va_E} {q : Nat} {e : va_E} : zkW N b E ++ [(q, e)] = zkW (N + 1) (zkB b N q) (zkE E N e) := by
  unfold zkW
  rw [List.range_succ, List.map_append]
  congr 1
  · apply List.map_congr_left
    intro k hk
    have : k ≠ N := Nat.ne_of_lt (List.mem_range.mp hk)
    rw [zkB_ne this, zkE_ne this]
  · simp [zkB, zkE]
theorem zkW_congr {N : Nat} {b b' : Nat → Nat} {E E' : Nat → va_E} (hb : ∀ k, k < N → b' k = b k) (hE : ∀ k, k < N → E' k = E k) : zkW N b' E' = zkW N b E := by
  unfold zkW
  apply List.map_congr_left
  intro k hk
  have := List.mem_range.mp hk
  rw [hb k this, hE k this]
/-- a constructor's start -/
def zkPre (dC : Nat → ClassId) (dI : Nat → Nat → Nat) (ca : Nat → ClassId) (A : Nat → Prop) (N : Nat) (b : Nat → Nat) (E : Nat → va_E) (U : State) : Prop :=
  va_P (dC, dI) vwCl (zkW N b E) U.heap ∧ va_D A (zkW N b E) ∧ va_K (dC, dI) vwCl (hT ca) U ∧ (∀ q, U.heap.size ≤ q → A q) ∧ gTh A U U.heap ∧ va_AO RX6 U ∧ va_AO RX3 U
theorem zkBlind {dC : Nat → ClassId} {dI : Nat → Nat → Nat} {ca : Nat → ClassId} {A : Nat → Prop} {N : Nat} {b : Nat → Nat} {E : Nat → va_E} {av : List Value} : FrameBlind (va_Pc av (zkPre dC dI ca A N b E)) := fun a U g mk q => by
  obtain ⟨q0, q1, q2, q3, q4, q5, q6, q7⟩ := q
  exact ⟨q0, q1, q2, va_K.moved (u := U) (U := U.calling g mk a) (Vm.Alike.refl U.vm) q3, q4, gTh.same (s := U) (U := U.calling g mk a) rfl q5, va_AO.moved (u := U) (U := U.calling g mk a) (Vm.Alike.refl U.vm) q6, va_AO.moved (u := U) (U := U.calling g mk a) (Vm.Alike.refl U.vm) q7⟩
/-- a constructor's end -/
def zkEnd (dC : Nat → ClassId) (dI : Nat → Nat → Nat) (A : Nat → Prop) (N : Nat) (u : (Nat → Nat) × (Nat → va_E)) (H : Heap) : Prop := va_P (dC, dI) vwCl (zkW N u.1 u.2) H ∧ va_D A (zkW N u.1 u.2)
/-- what holds all through a constructor's body -/
def zkCx (p : Program) (s : State) (m : MethodId) (args : Array Value) (c : Code) (own : String) (cc : ByteArray) (Ts : List Cond) (nL : Nat) (dC : Nat → ClassId) (dI : Nat → Nat → Nat) (ca : Nat → ClassId) (A : Nat → Prop) : Prop :=
  p.tables.exec = Jvm.exec ∧ c.code = cc ∧ c.maxLocals = nL ∧ s.vm.findClass own = some m.cls ∧ (∀ w ∈ Ts, w.before args s = true) ∧ va_K (dC, dI) vwCl (hT ca) s ∧ (∀ q, s.heap.size ≤ q → A q) ∧ gTh A s s.heap ∧ va_AO RX6 s ∧ va_AO RX3 s
section ZK
variable {p : Program} {l : Launch} {e : Env} {R : Room} {s : State} {m : MethodId} {args : Array Value} {below : List Frame} {meth : Method} {c : Code} {H : Heap} {locs : List Loc} {cells slots : Nat} {Q : State → Prop}
variable {own : String} {cc : ByteArray} {Ts : List Cond} {nL : Nat} {dC : Nat → ClassId} {dI : Nat → Nat → Nat} {ca : Nat → ClassId} {A : Nat → Prop} {N : Nat} {b : Nat → Nat} {E : Nat → va_E} {pc : Nat} {ls : Array Slot} {rest : List Value}
theorem zkCx.x (X : zkCx p s m args c own cc Ts nL dC dI ca A) : p.tables.exec = Jvm.exec := X.1
theorem zkCx.cb (X : zkCx p s m args c own cc Ts nL dC dI ca A) : c.code = cc := X.2.1
theorem zkCx.ow (X : zkCx p s m args c own cc Ts nL dC dI ca A) : s.vm.findClass own = some m.cls := X.2.2.2.1
theorem zkCx.ts (X : zkCx p s m args c own cc Ts nL dC dI ca A) : ∀ w ∈ Ts, w.before args s = true := X.2.2.2.2.1
theorem zkCx.K (X : zkCx p s m args c own cc Ts nL dC dI ca A) : va_K (dC, dI) vwCl (hT ca) s := X.2.2.2.2.2.1
theorem zkCx.aa (X : zkCx p s m args c own cc Ts nL dC dI ca A) : ∀ q, s.heap.size ≤ q → A q := X.2.2.2.2.2.2.1
theorem zkCx.th (X : zkCx p s m args c own cc Ts nL dC dI ca A) : gTh A s s.heap := X.2.2.2.2.2.2.2.1
theorem zkCx.ao (X : zkCx p s m args c own cc Ts nL dC dI ca A) : va_AO RX6 s ∧ va_AO RX3 s := X.2.2.2.2.2.2.2.2
theorem zkCx.fix (X : zkCx p s m args c own cc Ts nL dC dI ca A) : CallFix p m c cc nL s args Ts own := ⟨X.1, X.2.1, X.2.2.1, X.2.2.2.1, X.2.2.2.2.1⟩
theorem zkCx.pre (X : zkCx p s m args c own cc Ts nL dC dI ca A) (hP : va_P (dC, dI) vwCl (zkW N b E) H) (hD : va_D A (zkW N b E)) (hS : va_S A s.heap H locs) : ∀ U : State, U.heap = H → s.WarmedH U.vm → zkPre dC dI ca A N b E U := fun U hU hW =>
  ⟨by rw [hU]; exact hP, hD, va_K.moved hW.alike X.K, fun q hq => X.aa q (Nat.le_trans hS.1 (by rw [← hU]; exact hq)), by rw [hU]; exact (X.th.kept hS.2.1).warm hW, va_AO.moved hW.alike X.ao.1, va_AO.moved hW.alike X.ao.2⟩
theorem zk_get {a : Nat} {n ci k index Nf : Nat} {C : String} {T : u_T} {fs : List Value} {v : Value} (X : zkCx p s m args c own cc Ts nL dC dI ca A) (hP : va_P (dC, dI) vwCl (zkW N b E) H) (ha : b n = a) (hn : n < N) (he : E n = .inr (ci, fs)) (hc : vwCl[ci]? = some (C, T, Nf)) (hin : ∀ w ∈ u_ws C T Nf, w ∈ Ts) (hk : k < Nf) (hl : Cond.fieldLink own index (T k).1 (T k).2.1 (T k).2.2.1 ∈ Ts) (hv : fs[k]? = some v) (hdg : decode cc pc = .ok (.getfield index, 3)) (kk : W p l e R s m args below meth c H locs cells slots Q (F0 m (pc + 3) ls (v :: rest))) : W p l e R s m args below meth c H locs cells slots Q (F0 m pc ls (.ref a :: rest)) := by
  subst ha
  exact va_get X.x X.cb X.ts hin X.ow X.K hP n (zkW_at hn he) hc k hk (X.ts _ hl) (fun _ h9 => h9) hv hdg kk
theorem zk_put {a : Nat} {n ci k index Nf : Nat} {C : String} {T : u_T} {fs : List Value} {v : Value} {ty : FieldType} {ty0 : Nat → FieldType} (X : zkCx p s m args c own cc Ts nL dC dI ca A) (hP : va_P (dC, dI) vwCl (zkW N b E) H) (hD : va_D A (zkW N b E)) (hS : va_S A s.heap H locs) (ha : b n = a) (hn : n < N) (he : E n = .inr (ci, fs)) (hc : vwCl[ci]? = some (C, T, Nf)) (hin : ∀ w ∈ u_ws C T Nf, w ∈ Ts) (hty : ∀ k, k < Nf → parseFieldDescriptor (T k).2.2.1 = some (ty0 k)) (hnm : ∀ a, a < Nf → ∀ b, b < Nf → a ≠ b → (T a).2.1 ≠ (T b).2.1) (hk : k < Nf) (hl : Cond.fieldLink own index (T k).1 (T k).2.1 (T k).2.2.1 ∈ Ts) (hfin : (T k).2.2.2 = false) (hd : parseFieldDescriptor (T k).2.2.1 = some ty) (hnar : narrow ty v = v) (hfit : fits ty v = true) (hlen : k < fs.length) (hdg : decode cc pc = .ok (.putfield index, 3))
    (kk : ∀ (H1 : Heap) (locs1 : List Loc), va_P (dC, dI) vwCl (zkW N b (zkE E n (.inr (ci, fs.set k v)))) H1 → va_D A (zkW N b (zkE E n (.inr (ci, fs.set k v)))) → va_S A s.heap H1 locs1 → W p l e R s m args below meth c H1 locs1 cells slots Q (F0 m (pc + 3) ls rest)) : W p l e R s m args below meth c H locs cells slots Q (F0 m pc ls (v :: .ref a :: rest)) := by
  subst ha
  exact va_put X.x X.cb X.ts hin ty0 hty hnm X.ow X.K hP hD hS n (zkW_at hn he) hc k hk (X.ts _ hl) (fun _ h9 => h9) hfin hd hnar hfit hlen hdg (fun H1 locs1 hP1 hD1 hS1 => kk H1 locs1 (by rw [← zkW_set]; exact hP1) (by rw [← zkW_set]; exact hD1) hS1)
theorem zk_putF {a : Nat} {n ci k index Nf : Nat} {C : String} {T : u_T} {fs : List Value} {v : Value} {ty : FieldType} {ty0 : Nat → FieldType} (X : zkCx p s m args c own cc Ts nL dC dI ca A) (hini : meth.name = "<init>") (hP : va_P (dC, dI) vwCl (zkW N b E) H) (hD : va_D A (zkW N b E)) (hS : va_S A s.heap H locs) (ha : b n = a) (hn : n < N) (he : E n = .inr (ci, fs)) (hc : vwCl[ci]? = some (C, T, Nf)) (hin : ∀ w ∈ u_ws C T Nf, w ∈ Ts) (hty : ∀ k, k < Nf → parseFieldDescriptor (T k).2.2.1 = some (ty0 k)) (hnm : ∀ a, a < Nf → ∀ b, b < Nf → a ≠ b → (T a).2.1 ≠ (T b).2.1) (hk : k < Nf) (hl : Cond.fieldLink own index (T k).1 (T k).2.1 (T k).2.2.1 ∈ Ts) (hfin : (T k).2.2.2 = true) (hdecl : (T k).1 = own) (hd : parseFieldDescriptor (T k).2.2.1 = some ty) (hnar : narrow ty v = v) (hfit : fits ty v = true) (hlen : k < fs.length) (hdg : decode cc pc = .ok (.putfield index, 3))
    (kk : ∀ (H1 : Heap) (locs1 : List Loc), va_P (dC, dI) vwCl (zkW N b (zkE E n (.inr (ci, fs.set k v)))) H1 → va_D A (zkW N b (zkE E n (.inr (ci, fs.set k v)))) → va_S A s.heap H1 locs1 → W p l e R s m args below meth c H1 locs1 cells slots Q (F0 m (pc + 3) ls rest)) : W p l e R s m args below meth c H locs cells slots Q (F0 m pc ls (v :: .ref a :: rest)) := by
  subst ha
  exact va_putF X.x X.cb X.ts hin ty0 hty hnm X.ow X.K hP hD hS n (zkW_at hn he) hc k hk (X.ts _ hl) (fun _ h9 => h9) hfin hini hdecl hd hnar hfit hlen hdg (fun H1 locs1 hP1 hD1 hS1 => kk H1 locs1 (by rw [← zkW_set]; exact hP1) (by rw [← zkW_set]; exact hD1) hS1)
theorem zk_new {ci index Nf : Nat} {C : String} {T : u_T} {fs : List Value} {ty0 : Nat → FieldType} (X : zkCx p s m args c own cc Ts nL dC dI ca A) (hP : va_P (dC, dI) vwCl (zkW N b E) H) (hD : va_D A (zkW N b E)) (hS : va_S A s.heap H locs) (hc : vwCl[ci]? = some (C, T, Nf)) (hin : ∀ w ∈ u_ws C T Nf, w ∈ Ts) (hty : ∀ k, k < Nf → parseFieldDescriptor (T k).2.2.1 = some (ty0 k)) (hcl : Cond.classLink own index C ∈ Ts) (hinst : Cond.instantiable C Nf ∈ Ts) (hini : Cond.initialized C ∈ Ts) (hfs : ∀ j, j < Nf → defaultValue (ty0 j) = vp_V fs j) (hcells : cells + 1 ≤ R.cells) (hslots : slots + Nf ≤ R.slots) (hdg : decode cc pc = .ok (.new index, 3))
    (kk : ∀ (q : Nat) (H1 : Heap), va_P (dC, dI) vwCl (zkW (N + 1) (zkB b N q) (zkE E N (.inr (ci, fs)))) H1 → va_D A (zkW (N + 1) (zkB b N q) (zkE E N (.inr (ci, fs)))) → va_S A s.heap H1 locs → W p l e R s m args below meth c H1 locs (cells + 1) (slots + Nf) Q (F0 m (pc + 3) ls (.ref q :: rest))) : W p l e R s m args below meth c H locs cells slots Q (F0 m pc ls rest) :=
  va_new X.x X.cb X.ts hin ty0 hty X.ow (X.ts _ hcl) (X.ts _ hinst) (X.ts _ hini) X.K hP hD hS X.aa hc hfs hcells hslots hdg (fun q H1 hP1 hD1 hS1 => kk q H1 (by rw [← zkW_app]; exact hP1) (by rw [← zkW_app]; exact hD1) hS1)
theorem zk_ca {t : Nat} {ty : FieldType} {cA : ClassId} (X : zkCx p s m args c own cc Ts nL dC dI ca A) (hK : va_K (dC, dI) vwCl (hT ca ++ [(cA, ty)]) s) (ht : (hT ca)[t]? = some (ca t, ty)) (hu : ∀ (U : State) (c1 c2 : ClassId), va_RA U c1 ty → va_RA U c2 ty → c1 = c2) : cA = ca t := hu s cA (ca t) (hK.2 6 (cA, ty) rfl).2 (X.K.2 t _ ht).2
theorem zk_newa {t : Nat} {atype : ArrayType} {ty : FieldType} {n : Int32} {N' : Nat} {a0 : vp_A} (X : zkCx p s m args c own cc Ts nL dC dI ca A) (hP : va_P (dC, dI) vwCl (zkW N b E) H) (hD : va_D A (zkW N b E)) (hS : va_S A s.heap H locs) (harr : Cond.arrayClass ty ∈ Ts) (hty : newarray.typeOf atype = ty) (ht : (hT ca)[t]? = some (ca t, ty)) (hu : ∀ (U : State) (c1 c2 : ClassId), va_RA U c1 ty → va_RA U c2 ty → c1 = c2) (ha : ∀ cA : ClassId, vp_cell cA a0 = arrV cA N' (fun _ => defaultValue ty)) (hn : ¬ n < 0) (hN : n.toNatClampNeg = N') (hbytes : N' * componentBytes ty ≤ 536870912) (hcells : cells + 1 ≤ R.cells) (hslots : slots + N' ≤ R.slots) (hdg : decode cc pc = .ok (.newarray atype, 2))
    (kk : ∀ (q : Nat) (H1 : Heap), va_P (dC, dI) vwCl (zkW (N + 1) (zkB b N q) (zkE E N (.inl (ca t, a0)))) H1 → va_D A (zkW (N + 1) (zkB b N q) (zkE E N (.inl (ca t, a0)))) → va_S A s.heap H1 locs → W p l e R s m args below meth c H1 locs (cells + 1) (slots + N') Q (F0 m (pc + 2) ls (.ref q :: rest))) : W p l e R s m args below meth c H locs cells slots Q (F0 m pc ls (.int n :: rest)) :=
  va_newa X.x X.cb (by rw [hty]; exact X.ts _ harr) hty X.K hP hD hS X.aa ha hn hN hbytes hcells hslots hdg (fun q cA H1 hK1 hP1 hD1 hS1 => by
    have hc := zk_ca X hK1 ht hu
    subst hc
    exact kk q H1 (by rw [← zkW_app]; exact hP1) (by rw [← zkW_app]; exact hD1) hS1)
theorem zk_newq {t index : Nat} {C : String} {n : Int32} {N' : Nat} (X : zkCx p s m args c own cc Ts nL dC dI ca A) (hP : va_P (dC, dI) vwCl (zkW N b E) H) (hD : va_D A (zkW N b E)) (hS : va_S A s.heap H locs) (hcl : Cond.classLink own index C ∈ Ts) (hao : va_AO C s) (ht : (hT ca)[t]? = some (ca t, .object C)) (hn : ¬ n < 0) (hN : n.toNatClampNeg = N') (hbytes : N' * 4 ≤ 536870912) (hcells : cells + 1 ≤ R.cells) (hslots : slots + N' ≤ R.slots) (hdg : decode cc pc = .ok (.anewarray index, 3))
    (kk : ∀ (q : Nat) (H1 : Heap), va_P (dC, dI) vwCl (zkW (N + 1) (zkB b N q) (zkE E N (.inl (ca t, N', .inr (.inr (.inr (.inr (fun _ => none)))))))) H1 → va_D A (zkW (N + 1) (zkB b N q) (zkE E N (.inl (ca t, N', .inr (.inr (.inr (.inr (fun _ => none)))))))) → va_S A s.heap H1 locs → W p l e R s m args below meth c H1 locs (cells + 1) (slots + N') Q (F0 m (pc + 3) ls (.ref q :: rest))) : W p l e R s m args below meth c H locs cells slots Q (F0 m pc ls (.int n :: rest)) :=
  va_newq X.x X.cb X.ow (X.ts _ hcl) hao X.K hP hD hS X.aa hn hN hbytes hcells hslots hdg (fun q cA H1 hK1 hP1 hD1 hS1 => by
    have hc := zk_ca X hK1 ht (fun U c1 c2 h1 h2 => by
      obtain ⟨_, _, _, _, _, h3⟩ := h1
      obtain ⟨_, _, _, _, _, h4⟩ := h2
      exact Option.some.inj (h3.symm.trans h4))
    subst hc
    exact kk q H1 (by rw [← zkW_app]; exact hP1) (by rw [← zkW_app]; exact hD1) hS1)
theorem zk_alen {a : Nat} {n t : Nat} {x : vp_A} {ty : FieldType} {v : Int32} (X : zkCx p s m args c own cc Ts nL dC dI ca A) (hP : va_P (dC, dI) vwCl (zkW N b E) H) (ha : b n = a) (hn : n < N) (he : E n = .inl (ca t, x)) (ht : (hT ca)[t]? = some (ca t, ty)) (hv : Int32.ofNat x.1 = v) (hdg : decode cc pc = .ok (.arraylength, 1)) (kk : W p l e R s m args below meth c H locs cells slots Q (F0 m (pc + 1) ls (.int v :: rest))) : W p l e R s m args below meth c H locs cells slots Q (F0 m pc ls (.ref a :: rest)) := by
  subst ha
  exact va_alen X.x X.cb X.K hP n t (zkW_at hn he) ht hv hdg kk
theorem zk_iast {a : Nat} {n n' : Nat} {f : Nat → Int32} {i v : Int32} (X : zkCx p s m args c own cc Ts nL dC dI ca A) (hP : va_P (dC, dI) vwCl (zkW N b E) H) (hD : va_D A (zkW N b E)) (hS : va_S A s.heap H locs) (ha : b n = a) (hn : n < N) (he : E n = .inl (ca 0, n', .inl f)) (hi : vp_in i n') (hdg : decode cc pc = .ok (.iastore, 1))
    (kk : ∀ (H1 : Heap) (locs1 : List Loc), va_P (dC, dI) vwCl (zkW N b (zkE E n (.inl (ca 0, n', .inl (upd f i.toNatClampNeg v))))) H1 → va_D A (zkW N b (zkE E n (.inl (ca 0, n', .inl (upd f i.toNatClampNeg v))))) → va_S A s.heap H1 locs1 → W p l e R s m args below meth c H1 locs1 cells slots Q (F0 m (pc + 1) ls rest)) : W p l e R s m args below meth c H locs cells slots Q (F0 m pc ls (.int v :: .int i :: .ref a :: rest)) := by
  subst ha
  exact va_iast X.x X.cb X.K hP hD hS n 0 (zkW_at hn he) rfl hi hdg (fun H1 locs1 hP1 hD1 hS1 => kk H1 locs1 (by rw [← zkW_set]; exact hP1) (by rw [← zkW_set]; exact hD1) hS1)
theorem zk_astq {a v9 : Nat} {n n' t qk ci : Nat} {f : Nat → Option Nat} {r : vw_C} {vs : List Value} {i : Int32} (X : zkCx p s m args c own cc Ts nL dC dI ca A) (hP : va_P (dC, dI) vwCl (zkW N b E) H) (hD : va_D A (zkW N b E)) (hS : va_S A s.heap H locs) (ha : b n = a) (hn : n < N) (he : E n = .inl (ca t, n', .inr (.inr (.inr (.inr f))))) (ht : (hT ca)[t]? = some (ca t, .object r.1)) (hv9 : b qk = v9) (hq : qk < N) (hv : E qk = .inr (ci, vs)) (hc : vwCl[ci]? = some r) (hi : vp_in i n') (hdg : decode cc pc = .ok (.aastore, 1))
    (kk : ∀ (H1 : Heap) (locs1 : List Loc), va_P (dC, dI) vwCl (zkW N b (zkE E n (.inl (ca t, n', .inr (.inr (.inr (.inr (va_up f i.toNatClampNeg (some (b qk)))))))))) H1 → va_D A (zkW N b (zkE E n (.inl (ca t, n', .inr (.inr (.inr (.inr (va_up f i.toNatClampNeg (some (b qk)))))))))) → va_S A s.heap H1 locs1 → W p l e R s m args below meth c H1 locs1 cells slots Q (F0 m (pc + 1) ls rest)) : W p l e R s m args below meth c H locs cells slots Q (F0 m pc ls (.ref v9 :: .int i :: .ref a :: rest)) := by
  subst ha
  subst hv9
  exact va_astq X.x X.cb X.K hP hD hS n t qk ci (zkW_at hn he) ht (zkW_at hq hv) hc hi hdg (fun H1 locs1 hP1 hD1 hS1 => kk H1 locs1 (by rw [← zkW_set]; exact hP1) (by rw [← zkW_set]; exact hD1) hS1)
section calls
variable {y : MethodName} {bytes : ByteArray} {maxL mc ms n index N1 : Nat} {ws : List Cond} {rm : Room} {a0 : Nat} {As st0 : List Value} {host : String}
theorem zk_callI {post : (Nat → Nat) × (Nat → va_E) → Prop} (X : zkCx p s m args c own cc Ts nL dC dI ca A) (hP : va_P (dC, dI) vwCl (zkW N b E) H) (hD : va_D A (zkW N b E)) (hS : va_S A s.heap H locs) (hM : Met l y ws rm (va_Pc (.ref a0 :: As) (zkPre dC dI ca A N b E)) (va_Qv post (fun u t => zkEnd dC dI A N1 u t.heap) A) mc ms A) (cw : CallB R s args own index y bytes maxL none ws rm mc ms n ∧ y.name = "<init>" ∧ (Cond.instanceMethod y).before args s = true) (hn : As.length = n) (hsize : ls.size = nL) (hstack : st0 = As.reverse ++ .ref a0 :: rest) (hroom : (rest.map fun v => v.category).sum ≤ 8) (hdg : decode cc pc = .ok (.invokespecial index, 3)) (hf : cells + mc ≤ R.cells ∧ slots + ms ≤ R.slots)
    (kk : ∀ (u : (Nat → Nat) × (Nat → va_E)) (H1 : Heap) (locs1 : List Loc), post u → va_P (dC, dI) vwCl (zkW N1 u.1 u.2) H1 → va_D A (zkW N1 u.1 u.2) → va_S A s.heap H1 locs1 → W p l e R s m args below meth c H1 locs1 (cells + mc) (slots + ms) Q (F0 m (pc + 3) ls rest)) : W p l e R s m args below meth c H locs cells slots Q (F0 m pc ls st0) :=
  va_callv (va_runI X.fix hM cw ⟨zkBlind, fun U hU hW => ⟨rfl, X.pre hP hD hS U hU hW⟩⟩ rfl hn hsize hstack (lv_room hroom) hdg hf) hS (fun q _ h => h) (fun q h => h) (fun u t H1 locs1 ht hvm hw hB hz hk hS1 => kk u H1 locs1 hw (by rw [← ht]; exact hB.1) hB.2 hS1)
theorem zk_callN {post : (Nat → Nat) × (Nat → va_E) → Prop} (X : zkCx p s m args c own cc Ts nL dC dI ca A) (hP : va_P (dC, dI) vwCl (zkW N b E) H) (hD : va_D A (zkW N b E)) (hS : va_S A s.heap H locs) (hM : Met l y ws rm (va_Pc (.ref a0 :: As) (zkPre dC dI ca A N b E)) (va_Qv post (fun u t => zkEnd dC dI A N1 u t.heap) A) mc ms A) (cw : va_CN R s args own index y host bytes maxL none ws rm mc ms n ∧ y.name = "<init>" ∧ (Cond.instanceMethod y).before args s = true) (hn : As.length = n) (hsize : ls.size = nL) (hstack : st0 = As.reverse ++ .ref a0 :: rest) (hroom : (rest.map fun v => v.category).sum ≤ 8) (hdg : decode cc pc = .ok (.invokespecial index, 3)) (hf : cells + mc ≤ R.cells ∧ slots + ms ≤ R.slots)
    (kk : ∀ (u : (Nat → Nat) × (Nat → va_E)) (H1 : Heap) (locs1 : List Loc), post u → va_P (dC, dI) vwCl (zkW N1 u.1 u.2) H1 → va_D A (zkW N1 u.1 u.2) → va_S A s.heap H1 locs1 → W p l e R s m args below meth c H1 locs1 (cells + mc) (slots + ms) Q (F0 m (pc + 3) ls rest)) : W p l e R s m args below meth c H locs cells slots Q (F0 m pc ls st0) :=
  va_callv (va_runIN X.fix hM cw ⟨zkBlind, fun U hU hW => ⟨rfl, X.pre hP hD hS U hU hW⟩⟩ rfl hn hsize hstack (lv_room hroom) hdg hf) hS (fun q _ h => h) (fun q h => h) (fun u t H1 locs1 ht hvm hw hB hz hk hS1 => kk u H1 locs1 hw (by rw [← ht]; exact hB.1) hB.2 hS1)
end calls
end ZK
theorem zk_uni : ∀ (U : State) (c1 c2 : ClassId), va_RA U c1 .int → va_RA U c2 .int → c1 = c2 := fun _ _ _ h1 h2 => Option.some.inj (h1.symm.trans h2)
theorem zk_unz : ∀ (U : State) (c1 c2 : ClassId), va_RA U c1 .boolean → va_RA U c2 .boolean → c1 = c2 := fun _ _ _ h1 h2 => Option.some.inj (h1.symm.trans h2)
theorem zk_unc : ∀ (U : State) (c1 c2 : ClassId), va_RA U c1 .char → va_RA U c2 .char → c1 = c2 := fun _ _ _ h1 h2 => Option.some.inj (h1.symm.trans h2)
theorem zk_unl : ∀ (U : State) (c1 c2 : ClassId), va_RA U c1 .long → va_RA U c2 .long → c1 = c2 := fun _ _ _ h1 h2 => Option.some.inj (h1.symm.trans h2)
