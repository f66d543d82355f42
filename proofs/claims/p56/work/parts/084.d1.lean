/-! Two games in one step: with one ghost K the answers and the next ghost are one. -/
def DAt {α : Type} (K : Nat → Nat → Int32) (f : (Nat → Nat → Int32) → (Nat → Nat → Option Nat) → Option (α × (Nat → Nat → Int32) × (Nat → Nat → Option Nat))) (c : Nat) : Prop :=
  ∃ r K', ∀ I O B, Inv2 I K O → zHA I B → B + c + 1000 < 1000000000 → ∃ I' O', f I O = some (r, I', O') ∧ Inv2 I' K' O' ∧ zHA I' (B + c)
def DET {α : Type} (f : (Nat → Nat → Int32) → (Nat → Nat → Option Nat) → Option (α × (Nat → Nat → Int32) × (Nat → Nat → Option Nat))) (c : Nat) : Prop := ∀ K, DAt K f c
section DT
variable {α β : Type} {K : Nat → Nat → Int32} {f g : (Nat → Nat → Int32) → (Nat → Nat → Option Nat) → Option (α × (Nat → Nat → Int32) × (Nat → Nat → Option Nat))} {c d : Nat}
theorem DAt.cong (h : DAt K g c) (e : ∀ I O, Inv2 I K O → f I O = g I O) : DAt K f c := by
  obtain ⟨r, K', h⟩ := h
  exact ⟨r, K', fun I O B hI hc hB => by rw [e I O hI]; exact h I O B hI hc hB⟩
theorem DAt.le (h : DAt K f c) (hcd : c ≤ d) : DAt K f d := by
  obtain ⟨r, K', h⟩ := h
  refine ⟨r, K', fun I O B hI hc hB => ?_⟩
  obtain ⟨I', O', a1, a2, a3⟩ := h I O B hI hc (by omega)
  exact ⟨I', O', a1, a2, a3.le (by omega)⟩
theorem DAt.pure (a : α) : DAt K (fun I O => some (a, I, O)) 0 := ⟨a, K, fun I O B hI hc _ => ⟨I, O, rfl, hI, hc⟩⟩
theorem DAt.bind {h : α → (Nat → Nat → Int32) → (Nat → Nat → Option Nat) → Option (β × (Nat → Nat → Int32) × (Nat → Nat → Option Nat))} (hf : DAt K f c) (hg : ∀ a, DET (h a) d) : DAt K (fun I O => (f I O).bind fun y => h y.1 y.2.1 y.2.2) (c + d) := by
  obtain ⟨r, K1, hf⟩ := hf
  obtain ⟨r2, K2, hg⟩ := hg r K1
  refine ⟨r2, K2, fun I O B hI hc hB => ?_⟩
  obtain ⟨I1, O1, a1, a2, a3⟩ := hf I O B hI hc (by omega)
  obtain ⟨I2, O2, b1, b2, b3⟩ := hg I1 O1 (B + c) a2 a3 (by omega)
  exact ⟨I2, O2, by dsimp only; rw [a1]; exact b1, b2, by rw [← Nat.add_assoc]; exact b3⟩
theorem DAt.no (h : ¬ ∃ I O, Inv2 I K O) (a : α) : DAt K f c := ⟨a, K, fun I O B hI _ _ => absurd ⟨I, O, hI⟩ h⟩
end DT
theorem to64_inj {a b : Int32} (h : a.toInt64 = b.toInt64) : a = b := by
  rw [← Int32.toInt_inj]
  have := congrArg Int64.toInt h
  rw [Int32.toInt_toInt64, Int32.toInt_toInt64] at this
  exact this
theorem DET.of {Lf : (Nat → Nat → Int32) → (Nat → Nat → Option Nat) → (Nat → Nat → Int64) → Option (Int32 × (Nat → Nat → Int32) × (Nat → Nat → Option Nat) × (Nat → Nat → Int64))} {Mf : (Nat → Nat → Int32) → Option (Int32 × (Nat → Nat → Int32))} {f : (Nat → Nat → Int32) → (Nat → Nat → Option Nat) → Option (Int32 × (Nat → Nat → Int32) × (Nat → Nat → Option Nat))} {c : Nat} (cd : Int32 → Int32) (h : OPB Lf Mf)
    (hw : ∀ I O J d I' O' J', Lf I O J = some (d, I', O', J') → (∃ v : Int32, d = 0 ∧ J' = gup J 137 0 v.toInt64 ∧ f I O = some (v, I', O')) ∨ (d ≠ 0 ∧ f I O = some (cd d, I', O')))
    (ha : ∀ I O K B r I' O', Inv2 I K O → zHA I B → B + c + 1000 < 1000000000 → f I O = some (r, I', O') → zHA I' (B + c)) : DET f c := by
  intro K
  by_cases hne : ∃ I O, Inv2 I K O
  · obtain ⟨I0, O0, h0⟩ := hne
    obtain ⟨I1, O1, K1, _, _, _, hk⟩ := h I0 O0 (fun _ _ => 0) K h0
    have hM : ∃ v, Mf K = some (v, K1) := by
      rcases hk with ⟨v, _, e, _⟩ | ⟨_, r, _, _, e, _⟩
      · exact ⟨v, e⟩
      · exact ⟨r, e⟩
    obtain ⟨v, hv⟩ := hM
    refine ⟨if K1 129 8 = 0 then v else cd (K1 129 8), K1, fun I O B hI hc hB => ?_⟩
    obtain ⟨I', O', K2, a1, _, _, hk2⟩ := h I O (fun _ _ => 0) K hI
    rcases hk2 with ⟨v2, e1, e2, e3⟩ | ⟨d, r2, hd, e1, e2, e3⟩
    · rw [hv] at e2
      simp only [Option.some.injEq, Prod.mk.injEq] at e2
      obtain ⟨rfl, rfl⟩ := e2
      rw [if_pos e3]
      rcases hw _ _ _ _ _ _ _ e1 with ⟨v3, _, ej, ef⟩ | ⟨hd, _⟩
      · have ev : v = v3 := by
          have := congrFun (congrFun ej 137) 0
          rw [gup_at, gup_at] at this
          exact to64_inj this
        subst ev
        exact ⟨I', O', ef, a1, ha I O K B _ I' O' hI hc hB ef⟩
      · exact absurd rfl hd
    · rw [hv] at e2
      simp only [Option.some.injEq, Prod.mk.injEq] at e2
      obtain ⟨rfl, rfl⟩ := e2
      rw [e3, if_neg hd]
      rcases hw _ _ _ _ _ _ _ e1 with ⟨v3, hd0, _⟩ | ⟨_, ef⟩
      · exact absurd hd0 hd
      · exact ⟨I', O', ef, a1, ha I O K B _ I' O' hI hc hB ef⟩
  · exact DAt.no hne 0
theorem DET.ofb {Lf : (Nat → Nat → Int32) → (Nat → Nat → Option Nat) → (Nat → Nat → Int64) → Option (Int32 × (Nat → Nat → Int32) × (Nat → Nat → Option Nat) × (Nat → Nat → Int64))} {Mf : (Nat → Nat → Int32) → Option (Int32 × (Nat → Nat → Int32))} {f : (Nat → Nat → Int32) → (Nat → Nat → Option Nat) → Option (Int32 × (Nat → Nat → Int32) × (Nat → Nat → Option Nat))} {c : Nat} (cd : Int32 → Int32) (h : OPBb Lf Mf)
    (hw : ∀ I O J d I' O' J', Lf I O J = some (d, I', O', J') → (∃ v : Int32, d = 0 ∧ J' = gup J 137 0 (bv v) ∧ f I O = some (if v = 0 then 0 else 1, I', O')) ∨ (d ≠ 0 ∧ f I O = some (cd d, I', O')))
    (ha : ∀ I O K B r I' O', Inv2 I K O → zHA I B → B + c + 1000 < 1000000000 → f I O = some (r, I', O') → zHA I' (B + c)) : DET f c := by
  intro K
  by_cases hne : ∃ I O, Inv2 I K O
  · obtain ⟨I0, O0, h0⟩ := hne
    obtain ⟨I1, O1, K1, _, _, _, hk⟩ := h I0 O0 (fun _ _ => 0) K h0
    have hM : ∃ v, Mf K = some (v, K1) := by
      rcases hk with ⟨v, _, e, _⟩ | ⟨_, r, _, _, e, _⟩
      · exact ⟨v, e⟩
      · exact ⟨r, e⟩
    obtain ⟨v, hv⟩ := hM
    refine ⟨if K1 129 8 = 0 then (if v = 0 then 0 else 1) else cd (K1 129 8), K1, fun I O B hI hc hB => ?_⟩
    obtain ⟨I', O', K2, a1, _, _, hk2⟩ := h I O (fun _ _ => 0) K hI
    rcases hk2 with ⟨v2, e1, e2, e3⟩ | ⟨d, r2, hd, e1, e2, e3⟩
    · rw [hv] at e2
      simp only [Option.some.injEq, Prod.mk.injEq] at e2
      obtain ⟨rfl, rfl⟩ := e2
      rw [if_pos e3]
      rcases hw _ _ _ _ _ _ _ e1 with ⟨v3, _, ej, ef⟩ | ⟨hd, _⟩
      · have ev : bv v = bv v3 := by
          have := congrFun (congrFun ej 137) 0
          rw [gup_at, gup_at] at this
          exact this
        have ev2 : (if v = 0 then (0 : Int32) else 1) = if v3 = 0 then 0 else 1 := by
          unfold bv at ev
          by_cases c1 : v = 0 <;> by_cases c2 : v3 = 0
          · rw [if_pos c1, if_pos c2]
          · rw [if_pos c1, if_neg c2] at ev; exact absurd ev (by decide)
          · rw [if_neg c1, if_pos c2] at ev; exact absurd ev (by decide)
          · rw [if_neg c1, if_neg c2]
        rw [ev2]
        exact ⟨I', O', ef, a1, ha I O K B _ I' O' hI hc hB ef⟩
      · exact absurd rfl hd
    · rw [hv] at e2
      simp only [Option.some.injEq, Prod.mk.injEq] at e2
      obtain ⟨rfl, rfl⟩ := e2
      rw [e3, if_neg hd]
      rcases hw _ _ _ _ _ _ _ e1 with ⟨v3, hd0, _⟩ | ⟨_, ef⟩
      · exact absurd hd0 hd
      · exact ⟨I', O', ef, a1, ha I O K B _ I' O' hI hc hB ef⟩
  · exact DAt.no hne 0
theorem w_enter {a1 : Int32} {a2 : Int32} {a3 : Int32} {I I' : Nat → Nat → Int32} {O O' : Nat → Nat → Option Nat} {J J' : Nat → Nat → Int64} {d : Int32} (h : f_W_enter a1 a2 a3 I O J = some (d, I', O', J')) : (∃ v : Int32, d = 0 ∧ J' = gup J 137 0 v.toInt64 ∧ f_L_enter a1 a2 a3 I O = some (v, I', O')) ∨ (d ≠ 0 ∧ f_L_enter a1 a2 a3 I O = some (if d = 1 then (-3 : Int32) else (-4 : Int32), I', O')) := by
  unfold f_W_enter at h
  obtain ⟨⟨q, I1, O1⟩, hx, h⟩ := hb_some h
  unfold f_L_enter
  rw [hx]
  simp only [Option.bind_some]
  cases q with
  | inl k =>
    have h := hsum_l h
    right
    split at h
    · next e1 =>
      simp only [Option.some.injEq, Prod.mk.injEq] at h
      obtain ⟨rfl, rfl, rfl, rfl⟩ := h
      subst e1
      exact ⟨by decide, rfl⟩
    · split at h
      · next e1 e2 =>
        simp only [Option.some.injEq, Prod.mk.injEq] at h
        obtain ⟨rfl, rfl, rfl, rfl⟩ := h
        subst e2
        exact ⟨by decide, rfl⟩
      · cases h
  | inr v =>
    have h := hsum_r h
    simp only [hlet_e, Option.some.injEq, Prod.mk.injEq] at h
    obtain ⟨rfl, rfl, rfl, rfl⟩ := h
    left
    exact ⟨v, rfl, by rw [t0'], rfl⟩
theorem al_enter {a1 : Int32} {a2 : Int32} {a3 : Int32} {I I' K : Nat → Nat → Int32} {O O' : Nat → Nat → Option Nat} {B : Nat} {r : Int32} (h : Inv2 I K O) (hc : zHA I B) (hB2 : B + 0 + 1000 < 1000000000) (e : f_L_enter a1 a2 a3 I O = some (r, I', O')) : zHA I' (B + 0) := by
  unfold f_L_enter at e
  obtain ⟨⟨q, I1, O1⟩, hx, e⟩ := hb_some e
  have key : zHA I1 (B + 0) := a_enter h hc (by omega) hx
  cases q with
  | inl k =>
    have e := hsum_l e
    split at e
    · simp only [Option.some.injEq, Prod.mk.injEq] at e; rw [← e.2.1]; exact key
    · split at e
      · simp only [Option.some.injEq, Prod.mk.injEq] at e; rw [← e.2.1]; exact key
      · cases e
  | inr v =>
    have e := hsum_r e
    simp only [Option.some.injEq, Prod.mk.injEq] at e; rw [← e.2.1]; exact key
theorem d_enter (a1 : Int32) (a2 : Int32) (a3 : Int32) : DET (f_L_enter a1 a2 a3) 0 := DET.of (fun d => if d = 1 then (-3 : Int32) else (-4 : Int32)) (op_enter a1 a2 a3) (fun I O J d I' O' J' h => w_enter h) (fun I O K B r I' O' h hc hB e => al_enter h hc hB e)
theorem w_setPace {a1 : Int32} {a2 : Int32} {I I' : Nat → Nat → Int32} {O O' : Nat → Nat → Option Nat} {J J' : Nat → Nat → Int64} {d : Int32} (h : f_W_setPace a1 a2 I O J = some (d, I', O', J')) : (∃ v : Int32, d = 0 ∧ J' = gup J 137 0 v.toInt64 ∧ f_L_setPace a1 a2 I O = some (v, I', O')) ∨ (d ≠ 0 ∧ f_L_setPace a1 a2 I O = some (if d = 1 then (-2 : Int32) else (-3 : Int32), I', O')) := by
  unfold f_W_setPace at h
  obtain ⟨⟨q, I1, O1⟩, hx, h⟩ := hb_some h
  unfold f_L_setPace
  rw [hx]
  simp only [Option.bind_some]
  cases q with
  | inl k =>
    have h := hsum_l h
    right
    split at h
    · next e1 =>
      simp only [Option.some.injEq, Prod.mk.injEq] at h
      obtain ⟨rfl, rfl, rfl, rfl⟩ := h
      subst e1
      exact ⟨by decide, rfl⟩
    · split at h
      · next e1 e2 =>
        simp only [Option.some.injEq, Prod.mk.injEq] at h
        obtain ⟨rfl, rfl, rfl, rfl⟩ := h
        subst e2
        exact ⟨by decide, rfl⟩
      · cases h
  | inr v =>
    have h := hsum_r h
    simp only [hlet_e, Option.some.injEq, Prod.mk.injEq] at h
    obtain ⟨rfl, rfl, rfl, rfl⟩ := h
    left
    exact ⟨v, rfl, by rw [t0'], rfl⟩
theorem al_setPace {a1 : Int32} {a2 : Int32} {I I' K : Nat → Nat → Int32} {O O' : Nat → Nat → Option Nat} {B : Nat} {r : Int32} (h : Inv2 I K O) (hc : zHA I B) (hB2 : B + 0 + 1000 < 1000000000) (e : f_L_setPace a1 a2 I O = some (r, I', O')) : zHA I' (B + 0) := by
  unfold f_L_setPace at e
  obtain ⟨⟨q, I1, O1⟩, hx, e⟩ := hb_some e
  have key : zHA I1 (B + 0) := a_setPace h hc hx
  cases q with
  | inl k =>
    have e := hsum_l e
    split at e
    · simp only [Option.some.injEq, Prod.mk.injEq] at e; rw [← e.2.1]; exact key
    · split at e
      · simp only [Option.some.injEq, Prod.mk.injEq] at e; rw [← e.2.1]; exact key
      · cases e
  | inr v =>
    have e := hsum_r e
    simp only [Option.some.injEq, Prod.mk.injEq] at e; rw [← e.2.1]; exact key
theorem d_setPace (a1 : Int32) (a2 : Int32) : DET (f_L_setPace a1 a2) 0 := DET.of (fun d => if d = 1 then (-2 : Int32) else (-3 : Int32)) (op_setPace a1 a2) (fun I O J d I' O' J' h => w_setPace h) (fun I O K B r I' O' h hc hB e => al_setPace h hc hB e)
theorem w_pair {a1 : Int32} {a2 : Int32} {I I' : Nat → Nat → Int32} {O O' : Nat → Nat → Option Nat} {J J' : Nat → Nat → Int64} {d : Int32} (h : f_W_pair a1 a2 I O J = some (d, I', O', J')) : (∃ v : Int32, d = 0 ∧ J' = gup J 137 0 v.toInt64 ∧ f_L_pair a1 a2 I O = some (v, I', O')) ∨ (d ≠ 0 ∧ f_L_pair a1 a2 I O = some (if d = 1 then (-2 : Int32) else (-3 : Int32), I', O')) := by
  unfold f_W_pair at h
  obtain ⟨⟨q, I1, O1⟩, hx, h⟩ := hb_some h
  unfold f_L_pair
  rw [hx]
  simp only [Option.bind_some]
  cases q with
  | inl k =>
    have h := hsum_l h
    right
    split at h
    · next e1 =>
      simp only [Option.some.injEq, Prod.mk.injEq] at h
      obtain ⟨rfl, rfl, rfl, rfl⟩ := h
      subst e1
      exact ⟨by decide, rfl⟩
    · split at h
      · next e1 e2 =>
        simp only [Option.some.injEq, Prod.mk.injEq] at h
        obtain ⟨rfl, rfl, rfl, rfl⟩ := h
        subst e2
        exact ⟨by decide, rfl⟩
      · cases h
  | inr v =>
    have h := hsum_r h
    simp only [hlet_e, Option.some.injEq, Prod.mk.injEq] at h
    obtain ⟨rfl, rfl, rfl, rfl⟩ := h
    left
    exact ⟨v, rfl, by rw [t0'], rfl⟩
theorem al_pair {a1 : Int32} {a2 : Int32} {I I' K : Nat → Nat → Int32} {O O' : Nat → Nat → Option Nat} {B : Nat} {r : Int32} (h : Inv2 I K O) (hc : zHA I B) (hB2 : B + 0 + 1000 < 1000000000) (e : f_L_pair a1 a2 I O = some (r, I', O')) : zHA I' (B + 0) := by
  unfold f_L_pair at e
  obtain ⟨⟨q, I1, O1⟩, hx, e⟩ := hb_some e
  have key : zHA I1 (B + 0) := a_pair h hc hx
  cases q with
  | inl k =>
    have e := hsum_l e
    split at e
    · simp only [Option.some.injEq, Prod.mk.injEq] at e; rw [← e.2.1]; exact key
    · split at e
      · simp only [Option.some.injEq, Prod.mk.injEq] at e; rw [← e.2.1]; exact key
      · cases e
  | inr v =>
    have e := hsum_r e
    simp only [Option.some.injEq, Prod.mk.injEq] at e; rw [← e.2.1]; exact key
theorem d_pair (a1 : Int32) (a2 : Int32) : DET (f_L_pair a1 a2) 0 := DET.of (fun d => if d = 1 then (-2 : Int32) else (-3 : Int32)) (op_pair a1 a2) (fun I O J d I' O' J' h => w_pair h) (fun I O K B r I' O' h hc hB e => al_pair h hc hB e)
theorem w_setLimit {a1 : Int32} {a2 : Int32} {I I' : Nat → Nat → Int32} {O O' : Nat → Nat → Option Nat} {J J' : Nat → Nat → Int64} {d : Int32} (h : f_W_setLimit a1 a2 I O J = some (d, I', O', J')) : (∃ v : Int32, d = 0 ∧ J' = gup J 137 0 v.toInt64 ∧ f_L_setLimit a1 a2 I O = some (v, I', O')) ∨ (d ≠ 0 ∧ f_L_setLimit a1 a2 I O = some (if d = 1 then (-2 : Int32) else (-3 : Int32), I', O')) := by
  unfold f_W_setLimit at h
  obtain ⟨⟨q, I1, O1⟩, hx, h⟩ := hb_some h
  unfold f_L_setLimit
  rw [hx]
  simp only [Option.bind_some]
  cases q with
  | inl k =>
    have h := hsum_l h
    right
    split at h
    · next e1 =>
      simp only [Option.some.injEq, Prod.mk.injEq] at h
      obtain ⟨rfl, rfl, rfl, rfl⟩ := h
      subst e1
      exact ⟨by decide, rfl⟩
    · split at h
      · next e1 e2 =>
        simp only [Option.some.injEq, Prod.mk.injEq] at h
        obtain ⟨rfl, rfl, rfl, rfl⟩ := h
        subst e2
        exact ⟨by decide, rfl⟩
      · cases h
  | inr v =>
    have h := hsum_r h
    simp only [hlet_e, Option.some.injEq, Prod.mk.injEq] at h
    obtain ⟨rfl, rfl, rfl, rfl⟩ := h
    left
    exact ⟨v, rfl, by rw [t0'], rfl⟩
theorem al_setLimit {a1 : Int32} {a2 : Int32} {I I' K : Nat → Nat → Int32} {O O' : Nat → Nat → Option Nat} {B : Nat} {r : Int32} (h : Inv2 I K O) (hc : zHA I B) (hB2 : B + 0 + 1000 < 1000000000) (e : f_L_setLimit a1 a2 I O = some (r, I', O')) : zHA I' (B + 0) := by
  unfold f_L_setLimit at e
  obtain ⟨⟨q, I1, O1⟩, hx, e⟩ := hb_some e
  have key : zHA I1 (B + 0) := a_setLimit h hc hx
  cases q with
  | inl k =>
    have e := hsum_l e
    split at e
    · simp only [Option.some.injEq, Prod.mk.injEq] at e; rw [← e.2.1]; exact key
    · split at e
      · simp only [Option.some.injEq, Prod.mk.injEq] at e; rw [← e.2.1]; exact key
      · cases e
  | inr v =>
    have e := hsum_r e
    simp only [Option.some.injEq, Prod.mk.injEq] at e; rw [← e.2.1]; exact key
theorem d_setLimit (a1 : Int32) (a2 : Int32) : DET (f_L_setLimit a1 a2) 0 := DET.of (fun d => if d = 1 then (-2 : Int32) else (-3 : Int32)) (op_setLimit a1 a2) (fun I O J d I' O' J' h => w_setLimit h) (fun I O K B r I' O' h hc hB e => al_setLimit h hc hB e)
theorem w_setLaps {a1 : Int32} {I I' : Nat → Nat → Int32} {O O' : Nat → Nat → Option Nat} {J J' : Nat → Nat → Int64} {d : Int32} (h : f_W_setLaps a1 I O J = some (d, I', O', J')) : (∃ v : Int32, d = 0 ∧ J' = gup J 137 0 v.toInt64 ∧ f_L_setLaps a1 I O = some (v, I', O')) ∨ (d ≠ 0 ∧ f_L_setLaps a1 I O = some (if d = 1 then (-3 : Int32) else (-4 : Int32), I', O')) := by
  unfold f_W_setLaps at h
  obtain ⟨⟨q, I1, O1⟩, hx, h⟩ := hb_some h
  unfold f_L_setLaps
  rw [hx]
  simp only [Option.bind_some]
  cases q with
  | inl k =>
    have h := hsum_l h
    right
    split at h
    · next e1 =>
      simp only [Option.some.injEq, Prod.mk.injEq] at h
      obtain ⟨rfl, rfl, rfl, rfl⟩ := h
      subst e1
      exact ⟨by decide, rfl⟩
    · split at h
      · next e1 e2 =>
        simp only [Option.some.injEq, Prod.mk.injEq] at h
        obtain ⟨rfl, rfl, rfl, rfl⟩ := h
        subst e2
        exact ⟨by decide, rfl⟩
      · cases h
  | inr v =>
    have h := hsum_r h
    simp only [hlet_e, Option.some.injEq, Prod.mk.injEq] at h
    obtain ⟨rfl, rfl, rfl, rfl⟩ := h
    left
    exact ⟨v, rfl, by rw [t0'], rfl⟩
theorem al_setLaps {a1 : Int32} {I I' K : Nat → Nat → Int32} {O O' : Nat → Nat → Option Nat} {B : Nat} {r : Int32} (h : Inv2 I K O) (hc : zHA I B) (hB2 : B + 0 + 1000 < 1000000000) (e : f_L_setLaps a1 I O = some (r, I', O')) : zHA I' (B + 0) := by
  unfold f_L_setLaps at e
  obtain ⟨⟨q, I1, O1⟩, hx, e⟩ := hb_some e
  have key : zHA I1 (B + 0) := a_setLaps h hc hx
  cases q with
  | inl k =>
    have e := hsum_l e
    split at e
    · simp only [Option.some.injEq, Prod.mk.injEq] at e; rw [← e.2.1]; exact key
    · split at e
      · simp only [Option.some.injEq, Prod.mk.injEq] at e; rw [← e.2.1]; exact key
      · cases e
  | inr v =>
    have e := hsum_r e
    simp only [Option.some.injEq, Prod.mk.injEq] at e; rw [← e.2.1]; exact key
theorem d_setLaps (a1 : Int32) : DET (f_L_setLaps a1) 0 := DET.of (fun d => if d = 1 then (-3 : Int32) else (-4 : Int32)) (op_setLaps a1) (fun I O J d I' O' J' h => w_setLaps h) (fun I O K B r I' O' h hc hB e => al_setLaps h hc hB e)
theorem w_begin {I I' : Nat → Nat → Int32} {O O' : Nat → Nat → Option Nat} {J J' : Nat → Nat → Int64} {d : Int32} (h : f_W_begin I O J = some (d, I', O', J')) : (∃ v : Int32, d = 0 ∧ J' = gup J 137 0 v.toInt64 ∧ f_L_begin I O = some (v, I', O')) ∨ (d ≠ 0 ∧ f_L_begin I O = some (if d = 1 then (-4 : Int32) else (-4 : Int32), I', O')) := by
  unfold f_W_begin at h
  obtain ⟨⟨q, I1, O1⟩, hx, h⟩ := hb_some h
  unfold f_L_begin
  rw [hx]
  simp only [Option.bind_some]
  cases q with
  | inl k =>
    have h := hsum_l h
    right
    split at h
    · next e1 =>
      simp only [Option.some.injEq, Prod.mk.injEq] at h
      obtain ⟨rfl, rfl, rfl, rfl⟩ := h
      subst e1
      exact ⟨by decide, rfl⟩
    · cases h
  | inr v =>
    have h := hsum_r h
    simp only [hlet_e, Option.some.injEq, Prod.mk.injEq] at h
    obtain ⟨rfl, rfl, rfl, rfl⟩ := h
    left
    exact ⟨v, rfl, by rw [t0'], rfl⟩
theorem al_begin {I I' K : Nat → Nat → Int32} {O O' : Nat → Nat → Option Nat} {B : Nat} {r : Int32} (h : Inv2 I K O) (hc : zHA I B) (hB2 : B + 1 + 1000 < 1000000000) (e : f_L_begin I O = some (r, I', O')) : zHA I' (B + 1) := by
  unfold f_L_begin at e
  obtain ⟨⟨q, I1, O1⟩, hx, e⟩ := hb_some e
  have key : zHA I1 (B + 1) := a_begin h hc (by omega) hx
  cases q with
  | inl k =>
    have e := hsum_l e
    split at e
    · simp only [Option.some.injEq, Prod.mk.injEq] at e; rw [← e.2.1]; exact key
    · cases e
  | inr v =>
    have e := hsum_r e
    simp only [Option.some.injEq, Prod.mk.injEq] at e; rw [← e.2.1]; exact key
theorem d_begin : DET (f_L_begin) 1 := DET.of (fun d => if d = 1 then (-4 : Int32) else (-4 : Int32)) (op_begin) (fun I O J d I' O' J' h => w_begin h) (fun I O K B r I' O' h hc hB e => al_begin h hc hB e)
theorem w_pass {a1 : Int32} {I I' : Nat → Nat → Int32} {O O' : Nat → Nat → Option Nat} {J J' : Nat → Nat → Int64} {d : Int32} (h : f_W_pass a1 I O J = some (d, I', O', J')) : (∃ v : Int32, d = 0 ∧ J' = gup J 137 0 v.toInt64 ∧ f_L_pass a1 I O = some (v, I', O')) ∨ (d ≠ 0 ∧ f_L_pass a1 I O = some (if d = 1 then (-3 : Int32) else (-4 : Int32), I', O')) := by
  unfold f_W_pass at h
  obtain ⟨⟨q, I1, O1⟩, hx, h⟩ := hb_some h
  unfold f_L_pass
  rw [hx]
  simp only [Option.bind_some]
  cases q with
  | inl k =>
    have h := hsum_l h
    right
    split at h
    · next e1 =>
      simp only [Option.some.injEq, Prod.mk.injEq] at h
      obtain ⟨rfl, rfl, rfl, rfl⟩ := h
      subst e1
      exact ⟨by decide, rfl⟩
    · split at h
      · next e1 e2 =>
        simp only [Option.some.injEq, Prod.mk.injEq] at h
        obtain ⟨rfl, rfl, rfl, rfl⟩ := h
        subst e2
        exact ⟨by decide, rfl⟩
      · cases h
  | inr v =>
    have h := hsum_r h
    simp only [hlet_e, Option.some.injEq, Prod.mk.injEq] at h
    obtain ⟨rfl, rfl, rfl, rfl⟩ := h
    left
    exact ⟨v, rfl, by rw [t0'], rfl⟩
theorem al_pass {a1 : Int32} {I I' K : Nat → Nat → Int32} {O O' : Nat → Nat → Option Nat} {B : Nat} {r : Int32} (h : Inv2 I K O) (hc : zHA I B) (hB2 : B + 1800 + 1000 < 1000000000) (e : f_L_pass a1 I O = some (r, I', O')) : zHA I' (B + 1800) := by
  unfold f_L_pass at e
  obtain ⟨⟨q, I1, O1⟩, hx, e⟩ := hb_some e
  have key : zHA I1 (B + 1800) := a_pass h hc (by omega) hx
  cases q with
  | inl k =>
    have e := hsum_l e
    split at e
    · simp only [Option.some.injEq, Prod.mk.injEq] at e; rw [← e.2.1]; exact key
    · split at e
      · simp only [Option.some.injEq, Prod.mk.injEq] at e; rw [← e.2.1]; exact key
      · cases e
  | inr v =>
    have e := hsum_r e
    simp only [Option.some.injEq, Prod.mk.injEq] at e; rw [← e.2.1]; exact key
theorem d_pass (a1 : Int32) : DET (f_L_pass a1) 1800 := DET.of (fun d => if d = 1 then (-3 : Int32) else (-4 : Int32)) (op_pass a1) (fun I O J d I' O' J' h => w_pass h) (fun I O K B r I' O' h hc hB e => al_pass h hc hB e)
theorem w_follow {I I' : Nat → Nat → Int32} {O O' : Nat → Nat → Option Nat} {J J' : Nat → Nat → Int64} {d : Int32} (h : f_W_follow I O J = some (d, I', O', J')) : (∃ v : Int32, d = 0 ∧ J' = gup J 137 0 v.toInt64 ∧ f_L_follow I O = some (v, I', O')) ∨ (d ≠ 0 ∧ f_L_follow I O = some (if d = 1 then (-3 : Int32) else (-4 : Int32), I', O')) := by
  unfold f_W_follow at h
  obtain ⟨⟨q, I1, O1⟩, hx, h⟩ := hb_some h
  unfold f_L_follow
  rw [hx]
  simp only [Option.bind_some]
  cases q with
  | inl k =>
    have h := hsum_l h
    right
    split at h
    · next e1 =>
      simp only [Option.some.injEq, Prod.mk.injEq] at h
      obtain ⟨rfl, rfl, rfl, rfl⟩ := h
      subst e1
      exact ⟨by decide, rfl⟩
    · split at h
      · next e1 e2 =>
        simp only [Option.some.injEq, Prod.mk.injEq] at h
        obtain ⟨rfl, rfl, rfl, rfl⟩ := h
        subst e2
        exact ⟨by decide, rfl⟩
      · cases h
  | inr v =>
    have h := hsum_r h
    simp only [hlet_e, Option.some.injEq, Prod.mk.injEq] at h
    obtain ⟨rfl, rfl, rfl, rfl⟩ := h
    left
    exact ⟨v, rfl, by rw [t0'], rfl⟩
theorem al_follow {I I' K : Nat → Nat → Int32} {O O' : Nat → Nat → Option Nat} {B : Nat} {r : Int32} (h : Inv2 I K O) (hc : zHA I B) (hB2 : B + 200000 < 1000000000) (e : f_L_follow I O = some (r, I', O')) : zHA I' (B + 130000) := by
  unfold f_L_follow at e
  obtain ⟨⟨q, I1, O1⟩, hx, e⟩ := hb_some e
  have key : zHA I1 (B + 130000) := a_follow h hc hB2 hx
  cases q with
  | inl k =>
    have e := hsum_l e
    split at e
    · simp only [Option.some.injEq, Prod.mk.injEq] at e; rw [← e.2.1]; exact key
    · split at e
      · simp only [Option.some.injEq, Prod.mk.injEq] at e; rw [← e.2.1]; exact key
      · cases e
  | inr v =>
    have e := hsum_r e
    simp only [Option.some.injEq, Prod.mk.injEq] at e; rw [← e.2.1]; exact key
theorem d_follow : DET (f_L_follow) 200000 := DET.of (fun d => if d = 1 then (-3 : Int32) else (-4 : Int32)) (op_follow) (fun I O J d I' O' J' h => w_follow h) (fun I O K B r I' O' h hc hB e => (al_follow h hc (by omega) e).le (by omega))
theorem w_callIn {a1 : Int32} {I I' : Nat → Nat → Int32} {O O' : Nat → Nat → Option Nat} {J J' : Nat → Nat → Int64} {d : Int32} (h : f_W_callIn a1 I O J = some (d, I', O', J')) : (∃ v : Int32, d = 0 ∧ J' = gup J 137 0 (bv v) ∧ f_L_callIn a1 I O = some (if v = 0 then (0 : Int32) else 1, I', O')) ∨ (d ≠ 0 ∧ f_L_callIn a1 I O = some (if d = 1 then (-2 : Int32) else (-4 : Int32), I', O')) := by
  unfold f_W_callIn at h
  obtain ⟨⟨q, I1, O1⟩, hx, h⟩ := hb_some h
  unfold f_L_callIn
  rw [hx]
  simp only [Option.bind_some]
  cases q with
  | inl k =>
    have h := hsum_l h
    right
    split at h
    · next e1 =>
      simp only [Option.some.injEq, Prod.mk.injEq] at h
      obtain ⟨rfl, rfl, rfl, rfl⟩ := h
      subst e1
      exact ⟨by decide, rfl⟩
    · split at h
      · next e1 e2 =>
        simp only [Option.some.injEq, Prod.mk.injEq] at h
        obtain ⟨rfl, rfl, rfl, rfl⟩ := h
        subst e2
        exact ⟨by decide, rfl⟩
      · cases h
  | inr v =>
    have h := hsum_r h
    obtain ⟨p5, h5, h⟩ := hb_some h
    simp only [hlet_e, Option.some.injEq, Prod.mk.injEq] at h
    obtain ⟨rfl, rfl, rfl, rfl⟩ := h
    left
    refine ⟨v, rfl, ?_, ?_⟩
    · have : p5 = bv v := by
        unfold bv
        by_cases c : v = 0
        · rw [if_pos c] at h5 ⊢; exact (Option.some.inj h5).symm
        · rw [if_neg c] at h5 ⊢; exact (Option.some.inj h5).symm
      rw [this, t0']
    · show (if v = 0 then _ else _) = _
      by_cases c : v = 0
      · rw [if_pos c, if_pos c]
      · rw [if_neg c, if_neg c]
theorem al_callIn {a1 : Int32} {I I' K : Nat → Nat → Int32} {O O' : Nat → Nat → Option Nat} {B : Nat} {r : Int32} (h : Inv2 I K O) (hc : zHA I B) (hB2 : B + 0 + 1000 < 1000000000) (e : f_L_callIn a1 I O = some (r, I', O')) : zHA I' (B + 0) := by
  unfold f_L_callIn at e
  obtain ⟨⟨q, I1, O1⟩, hx, e⟩ := hb_some e
  have key : zHA I1 (B + 0) := a_callIn h hc hx
  cases q with
  | inl k =>
    have e := hsum_l e
    split at e
    · simp only [Option.some.injEq, Prod.mk.injEq] at e; rw [← e.2.1]; exact key
    · split at e
      · simp only [Option.some.injEq, Prod.mk.injEq] at e; rw [← e.2.1]; exact key
      · cases e
  | inr v =>
    have e := hsum_r e
    split at e
    · simp only [Option.some.injEq, Prod.mk.injEq] at e; rw [← e.2.1]; exact key
    · simp only [Option.some.injEq, Prod.mk.injEq] at e; rw [← e.2.1]; exact key
theorem d_callIn (a1 : Int32) : DET (f_L_callIn a1) 0 := DET.ofb (fun d => if d = 1 then (-2 : Int32) else (-4 : Int32)) (op_callIn a1) (fun I O J d I' O' J' h => w_callIn h) (fun I O K B r I' O' h hc hB e => al_callIn h hc hB e)
