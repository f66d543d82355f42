theorem inv_n {I K : Nat → Nat → Int32} {O : Nat → Nat → Option Nat} (h : Inv2 I K O) : ∃ n, RR I 1 (K 130) n := by
  obtain ⟨n, p, len, h1, _⟩ := h
  exact ⟨n, h1⟩
theorem inv_zz {I K : Nat → Nat → Int32} {O : Nat → Nat → Option Nat} (h : Inv2 I K O) : ZZ I := by
  obtain ⟨n, p, len, h1, h2, _⟩ := h
  exact h2
section AH
variable {I I' K : Nat → Nat → Int32} {O O' : Nat → Nat → Option Nat} {B : Nat}
theorem hs_l {ρ : Type} {k : Nat} {f : ρ → Option (Sum Nat ρ × (Nat → Nat → Int32) × (Nat → Nat → Option Nat))} {r : Sum Nat ρ} (h : some ((Sum.inl k : Sum Nat ρ), I, O) = some (r, I', O')) : I' = I ∧ O' = O := by
  simp only [Option.some.injEq, Prod.mk.injEq] at h
  exact ⟨h.2.1.symm, h.2.2.symm⟩
theorem a_setPace {a p : Int32} {r : Sum Nat Int32} (h : Inv2 I K O) (hc : zHA I B) (e : f_X7_setPace a p I O = some (r, I', O')) : zHA I' B := by
  unfold f_X7_setPace at e
  obtain ⟨q1, -, e⟩ := hb_some e
  cases q1 with
  | inl k => have e := hsum_l e; simp only [Option.some.injEq, Prod.mk.injEq] at e; rw [← e.2.1]; exact hc
  | inr r1 =>
    have e := hsum_r e
    obtain ⟨q2, -, e⟩ := hb_some e
    cases q2 with
    | inl k => have e := hsum_l e; simp only [Option.some.injEq, Prod.mk.injEq] at e; rw [← e.2.1]; exact hc
    | inr r2 =>
      have e := hsum_r e
      obtain ⟨⟨I4, O5⟩, h4, e⟩ := hb_some e
      obtain ⟨n7, -, e⟩ := hb_some e
      obtain ⟨hk7, e⟩ := hk_some e
      simp only [hlet_e, Option.some.injEq, Prod.mk.injEq] at e
      rw [← e.2.1]
      exact (save_ha h h4 hc).set (fun z => by rw [hk7] at z; exact absurd z (by decide)) (fun _ => by omega)
theorem a_callIn {a : Int32} {r : Sum Nat Int32} (h : Inv2 I K O) (hc : zHA I B) (e : f_X7_callIn a I O = some (r, I', O')) : zHA I' B := by
  unfold f_X7_callIn at e
  obtain ⟨q1, -, e⟩ := hb_some e
  cases q1 with
  | inl k => have e := hsum_l e; simp only [Option.some.injEq, Prod.mk.injEq] at e; rw [← e.2.1]; exact hc
  | inr r1 =>
    have e := hsum_r e
    obtain ⟨n3, -, e⟩ := hb_some e
    obtain ⟨hk3, e⟩ := hk_some e
    split at e
    · simp only [Option.some.injEq, Prod.mk.injEq] at e; rw [← e.2.1]; exact hc
    · obtain ⟨⟨I4, O5⟩, h4, e⟩ := hb_some e
      obtain ⟨p7, -, e⟩ := hb_some e
      obtain ⟨-, e⟩ := hg_some e
      rw [hlet_e] at e
      obtain ⟨-, e⟩ := hg_some e
      simp only [Option.some.injEq, Prod.mk.injEq] at e
      rw [← e.2.1]
      exact (save_ha h h4 hc).set (fun z => by rw [hk3] at z; exact absurd z (by decide)) (fun _ => by omega)
theorem part_ha {b : Nat} (hk : SHK b = 6) (hc : zHA I B) (e : f_X3_partFromPartner 1 b I = some I') : zHA I' B := by
  unfold f_X3_partFromPartner at e
  obtain ⟨r, -, e⟩ := hb_some e
  obtain ⟨J, hJ, e⟩ := hb_some e
  have hcJ : zHA J B := by
    cases r with
    | none => rw [hopt_e1] at hJ; obtain rfl := Option.some.inj hJ; exact hc
    | some m =>
      rw [hopt_e2] at hJ
      obtain ⟨hm, hJ⟩ := hk_some hJ
      simp only [hlet_e] at hJ
      obtain rfl := Option.some.inj hJ
      exact hc.set (fun z => by rw [hm] at z; exact absurd z (by decide)) (fun _ => by omega)
  simp only [hlet_e] at e
  obtain rfl := Option.some.inj e
  exact hcJ.set (fun z => by rw [hk] at z; exact absurd z (by decide)) (fun _ => by omega)
theorem a_pair {a b : Int32} {r : Sum Nat Int32} (h : Inv2 I K O) (hc : zHA I B) (e : f_X7_pair a b I O = some (r, I', O')) : zHA I' B := by
  unfold f_X7_pair at e
  obtain ⟨q1, -, e⟩ := hb_some e
  cases q1 with
  | inl k => have e := hsum_l e; simp only [Option.some.injEq, Prod.mk.injEq] at e; rw [← e.2.1]; exact hc
  | inr r1 =>
    have e := hsum_r e
    obtain ⟨q2, -, e⟩ := hb_some e
    cases q2 with
    | inl k => have e := hsum_l e; simp only [Option.some.injEq, Prod.mk.injEq] at e; rw [← e.2.1]; exact hc
    | inr r2 =>
      have e := hsum_r e
      split at e
      · simp only [Option.some.injEq, Prod.mk.injEq] at e; rw [← e.2.1]; exact hc
      · obtain ⟨⟨I4, O5⟩, h4, e⟩ := hb_some e
        obtain ⟨n8, -, e⟩ := hb_some e
        obtain ⟨hk8, e⟩ := hk_some e
        obtain ⟨n9, -, e⟩ := hb_some e
        obtain ⟨hk9, e⟩ := hk_some e
        obtain ⟨J, hJ, e⟩ := hb_some e
        obtain ⟨r12, -, e⟩ := hb_some e
        simp only [Option.some.injEq, Prod.mk.injEq] at e
        rw [← e.2.1]
        unfold f_X3_makePair at hJ
        obtain ⟨J1, hJ1, hJ⟩ := hb_some hJ
        obtain ⟨J2, hJ2, hJ⟩ := hb_some hJ
        simp only [hlet_e] at hJ
        obtain rfl := Option.some.inj hJ
        have c2 := part_ha hk9 (part_ha hk8 (save_ha h h4 hc) hJ1) hJ2
        exact (c2.set (fun z => by rw [hk8] at z; exact absurd z (by decide)) (fun _ => by omega)).set (fun z => by rw [hk9] at z; exact absurd z (by decide)) (fun _ => by omega)
theorem chl_ha {β : Nat} {a l : Int32} (hB : IsB β) (hc : zHA I B) (e : f_X3_changeLimit β a l I = some I') : zHA I' B := by
  unfold f_X3_changeLimit at e
  have hk : SHK (β + 3) = 20 := sk3_3 (isB_sk3 hB)
  have fin : ∀ k v, zHA (gup I (β + 3) k v) B := fun k v => hc.set (fun z => by rw [hk] at z; exact absurd z (by decide)) (fun z => by rw [hk] at z; exact absurd z (by decide))
  split at e
  · obtain rfl := Option.some.inj e; exact hc
  · split at e
    · obtain rfl := Option.some.inj e; exact hc
    · obtain ⟨-, e⟩ := hg_some e
      simp only [hlet_e] at e
      obtain rfl := Option.some.inj e
      exact fin _ _
theorem a_setLimit {a l : Int32} {r : Sum Nat Int32} (h : Inv2 I K O) (hc : zHA I B) (e : f_X7_setLimit a l I O = some (r, I', O')) : zHA I' B := by
  unfold f_X7_setLimit at e
  obtain ⟨q1, -, e⟩ := hb_some e
  cases q1 with
  | inl k => have e := hsum_l e; simp only [Option.some.injEq, Prod.mk.injEq] at e; rw [← e.2.1]; exact hc
  | inr r1 =>
    have e := hsum_r e
    split at e
    · simp only [Option.some.injEq, Prod.mk.injEq] at e; rw [← e.2.1]; exact hc
    · split at e
      · obtain ⟨⟨I4, O5⟩, h4, e⟩ := hb_some e
        obtain ⟨r5, -, e⟩ := hb_some e
        obtain ⟨J, hJ, e⟩ := hb_some e
        simp only [Option.some.injEq, Prod.mk.injEq] at e
        rw [← e.2.1]
        exact chl_ha isB1 (save_ha h h4 hc) hJ
      · simp only [Option.some.injEq, Prod.mk.injEq] at e; rw [← e.2.1]; exact hc
theorem a_setLaps {a : Int32} {r : Sum Nat Int32} (h : Inv2 I K O) (hc : zHA I B) (e : f_X7_setLaps a I O = some (r, I', O')) : zHA I' B := by
  unfold f_X7_setLaps at e
  split at e
  · simp only [Option.some.injEq, Prod.mk.injEq] at e; rw [← e.2.1]; exact hc
  · split at e
    · split at e
      · obtain ⟨⟨I4, O5⟩, h4, e⟩ := hb_some e
        simp only [hlet_e, Option.some.injEq, Prod.mk.injEq] at e
        rw [← e.2.1]
        exact (save_ha h h4 hc).set (fun _ => rfl) (fun z => absurd z (by decide))
      · simp only [Option.some.injEq, Prod.mk.injEq] at e; rw [← e.2.1]; exact hc
    · simp only [Option.some.injEq, Prod.mk.injEq] at e; rw [← e.2.1]; exact hc
theorem a_pass {a : Int32} {r : Sum Nat Int32} (h : Inv2 I K O) (hc : zHA I B) (hB2 : B + 2000 < 1000000000) (e : f_X7_pass a I O = some (r, I', O')) : zHA I' (B + 1800) := by
  unfold f_X7_pass at e
  have small : zHA I (B + 1800) := hc.le (by omega)
  rcases secs_e a with ⟨m, m1, m2, rfl, c1, -⟩ | ⟨c1, -⟩
  · rw [c1] at e
    simp only [Option.bind_some, hsum] at e
    obtain ⟨q2, -, e⟩ := hb_some e
    cases q2 with
    | inl k => simp only [Option.some.injEq, Prod.mk.injEq] at e; rw [← e.2.1]; exact small
    | inr r2 =>
      obtain ⟨⟨I4, O5⟩, h4, e⟩ := hb_some e
      obtain ⟨⟨I6, O7⟩, h6, e⟩ := hb_some e
      simp only [Option.some.injEq, Prod.mk.injEq] at e
      rw [← e.2.1]
      have c4 := save_ha h h4 hc
      obtain ⟨n, I1, O1, K1, s1, s2, s3, s4, s5, s6, s7, s8, s9⟩ := sv_step h
      rw [h4] at s1
      simp only [Option.some.injEq, Prod.mk.injEq] at s1
      obtain ⟨rfl, rfl⟩ := s1
      obtain ⟨I2, O2, K2, v, p1, p2, p3, p4, p5, p6, p7⟩ := pass_both (O := O5) isB1 (show m < 4000 by omega) s3
      rw [h6] at p1
      simp only [Option.some.injEq, Prod.mk.injEq] at p1
      obtain ⟨rfl, rfl⟩ := p1
      obtain ⟨t1, -⟩ := pass_hc isB1 (show m < 4000 by omega) s3 h6 (by omega) (c4 1 isB1 (by omega))
      exact zHA.upd isB1 (c4.le (by omega)) (fun a _ ha => p6 a ha) (t1.le (by omega))
  · rw [c1] at e
    simp only [Option.bind_some, hsum, Option.some.injEq, Prod.mk.injEq] at e
    rw [← e.2.1]; exact small
end AH
