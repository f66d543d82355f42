theorem secs_e (a : Int32) : (∃ m, 1 ≤ m ∧ m ≤ 200 ∧ a = nI m ∧ f_X7_checkSeconds a = some (Sum.inr ()) ∧ f_X8_in a (1 : Int32) (200 : Int32) = some 1) ∨ (f_X7_checkSeconds a = some (Sum.inl 1) ∧ f_X8_in a (1 : Int32) (200 : Int32) = some 0) := by
  rcases in_chk (a := a) (lo := 1) (hi := 200) (by omega) (by omega) with ⟨m, m1, m2, e0, e1, e2, e3⟩ | ⟨e1, e2⟩
  · refine Or.inl ⟨m, m1, m2, e0, ?_, e1⟩
    unfold f_X7_checkSeconds
    exact (if_neg e2).trans (if_pos e3)
  · refine Or.inr ⟨?_, e1⟩
    unfold f_X7_checkSeconds
    rcases e2 with e | ⟨e, e'⟩
    · exact if_pos e
    · exact (if_neg e).trans (if_neg e')
theorem wpd_same {s : Nat → Int32} {k : Nat} : wpd s k (s k) = s := by
  funext i; unfold wpd; split
  · next h => rw [h]
  · rfl
theorem op_wouldFly (a l : Int32) : OPB (f_W_wouldFly a l) (f_X8_wouldFly a l) := by
  intro I O J K h
  have hh := h
  obtain ⟨n, p0, len, h1, hZZ, _⟩ := hh
  have hn := h1.2.2.2.1.1.2
  have hrc := bd1_c h1.2.2.2.1.2.2.2.2.1.2
  have h5 : I 1 5 = K 130 150 := h1.1.1.2.2.1
  rcases known_e (I := I) (K := K) (n := n) a (h1.1.1.1.trans h1.2.2.2.1.1.1) h1.2.2.2.1.1.1 hn with ⟨b, hb, rfl, e1, e2⟩ | ⟨e1, e2⟩
  · rcases secs_e l with ⟨m, m1, m2, rfl, c1, c2⟩ | ⟨c1, c2⟩
    · rcases hrc with hr | hr
      · refine op_no h (c := 3) (r := 0) (by decide) ?_ ?_
        · unfold f_W_wouldFly f_X7_wouldFly f_X7_checkRacing
          rw [e1]
          simp only [Option.bind_some, hsum]
          rw [c1, h5, hr]; rfl
        · unfold f_X8_wouldFly
          rw [e2]
          simp only [Option.bind_some, show ¬ ((1 : Int32) = 0) by decide, if_false]
          rw [c2, t150, hr]; rfl
      · have hpc : I (cB 1 b) 1 = K 130 (16 * b) := (h1.1.2.2.1 b hb).1
        have g130' : gup K 129 8 0 130 = K 130 := gup_ne (by omega)
        obtain ⟨I7, O8, r, K8, f1, f2, f3, f4, f5, f6, f7⟩ := foretell_both (K := gup K 129 8 0) (O := O) (pc := K 130 (16 * b)) h1 (hZZ 13 isB13) hb ((h1.2.2.2.1.2.1 b hb).1) (by rw [g130']; exact wpd_same.symm) (show m < 4000 by omega)
        rw [g130'] at f7
        have hfin : Inv2 I7 K8 O8 := by
          have hR : RR I7 1 (K8 130) n := RR_I (fun a q1 q2 => f3 a (by omega)) (RR_s (s := K 130) f7 h1)
          exact Inv2_now h (fun a q1 q2 => f3 a (by omega)) f4 hR (fun a q1 q2 => by rw [f6 a (by omega) (by omega) q2]; exact gup_ne (by omega)) (by rw [f6 129 (by omega) (by omega) (by omega)]; exact gup_i (by omega)) (by rw [f6 129 (by omega) (by omega) (by omega)]; exact gup_i (by omega)) (f5 26 (by omega))
        refine ⟨I7, O8, K8, hfin, fun a ha => f3 a (by omega), fun a ha => by rw [f6 a (by omega) (by omega) (by omega)]; exact gup_ne (by omega), Or.inl ⟨r, ?_, ?_, by rw [f6 129 (by omega) (by omega) (by omega)]; exact gup_at⟩⟩
        · unfold f_W_wouldFly f_X7_wouldFly f_X7_checkRacing
          rw [e1]
          simp only [Option.bind_some, hsum]
          rw [c1]
          simp only [Option.bind_some]
          have c0 : ¬ (I 1 5 = 0) := by rw [h5, hr]; decide
          rw [if_neg c0]
          simp only [Option.bind_some]
          rw [hk_e (sk_b isB1 (by omega)), hpc, f1]
          simp only [Option.bind_some, hlet_e]
          rw [t0']
        · unfold f_X8_wouldFly
          rw [e2]
          simp only [Option.bind_some, show ¬ ((1 : Int32) = 0) by decide, if_false]
          rw [c2, t150, hr]
          simp only [Option.bind_some, show ¬ ((1 : Int32) = 0) by decide, if_false, if_true, eq_self]
          rw [ref0]
          simp only [Option.bind_some, if_true]
          rw [f2]; rfl
    · refine op_no h (c := 2) (r := 0) (by decide) ?_ ?_
      · unfold f_W_wouldFly f_X7_wouldFly
        rw [e1]
        simp only [Option.bind_some, hsum]
        rw [c1]; rfl
      · unfold f_X8_wouldFly
        rw [e2]
        simp only [Option.bind_some, show ¬ ((1 : Int32) = 0) by decide, if_false]
        rw [c2]; rfl
  · refine op_no h (c := 1) (r := 0) (by decide) ?_ ?_
    · unfold f_W_wouldFly f_X7_wouldFly
      rw [e1]; rfl
    · unfold f_X8_wouldFly
      rw [e2]; rfl
section CS
variable {SL' : Nat} {sx : Nat → Int32} {p4 : Int32} {I : Nat → Nat → Int32} {O : Nat → Nat → Option Nat} {J : Nat → Nat → Int64}
end CS
