theorem nextIn_both {I K : Nat → Nat → Int32} {O : Nat → Nat → Option Nat} {n : Nat} (hI : RR I 1 (K 130) n) (hZ : RZ I 13) :
    ∃ I' O' K', RZ I' 13 ∧ (∀ a, a < 13 ∨ 25 ≤ a → I' a = I a) ∧ FO 13 O O' ∧ (∀ a, 132 ≤ a → a ≠ 136 → K' a = K a) ∧ (∀ a, a < 129 → K' a = K a) ∧ (∀ f, f ≠ 15 → K' 129 f = K 129 f) ∧ (∀ k, k < 151 → K' 130 k = K 130 k) ∧
      ((f_X7_foretellSeconds I O = some (-1, I', O') ∧ f_X8_nextIn K = some (0, K')) ∨
       (∃ t B, 1 ≤ t ∧ t ≤ 2000 ∧ f_X7_foretellSeconds I O = some (nI t, I', O') ∧ f_X8_nextIn K = some (nI t, K') ∧ RR I' 13 B n ∧ cnt3 (K 130) n < cnt3 B n ∧ K' 129 15 = B 136)) := by
  obtain ⟨X, x1, x2, x3, x4, x5, x6⟩ := x3_take (I := I) isB13 isB1 (by omega) hI.2.1 hI.gz5
  have hRX := take_RR hZ hI x3 x4 x5 x6
  have hrc := bd1_c hI.2.2.2.1.2.2.2.2.1.2
  have h5 : X 13 5 = K 130 150 := hRX.1.1.2.2.1
  have unf : f_X7_foretellSeconds I O = f_X7_foretellSeconds_L13 FU (1 : Int32) X O := by
    unfold f_X7_foretellSeconds
    rw [x1]; rfl
  rcases hrc with hr | hr
  · refine ⟨X, O, K, hRX.2.1, fun a ha => x2 a (by omega), fun _ _ => rfl, fun _ _ _ => rfl, fun _ _ => rfl, fun _ _ => rfl, fun _ _ => rfl, Or.inl ⟨?_, ?_⟩⟩
    · rw [unf]
      show f_X7_foretellSeconds_L13 (4095 + 1) (1 : Int32) X O = _
      rw [f_X7_foretellSeconds_L13, if_neg (by decide), h5, hr, if_pos rfl]
    · unfold f_X8_nextIn
      rw [t150, hr, if_pos rfl]
  · obtain ⟨A, p1, p2, p3⟩ := x8_putAside (K := K)
    have a130 : A 130 = K 130 := p2 130 (by omega)
    have h17 : X 1 7 = nI (cnt3 (K 130) n) := by rw [x2 1 (by omega)]; exact hI.1.1.2.2.2.1.trans hI.2.2.2.1.a.1
    obtain ⟨I', O', B, q1, q2, q3, q4, q5⟩ := next_loop (β := 13) (n := n) (c0 := cnt3 (K 130) n) isB13 2000 0 FU X O A (by omega) (by unfold FU; omega) (by rw [a130]; exact hRX) (by rw [a130]; exact hr) (by rw [a130]) h17
    obtain ⟨C, r1, r2, r3⟩ := x8_putBack (K := gup B 129 15 (B 130 136))
    have t136 : (136 : Int32).toNatClampNeg = 136 := by decide
    have fk : ∀ a, a ≠ 129 → a ≠ 130 → a ≠ 131 → a ≠ 136 → C a = K a := fun a s1 s2 s3 s4 => by rw [r2 a s2, gup_ne s1, q2 a s2 s4, p2 a s3]
    refine ⟨I', O', C, q1, fun a ha => by rw [q3 a (by omega), x2 a (by omega)], q4, fun a s1 s2 => fk a (by omega) (by omega) (by omega) s2, fun a s1 => fk a (by omega) (by omega) (by omega) (by omega), fun f hf => by rw [r2 129 (by omega), gup_i hf, q2 129 (by omega) (by omega), p2 129 (by omega)], fun k hk => by rw [r3 k hk, gup_n (by omega), q2 131 (by omega) (by omega)]; exact p3 k hk, ?_⟩
    have hne : ¬ (K 130 150 = 0) := by rw [hr]; decide
    rcases q5 with ⟨w1, w2⟩ | ⟨t, t1, t2, w1, w2, w3, w4⟩
    · refine Or.inl ⟨by rw [unf]; exact w1, ?_⟩
      unfold f_X8_nextIn
      rw [t150, if_neg hne, p1]
      simp only [Option.bind_some]
      rw [show f_X8_nextIn_L21 FU 0 0 A = some (nI 2000, 0, B) from w2]
      simp only [Option.bind_some, hlet_e]
      rw [t136, r1]
      simp only [Option.bind_some, if_true]
    · refine Or.inr ⟨t, B 130, t1, t2, by rw [unf]; exact w1, ?_, w3, w4, by rw [r2 129 (by omega), gup_at]⟩
      unfold f_X8_nextIn
      rw [t150, if_neg hne, p1]
      simp only [Option.bind_some]
      rw [show f_X8_nextIn_L21 FU 0 0 A = some (nI t, 1, B) from w2]
      simp only [Option.bind_some, hlet_e]
      rw [t136, r1]
      simp only [Option.bind_some, show ¬ ((1 : Int32) = 0) by decide, if_false]
