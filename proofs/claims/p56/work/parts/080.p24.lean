theorem g130 {I : Nat → Nat → Int32} {c : Int32} : gup I 129 8 c 130 = I 130 := gup_ne (by omega)
section QQ
variable {I : Nat → Nat → Int32} {n : Nat} {J : Nat → Nat → Int64}
theorem q_speedOf (h : QS I n) (a : Int32) : QA (f_W_speedOf a I J) (f_X8_speedOf a I) I J := by
  have hn := h.2.2.2.1.1.2
  unfold f_W_speedOf f_X7_speedOf f_X8_speedOf
  rcases h.k a with ⟨b, hb, rfl, e1, e2⟩ | ⟨e1, e2⟩
  · left
    refine ⟨I 130 (16 * b + 8), ?_, ?_⟩
    · rw [e1]; simp only [Option.bind_some, hsum]
      rw [hk_e (sk_b (Or.inl rfl) (by omega))]
      simp only [Option.bind_some, hlet_e]
      rw [t0', (h.1.2.2.1 b hb).2.2.2.2.1]; try rfl
    · rw [show (8 : Int32) = nI 8 from rfl, ofBird_1 hn hb (by omega) e2]; rfl
  · right
    refine ⟨1, 0, by decide, ?_, ?_⟩
    · rw [e1]; simp only [Option.bind_some, hsum, if_true]
    · rw [ofBird_0 e2]; rfl
theorem q_strengthOf (h : QS I n) (a : Int32) : QA (f_W_strengthOf a I J) (f_X8_strengthOf a I) I J := by
  have hn := h.2.2.2.1.1.2
  unfold f_W_strengthOf f_X7_strengthOf f_X8_strengthOf
  rcases h.k a with ⟨b, hb, rfl, e1, e2⟩ | ⟨e1, e2⟩
  · left
    refine ⟨I 130 (16 * b + 3), ?_, ?_⟩
    · rw [e1]; simp only [Option.bind_some, hsum]
      rw [hk_e (sk_b (Or.inl rfl) (by omega))]
      simp only [Option.bind_some, hlet_e]
      rw [t0', (h.1.2.2.1 b hb).2.2.2.2.2.1]; try rfl
    · rw [show (3 : Int32) = nI 3 from rfl, ofBird_1 hn hb (by omega) e2]; rfl
  · right
    refine ⟨1, 0, by decide, ?_, ?_⟩
    · rw [e1]; simp only [Option.bind_some, hsum, if_true]
    · rw [ofBird_0 e2]; rfl
theorem q_wearOf (h : QS I n) (a : Int32) : QA (f_W_wearOf a I J) (f_X8_wearOf a I) I J := by
  have hn := h.2.2.2.1.1.2
  unfold f_W_wearOf f_X7_wearOf f_X8_wearOf
  rcases h.k a with ⟨b, hb, rfl, e1, e2⟩ | ⟨e1, e2⟩
  · left
    refine ⟨I 130 (16 * b + 4), ?_, ?_⟩
    · rw [e1]; simp only [Option.bind_some, hsum]
      rw [hk_e (sk_b (Or.inl rfl) (by omega))]
      simp only [Option.bind_some, hlet_e]
      rw [t0', (h.1.2.2.1 b hb).2.2.2.2.2.2.1]; try rfl
    · rw [show (4 : Int32) = nI 4 from rfl, ofBird_1 hn hb (by omega) e2]; rfl
  · right
    refine ⟨1, 0, by decide, ?_, ?_⟩
    · rw [e1]; simp only [Option.bind_some, hsum, if_true]
    · rw [ofBird_0 e2]; rfl
theorem q_laneOf (h : QS I n) (a : Int32) : QA (f_W_laneOf a I J) (f_X8_laneOf a I) I J := by
  have hn := h.2.2.2.1.1.2
  unfold f_W_laneOf f_X7_laneOf f_X8_laneOf
  rcases h.k a with ⟨b, hb, rfl, e1, e2⟩ | ⟨e1, e2⟩
  · left
    refine ⟨I 130 (16 * b + 5), ?_, ?_⟩
    · rw [e1]; simp only [Option.bind_some, hsum]
      rw [hk_e (sk_b (Or.inl rfl) (by omega))]
      simp only [Option.bind_some, hlet_e]
      rw [t0', (h.1.2.2.1 b hb).2.2.2.2.2.2.2.1]; try rfl
    · rw [show (5 : Int32) = nI 5 from rfl, ofBird_1 hn hb (by omega) e2]; rfl
  · right
    refine ⟨1, 0, by decide, ?_, ?_⟩
    · rw [e1]; simp only [Option.bind_some, hsum, if_true]
    · rw [ofBird_0 e2]; rfl
theorem q_stateOf (h : QS I n) (a : Int32) : QA (f_W_stateOf a I J) (f_X8_stateOf a I) I J := by
  have hn := h.2.2.2.1.1.2
  unfold f_W_stateOf f_X7_stateOf f_X8_stateOf
  rcases h.k a with ⟨b, hb, rfl, e1, e2⟩ | ⟨e1, e2⟩
  · left
    refine ⟨I 130 (16 * b + 6), ?_, ?_⟩
    · rw [e1]; simp only [Option.bind_some, hsum]
      rw [hk_e (sk_b (Or.inl rfl) (by omega))]
      simp only [Option.bind_some, hlet_e]
      rw [t0', (h.1.2.2.1 b hb).2.2.2.2.2.2.2.2.1]; try rfl
    · rw [show (6 : Int32) = nI 6 from rfl, ofBird_1 hn hb (by omega) e2]; rfl
  · right
    refine ⟨1, 0, by decide, ?_, ?_⟩
    · rw [e1]; simp only [Option.bind_some, hsum, if_true]
    · rw [ofBird_0 e2]; rfl
theorem q_paceOf (h : QS I n) (a : Int32) : QA (f_W_paceOf a I J) (f_X8_paceOf a I) I J := by
  have hn := h.2.2.2.1.1.2
  unfold f_W_paceOf f_X7_paceOf f_X8_paceOf
  rcases h.k a with ⟨b, hb, rfl, e1, e2⟩ | ⟨e1, e2⟩
  · left
    refine ⟨I 130 (16 * b + 0), ?_, ?_⟩
    · rw [e1]; simp only [Option.bind_some, hsum]
      rw [hk_e (sk_b (Or.inl rfl) (by omega))]
      simp only [Option.bind_some, hlet_e]
      rw [t0', (h.1.2.2.1 b hb).1]; try rfl
    · rw [show (0 : Int32) = nI 0 from rfl, ofBird_1 hn hb (by omega) e2]; rfl
  · right
    refine ⟨1, 0, by decide, ?_, ?_⟩
    · rw [e1]; simp only [Option.bind_some, hsum, if_true]
    · rw [ofBird_0 e2]; rfl
theorem q_lapsOf (h : QS I n) (a : Int32) : QA (f_W_lapsOf a I J) (f_X8_lapsOf a I) I J := by
  have hn := h.2.2.2.1.1.2
  unfold f_W_lapsOf f_X7_lapsOf f_X8_lapsOf f_X6_lapsOver
  rcases h.k a with ⟨b, hb, rfl, e1, e2⟩ | ⟨e1, e2⟩
  · left
    refine ⟨I 130 (16 * b + 7) / 400, ?_, ?_⟩
    · rw [e1]; simp only [Option.bind_some, hsum]
      rw [hk_e (sk_b (Or.inl rfl) (by omega))]
      simp only [Option.bind_some, hlet_e]
      rw [t0', (h.1.2.2.1 b hb).2.2.2.1]
    · rw [show (7 : Int32) = nI 7 from rfl, ofBird_1 hn hb (by omega) e2]; rfl
  · right
    refine ⟨1, 0, by decide, ?_, ?_⟩
    · rw [e1]; simp only [Option.bind_some, hsum, if_true]
    · rw [ofBird_0 e2]; rfl
theorem bd1_c {x : Int32} (h : Bd x 0 1) : x = 0 ∨ x = 1 := by
  obtain ⟨v, rfl, _, hv⟩ := h
  rcases Nat.eq_zero_or_pos v with e | e
  · left; rw [e]; rfl
  · right; rw [show v = 1 by omega]; rfl
theorem q_isCalledIn (h : QS I n) (a : Int32) : (∃ v : Int64, (f_W_isCalledIn a I J = some (0, gup J 137 0 v)) ∧ ∃ r, f_X8_isCalledIn a I = some (r, gup I 129 8 0) ∧ (if r = 0 then (0 : Int64) else 1) = v) ∨ (∃ c r : Int32, c ≠ 0 ∧ f_W_isCalledIn a I J = some (c, J) ∧ f_X8_isCalledIn a I = some (r, gup I 129 8 c)) := by
  have hn := h.2.2.2.1.1.2
  unfold f_W_isCalledIn f_X7_isCalledIn f_X8_isCalledIn
  rcases h.k a with ⟨b, hb, rfl, e1, e2⟩ | ⟨e1, e2⟩
  · left
    have hc := bd1_c ((h.2.2.2.1.2.1 b hb).2.2.2.2.2.2.2.2.1)
    have e11 : I (cB 1 b) 11 = I 130 (16 * b + 9) := (h.1.2.2.1 b hb).2.2.2.2.2.2.2.2.2.2.1
    rw [e1, show (9 : Int32) = nI 9 from rfl, ofBird_1 hn hb (by omega) e2]
    simp only [Option.bind_some, hsum]
    rw [hk_e (sk_b (Or.inl rfl) (by omega)), (h.2.1 b (by omega)).2, hg_t, e11]
    simp only [Option.bind_some, hlet_e]
    rw [t0']
    rcases hc with hc | hc
    · rw [hc]; exact ⟨0, rfl, 0, rfl, rfl⟩
    · rw [hc]; exact ⟨1, rfl, 1, rfl, rfl⟩
  · right
    refine ⟨1, 0, by decide, ?_, ?_⟩
    · rw [e1]; simp only [Option.bind_some, hsum, if_true]
    · rw [ofBird_0 e2]; rfl
theorem q_whereIs (h : QS I n) (a : Int32) : QA (f_W_whereIs a I J) (f_X8_whereIs a I) I J := by
  have hn := h.2.2.2.1.1.2
  unfold f_W_whereIs f_X7_whereIs f_X8_whereIs
  rcases h.k a with ⟨b, hb, rfl, e1, e2⟩ | ⟨e1, e2⟩
  · left
    have hf := h.2.2.2.1.fl.2.2 b hb
    refine ⟨nI (pN (fl (I 130) b)), ?_, ?_⟩
    · rw [e1]; simp only [Option.bind_some, hsum]
      rw [hk_e (sk_b (Or.inl rfl) (by omega)), x6_partOfCourse hf.2 ((h.1.2.2.1 b hb).2.2.2.1.trans hf.1)]
      simp only [Option.bind_some, hlet_e]
      rw [t0']
    · rw [e2]; simp only [Option.bind_some]
      rw [if_neg (by decide)]; simp only [Option.bind_some]
      rw [ref0]; simp only [Option.bind_some, if_true]
      rw [x8_where (by omega) hf.2 (by rw [g130]; exact hf.1)]; rfl
  · right
    refine ⟨1, 0, by decide, ?_, ?_⟩
    · rw [e1]; simp only [Option.bind_some, hsum, if_true]
    · rw [e2]; rfl
theorem q_gapAhead (h : QS I n) (a : Int32) : QA (f_W_gapAhead a I J) (f_X8_gapAhead a I) I J := by
  have hn := h.2.2.2.1.1.2
  unfold f_W_gapAhead f_X7_gapAhead f_X8_gapAhead f_X3_gapOf
  rcases h.k a with ⟨b, hb, rfl, e1, e2⟩ | ⟨e1, e2⟩
  · left
    have hq := h.1.q (Or.inl rfl) h.2.1 h.2.2.2.1
    obtain ⟨r, hr, hN⟩ := x3_nextAhead hq hb
    obtain ⟨g, hg, hg4, hG⟩ := x8_gap (I := gup I 129 8 0) (lane := I 130 (16 * b + 5)) (n := n) (b := b) (by rw [g130]; exact h.2.2.2.1.fl) hb
    rw [g130] at hG
    have eg := GP_NX hn hG hN
    refine ⟨nI g, ?_, ?_⟩
    · rw [e1]; simp only [Option.bind_some, hsum]
      rw [hk_e (sk_b (Or.inl rfl) (by omega)), hr]
      simp only [Option.bind_some]
      cases r with
      | none =>
        simp only at eg
        rw [Option.map_none, hopt_e1, eg]; simp only [Option.bind_some, hlet_e]; rw [t0']; rfl
      | some j =>
        simp only at eg
        have hj := hN.2.1.1
        rw [Option.map_some, hopt_e2, hk_e (sk_b (Or.inl rfl) (by omega)), hq.fb hb hj, eg]
        simp only [Option.bind_some, hlet_e]
        rw [t0']
    · rw [e2]; simp only [Option.bind_some]
      rw [if_neg (by decide)]; simp only [Option.bind_some]
      rw [ref0]; simp only [Option.bind_some, if_true]
      rw [show (5 : Int32) = nI 5 from rfl, x8_of (by omega) (by omega)]
      simp only [Option.bind_some]
      rw [g130, hg]; rfl
  · right
    refine ⟨1, 0, by decide, ?_, ?_⟩
    · rw [e1]; simp only [Option.bind_some, hsum, if_true]
    · rw [e2]; rfl
end QQ
