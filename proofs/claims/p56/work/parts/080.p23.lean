def TX (I K : Nat → Nat → Int32) (len : Nat) : Prop := I 126 1 = nI len ∧ K 129 7 = nI len ∧ len ≤ 60 ∧ ∀ i, i < len → ∃ c : Nat, 33 ≤ c ∧ c ≤ 126 ∧ I 127 i = nI c ∧ K 135 i = nI c
def SL (I K : Nat → Nat → Int32) : Prop := ∀ j, j < 2 → (I 101 j = 0 ∨ I 101 j = 1) ∧ K 134 j = I 101 j ∧ (I 101 j = 1 → ∃ m, RR I (102 + 12 * j) (fun k => K 133 (151 * j + k)) m)
def Inv2 (I K : Nat → Nat → Int32) (O : Nat → Nat → Option Nat) : Prop := ∃ n p len, RR I 1 (K 130) n ∧ ZZ I ∧ SV I K O p ∧ SL I K ∧ TX I K len
theorem Inv2_I {I X K : Nat → Nat → Int32} {O : Nat → Nat → Option Nat} (e : ∀ a, a < 129 → X a = I a) (h : Inv2 I K O) : Inv2 X K O := by
  obtain ⟨n, p, len, h1, h2, ⟨h3, h4, h5, σ, s1, s2, s3⟩, h6, h7, h8, h9, h10⟩ := h
  refine ⟨n, p, len, RR_I (fun a _ h => e a (by omega)) h1, fun β hβ => RZ_I (fun a h1 h2 => e a ?_) (h2 β hβ), ⟨by rw [e 25 (by omega)]; exact h3, h4, h5, σ, s1, s2, fun i hi => ?_⟩, fun j hj => ?_, by rw [e 126 (by omega)]; exact h7, h8, h9, fun i hi => by rw [e 127 (by omega)]; exact h10 i hi⟩
  · rcases hβ with rfl | rfl | ⟨k, hk, rfl⟩ | rfl | rfl <;> omega
  · obtain ⟨m, hm⟩ := s3 i hi
    have := (s1 i (by omega)).1
    exact ⟨m, RR_I (fun a _ h => e a (by omega)) hm⟩
  · obtain ⟨a1, a2, a3⟩ := h6 j hj
    rw [e 101 (by omega)]
    refine ⟨a1, a2, fun h => ?_⟩
    obtain ⟨m, hm⟩ := a3 h
    exact ⟨m, RR_I (fun a _ h => e a (by omega)) hm⟩
theorem Inv2_K {I K Y : Nat → Nat → Int32} {O : Nat → Nat → Option Nat} (e : ∀ a, 130 ≤ a → Y a = K a) (e3 : Y 129 3 = K 129 3) (e7 : Y 129 7 = K 129 7) (h : Inv2 I K O) : Inv2 I Y O := by
  obtain ⟨n, p, len, h1, h2, ⟨h3, h4, h5, σ, s1, s2, s3⟩, h6, h7, h8, h9, h10⟩ := h
  refine ⟨n, p, len, by rw [e 130 (by omega)]; exact h1, h2, ⟨h3, by rw [e3]; exact h4, h5, σ, s1, s2, fun i hi => by rw [e 132 (by omega)]; exact s3 i hi⟩, fun j hj => ?_, h7, by rw [e7]; exact h8, h9, fun i hi => by rw [e 135 (by omega)]; exact h10 i hi⟩
  rw [e 134 (by omega), e 133 (by omega)]; exact h6 j hj
theorem Inv2_th {I : Nat → Nat → Int32} {O : Nat → Nat → Option Nat} {c : Int32} (h : Inv2 I I O) : Inv2 (gup I 129 8 c) (gup I 129 8 c) O :=
  Inv2_K (K := I) (fun a ha => gup_ne (by omega)) (gup_i (by omega)) (gup_i (by omega)) (Inv2_I (I := I) (fun a ha => gup_ne (by omega)) h)
theorem known_e {I K : Nat → Nat → Int32} {n : Nat} (a : Int32) (h3 : I 1 3 = nI n) (h128 : K 130 128 = nI n) (hn : n ≤ 8) :
    (∃ b, b < n ∧ a = nI b ∧ f_X7_known a I = some (Sum.inr (some (cB 1 b))) ∧ f_X8_isBird a K = some 1) ∨ (f_X7_known a I = some (Sum.inl 0) ∧ f_X8_isBird a K = some 0) := by
  unfold f_X7_known f_X3_at f_X8_isBird f_X8_in
  rw [h3, t128, h128]
  have em : nI n - (1 : Int32) = nI n + (-1) := Int32.sub_eq_add_neg _ _
  by_cases c0 : a < 0
  · right
    rw [if_pos c0, if_pos c0]; exact ⟨rfl, rfl⟩
  · obtain ⟨b, hb, rfl⟩ := pi_of (x := a) (by rw [Int32.lt_iff_toInt_lt, show (0 : Int32).toInt = 0 from rfl] at c0; omega)
    rw [if_neg c0, if_neg c0]
    by_cases c1 : b < n
    · left
      refine ⟨b, c1, rfl, ?_, ?_⟩
      · rw [if_neg (by rw [pi_le (by omega) (by omega)]; omega), if_pos (by rw [show (8 : Int32) = nI 8 from rfl, pi_lt (by omega) (by omega)]; omega), pi_gin (by omega), decide_eq_true (by omega), hg_t]
        simp only [Option.bind_some]
        rw [pi_tn (by omega), hopt_e2]
        show hk (cB 1 b) 6 (some (Sum.inr (some (cB 1 b)))) = _
        rw [hk_e (sk_b (β := 1) (Or.inl rfl) (by omega))]
      · rw [show nI n - (1 : Int32) = nI (n - 1) from pi_sub (b := 1) (by omega), if_neg (by rw [pi_lt (by omega) (by omega)]; omega)]; rfl
    · right
      refine ⟨?_, ?_⟩
      · rw [if_pos (by rw [pi_le (by omega) (by omega)]; omega)]; rfl
      · rw [if_pos]
        · rfl
        · rw [Int32.lt_iff_toInt_lt, pi_int (by omega)]
          have : (nI n - (1 : Int32)).toInt = (n : Int) - 1 := by
            rw [Int32.toInt_sub, pi_int (by omega), show (1 : Int32).toInt = 1 from rfl]; apply Int.bmod_eq_of_le <;> omega
          omega
theorem ref0 {K : Nat → Nat → Int32} : f_X8_refused 0 K = some (0, gup K 129 8 0) := rfl
theorem ref1 {K : Nat → Nat → Int32} : f_X8_refused 1 K = some (1, gup K 129 8 1) := rfl
theorem ref2 {K : Nat → Nat → Int32} : f_X8_refused 2 K = some (1, gup K 129 8 2) := rfl
theorem ref3 {K : Nat → Nat → Int32} : f_X8_refused 3 K = some (1, gup K 129 8 3) := rfl
def QA (Lr : Option (Int32 × (Nat → Nat → Int64))) (Mr : Option (Int32 × (Nat → Nat → Int32))) (I : Nat → Nat → Int32) (J : Nat → Nat → Int64) : Prop :=
  (∃ v : Int32, Lr = some (0, gup J 137 0 v.toInt64) ∧ Mr = some (v, gup I 129 8 0)) ∨ (∃ c r : Int32, c ≠ 0 ∧ Lr = some (c, J) ∧ Mr = some (r, gup I 129 8 c))
theorem lg0 (x : Int64) : lg_cmp x x = 0 := by
  unfold lg_cmp
  rw [if_neg (by simp), if_pos rfl]
theorem case_q {Lr : Option (Int32 × (Nat → Nat → Int64))} {Mr : Option (Int32 × (Nat → Nat → Int32))} {I : Nat → Nat → Int32} {O : Nat → Nat → Option Nat} {J : Nat → Nat → Int64} (h : QA Lr Mr I J) :
    ∃ c J', (Lr.bind fun (r102, J101) => Mr.bind fun (r105, I104) => (f_X8_thrown I104).bind fun r107 =>
      if r107 = r102 then
        (show Option (Unit) from
          if r102 = 0 then
            if (lg_cmp (J101 137 (0 : Int32).toNatClampNeg) ((r105).toInt64)) = 0 then
              some ()
            else
              none
          else
            some ()).bind fun _ =>
        some (I104, O, J101)
      else
        none) = some (gup I 129 8 c, O, J') := by
  rcases h with ⟨v, rfl, rfl⟩ | ⟨c, r, hc, rfl, rfl⟩
  · refine ⟨0, gup J 137 0 v.toInt64, ?_⟩
    simp only [Option.bind_some, f_X8_thrown, gup_at, if_true]
    have e : lg_cmp (gup J 137 0 v.toInt64 137 (0 : Int32).toNatClampNeg) v.toInt64 = 0 := by
      rw [show (0 : Int32).toNatClampNeg = 0 by decide, gup_at, lg0]
    rw [if_pos e]; rfl
  · refine ⟨c, J, ?_⟩
    simp only [Option.bind_some, f_X8_thrown, gup_at, if_true, if_neg hc]
def QS (I : Nat → Nat → Int32) (n : Nat) : Prop := RR I 1 (I 130) n
theorem QS.k {I : Nat → Nat → Int32} {n : Nat} (h : QS I n) (a : Int32) : (∃ b, b < n ∧ a = nI b ∧ f_X7_known a I = some (Sum.inr (some (cB 1 b))) ∧ f_X8_isBird a I = some 1) ∨ (f_X7_known a I = some (Sum.inl 0) ∧ f_X8_isBird a I = some 0) :=
  known_e a (h.1.1.1.trans h.2.2.2.1.1.1) h.2.2.2.1.1.1 h.2.2.2.1.1.2
theorem ofBird_1 {I : Nat → Nat → Int32} {n b f : Nat} (hn : n ≤ 8) (hb : b < n) (hf : f < 16) (h : f_X8_isBird (nI b) I = some 1) : f_X8_ofBird (nI b) (nI f) I = some (I 130 (16 * b + f), gup I 129 8 0) := by
  unfold f_X8_ofBird
  rw [h]
  simp only [Option.bind_some]
  rw [if_neg (by decide)]
  simp only [Option.bind_some]
  rw [ref0]
  simp only [Option.bind_some, if_true]
  rw [x8_of (by omega) hf]
  simp only [Option.bind_some]
  rw [gup_n (by omega)]
theorem ofBird_0 {I : Nat → Nat → Int32} {a f : Int32} (h : f_X8_isBird a I = some 0) : f_X8_ofBird a f I = some (0, gup I 129 8 1) := by
  unfold f_X8_ofBird
  rw [h]
  simp only [Option.bind_some, if_true]
  rw [ref1]
  simp only [Option.bind_some]
  rw [if_neg (by decide)]
theorem t0' : (0 : Int32).toNatClampNeg = 0 := by decide
section QQ
variable {I : Nat → Nat → Int32} {n : Nat} {J : Nat → Nat → Int64}
theorem q_flown (h : QS I n) (a : Int32) : QA (f_W_flown a I J) (f_X8_flown a I) I J := by
  have hn := h.2.2.2.1.1.2
  unfold f_W_flown f_X7_flown f_X8_flown
  rcases h.k a with ⟨b, hb, rfl, e1, e2⟩ | ⟨e1, e2⟩
  · left
    refine ⟨I 130 (16 * b + 7), ?_, ?_⟩
    · rw [e1]; simp only [Option.bind_some, hsum]
      rw [hk_e (sk_b (Or.inl rfl) (by omega))]
      simp only [Option.bind_some, hlet_e]
      rw [t0', (h.1.2.2.1 b hb).2.2.2.1]
    · rw [show (7 : Int32) = nI 7 from rfl, ofBird_1 hn hb (by omega) e2]; rfl
  · right
    refine ⟨1, 0, by decide, ?_, ?_⟩
    · rw [e1]; simp only [Option.bind_some, hsum, if_true]
    · rw [ofBird_0 e2]; rfl
end QQ
