def Run (c : Nat → Nat) : Nat → Nat → (Nat → Nat → Int32) → (Nat → Nat → Int32) → Prop
  | 0, _, I, I' => I = I'
  | n + 1, i, I, I' => c i ≠ 59 ∧ ∃ I1, f_X1_accepts (nI (c i)) I = some (1, I1) ∧ (∀ q, q ≠ 128 → I1 q = I q) ∧ Run c n (i + 1) I1 I'
theorem Run.tr {c : Nat → Nat} : ∀ {n m i : Nat} {I I1 I2 : Nat → Nat → Int32}, Run c n i I I1 → Run c m (i + n) I1 I2 → Run c (n + m) i I I2 := by
  intro n
  induction n with
  | zero => intro m i I I1 I2 h1 h2; rw [show I = I1 from h1, Nat.zero_add]; exact h2
  | succ n ih =>
    intro m i I I1 I2 h1 h2
    obtain ⟨a1, J, a2, a3, a4⟩ := h1
    rw [show n + 1 + m = (n + m) + 1 by omega]
    exact ⟨a1, J, a2, a3, ih a4 (by rw [show i + 1 + n = i + (n + 1) by omega]; exact h2)⟩
theorem Run.one {c : Nat → Nat} {i : Nat} {I I1 : Nat → Nat → Int32} (h : c i ≠ 59) (h2 : f_X1_accepts (nI (c i)) I = some (1, I1)) (h3 : ∀ q, q ≠ 128 → I1 q = I q) : Run c 1 i I I1 := ⟨h, I1, h2, h3, rfl⟩
theorem Run.fr {c : Nat → Nat} : ∀ {n i : Nat} {I I' : Nat → Nat → Int32}, Run c n i I I' → ∀ q, q ≠ 128 → I' q = I q := by
  intro n
  induction n with
  | zero => intro i I I' h q hq; rw [show I = I' from h]
  | succ n ih =>
    intro i I I' h q hq
    obtain ⟨a1, J, a2, a3, a4⟩ := h
    rw [ih a4 q hq]; exact a3 q hq
def Bad (c : Nat → Nat) (len j : Nat) (I : Nat → Nat → Int32) : Prop := (j < len ∧ Rf (c j) I) ∨ (j = len ∧ f_X1_isWhole I = some 0)
def Stop (c : Nat → Nat) (len j : Nat) (I : Nat → Nat → Int32) : Prop := j < len → c j ≠ 59 → Rf (c j) I
def nGo (c : Nat → Nat) (len hi : Nat) : Nat → Nat → Nat → Nat × Nat
  | 0, i, m => (i, m)
  | f + 1, i, m => if 48 ≤ c i ∧ c i ≤ 57 ∧ 10 * m + (c i - 48) ≤ hi then nGo c len hi f (i + 1) (10 * m + (c i - 48)) else (i, m)
def nP (c : Nat → Nat) (len lo hi i : Nat) : Option (Nat × Nat) :=
  if i < len ∧ 49 ≤ c i ∧ c i ≤ 57 then
    if c i - 48 < lo ∧ hi < 10 * (c i - 48) then none
    else if (nGo c len hi (len - (i + 1)) (i + 1) (c i - 48)).2 < lo then none else some (nGo c len hi (len - (i + 1)) (i + 1) (c i - 48))
  else none
theorem num_loop {K0 I0 : Nat → Nat → Int32} {c : Nat → Nat} {len k lo hi : Nat} {t L a b : Int32} (ht : TK K0 c len) (hk : kd k lo hi) :
    ∀ d i m fuel (K I : Nat → Nat → Int32), len - i = d → i ≤ len → d < fuel → 1 ≤ m → m ≤ hi → KS K0 K i 0 L a b → IS I0 I 3 (nI k) t (nI m) →
    ∃ K' I', f_X8_number_L59 (nI hi) 1 fuel (nI m) K = some (nI (nGo c len hi d i m).2, K') ∧ KS K0 K' (nGo c len hi d i m).1 0 L a b ∧ i ≤ (nGo c len hi d i m).1 ∧ (nGo c len hi d i m).1 ≤ len ∧ m ≤ (nGo c len hi d i m).2 ∧ (nGo c len hi d i m).2 ≤ hi ∧
      Run c ((nGo c len hi d i m).1 - i) i I I' ∧ IS I0 I' 3 (nI k) t (nI (nGo c len hi d i m).2) ∧ Stop c len (nGo c len hi d i m).1 I' := by
  have hlo : lo ≤ 10 ∧ hi ≤ 200 := by rcases hk with ⟨_, rfl, rfl⟩ | ⟨_, rfl, rfl⟩ | ⟨_, rfl, rfl⟩ <;> omega
  intro d
  induction d with
  | zero =>
    intro i m fuel K I hd hil hf h1 h2 hK hI
    obtain ⟨f, rfl⟩ : ∃ f, fuel = f + 1 := ⟨fuel - 1, by omega⟩
    have hie : i = len := by omega
    refine ⟨K, I, ?_, hK, Nat.le_refl _, hil, Nat.le_refl _, h2, by rw [show (nGo c len hi 0 i m).1 - i = 0 from Nat.sub_self i]; exact rfl, hI, fun h => absurd h (by show ¬ (i < len); omega)⟩
    rw [f_X8_number_L59, if_neg (by decide), ks_next ht hK hil]
    simp only [Option.bind_some]
    rw [dg_09 _ (cz_lt ht), if_neg (by rw [show cz c len i = 0 from if_neg (by omega)]; omega)]
    simp only [Option.bind_some, if_true]
    rfl
  | succ d ih =>
    intro i m fuel K I hd hil hf h1 h2 hK hI
    obtain ⟨f, rfl⟩ : ∃ f, fuel = f + 1 := ⟨fuel - 1, by omega⟩
    have hilt : i < len := by omega
    obtain ⟨c1, c2, _⟩ := ht.2.2 i hilt
    have ecz : cz c len i = c i := if_pos hilt
    by_cases q : 48 ≤ c i ∧ c i ≤ 57 ∧ 10 * m + (c i - 48) ≤ hi
    · have eg : nGo c len hi (d + 1) i m = nGo c len hi d (i + 1) (10 * m + (c i - 48)) := if_pos q
      rw [eg]
      have h59 : c i ≠ 59 := by omega
      have hcan : canB lo hi (10 * m + (c i - 48)) := Or.inl ⟨q.2.2, by omega⟩
      rcases acc_digit hk hI (by omega) (by omega : c i < 127) h59 with ⟨X, _, _, _, _, x1, x2⟩ | ⟨n, _⟩
      · have hK' := ks_10 (j := i + 1) hK
        obtain ⟨K', I', r1, r2, r3, r4, r5, r6, r7, r8, r9⟩ := ih (i + 1) (10 * m + (c i - 48)) f _ X (by omega) (by omega) (by omega) (by omega) q.2.2 hK' x2
        refine ⟨K', I', ?_, r2, by omega, r4, by omega, r6, ?_, r8, r9⟩
        · rw [f_X8_number_L59, if_neg (by decide), ks_next ht hK hil]
          simp only [Option.bind_some]
          rw [ecz, dg_09 _ (by omega), if_pos ⟨q.1, q.2.1⟩]
          simp only [Option.bind_some]
          have en : (10 : Int32) * nI m + nI (c i) - (48 : Int32) = nI (10 * m + (c i - 48)) := by
            rw [show (10 : Int32) * nI m = nI (10 * m) from pi_mul 10 m, pi_add, show nI (10 * m + c i) - (48 : Int32) = nI (10 * m + c i - 48) from pi_sub (b := 48) (by omega), show 10 * m + c i - 48 = 10 * m + (c i - 48) by omega]
          rw [if_neg (show ¬ ((1 : Int32) = 0) by decide), en, if_neg (by rw [pi_lt (by omega) (by omega)]; omega), hlet_e, hK.2.2.1, show nI i + (1 : Int32) = nI (i + 1) from pi_add i 1]
          exact r1
        · have e1 : (nGo c len hi d (i + 1) (10 * m + (c i - 48))).1 - i = 1 + ((nGo c len hi d (i + 1) (10 * m + (c i - 48))).1 - (i + 1)) := by omega
          rw [e1]
          exact Run.tr (Run.one h59 x1 (fun q hq => (x2.1 q hq).trans (hI.1 q hq).symm)) r7
      · exact absurd ⟨q.1, q.2.1, by omega, hcan⟩ n
    · have eg : nGo c len hi (d + 1) i m = (i, m) := if_neg q
      rw [eg]
      refine ⟨K, I, ?_, hK, Nat.le_refl _, hil, Nat.le_refl _, h2, by rw [show (i, m).1 - i = 0 from Nat.sub_self i]; exact rfl, hI, fun _ h59 => ?_⟩
      · rw [f_X8_number_L59, if_neg (by decide), ks_next ht hK hil]
        simp only [Option.bind_some]
        rw [ecz, dg_09 _ (by omega)]
        by_cases z : 48 ≤ c i ∧ c i ≤ 57
        · rw [if_pos z]
          simp only [Option.bind_some]
          have en : (10 : Int32) * nI m + nI (c i) - (48 : Int32) = nI (10 * m + (c i - 48)) := by
            rw [show (10 : Int32) * nI m = nI (10 * m) from pi_mul 10 m, pi_add, show nI (10 * m + c i) - (48 : Int32) = nI (10 * m + c i - 48) from pi_sub (b := 48) (by omega), show 10 * m + c i - 48 = 10 * m + (c i - 48) by omega]
          rw [if_neg (show ¬ ((1 : Int32) = 0) by decide), en, if_pos (by rw [pi_lt (by omega) (by omega)]; omega)]
        · rw [if_neg z]
          simp only [Option.bind_some, if_true]
      · rcases acc_digit hk hI (by omega) (by omega : c i < 127) h59 with ⟨X, z1, z2, z3, z4, _⟩ | ⟨_, n⟩
        · exfalso
          unfold canB at z4
          have : hi < 10 * m + (c i - 48) := by omega
          omega
        · exact n
theorem number_both {K0 I0 : Nat → Nat → Int32} {c : Nat → Nat} {len k lo hi i : Nat} {t L a b : Int32} {K I : Nat → Nat → Int32} (ht : TK K0 c len) (hk : kd k lo hi) (hil : i ≤ len) (hK : KS K0 K i 0 L a b) (hI : IS I0 I 3 (nI k) t 0) :
    ∃ x K' I' j, f_X8_number (nI lo) (nI hi) K = some (x, K') ∧ i ≤ j ∧ j ≤ len ∧ Run c (j - i) i I I' ∧
      ((nP c len lo hi i = none ∧ KS K0 K' j 1 L a b ∧ Bad c len j I') ∨
       (∃ v, nP c len lo hi i = some (j, v) ∧ KS K0 K' j 0 L a b ∧ i < j ∧ x = nI v ∧ lo ≤ v ∧ v ≤ hi ∧ IS I0 I' 3 (nI k) t (nI v) ∧ Stop c len j I')) := by
  have hlo : 1 ≤ lo ∧ lo ≤ 10 ∧ hi ≤ 200 ∧ 40 ≤ hi := by rcases hk with ⟨_, rfl, rfl⟩ | ⟨_, rfl, rfl⟩ | ⟨_, rfl, rfl⟩ <;> omega
  have hI0 : IS I0 I 3 (nI k) t (nI 0) := hI
  obtain ⟨K1, e1, q⟩ := ks_digit0 ht hK hil (dg_19 _ (cz_lt ht))
  have nz : ¬ ((1 : Int32) = 0) := by decide
  unfold f_X8_number
  rw [e1]
  simp only [Option.bind_some, hlet_e]
  rcases q with ⟨q, s1⟩ | ⟨q, s1⟩
  · -- a first digit
    have hilt : i < len := by
      rcases Nat.lt_or_ge i len with h | h
      · exact h
      · rw [show cz c len i = 0 from if_neg (by omega)] at q; omega
    have ecz : cz c len i = c i := if_pos hilt
    rw [ecz] at q ⊢
    have ed : nI (c i) - (48 : Int32) = nI (c i - 48) := pi_sub (b := 48) (by omega)
    have w0 : K1 129 11 = 0 := s1.2.2.2.1
    have h59 : c i ≠ 59 := by omega
    rw [ed, if_pos w0]
    simp only [Option.bind_some]
    rw [if_pos w0]
    have hle : (nI lo ≤ nI (c i - 48)) ↔ lo ≤ c i - 48 := pi_le (by omega) (by omega)
    have hle2 : ((10 : Int32) * nI (c i - 48) ≤ nI hi) ↔ 10 * (c i - 48) ≤ hi := by
      rw [show (10 : Int32) * nI (c i - 48) = nI (10 * (c i - 48)) from pi_mul 10 _]; exact pi_le (by omega) (by omega)
    by_cases u : c i - 48 < lo ∧ hi < 10 * (c i - 48)
    · -- too small, and nothing behind it helps
      have hnp : nP c len lo hi i = none := by unfold nP; rw [if_pos ⟨hilt, q⟩, if_pos u]
      rw [if_neg (fun z => by have := hle.mp z; omega), if_neg (fun z => by have := hle2.mp z; omega)]
      have s2 := ks_11 (v := 1) s1
      have s3 := ks_10 (j := i) s2
      refine ⟨0, _, I, i, rfl, Nat.le_refl _, hil, by rw [Nat.sub_self]; exact rfl, Or.inl ⟨hnp, ?_, Or.inl ⟨hilt, ?_⟩⟩⟩
      · rw [show gup K1 129 11 1 129 10 = nI (i + 1) from s2.2.2.1, show nI (i + 1) - (1 : Int32) = nI i from pi_sub (b := 1) (by omega)]; exact s3
      · rcases acc_digit hk hI0 (by omega) (by omega : c i < 127) h59 with ⟨X, z1, z2, z3, z4, _⟩ | ⟨_, n⟩
        · exfalso; unfold canB at z4; omega
        · exact n
    · have hnp2 : nP c len lo hi i = if (nGo c len hi (len - (i + 1)) (i + 1) (c i - 48)).2 < lo then none else some (nGo c len hi (len - (i + 1)) (i + 1) (c i - 48)) := by unfold nP; rw [if_pos ⟨hilt, q⟩, if_neg u]
      have hcan : canB lo hi (10 * 0 + (c i - 48)) := by
        unfold canB
        rcases hk with ⟨_, rfl, rfl⟩ | ⟨_, rfl, rfl⟩ | ⟨_, rfl, rfl⟩ <;> omega
      rcases acc_digit hk hI0 (by omega) (by omega : c i < 127) h59 with ⟨X, _, _, _, _, x1, x2⟩ | ⟨n, _⟩
      · rw [show 10 * 0 + (c i - 48) = c i - 48 by omega] at x2
        obtain ⟨K2, I2, r1, r2, r3, r4, r5, r6, r7, r8, r9⟩ := num_loop ht hk (len - (i + 1)) (i + 1) (c i - 48) FU K1 X rfl (by omega) (by have := ht.2.1; unfold FU; omega) (by omega) (by omega) s1 x2
        generalize hg : nGo c len hi (len - (i + 1)) (i + 1) (c i - 48) = g at *
        have hrun : Run c (g.1 - i) i I I2 := by
          rw [show g.1 - i = 1 + (g.1 - (i + 1)) by omega]
          exact Run.tr (Run.one h59 x1 (fun q hq => (x2.1 q hq).trans (hI.1 q hq).symm)) r7
        have hj : ∀ {α : Type} (A B : α), (if nI lo ≤ nI (c i - 48) then A else if (10 : Int32) * nI (c i - 48) ≤ nI hi then A else B) = A := by
          intro α A B
          by_cases z : lo ≤ c i - 48
          · rw [if_pos (hle.mpr z)]
          · rw [if_neg (fun y => z (hle.mp y)), if_pos (hle2.mpr (by omega))]
        rw [hj, r1]
        simp only [Option.bind_some]
        have w2 : K2 129 11 = 0 := r2.2.2.2.1
        rw [if_pos w2]
        have hwh := wh_3 hk r8 (by omega)
        by_cases z : g.2 < lo
        · rw [if_neg (by rw [pi_le (by omega) (by omega)]; omega)]
          refine ⟨_, _, I2, g.1, rfl, by omega, r4, hrun, Or.inl ⟨by rw [hnp2, if_pos z], ks_11 r2, ?_⟩⟩
          rw [if_neg (by omega)] at hwh
          rcases Nat.lt_or_ge g.1 len with y | y
          · left
            refine ⟨y, ?_⟩
            by_cases y2 : c g.1 = 59
            · rw [y2]; exact rf_semi hwh
            · exact r9 y y2
          · right; exact ⟨by omega, hwh⟩
        · rw [if_pos (by rw [pi_le (by omega) (by omega)]; omega)]
          refine ⟨_, _, I2, g.1, rfl, by omega, r4, hrun, Or.inr ⟨g.2, by rw [hnp2, if_neg z], ks_11 r2, by omega, rfl, by omega, r6, r8, r9⟩⟩
      · exact absurd ⟨by omega, q.2, by omega, hcan⟩ n
  · -- no digit 1 to 9
    have w1 : ¬ (K1 129 11 = 0) := by rw [s1.2.2.2.1]; decide
    rw [if_neg w1]
    simp only [Option.bind_some]
    rw [if_neg w1]
    rw [show f_X8_number_L59 (nI hi) 0 FU (nI (cz c len i) - (48 : Int32)) K1 = some (nI (cz c len i) - (48 : Int32), K1) from rfl]
    simp only [Option.bind_some]
    rw [if_neg w1]
    have hnp : nP c len lo hi i = none := by
      unfold nP
      rw [if_neg]
      intro z
      rw [show cz c len i = c i from if_pos z.1] at q
      exact q z.2
    refine ⟨_, _, I, i, rfl, Nat.le_refl _, hil, by rw [Nat.sub_self]; exact rfl, Or.inl ⟨hnp, ks_11 s1, ?_⟩⟩
    rcases Nat.lt_or_ge i len with y | y
    · left
      refine ⟨y, ?_⟩
      have hwh := wh_3 hk hI0 (by omega)
      rw [if_neg (by omega)] at hwh
      by_cases y2 : c i = 59
      · rw [y2]; exact rf_semi hwh
      · rw [show cz c len i = c i from if_pos y] at q
        have := (ht.2.2 i y).2.1
        rcases acc_digit hk hI0 (by omega) (by omega : c i < 127) y2 with ⟨X, z1, z2, z3, z4, _⟩ | ⟨_, n⟩
        · exfalso; omega
        · exact n
    · right
      have hwh := wh_3 hk hI0 (by omega)
      rw [if_neg (by omega)] at hwh
      exact ⟨by omega, hwh⟩
