/-! One act of the law, on either game. -/
theorem bind_id {α β : Type} (x : Option (α × β)) : (x.bind fun y => match y with | (a, b) => some (a, b)) = x := by cases x <;> rfl
theorem DEI.val {α β : Type} {v : Option α} {h : α → (Nat → Nat → Int32) → Option (β × (Nat → Nat → Int32))} (hv : ∃ a, v = some a) (hg : ∀ a, DEI (h a)) : DEI (fun I => v.bind fun a => h a I) := by
  obtain ⟨a, rfl⟩ := hv
  exact hg a
theorem DEI.ite {α : Type} {c : Prop} [Decidable c] {f g : (Nat → Nat → Int32) → Option (α × (Nat → Nat → Int32))} (hf : DEI f) (hg : DEI g) : DEI (fun I => if c then f I else g I) := by
  by_cases h : c
  · exact hf.cong (fun I => if_pos h)
  · exact hg.cong (fun I => if_neg h)
theorem DEI.bm {α β : Type} {f : (Nat → Nat → Int32) → Option (α × (Nat → Nat → Int32))} {h : α → (Nat → Nat → Int32) → Option (β × (Nat → Nat → Int32))} (hf : DEI f) (hg : ∀ a, DEI (h a)) : DEI (fun I => (f I).bind fun y => match y with | (a, I1) => h a I1) := hf.bind hg
theorem i_number (a : Int32) : DEI (f_L_number a) := by
  have h1 : DEI (fun I => if a ≤ (99 : Int32) then some ((0 : Int32), I) else (f_L_append ((48 : Int32) + (a / (100 : Int32))) I).bind fun (r13, I12) => some (r13, I12)) :=
    DEI.ite (DEI.pure _) (DEI.bm (i_append _) (fun r => DEI.pure r))
  have h2 : ∀ p1 : Int32, DEI (fun I2 => if a ≤ (9 : Int32) then some (p1, I2) else (f_L_append ((48 : Int32) + ((a / (10 : Int32)) - (a / (10 : Int32)) / (10 : Int32) * (10 : Int32))) I2).bind fun (r9, I8) => some (r9, I8)) := fun p1 =>
    DEI.ite (DEI.pure _) (DEI.bm (i_append _) (fun r => DEI.pure r))
  have h3 : ∀ p3 : Int32, DEI (fun I4 => (f_L_append ((48 : Int32) + (a - a / (10 : Int32) * (10 : Int32))) I4).bind fun (r6, I5) => some (r6, I5)) := fun p3 =>
    DEI.bm (i_append _) (fun r => DEI.pure r)
  exact (DEI.bm h1 (fun p1 => DEI.bm (h2 p1) h3)).cong (fun I => by unfold f_L_number; rfl)
-- ACTS
theorem gne_t {r : Int32} (h : ¬ (r = 0)) : gne r = true := by unfold gne; exact decide_eq_true h
theorem i_loop {a1 r1 : Int32} (hM : ∃ M : Nat, M < 100 ∧ ((1 : Int32) + ((a1 / (32 : Int32)) - (a1 / (32 : Int32)) / (7 : Int32) * (7 : Int32))) = nI M) : ∀ (fuel : Nat) (j : Nat) (p60 : Int32), (∀ M : Nat, M < 100 → ((1 : Int32) + ((a1 / (32 : Int32)) - (a1 / (32 : Int32)) / (7 : Int32) * (7 : Int32))) = nI M → j ≤ M ∧ M - j < fuel) → DEI (fun I => f_L_acts_L89 a1 r1 fuel p60 (nI j) I) := by
  obtain ⟨M, hM1, hM2⟩ := hM
  intro fuel
  induction fuel with
  | zero => intro j p60 h; exact absurd (h M hM1 hM2).2 (by omega)
  | succ fuel ih =>
    intro j p60 h
    obtain ⟨hj, hf⟩ := h M hM1 hM2
    by_cases c : M ≤ j
    · exact (DEI.pure p60).cong (fun I => by rw [f_L_acts_L89, hM2, if_pos (by rw [pi_le (by omega) (by omega)]; exact c)])
    have c' : ¬ (((1 : Int32) + ((a1 / (32 : Int32)) - (a1 / (32 : Int32)) / (7 : Int32) * (7 : Int32))) ≤ nI j) := by rw [hM2, pi_le (by omega) (by omega)]; exact c
    obtain ⟨p61, hp⟩ : ∃ p61, p61 = nI j := ⟨_, rfl⟩
    rw [← hp] at c' ⊢
    have T1 : DEI (fun I62 =>
        (
          if p61 ≤ 0 then
            some ((0 : Int32), I62)
          else
            (f_L_append (59 : Int32) I62).bind fun (r121, I120) =>
            some (r121, I120))) := DEI.ite (DEI.pure _) (DEI.bm (i_append _) (fun r => DEI.pure r))
    have V2 : ∃ a, (
        (
          if (3 : Int32) ≤ ((((a1 / (32 : Int32)) / (8 : Int32)) >>> (((2 : Int32) * p61) &&& 31)) - (((a1 / (32 : Int32)) / (8 : Int32)) >>> (((2 : Int32) * p61) &&& 31)) / (8 : Int32) * (8 : Int32)) then
            if (5 : Int32) ≤ ((((a1 / (32 : Int32)) / (8 : Int32)) >>> (((2 : Int32) * p61) &&& 31)) - (((a1 / (32 : Int32)) / (8 : Int32)) >>> (((2 : Int32) * p61) &&& 31)) / (8 : Int32) * (8 : Int32)) then
              if ((((a1 / (32 : Int32)) / (8 : Int32)) >>> (((2 : Int32) * p61) &&& 31)) - (((a1 / (32 : Int32)) / (8 : Int32)) >>> (((2 : Int32) * p61) &&& 31)) / (8 : Int32) * (8 : Int32)) = (5 : Int32) then
                some (99 : Int32)
              else
                some (116 : Int32)
            else
              some (110 : Int32)
          else
            some (112 : Int32))) = some a := by
      split
      · split
        · split
          · exact ⟨_, rfl⟩
          · exact ⟨_, rfl⟩
        · exact ⟨_, rfl⟩
      · exact ⟨_, rfl⟩
    have T4 : ∀ r78 : Int32, DEI (fun I77 =>
        (
          if (5 : Int32) ≤ ((((a1 / (32 : Int32)) / (8 : Int32)) >>> (((2 : Int32) * p61) &&& 31)) - (((a1 / (32 : Int32)) / (8 : Int32)) >>> (((2 : Int32) * p61) &&& 31)) / (8 : Int32) * (8 : Int32)) then
            if ((((a1 / (32 : Int32)) / (8 : Int32)) >>> (((2 : Int32) * p61) &&& 31)) - (((a1 / (32 : Int32)) / (8 : Int32)) >>> (((2 : Int32) * p61) &&& 31)) / (8 : Int32) * (8 : Int32)) = (5 : Int32) then
              (f_L_number (((((a1 / (32 : Int32)) / (8 : Int32)) >>> (((2 : Int32) * p61) &&& 31)) / (8 : Int32)) - ((((a1 / (32 : Int32)) / (8 : Int32)) >>> (((2 : Int32) * p61) &&& 31)) / (8 : Int32)) / (4 : Int32) * (4 : Int32)) I77).bind fun (r108, I107) =>
              some (r108, I107)
            else
              some (r78, I77)
          else
            (
              if r1 = 0 then
                some (((((a1 / (32 : Int32)) / (8 : Int32)) >>> (((2 : Int32) * p61) &&& 31)) / (8 : Int32)) - ((((a1 / (32 : Int32)) / (8 : Int32)) >>> (((2 : Int32) * p61) &&& 31)) / (8 : Int32)) / (8 : Int32) * (8 : Int32))
              else
                hg (gne r1) <|
                some (((((a1 / (32 : Int32)) / (8 : Int32)) >>> (((2 : Int32) * p61) &&& 31)) / (8 : Int32)) - ((((a1 / (32 : Int32)) / (8 : Int32)) >>> (((2 : Int32) * p61) &&& 31)) / (8 : Int32)) / r1 * r1)).bind fun p111 =>
            (f_L_number p111 I77).bind fun (r113, I112) =>
            some (r113, I112))) := fun r78 => DEI.ite (DEI.ite (DEI.bm (i_number _) (fun r => DEI.pure r)) (DEI.pure _)) (DEI.val (by
      by_cases hr : r1 = 0
      · exact ⟨_, if_pos hr⟩
      · exact ⟨_, (if_neg hr).trans ((congrArg (fun c => hg c _) (gne_t hr)).trans hg_t)⟩) (fun p111 => DEI.bm (i_number _) (fun r => DEI.pure r)))
    have T5 : ∀ p80 : Int32, DEI (fun I81 =>
        (
          if ((((a1 / (32 : Int32)) / (8 : Int32)) >>> (((2 : Int32) * p61) &&& 31)) - (((a1 / (32 : Int32)) / (8 : Int32)) >>> (((2 : Int32) * p61) &&& 31)) / (8 : Int32) * (8 : Int32)) < (3 : Int32) then
            (f_L_append (61 : Int32) I81).bind fun (r100, I99) =>
            some (r100, I99)
          else
            if ((((a1 / (32 : Int32)) / (8 : Int32)) >>> (((2 : Int32) * p61) &&& 31)) - (((a1 / (32 : Int32)) / (8 : Int32)) >>> (((2 : Int32) * p61) &&& 31)) / (8 : Int32) * (8 : Int32)) = (5 : Int32) then
              (f_L_append (61 : Int32) I81).bind fun (r103, I102) =>
              some (r103, I102)
            else
              some (p80, I81))) := fun p80 => DEI.ite (DEI.bm (i_append _) (fun r => DEI.pure r)) (DEI.ite (DEI.bm (i_append _) (fun r => DEI.pure r)) (DEI.pure _))
    have T6 : ∀ p82 : Int32, DEI (fun I83 =>
        (
          if (3 : Int32) ≤ ((((a1 / (32 : Int32)) / (8 : Int32)) >>> (((2 : Int32) * p61) &&& 31)) - (((a1 / (32 : Int32)) / (8 : Int32)) >>> (((2 : Int32) * p61) &&& 31)) / (8 : Int32) * (8 : Int32)) then
            if ((((a1 / (32 : Int32)) / (8 : Int32)) >>> (((2 : Int32) * p61) &&& 31)) - (((a1 / (32 : Int32)) / (8 : Int32)) >>> (((2 : Int32) * p61) &&& 31)) / (8 : Int32) * (8 : Int32)) = (5 : Int32) then
              (f_L_number ((8 : Int32) + (((((a1 / (32 : Int32)) / (8 : Int32)) >>> (((2 : Int32) * p61) &&& 31)) / (64 : Int32)) - ((((a1 / (32 : Int32)) / (8 : Int32)) >>> (((2 : Int32) * p61) &&& 31)) / (64 : Int32)) / (33 : Int32) * (33 : Int32))) I83).bind fun (r92, I91) =>
              some (r92, I91)
            else
              if ((((a1 / (32 : Int32)) / (8 : Int32)) >>> (((2 : Int32) * p61) &&& 31)) - (((a1 / (32 : Int32)) / (8 : Int32)) >>> (((2 : Int32) * p61) &&& 31)) / (8 : Int32) * (8 : Int32)) ≤ (5 : Int32) then
                some (p82, I83)
              else
                (f_L_number ((1 : Int32) + (((((a1 / (32 : Int32)) / (8 : Int32)) >>> (((2 : Int32) * p61) &&& 31)) / (8 : Int32)) - ((((a1 / (32 : Int32)) / (8 : Int32)) >>> (((2 : Int32) * p61) &&& 31)) / (8 : Int32)) / (60 : Int32) * (60 : Int32))) I83).bind fun (r88, I87) =>
                some (r88, I87)
          else
            (f_L_number ((10 : Int32) + (((((a1 / (32 : Int32)) / (8 : Int32)) >>> (((2 : Int32) * p61) &&& 31)) / (64 : Int32)) - ((((a1 / (32 : Int32)) / (8 : Int32)) >>> (((2 : Int32) * p61) &&& 31)) / (64 : Int32)) / (31 : Int32) * (31 : Int32))) I83).bind fun (r96, I95) =>
            some (r96, I95))) := fun p82 => DEI.ite (DEI.ite (DEI.bm (i_number _) (fun r => DEI.pure r)) (DEI.ite (DEI.pure _) (DEI.bm (i_number _) (fun r => DEI.pure r)))) (DEI.bm (i_number _) (fun r => DEI.pure r))
    refine DEI.cong (DEI.bm T1 fun p74 => DEI.val V2 fun p76 => DEI.bm (i_append p76) fun r78 => DEI.bm (T4 r78) fun p80 => DEI.bm (T5 p80) fun p82 => DEI.bm (T6 p82) fun p84 => ih (j + 1) p84 (fun M' h1 h2 => ?_)) (fun I => ?_)
    · obtain rfl : M' = M := by rw [hM2, pi_eq (by omega) (by omega)] at h2; exact h2.symm
      omega
    · rw [f_L_acts_L89, if_neg c']
      simp only [hlet_e]
      rw [show p61 + 1 = nI (j + 1) from by rw [hp]; exact pi_add j 1]
