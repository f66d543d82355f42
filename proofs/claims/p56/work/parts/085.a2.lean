section DC
variable {α β : Type} {d : Nat}
theorem DET.ite {c : Prop} [Decidable c] {f g : (Nat → Nat → Int32) → (Nat → Nat → Option Nat) → Option (α × (Nat → Nat → Int32) × (Nat → Nat → Option Nat))} (hf : DET f d) (hg : DET g d) : DET (fun I O => if c then f I O else g I O) d := fun K => by
  by_cases h : c
  · exact (hf K).cong (fun I O _ => if_pos h)
  · exact (hg K).cong (fun I O _ => if_neg h)
theorem DET.valP {v : Option α} {P : α → Prop} {h : α → (Nat → Nat → Int32) → (Nat → Nat → Option Nat) → Option (β × (Nat → Nat → Int32) × (Nat → Nat → Option Nat))} (hv : ∃ a, v = some a ∧ P a) (hg : ∀ a, P a → DET (h a) d) : DET (fun I O => v.bind fun a => h a I O) d := by
  obtain ⟨a, rfl, ha⟩ := hv
  exact hg a ha
theorem DET.guard {c : Bool} {f : (Nat → Nat → Int32) → (Nat → Nat → Option Nat) → Option (α × (Nat → Nat → Int32) × (Nat → Nat → Option Nat))} (hc : c = true) (hf : DET f d) : DET (fun I O => hg c (f I O)) d := fun K => (hf K).cong (fun I O _ => by rw [hc, hg_t])
theorem DET.q {f : (Nat → Nat → Int32) → Option α} {h : α → (Nat → Nat → Int32) → (Nat → Nat → Option Nat) → Option (β × (Nat → Nat → Int32) × (Nat → Nat → Option Nat))} (hq : ∀ K, ∃ r, ∀ I O, Inv2 I K O → f I = some r) (hg : ∀ r, DET (h r) d) : DET (fun I O => (f I).bind fun r => h r I O) d := fun K => by
  obtain ⟨r, hr⟩ := hq K
  exact (hg r K).cong (fun I O hI => by rw [hr I O hI]; rfl)
theorem DET.qP {P : α → Prop} {f : (Nat → Nat → Int32) → Option α} {h : α → (Nat → Nat → Int32) → (Nat → Nat → Option Nat) → Option (β × (Nat → Nat → Int32) × (Nat → Nat → Option Nat))} (hq : ∀ K, ∃ r, P r ∧ ∀ I O, Inv2 I K O → f I = some r) (hg : ∀ r, P r → DET (h r) d) : DET (fun I O => (f I).bind fun r => h r I O) d := fun K => by
  obtain ⟨r, hP, hr⟩ := hq K
  exact (hg r hP K).cong (fun I O hI => by rw [hr I O hI]; rfl)
theorem DET.i {f : (Nat → Nat → Int32) → Option (α × (Nat → Nat → Int32))} {h : α → (Nat → Nat → Int32) → (Nat → Nat → Option Nat) → Option (β × (Nat → Nat → Int32) × (Nat → Nat → Option Nat))} (hf : DEI f) (hg : ∀ a, DET (h a) d) : DET (fun I O => (f I).bind fun y => match y with | (a, I1) => h a I1 O) d := fun K => by
  obtain ⟨r, K1, hf⟩ := hf K
  obtain ⟨r2, K2, hg⟩ := hg r K1
  refine ⟨r2, K2, fun I O B hI hc hB => ?_⟩
  obtain ⟨I1, a1, a2, a3⟩ := hf I O hI
  obtain ⟨I2, O2, b1, b2, b3⟩ := hg I1 O B a2 (hc.far (fun a ha => a3 a (by unfold inR at ha; omega))) hB
  exact ⟨I2, O2, by dsimp only; rw [a1]; exact b1, b2, b3⟩
theorem DET.id {f : (Nat → Nat → Int32) → (Nat → Nat → Option Nat) → Option (α × (Nat → Nat → Int32) × (Nat → Nat → Option Nat))} {c : Nat} (hf : DET f c) (hcd : c ≤ d) : DET (fun I O => (f I O).bind fun y => match y with | (a, I1, O1) => some (a, I1, O1)) d := fun K => ((hf K).le hcd).cong (fun I O _ => by cases f I O <;> rfl)
theorem DET.id2 {f : (Nat → Nat → Int32) → Option (α × (Nat → Nat → Int32))} {c : Nat} (hf : DET (fun I O => (f I).bind fun y => some (y.1, y.2, O)) c) (hcd : c ≤ d) : DET (fun I O => (f I).bind fun y => match y with | (a, I1) => some (a, I1, O)) d := fun K => ((hf K).le hcd).cong (fun I O _ => rfl)
theorem DET.id3 {f : (Nat → Nat → Int32) → (Nat → Nat → Option Nat) → Option (α × (Nat → Nat → Int32))} {c : Nat} (hf : DET (fun I O => (f I O).bind fun y => some (y.1, y.2, O)) c) (hcd : c ≤ d) : DET (fun I O => (f I O).bind fun y => match y with | (a, I1) => some (a, I1, O)) d := fun K => ((hf K).le hcd).cong (fun I O _ => rfl)
theorem DET.pu (a : α) : DET (fun I O => some (a, I, O)) d := fun K => (DAt.pure a).le (Nat.zero_le d)
end DC
theorem q_sparrows : ∀ K : Nat → Nat → Int32, ∃ r, (∃ n, n ≤ 8 ∧ r = nI n) ∧ ∀ I O, Inv2 I K O → f_X7_sparrows I = some r := fun K => by
  by_cases hne : ∃ I O, Inv2 I K O
  · obtain ⟨I0, O0, h0⟩ := hne
    obtain ⟨n, h1⟩ := inv_n h0
    refine ⟨K 130 128, ⟨n, rr_n h1, (rr_w h1).1.1⟩, fun I O hI => ?_⟩
    obtain ⟨n2, h2⟩ := inv_n hI
    unfold f_X7_sparrows
    rw [h2.1.1.1]
  · exact ⟨0, ⟨0, by omega, rfl⟩, fun I O hI => absurd ⟨I, O, hI⟩ hne⟩
theorem q_isRacing : ∀ K : Nat → Nat → Int32, ∃ r, ∀ I O, Inv2 I K O → f_X7_isRacing I = some r := fun K => by
  refine ⟨K 130 150, fun I O hI => ?_⟩
  obtain ⟨n2, h2⟩ := inv_n hI
  unfold f_X7_isRacing
  rw [h2.gz5, hg_t, h2.1.1.2.2.1]
theorem val_rem {x r : Int32} : ∃ a, (if r = 0 then some (0 : Int32) else hg (gne r) <| some (x - x / r * r)) = some a ∧ True := by
  by_cases hr : r = 0
  · exact ⟨_, if_pos hr, trivial⟩
  · exact ⟨_, by rw [if_neg hr, gne_t hr, hg_t], trivial⟩
theorem val_ite {c : Prop} [Decidable c] {x y : Int32} (hx : ¬ (x = 0)) (hy : ¬ (y = 0)) : ∃ a, (if c then some x else some y) = some a ∧ gne a = true := by
  by_cases hc : c
  · exact ⟨x, if_pos hc, gne_t hx⟩
  · exact ⟨y, if_neg hc, gne_t hy⟩
set_option maxHeartbeats 2000000 in
theorem d_acts {m : Nat} (hm : m < 2147483648) : DET (f_L_acts (nI m)) 200000 := by
  obtain ⟨a1, ha1⟩ : ∃ a1, a1 = nI m := ⟨_, rfl⟩
  have hM : (1 : Int32) + ((a1 / (32 : Int32)) - (a1 / (32 : Int32)) / (7 : Int32) * (7 : Int32)) = nI (1 + m / 32 % 7) := by
    rw [ha1, show nI m / (32 : Int32) = nI (m / 32) from pi_div (b := 32) hm (by omega)]
    have := mod_e (x := m / 32) (m := 7) (by omega) (by omega)
    rw [show (7 : Int32) = nI 7 from rfl, this]
    exact pi_add 1 _
  have hL : ∀ r1 p60, DEI (fun I => f_L_acts_L89 a1 r1 16 p60 (0 : Int32) I) := fun r1 p60 =>
    i_loop ⟨_, by omega, hM⟩ 16 0 p60 (fun M h1 h2 => by
      rw [hM, pi_eq (by omega) (by omega)] at h2
      omega)
  rw [← ha1]
  have key : DET (fun (I : Nat → Nat → Int32) (O : Nat → Nat → Option Nat) =>
      (f_X7_sparrows I).bind fun r1 =>
      (
        if r1 = 0 then
          some (0 : Int32)
        else
          hg (gne r1) <|
          some (((a1 / (32 : Int32)) / (8 : Int32)) - ((a1 / (32 : Int32)) / (8 : Int32)) / r1 * r1)).bind fun p3 =>
      if (5 : Int32) ≤ (a1 - a1 / (32 : Int32) * (32 : Int32)) then
        if (9 : Int32) ≤ (a1 - a1 / (32 : Int32) * (32 : Int32)) then
          if (19 : Int32) ≤ (a1 - a1 / (32 : Int32) * (32 : Int32)) then
            if (22 : Int32) ≤ (a1 - a1 / (32 : Int32) * (32 : Int32)) then
              if (24 : Int32) ≤ (a1 - a1 / (32 : Int32) * (32 : Int32)) then
                if (27 : Int32) ≤ (a1 - a1 / (32 : Int32) * (32 : Int32)) then
                  if (a1 - a1 / (32 : Int32) * (32 : Int32)) = (27 : Int32) then
                    (
                      if r1 = 0 then
                        some (0 : Int32)
                      else
                        hg (gne r1) <|
                        some (((a1 / (32 : Int32)) / (64 : Int32)) - ((a1 / (32 : Int32)) / (64 : Int32)) / r1 * r1)).bind fun p19 =>
                    (f_L_pair p3 p19 I O).bind fun (r22, I20, O21) =>
                    some (r22, I20, O21)
                  else
                    if (a1 - a1 / (32 : Int32) * (32 : Int32)) = (28 : Int32) then
                      (f_L_setLimit (((a1 / (32 : Int32)) / (8 : Int32)) - ((a1 / (32 : Int32)) / (8 : Int32)) / (4 : Int32) * (4 : Int32)) ((8 : Int32) + (((a1 / (32 : Int32)) / (64 : Int32)) - ((a1 / (32 : Int32)) / (64 : Int32)) / (33 : Int32) * (33 : Int32))) I O).bind fun (r16, I14, O15) =>
                      some (r16, I14, O15)
                    else
                      if (a1 - a1 / (32 : Int32) * (32 : Int32)) = (29 : Int32) then
                        (f_L_setLaps ((1 : Int32) + (((a1 / (32 : Int32)) / (8 : Int32)) - ((a1 / (32 : Int32)) / (8 : Int32)) / (3 : Int32) * (3 : Int32))) I O).bind fun (r11, I9, O10) =>
                        some (r11, I9, O10)
                      else
                        if ((a1 / (32 : Int32)) - (a1 / (32 : Int32)) / (4 : Int32) * (4 : Int32)) = 0 then
                          (f_L_begin I O).bind fun (r6, I4, O5) =>
                          some (r6, I4, O5)
                        else
                          some ((0 : Int32), I, O)
                else
                  (f_L_callIn p3 I O).bind fun (r28, I26, O27) =>
                  some (r28, I26, O27)
              else
                (f_L_setPace p3 ((10 : Int32) + (((a1 / (32 : Int32)) / (64 : Int32)) - ((a1 / (32 : Int32)) / (64 : Int32)) / (31 : Int32) * (31 : Int32))) I O).bind fun (r33, I31, O32) =>
                some (r33, I31, O32)
            else
              (
                if ((a1 / (32 : Int32)) - (a1 / (32 : Int32)) / (3 : Int32) * (3 : Int32)) = 0 then
                  some (100 : Int32)
                else
                  some (900 : Int32)).bind fun p36 =>
              hg (gne p36) <|
              (f_L_enter ((10 : Int32) + (((a1 / (32 : Int32)) / (8 : Int32)) - ((a1 / (32 : Int32)) / (8 : Int32)) / (31 : Int32) * (31 : Int32))) ((100 : Int32) + (((a1 / (32 : Int32)) / (64 : Int32)) - ((a1 / (32 : Int32)) / (64 : Int32)) / p36 * p36)) (((a1 / (32 : Int32)) / (16 : Int32)) - ((a1 / (32 : Int32)) / (16 : Int32)) / (2 : Int32) * (2 : Int32)) I O).bind fun (r39, I37, O38) =>
              some (r39, I37, O38)
          else
            (f_X7_isRacing I).bind fun r43 =>
            if r43 = 0 then
              (f_L_begin I O).bind fun (r47, I45, O46) =>
              some (r47, I45, O46)
            else
              (
                if ((a1 / (32 : Int32)) - (a1 / (32 : Int32)) / (4 : Int32) * (4 : Int32)) = 0 then
                  some (60 : Int32)
                else
                  some (8 : Int32)).bind fun p49 =>
              hg (gne p49) <|
              (f_L_pass ((1 : Int32) + ((a1 / (32 : Int32)) - (a1 / (32 : Int32)) / p49 * p49)) I O).bind fun (r52, I50, O51) =>
              some (r52, I50, O51)
        else
          (f_X7_clearBuffer I).bind fun (r58, I57) =>
          (f_L_acts_L89 a1 r1 16 r58 (0 : Int32) I57).bind fun (p63, I64) =>
          if p63 < (1 : Int32) then
            some ((-99 : Int32), I64, O)
          else
            (f_X7_firstError I64).bind fun (r66, I65) =>
            if r66 = p63 then
              (f_L_follow I65 O).bind fun (r70, I68, O69) =>
              some (r70, I68, O69)
            else
              some ((-99 : Int32), I65, O)
      else
        if (3 : Int32) ≤ (a1 - a1 / (32 : Int32) * (32 : Int32)) then
          if (a1 - a1 / (32 : Int32) * (32 : Int32)) = (3 : Int32) then
            (f_L_keep ((a1 / (32 : Int32)) - (a1 / (32 : Int32)) / (2 : Int32) * (2 : Int32)) I).bind fun (r131, I130) =>
            some (r131, I130, O)
          else
            (f_L_goBack ((a1 / (32 : Int32)) - (a1 / (32 : Int32)) / (2 : Int32) * (2 : Int32)) I O).bind fun (r128, I126, O127) =>
            some (r128, I126, O127)
        else
          (f_L_undo I O).bind fun (r135, I134) =>
          some (r135, I134, O)) 200000 :=
    DET.q (fun K => (q_sparrows K).imp fun r h => h.2) fun r1 => DET.valP val_rem fun p3 _ => DET.ite
      (DET.ite
        (DET.ite
          (DET.ite
            (DET.ite
              (DET.ite
                (DET.ite (DET.valP val_rem fun p19 _ => DET.id (d_pair p3 p19) (by omega))
                  (DET.ite (DET.id (d_setLimit _ _) (by omega)) (DET.ite (DET.id (d_setLaps _) (by omega)) (DET.ite (DET.id d_begin (by omega)) (DET.pu _)))))
                (DET.id (d_callIn _) (by omega)))
              (DET.id (d_setPace _ _) (by omega)))
            (DET.valP (val_ite (by decide) (by decide)) fun p36 hp => DET.guard hp (DET.id (d_enter _ _ _) (by omega))))
          (DET.q q_isRacing fun r43 => DET.ite (DET.id d_begin (by omega)) (DET.valP (val_ite (by decide) (by decide)) fun p49 hp => DET.guard hp (DET.id (d_pass _) (by omega)))))
        (DET.i i_clear fun r58 => DET.i (hL r1 r58) fun p63 => DET.ite (c := p63 < (1 : Int32)) (DET.pu (-99 : Int32)) (DET.i i_first fun r66 => DET.ite (c := r66 = p63) (DET.id (f := f_L_follow) (c := 200000) (d := 200000) d_follow (by omega)) (DET.pu (-99 : Int32)))))
      (DET.ite (DET.ite (DET.id2 (d_keep _) (by omega)) (DET.id (d_goBack _) (by omega))) (DET.id3 (f := f_L_undo) (c := 0) (d := 200000) d_undo (by omega)))
  exact fun K => (key K).cong (fun I O _ => by unfold f_L_acts; rfl)
