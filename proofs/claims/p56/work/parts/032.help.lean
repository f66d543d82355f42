theorem kc_0 : SHK 0 = 7 := by decide
theorem kc_1 : SHK 1 = 3 := by decide
theorem kc_13 : SHK 13 = 3 := by decide
theorem kc_25 : SHK 25 = 4 := by decide
theorem kc_26 : SHK 26 = 25 := by decide
theorem kc_99 : SHK 99 = 5 := by decide
theorem kc_100 : SHK 100 = 27 := by decide
theorem kc_101 : SHK 101 = 21 := by decide
theorem kc_126 : SHK 126 = 2 := by decide
theorem kc_127 : SHK 127 = 22 := by decide
theorem kc_128 : SHK 128 = 1 := by decide
theorem cat_ref (a : Nat) : (Value.ref a).category = 1 := rfl
theorem cat_int (a : Int32) : (Value.int a).category = 1 := rfl
theorem sk27_tab : ∀ i, i < 2 → SHK (102 + 12 * i) = 3 := by decide
theorem sk27 {i : Nat} (h : i < 2) : SHK (102 + 12 * i) = 3 := sk27_tab i h
/-- how often a loop may go round -/
def FU : Nat := 4096
theorem gif_t {α : Type} {c : Prop} [Decidable c] {a b r : α} (hc : c) (h : (if c then a else b) = r) : a = r := by rw [if_pos hc] at h; exact h
theorem gif_f {α : Type} {c : Prop} [Decidable c] {a b r : α} (hc : ¬ c) (h : (if c then a else b) = r) : b = r := by rw [if_neg hc] at h; exact h
theorem hopt_n {β : Type} {a r : β} {f : Nat → β} (h : hopt none a f = r) : a = r := h
theorem hopt_s {β : Type} {n : Nat} {a r : β} {f : Nat → β} (h : hopt (some n) a f = r) : f n = r := h
theorem gEnd {D : va_G} {cl : List vw_C} {ws : va_W} {H : Heap} {t : State} (ht : t.heap = H) (hP : va_P D cl ws H) : va_P D cl ws t.heap := by rw [ht]; exact hP
theorem hsum_l {ρ β : Type} {k : Nat} {a : Nat → β} {f : ρ → β} {r : β} (h : hsum (Sum.inl k) a f = r) : a k = r := h
theorem hsum_r {ρ β : Type} {x : ρ} {a : Nat → β} {f : ρ → β} {r : β} (h : hsum (Sum.inr x) a f = r) : f x = r := h
/-- no divisor 0 -/
def gne (x : Int32) : Bool := decide (¬ x = 0)
theorem gne_of {x : Int32} (h : gne x = true) : ¬ x = 0 := by simpa [gne] using h
/-- no NaN -/
def gnn (x : UInt64) : Bool := decide (x &&& 0x7fffffffffffffff ≤ 0x7ff0000000000000)
theorem gnn_of {x : UInt64} (h : gnn x = true) : vf_n64 x := by simpa [gnn, vf_n64] using h
section GV
variable {p : Program} {l : Launch} {e : Env} {R : Room} {s : State} {m : MethodId} {args : Array Value} {below : List Frame} {meth : Method} {c : Code} {H : Heap} {locs : List Loc} {cells slots : Nat} {Q : State → Prop} {pc : Nat} {ls : Array Slot} {rest : List Value} {b : Nat → Nat}
theorem gv_top {x0 : Option Nat} (k : ∀ x : Option Nat, x = x0 → W p l e R s m args below meth c H locs cells slots Q (F0 m pc ls (va_rf (Option.map b x) :: rest))) : W p l e R s m args below meth c H locs cells slots Q (F0 m pc ls (va_rf (Option.map b x0) :: rest)) := k x0 rfl
end GV
