section CS
variable {SL : Nat} {sx : Nat → Int32} {p4 : Int32} {I : Nat → Nat → Int32} {O : Nat → Nat → Option Nat} {J : Nat → Nat → Int64}
theorem inv_O {O' : Nat → Nat → Option Nat} (e : O' 26 = O 26) (h : Inv2 I I O) : Inv2 I I O' := by
  obtain ⟨n, p, len, h1, h2, ⟨h3, h4, h5, σ, s1, s2, s3⟩, h6, h7⟩ := h
  exact ⟨n, p, len, h1, h2, ⟨h3, h4, h5, σ, fun i hi => by rw [e]; exact s1 i hi, s2, s3⟩, h6, h7⟩
end CS
