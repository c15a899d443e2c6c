theorem snAll_ok {μ : Nat} (h : μ < 293) : snAll μ = true := sorry
theorem snMok_ok (μ : Nat) (h0 : 0 < μ) (h : μ < 293) : snMok μ = true := sorry
theorem snOwn_ok (μ : Nat) (h : μ < 293) : snOwnOk μ = true := sorry
