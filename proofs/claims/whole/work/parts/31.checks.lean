/-! ===== the tables hold what the instructions need ===== -/
theorem snAl0 : ((List.range 15).all fun j => snAll (0 + j)) = true := by decide +kernel
theorem snAl1 : ((List.range 15).all fun j => snAll (15 + j)) = true := by decide +kernel
theorem snAl2 : ((List.range 15).all fun j => snAll (30 + j)) = true := by decide +kernel
theorem snAl3 : ((List.range 15).all fun j => snAll (45 + j)) = true := by decide +kernel
theorem snAl4 : ((List.range 15).all fun j => snAll (60 + j)) = true := by decide +kernel
theorem snAl5 : ((List.range 15).all fun j => snAll (75 + j)) = true := by decide +kernel
theorem snAl6 : ((List.range 15).all fun j => snAll (90 + j)) = true := by decide +kernel
theorem snAl7 : ((List.range 15).all fun j => snAll (105 + j)) = true := by decide +kernel
theorem snAl8 : ((List.range 15).all fun j => snAll (120 + j)) = true := by decide +kernel
theorem snAl9 : ((List.range 15).all fun j => snAll (135 + j)) = true := by decide +kernel
theorem snAl10 : ((List.range 15).all fun j => snAll (150 + j)) = true := by decide +kernel
theorem snAl11 : ((List.range 15).all fun j => snAll (165 + j)) = true := by decide +kernel
theorem snAl12 : ((List.range 15).all fun j => snAll (180 + j)) = true := by decide +kernel
theorem snAl13 : ((List.range 15).all fun j => snAll (195 + j)) = true := by decide +kernel
theorem snAl14 : ((List.range 15).all fun j => snAll (210 + j)) = true := by decide +kernel
theorem snAl15 : ((List.range 15).all fun j => snAll (225 + j)) = true := by decide +kernel
theorem snAl16 : ((List.range 15).all fun j => snAll (240 + j)) = true := by decide +kernel
theorem snAl17 : ((List.range 15).all fun j => snAll (255 + j)) = true := by decide +kernel
theorem snAl18 : ((List.range 15).all fun j => snAll (270 + j)) = true := by decide +kernel
theorem snAl19 : ((List.range 15).all fun j => snAll (285 + j)) = true := by decide +kernel
theorem snAll_ok {μ : Nat} (h : μ < 293) : snAll μ = true := by
  have key : ∀ g : Nat, ((List.range 15).all fun j => snAll (15 * g + j)) = true → 15 * g ≤ μ → μ < 15 * g + 15 → snAll μ = true := by
    intro g hg h1 h2
    have h3 := List.all_eq_true.mp hg (μ - 15 * g) (List.mem_range.mpr (by omega))
    rw [show 15 * g + (μ - 15 * g) = μ by omega] at h3
    exact h3
  have hc : (0 ≤ μ ∧ μ < 15) ∨ (15 ≤ μ ∧ μ < 30) ∨ (30 ≤ μ ∧ μ < 45) ∨ (45 ≤ μ ∧ μ < 60) ∨ (60 ≤ μ ∧ μ < 75) ∨ (75 ≤ μ ∧ μ < 90) ∨ (90 ≤ μ ∧ μ < 105) ∨ (105 ≤ μ ∧ μ < 120) ∨ (120 ≤ μ ∧ μ < 135) ∨ (135 ≤ μ ∧ μ < 150) ∨ (150 ≤ μ ∧ μ < 165) ∨ (165 ≤ μ ∧ μ < 180) ∨ (180 ≤ μ ∧ μ < 195) ∨ (195 ≤ μ ∧ μ < 210) ∨ (210 ≤ μ ∧ μ < 225) ∨ (225 ≤ μ ∧ μ < 240) ∨ (240 ≤ μ ∧ μ < 255) ∨ (255 ≤ μ ∧ μ < 270) ∨ (270 ≤ μ ∧ μ < 285) ∨ (285 ≤ μ ∧ μ < 300) := by omega
  rcases hc with ⟨h1, h2⟩ | ⟨h1, h2⟩ | ⟨h1, h2⟩ | ⟨h1, h2⟩ | ⟨h1, h2⟩ | ⟨h1, h2⟩ | ⟨h1, h2⟩ | ⟨h1, h2⟩ | ⟨h1, h2⟩ | ⟨h1, h2⟩ | ⟨h1, h2⟩ | ⟨h1, h2⟩ | ⟨h1, h2⟩ | ⟨h1, h2⟩ | ⟨h1, h2⟩ | ⟨h1, h2⟩ | ⟨h1, h2⟩ | ⟨h1, h2⟩ | ⟨h1, h2⟩ | ⟨h1, h2⟩
  · exact key 0 snAl0 h1 h2
  · exact key 1 snAl1 h1 h2
  · exact key 2 snAl2 h1 h2
  · exact key 3 snAl3 h1 h2
  · exact key 4 snAl4 h1 h2
  · exact key 5 snAl5 h1 h2
  · exact key 6 snAl6 h1 h2
  · exact key 7 snAl7 h1 h2
  · exact key 8 snAl8 h1 h2
  · exact key 9 snAl9 h1 h2
  · exact key 10 snAl10 h1 h2
  · exact key 11 snAl11 h1 h2
  · exact key 12 snAl12 h1 h2
  · exact key 13 snAl13 h1 h2
  · exact key 14 snAl14 h1 h2
  · exact key 15 snAl15 h1 h2
  · exact key 16 snAl16 h1 h2
  · exact key 17 snAl17 h1 h2
  · exact key 18 snAl18 h1 h2
  · exact key 19 snAl19 h1 h2
theorem snMok_all : ((List.range 292).all fun j => snMok (j + 1)) = true := by decide +kernel
theorem snMok_ok (μ : Nat) (h0 : 0 < μ) (h : μ < 293) : snMok μ = true := by
  have h1 := List.all_eq_true.mp snMok_all (μ - 1) (List.mem_range.mpr (by omega))
  rw [show μ - 1 + 1 = μ by omega] at h1
  exact h1
theorem snOwn_all : ((List.range 293).all snOwnOk) = true := by decide +kernel
theorem snOwn_ok (μ : Nat) (h : μ < 293) : snOwnOk μ = true := List.all_eq_true.mp snOwn_all μ (List.mem_range.mpr h)
