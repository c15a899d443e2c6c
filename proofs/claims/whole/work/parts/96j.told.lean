/-! ===== questions: is the RULE told, near ===== -/
theorem mixN {s x y X : Nat} (hs : s ≤ 10) (h1 : x ≤ X) (h2 : y ≤ X) : s * x + (10 - s) * y ≤ 10 * X := by
  rcases (by omega : s = 0 ∨ s = 1 ∨ s = 2 ∨ s = 3 ∨ s = 4 ∨ s = 5 ∨ s = 6 ∨ s = 7 ∨ s = 8 ∨ s = 9 ∨ s = 10) with rfl | rfl | rfl | rfl | rfl | rfl | rfl | rfl | rfl | rfl | rfl <;> omega
theorem hun_jN (m : Nat) : hun m = jN (100 ^ m) := by rw [hun_ofI, ← jN_ofI]
theorem cV_nn {w X : Nat} {v : Int64} (hw : w ≠ 0) : ∃ x : Nat, cV (jN X) v w = jN x ∧ x ≤ X := by
  unfold cV
  rw [if_neg hw]
  split
  · exact ⟨X, rfl, Nat.le_refl _⟩
  · exact ⟨0, rfl, Nat.zero_le _⟩
theorem lV_nn {w X : Nat} {v : Int64} (hw : w ≠ 0) : ∃ x : Nat, lV (jN X) v w = jN x ∧ x ≤ X := by
  unfold lV
  rw [if_neg hw]
  split
  · exact ⟨X, rfl, Nat.le_refl _⟩
  · exact ⟨0, rfl, Nat.zero_le _⟩
theorem mV_nn {w X y : Nat} {v : Int64} (hw : w ≠ 0) (hy : y ≤ 120) : ∃ x : Nat, mV (jN X) v (jN y) w = jN x ∧ x ≤ 120 * X := by
  unfold mV
  rw [if_neg hw]
  split
  · exact ⟨X, rfl, by omega⟩
  · split
    · exact ⟨X * y, l_mul _ _, by rw [Nat.mul_comm 120 X]; exact Nat.mul_le_mul (Nat.le_refl _) hy⟩
    · exact ⟨0, rfl, Nat.zero_le _⟩
theorem FF_nn {Q : AQ} (hB : QB Q) (B : Nat) (A : Nat → Nat → Nat) {w : Nat} (hw : w ≠ 0) (m : Nat) : ∀ t p, p < 4840 → ∃ x : Nat, FF Q B A m t p w = jN x ∧ x ≤ 120 * 100 ^ m := by
  induction m with
  | zero =>
    intro t p hp
    unfold FF
    split
    · obtain ⟨x, h1, h2⟩ := cV_nn (X := 1) (v := jN (Q (iN 118) t p 0)) hw
      exact ⟨x, h1, by omega⟩
    · obtain ⟨x, h1, h2⟩ := mV_nn (X := 1) (v := jN (Q (iN 109) t p 0)) hw (pY_le hp)
      exact ⟨x, h1, by omega⟩
  | succ m ih =>
    intro t p hp
    have hK : (100 ^ (m + 1) : Nat) = 100 * 100 ^ m := by rw [Nat.pow_succ, Nat.mul_comm]
    have arr : ∀ th, th < 4840 → ∃ x : Nat, arrF Q B (hun m) (FF Q B A m (t + 1)) t th w = jN x ∧ x ≤ 1200 * 100 ^ m := fun th hth => by
      unfold arrF
      split
      · rw [hun_jN, ← jN_10, l_mul]
        obtain ⟨x, h1, h2⟩ := cV_nn (X := 10 * 100 ^ m) (v := jN (Q (iN 118) t th 0)) hw
        exact ⟨x, h1, by omega⟩
      · obtain ⟨z, z1, z2⟩ := ih (t + 1) th hth
        have hg := gonP_le hB B t th
        rw [hun_jN, l_mul, z1]
        rw [show jN (gonP Q B t th * 100 ^ m) = jN (gonP Q B t th) * jN (100 ^ m) from (l_mul _ _).symm, ← mV_mul]
        obtain ⟨x, h1, h2⟩ := mV_nn (X := 100 ^ m) (v := jN (Q (iN 109) t th 0)) hw (pY_le hth)
        rw [h1, l_mul, l_mul, l_add]
        have := mixN hg h2 z2
        exact ⟨_, rfl, by omega⟩
    unfold FF
    split
    · rw [hun_jN]
      obtain ⟨x, h1, h2⟩ := cV_nn (X := 100 ^ (m + 1)) (v := jN (Q (iN 118) t p 0)) hw
      exact ⟨x, h1, by omega⟩
    · split
      · rw [hun_jN]
        obtain ⟨x, h1, h2⟩ := lV_nn (X := 100 ^ (m + 1)) (v := jN (Q (iN 108) t p 0)) hw
        exact ⟨x, h1, by omega⟩
      · have hnx := behP_lt (Q := Q) (t := t) (act := A t p) hp
        obtain ⟨x1, e1, l1⟩ := arr _ (asP_lt (s := 1) hnx (by omega))
        obtain ⟨x0, e0, l0⟩ := arr _ (asP_lt (s := 0) hnx (by omega))
        have hs := senP_le hB t p (A t p)
        rw [e1, e0, l_mul, l_mul, l_add]
        have := mixN hs l1 l0
        exact ⟨_, rfl, by rw [hK]; omega⟩
theorem n4 {k : Nat} (h : k < 4) : k = 0 ∨ k = 1 ∨ k = 2 ∨ k = 3 := by omega
/-- the RULE k, if it is told -/
theorem c_tldT {d k : Nat} {n : Nat} {a : Nat → Nat → Int32} {b : Nat → Nat → Int64} {r : Nat → Nat → Option Nat} {σ : SV} {cl cl' : List Cls} {R R' : Nat → List Cls} {TL TS A : Nat} {TR : Nat → Nat} (h : (St a b r σ cl cl' R R' TL TS TR A)) (hk : k < 4) (hR : R k ≠ []) : Den (d) 130 0 [.ref 14, .int (iN k), zmJ] [] (zmMk n a b r) = some (some (.ref (TR k)), (zmMk n a b r)) := by
  obtain ⟨-, -, -, -, -, -, -, -, -, c10, -, c12⟩ := h.2.1
  have hT := c10.2.2.1 k hk
  have hr := c10.2.2.2.2.2.2.2.2 k hk
  obtain ⟨t1, t2, -⟩ := c12 k hk
  have hl : (R k).length ≠ 0 := fun e => hR (List.length_eq_zero_iff.mp e)
  have hne := eq_n hl (show (R k).length < 2147483648 by omega) (show 0 < 2147483648 by omega)
  rcases n4 hk with rfl | rfl | rfl | rfl
  · rw [b130c0_0, if_neg (by decide +kernel), b130c0_4, if_pos (by decide +kernel), b130c0_13 hr hT, b130c0_23 hT, b130c0_28 hT, t1, if_neg hne, b130c0_39 hT, b130c0_40 hT]
  · rw [b130c1_0, if_neg (by decide +kernel), b130c1_4, if_pos (by decide +kernel), b130c1_13 hr hT, b130c1_23 hT, b130c1_28 hT, t1, if_neg hne, b130c1_39 hT, b130c1_40 hT]
  · rw [b130c2_0, if_neg (by decide +kernel), b130c2_4, if_pos (by decide +kernel), b130c2_13 hr hT, b130c2_23 hT, b130c2_28 hT, t1, if_neg hne, b130c2_39 hT, b130c2_40 hT]
  · rw [b130c3_0, if_neg (by decide +kernel), b130c3_4, if_pos (by decide +kernel), b130c3_13 hr hT, b130c3_23 hT, b130c3_28 hT, t1, if_neg hne, b130c3_39 hT, b130c3_40 hT]
theorem b130z {d n : Nat} {a : Nat → Nat → Int32} {b : Nat → Nat → Int64} {r : Nat → Nat → Option Nat} {v1 : Int32} {u : Value} : Den d 130 40 [.ref 14,.int v1,u] [.null] (zmMk n a b r) = some (some (.null), (zmMk n a b r)) := (Den_retE (zm0 (.areturn) 1) (by decide +kernel) rfl)
theorem c_tldN {d : Nat} {v1 : Int32} {n : Nat} {a : Nat → Nat → Int32} {b : Nat → Nat → Int64} {r : Nat → Nat → Option Nat} {σ : SV} {cl cl' : List Cls} {R R' : Nat → List Cls} {TL TS A : Nat} {TR : Nat → Nat} (h : (St a b r σ cl cl' R R' TL TS TR A)) (hR : ¬ (inI v1 (iN 0) (iN 3) = true ∧ R v1.toNatClampNeg ≠ [])) : Den (d) 130 0 [.ref 14, .int v1, zmJ] [] (zmMk n a b r) = some (some (.null), (zmMk n a b r)) := by
  by_cases g1 : inI v1 (iN 0) (iN 3) = true
  · obtain ⟨k, -, k2, rfl⟩ := inI_ex (by decide) (by decide) g1
    have hk : k < 4 := by omega
    rw [n_nat (by omega)] at hR
    have hR0 : R k = [] := Classical.byContradiction (fun e => hR ⟨g1, e⟩)
    obtain ⟨-, -, -, -, -, -, -, -, -, c10, -, c12⟩ := h.2.1
    have hT := c10.2.2.1 k hk
    have hr := c10.2.2.2.2.2.2.2.2 k hk
    obtain ⟨t1, t2, -⟩ := c12 k hk
    rw [hR0] at t1
    have t1' : a (TR k) 0 = iN 0 := t1
    rcases n4 hk with rfl | rfl | rfl | rfl
    · rw [b130c0_0, if_neg (by decide +kernel), b130c0_4, if_pos (by decide +kernel), b130c0_13 hr hT, b130c0_23 hT, b130c0_28 hT, t1', if_pos rfl, b130c0_35 hT, b130z]
    · rw [b130c1_0, if_neg (by decide +kernel), b130c1_4, if_pos (by decide +kernel), b130c1_13 hr hT, b130c1_23 hT, b130c1_28 hT, t1', if_pos rfl, b130c1_35 hT, b130z]
    · rw [b130c2_0, if_neg (by decide +kernel), b130c2_4, if_pos (by decide +kernel), b130c2_13 hr hT, b130c2_23 hT, b130c2_28 hT, t1', if_pos rfl, b130c2_35 hT, b130z]
    · rw [b130c3_0, if_neg (by decide +kernel), b130c3_4, if_pos (by decide +kernel), b130c3_13 hr hT, b130c3_23 hT, b130c3_28 hT, t1', if_pos rfl, b130c3_35 hT, b130z]
  · rw [b130n_0]
    by_cases h0 : v1 < iN 0
    · rw [if_pos h0, b130n_22, b130n_23, b130n_35, b130n_40]
    · rw [if_neg h0, b130n_4]
      by_cases h4 : v1 < iN 4
      · obtain ⟨k, -, k2, rfl⟩ := n_between (show 3 < 2147483648 by omega) h0 (show ¬ iN 3 < v1 from fun e => by
          rw [Int32.lt_iff_toInt_lt, n_toI (by omega)] at e
          rw [Int32.lt_iff_toInt_lt, n_toI (by omega)] at h4
          omega) (show 0 < 2147483648 by omega)
        exact absurd (by rw [inI_n (by omega) (by omega) (by omega), decide_eq_true (by omega), decide_eq_true (by omega)]; rfl) g1
      · rw [if_neg h4, b130n_22, b130n_23, b130n_35, b130n_40]
theorem St.reqE {a : Nat → Nat → Int32} {b : Nat → Nat → Int64} {r : Nat → Nat → Option Nat} {σ : SV} {cl cl' : List Cls} {R R' : Nat → List Cls} {TL TS A : Nat} {TR : Nat → Nat} (h : (St a b r σ cl cl' R R' TL TS TR A)) {k : Nat} (hk : k < 4) : a 107 (k + 1) = iN (R k).length ∧ (R k).length ≤ 16 := by
  have h1 := h.2.2.1.2.2.2.2.2.2.2 k hk
  have h2 := cleq_len _ (h.1.2.2.2.2.2.2.2.2 k hk).1
  rw [h2]
  exact ⟨h1.1, h1.2.1⟩
theorem m_isRule {d : Nat} {v1 : Int32} {n : Nat} {a : Nat → Nat → Int32} {b : Nat → Nat → Int64} {r : Nat → Nat → Option Nat} : Den (d) 190 0 [.int v1] [] (zmMk n a b r) = some (some (.int (bI (inI v1 (iN 0) (iN 3)))), (zmMk n a b r)) := by
  rw [b190_0]
  by_cases h0 : v1 < iN 0
  · have g1 : inI v1 (iN 0) (iN 3) = false := by
      unfold inI
      rw [decide_eq_true h0]
      rfl
    rw [if_pos h0, b190_13, b190_14, g1, if_pos (Or.inl rfl)]
    rfl
  · rw [if_neg h0, b190_4]
    by_cases h4 : v1 < iN 4
    · obtain ⟨k, -, k2, rfl⟩ := n_between (show 3 < 2147483648 by omega) h0 (show ¬ iN 3 < v1 from fun e => by
        rw [Int32.lt_iff_toInt_lt, n_toI (by omega)] at e
        rw [Int32.lt_iff_toInt_lt, n_toI (by omega)] at h4
        omega) (show 0 < 2147483648 by omega)
      rw [if_pos h4, b190_9, b190_14, inI_n (by omega) (by omega) (by omega), decide_eq_true (show 0 ≤ k by omega), decide_eq_true (show k ≤ 3 by omega), if_pos (Or.inr rfl)]
      rfl
    · have g1 : inI v1 (iN 0) (iN 3) = false := by
        rw [← Bool.not_eq_true]
        intro g
        obtain ⟨k, -, k2, rfl⟩ := inI_ex (by decide) (by decide) g
        exact h4 (by rw [n_lt (by omega) (by omega)]; omega)
      rw [if_neg h4, b190_13, b190_14, g1, if_pos (Or.inl rfl)]
      rfl
def toldR (R : Nat → List Cls) (v1 : Int32) : Prop := inI v1 (iN 0) (iN 3) = true ∧ R v1.toNatClampNeg ≠ []
theorem m_isTold {d : Nat} {v1 : Int32} {n : Nat} {a : Nat → Nat → Int32} {b : Nat → Nat → Int64} {r : Nat → Nat → Option Nat} {σ : SV} {cl cl' : List Cls} {R R' : Nat → List Cls} {TL TS A : Nat} {TR : Nat → Nat} (h : (St a b r σ cl cl' R R' TL TS TR A)) : (toldR R v1 ∧ Den (d+1) 191 0 [.ref 94, .int v1] [] (zmMk n a b r) = some (some (.int (iN 1)), (zmMk n a b r))) ∨ (¬ toldR R v1 ∧ Den (d+1) 191 0 [.ref 94, .int v1] [] (zmMk n a b r) = some (some (.int (iN 0)), (zmMk n a b r))) := by
  by_cases g1 : inI v1 (iN 0) (iN 3) = true
  · obtain ⟨k, -, k2, rfl⟩ := inI_ex (by decide) (by decide) g1
    obtain ⟨l1, l2⟩ := h.reqE (k := k) (by omega)
    have hk := n_nat (show k < 2147483648 by omega)
    have hk1 := n_nat (show k + 1 < 2147483648 by omega)
    have hin : zmIn (iN (k + 1)) 5 = true := by rw [n_in (by omega)]; exact decide_eq_true (by omega)
    by_cases hR : R k = []
    · refine Or.inr ⟨fun z => z.2 (by rw [hk]; exact hR), ?_⟩
      have l3 : a 107 (k + 1) = iN 0 := by rw [l1, hR]; rfl
      simp only [b191_0, m_isRule, Option.bind_some, Option.toList_some, Option.toList_none, List.cons_append, List.nil_append, true_or, or_true, if_true, bI_if, b191_4, g1, bI_if, b191_7, n_add, hin, hk1, l3, b191_15, show (iN 0 < iN 0) = False from by decide +kernel, b191_22, b191_23, if_true, if_false, Bool.false_eq_true, true_and, and_true, false_and, and_false, true_or, or_true, false_or, or_false, and_self, or_self, decide_true, decide_false, Bool.not_true, Bool.not_false, Bool.and_true, Bool.and_false, Bool.true_and, Bool.false_and, ite_self]
    · refine Or.inl ⟨⟨g1, by rw [hk]; exact hR⟩, ?_⟩
      have hl : 0 < (R k).length := List.length_pos_iff.mpr hR
      have l3 : (iN 0 < iN (R k).length) = True := by rw [n_lt (by omega) (by omega)]; exact eq_true hl
      simp only [b191_0, m_isRule, Option.bind_some, Option.toList_some, Option.toList_none, List.cons_append, List.nil_append, true_or, or_true, if_true, bI_if, b191_4, g1, bI_if, b191_7, n_add, hin, hk1, l1, b191_15, l3, b191_18, b191_23, if_true, if_false, Bool.false_eq_true, true_and, and_true, false_and, and_false, true_or, or_true, false_or, or_false, and_self, or_self, decide_true, decide_false, Bool.not_true, Bool.not_false, Bool.and_true, Bool.and_false, Bool.true_and, Bool.false_and, ite_self]
  · refine Or.inr ⟨fun z => g1 z.1, ?_⟩
    rw [Bool.not_eq_true] at g1
    simp only [b191_0, m_isRule, Option.bind_some, Option.toList_some, Option.toList_none, List.cons_append, List.nil_append, true_or, or_true, if_true, bI_if, b191_4, g1, bI_if, b191_22, b191_23, if_true, if_false, Bool.false_eq_true, true_and, and_true, false_and, and_false, true_or, or_true, false_or, or_false, and_self, or_self, decide_true, decide_false, Bool.not_true, Bool.not_false, Bool.and_true, Bool.and_false, Bool.true_and, Bool.false_and, ite_self]
