/-! ===== questions: which ===== -/
theorem n_bit {m i : Nat} (hm : m < 2147483648) (hi : i < 31) : ((((iN m : Int32) >>> ((iN i : Int32) &&& (iN 31))) &&& (iN 1)) = iN 1) = (m.testBit i = true) := by
  rw [n_shr i (by omega) hm, n_and, Nat.and_one_is_mod, n_eq (by omega) (by omega), Nat.testBit_eq_decide_div_mod_eq, decide_eq_true_eq]
def canS (σ : SV) (c h f i : Nat) : Bool := decide (σ 4 i = 1) && (decide (σ 5 i = c) && ((σ 6 i).testBit h && decide (σ 7 i ≤ f)))
def oftS (σ : SV) (c h f i : Nat) : Nat := if canS σ c h f i = true then σ 8 i else 0
def sumO (σ : SV) (c h f : Nat) : Nat → Nat
  | 0 => 0
  | i + 1 => sumO σ c h f i + oftS σ c h f i
theorem oftS_le {σ : SV} (hB : StoB 0 σ) {c h f i : Nat} (hi : i < 8) : oftS σ c h f i ≤ 99 := by
  have h1 : σ 8 i ≤ 99 := (hB.2.2.2.1 i hi).2.2.2.2
  unfold oftS
  split
  · exact h1
  · omega
theorem sumO_le {σ : SV} (hB : StoB 0 σ) {c h f : Nat} (i : Nat) (hi : i ≤ 8) : sumO σ c h f i ≤ 99 * i := by
  induction i with
  | zero => exact Nat.le_refl _
  | succ i ih =>
    have := ih (by omega)
    have := oftS_le hB (c := c) (h := h) (f := f) (show i < 8 by omega)
    show sumO σ c h f i + oftS σ c h f i ≤ _
    omega
theorem c_hasL {d : Nat} {v1 : Int32} {n : Nat} {a : Nat → Nat → Int32} {b : Nat → Nat → Int64} {r : Nat → Nat → Option Nat} {σ : SV} (hC : StoC a 16 0 σ) (hB : StoB 0 σ) : Den (d+1) 70 0 [.ref 16, .int v1] [] (zmMk n a b r) = some (some (.int (bI (inI v1 (iN 0) (iN 7) && decide (σ 4 v1.toNatClampNeg = 1)))), (zmMk n a b r)) := by
  by_cases g1 : inI v1 (iN 0) (iN 7) = true
  · obtain ⟨i, -, i2, rfl⟩ := inI_ex (by decide) (by decide) g1
    have c1 : a 18 (i * 5) = iN (σ 4 i) := (hC.2.2.2.1 i (by omega)).1
    have d1 : σ 4 i ≤ 1 := (hB.2.2.2.1 i (by omega)).1
    by_cases h : σ 4 i = 1
    · simp only [b70_0, b70_7, b70_10, b70_20, b70_24, b70_29, c_within, g1, bI_if, Option.bind_some, Option.toList_some, Option.toList_none, List.cons_append, List.nil_append, true_or, or_true, if_true, bI_if, n_mul, c_item lay18 (show 18 ≠ 0 by omega) (show 18 < 147 by omega) (show 40 < 2147483648 by omega), itV_n (show i * 5 < 40 by omega) (show 40 < 2147483648 by omega), c1, h, n_nat (show i < 2147483648 by omega), if_true, if_false, Bool.false_eq_true, true_and, and_true, false_and, and_false, true_or, or_true, false_or, or_false, and_self, or_self, decide_true, decide_false, Bool.not_true, Bool.not_false, Bool.and_true, Bool.and_false, Bool.true_and, Bool.false_and, ite_self]
      rfl
    · simp only [b70_0, b70_7, b70_10, b70_20, b70_28, b70_29, c_within, g1, bI_if, Option.bind_some, Option.toList_some, Option.toList_none, List.cons_append, List.nil_append, true_or, or_true, if_true, bI_if, n_mul, c_item lay18 (show 18 ≠ 0 by omega) (show 18 < 147 by omega) (show 40 < 2147483648 by omega), itV_n (show i * 5 < 40 by omega) (show 40 < 2147483648 by omega), c1, h, eq_n h (show σ 4 i < 2147483648 by omega) (show 1 < 2147483648 by omega), n_nat (show i < 2147483648 by omega), if_true, if_false, Bool.false_eq_true, true_and, and_true, false_and, and_false, true_or, or_true, false_or, or_false, and_self, or_self, decide_true, decide_false, Bool.not_true, Bool.not_false, Bool.and_true, Bool.and_false, Bool.true_and, Bool.false_and, ite_self]
      rfl
  · rw [Bool.not_eq_true] at g1
    simp only [b70_0, b70_7, b70_28, b70_29, c_within, g1, bI_if, Option.bind_some, Option.toList_some, Option.toList_none, List.cons_append, List.nil_append, true_or, or_true, if_true, bI_if, if_true, if_false, Bool.false_eq_true, true_and, and_true, false_and, and_false, true_or, or_true, false_or, or_false, and_self, or_self, decide_true, decide_false, Bool.not_true, Bool.not_false, Bool.and_true, Bool.and_false, Bool.true_and, Bool.false_and, ite_self]
    rfl
theorem c_often {d c h f i : Nat} {n : Nat} {a : Nat → Nat → Int32} {b : Nat → Nat → Int64} {r : Nat → Nat → Option Nat} {σ : SV} (hC : StoC a 16 0 σ) (hB : StoB 0 σ) (hi : i < 8) (hc : c ≤ 3) (hh : h ≤ 23) (hf : f ≤ 99) : Den (d+2) 71 0 [.ref 16, .int (iN i), .int (iN c), .int (iN h), .int (iN f), zmJ] [] (zmMk n a b r) = some (some (.int (iN (oftS σ c h f i))), (zmMk n a b r)) := by
  obtain ⟨c0, c1, c2, c3, c4⟩ := hC.2.2.2.1 i hi
  have c1' : a 18 (i * 5 + 1) = iN (σ 5 i) := c1
  have c2' : a 18 (i * 5 + 2) = iN (σ 6 i) := c2
  have c3' : a 18 (i * 5 + 3) = iN (σ 7 i) := c3
  have c4' : a 18 (i * 5 + 4) = iN (σ 8 i) := c4
  have d1 : σ 5 i ≤ 3 := (hB.2.2.2.1 i hi).2.1
  have d2 : σ 6 i < 16777216 := (hB.2.2.2.1 i hi).2.2.1
  have d3 : σ 7 i ≤ 99 := (hB.2.2.2.1 i hi).2.2.2.1
  have hin : inI (iN i) (iN 0) (iN 7) = true := by
    rw [inI_n (by omega) (by omega) (by omega), Bool.and_eq_true]
    exact ⟨decide_eq_true (by omega), decide_eq_true (by omega)⟩
  have e0 : Den (d+1) 70 0 [.ref 16, .int (iN i)] [] (zmMk n a b r) = some (some (.int (bI (decide (σ 4 i = 1)))), (zmMk n a b r)) := by
    rw [c_hasL hC hB, hin, n_nat (by omega), Bool.true_and]
  have it : ∀ d' k, k < 5 → Den (d') 145 0 [.ref 18, .int (iN (i * 5 + k))] [] (zmMk n a b r) = some (some (.int (a 18 (i * 5 + k))), (zmMk n a b r)) := fun d' k hk => by
    rw [c_item lay18 (by omega) (by omega) (by omega), itV_n (by omega) (by omega)]
  unfold oftS canS
  by_cases h0 : σ 4 i = 1
  · by_cases h1 : σ 5 i = c
    · by_cases h2 : (σ 6 i).testBit h = true
      · by_cases h3 : σ 7 i ≤ f
        · simp only [b71_0, e0, Option.bind_some, Option.toList_some, Option.toList_none, List.cons_append, List.nil_append, true_or, or_true, if_true, bI_if, b71_5, bI_if, h0, b71_8, n_mul, n_add, it _ 1 (by omega), it _ 2 (by omega), it _ 3 (by omega), it _ 4 (by omega), c1', c2', c3', c4', b71_20, h1, b71_24, b71_36, n_bit (show σ 6 i < 2147483648 by omega) (show h < 31 by omega), h2, b71_44, b71_58, n_lt (show f < 2147483648 by omega) (show σ 7 i < 2147483648 by omega), show (f < σ 7 i) = False from eq_false (by omega), b71_61, b71_66, show (iN 1 = iN 0) = False from by decide +kernel, b71_73, b71_85, b71_89, h3, if_true, if_false, Bool.false_eq_true, true_and, and_true, false_and, and_false, true_or, or_true, false_or, or_false, and_self, or_self, decide_true, decide_false, Bool.not_true, Bool.not_false, Bool.and_true, Bool.and_false, Bool.true_and, Bool.false_and, ite_self]
        · simp only [b71_0, e0, Option.bind_some, Option.toList_some, Option.toList_none, List.cons_append, List.nil_append, true_or, or_true, if_true, bI_if, b71_5, bI_if, h0, b71_8, n_mul, n_add, it _ 1 (by omega), it _ 2 (by omega), it _ 3 (by omega), c1', c2', c3', b71_20, h1, b71_24, b71_36, n_bit (show σ 6 i < 2147483648 by omega) (show h < 31 by omega), h2, b71_44, b71_58, n_lt (show f < 2147483648 by omega) (show σ 7 i < 2147483648 by omega), show (f < σ 7 i) = True from eq_true (by omega), b71_65, b71_66, b71_88, b71_89, h3, if_true, if_false, Bool.false_eq_true, true_and, and_true, false_and, and_false, true_or, or_true, false_or, or_false, and_self, or_self, decide_true, decide_false, Bool.not_true, Bool.not_false, Bool.and_true, Bool.and_false, Bool.true_and, Bool.false_and, ite_self]
      · simp only [b71_0, e0, Option.bind_some, Option.toList_some, Option.toList_none, List.cons_append, List.nil_append, true_or, or_true, if_true, bI_if, b71_5, bI_if, h0, b71_8, n_mul, n_add, it _ 1 (by omega), it _ 2 (by omega), c1', c2', b71_20, h1, b71_24, b71_36, n_bit (show σ 6 i < 2147483648 by omega) (show h < 31 by omega), h2, b71_65, b71_66, b71_88, b71_89, if_true, if_false, Bool.false_eq_true, true_and, and_true, false_and, and_false, true_or, or_true, false_or, or_false, and_self, or_self, decide_true, decide_false, Bool.not_true, Bool.not_false, Bool.and_true, Bool.and_false, Bool.true_and, Bool.false_and, ite_self]
    · simp only [b71_0, e0, Option.bind_some, Option.toList_some, Option.toList_none, List.cons_append, List.nil_append, true_or, or_true, if_true, bI_if, b71_5, bI_if, h0, b71_8, n_mul, n_add, it _ 1 (by omega), c1', b71_20, h1, eq_n h1 (show σ 5 i < 2147483648 by omega) (show c < 2147483648 by omega), b71_65, b71_66, b71_88, b71_89, if_true, if_false, Bool.false_eq_true, true_and, and_true, false_and, and_false, true_or, or_true, false_or, or_false, and_self, or_self, decide_true, decide_false, Bool.not_true, Bool.not_false, Bool.and_true, Bool.and_false, Bool.true_and, Bool.false_and, ite_self]
  · simp only [b71_0, e0, Option.bind_some, Option.toList_some, Option.toList_none, List.cons_append, List.nil_append, true_or, or_true, if_true, bI_if, b71_5, bI_if, h0, b71_65, b71_66, b71_88, b71_89, if_true, if_false, Bool.false_eq_true, true_and, and_true, false_and, and_false, true_or, or_true, false_or, or_false, and_self, or_self, decide_true, decide_false, Bool.not_true, Bool.not_false, Bool.and_true, Bool.and_false, Bool.true_and, Bool.false_and, ite_self]
theorem m_canBe {d c h f i : Nat} {n : Nat} {a : Nat → Nat → Int32} {b : Nat → Nat → Int64} {r : Nat → Nat → Option Nat} {σ : SV} (hM : StoM a 0 1 64 65 127 136 0 σ) (hB : StoB 0 σ) (hi : i < 8) (hc : c ≤ 3) (hh : h ≤ 23) (hf : f ≤ 99) : Den (d+1) 244 0 [.ref 94, .int (iN i), .int (iN c), .int (iN h), .int (iN f)] [] (zmMk n a b r) = some (some (.int (bI (canS σ c h f i))), (zmMk n a b r)) := by
  obtain ⟨-, -, ⟨m, m1, m2, m3⟩, -, m5, -⟩ := hM
  have m3' : m.testBit i = decide (σ 4 i = 1) := m3 i hi
  have d1 : σ 5 i ≤ 3 := (hB.2.2.2.1 i hi).2.1
  have d2 : σ 6 i < 16777216 := (hB.2.2.2.1 i hi).2.2.1
  have d3 : σ 7 i ≤ 99 := (hB.2.2.2.1 i hi).2.2.2.1
  have hin : zmIn (iN i) 8 = true := by rw [n_in (by omega)]; exact decide_eq_true hi
  have hn := n_nat (show i < 2147483648 by omega)
  have e0 : ∀ d', Den (d') 153 0 [.int (a 94 64), .int (iN i)] [] (zmMk n a b r) = some (some (.int (bI (decide (σ 4 i = 1)))), (zmMk n a b r)) := fun d' => by
    rw [m2, m_has (by omega) (by omega), m3']
  unfold canS
  by_cases h0 : σ 4 i = 1
  · obtain ⟨r1, r2, r3, -⟩ := m5 i hi h0
    have r1' : a 127 i = iN (σ 5 i) := r1
    have r2' : a 128 i = iN (σ 6 i) := r2
    have r3' : a 129 i = iN (σ 7 i) := r3
    by_cases h1 : σ 5 i = c
    · by_cases h2 : (σ 6 i).testBit h = true
      · by_cases h3 : σ 7 i ≤ f
        · simp only [b244_0, e0, Option.bind_some, Option.toList_some, Option.toList_none, List.cons_append, List.nil_append, true_or, or_true, if_true, bI_if, b244_8, bI_if, h0, b244_11, hin, b244_17, hn, r1', h1, b244_21, b244_27, r2', m_has (show σ 6 i < 2147483648 by omega) (show h < 31 by omega), b244_31, h2, b244_34, b244_42, r3', n_lt (show f < 2147483648 by omega) (show σ 7 i < 2147483648 by omega), show (f < σ 7 i) = False from eq_false (by omega), b244_45, b244_50, h3, if_true, if_false, Bool.false_eq_true, true_and, and_true, false_and, and_false, true_or, or_true, false_or, or_false, and_self, or_self, decide_true, decide_false, Bool.not_true, Bool.not_false, Bool.and_true, Bool.and_false, Bool.true_and, Bool.false_and, ite_self]
          rfl
        · simp only [b244_0, e0, Option.bind_some, Option.toList_some, Option.toList_none, List.cons_append, List.nil_append, true_or, or_true, if_true, bI_if, b244_8, bI_if, h0, b244_11, hin, b244_17, hn, r1', h1, b244_21, b244_27, r2', m_has (show σ 6 i < 2147483648 by omega) (show h < 31 by omega), b244_31, h2, b244_34, b244_42, r3', n_lt (show f < 2147483648 by omega) (show σ 7 i < 2147483648 by omega), show (f < σ 7 i) = True from eq_true (by omega), b244_49, b244_50, h3, if_true, if_false, Bool.false_eq_true, true_and, and_true, false_and, and_false, true_or, or_true, false_or, or_false, and_self, or_self, decide_true, decide_false, Bool.not_true, Bool.not_false, Bool.and_true, Bool.and_false, Bool.true_and, Bool.false_and, ite_self]
          rfl
      · rw [Bool.not_eq_true] at h2
        simp only [b244_0, e0, Option.bind_some, Option.toList_some, Option.toList_none, List.cons_append, List.nil_append, true_or, or_true, if_true, bI_if, b244_8, bI_if, h0, b244_11, hin, b244_17, hn, r1', h1, b244_21, b244_27, r2', m_has (show σ 6 i < 2147483648 by omega) (show h < 31 by omega), b244_31, h2, b244_49, b244_50, if_true, if_false, Bool.false_eq_true, true_and, and_true, false_and, and_false, true_or, or_true, false_or, or_false, and_self, or_self, decide_true, decide_false, Bool.not_true, Bool.not_false, Bool.and_true, Bool.and_false, Bool.true_and, Bool.false_and, ite_self]
        rfl
    · simp only [b244_0, e0, Option.bind_some, Option.toList_some, Option.toList_none, List.cons_append, List.nil_append, true_or, or_true, if_true, bI_if, b244_8, bI_if, h0, b244_11, hin, b244_17, hn, r1', h1, eq_n h1 (show σ 5 i < 2147483648 by omega) (show c < 2147483648 by omega), b244_49, b244_50, if_true, if_false, Bool.false_eq_true, true_and, and_true, false_and, and_false, true_or, or_true, false_or, or_false, and_self, or_self, decide_true, decide_false, Bool.not_true, Bool.not_false, Bool.and_true, Bool.and_false, Bool.true_and, Bool.false_and, ite_self]
      rfl
  · simp only [b244_0, e0, Option.bind_some, Option.toList_some, Option.toList_none, List.cons_append, List.nil_append, true_or, or_true, if_true, bI_if, b244_8, bI_if, h0, b244_49, b244_50, if_true, if_false, Bool.false_eq_true, true_and, and_true, false_and, and_false, true_or, or_true, false_or, or_false, and_self, or_self, decide_true, decide_false, Bool.not_true, Bool.not_false, Bool.and_true, Bool.and_false, Bool.true_and, Bool.false_and, ite_self]
    rfl
theorem c_whichL {d c h f : Nat} {v1 v5 : Int32} {n : Nat} {a : Nat → Nat → Int32} {b : Nat → Nat → Int64} {r : Nat → Nat → Option Nat} {σ : SV} (hC : StoC a 16 0 σ) (hB : StoB 0 σ) (hc : c ≤ 3) (hh : h ≤ 23) (hf : f ≤ 99) (k : Nat) : ∀ i, i + k = 8 → Den (d+3) 112 59 [.ref 14,.int v1,.int (iN c),.int (iN h),.int (iN f),.int v5,.int (iN (sumO σ c h f i)),.int (iN i)] [] (zmMk n a b r) = Den (d+3) 112 90 [.ref 14,.int v1,.int (iN c),.int (iN h),.int (iN f),.int v5,.int (iN (sumO σ c h f 8)),.int (iN 8)] [] (zmMk n a b r) := by
  induction k with
  | zero =>
    intro i hi
    obtain rfl : i = 8 := by omega
    rw [b112_59, if_neg (by decide +kernel)]
  | succ k ih =>
    intro i hi
    have hi8 : i < 8 := by omega
    rw [b112_59, if_pos (by rw [n_lt (by omega) (by omega)]; exact hi8), b112_66, c_often hC hB hi8 hc hh hf]
    simp only [Option.bind_some, Option.toList_some, Option.toList_none, List.cons_append, List.nil_append, true_or, or_true, if_true, bI_if, b112_81, n_add]
    exact ih (i + 1) (by omega)
theorem m_whichL {d c h f : Nat} {v1 v5 : Int32} {n : Nat} {a : Nat → Nat → Int32} {b : Nat → Nat → Int64} {r : Nat → Nat → Option Nat} {σ : SV} (hM : StoM a 0 1 64 65 127 136 0 σ) (hB : StoB 0 σ) (hc : c ≤ 3) (hh : h ≤ 23) (hf : f ≤ 99) (k : Nat) : ∀ i, i + k = 8 → Den (d+3) 245 69 [.ref 94,.int v1,.int (iN c),.int (iN h),.int (iN f),.int v5,.int (iN (sumO σ c h f i)),.int (iN i)] [] (zmMk n a b r) = Den (d+3) 245 111 [.ref 94,.int v1,.int (iN c),.int (iN h),.int (iN f),.int v5,.int (iN (sumO σ c h f 8)),.int (iN 8)] [] (zmMk n a b r) := by
  induction k with
  | zero =>
    intro i hi
    obtain rfl : i = 8 := by omega
    rw [b245_69, if_neg (by decide +kernel)]
  | succ k ih =>
    intro i hi
    have hi8 : i < 8 := by omega
    have hin : zmIn (iN i) 8 = true := by rw [n_in (by omega)]; exact decide_eq_true hi8
    have hn := n_nat (show i < 2147483648 by omega)
    have hst : sumO σ c h f (i + 1) = sumO σ c h f i + oftS σ c h f i := rfl
    have := ih (i + 1) (by omega)
    rw [hst] at this
    rw [b245_69, if_pos (by rw [n_lt (by omega) (by omega)]; exact hi8), b245_76, m_canBe hM hB hi8 hc hh hf]
    simp only [Option.bind_some, Option.toList_some, Option.toList_none, List.cons_append, List.nil_append, true_or, or_true, if_true, bI_if]
    rw [b245_88, bI_if]
    unfold oftS at this
    by_cases hcn : canS σ c h f i = true
    · have h0 : σ 4 i = 1 := by
        unfold canS at hcn
        rw [Bool.and_eq_true] at hcn
        exact of_decide_eq_true hcn.1
      have r4 : a 130 i = iN (σ 8 i) := (hM.2.2.2.2.1 i hi8 h0).2.2.2
      rw [if_pos hcn] at this
      rw [if_pos hcn, b245_91, if_pos hin, b245_98, b245_102, hn, r4, n_add, n_add]
      exact this
    · rw [if_neg hcn] at this
      rw [if_neg hcn, b245_101, b245_102, n_add, n_add]
      exact this
def whichV (σ : SV) (v1 v2 v3 v4 v5 : Int32) : Int32 := if (inI v1 (iN 0) (iN 7) && decide (σ 4 v1.toNatClampNeg = 1)) = true ∧ inI v2 (iN 0) (iN 3) = true ∧ inI v3 (iN 0) (iN 23) = true ∧ inI v4 (iN 0) (iN 99) = true ∧ inI v5 (iN 0) (iN 1) = true then (if sumO σ v2.toNatClampNeg v3.toNatClampNeg v4.toNatClampNeg 8 = 0 then -2 else Int64.toInt32 (redV (oftS σ v2.toNatClampNeg v3.toNatClampNeg v4.toNatClampNeg v1.toNatClampNeg) (sumO σ v2.toNatClampNeg v3.toNatClampNeg v4.toNatClampNeg 8) v5)) else -1
theorem c_which {d : Nat} {n : Nat} {a : Nat → Nat → Int32} {b : Nat → Nat → Int64} {r : Nat → Nat → Option Nat} {σ : SV} {cl cl' : List Cls} {R R' : Nat → List Cls} {TL TS A : Nat} {TR : Nat → Nat} (h : (St a b r σ cl cl' R R' TL TS TR A)) {v1 v2 v3 v4 v5 : Int32} : ∃ a' b', Den (d+6) 112 0 [.ref 14, .int v1, .int v2, .int v3, .int v4, .int v5, zmJ, zmJ] [] (zmMk n a b r) = some (some (.int (whichV σ v1 v2 v3 v4 v5)), zmMk n a' b' r) ∧ St a' b' r σ cl cl' R R' TL TS TR A := by
  obtain ⟨⟨n1, n8⟩, h16, h94, hs⟩ := h.n8
  unfold whichV
  by_cases g1 : (inI v1 (iN 0) (iN 7) && decide (σ 4 v1.toNatClampNeg = 1)) = true
  · by_cases g2 : inI v2 (iN 0) (iN 3) = true
    · by_cases g3 : inI v3 (iN 0) (iN 23) = true
      · by_cases g4 : inI v4 (iN 0) (iN 99) = true
        · by_cases g5 : inI v5 (iN 0) (iN 1) = true
          · obtain ⟨c, -, c2, rfl⟩ := inI_ex (by decide) (by decide) g2
            obtain ⟨h', -, h2, rfl⟩ := inI_ex (by decide) (by decide) g3
            obtain ⟨f, -, f2, rfl⟩ := inI_ex (by decide) (by decide) g4
            have hsl := sumO_le h.1.1 (c := c) (h := h') (f := f) 8 (by omega)
            have g1' := g1
            rw [Bool.and_eq_true] at g1'
            obtain ⟨i, -, i2, rfl⟩ := inI_ex (by decide) (by decide) g1'.1
            have hol := oftS_le h.1.1 (c := c) (h := h') (f := f) (show i < 8 by omega)
            have g1n := g1
            rw [n_nat (show i < 2147483648 by omega)] at g1n
            have e1 : Den (d+6) 112 59 [.ref 14,.int (iN i),.int (iN c),.int (iN h'),.int (iN f),.int v5,.int (iN 0),.int (iN 0)] [] (zmMk n a b r) = _ := c_whichL (d := d+3) (v1 := iN i) (v5 := v5) (n := n) (b := b) (r := r) h.2.1.2.2.1 h.1.1 c2 h2 f2 8 0 (by omega)
            rw [if_pos ⟨g1, g2, g3, g4, g5⟩]
            by_cases hz : sumO σ c h' f 8 = 0
            · refine ⟨a, b, ?_, h⟩
              simp only [b112_0, b112_8, b112_11, b112_17, b112_20, b112_27, b112_30, b112_38, b112_41, b112_48, b112_51, b112_53, c_within, c_hasL h.2.1.2.2.1 h.1.1, Option.bind_some, Option.toList_some, Option.toList_none, List.cons_append, List.nil_append, true_or, or_true, if_true, bI_if, bI_if, g1n, g2, g3, g4, g5, e1, b112_90, b112_95, hz, n_nat (show i < 2147483648 by omega), n_nat (show c < 2147483648 by omega), n_nat (show h' < 2147483648 by omega), n_nat (show f < 2147483648 by omega), if_true, if_false, Bool.false_eq_true, true_and, and_true, false_and, and_false, true_or, or_true, false_or, or_false, and_self, or_self, decide_true, decide_false, Bool.not_true, Bool.not_false, Bool.and_true, Bool.and_false, Bool.true_and, Bool.false_and, ite_self]
            · refine ⟨a, uL (uL b 65 1 (jN (oftS σ c h' f i / Nat.gcd (oftS σ c h' f i) (sumO σ c h' f 8)))) 65 2 (jN (sumO σ c h' f 8 / Nat.gcd (oftS σ c h' f i) (sumO σ c h' f 8))), ?_, h.qc (fun _ _ => rfl) ?_ ?_ (h.2.2.2.fr frS.refl ?_ ?_)⟩
              · simp only [b112_0, b112_8, b112_11, b112_17, b112_20, b112_27, b112_30, b112_38, b112_41, b112_48, b112_51, b112_53, c_within, c_hasL h.2.1.2.2.1 h.1.1, Option.bind_some, Option.toList_some, Option.toList_none, List.cons_append, List.nil_append, true_or, or_true, if_true, bI_if, bI_if, g1n, g2, g3, g4, g5, e1, b112_90, b112_98, c_often h.2.1.2.2.1 h.1.1 (show i < 8 by omega) c2 h2 f2, b112_114, l_of (show oftS σ c h' f i < 2147483648 by omega), l_of (show sumO σ c h' f 8 < 2147483648 by omega), c_set (x := oftS σ c h' f i) (y := sumO σ c h' f 8) (by omega) (by omega) (by omega), b112_121, c_part, b112_130, eq_n hz (show sumO σ c h' f 8 < 2147483648 by omega) (show 0 < 2147483648 by omega), hz, n_nat (show i < 2147483648 by omega), n_nat (show c < 2147483648 by omega), n_nat (show h' < 2147483648 by omega), n_nat (show f < 2147483648 by omega), if_true, if_false, Bool.false_eq_true, true_and, and_true, false_and, and_false, true_or, or_true, false_or, or_false, and_self, or_self, decide_true, decide_false, Bool.not_true, Bool.not_false, Bool.and_true, Bool.and_false, Bool.true_and, Bool.false_and, ite_self]
              all_goals (funext q; rw [uL_at, if_neg (by omega), uL_at, if_neg (by omega)])
          · refine ⟨a, b, ?_, h⟩
            simp only [b112_0, b112_8, b112_11, b112_17, b112_20, b112_27, b112_30, b112_38, b112_41, b112_48, b112_51, h16, h94, hs, c_within, c_hasL h.2.1.2.2.1 h.1.1, Option.bind_some, Option.toList_some, Option.toList_none, List.cons_append, List.nil_append, true_or, or_true, if_true, bI_if, bI_if, g1, g2, g3, g4, g5, if_true, if_false, Bool.false_eq_true, true_and, and_true, false_and, and_false, true_or, or_true, false_or, or_false, and_self, or_self, decide_true, decide_false, Bool.not_true, Bool.not_false, Bool.and_true, Bool.and_false, Bool.true_and, Bool.false_and, ite_self]
        · refine ⟨a, b, ?_, h⟩
          simp only [b112_0, b112_8, b112_11, b112_17, b112_20, b112_27, b112_30, b112_38, b112_41, b112_48, b112_51, h16, h94, hs, c_within, c_hasL h.2.1.2.2.1 h.1.1, Option.bind_some, Option.toList_some, Option.toList_none, List.cons_append, List.nil_append, true_or, or_true, if_true, bI_if, bI_if, g1, g2, g3, g4, if_true, if_false, Bool.false_eq_true, true_and, and_true, false_and, and_false, true_or, or_true, false_or, or_false, and_self, or_self, decide_true, decide_false, Bool.not_true, Bool.not_false, Bool.and_true, Bool.and_false, Bool.true_and, Bool.false_and, ite_self]
      · refine ⟨a, b, ?_, h⟩
        simp only [b112_0, b112_8, b112_11, b112_17, b112_20, b112_27, b112_30, b112_38, b112_41, b112_48, b112_51, h16, h94, hs, c_within, c_hasL h.2.1.2.2.1 h.1.1, Option.bind_some, Option.toList_some, Option.toList_none, List.cons_append, List.nil_append, true_or, or_true, if_true, bI_if, bI_if, g1, g2, g3, if_true, if_false, Bool.false_eq_true, true_and, and_true, false_and, and_false, true_or, or_true, false_or, or_false, and_self, or_self, decide_true, decide_false, Bool.not_true, Bool.not_false, Bool.and_true, Bool.and_false, Bool.true_and, Bool.false_and, ite_self]
    · refine ⟨a, b, ?_, h⟩
      simp only [b112_0, b112_8, b112_11, b112_17, b112_20, b112_27, b112_30, b112_38, b112_41, b112_48, b112_51, h16, h94, hs, c_within, c_hasL h.2.1.2.2.1 h.1.1, Option.bind_some, Option.toList_some, Option.toList_none, List.cons_append, List.nil_append, true_or, or_true, if_true, bI_if, bI_if, g1, g2, if_true, if_false, Bool.false_eq_true, true_and, and_true, false_and, and_false, true_or, or_true, false_or, or_false, and_self, or_self, decide_true, decide_false, Bool.not_true, Bool.not_false, Bool.and_true, Bool.and_false, Bool.true_and, Bool.false_and, ite_self]
  · refine ⟨a, b, ?_, h⟩
    simp only [b112_0, b112_8, b112_11, b112_17, b112_20, b112_27, b112_30, b112_38, b112_41, b112_48, b112_51, h16, h94, hs, c_within, c_hasL h.2.1.2.2.1 h.1.1, Option.bind_some, Option.toList_some, Option.toList_none, List.cons_append, List.nil_append, true_or, or_true, if_true, bI_if, bI_if, g1, if_true, if_false, Bool.false_eq_true, true_and, and_true, false_and, and_false, true_or, or_true, false_or, or_false, and_self, or_self, decide_true, decide_false, Bool.not_true, Bool.not_false, Bool.and_true, Bool.and_false, Bool.true_and, Bool.false_and, ite_self]
theorem m_which {d : Nat} {n : Nat} {a : Nat → Nat → Int32} {b : Nat → Nat → Int64} {r : Nat → Nat → Option Nat} {σ : SV} {cl cl' : List Cls} {R R' : Nat → List Cls} {TL TS A : Nat} {TR : Nat → Nat} (h : (St a b r σ cl cl' R R' TL TS TR A)) {v1 v2 v3 v4 v5 : Int32} : ∃ a' b', Den (d+6) 245 0 [.ref 94, .int v1, .int v2, .int v3, .int v4, .int v5, zmJ, zmJ] [] (zmMk n a b r) = some (some (.int (whichV σ v1 v2 v3 v4 v5)), zmMk n a' b' r) ∧ St a' b' r σ cl cl' R R' TL TS TR A := by
  obtain ⟨⟨n1, n8⟩, h16, h94, hs⟩ := h.n8
  unfold whichV
  by_cases g0 : inI v1 (iN 0) (iN 7) = true
  · obtain ⟨i, -, i2, rfl⟩ := inI_ex (by decide) (by decide) g0
    have hn := n_nat (show i < 2147483648 by omega)
    obtain ⟨m, m1, m2, m3⟩ := h.2.2.1.1.2.2.1
    have m3' : m.testBit i = decide (σ 4 i = 1) := m3 i (by omega)
    have e0 : ∀ d', Den (d') 153 0 [.int (a 94 64), .int (iN i)] [] (zmMk n a b r) = some (some (.int (bI (decide (σ 4 i = 1)))), (zmMk n a b r)) := fun d' => by
      rw [m2, m_has (by omega) (by omega), m3']
    skip
    skip
    by_cases g1 : σ 4 i = 1
    · by_cases g2 : inI v2 (iN 0) (iN 3) = true
      · by_cases g3 : inI v3 (iN 0) (iN 23) = true
        · by_cases g4 : inI v4 (iN 0) (iN 99) = true
          · by_cases g5 : inI v5 (iN 0) (iN 1) = true
            · obtain ⟨c, -, c2, rfl⟩ := inI_ex (by decide) (by decide) g2
              obtain ⟨h', -, h2, rfl⟩ := inI_ex (by decide) (by decide) g3
              obtain ⟨f, -, f2, rfl⟩ := inI_ex (by decide) (by decide) g4
              have hsl := sumO_le h.1.1 (c := c) (h := h') (f := f) 8 (by omega)
              have hol := oftS_le h.1.1 (c := c) (h := h') (f := f) (show i < 8 by omega)
              have hin : zmIn (iN i) 8 = true := by rw [n_in (by omega)]; exact decide_eq_true (by omega)
              have r4 : a 130 i = iN (σ 8 i) := (h.2.2.1.1.2.2.2.2.1 i (by omega) g1).2.2.2
              have e1 : Den (d+6) 245 69 [.ref 94,.int (iN i),.int (iN c),.int (iN h'),.int (iN f),.int v5,.int (iN 0),.int (iN 0)] [] (zmMk n a b r) = _ := m_whichL (d := d+3) (v1 := iN i) (v5 := v5) (n := n) (b := b) (r := r) h.2.2.1.1 h.1.1 c2 h2 f2 8 0 (by omega)
              refine ⟨a, b, ?_, h⟩
              by_cases hz : sumO σ c h' f 8 = 0
              · simp only [b245_0, b245_7, b245_10, b245_18, b245_21, b245_27, b245_30, b245_37, b245_40, b245_48, b245_51, b245_58, b245_61, b245_63, m_in, e0, Option.bind_some, Option.toList_some, Option.toList_none, List.cons_append, List.nil_append, true_or, or_true, if_true, bI_if, bI_if, g0, g1, g2, g3, g4, g5, e1, b245_111, b245_116, hz, n_nat (show i < 2147483648 by omega), n_nat (show c < 2147483648 by omega), n_nat (show h' < 2147483648 by omega), n_nat (show f < 2147483648 by omega), if_true, if_false, Bool.false_eq_true, true_and, and_true, false_and, and_false, true_or, or_true, false_or, or_false, and_self, or_self, decide_true, decide_false, Bool.not_true, Bool.not_false, Bool.and_true, Bool.and_false, Bool.true_and, Bool.false_and, ite_self]
              · have e3 : ∀ x, Den (d+5) 156 0 [.long (jN x), zmJ, .long (jN (sumO σ c h' f 8)), zmJ, .int v5, zmJ, zmJ] [] (zmMk n a b r) = some (some (.long (redV x (sumO σ c h' f 8) v5)), (zmMk n a b r)) ∨ ¬ x ≤ 99 := fun x => by
                  by_cases hx : x ≤ 99
                  · exact Or.inl (m_through2 (d := d+4) (by omega) (by omega) (by omega))
                  · exact Or.inr hx
                have e4 : oftS σ c h' f i = if canS σ c h' f i = true then σ 8 i else 0 := rfl
                by_cases hcn : canS σ c h' f i = true
                · rw [if_pos hcn] at e4
                  rw [e4] at hol
                  have e5 := (e3 (σ 8 i)).resolve_right (fun z => z hol)
                  simp only [b245_0, b245_7, b245_10, b245_18, b245_21, b245_27, b245_30, b245_37, b245_40, b245_48, b245_51, b245_58, b245_61, b245_63, m_in, e0, Option.bind_some, Option.toList_some, Option.toList_none, List.cons_append, List.nil_append, true_or, or_true, if_true, bI_if, bI_if, g0, g1, g2, g3, g4, g5, e1, b245_111, b245_119, m_canBe h.2.2.1.1 h.1.1 (show i < 8 by omega) c2 h2 f2, b245_128, hcn, b245_131, hin, b245_137, r4, l_of (show σ 8 i < 2147483648 by omega), l_of (show sumO σ c h' f 8 < 2147483648 by omega), b245_142, e5, b245_150, e4, eq_n hz (show sumO σ c h' f 8 < 2147483648 by omega) (show 0 < 2147483648 by omega), hz, n_nat (show i < 2147483648 by omega), n_nat (show c < 2147483648 by omega), n_nat (show h' < 2147483648 by omega), n_nat (show f < 2147483648 by omega), if_true, if_false, Bool.false_eq_true, true_and, and_true, false_and, and_false, true_or, or_true, false_or, or_false, and_self, or_self, decide_true, decide_false, Bool.not_true, Bool.not_false, Bool.and_true, Bool.and_false, Bool.true_and, Bool.false_and, ite_self]
                · rw [if_neg hcn] at e4
                  have e5 : Den (d+5) 156 0 [.long 0, zmJ, .long (jN (sumO σ c h' f 8)), zmJ, .int v5, zmJ, zmJ] [] (zmMk n a b r) = some (some (.long (redV 0 (sumO σ c h' f 8) v5)), (zmMk n a b r)) := (e3 0).resolve_right (fun z => z (by omega))
                  rw [Bool.not_eq_true] at hcn
                  simp only [b245_0, b245_7, b245_10, b245_18, b245_21, b245_27, b245_30, b245_37, b245_40, b245_48, b245_51, b245_58, b245_61, b245_63, m_in, e0, Option.bind_some, Option.toList_some, Option.toList_none, List.cons_append, List.nil_append, true_or, or_true, if_true, bI_if, bI_if, g0, g1, g2, g3, g4, g5, e1, b245_111, b245_119, m_canBe h.2.2.1.1 h.1.1 (show i < 8 by omega) c2 h2 f2, b245_128, hcn, b245_141, l_of (show sumO σ c h' f 8 < 2147483648 by omega), b245_142, e5, b245_150, e4, eq_n hz (show sumO σ c h' f 8 < 2147483648 by omega) (show 0 < 2147483648 by omega), hz, n_nat (show i < 2147483648 by omega), n_nat (show c < 2147483648 by omega), n_nat (show h' < 2147483648 by omega), n_nat (show f < 2147483648 by omega), if_true, if_false, Bool.false_eq_true, true_and, and_true, false_and, and_false, true_or, or_true, false_or, or_false, and_self, or_self, decide_true, decide_false, Bool.not_true, Bool.not_false, Bool.and_true, Bool.and_false, Bool.true_and, Bool.false_and, ite_self]
            · refine ⟨a, b, ?_, h⟩
              simp only [b245_0, b245_7, b245_10, b245_18, b245_21, b245_27, b245_30, b245_37, b245_40, b245_48, b245_51, b245_58, b245_61, h16, h94, hs, m_in, Option.bind_some, Option.toList_some, Option.toList_none, List.cons_append, List.nil_append, true_or, or_true, if_true, bI_if, bI_if, g0, e0, hn, g1, g2, g3, g4, g5, if_true, if_false, Bool.false_eq_true, true_and, and_true, false_and, and_false, true_or, or_true, false_or, or_false, and_self, or_self, decide_true, decide_false, Bool.not_true, Bool.not_false, Bool.and_true, Bool.and_false, Bool.true_and, Bool.false_and, ite_self]
          · refine ⟨a, b, ?_, h⟩
            simp only [b245_0, b245_7, b245_10, b245_18, b245_21, b245_27, b245_30, b245_37, b245_40, b245_48, b245_51, b245_58, b245_61, h16, h94, hs, m_in, Option.bind_some, Option.toList_some, Option.toList_none, List.cons_append, List.nil_append, true_or, or_true, if_true, bI_if, bI_if, g0, e0, hn, g1, g2, g3, g4, if_true, if_false, Bool.false_eq_true, true_and, and_true, false_and, and_false, true_or, or_true, false_or, or_false, and_self, or_self, decide_true, decide_false, Bool.not_true, Bool.not_false, Bool.and_true, Bool.and_false, Bool.true_and, Bool.false_and, ite_self]
        · refine ⟨a, b, ?_, h⟩
          simp only [b245_0, b245_7, b245_10, b245_18, b245_21, b245_27, b245_30, b245_37, b245_40, b245_48, b245_51, b245_58, b245_61, h16, h94, hs, m_in, Option.bind_some, Option.toList_some, Option.toList_none, List.cons_append, List.nil_append, true_or, or_true, if_true, bI_if, bI_if, g0, e0, hn, g1, g2, g3, if_true, if_false, Bool.false_eq_true, true_and, and_true, false_and, and_false, true_or, or_true, false_or, or_false, and_self, or_self, decide_true, decide_false, Bool.not_true, Bool.not_false, Bool.and_true, Bool.and_false, Bool.true_and, Bool.false_and, ite_self]
      · refine ⟨a, b, ?_, h⟩
        simp only [b245_0, b245_7, b245_10, b245_18, b245_21, b245_27, b245_30, b245_37, b245_40, b245_48, b245_51, b245_58, b245_61, h16, h94, hs, m_in, Option.bind_some, Option.toList_some, Option.toList_none, List.cons_append, List.nil_append, true_or, or_true, if_true, bI_if, bI_if, g0, e0, hn, g1, g2, if_true, if_false, Bool.false_eq_true, true_and, and_true, false_and, and_false, true_or, or_true, false_or, or_false, and_self, or_self, decide_true, decide_false, Bool.not_true, Bool.not_false, Bool.and_true, Bool.and_false, Bool.true_and, Bool.false_and, ite_self]
    · refine ⟨a, b, ?_, h⟩
      simp only [b245_0, b245_7, b245_10, b245_18, b245_21, b245_27, b245_30, b245_37, b245_40, b245_48, b245_51, b245_58, b245_61, h16, h94, hs, m_in, Option.bind_some, Option.toList_some, Option.toList_none, List.cons_append, List.nil_append, true_or, or_true, if_true, bI_if, bI_if, g0, e0, hn, g1, if_true, if_false, Bool.false_eq_true, true_and, and_true, false_and, and_false, true_or, or_true, false_or, or_false, and_self, or_self, decide_true, decide_false, Bool.not_true, Bool.not_false, Bool.and_true, Bool.and_false, Bool.true_and, Bool.false_and, ite_self]
  · refine ⟨a, b, ?_, h⟩
    simp only [b245_0, b245_7, b245_10, b245_18, b245_21, b245_27, b245_30, b245_37, b245_40, b245_48, b245_51, b245_58, b245_61, h16, h94, hs, m_in, Option.bind_some, Option.toList_some, Option.toList_none, List.cons_append, List.nil_append, true_or, or_true, if_true, bI_if, bI_if, g0, if_true, if_false, Bool.false_eq_true, true_and, and_true, false_and, and_false, true_or, or_true, false_or, or_false, and_self, or_self, decide_true, decide_false, Bool.not_true, Bool.not_false, Bool.and_true, Bool.and_false, Bool.true_and, Bool.false_and, ite_self]
