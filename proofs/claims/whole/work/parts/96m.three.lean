/-! ===== questions: three ===== -/
def cntB (w : Nat) : Nat := w % 2 + w / 2 % 2 + w / 4 % 2
theorem cntB_le (w : Nat) : cntB w ≤ 3 := by unfold cntB; omega
theorem w8 {w : Nat} (h : w < 8) : w = 0 ∨ w = 1 ∨ w = 2 ∨ w = 3 ∨ w = 4 ∨ w = 5 ∨ w = 6 ∨ w = 7 := by omega
theorem c_bits {d w : Nat} {n : Nat} {a : Nat → Nat → Int32} {b : Nat → Nat → Int64} {r : Nat → Nat → Option Nat} (h : w < 8) : Den (d) 273 0 [.int (iN w)] [] (zmMk n a b r) = some (some (.int (iN (cntB w))), (zmMk n a b r)) := by
  rw [b273_0]
  refine congrArg (fun x => some (some (Value.int x), (zmMk n a b r))) ?_
  rcases w8 h with rfl | rfl | rfl | rfl | rfl | rfl | rfl | rfl <;> decide +kernel
theorem x_bits {w i : Nat} (h : w < 8) (hi : i < 3) : ((iN w : Int32) ^^^ ((iN 1 : Int32) <<< ((iN i : Int32) &&& (iN 31)))) = iN (w ^^^ 2 ^ i) ∧ w ^^^ 2 ^ i < 8 := by
  rcases w8 h with rfl | rfl | rfl | rfl | rfl | rfl | rfl | rfl <;> rcases (by omega : i = 0 ∨ i = 1 ∨ i = 2) with rfl | rfl | rfl <;> decide +kernel
theorem s_bits {w : Nat} (h : w < 8) : (((iN w : Int32) &&& (iN 1)) + (((iN w : Int32) >>> (((iN 1) : Int32) &&& (iN 31))) &&& (iN 1))) + (((iN w : Int32) >>> (((iN 2) : Int32) &&& (iN 31))) &&& (iN 1)) = iN (cntB w) := by
  rcases w8 h with rfl | rfl | rfl | rfl | rfl | rfl | rfl | rfl <;> decide +kernel
def gnV (w i : Nat) (v1 v2 v3 : Int32) : Int32 := if w.testBit i = true then (if iN (cntB w) < v2 then iN 0 - v1 else v3 - v1) else (if iN (cntB w) < v2 then iN 0 else v3 / iN 2)
theorem c_gain {d w i : Nat} {v1 v2 v3 : Int32} {n : Nat} {a : Nat → Nat → Int32} {b : Nat → Nat → Int64} {r : Nat → Nat → Option Nat} (h : w < 8) (hi : i < 3) : Den (d+1) 133 0 [.int (iN w), .int (iN i), .int v1, .int v2, .int v3, zmJ] [] (zmMk n a b r) = some (some (.int (gnV w i v1 v2 v3)), (zmMk n a b r)) := by
  unfold gnV
  by_cases h1 : iN (cntB w) < v2
  · by_cases h2 : w.testBit i = true
    · simp only [b133_0, c_bits h, Option.bind_some, Option.toList_some, Option.toList_none, List.cons_append, List.nil_append, true_or, or_true, if_true, bI_if, b133_4, h1, b133_12, b133_13, n_bit (show w < 2147483648 by omega) (show i < 31 by omega), h2, b133_24, b133_34, b133_35, if_true, if_false, Bool.false_eq_true, true_and, and_true, false_and, and_false, true_or, or_true, false_or, or_false, and_self, or_self, decide_true, decide_false, Bool.not_true, Bool.not_false, Bool.and_true, Bool.and_false, Bool.true_and, Bool.false_and, ite_self]
    · simp only [b133_0, c_bits h, Option.bind_some, Option.toList_some, Option.toList_none, List.cons_append, List.nil_append, true_or, or_true, if_true, bI_if, b133_4, h1, b133_12, b133_13, n_bit (show w < 2147483648 by omega) (show i < 31 by omega), h2, b133_38, b133_50, b133_51, if_true, if_false, Bool.false_eq_true, true_and, and_true, false_and, and_false, true_or, or_true, false_or, or_false, and_self, or_self, decide_true, decide_false, Bool.not_true, Bool.not_false, Bool.and_true, Bool.and_false, Bool.true_and, Bool.false_and, ite_self]
  · by_cases h2 : w.testBit i = true
    · simp only [b133_0, c_bits h, Option.bind_some, Option.toList_some, Option.toList_none, List.cons_append, List.nil_append, true_or, or_true, if_true, bI_if, b133_4, h1, b133_8, b133_13, n_bit (show w < 2147483648 by omega) (show i < 31 by omega), h2, b133_24, show (iN 1 = iN 0) = False from by decide +kernel, b133_29, b133_35, if_true, if_false, Bool.false_eq_true, true_and, and_true, false_and, and_false, true_or, or_true, false_or, or_false, and_self, or_self, decide_true, decide_false, Bool.not_true, Bool.not_false, Bool.and_true, Bool.and_false, Bool.true_and, Bool.false_and, ite_self]
    · simp only [b133_0, c_bits h, Option.bind_some, Option.toList_some, Option.toList_none, List.cons_append, List.nil_append, true_or, or_true, if_true, bI_if, b133_4, h1, b133_8, b133_13, n_bit (show w < 2147483648 by omega) (show i < 31 by omega), h2, b133_38, show (iN 1 = iN 0) = False from by decide +kernel, b133_43, b133_51, if_true, if_false, Bool.false_eq_true, true_and, and_true, false_and, and_false, true_or, or_true, false_or, or_false, and_self, or_self, decide_true, decide_false, Bool.not_true, Bool.not_false, Bool.and_true, Bool.and_false, Bool.true_and, Bool.false_and, ite_self]
theorem m_gainOf {d w i : Nat} {v1 v2 v3 : Int32} {n : Nat} {a : Nat → Nat → Int32} {b : Nat → Nat → Int64} {r : Nat → Nat → Option Nat} (h : w < 8) (hi : i < 3) : Den (d+1) 249 0 [.int (iN w), .int (iN i), .int v1, .int v2, .int v3, zmJ, zmJ] [] (zmMk n a b r) = some (some (.int (gnV w i v1 v2 v3)), (zmMk n a b r)) := by
  unfold gnV
  by_cases h1 : iN (cntB w) < v2
  · by_cases h2 : w.testBit i = true
    · simp only [b249_0, s_bits h, h1, b249_27, b249_28, m_has (show w < 2147483648 by omega) (show i < 31 by omega), Option.bind_some, Option.toList_some, Option.toList_none, List.cons_append, List.nil_append, true_or, or_true, if_true, bI_if, b249_35, bI_if, h2, b249_38, b249_48, b249_49, b249_67, if_true, if_false, Bool.false_eq_true, true_and, and_true, false_and, and_false, true_or, or_true, false_or, or_false, and_self, or_self, decide_true, decide_false, Bool.not_true, Bool.not_false, Bool.and_true, Bool.and_false, Bool.true_and, Bool.false_and, ite_self]
    · rw [if_neg h2]
      rw [Bool.not_eq_true] at h2
      simp only [b249_0, s_bits h, h1, b249_27, b249_28, m_has (show w < 2147483648 by omega) (show i < 31 by omega), Option.bind_some, Option.toList_some, Option.toList_none, List.cons_append, List.nil_append, true_or, or_true, if_true, bI_if, b249_35, bI_if, h2, b249_54, b249_66, b249_67, if_true, if_false, Bool.false_eq_true, true_and, and_true, false_and, and_false, true_or, or_true, false_or, or_false, and_self, or_self, decide_true, decide_false, Bool.not_true, Bool.not_false, Bool.and_true, Bool.and_false, Bool.true_and, Bool.false_and, ite_self]
  · by_cases h2 : w.testBit i = true
    · simp only [b249_0, s_bits h, h1, b249_23, b249_28, m_has (show w < 2147483648 by omega) (show i < 31 by omega), Option.bind_some, Option.toList_some, Option.toList_none, List.cons_append, List.nil_append, true_or, or_true, if_true, bI_if, b249_35, bI_if, h2, b249_38, show (iN 1 = iN 0) = False from by decide +kernel, b249_43, b249_49, b249_67, if_true, if_false, Bool.false_eq_true, true_and, and_true, false_and, and_false, true_or, or_true, false_or, or_false, and_self, or_self, decide_true, decide_false, Bool.not_true, Bool.not_false, Bool.and_true, Bool.and_false, Bool.true_and, Bool.false_and, ite_self]
    · rw [if_neg h2]
      rw [Bool.not_eq_true] at h2
      simp only [b249_0, s_bits h, h1, b249_23, b249_28, m_has (show w < 2147483648 by omega) (show i < 31 by omega), Option.bind_some, Option.toList_some, Option.toList_none, List.cons_append, List.nil_append, true_or, or_true, if_true, bI_if, b249_35, bI_if, h2, b249_54, show (iN 1 = iN 0) = False from by decide +kernel, b249_59, b249_67, if_true, if_false, Bool.false_eq_true, true_and, and_true, false_and, and_false, true_or, or_true, false_or, or_false, and_self, or_self, decide_true, decide_false, Bool.not_true, Bool.not_false, Bool.and_true, Bool.and_false, Bool.true_and, Bool.false_and, ite_self]
def noG (w : Nat) (v1 v2 v3 : Int32) : Nat → Bool
  | 0 => true
  | i + 1 => noG w v1 v2 v3 i && !decide (gnV w i v1 v2 v3 < gnV (w ^^^ 2 ^ i) i v1 v2 v3)
theorem noG_f {w : Nat} {v1 v2 v3 : Int32} {i : Nat} (h : noG w v1 v2 v3 i = false) (k : Nat) : noG w v1 v2 v3 (i + k) = false := by
  induction k with
  | zero => exact h
  | succ k ih =>
    show (noG w v1 v2 v3 (i + k) && _) = false
    rw [ih]
    rfl
theorem c_noneL {d w : Nat} {v1 v2 v3 : Int32} {n : Nat} {a : Nat → Nat → Int32} {b : Nat → Nat → Int64} {r : Nat → Nat → Option Nat} (h : w < 8) (k : Nat) : ∀ (i : Nat) (u5 : Value), i + k = 3 → noG w v1 v2 v3 i = true → Den (d+2) 132 3 [.int (iN w),.int v1,.int v2,.int v3,.int (iN i),u5] [] (zmMk n a b r) = some (some (.int (bI (noG w v1 v2 v3 3))), (zmMk n a b r)) := by
  induction k with
  | zero =>
    intro i u5 hi hg
    obtain rfl : i = 3 := by omega
    rw [b132_3, if_neg (by decide +kernel), b132_47, hg]
    rfl
  | succ k ih =>
    intro i u5 hi hg
    obtain ⟨x1, x2⟩ := x_bits h (show i < 3 by omega)
    have hs : noG w v1 v2 v3 (i + 1) = (noG w v1 v2 v3 i && !decide (gnV w i v1 v2 v3 < gnV (w ^^^ 2 ^ i) i v1 v2 v3)) := rfl
    rw [hg, Bool.true_and] at hs
    rw [b132_3, if_pos (by rw [n_lt (by omega) (by omega)]; omega), b132_9, x1, c_gain x2 (by omega)]
    simp only [Option.bind_some, Option.toList_some, Option.toList_none, List.cons_append, List.nil_append, true_or, or_true, if_true, bI_if]
    rw [b132_27, c_gain h (by omega)]
    simp only [Option.bind_some, Option.toList_some, Option.toList_none, List.cons_append, List.nil_append, true_or, or_true, if_true, bI_if]
    rw [b132_36]
    by_cases hl : gnV w i v1 v2 v3 < gnV (w ^^^ 2 ^ i) i v1 v2 v3
    · rw [decide_eq_true hl] at hs
      have := noG_f hs k
      rw [show i + 1 + k = 3 by omega] at this
      rw [if_pos hl, b132_39, this]
      rfl
    · rw [decide_eq_false hl] at hs
      rw [if_neg hl, b132_41, n_add]
      exact ih (i + 1) _ (by omega) hs
theorem c_noneG {d w : Nat} {v1 v2 v3 : Int32} {n : Nat} {a : Nat → Nat → Int32} {b : Nat → Nat → Int64} {r : Nat → Nat → Option Nat} (h : w < 8) : Den (d+2) 132 0 [.int (iN w), .int v1, .int v2, .int v3, zmJ, zmJ] [] (zmMk n a b r) = some (some (.int (bI (noG w v1 v2 v3 3))), (zmMk n a b r)) := by
  rw [b132_0]
  exact c_noneL h 3 0 zmJ (by omega) rfl
theorem m_noneL {d w : Nat} {v1 v2 v3 v4 x y : Int32} {n : Nat} {a : Nat → Nat → Int32} {b : Nat → Nat → Int64} {r : Nat → Nat → Option Nat} (h : w < 8) (k : Nat) : ∀ (i : Nat), i + k = 3 → Den (d+2) 250 64 [.ref 94,.int v1,.int v2,.int v3,.int v4,.int x,.int y,.int (iN w),(.int (bI (noG w v1 v2 v3 i))),(.int (iN i))] [] (zmMk n a b r) = Den (d+2) 250 116 [.ref 94,.int v1,.int v2,.int v3,.int v4,.int x,.int y,.int (iN w),(.int (bI (noG w v1 v2 v3 3))),(.int (iN 3))] [] (zmMk n a b r) := by
  induction k with
  | zero =>
    intro i hi
    obtain rfl : i = 3 := by omega
    rw [b250_64, if_neg (by decide +kernel)]
  | succ k ih =>
    intro i hi
    obtain ⟨x1, x2⟩ := x_bits h (show i < 3 by omega)
    have hs : noG w v1 v2 v3 (i + 1) = (noG w v1 v2 v3 i && !decide (gnV w i v1 v2 v3 < gnV (w ^^^ 2 ^ i) i v1 v2 v3)) := rfl
    have e := ih (i + 1) (by omega)
    rw [hs] at e
    rw [b250_64, if_pos (by rw [n_lt (by omega) (by omega)]; omega), b250_70, bI_if]
    cases hg : noG w v1 v2 v3 i with
    | false =>
      rw [hg] at e
      rw [if_neg (by decide), b250_107, b250_108, n_add]
      exact e
    | true =>
      rw [hg, Bool.true_and] at e
      rw [if_pos rfl, b250_75, x1, m_gainOf x2 (by omega)]
      simp only [Option.bind_some, Option.toList_some, Option.toList_none, List.cons_append, List.nil_append, true_or, or_true, if_true, bI_if]
      rw [b250_90, m_gainOf h (by omega)]
      simp only [Option.bind_some, Option.toList_some, Option.toList_none, List.cons_append, List.nil_append, true_or, or_true, if_true, bI_if]
      rw [b250_100]
      by_cases hl : gnV w i v1 v2 v3 < gnV (w ^^^ 2 ^ i) i v1 v2 v3
      · rw [decide_eq_true hl] at e
        rw [if_pos hl, b250_107, b250_108, n_add]
        exact e
      · rw [decide_eq_false hl] at e
        rw [if_neg hl, b250_103, b250_108, n_add]
        exact e
def thS (v1 v2 v3 : Int32) : Nat → Nat × Int32
  | 0 => (0, -2)
  | w + 1 => if noG w v1 v2 v3 3 = true then ((thS v1 v2 v3 w).1 + 1, if (thS v1 v2 v3 w).1 = 0 then iN w else (thS v1 v2 v3 w).2) else thS v1 v2 v3 w
theorem thS_ok (v1 v2 v3 : Int32) (w : Nat) (hw : w ≤ 8) : (thS v1 v2 v3 w).1 ≤ w ∧ ((thS v1 v2 v3 w).1 = 0 → (thS v1 v2 v3 w).2 = -2) ∧ ((thS v1 v2 v3 w).1 ≠ 0 → ∃ m : Nat, m < 8 ∧ (thS v1 v2 v3 w).2 = iN m) := by
  induction w with
  | zero => exact ⟨Nat.le_refl _, fun _ => rfl, fun h => absurd rfl h⟩
  | succ w ih =>
    obtain ⟨i1, i2, i3⟩ := ih (by omega)
    by_cases hg : noG w v1 v2 v3 3 = true
    · have e : thS v1 v2 v3 (w + 1) = ((thS v1 v2 v3 w).1 + 1, if (thS v1 v2 v3 w).1 = 0 then iN w else (thS v1 v2 v3 w).2) := if_pos hg
      rw [e]
      refine ⟨Nat.succ_le_succ i1, fun h => absurd h (Nat.succ_ne_zero _), fun _ => ?_⟩
      by_cases h0 : (thS v1 v2 v3 w).1 = 0
      · exact ⟨w, by omega, if_pos h0⟩
      · obtain ⟨m, m1, m2⟩ := i3 h0
        exact ⟨m, m1, (if_neg h0).trans m2⟩
    · have e : thS v1 v2 v3 (w + 1) = thS v1 v2 v3 w := if_neg hg
      rw [e]
      exact ⟨by omega, i2, i3⟩
theorem c_threeL {d : Nat} {v1 v2 v3 v4 : Int32} {n : Nat} {a : Nat → Nat → Int32} {b : Nat → Nat → Int64} {r : Nat → Nat → Option Nat} (k : Nat) : ∀ w, w + k = 8 → Den (d+3) 115 51 [.ref 14,.int v1,.int v2,.int v3,.int v4,.int (iN (thS v1 v2 v3 w).1),.int (thS v1 v2 v3 w).2,.int (iN w)] [] (zmMk n a b r) = Den (d+3) 115 92 [.ref 14,.int v1,.int v2,.int v3,.int v4,.int (iN (thS v1 v2 v3 8).1),.int (thS v1 v2 v3 8).2,.int (iN 8)] [] (zmMk n a b r) := by
  induction k with
  | zero =>
    intro w hw
    obtain rfl : w = 8 := by omega
    rw [b115_51, if_neg (by decide +kernel)]
  | succ k ih =>
    intro w hw
    have e := ih (w + 1) (by omega)
    obtain ⟨i1, i2, i3⟩ := thS_ok v1 v2 v3 w (by omega)
    rw [b115_51, if_pos (by rw [n_lt (by omega) (by omega)]; omega), b115_58, c_noneG (by omega)]
    simp only [Option.bind_some, Option.toList_some, Option.toList_none, List.cons_append, List.nil_append, true_or, or_true, if_true, bI_if]
    rw [b115_66, bI_if]
    by_cases hg : noG w v1 v2 v3 3 = true
    · have es : thS v1 v2 v3 (w + 1) = ((thS v1 v2 v3 w).1 + 1, if (thS v1 v2 v3 w).1 = 0 then iN w else (thS v1 v2 v3 w).2) := if_pos hg
      rw [es] at e
      rw [if_pos hg, b115_69]
      by_cases h0 : (thS v1 v2 v3 w).1 = 0
      · rw [if_pos h0] at e
        rw [if_pos (show (thS v1 v2 v3 w).2 < iN 0 by rw [i2 h0]; decide +kernel), b115_77, b115_84, b115_86, n_add, n_add]
        exact e
      · obtain ⟨m, m1, m2⟩ := i3 h0
        rw [if_neg h0] at e
        rw [if_neg (show ¬ (thS v1 v2 v3 w).2 < iN 0 by rw [m2, n_lt (by omega) (by omega)]; omega), b115_82, b115_84, b115_86, n_add, n_add]
        exact e
    · have es : thS v1 v2 v3 (w + 1) = thS v1 v2 v3 w := if_neg hg
      rw [es] at e
      rw [if_neg hg, b115_86, n_add]
      exact e
theorem m_threeL {d : Nat} {v1 v2 v3 v4 : Int32} {n : Nat} {a : Nat → Nat → Int32} {b : Nat → Nat → Int64} {r : Nat → Nat → Option Nat} (k : Nat) : ∀ (w : Nat) (u8 u9 : Value), w + k = 8 → ∃ u8' u9', Den (d+2) 250 51 [.ref 94,.int v1,.int v2,.int v3,.int v4,.int (iN (thS v1 v2 v3 w).1),.int (thS v1 v2 v3 w).2,.int (iN w),u8,u9] [] (zmMk n a b r) = Den (d+2) 250 150 [.ref 94,.int v1,.int v2,.int v3,.int v4,.int (iN (thS v1 v2 v3 8).1),.int (thS v1 v2 v3 8).2,.int (iN 8),u8',u9'] [] (zmMk n a b r) := by
  induction k with
  | zero =>
    intro w u8 u9 hw
    obtain rfl : w = 8 := by omega
    refine ⟨u8, u9, ?_⟩
    rw [b250_51, if_neg (by decide +kernel)]
  | succ k ih =>
    intro w u8 u9 hw
    obtain ⟨i1, i2, i3⟩ := thS_ok v1 v2 v3 w (by omega)
    obtain ⟨u8', u9', e⟩ := ih (w + 1) (.int (bI (noG w v1 v2 v3 3))) (.int (iN 3)) (by omega)
    refine ⟨u8', u9', ?_⟩
    have e1 : Den (d+2) 250 64 [.ref 94,.int v1,.int v2,.int v3,.int v4,.int (iN (thS v1 v2 v3 w).1),.int (thS v1 v2 v3 w).2,.int (iN w),(.int (iN 1)),(.int (iN 0))] [] (zmMk n a b r) = _ := m_noneL (d := d) (v1 := v1) (v2 := v2) (v3 := v3) (v4 := v4) (x := iN (thS v1 v2 v3 w).1) (y := (thS v1 v2 v3 w).2) (n := n) (a := a) (b := b) (r := r) (show w < 8 by omega) 3 0 (by omega)
    rw [b250_51, if_pos (by rw [n_lt (by omega) (by omega)]; omega), b250_58, e1, b250_116, bI_if]
    by_cases hg : noG w v1 v2 v3 3 = true
    · have es : thS v1 v2 v3 (w + 1) = ((thS v1 v2 v3 w).1 + 1, if (thS v1 v2 v3 w).1 = 0 then iN w else (thS v1 v2 v3 w).2) := if_pos hg
      rw [es] at e
      rw [if_pos hg, b250_124]
      by_cases h0 : (thS v1 v2 v3 w).1 = 0
      · rw [if_pos h0] at e
        rw [if_pos (show iN (thS v1 v2 v3 w).1 = iN 0 by rw [h0]), b250_129, b250_136, b250_144, n_add, n_add]
        exact e
      · rw [if_neg h0] at e
        rw [if_neg (eq_n h0 (by omega) (by omega)), b250_134, b250_136, b250_144, n_add, n_add]
        exact e
    · have es : thS v1 v2 v3 (w + 1) = thS v1 v2 v3 w := if_neg hg
      rw [es] at e
      rw [if_neg hg, b250_121, b250_144, n_add]
      exact e
def threeV (v1 v2 v3 v4 : Int32) : Int32 := if inI v1 (iN 0) (iN 99) = true ∧ inI v2 (iN 1) (iN 3) = true ∧ inI v3 (iN 0) (iN 99) = true ∧ inI v4 (iN 0) (iN 1) = true then (if v4 = iN 0 then iN (thS v1 v2 v3 8).1 else (thS v1 v2 v3 8).2) else -1
theorem c_three {d : Nat} {n : Nat} {a : Nat → Nat → Int32} {b : Nat → Nat → Int64} {r : Nat → Nat → Option Nat} {σ : SV} {cl cl' : List Cls} {R R' : Nat → List Cls} {TL TS A : Nat} {TR : Nat → Nat} (h : (St a b r σ cl cl' R R' TL TS TR A)) {v1 v2 v3 v4 : Int32} : ∃ a' b', Den (d+5) 115 0 [.ref 14, .int v1, .int v2, .int v3, .int v4, zmJ, zmJ, zmJ] [] (zmMk n a b r) = some (some (.int (threeV v1 v2 v3 v4)), zmMk n a' b' r) ∧ St a' b' r σ cl cl' R R' TL TS TR A := by
  obtain ⟨⟨n1, n8⟩, h16, h94, hs⟩ := h.n8
  unfold threeV
  by_cases g1 : inI v1 (iN 0) (iN 99) = true
  · by_cases g2 : inI v2 (iN 1) (iN 3) = true
    · by_cases g3 : inI v3 (iN 0) (iN 99) = true
      · by_cases g4 : inI v4 (iN 0) (iN 1) = true
        · have e1 : Den (d+5) 115 51 [.ref 14,.int v1,.int v2,.int v3,.int v4,.int (iN 0),.int (-2),.int (iN 0)] [] (zmMk n a b r) = _ := c_threeL (d := d+2) (v1 := v1) (v2 := v2) (v3 := v3) (v4 := v4) (n := n) (a := a) (b := b) (r := r) 8 0 (by omega)
          refine ⟨a, b, ?_, h⟩
          rw [if_pos ⟨g1, g2, g3, g4⟩]
          by_cases g0 : v4 = iN 0
          · simp only [b115_0, b115_7, b115_10, b115_16, b115_19, b115_26, b115_29, b115_36, b115_39, c_within, Option.bind_some, Option.toList_some, Option.toList_none, List.cons_append, List.nil_append, true_or, or_true, if_true, bI_if, bI_if, g1, g2, g3, g4, b115_41, e1, b115_92, if_pos g0, b115_97, b115_104, if_true, if_false, Bool.false_eq_true, true_and, and_true, false_and, and_false, true_or, or_true, false_or, or_false, and_self, or_self, decide_true, decide_false, Bool.not_true, Bool.not_false, Bool.and_true, Bool.and_false, Bool.true_and, Bool.false_and, ite_self]
          · simp only [b115_0, b115_7, b115_10, b115_16, b115_19, b115_26, b115_29, b115_36, b115_39, c_within, Option.bind_some, Option.toList_some, Option.toList_none, List.cons_append, List.nil_append, true_or, or_true, if_true, bI_if, bI_if, g1, g2, g3, g4, b115_41, e1, b115_92, if_neg g0, b115_102, b115_104, if_true, if_false, Bool.false_eq_true, true_and, and_true, false_and, and_false, true_or, or_true, false_or, or_false, and_self, or_self, decide_true, decide_false, Bool.not_true, Bool.not_false, Bool.and_true, Bool.and_false, Bool.true_and, Bool.false_and, ite_self]
        · refine ⟨a, b, ?_, h⟩
          simp only [b115_0, b115_7, b115_10, b115_16, b115_19, b115_26, b115_29, b115_36, b115_39, h16, h94, hs, c_within, Option.bind_some, Option.toList_some, Option.toList_none, List.cons_append, List.nil_append, true_or, or_true, if_true, bI_if, bI_if, g1, g2, g3, g4, if_true, if_false, Bool.false_eq_true, true_and, and_true, false_and, and_false, true_or, or_true, false_or, or_false, and_self, or_self, decide_true, decide_false, Bool.not_true, Bool.not_false, Bool.and_true, Bool.and_false, Bool.true_and, Bool.false_and, ite_self]
      · refine ⟨a, b, ?_, h⟩
        simp only [b115_0, b115_7, b115_10, b115_16, b115_19, b115_26, b115_29, b115_36, b115_39, h16, h94, hs, c_within, Option.bind_some, Option.toList_some, Option.toList_none, List.cons_append, List.nil_append, true_or, or_true, if_true, bI_if, bI_if, g1, g2, g3, if_true, if_false, Bool.false_eq_true, true_and, and_true, false_and, and_false, true_or, or_true, false_or, or_false, and_self, or_self, decide_true, decide_false, Bool.not_true, Bool.not_false, Bool.and_true, Bool.and_false, Bool.true_and, Bool.false_and, ite_self]
    · refine ⟨a, b, ?_, h⟩
      simp only [b115_0, b115_7, b115_10, b115_16, b115_19, b115_26, b115_29, b115_36, b115_39, h16, h94, hs, c_within, Option.bind_some, Option.toList_some, Option.toList_none, List.cons_append, List.nil_append, true_or, or_true, if_true, bI_if, bI_if, g1, g2, if_true, if_false, Bool.false_eq_true, true_and, and_true, false_and, and_false, true_or, or_true, false_or, or_false, and_self, or_self, decide_true, decide_false, Bool.not_true, Bool.not_false, Bool.and_true, Bool.and_false, Bool.true_and, Bool.false_and, ite_self]
  · refine ⟨a, b, ?_, h⟩
    simp only [b115_0, b115_7, b115_10, b115_16, b115_19, b115_26, b115_29, b115_36, b115_39, h16, h94, hs, c_within, Option.bind_some, Option.toList_some, Option.toList_none, List.cons_append, List.nil_append, true_or, or_true, if_true, bI_if, bI_if, g1, if_true, if_false, Bool.false_eq_true, true_and, and_true, false_and, and_false, true_or, or_true, false_or, or_false, and_self, or_self, decide_true, decide_false, Bool.not_true, Bool.not_false, Bool.and_true, Bool.and_false, Bool.true_and, Bool.false_and, ite_self]
theorem m_three {d : Nat} {n : Nat} {a : Nat → Nat → Int32} {b : Nat → Nat → Int64} {r : Nat → Nat → Option Nat} {σ : SV} {cl cl' : List Cls} {R R' : Nat → List Cls} {TL TS A : Nat} {TR : Nat → Nat} (h : (St a b r σ cl cl' R R' TL TS TR A)) {v1 v2 v3 v4 : Int32} : ∃ a' b', Den (d+5) 250 0 [.ref 94, .int v1, .int v2, .int v3, .int v4, zmJ, zmJ, zmJ, zmJ, zmJ] [] (zmMk n a b r) = some (some (.int (threeV v1 v2 v3 v4)), zmMk n a' b' r) ∧ St a' b' r σ cl cl' R R' TL TS TR A := by
  obtain ⟨⟨n1, n8⟩, h16, h94, hs⟩ := h.n8
  unfold threeV
  by_cases g1 : inI v1 (iN 0) (iN 99) = true
  · by_cases g2 : inI v2 (iN 1) (iN 3) = true
    · by_cases g3 : inI v3 (iN 0) (iN 99) = true
      · by_cases g4 : inI v4 (iN 0) (iN 1) = true
        · obtain ⟨u8, u9, e1⟩ := m_threeL (d := d+3) (v1 := v1) (v2 := v2) (v3 := v3) (v4 := v4) (n := n) (a := a) (b := b) (r := r) 8 0 zmJ zmJ (by omega)
          have e1' : Den (d+5) 250 51 [.ref 94,.int v1,.int v2,.int v3,.int v4,.int (iN 0),.int (-2),.int (iN 0),zmJ,zmJ] [] (zmMk n a b r) = _ := e1
          refine ⟨a, b, ?_, h⟩
          rw [if_pos ⟨g1, g2, g3, g4⟩]
          by_cases g0 : v4 = iN 0
          · simp only [b250_0, b250_7, b250_10, b250_16, b250_19, b250_26, b250_29, b250_36, b250_39, m_in, Option.bind_some, Option.toList_some, Option.toList_none, List.cons_append, List.nil_append, true_or, or_true, if_true, bI_if, bI_if, g1, g2, g3, g4, b250_41, e1', b250_150, if_pos g0, b250_155, b250_160, b250_162, if_true, if_false, Bool.false_eq_true, true_and, and_true, false_and, and_false, true_or, or_true, false_or, or_false, and_self, or_self, decide_true, decide_false, Bool.not_true, Bool.not_false, Bool.and_true, Bool.and_false, Bool.true_and, Bool.false_and, ite_self]
          · simp only [b250_0, b250_7, b250_10, b250_16, b250_19, b250_26, b250_29, b250_36, b250_39, m_in, Option.bind_some, Option.toList_some, Option.toList_none, List.cons_append, List.nil_append, true_or, or_true, if_true, bI_if, bI_if, g1, g2, g3, g4, b250_41, e1', b250_150, if_neg g0, b250_155, b250_160, b250_162, if_true, if_false, Bool.false_eq_true, true_and, and_true, false_and, and_false, true_or, or_true, false_or, or_false, and_self, or_self, decide_true, decide_false, Bool.not_true, Bool.not_false, Bool.and_true, Bool.and_false, Bool.true_and, Bool.false_and, ite_self]
        · refine ⟨a, b, ?_, h⟩
          simp only [b250_0, b250_7, b250_10, b250_16, b250_19, b250_26, b250_29, b250_36, b250_39, h16, h94, hs, m_in, Option.bind_some, Option.toList_some, Option.toList_none, List.cons_append, List.nil_append, true_or, or_true, if_true, bI_if, bI_if, g1, g2, g3, g4, if_true, if_false, Bool.false_eq_true, true_and, and_true, false_and, and_false, true_or, or_true, false_or, or_false, and_self, or_self, decide_true, decide_false, Bool.not_true, Bool.not_false, Bool.and_true, Bool.and_false, Bool.true_and, Bool.false_and, ite_self]
      · refine ⟨a, b, ?_, h⟩
        simp only [b250_0, b250_7, b250_10, b250_16, b250_19, b250_26, b250_29, b250_36, b250_39, h16, h94, hs, m_in, Option.bind_some, Option.toList_some, Option.toList_none, List.cons_append, List.nil_append, true_or, or_true, if_true, bI_if, bI_if, g1, g2, g3, if_true, if_false, Bool.false_eq_true, true_and, and_true, false_and, and_false, true_or, or_true, false_or, or_false, and_self, or_self, decide_true, decide_false, Bool.not_true, Bool.not_false, Bool.and_true, Bool.and_false, Bool.true_and, Bool.false_and, ite_self]
    · refine ⟨a, b, ?_, h⟩
      simp only [b250_0, b250_7, b250_10, b250_16, b250_19, b250_26, b250_29, b250_36, b250_39, h16, h94, hs, m_in, Option.bind_some, Option.toList_some, Option.toList_none, List.cons_append, List.nil_append, true_or, or_true, if_true, bI_if, bI_if, g1, g2, if_true, if_false, Bool.false_eq_true, true_and, and_true, false_and, and_false, true_or, or_true, false_or, or_false, and_self, or_self, decide_true, decide_false, Bool.not_true, Bool.not_false, Bool.and_true, Bool.and_false, Bool.true_and, Bool.false_and, ite_self]
  · refine ⟨a, b, ?_, h⟩
    simp only [b250_0, b250_7, b250_10, b250_16, b250_19, b250_26, b250_29, b250_36, b250_39, h16, h94, hs, m_in, Option.bind_some, Option.toList_some, Option.toList_none, List.cons_append, List.nil_append, true_or, or_true, if_true, bI_if, bI_if, g1, if_true, if_false, Bool.false_eq_true, true_and, and_true, false_and, and_false, true_or, or_true, false_or, or_false, and_self, or_self, decide_true, decide_false, Bool.not_true, Bool.not_false, Bool.and_true, Bool.and_false, Bool.true_and, Bool.false_and, ite_self]
