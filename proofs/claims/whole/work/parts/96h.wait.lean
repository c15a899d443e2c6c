/-! ===== questions: wait ===== -/
theorem lay17 : zmLay 17 = (20, 30) := by decide +kernel
theorem lay18 : zmLay 18 = (20, 40) := by decide +kernel
theorem m_has {d m i : Nat} {n : Nat} {a : Nat → Nat → Int32} {b : Nat → Nat → Int64} {r : Nat → Nat → Option Nat} (hm : m < 2147483648) (hi : i < 31) : Den (d) 153 0 [.int (iN m), .int (iN i)] [] (zmMk n a b r) = some (some (.int (bI (m.testBit i))), (zmMk n a b r)) := by
  have e : (((iN m : Int32) >>> ((iN i : Int32) &&& (iN 31))) &&& (iN 1)) = iN (m / 2 ^ i % 2) := by
    rw [n_shr i (by omega) hm, n_and, Nat.and_one_is_mod]
  rw [Nat.testBit_eq_decide_div_mod_eq]
  by_cases h : m / 2 ^ i % 2 = 1
  · rw [decide_eq_true h]
    simp only [b153_0, e, h, if_true, b153_9, b153_14, or_true]
    rfl
  · rw [decide_eq_false h]
    simp only [b153_0, e, if_neg (eq_n h (by omega) (show 1 < 2147483648 by omega)), b153_13, b153_14, true_or, if_true]
    rfl
theorem i_asc (a b c : Int32) : a + b - c = a + (b - c) := by
  rw [Int32.sub_eq_add_neg, Int32.sub_eq_add_neg, Int32.add_assoc]
theorem inI_m1 {x : Int32} {k : Nat} (hk : k < 2147483648) (h : inI x (-1) (iN k) = true) (hx : ¬ x = -1) : ∃ j : Nat, j ≤ k ∧ x = iN j := by
  unfold inI at h
  simp only [Bool.and_eq_true, Bool.not_eq_true', decide_eq_false_iff_not] at h
  have h0 : ¬ x < iN 0 := fun h0 => hx (by
    have e1 := n_negI h0
    have e2 : (-1 : Int32).toInt = -1 := by decide +kernel
    have h1 := h.1
    rw [Int32.lt_iff_toInt_lt, e2] at h1
    exact Int32.toInt_inj.mp (by rw [e2]; omega))
  obtain ⟨j, -, h2, h3⟩ := n_between hk h0 h.2 (show 0 < 2147483648 by omega)
  exact ⟨j, h2, h3⟩
def wtS (σ : SV) (v1 : Int32) (bb : Nat) : Nat → Int32
  | 0 => iN 0
  | i + 1 => if σ 1 i ≠ 0 ∧ σ 1 i ≤ bb then wtS σ v1 bb i + (iN (σ 3 i) - v1 * iN (rUp (σ 1 i) (σ 2 i))) else wtS σ v1 bb i
theorem c_waitL {d bb : Nat} {v1 : Int32} {n : Nat} {a : Nat → Nat → Int32} {b : Nat → Nat → Int64} {r : Nat → Nat → Option Nat} {σ : SV} (hB : StoB 0 σ) (hC : StoC a 16 0 σ) (hb : bb ≤ 120) (k : Nat) : ∀ (i : Nat) (u5 u6 : Value), i + k = 10 → Den (d+3) 74 5 [.ref 16,.int v1,.int (iN bb),.int (wtS σ v1 bb i),.int (iN i),u5,u6] [] (zmMk n a b r) = some (some (.int (wtS σ v1 bb 10)), (zmMk n a b r)) := by
  induction k with
  | zero =>
    intro i u5 u6 hi
    obtain rfl : i = 10 := by omega
    rw [b74_5, if_neg (by decide +kernel), b74_76]
  | succ k ih =>
    intro i u5 u6 hi
    have hi10 : i < 10 := by omega
    obtain ⟨c1, c2, c3⟩ := hC.2.2.1 i hi10
    have c1' : a 17 i = iN (σ 1 i) := c1
    have c2' : a 17 (10 + i) = iN (σ 2 i) := c2
    have c3' : a 17 (20 + i) = iN (σ 3 i) := c3
    obtain ⟨d1, d2⟩ := hB.2.2.1 i hi10
    have d1' : σ 1 i ≤ 120 := d1
    have d2' : σ 1 i ≠ 0 → (1 ≤ σ 2 i ∧ σ 2 i ≤ 40) ∧ σ 3 i ≤ 999 := d2
    have hw : inI (iN i) (iN 0) (iN 9) = true := by
      rw [inI_n (by omega) (by omega) (by omega), Bool.and_eq_true]
      exact ⟨decide_eq_true (by omega), decide_eq_true (by omega)⟩
    have hy : Den (d+2) 73 0 [.ref 16, .int (iN i)] [] (zmMk n a b r) = some (some (.int (iN (σ 1 i))), (zmMk n a b r)) := by
      simp only [b73_0, b73_7, b73_10, b73_18, b73_22, c_within, hw, bI_if, Option.bind_some, Option.toList_some, Option.toList_none, List.cons_append, List.nil_append, true_or, or_true, if_true, bI_if, c_item lay17 (show 17 ≠ 0 by omega) (show 17 < 147 by omega) (show 30 < 2147483648 by omega), itV_n (show i < 30 by omega) (show 30 < 2147483648 by omega), c1', if_true, if_false, Bool.false_eq_true, true_and, and_true, false_and, and_false, true_or, or_true, false_or, or_false, and_self, or_self, decide_true, decide_false, Bool.not_true, Bool.not_false, Bool.and_true, Bool.and_false, Bool.true_and, Bool.false_and, ite_self]
    have hst : wtS σ v1 bb (i + 1) = if σ 1 i ≠ 0 ∧ σ 1 i ≤ bb then wtS σ v1 bb i + (iN (σ 3 i) - v1 * iN (rUp (σ 1 i) (σ 2 i))) else wtS σ v1 bb i := rfl
    rw [b74_5, if_pos (by rw [n_lt (by omega) (by omega)]; exact hi10), b74_12, hy]
    simp only [Option.bind_some, Option.toList_some, Option.toList_none, List.cons_append, List.nil_append, true_or, or_true, if_true, bI_if]
    rw [b74_18]
    by_cases h0 : σ 1 i = 0
    · rw [if_neg (fun z => z.1 h0)] at hst
      rw [if_neg (by rw [n_lt (by omega) (by omega)]; omega), b74_70, n_add, ← hst]
      exact ih (i + 1) _ _ (by omega)
    · obtain ⟨⟨e1, e2⟩, e3⟩ := d2' h0
      rw [if_pos (by rw [n_lt (by omega) (by omega)]; omega), b74_25]
      by_cases h1 : σ 1 i ≤ bb
      · rw [if_pos ⟨h0, h1⟩] at hst
        rw [if_neg (by rw [n_lt (by omega) (by omega)]; omega)]
        simp only [b74_31, b74_45, b74_48, b74_63, b74_70, n_add, Option.bind_some, Option.toList_some, Option.toList_none, List.cons_append, List.nil_append, true_or, or_true, if_true, bI_if, c_item lay17 (show 17 ≠ 0 by omega) (show 17 < 147 by omega) (show 30 < 2147483648 by omega), itV_n (show 10 + i < 30 by omega) (show 30 < 2147483648 by omega), itV_n (show 20 + i < 30 by omega) (show 30 < 2147483648 by omega), c2', c3', c_rUp (show σ 1 i ≤ 999 by omega) e1 (show σ 2 i ≤ 120 by omega)]
        rw [← hst]
        exact ih (i + 1) _ _ (by omega)
      · rw [if_neg (fun z => h1 z.2)] at hst
        rw [if_pos (by rw [n_lt (by omega) (by omega)]; omega), b74_70, n_add, ← hst]
        exact ih (i + 1) _ _ (by omega)
theorem m_waitS {d bb : Nat} {v1 : Int32} {n : Nat} {a : Nat → Nat → Int32} {b : Nat → Nat → Int64} {r : Nat → Nat → Option Nat} {σ : SV} (hB : StoB 0 σ) (hM : StoM a 0 1 64 65 127 136 0 σ) (hb : bb ≤ 120) (k : Nat) : ∀ (i : Nat), i + k = 10 → Den (d+3) 247 5 [.ref 94,.int (iN bb),.int v1,.int (wtS σ v1 bb i),.int (iN i)] [] (zmMk n a b r) = some (some (.int (wtS σ v1 bb 10)), (zmMk n a b r)) := by
  obtain ⟨-, -, -, ⟨m, m1, m2, m3⟩, -, m5, -⟩ := hM
  induction k with
  | zero =>
    intro i hi
    obtain rfl : i = 10 := by omega
    rw [b247_5, if_neg (by decide +kernel), b247_79]
  | succ k ih =>
    intro i hi
    have hi10 : i < 10 := by omega
    obtain ⟨d1, d2⟩ := hB.2.2.1 i hi10
    have d1' : σ 1 i ≤ 120 := d1
    have d2' : σ 1 i ≠ 0 → (1 ≤ σ 2 i ∧ σ 2 i ≤ 40) ∧ σ 3 i ≤ 999 := d2
    have m3' : m.testBit i = decide (σ 1 i ≠ 0) := m3 i hi10
    have hst : wtS σ v1 bb (i + 1) = if σ 1 i ≠ 0 ∧ σ 1 i ≤ bb then wtS σ v1 bb i + (iN (σ 3 i) - v1 * iN (rUp (σ 1 i) (σ 2 i))) else wtS σ v1 bb i := rfl
    have hin : zmIn (iN i) 10 = true := by rw [n_in (by omega)]; exact decide_eq_true hi10
    rw [b247_5, if_pos (by rw [n_lt (by omega) (by omega)]; exact hi10), b247_12, m2, m_has (by omega) (by omega), m3']
    simp only [Option.bind_some, Option.toList_some, Option.toList_none, List.cons_append, List.nil_append, true_or, or_true, if_true, bI_if]
    rw [b247_21, bI_if]
    by_cases h0 : σ 1 i = 0
    · rw [if_neg (fun z => z.1 h0)] at hst
      rw [if_neg (by rw [decide_eq_true_eq]; exact fun z => z h0), b247_73, n_add, ← hst]
      exact ih (i + 1) (by omega)
    · obtain ⟨⟨e1, e2⟩, e3⟩ := d2' h0
      obtain ⟨c1, c2, c3⟩ := m5 i hi10 h0
      have c1' : a 131 i = iN (σ 1 i) := c1
      have c2' : a 132 i = iN (σ 2 i) := c2
      have c3' : a 133 i = iN (σ 3 i) := c3
      have hn := n_nat (show i < 2147483648 by omega)
      rw [if_pos (decide_eq_true h0), b247_24, if_pos hin, b247_31, hn, c1']
      by_cases h1 : σ 1 i ≤ bb
      · rw [if_pos ⟨h0, h1⟩] at hst
        have hd : (iN (σ 2 i) = 0) = False := eq_false (eq_n (show σ 2 i ≠ 0 by omega) (by omega) (show 0 < 2147483648 by omega))
        have hq : (iN (σ 1 i + σ 2 i) - iN 1) / iN (σ 2 i) = iN (rUp (σ 1 i) (σ 2 i)) := by
          rw [n_sub (by omega), n_div (by omega) (by omega)]
          rfl
        rw [if_neg (by rw [n_lt (by omega) (by omega)]; omega)]
        simp only [b247_35, hin, if_true, b247_43, b247_52, b247_59, b247_69, hn, c1', c2', c3', hd, if_false, hq, b247_70, b247_73, i_asc, n_add]
        rw [← hst]
        exact ih (i + 1) (by omega)
      · rw [if_neg (fun z => h1 z.2)] at hst
        rw [if_pos (by rw [n_lt (by omega) (by omega)]; omega), b247_73, n_add, ← hst]
        exact ih (i + 1) (by omega)
theorem c_waitS {d bb : Nat} {v1 : Int32} {n : Nat} {a : Nat → Nat → Int32} {b : Nat → Nat → Int64} {r : Nat → Nat → Option Nat} {σ : SV} (hB : StoB 0 σ) (hC : StoC a 16 0 σ) (hb : bb ≤ 120) : Den (d+3) 74 0 [.ref 16, .int v1, .int (iN bb), zmJ, zmJ, zmJ, zmJ] [] (zmMk n a b r) = some (some (.int (wtS σ v1 bb 10)), (zmMk n a b r)) := by
  rw [b74_0]
  exact c_waitL hB hC hb 10 0 zmJ zmJ (by omega)
theorem m_waitsBy {d bb : Nat} {v1 : Int32} {n : Nat} {a : Nat → Nat → Int32} {b : Nat → Nat → Int64} {r : Nat → Nat → Option Nat} {σ : SV} (hB : StoB 0 σ) (hM : StoM a 0 1 64 65 127 136 0 σ) (hb : bb ≤ 120) : Den (d+3) 247 0 [.ref 94, .int (iN bb), .int v1, zmJ, zmJ] [] (zmMk n a b r) = some (some (.int (wtS σ v1 bb 10)), (zmMk n a b r)) := by
  rw [b247_0]
  exact m_waitS hB hM hb 10 0 (by omega)
def wtA (F : Nat → Int32) : Nat → Nat
  | 0 => 0
  | y + 1 => if F (wtA F y) < F (y + 1) then y + 1 else wtA F y
theorem wtA_le (F : Nat → Int32) (y : Nat) : wtA F y ≤ y := by
  induction y with
  | zero => exact Nat.le_refl _
  | succ y ih =>
    unfold wtA
    split
    · exact Nat.le_refl _
    · omega
theorem c_waitA {d : Nat} {v1 v2 : Int32} {n : Nat} {a : Nat → Nat → Int32} {b : Nat → Nat → Int64} {r : Nat → Nat → Option Nat} {σ : SV} (hB : StoB 0 σ) (hC : StoC a 16 0 σ) (k : Nat) : ∀ (y : Nat) (u6 : Value), y + k = 120 → Den (d+4) 114 56 [.ref 14,.int v1,.int v2,.int (iN (wtA (fun y => wtS σ v1 y 10) y)),.int (wtS σ v1 (wtA (fun y => wtS σ v1 y 10) y) 10),.int (iN (y + 1)),u6] [] (zmMk n a b r) = some (some (.int (iN (wtA (fun y => wtS σ v1 y 10) 120))), (zmMk n a b r)) := by
  induction k with
  | zero =>
    intro y u6 hy
    obtain rfl : y = 120 := by omega
    rw [b114_56, if_pos (by decide +kernel), b114_95]
  | succ k ih =>
    intro y u6 hy
    have hle := wtA_le (fun y => wtS σ v1 y 10) y
    have hs : wtA (fun y => wtS σ v1 y 10) (y + 1) = if wtS σ v1 (wtA (fun y => wtS σ v1 y 10) y) 10 < wtS σ v1 (y + 1) 10 then y + 1 else wtA (fun y => wtS σ v1 y 10) y := rfl
    rw [b114_56, if_neg (by rw [n_lt (by omega) (by omega)]; omega), b114_63, c_waitS hB hC (show y + 1 ≤ 120 by omega)]
    simp only [Option.bind_some, Option.toList_some, Option.toList_none, List.cons_append, List.nil_append, true_or, or_true, if_true, bI_if]
    rw [b114_73]
    by_cases h : wtS σ v1 (wtA (fun y => wtS σ v1 y 10) y) 10 < wtS σ v1 (y + 1) 10
    · rw [if_pos h] at hs
      have := ih (y + 1) (.int (wtS σ v1 (y + 1) 10)) (by omega)
      rw [hs] at this
      rw [if_pos h, b114_82, b114_89, n_add]
      exact this
    · rw [if_neg h] at hs
      have := ih (y + 1) (.int (wtS σ v1 (y + 1) 10)) (by omega)
      rw [hs] at this
      rw [if_neg h, b114_89, n_add]
      exact this
theorem m_waitA {d : Nat} {v1 v2 : Int32} {n : Nat} {a : Nat → Nat → Int32} {b : Nat → Nat → Int64} {r : Nat → Nat → Option Nat} {σ : SV} (hB : StoB 0 σ) (hM : StoM a 0 1 64 65 127 136 0 σ) (k : Nat) : ∀ (y : Nat), y + k = 120 → Den (d+4) 248 42 [.ref 94,.int v1,.int v2,.int (iN (wtA (fun y => wtS σ v1 y 10) y)),.int (iN (y + 1))] [] (zmMk n a b r) = some (some (.int (iN (wtA (fun y => wtS σ v1 y 10) 120))), (zmMk n a b r)) := by
  induction k with
  | zero =>
    intro y hy
    obtain rfl : y = 120 := by omega
    rw [b248_42, if_pos (by decide +kernel), b248_74]
  | succ k ih =>
    intro y hy
    have hle := wtA_le (fun y => wtS σ v1 y 10) y
    have hs : wtA (fun y => wtS σ v1 y 10) (y + 1) = if wtS σ v1 (wtA (fun y => wtS σ v1 y 10) y) 10 < wtS σ v1 (y + 1) 10 then y + 1 else wtA (fun y => wtS σ v1 y 10) y := rfl
    rw [b248_42, if_neg (by rw [n_lt (by omega) (by omega)]; omega), b248_49, m_waitsBy hB hM (show y + 1 ≤ 120 by omega)]
    simp only [Option.bind_some, Option.toList_some, Option.toList_none, List.cons_append, List.nil_append, true_or, or_true, if_true, bI_if]
    rw [b248_56, m_waitsBy hB hM (show wtA (fun y => wtS σ v1 y 10) y ≤ 120 by omega)]
    simp only [Option.bind_some, Option.toList_some, Option.toList_none, List.cons_append, List.nil_append, true_or, or_true, if_true, bI_if]
    rw [b248_62]
    have := ih (y + 1) (by omega)
    by_cases h : wtS σ v1 (wtA (fun y => wtS σ v1 y 10) y) 10 < wtS σ v1 (y + 1) 10
    · rw [if_pos h] at hs
      rw [hs] at this
      rw [if_pos h, b248_65, b248_68, n_add]
      exact this
    · rw [if_neg h] at hs
      rw [hs] at this
      rw [if_neg h, b248_68, n_add]
      exact this
def waitV (σ : SV) (v1 v2 : Int32) : Int32 := if inI v1 (iN 0) (iN 999) = true ∧ inI v2 (-1) (iN 120) = true then (if v2 = -1 then iN (wtA (fun y => wtS σ v1 y 10) 120) else wtS σ v1 v2.toNatClampNeg 10) else -1000000000
theorem c_wait {d : Nat} {n : Nat} {a : Nat → Nat → Int32} {b : Nat → Nat → Int64} {r : Nat → Nat → Option Nat} {σ : SV} {cl cl' : List Cls} {R R' : Nat → List Cls} {TL TS A : Nat} {TR : Nat → Nat} (h : (St a b r σ cl cl' R R' TL TS TR A)) {v1 v2 : Int32} : ∃ a' b', Den (d+5) 114 0 [.ref 14, .int v1, .int v2, zmJ, zmJ, zmJ, zmJ] [] (zmMk n a b r) = some (some (.int (waitV σ v1 v2)), zmMk n a' b' r) ∧ St a' b' r σ cl cl' R R' TL TS TR A := by
  obtain ⟨⟨n1, n8⟩, h16, h94, hs⟩ := h.n8
  unfold waitV
  by_cases g1 : inI v1 (iN 0) (iN 999) = true
  · by_cases g2 : inI v2 (-1) (iN 120) = true
    · refine ⟨a, b, ?_, h⟩
      by_cases g3 : v2 = -1
      · have e1 := c_waitA (d := d+1) (v2 := v2) h.1.1 h.2.1.2.2.1 120 (n := n) (v1 := v1) (b := b) (r := r) 0 zmJ (by omega)
        rw [if_pos ⟨g1, g2⟩, if_pos g3]
        simp only [b114_0, b114_8, b114_11, b114_18, b114_21, b114_25, b114_30, b114_39, b114_40, b114_51, c_within, Option.bind_some, Option.toList_some, Option.toList_none, List.cons_append, List.nil_append, true_or, or_true, if_true, bI_if, bI_if, g1, g2, g3, c_waitS h.1.1 h.2.1.2.2.1 (show 0 ≤ 120 by omega), if_true, if_false, Bool.false_eq_true, true_and, and_true, false_and, and_false, true_or, or_true, false_or, or_false, and_self, or_self, decide_true, decide_false, Bool.not_true, Bool.not_false, Bool.and_true, Bool.and_false, Bool.true_and, Bool.false_and, ite_self]
        rw [← e1, g3]
        rfl
      · obtain ⟨y, y1, rfl⟩ := inI_m1 (by omega) g2 g3
        simp only [b114_0, b114_8, b114_11, b114_18, b114_21, b114_25, b114_30, b114_39, b114_40, b114_51, c_within, Option.bind_some, Option.toList_some, Option.toList_none, List.cons_append, List.nil_append, true_or, or_true, if_true, bI_if, bI_if, g1, g2, g3, c_waitS h.1.1 h.2.1.2.2.1 y1, n_nat (show y < 2147483648 by omega), if_true, if_false, Bool.false_eq_true, true_and, and_true, false_and, and_false, true_or, or_true, false_or, or_false, and_self, or_self, decide_true, decide_false, Bool.not_true, Bool.not_false, Bool.and_true, Bool.and_false, Bool.true_and, Bool.false_and, ite_self]
    · refine ⟨a, b, ?_, h⟩
      simp only [b114_0, b114_8, b114_11, b114_18, b114_21, b114_25, b114_30, b114_39, b114_40, b114_51, h16, h94, hs, c_within, Option.bind_some, Option.toList_some, Option.toList_none, List.cons_append, List.nil_append, true_or, or_true, if_true, bI_if, bI_if, g1, g2, if_true, if_false, Bool.false_eq_true, true_and, and_true, false_and, and_false, true_or, or_true, false_or, or_false, and_self, or_self, decide_true, decide_false, Bool.not_true, Bool.not_false, Bool.and_true, Bool.and_false, Bool.true_and, Bool.false_and, ite_self]
  · refine ⟨a, b, ?_, h⟩
    simp only [b114_0, b114_8, b114_11, b114_18, b114_21, b114_25, b114_30, b114_39, b114_40, b114_51, h16, h94, hs, c_within, Option.bind_some, Option.toList_some, Option.toList_none, List.cons_append, List.nil_append, true_or, or_true, if_true, bI_if, bI_if, g1, if_true, if_false, Bool.false_eq_true, true_and, and_true, false_and, and_false, true_or, or_true, false_or, or_false, and_self, or_self, decide_true, decide_false, Bool.not_true, Bool.not_false, Bool.and_true, Bool.and_false, Bool.true_and, Bool.false_and, ite_self]
theorem m_wait {d : Nat} {n : Nat} {a : Nat → Nat → Int32} {b : Nat → Nat → Int64} {r : Nat → Nat → Option Nat} {σ : SV} {cl cl' : List Cls} {R R' : Nat → List Cls} {TL TS A : Nat} {TR : Nat → Nat} (h : (St a b r σ cl cl' R R' TL TS TR A)) {v1 v2 : Int32} : ∃ a' b', Den (d+5) 248 0 [.ref 94, .int v1, .int v2, zmJ, zmJ] [] (zmMk n a b r) = some (some (.int (waitV σ v1 v2)), zmMk n a' b' r) ∧ St a' b' r σ cl cl' R R' TL TS TR A := by
  obtain ⟨⟨n1, n8⟩, h16, h94, hs⟩ := h.n8
  unfold waitV
  by_cases g1 : inI v1 (iN 0) (iN 999) = true
  · by_cases g2 : inI v2 (-1) (iN 120) = true
    · refine ⟨a, b, ?_, h⟩
      by_cases g3 : v2 = -1
      · have e1 := m_waitA (d := d+1) (v2 := v2) h.1.1 h.2.2.1.1 120 (n := n) (v1 := v1) (b := b) (r := r) 0 (by omega)
        rw [if_pos ⟨g1, g2⟩, if_pos g3]
        simp only [b248_0, b248_8, b248_11, b248_18, b248_21, b248_25, b248_30, b248_36, b248_37, m_in, Option.bind_some, Option.toList_some, Option.toList_none, List.cons_append, List.nil_append, true_or, or_true, if_true, bI_if, bI_if, g1, g2, g3, m_waitsBy h.1.1 h.2.2.1.1 (show 0 ≤ 120 by omega), if_true, if_false, Bool.false_eq_true, true_and, and_true, false_and, and_false, true_or, or_true, false_or, or_false, and_self, or_self, decide_true, decide_false, Bool.not_true, Bool.not_false, Bool.and_true, Bool.and_false, Bool.true_and, Bool.false_and, ite_self]
        rw [← e1, g3]
        rfl
      · obtain ⟨y, y1, rfl⟩ := inI_m1 (by omega) g2 g3
        simp only [b248_0, b248_8, b248_11, b248_18, b248_21, b248_25, b248_30, b248_36, b248_37, m_in, Option.bind_some, Option.toList_some, Option.toList_none, List.cons_append, List.nil_append, true_or, or_true, if_true, bI_if, bI_if, g1, g2, g3, m_waitsBy h.1.1 h.2.2.1.1 y1, n_nat (show y < 2147483648 by omega), if_true, if_false, Bool.false_eq_true, true_and, and_true, false_and, and_false, true_or, or_true, false_or, or_false, and_self, or_self, decide_true, decide_false, Bool.not_true, Bool.not_false, Bool.and_true, Bool.and_false, Bool.true_and, Bool.false_and, ite_self]
    · refine ⟨a, b, ?_, h⟩
      simp only [b248_0, b248_8, b248_11, b248_18, b248_21, b248_25, b248_30, b248_36, b248_37, h16, h94, hs, m_in, Option.bind_some, Option.toList_some, Option.toList_none, List.cons_append, List.nil_append, true_or, or_true, if_true, bI_if, bI_if, g1, g2, if_true, if_false, Bool.false_eq_true, true_and, and_true, false_and, and_false, true_or, or_true, false_or, or_false, and_self, or_self, decide_true, decide_false, Bool.not_true, Bool.not_false, Bool.and_true, Bool.and_false, Bool.true_and, Bool.false_and, ite_self]
  · refine ⟨a, b, ?_, h⟩
    simp only [b248_0, b248_8, b248_11, b248_18, b248_21, b248_25, b248_30, b248_36, b248_37, h16, h94, hs, m_in, Option.bind_some, Option.toList_some, Option.toList_none, List.cons_append, List.nil_append, true_or, or_true, if_true, bI_if, bI_if, g1, if_true, if_false, Bool.false_eq_true, true_and, and_true, false_and, and_false, true_or, or_true, false_or, or_false, and_self, or_self, decide_true, decide_false, Bool.not_true, Bool.not_false, Bool.and_true, Bool.and_false, Bool.true_and, Bool.false_and, ite_self]
