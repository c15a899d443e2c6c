/-! ===== questions: log, BOOK, corner ===== -/
theorem lay19 : zmLay 19 = (20, 4) := by decide +kernel
theorem c_log {d : Nat} {n : Nat} {a : Nat → Nat → Int32} {b : Nat → Nat → Int64} {r : Nat → Nat → Option Nat} {σ : SV} {cl cl' : List Cls} {R R' : Nat → List Cls} {TL TS A : Nat} {TR : Nat → Nat} (h : (St a b r σ cl cl' R R' TL TS TR A)) {v1 : Int32} : Den (d+3) 117 0 [.ref 14, .int v1] [] (zmMk n a b r) = some (some (.int (tldL (σ 0 7) (σ 0 6) (σ 13) (σ 14) v1)), (zmMk n a b r)) := by
  rw [b117_0, c_told h.1.2.2.2.2.2.2.1 h.1.1.1.2 h.2.1.2.2.2.2.2.2.2.2.1]
  simp only [Option.bind_some, Option.toList_some, Option.toList_none, List.cons_append, List.nil_append, true_or, or_true, if_true, bI_if, b117_8]
theorem m_logS {d : Nat} {n : Nat} {a : Nat → Nat → Int32} {b : Nat → Nat → Int64} {r : Nat → Nat → Option Nat} {σ : SV} {cl cl' : List Cls} {R R' : Nat → List Cls} {TL TS A : Nat} {TR : Nat → Nat} (h : (St a b r σ cl cl' R R' TL TS TR A)) {v1 : Int32} : Den (d+3) 254 0 [.ref 94, .int v1] [] (zmMk n a b r) = some (some (.int (tldL (σ 0 7) (σ 0 6) (σ 13) (σ 14) v1)), (zmMk n a b r)) := m_log (d := d+1) h.1.2.2.2.2.2.2.1 h.1.1.1.2 h.2.2.1.2.2.2.2.2.1
def bookV (σ : SV) (v1 : Int32) : Int32 := if inI v1 (iN 0) (iN 3) = true then iN (σ 9 v1.toNatClampNeg) else -1
theorem c_book {d : Nat} {n : Nat} {a : Nat → Nat → Int32} {b : Nat → Nat → Int64} {r : Nat → Nat → Option Nat} {σ : SV} {cl cl' : List Cls} {R R' : Nat → List Cls} {TL TS A : Nat} {TR : Nat → Nat} (h : (St a b r σ cl cl' R R' TL TS TR A)) {v1 : Int32} : ∃ a' b', Den (d+3) 120 0 [.ref 14, .int v1] [] (zmMk n a b r) = some (some (.int (bookV σ v1)), zmMk n a' b' r) ∧ St a' b' r σ cl cl' R R' TL TS TR A := by
  obtain ⟨⟨n1, n8⟩, h16, h94, hs⟩ := h.n8
  unfold bookV
  by_cases g1 : inI v1 (iN 0) (iN 3) = true
  · obtain ⟨k, -, k2, rfl⟩ := inI_ex (by decide) (by decide) g1
    have e : a 19 k = iN (σ 9 k) := h.2.1.2.2.1.2.2.2.2 k (by omega)
    refine ⟨a, b, ?_, h⟩
    simp only [b120_0, b120_6, b120_9, b120_20, b120_23, b120_24, c_within, Option.bind_some, Option.toList_some, Option.toList_none, List.cons_append, List.nil_append, true_or, or_true, if_true, bI_if, bI_if, g1, c_item lay19 (show 19 ≠ 0 by omega) (show 19 < 147 by omega) (show 4 < 2147483648 by omega), itV_n (show k < 4 by omega) (show 4 < 2147483648 by omega), e, n_nat (show k < 2147483648 by omega), if_true, if_false, Bool.false_eq_true, true_and, and_true, false_and, and_false, true_or, or_true, false_or, or_false, and_self, or_self, decide_true, decide_false, Bool.not_true, Bool.not_false, Bool.and_true, Bool.and_false, Bool.true_and, Bool.false_and, ite_self]
  · refine ⟨a, b, ?_, h⟩
    simp only [b120_0, b120_6, b120_9, b120_20, b120_23, b120_24, h16, h94, hs, c_within, Option.bind_some, Option.toList_some, Option.toList_none, List.cons_append, List.nil_append, true_or, or_true, if_true, bI_if, bI_if, g1, if_true, if_false, Bool.false_eq_true, true_and, and_true, false_and, and_false, true_or, or_true, false_or, or_false, and_self, or_self, decide_true, decide_false, Bool.not_true, Bool.not_false, Bool.and_true, Bool.and_false, Bool.true_and, Bool.false_and, ite_self]
theorem m_book {d : Nat} {n : Nat} {a : Nat → Nat → Int32} {b : Nat → Nat → Int64} {r : Nat → Nat → Option Nat} {σ : SV} {cl cl' : List Cls} {R R' : Nat → List Cls} {TL TS A : Nat} {TR : Nat → Nat} (h : (St a b r σ cl cl' R R' TL TS TR A)) {v1 : Int32} : ∃ a' b', Den (d+3) 258 0 [.ref 94, .int v1] [] (zmMk n a b r) = some (some (.int (bookV σ v1)), zmMk n a' b' r) ∧ St a' b' r σ cl cl' R R' TL TS TR A := by
  obtain ⟨⟨n1, n8⟩, h16, h94, hs⟩ := h.n8
  unfold bookV
  by_cases g1 : inI v1 (iN 0) (iN 3) = true
  · obtain ⟨k, -, k2, rfl⟩ := inI_ex (by decide) (by decide) g1
    have e : a 136 k = iN (σ 9 k) := h.2.2.1.1.2.2.2.2.2.2 k (by omega)
    have hin : zmIn (iN k) 4 = true := by rw [n_in (by omega)]; exact decide_eq_true (by omega)
    refine ⟨a, b, ?_, h⟩
    simp only [b258_0, b258_6, b258_9, b258_18, b258_19, b258_15, m_in, Option.bind_some, Option.toList_some, Option.toList_none, List.cons_append, List.nil_append, true_or, or_true, if_true, bI_if, bI_if, g1, hin, e, n_nat (show k < 2147483648 by omega), if_true, if_false, Bool.false_eq_true, true_and, and_true, false_and, and_false, true_or, or_true, false_or, or_false, and_self, or_self, decide_true, decide_false, Bool.not_true, Bool.not_false, Bool.and_true, Bool.and_false, Bool.true_and, Bool.false_and, ite_self]
  · refine ⟨a, b, ?_, h⟩
    simp only [b258_0, b258_6, b258_9, b258_18, b258_19, b258_15, h16, h94, hs, m_in, Option.bind_some, Option.toList_some, Option.toList_none, List.cons_append, List.nil_append, true_or, or_true, if_true, bI_if, bI_if, g1, if_true, if_false, Bool.false_eq_true, true_and, and_true, false_and, and_false, true_or, or_true, false_or, or_false, and_self, or_self, decide_true, decide_false, Bool.not_true, Bool.not_false, Bool.and_true, Bool.and_false, Bool.true_and, Bool.false_and, ite_self]
def cfB (F : Nat → Int64) : Nat → Nat
  | 0 => 1
  | j + 1 => if j + 2 ≠ 4 ∧ F (cfB F j) < F (j + 2) then j + 2 else cfB F j
theorem cfB_le (F : Nat → Int64) (j : Nat) : cfB F j ≤ j + 1 := by
  induction j with
  | zero => exact Nat.le_refl _
  | succ j ih =>
    unfold cfB
    split <;> omega
def UV (σ : SV) (cl : List Cls) (cr p act : Nat) : Int64 := UU (QS σ cl) (σ 0 5) cr act (σ 0 0) 0 p
theorem isMv_n {k : Nat} (h : k ≤ 7) (h1 : 1 ≤ k) : isMv (iN k) = !decide (k = 4) := by
  rcases (by omega : k = 1 ∨ k = 2 ∨ k = 3 ∨ k = 4 ∨ k = 5 ∨ k = 6 ∨ k = 7) with rfl | rfl | rfl | rfl | rfl | rfl | rfl <;> decide +kernel
theorem c_uns {d cr p act : Nat} {n : Nat} {a : Nat → Nat → Int32} {b : Nat → Nat → Int64} {r : Nat → Nat → Option Nat} {σ : SV} {cl cl' : List Cls} {R R' : Nat → List Cls} {TL TS A : Nat} {TR : Nat → Nat} (h : (St a b r σ cl cl' R R' TL TS TR A)) (hcr : cr < 120) (hp : p < 4840) (ha : act < 8 ∧ act ≠ 4) : ∃ a' b', Den (d+32) 7 0 [.ref 52, .int (iN 0), .int (iN p), .int (iN 0), .int (iN act), .int (iN cr), zmJ, zmJ, zmJ, zmJ, zmJ, zmJ, zmJ, zmJ, zmJ, zmJ] [] (zmMk n a b r) = some (some (.long (UV σ cl cr p act)), zmMk n a' b' r) ∧ (St a' b' r σ cl cl' R R' TL TS TR A) := by
  have n8 := h.1.1.1.2
  obtain ⟨a1, b1, e1, k1, f1, l1⟩ := c_unsee (n := n) (N := σ 0 0) (B := σ 0 5) (r := r) (Q := QS σ cl) ha hcr (σ 0 0) n8 0 0 p _ _ _ _ _ false a b (by omega) rfl rfl rfl rfl rfl hp h.envC h.2.2.2.1 h.2.1.2.1
  exact ⟨a1, b1, Den_depth (by omega) e1, h.qB k1 f1 l1⟩
theorem c_cornL {d cr p : Nat} {v1 v2 v4 : Int32} {n : Nat} {r : Nat → Nat → Option Nat} {σ : SV} {cl cl' : List Cls} {R R' : Nat → List Cls} {TL TS A : Nat} {TR : Nat → Nat} (hcr : cr < 120) (hp : p < 4840) (k : Nat) : ∀ (j : Nat) (u10 : Value) {a : Nat → Nat → Int32} {b : Nat → Nat → Int64}, j + k = 6 → (St a b r σ cl cl' R R' TL TS TR A) → ∃ a' b', Den (d+33) 105 90 [.ref 14,.int v1,.int v2,.int (iN cr),.int v4,.int (iN p),.int (iN (cfB (UV σ cl cr p) j)),.long (UV σ cl cr p (cfB (UV σ cl cr p) j)),zmJ,.int (iN (j + 2)),u10,zmJ] [] (zmMk n a b r) = some (some (.long (Int32.toInt64 (iN (cfB (UV σ cl cr p) 6)))), zmMk n a' b' r) ∧ St a' b' r σ cl cl' R R' TL TS TR A := by
  induction k with
  | zero =>
    intro j u10 a b hj h
    obtain rfl : j = 6 := by omega
    refine ⟨a, b, ?_, h⟩
    rw [b105_90, if_pos (by decide +kernel), b105_148]
  | succ k ih =>
    intro j u10 a b hj h
    have hs : cfB (UV σ cl cr p) (j + 1) = if j + 2 ≠ 4 ∧ UV σ cl cr p (cfB (UV σ cl cr p) j) < UV σ cl cr p (j + 2) then j + 2 else cfB (UV σ cl cr p) j := rfl
    rw [b105_90, if_neg (by rw [n_lt (by omega) (by omega)]; omega), b105_97, c_isMove, isMv_n (by omega) (by omega)]
    simp only [Option.bind_some, Option.toList_some, Option.toList_none, List.cons_append, List.nil_append, true_or, or_true, if_true, bI_if]
    rw [b105_102, bI_if]
    by_cases h4 : j + 2 = 4
    · rw [if_neg (fun z => z.1 h4)] at hs
      obtain ⟨a2, b2, e2, h2⟩ := ih (j + 1) (.long (UV σ cl cr p (cfB (UV σ cl cr p) j))) (by omega) h
      rw [hs] at e2
      refine ⟨a2, b2, ?_, h2⟩
      rw [decide_eq_true h4, if_neg (by decide), b105_122, b105_124]
      simp only [cmp_pos]
      rw [if_neg (l_irr _), b105_142, n_add]
      exact e2
    · obtain ⟨a1, b1, e1, h1⟩ := c_uns (d := d) (n := n) h hcr hp (act := j + 2) (by omega)
      rw [decide_eq_false h4, if_pos (show (!false) = true from rfl), b105_105, e1]
      simp only [Option.bind_some, Option.toList_some, Option.toList_none, List.cons_append, List.nil_append, true_or, or_true, if_true, bI_if]
      rw [b105_119, b105_124]
      simp only [cmp_pos]
      obtain ⟨a2, b2, e2, h2⟩ := ih (j + 1) (.long (UV σ cl cr p (j + 2))) (by omega) h1
      by_cases hlt : UV σ cl cr p (cfB (UV σ cl cr p) j) < UV σ cl cr p (j + 2)
      · rw [if_pos ⟨h4, hlt⟩] at hs
        rw [hs] at e2
        refine ⟨a2, b2, ?_, h2⟩
        rw [if_pos hlt, b105_134, b105_142, n_add]
        exact e2
      · rw [if_neg (fun z => hlt z.2)] at hs
        rw [hs] at e2
        refine ⟨a2, b2, ?_, h2⟩
        rw [if_neg hlt, b105_142, n_add]
        exact e2
def tld56 (a : Nat → Nat → Int32) (cr : Nat) : Prop := tldM a = a ∧ a 94 56 = iN cr
theorem m_crn {d cr p act : Nat} {n : Nat} {a : Nat → Nat → Int32} {b : Nat → Nat → Int64} {r : Nat → Nat → Option Nat} {σ : SV} {cl cl' : List Cls} {R R' : Nat → List Cls} {TL TS A : Nat} {TR : Nat → Nat} (h : (St a b r σ cl cl' R R' TL TS TR A)) (ht : tld56 a cr) (hcr : cr < 120) (hp : p < 4840) (ha : act < 8 ∧ act ≠ 4) (ha0 : act ≠ 0) : ∃ a' b', Den (d+32) 237 0 [.ref 94, .int (iN p), .int (iN act), zmJ, zmJ] [] (zmMk n a b r) = some (some (.long (UV σ cl cr p act)), zmMk n a' b' r) ∧ (St a' b' r σ cl cl' R R' TL TS TR A) ∧ tld56 a' cr := by
  obtain ⟨ht, h56⟩ := ht
  have h39 : a 94 39 = bI false := ((congrFun (congrFun ht 94) 39).symm).trans (tldM_39 a)
  have h35 : a 94 3 = a 94 35 := by
    have e := congrFun (congrFun ht 94) 35
    unfold tldM at e
    rw [uI_at, if_neg (by omega), uI_at, if_pos ⟨rfl, rfl⟩] at e
    exact e
  obtain ⟨a1, b1, e1, o1⟩ := m_cornerBy (d := d+14) (n := n) (b := b) (r := r) rfl rfl hp ha ha0 hcr (h.eM (n := n) ht) h39 h56
  refine ⟨a1, b1, e1, h.qm o1.q (fun k hk => o1.2.2.1 k (by omega) (by omega) (by omega) (by omega) (by omega) (by omega)), tldM_fix2 ?_ ?_, ?_⟩
  · rw [o1.2.1 3 (by omega) (by omega) (by omega) (by omega) (by omega), o1.2.1 35 (by omega) (by omega) (by omega) (by omega) (by omega)]
    exact h35
  · rw [o1.2.1 39 (by omega) (by omega) (by omega) (by omega) (by omega)]
    exact h39
  · rw [o1.2.1 56 (by omega) (by omega) (by omega) (by omega) (by omega)]
    exact h56
theorem m_cornL {d cr p : Nat} {v1 v2 v3 v4 : Int32} {n : Nat} {r : Nat → Nat → Option Nat} {σ : SV} {cl cl' : List Cls} {R R' : Nat → List Cls} {TL TS A : Nat} {TR : Nat → Nat} (hcr : cr < 120) (hp : p < 4840) (k : Nat) : ∀ (j : Nat) (u10 : Value) {a : Nat → Nat → Int32} {b : Nat → Nat → Int64}, j + k = 6 → (St a b r σ cl cl' R R' TL TS TR A) → tld56 a cr → ∃ a' b', Den (d+33) 238 84 [.ref 94,.int v1,.int v2,.int v3,.int v4,.int (iN p),.int (iN (cfB (UV σ cl cr p) j)),.long (UV σ cl cr p (cfB (UV σ cl cr p) j)),zmJ,.int (iN (j + 2)),u10,zmJ] [] (zmMk n a b r) = some (some (.long (Int32.toInt64 (iN (cfB (UV σ cl cr p) 6)))), zmMk n a' b' r) ∧ St a' b' r σ cl cl' R R' TL TS TR A := by
  induction k with
  | zero =>
    intro j u10 a b hj h ht
    obtain rfl : j = 6 := by omega
    refine ⟨a, b, ?_, h⟩
    rw [b238_84, if_neg (by decide +kernel), b238_137]
  | succ k ih =>
    intro j u10 a b hj h ht
    have hs : cfB (UV σ cl cr p) (j + 1) = if j + 2 ≠ 4 ∧ UV σ cl cr p (cfB (UV σ cl cr p) j) < UV σ cl cr p (j + 2) then j + 2 else cfB (UV σ cl cr p) j := rfl
    rw [b238_84, if_pos (by rw [n_lt (by omega) (by omega)]; omega), b238_91, m_isAction, isAc_mv (eq_n (show j + 2 ≠ 0 by omega) (by omega) (by omega)), isMv_n (by omega) (by omega)]
    simp only [Option.bind_some, Option.toList_some, Option.toList_none, List.cons_append, List.nil_append, true_or, or_true, if_true, bI_if]
    rw [b238_96, bI_if]
    by_cases h4 : j + 2 = 4
    · rw [if_neg (fun z => z.1 h4)] at hs
      obtain ⟨a2, b2, e2, h2⟩ := ih (j + 1) u10 (by omega) h ht
      rw [hs] at e2
      refine ⟨a2, b2, ?_, h2⟩
      rw [decide_eq_true h4, if_neg (by decide), b238_99, b238_131, n_add]
      exact e2
    · obtain ⟨a1, b1, e1, h1, ht1⟩ := m_crn (d := d) (n := n) h ht hcr hp (act := j + 2) (by omega) (by omega)
      rw [decide_eq_false h4, if_pos (show (!false) = true from rfl), b238_102, e1]
      simp only [Option.bind_some, Option.toList_some, Option.toList_none, List.cons_append, List.nil_append, true_or, or_true, if_true, bI_if]
      rw [b238_110]
      simp only [cmp_pos]
      obtain ⟨a2, b2, e2, h2⟩ := ih (j + 1) (.long (UV σ cl cr p (j + 2))) (by omega) h1 ht1
      by_cases hlt : UV σ cl cr p (cfB (UV σ cl cr p) j) < UV σ cl cr p (j + 2)
      · rw [if_pos ⟨h4, hlt⟩] at hs
        rw [hs] at e2
        refine ⟨a2, b2, ?_, h2⟩
        rw [if_pos hlt, b238_123, b238_131, n_add]
        exact e2
      · rw [if_neg (fun z => hlt z.2)] at hs
        rw [hs] at e2
        refine ⟨a2, b2, ?_, h2⟩
        rw [if_neg hlt, b238_120, b238_131, n_add]
        exact e2
def cornV (σ : SV) (cl : List Cls) (v1 v2 v3 v4 : Int32) : Int64 := if isSt v1 v2 = true ∧ inI v3 (iN 0) (iN 119) = true ∧ v3 < v1 ∧ isAc v4 = true then (if v4 = iN 0 then Int32.toInt64 (iN (cfB (UV σ cl v3.toNatClampNeg (plc v1.toNatClampNeg v2.toNatClampNeg 0 0)) 6)) else UV σ cl v3.toNatClampNeg (plc v1.toNatClampNeg v2.toNatClampNeg 0 0) v4.toNatClampNeg) else -2000000000000000000
theorem c_corner {d : Nat} {n : Nat} {a : Nat → Nat → Int32} {b : Nat → Nat → Int64} {r : Nat → Nat → Option Nat} {σ : SV} {cl cl' : List Cls} {R R' : Nat → List Cls} {TL TS A : Nat} {TR : Nat → Nat} (h : (St a b r σ cl cl' R R' TL TS TR A)) {v1 v2 v3 v4 : Int32} : ∃ a' b', Den (d+34) 105 0 [.ref 14, .int v1, .int v2, .int v3, .int v4, zmJ, zmJ, zmJ, zmJ, zmJ, zmJ, zmJ] [] (zmMk n a b r) = some (some (.long (cornV σ cl v1 v2 v3 v4)), zmMk n a' b' r) ∧ St a' b' r σ cl cl' R R' TL TS TR A := by
  obtain ⟨⟨n1, n8⟩, h16, h94, hs⟩ := h.n8
  unfold cornV
  by_cases g1 : isSt v1 v2 = true
  · by_cases g2 : inI v3 (iN 0) (iN 119) = true
    · by_cases g3 : v3 < v1
      · obtain ⟨i, j, i1, j1, rfl, rfl⟩ := isSt_ex g1
        obtain ⟨cr, -, c2, rfl⟩ := inI_ex (by decide) (by decide) g2
        have hp : plc i j 0 0 < 4840 := plc_ltB i1 j1 false false
        have hcr : cr < 120 := by omega
        have cp : ∀ d' (a : Nat → Nat → Int32), Den (d') 137 0 [.int (iN i), .int (iN j), .int (iN 0), .int (iN 0)] [] (zmMk n a b r) = some (some (.int (iN (plc i j 0 0))), (zmMk n a b r)) := fun d' a => c_placeOf (s := false) (u := false)
        by_cases g0 : v4 = iN 0
        · obtain ⟨a1, b1, e1, h1⟩ := c_uns (d := d+1) (n := n) h hcr hp (act := 1) (by omega)
          obtain ⟨a2, b2, e2, h2⟩ := c_cornL (d := d+1) (v1 := iN i) (v2 := iN j) (v4 := v4) (n := n) hcr hp 6 0 zmJ (by omega) h1
          refine ⟨a2, b2, ?_, h2⟩
          have e2' : Den (d+34) 105 90 [.ref 14,.int (iN i),.int (iN j),.int (iN cr),.int v4,.int (iN (plc i j 0 0)),.int (iN 1),.long (UV σ cl cr (plc i j 0 0) 1),zmJ,.int (iN 2),zmJ,zmJ] [] (zmMk n a1 b1 r) = _ := e2
          rw [if_pos ⟨g1, g2, g3, by rw [g0]; exact isAc_0⟩, if_pos g0]
          rw [g0] at e2' ⊢
          simp only [b105_0, b105_5, b105_8, b105_15, b105_18, b105_23, b105_28, b105_33, b105_36, b105_40, b105_47, b105_69, b105_85, c_within, c_isState, c_isMove, Option.bind_some, Option.toList_some, Option.toList_none, List.cons_append, List.nil_append, true_or, or_true, if_true, bI_if, bI_if, g1, g2, g3, cp, e1, e2', n_nat (show i < 2147483648 by omega), n_nat (show j < 2147483648 by omega), n_nat (show cr < 2147483648 by omega), if_true, if_false, Bool.false_eq_true, true_and, and_true, false_and, and_false, true_or, or_true, false_or, or_false, and_self, or_self, decide_true, decide_false, Bool.not_true, Bool.not_false, Bool.and_true, Bool.and_false, Bool.true_and, Bool.false_and, ite_self]
        · have g4 := isAc_mv g0
          by_cases g5 : isMv v4 = true
          · obtain ⟨k, k1, k2, k3, rfl⟩ := isMv_ex g5
            obtain ⟨a1, b1, e1, h1⟩ := c_uns (d := d+1) (n := n) h hcr hp (act := k) (by omega)
            refine ⟨a1, b1, ?_, h1⟩
            rw [if_pos ⟨g1, g2, g3, g4.trans g5⟩, if_neg g0]
            simp only [b105_0, b105_5, b105_8, b105_15, b105_18, b105_23, b105_28, b105_33, b105_36, b105_40, b105_47, b105_54, b105_68, c_within, c_isState, c_isMove, Option.bind_some, Option.toList_some, Option.toList_none, List.cons_append, List.nil_append, true_or, or_true, if_true, bI_if, bI_if, g0, g1, g2, g3, g5, cp, e1, n_nat (show i < 2147483648 by omega), n_nat (show j < 2147483648 by omega), n_nat (show cr < 2147483648 by omega), n_nat (show k < 2147483648 by omega), if_true, if_false, Bool.false_eq_true, true_and, and_true, false_and, and_false, true_or, or_true, false_or, or_false, and_self, or_self, decide_true, decide_false, Bool.not_true, Bool.not_false, Bool.and_true, Bool.and_false, Bool.true_and, Bool.false_and, ite_self]
          · refine ⟨a, b, ?_, h⟩
            rw [if_neg (fun z => g5 (g4.symm.trans z.2.2.2))]
            rw [Bool.not_eq_true] at g5
            simp only [b105_0, b105_5, b105_8, b105_15, b105_18, b105_23, b105_28, b105_33, b105_36, c_within, c_isState, c_isMove, Option.bind_some, Option.toList_some, Option.toList_none, List.cons_append, List.nil_append, true_or, or_true, if_true, bI_if, bI_if, g0, g1, g2, g3, g5, if_true, if_false, Bool.false_eq_true, true_and, and_true, false_and, and_false, true_or, or_true, false_or, or_false, and_self, or_self, decide_true, decide_false, Bool.not_true, Bool.not_false, Bool.and_true, Bool.and_false, Bool.true_and, Bool.false_and, ite_self]
      · refine ⟨a, b, ?_, h⟩
        simp only [b105_0, b105_5, b105_8, b105_15, b105_18, b105_23, b105_28, b105_33, b105_36, h16, h94, hs, c_within, c_isState, c_isMove, Option.bind_some, Option.toList_some, Option.toList_none, List.cons_append, List.nil_append, true_or, or_true, if_true, bI_if, bI_if, g1, g2, g3, if_true, if_false, Bool.false_eq_true, true_and, and_true, false_and, and_false, true_or, or_true, false_or, or_false, and_self, or_self, decide_true, decide_false, Bool.not_true, Bool.not_false, Bool.and_true, Bool.and_false, Bool.true_and, Bool.false_and, ite_self]
    · refine ⟨a, b, ?_, h⟩
      simp only [b105_0, b105_5, b105_8, b105_15, b105_18, b105_23, b105_28, b105_33, b105_36, h16, h94, hs, c_within, c_isState, c_isMove, Option.bind_some, Option.toList_some, Option.toList_none, List.cons_append, List.nil_append, true_or, or_true, if_true, bI_if, bI_if, g1, g2, if_true, if_false, Bool.false_eq_true, true_and, and_true, false_and, and_false, true_or, or_true, false_or, or_false, and_self, or_self, decide_true, decide_false, Bool.not_true, Bool.not_false, Bool.and_true, Bool.and_false, Bool.true_and, Bool.false_and, ite_self]
  · refine ⟨a, b, ?_, h⟩
    simp only [b105_0, b105_5, b105_8, b105_15, b105_18, b105_23, b105_28, b105_33, b105_36, h16, h94, hs, c_within, c_isState, c_isMove, Option.bind_some, Option.toList_some, Option.toList_none, List.cons_append, List.nil_append, true_or, or_true, if_true, bI_if, bI_if, g1, if_true, if_false, Bool.false_eq_true, true_and, and_true, false_and, and_false, true_or, or_true, false_or, or_false, and_self, or_self, decide_true, decide_false, Bool.not_true, Bool.not_false, Bool.and_true, Bool.and_false, Bool.true_and, Bool.false_and, ite_self]
theorem m_corner {d : Nat} {n : Nat} {a : Nat → Nat → Int32} {b : Nat → Nat → Int64} {r : Nat → Nat → Option Nat} {σ : SV} {cl cl' : List Cls} {R R' : Nat → List Cls} {TL TS A : Nat} {TR : Nat → Nat} (h : (St a b r σ cl cl' R R' TL TS TR A)) {v1 v2 v3 v4 : Int32} : ∃ a' b', Den (d+34) 238 0 [.ref 94, .int v1, .int v2, .int v3, .int v4, zmJ, zmJ, zmJ, zmJ, zmJ, zmJ, zmJ] [] (zmMk n a b r) = some (some (.long (cornV σ cl v1 v2 v3 v4)), zmMk n a' b' r) ∧ St a' b' r σ cl cl' R R' TL TS TR A := by
  obtain ⟨⟨n1, n8⟩, h16, h94, hs⟩ := h.n8
  unfold cornV
  by_cases g1 : isSt v1 v2 = true
  · by_cases g2 : inI v3 (iN 0) (iN 119) = true
    · by_cases g3 : v3 < v1
      · by_cases g4 : isAc v4 = true
        · obtain ⟨i, j, i1, j1, rfl, rfl⟩ := isSt_ex g1
          obtain ⟨cr, -, c2, rfl⟩ := inI_ex (by decide) (by decide) g2
          have hp : plc i j 0 0 < 4840 := plc_ltB i1 j1 false false
          have hcr : cr < 120 := by omega
          have g9 : inI (iN 0) (iN 0) (iN (σ 0 0)) = true := (inI_n (by omega) (by omega) (by omega)).trans (by rw [decide_eq_true (by omega), decide_eq_true (by omega)]; rfl)
          have h0 : (St (uI (tldM a) 94 56 (iN cr)) b r σ cl cl' R R' TL TS TR A) := h.tld.put (by omega)
          have ht0 : tld56 (uI (tldM a) 94 56 (iN cr)) cr := ⟨tldM_fix2 (by
            rw [uI_at, if_neg (by omega), uI_at, if_neg (by omega)]
            unfold tldM
            rw [uI_at, if_neg (by omega), uI_at, if_neg (by omega), uI_at, if_neg (by omega), uI_at, if_pos ⟨rfl, rfl⟩]) (by
            rw [uI_at, if_neg (by omega)]
            exact tldM_39 a), by rw [uI_at, if_pos ⟨rfl, rfl⟩]⟩
          by_cases g0 : v4 = iN 0
          · obtain ⟨a1, b1, e1, h1, ht1⟩ := m_crn (d := d+1) (n := n) h0 ht0 hcr hp (act := 1) (by omega) (by omega)
            obtain ⟨a2, b2, e2, h2⟩ := m_cornL (d := d+1) (v1 := iN i) (v2 := iN j) (v3 := iN cr) (v4 := v4) (n := n) hcr hp 6 0 zmJ (by omega) h1 ht1
            refine ⟨a2, b2, ?_, h2⟩
            have e2' : Den (d+34) 238 84 [.ref 94,.int (iN i),.int (iN j),.int (iN cr),.int v4,.int (iN (plc i j 0 0)),.int (iN 1),.long (UV σ cl cr (plc i j 0 0) 1),zmJ,.int (iN 2),zmJ,zmJ] [] (zmMk n a1 b1 r) = _ := e2
            rw [if_pos ⟨g1, g2, g3, g4⟩, if_pos g0]
            rw [g0] at e2' ⊢
            simp only [b238_0, b238_7, b238_10, b238_17, b238_20, b238_25, b238_30, b238_33, b238_37, b238_41, b238_53, b238_69, b238_79, m_in, m_isState h94, m_isAction, isAc_0, m_asTold, m_stateOf, Option.bind_some, Option.toList_some, Option.toList_none, List.cons_append, List.nil_append, true_or, or_true, if_true, bI_if, bI_if, g1, g2, g3, g9, show (iN 0 < iN 0) = False from by decide +kernel, e1, e2', n_nat (show i < 2147483648 by omega), n_nat (show j < 2147483648 by omega), n_nat (show cr < 2147483648 by omega), if_true, if_false, Bool.false_eq_true, true_and, and_true, false_and, and_false, true_or, or_true, false_or, or_false, and_self, or_self, decide_true, decide_false, Bool.not_true, Bool.not_false, Bool.and_true, Bool.and_false, Bool.true_and, Bool.false_and, ite_self]
          · have g5 := (isAc_mv g0).symm.trans g4
            obtain ⟨k, k1, k2, k3, rfl⟩ := isMv_ex g5
            obtain ⟨a1, b1, e1, h1, -⟩ := m_crn (d := d+1) (n := n) h0 ht0 hcr hp (act := k) (by omega) (by omega)
            refine ⟨a1, b1, ?_, h1⟩
            rw [if_pos ⟨g1, g2, g3, g4⟩, if_neg g0]
            simp only [b238_0, b238_7, b238_10, b238_17, b238_20, b238_25, b238_30, b238_33, b238_37, b238_41, b238_53, b238_60, b238_68, m_in, m_isState h94, m_isAction, m_asTold, m_stateOf, Option.bind_some, Option.toList_some, Option.toList_none, List.cons_append, List.nil_append, true_or, or_true, if_true, bI_if, bI_if, g1, g2, g3, g4, g9, show (iN 0 < iN k) = True from by rw [n_lt (by omega) (by omega)]; exact eq_true (by omega), e1, n_nat (show i < 2147483648 by omega), n_nat (show j < 2147483648 by omega), n_nat (show cr < 2147483648 by omega), n_nat (show k < 2147483648 by omega), if_true, if_false, Bool.false_eq_true, true_and, and_true, false_and, and_false, true_or, or_true, false_or, or_false, and_self, or_self, decide_true, decide_false, Bool.not_true, Bool.not_false, Bool.and_true, Bool.and_false, Bool.true_and, Bool.false_and, ite_self]
        · refine ⟨a, b, ?_, h⟩
          simp only [b238_0, b238_7, b238_10, b238_17, b238_20, b238_25, b238_30, b238_33, h16, h94, hs, m_in, m_isState h94, m_isAction, show inI (iN 0) (iN 0) (iN (σ 0 0)) = true from (inI_n (by omega) (by omega) (by omega)).trans (by rw [decide_eq_true (by omega), decide_eq_true (by omega)]; rfl), Option.bind_some, Option.toList_some, Option.toList_none, List.cons_append, List.nil_append, true_or, or_true, if_true, bI_if, bI_if, g1, g2, g3, g4, if_true, if_false, Bool.false_eq_true, true_and, and_true, false_and, and_false, true_or, or_true, false_or, or_false, and_self, or_self, decide_true, decide_false, Bool.not_true, Bool.not_false, Bool.and_true, Bool.and_false, Bool.true_and, Bool.false_and, ite_self]
      · refine ⟨a, b, ?_, h⟩
        simp only [b238_0, b238_7, b238_10, b238_17, b238_20, b238_25, b238_30, b238_33, h16, h94, hs, m_in, m_isState h94, m_isAction, show inI (iN 0) (iN 0) (iN (σ 0 0)) = true from (inI_n (by omega) (by omega) (by omega)).trans (by rw [decide_eq_true (by omega), decide_eq_true (by omega)]; rfl), Option.bind_some, Option.toList_some, Option.toList_none, List.cons_append, List.nil_append, true_or, or_true, if_true, bI_if, bI_if, g1, g2, g3, if_true, if_false, Bool.false_eq_true, true_and, and_true, false_and, and_false, true_or, or_true, false_or, or_false, and_self, or_self, decide_true, decide_false, Bool.not_true, Bool.not_false, Bool.and_true, Bool.and_false, Bool.true_and, Bool.false_and, ite_self]
    · refine ⟨a, b, ?_, h⟩
      simp only [b238_0, b238_7, b238_10, b238_17, b238_20, b238_25, b238_30, b238_33, h16, h94, hs, m_in, m_isState h94, m_isAction, show inI (iN 0) (iN 0) (iN (σ 0 0)) = true from (inI_n (by omega) (by omega) (by omega)).trans (by rw [decide_eq_true (by omega), decide_eq_true (by omega)]; rfl), Option.bind_some, Option.toList_some, Option.toList_none, List.cons_append, List.nil_append, true_or, or_true, if_true, bI_if, bI_if, g1, g2, if_true, if_false, Bool.false_eq_true, true_and, and_true, false_and, and_false, true_or, or_true, false_or, or_false, and_self, or_self, decide_true, decide_false, Bool.not_true, Bool.not_false, Bool.and_true, Bool.and_false, Bool.true_and, Bool.false_and, ite_self]
  · refine ⟨a, b, ?_, h⟩
    simp only [b238_0, b238_7, b238_10, b238_17, b238_20, b238_25, b238_30, b238_33, h16, h94, hs, m_in, m_isState h94, m_isAction, show inI (iN 0) (iN 0) (iN (σ 0 0)) = true from (inI_n (by omega) (by omega) (by omega)).trans (by rw [decide_eq_true (by omega), decide_eq_true (by omega)]; rfl), Option.bind_some, Option.toList_some, Option.toList_none, List.cons_append, List.nil_append, true_or, or_true, if_true, bI_if, bI_if, g1, if_true, if_false, Bool.false_eq_true, true_and, and_true, false_and, and_false, true_or, or_true, false_or, or_false, and_self, or_self, decide_true, decide_false, Bool.not_true, Bool.not_false, Bool.and_true, Bool.and_false, Bool.true_and, Bool.false_and, ite_self]
