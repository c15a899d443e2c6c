/-! ===== questions: point, over ===== -/
def hitP (v5 : Int32) (x : Nat) : Bool := if v5 = iN 0 then !decide (x = 0) else decide (x % 4 = 3)
def ptF (F : Nat → Nat) (v5 : Int32) : Nat → Int32
  | 0 => -2
  | y + 1 => if hitP v5 (F (y + 1)) = true then iN (y + 1) else ptF F v5 y
def ptG (σ : SV) (cl : List Cls) (t j : Nat) (s u : Bool) (y : Nat) : Nat := AB (QS σ cl) (σ 0 5) false (σ 0 0 - t - 1) t (plc y j (bN s) (bN u))
def pointV (σ : SV) (cl : List Cls) (v1 v2 : Int32) (s u : Bool) (v5 : Int32) : Int32 := if inI v1 (iN 0) (iN (σ 0 0 - 1)) = true ∧ isSt (iN 0) v2 = true ∧ inI v5 (iN 0) (iN 1) = true then ptF (ptG σ cl v1.toNatClampNeg v2.toNatClampNeg s u) v5 120 else -1
theorem isSt_1 (e : Int32) : isSt (iN 1) e = isSt (iN 0) e := by
  unfold isSt
  rw [show inI (iN 1) (iN 0) (iN 120) = true from by decide +kernel, show inI (iN 0) (iN 0) (iN 120) = true from by decide +kernel]
theorem c_pointL {d t j : Nat} {s u : Bool} {v5 : Int32} {n : Nat} {r : Nat → Nat → Option Nat} {σ : SV} {cl cl' : List Cls} {R R' : Nat → List Cls} {TL TS A : Nat} {TR : Nat → Nat} (t1 : t < σ 0 0) (j1 : j ≤ 9) (k : Nat) : ∀ (u7 : Value) {a : Nat → Nat → Int32} {b : Nat → Nat → Int64}, k ≤ 120 → (St a b r σ cl cl' R R' TL TS TR A) → ∃ a' b', Den (d+41) 103 41 [.ref 14,.int (iN t),.int (iN j),.int (bI s),.int (bI u),.int v5,.int (iN k),u7] [] (zmMk n a b r) = some (some (.int (ptF (ptG σ cl t j s u) v5 k)), zmMk n a' b' r) ∧ St a' b' r σ cl cl' R R' TL TS TR A := by
  induction k with
  | zero =>
    intro u7 a b _ h
    refine ⟨a, b, ?_, h⟩
    rw [b103_41, if_neg (by decide +kernel), b103_95]
    rfl
  | succ k ih =>
    intro u7 a b hk h
    have hp := plc_ltB hk j1 s u
    obtain ⟨a1, b1, e1, k1, f1, l1⟩ := c_action (d := d) (n := n) (r := r) (t := t) (by omega) rfl rfl hp h.envC h.2.2.2.1 h.2.1.2.1
    have h1 := h.qB k1 f1 l1
    rw [if_neg (show ¬ (pY (plc (k+1) j (bN s) (bN u)) = 0 ∨ t = σ 0 0) from by rw [pY_plB hk j1]; omega)] at e1
    have hx : ptG σ cl t j s u (k+1) ≤ 7 := foldB_le
    have e1' : Den (d+40) 3 0 [.ref 52, .int (iN t), .int (iN (plc (k+1) j (bN s) (bN u)))] [] (zmMk n a b r) = some (some (.int (iN (ptG σ cl t j s u (k+1)))), zmMk n a1 b1 r) := e1
    obtain ⟨a2, b2, e2, h2⟩ := ih (.int (iN (ptG σ cl t j s u (k+1)))) (by omega) h1
    rw [b103_41, if_pos (by rw [n_lt (by omega) (by omega)]; omega)]
    unfold ptF
    by_cases hh : hitP v5 (ptG σ cl t j s u (k+1)) = true
    · rw [if_pos hh]
      refine ⟨a1, b1, ?_, h1⟩
      unfold hitP at hh
      by_cases g : v5 = iN 0
      · rw [if_pos g] at hh
        have h0 : ¬ ptG σ cl t j s u (k+1) = 0 := fun e => by
          rw [e] at hh
          cases hh
        simp only [b103_46, b103_60, b103_63, b103_70, b103_75, b103_86, c_placeOf, e1', Option.bind_some, Option.toList_some, Option.toList_none, List.cons_append, List.nil_append, true_or, or_true, if_true, bI_if, g, eq_n h0 (by omega) (show 0 < 2147483648 by omega), if_true, if_false, Bool.false_eq_true, true_and, and_true, false_and, and_false, true_or, or_true, false_or, or_false, and_self, or_self, decide_true, decide_false, Bool.not_true, Bool.not_false, Bool.and_true, Bool.and_false, Bool.true_and, Bool.false_and, ite_self]
      · rw [if_neg g] at hh
        have h0 := of_decide_eq_true hh
        simp only [b103_46, b103_60, b103_63, b103_78, b103_86, c_placeOf, e1', Option.bind_some, Option.toList_some, Option.toList_none, List.cons_append, List.nil_append, true_or, or_true, if_true, bI_if, g, n_and3 (show ptG σ cl t j s u (k+1) < 8 by omega), h0, if_true, if_false, Bool.false_eq_true, true_and, and_true, false_and, and_false, true_or, or_true, false_or, or_false, and_self, or_self, decide_true, decide_false, Bool.not_true, Bool.not_false, Bool.and_true, Bool.and_false, Bool.true_and, Bool.false_and, ite_self]
    · rw [if_neg hh]
      refine ⟨a2, b2, ?_, h2⟩
      unfold hitP at hh
      have hk1 : iN (k+1) + (-1) = iN k := n_pm (by omega)
      by_cases g : v5 = iN 0
      · rw [if_pos g] at hh
        have h0 : ptG σ cl t j s u (k+1) = 0 := Classical.byContradiction (fun e => hh (by rw [decide_eq_false e]; rfl))
        rw [h0] at e1' e2
        simp only [b103_46, b103_60, b103_63, b103_70, b103_89, c_placeOf, e1', Option.bind_some, Option.toList_some, Option.toList_none, List.cons_append, List.nil_append, true_or, or_true, if_true, bI_if, g, hk1, if_true, if_false, Bool.false_eq_true, true_and, and_true, false_and, and_false, true_or, or_true, false_or, or_false, and_self, or_self, decide_true, decide_false, Bool.not_true, Bool.not_false, Bool.and_true, Bool.and_false, Bool.true_and, Bool.false_and, ite_self]
        rw [g] at e2
        exact e2
      · rw [if_neg g] at hh
        have h0 : ¬ ptG σ cl t j s u (k+1) % 4 = 3 := fun e => hh (decide_eq_true e)
        simp only [b103_46, b103_60, b103_63, b103_78, b103_89, c_placeOf, e1', Option.bind_some, Option.toList_some, Option.toList_none, List.cons_append, List.nil_append, true_or, or_true, if_true, bI_if, g, n_and3 (show ptG σ cl t j s u (k+1) < 8 by omega), eq_n h0 (show ptG σ cl t j s u (k+1) % 4 < 2147483648 by omega) (show 3 < 2147483648 by omega), hk1, if_true, if_false, Bool.false_eq_true, true_and, and_true, false_and, and_false, true_or, or_true, false_or, or_false, and_self, or_self, decide_true, decide_false, Bool.not_true, Bool.not_false, Bool.and_true, Bool.and_false, Bool.true_and, Bool.false_and, ite_self]
        exact e2
theorem tldM_fix {a a1 : Nat → Nat → Int32} (h : a1 94 = tldM a 94) : tldM a1 = a1 := by
  funext k j
  have h3 : a1 94 3 = a1 94 35 := by
    rw [h]
    unfold tldM
    rw [uI_at, if_neg (by omega), uI_at, if_neg (by omega), uI_at, if_neg (by omega), uI_at, if_pos ⟨rfl, rfl⟩]
  have h39 : a1 94 39 = iN 0 := by
    rw [h]
    unfold tldM
    rw [uI_at, if_pos ⟨rfl, rfl⟩]
  unfold tldM
  rw [uI_at]
  split
  · next e => rw [e.1, e.2, h39]
  · rw [uI_at]
    split
    · next e => rw [e.1, e.2, h3]
    · rfl
theorem m_pointL {d t j : Nat} {s u : Bool} {v5 : Int32} {n : Nat} {r : Nat → Nat → Option Nat} {σ : SV} {cl cl' : List Cls} {R R' : Nat → List Cls} {TL TS A : Nat} {TR : Nat → Nat} (t1 : t < σ 0 0) (j1 : j ≤ 9) (k : Nat) : ∀ (u7 u8 : Value) {a : Nat → Nat → Int32} {b : Nat → Nat → Int64}, k ≤ 120 → (St a b r σ cl cl' R R' TL TS TR A) → tldM a = a → ∃ a' b', Den (d+41) 222 38 [.ref 94,.int (iN t),.int (iN j),.int (bI s),.int (bI u),.int v5,.int (iN k),u7,u8] [] (zmMk n a b r) = some (some (.int (ptF (ptG σ cl t j s u) v5 k)), zmMk n a' b' r) ∧ St a' b' r σ cl cl' R R' TL TS TR A := by
  induction k with
  | zero =>
    intro u7 u8 a b _ h _
    refine ⟨a, b, ?_, h⟩
    rw [b222_38, if_neg (by decide +kernel), b222_107]
    rfl
  | succ k ih =>
    intro u7 u8 a b hk h ht
    have h8 := h.1.1.1.2
    have hp := plc_ltB hk j1 s u
    have hb : 4840 * t + plc (k+1) j (bN s) (bN u) < 43560 := by omega
    obtain ⟨a1, b1, e1, h1, g1, f1⟩ := m_solv (d := d+24) (n := n) h (t := t) (by omega) hp
    rw [ht] at e1
    have ht1 := tldM_fix (f1 94 rfl)
    have g2 : a1 116 (4840 * t + plc (k+1) j (bN s) (bN u)) = iN (ptG σ cl t j s u (k+1)) := by
      rw [g1]
      unfold actI
      rw [if_neg (show ¬ (pY (plc (k+1) j (bN s) (bN u)) = 0 ∨ t = σ 0 0) from by rw [pY_plB hk j1]; omega)]
      rfl
    have hx : ptG σ cl t j s u (k+1) ≤ 7 := foldB_le
    obtain ⟨a2, b2, e2, h2⟩ := ih (.int (iN (plc (k+1) j (bN s) (bN u)))) (.int (iN (ptG σ cl t j s u (k+1)))) (by omega) h1 ht1
    have hn := n_nat (show 4840 * t + plc (k+1) j (bN s) (bN u) < 2147483648 by omega)
    rw [b222_38, if_pos (by rw [n_lt (by omega) (by omega)]; omega)]
    unfold ptF
    by_cases hh : hitP v5 (ptG σ cl t j s u (k+1)) = true
    · rw [if_pos hh]
      refine ⟨a1, b1, ?_, h1⟩
      unfold hitP at hh
      by_cases g : v5 = iN 0
      · rw [if_pos g] at hh
        have h0 : ¬ ptG σ cl t j s u (k+1) = 0 := fun e => by
          rw [e] at hh
          cases hh
        simp only [b222_43, b222_52, b222_61, b222_75, b222_82, b222_87, b222_98, m_told, e1, Option.bind_some, Option.toList_some, Option.toList_none, List.cons_append, List.nil_append, true_or, or_true, if_true, bI_if, n_mul, n_add, n_in (show 4840 * t + plc (k+1) j (bN s) (bN u) < 2147483648 by omega), decide_eq_true hb, hn, g2, g, eq_n h0 (by omega) (show 0 < 2147483648 by omega), if_true, if_false, Bool.false_eq_true, true_and, and_true, false_and, and_false, true_or, or_true, false_or, or_false, and_self, or_self, decide_true, decide_false, Bool.not_true, Bool.not_false, Bool.and_true, Bool.and_false, Bool.true_and, Bool.false_and, ite_self]
      · rw [if_neg g] at hh
        have h0 := of_decide_eq_true hh
        simp only [b222_43, b222_52, b222_61, b222_75, b222_90, b222_98, m_told, e1, Option.bind_some, Option.toList_some, Option.toList_none, List.cons_append, List.nil_append, true_or, or_true, if_true, bI_if, n_mul, n_add, n_in (show 4840 * t + plc (k+1) j (bN s) (bN u) < 2147483648 by omega), decide_eq_true hb, hn, g2, g, n_rem (show ptG σ cl t j s u (k+1) < 2147483648 by omega) (show 4 < 2147483648 by omega), h0, if_true, if_false, Bool.false_eq_true, true_and, and_true, false_and, and_false, true_or, or_true, false_or, or_false, and_self, or_self, decide_true, decide_false, Bool.not_true, Bool.not_false, Bool.and_true, Bool.and_false, Bool.true_and, Bool.false_and, ite_self]
    · rw [if_neg hh]
      refine ⟨a2, b2, ?_, h2⟩
      unfold hitP at hh
      have hk1 : iN (k+1) + (-1) = iN k := n_pm (by omega)
      by_cases g : v5 = iN 0
      · rw [if_pos g] at hh
        have h0 : ptG σ cl t j s u (k+1) = 0 := Classical.byContradiction (fun e => hh (by rw [decide_eq_false e]; rfl))
        rw [h0] at g2 e2
        simp only [b222_43, b222_52, b222_61, b222_75, b222_82, b222_101, m_told, e1, Option.bind_some, Option.toList_some, Option.toList_none, List.cons_append, List.nil_append, true_or, or_true, if_true, bI_if, n_mul, n_add, n_in (show 4840 * t + plc (k+1) j (bN s) (bN u) < 2147483648 by omega), decide_eq_true hb, hn, g2, g, hk1, if_true, if_false, Bool.false_eq_true, true_and, and_true, false_and, and_false, true_or, or_true, false_or, or_false, and_self, or_self, decide_true, decide_false, Bool.not_true, Bool.not_false, Bool.and_true, Bool.and_false, Bool.true_and, Bool.false_and, ite_self]
        rw [g] at e2
        exact e2
      · rw [if_neg g] at hh
        have h0 : ¬ ptG σ cl t j s u (k+1) % 4 = 3 := fun e => hh (decide_eq_true e)
        simp only [b222_43, b222_52, b222_61, b222_75, b222_90, b222_101, m_told, e1, Option.bind_some, Option.toList_some, Option.toList_none, List.cons_append, List.nil_append, true_or, or_true, if_true, bI_if, n_mul, n_add, n_in (show 4840 * t + plc (k+1) j (bN s) (bN u) < 2147483648 by omega), decide_eq_true hb, hn, g2, g, n_rem (show ptG σ cl t j s u (k+1) < 2147483648 by omega) (show 4 < 2147483648 by omega), eq_n h0 (show ptG σ cl t j s u (k+1) % 4 < 2147483648 by omega) (show 3 < 2147483648 by omega), hk1, if_true, if_false, Bool.false_eq_true, true_and, and_true, false_and, and_false, true_or, or_true, false_or, or_false, and_self, or_self, decide_true, decide_false, Bool.not_true, Bool.not_false, Bool.and_true, Bool.and_false, Bool.true_and, Bool.false_and, ite_self]
        exact e2
theorem c_point {d : Nat} {n : Nat} {a : Nat → Nat → Int32} {b : Nat → Nat → Int64} {r : Nat → Nat → Option Nat} {σ : SV} {cl cl' : List Cls} {R R' : Nat → List Cls} {TL TS A : Nat} {TR : Nat → Nat} (h : (St a b r σ cl cl' R R' TL TS TR A)) {v1 v2 v5 : Int32} {s u : Bool} : ∃ a' b', Den (d+42) 103 0 [.ref 14, .int v1, .int v2, .int (bI s), .int (bI u), .int v5, zmJ, zmJ] [] (zmMk n a b r) = some (some (.int (pointV σ cl v1 v2 s u v5)), zmMk n a' b' r) ∧ St a' b' r σ cl cl' R R' TL TS TR A := by
  obtain ⟨⟨n1, n8⟩, h16, h94, hs⟩ := h.n8
  unfold pointV
  by_cases g1 : inI v1 (iN 0) (iN (σ 0 0 - 1)) = true
  · by_cases g2 : isSt (iN 0) v2 = true
    · by_cases g3 : inI v5 (iN 0) (iN 1) = true
      · obtain ⟨t, -, t2, rfl⟩ := inI_ex (by decide) (by omega) g1
        obtain ⟨-, j, -, j1, -, rfl⟩ := isSt_ex g2
        obtain ⟨a1, b1, e1, h1⟩ := c_pointL (d := d+1) (n := n) (v5 := v5) (s := s) (u := u) (show t < σ 0 0 by omega) j1 120 zmJ (by omega) h
        refine ⟨a1, b1, ?_, h1⟩
        rw [b103_0]
        simp only [b103_14, b103_17, b103_22, b103_25, b103_32, b103_37, h16, hs, c_within, c_isState, Option.bind_some, Option.toList_some, Option.toList_none, List.cons_append, List.nil_append, true_or, or_true, if_true, bI_if, bI_if, g1, g2, g3, e1, n_nat (show t < 2147483648 by omega), n_nat (show j < 2147483648 by omega), if_true, if_false, Bool.false_eq_true, true_and, and_true, false_and, and_false, true_or, or_true, false_or, or_false, and_self, or_self, decide_true, decide_false, Bool.not_true, Bool.not_false, Bool.and_true, Bool.and_false, Bool.true_and, Bool.false_and, ite_self]
      · refine ⟨a, b, ?_, h⟩
        simp only [b103_0, b103_14, b103_17, b103_22, b103_25, b103_32, b103_35, b103_37, b103_41, b103_46, b103_60, b103_63, b103_70, b103_75, b103_78, b103_86, b103_89, b103_95, h16, h94, hs, c_within, c_isState, c_isMove, Option.bind_some, Option.toList_some, Option.toList_none, List.cons_append, List.nil_append, true_or, or_true, if_true, bI_if, bI_if, g1, g2, g3, if_true, if_false, Bool.false_eq_true, true_and, and_true, false_and, and_false, true_or, or_true, false_or, or_false, and_self, or_self, decide_true, decide_false, Bool.not_true, Bool.not_false, Bool.and_true, Bool.and_false, Bool.true_and, Bool.false_and, ite_self]
    · refine ⟨a, b, ?_, h⟩
      simp only [b103_0, b103_14, b103_17, b103_22, b103_25, b103_32, b103_35, b103_37, b103_41, b103_46, b103_60, b103_63, b103_70, b103_75, b103_78, b103_86, b103_89, b103_95, h16, h94, hs, c_within, c_isState, c_isMove, Option.bind_some, Option.toList_some, Option.toList_none, List.cons_append, List.nil_append, true_or, or_true, if_true, bI_if, bI_if, g1, g2, if_true, if_false, Bool.false_eq_true, true_and, and_true, false_and, and_false, true_or, or_true, false_or, or_false, and_self, or_self, decide_true, decide_false, Bool.not_true, Bool.not_false, Bool.and_true, Bool.and_false, Bool.true_and, Bool.false_and, ite_self]
  · refine ⟨a, b, ?_, h⟩
    simp only [b103_0, b103_14, b103_17, b103_22, b103_25, b103_32, b103_35, b103_37, b103_41, b103_46, b103_60, b103_63, b103_70, b103_75, b103_78, b103_86, b103_89, b103_95, h16, h94, hs, c_within, c_isState, c_isMove, Option.bind_some, Option.toList_some, Option.toList_none, List.cons_append, List.nil_append, true_or, or_true, if_true, bI_if, bI_if, g1, if_true, if_false, Bool.false_eq_true, true_and, and_true, false_and, and_false, true_or, or_true, false_or, or_false, and_self, or_self, decide_true, decide_false, Bool.not_true, Bool.not_false, Bool.and_true, Bool.and_false, Bool.true_and, Bool.false_and, ite_self]
theorem m_point {d : Nat} {n : Nat} {a : Nat → Nat → Int32} {b : Nat → Nat → Int64} {r : Nat → Nat → Option Nat} {σ : SV} {cl cl' : List Cls} {R R' : Nat → List Cls} {TL TS A : Nat} {TR : Nat → Nat} (h : (St a b r σ cl cl' R R' TL TS TR A)) {v1 v2 v5 : Int32} {s u : Bool} : ∃ a' b', Den (d+42) 222 0 [.ref 94, .int v1, .int v2, .int (bI s), .int (bI u), .int v5, zmJ, zmJ, zmJ] [] (zmMk n a b r) = some (some (.int (pointV σ cl v1 v2 s u v5)), zmMk n a' b' r) ∧ St a' b' r σ cl cl' R R' TL TS TR A := by
  obtain ⟨⟨n1, n8⟩, h16, h94, hs⟩ := h.n8
  unfold pointV
  rw [inI_hi n1 n8]
  by_cases g1 : inI v1 (iN 0) (iN (σ 0 0)) = true
  · by_cases g2 : isSt (iN 0) v2 = true
    · by_cases g6 : v1 = iN (σ 0 0)
      · refine ⟨a, b, ?_, h⟩
        simp only [b222_0, b222_7, b222_10, b222_18, b222_25, b222_28, b222_30, b222_34, b222_38, b222_43, b222_52, b222_61, b222_82, b222_87, b222_90, b222_98, b222_101, b222_107, b222_75, h16, h94, hs, m_in, m_isState h94, m_isAction, isSt_1, Option.bind_some, Option.toList_some, Option.toList_none, List.cons_append, List.nil_append, true_or, or_true, if_true, bI_if, bI_if, g1, g2, g6, if_true, if_false, Bool.false_eq_true, true_and, and_true, false_and, and_false, true_or, or_true, false_or, or_false, and_self, or_self, decide_true, decide_false, Bool.not_true, Bool.not_false, Bool.and_true, Bool.and_false, Bool.true_and, Bool.false_and, ite_self]
      · by_cases g3 : inI v5 (iN 0) (iN 1) = true
        · obtain ⟨t, -, t2, rfl⟩ := inI_ex (by decide) (by omega) g1
          obtain ⟨-, j, -, j1, -, rfl⟩ := isSt_ex g2
          have ht : t ≠ σ 0 0 := fun e => g6 (by rw [e])
          obtain ⟨a1, b1, e1, h1⟩ := m_pointL (d := d+1) (n := n) (v5 := v5) (s := s) (u := u) (show t < σ 0 0 by omega) j1 120 zmJ zmJ (by omega) h.tld (tldM_fix rfl)
          refine ⟨a1, b1, ?_, h1⟩
          rw [b222_0]
          simp only [b222_7, b222_10, b222_18, b222_25, b222_30, b222_34, h94, m_in, m_isState h94, isSt_1, m_asTold, Option.bind_some, Option.toList_some, Option.toList_none, List.cons_append, List.nil_append, true_or, or_true, if_true, bI_if, bI_if, g1, g2, g3, g6, e1, n_nat (show t < 2147483648 by omega), n_nat (show j < 2147483648 by omega), if_true, if_false, Bool.false_eq_true, true_and, and_true, false_and, and_false, true_or, or_true, false_or, or_false, and_self, or_self, decide_true, decide_false, Bool.not_true, Bool.not_false, Bool.and_true, Bool.and_false, Bool.true_and, Bool.false_and, ite_self]
        · refine ⟨a, b, ?_, h⟩
          simp only [b222_0, b222_7, b222_10, b222_18, b222_25, b222_28, b222_30, b222_34, b222_38, b222_43, b222_52, b222_61, b222_82, b222_87, b222_90, b222_98, b222_101, b222_107, b222_75, h16, h94, hs, m_in, m_isState h94, m_isAction, isSt_1, Option.bind_some, Option.toList_some, Option.toList_none, List.cons_append, List.nil_append, true_or, or_true, if_true, bI_if, bI_if, g1, g2, g6, g3, if_true, if_false, Bool.false_eq_true, true_and, and_true, false_and, and_false, true_or, or_true, false_or, or_false, and_self, or_self, decide_true, decide_false, Bool.not_true, Bool.not_false, Bool.and_true, Bool.and_false, Bool.true_and, Bool.false_and, ite_self]
    · refine ⟨a, b, ?_, h⟩
      simp only [b222_0, b222_7, b222_10, b222_18, b222_25, b222_28, b222_30, b222_34, b222_38, b222_43, b222_52, b222_61, b222_82, b222_87, b222_90, b222_98, b222_101, b222_107, b222_75, h16, h94, hs, m_in, m_isState h94, m_isAction, isSt_1, Option.bind_some, Option.toList_some, Option.toList_none, List.cons_append, List.nil_append, true_or, or_true, if_true, bI_if, bI_if, g1, g2, if_true, if_false, Bool.false_eq_true, true_and, and_true, false_and, and_false, true_or, or_true, false_or, or_false, and_self, or_self, decide_true, decide_false, Bool.not_true, Bool.not_false, Bool.and_true, Bool.and_false, Bool.true_and, Bool.false_and, ite_self]
  · refine ⟨a, b, ?_, h⟩
    simp only [b222_0, b222_7, b222_10, b222_18, b222_25, b222_28, b222_30, b222_34, b222_38, b222_43, b222_52, b222_61, b222_82, b222_87, b222_90, b222_98, b222_101, b222_107, b222_75, h16, h94, hs, m_in, m_isState h94, m_isAction, isSt_1, Option.bind_some, Option.toList_some, Option.toList_none, List.cons_append, List.nil_append, true_or, or_true, if_true, bI_if, bI_if, g1, if_true, if_false, Bool.false_eq_true, true_and, and_true, false_and, and_false, true_or, or_true, false_or, or_false, and_self, or_self, decide_true, decide_false, Bool.not_true, Bool.not_false, Bool.and_true, Bool.and_false, Bool.true_and, Bool.false_and, ite_self]
