/-! ===== questions: over, had he seen me ===== -/
theorem ovS_congr {Q : AQ} {B p N : Nat} {C D : Nat → Bool} (m : Nat) (h : ∀ i, i < m → C i = D i) : ovS Q B p N C m = ovS Q B p N D m := by
  induction m with
  | zero => rfl
  | succ m ih =>
    show ovS Q B p N C m + _ = ovS Q B p N D m + _
    rw [ih (fun i hi => h i (by omega)), h m (by omega)]
def rUp (x y : Nat) : Nat := (x + y - 1) / y
theorem rUp_le {x y : Nat} (hx : x ≤ 999) (hy : y ≤ 120) : rUp x y ≤ 1118 := by
  unfold rUp
  exact Nat.le_trans (Nat.div_le_self _ _) (by omega)
theorem c_rUp {d x y : Nat} {n : Nat} {a : Nat → Nat → Int32} {b : Nat → Nat → Int64} {r : Nat → Nat → Option Nat} (hx : x ≤ 999) (hy : 1 ≤ y) (hy2 : y ≤ 120) : Den (d) 141 0 [.int (iN x), .int (iN y)] [] (zmMk n a b r) = some (some (.int (iN (rUp x y))), (zmMk n a b r)) := by
  rw [b141_0, if_neg (by rw [n_lt (by omega) (by omega)]; omega), b141_9, if_neg (show ¬ iN y = 0 from eq_n (show y ≠ 0 by omega) (by omega) (show 0 < 2147483648 by omega)), b141_16]
  rw [n_add, n_sub (by omega), n_div (by omega) (by omega)]
  rfl
def ovC (z q : Nat) (m : Nat) : Bool := !decide (m + z < q)
theorem m_overL {d x y z i j q : Nat} {s u : Bool} {v8 : Int32} {n : Nat} {r : Nat → Nat → Option Nat} {σ : SV} {cl cl' : List Cls} {R R' : Nat → List Cls} {TL TS A : Nat} {TR : Nat → Nat} (i1 : i ≤ 120) (j1 : j ≤ 9) (hz : z ≤ 20) (hq : q ≤ 1118) (k : Nat) : ∀ (m : Nat) {a : Nat → Nat → Int32} {b : Nat → Nat → Int64}, m + k = σ 0 0 + 1 → (St a b r σ cl cl' R R' TL TS TR A) → ∃ a' b', Den (d+13) 241 72 [.ref 94,.int (iN x),.int (iN y),.int (iN z),.int (iN i),.int (iN j),.int (bI s),.int (bI u),.int v8,.int (iN q),.long (jN (ovS (QS σ cl) (σ 0 5) (plc i j (bN s) (bN u)) (σ 0 0) (ovC z q) m)),zmJ,.int (iN m)] [] (zmMk n a b r) = Den (d+13) 241 122 [.ref 94,.int (iN x),.int (iN y),.int (iN z),.int (iN i),.int (iN j),.int (bI s),.int (bI u),.int v8,.int (iN q),.long (jN (ovS (QS σ cl) (σ 0 5) (plc i j (bN s) (bN u)) (σ 0 0) (ovC z q) (σ 0 0 + 1))),zmJ,.int (iN (σ 0 0 + 1))] [] (zmMk n a' b' r) ∧ (St a' b' r σ cl cl' R R' TL TS TR A) := by
  induction k with
  | zero =>
    intro m a b hm h
    obtain ⟨⟨n1, n8⟩, -, h94, -⟩ := h.n8
    obtain rfl : m = σ 0 0 + 1 := by omega
    refine ⟨a, b, ?_, h⟩
    rw [b241_72, h94, if_pos (by rw [n_lt (by omega) (by omega)]; omega)]
  | succ k ih =>
    intro m a b hm h
    obtain ⟨⟨n1, n8⟩, -, h94, -⟩ := h.n8
    have hp := plc_ltB i1 j1 s u
    have hst : ovS (QS σ cl) (σ 0 5) (plc i j (bN s) (bN u)) (σ 0 0) (ovC z q) (m + 1) = ovS (QS σ cl) (σ 0 5) (plc i j (bN s) (bN u)) (σ 0 0) (ovC z q) m + (if ovC z q m = true then lvQ (QS σ cl) (σ 0 5) (plc i j (bN s) (bN u)) (σ 0 0) m else 0) := rfl
    rw [b241_72, h94, if_neg (by rw [n_lt (by omega) (by omega)]; omega), b241_81, n_add]
    by_cases hc : m + z < q
    · have hC : ovC z q m = false := by
        unfold ovC
        rw [decide_eq_true hc]
        rfl
      rw [if_neg (by rw [hC]; exact Bool.false_ne_true), Nat.add_zero] at hst
      obtain ⟨a2, b2, e2, h2⟩ := ih (m + 1) (by omega) h
      rw [hst] at e2
      refine ⟨a2, b2, ?_, h2⟩
      rw [if_pos (by rw [n_lt (by omega) (by omega)]; exact hc), b241_112, b241_113, n_add, Int64.add_zero]
      exact e2
    · have hC : ovC z q m = true := by
        unfold ovC
        rw [decide_eq_false hc]
        rfl
      rw [if_pos hC] at hst
      obtain ⟨a1, e1, f1⟩ := m_leavesIn (d := d+1) (n := n) (b := b) (r := r) (j := m) rfl rfl (by omega) hp (h.envT (n := n))
      have h1 : (St a1 (uL b 94 63 (jN (10 ^ (σ 0 0)))) r σ cl cl' R R' TL TS TR A) := h.tld.qm f1.q (fun k hk => by
        funext q
        rw [uL_at, if_neg (by omega)])
      obtain ⟨a2, b2, e2, h2⟩ := ih (m + 1) (by omega) h1
      rw [hst] at e2
      refine ⟨a2, b2, ?_, h2⟩
      rw [if_neg (by rw [n_lt (by omega) (by omega)]; exact hc)]
      simp only [b241_92, b241_106, b241_109, b241_113, m_told, e1, Option.bind_some, Option.toList_some, Option.toList_none, List.cons_append, List.nil_append, true_or, or_true, if_true, bI_if, l_add, n_add]
      exact e2
def overV (σ : SV) (cl : List Cls) (v1 v2 v3 v4 v5 : Int32) (s u : Bool) (v8 : Int32) : Int64 := if inI v1 (iN 1) (iN 999) = true ∧ inI v2 (iN 1) (iN 99) = true ∧ inI v3 (iN 0) (iN 20) = true ∧ isSt v4 v5 = true ∧ inI v8 (iN 0) (iN 1) = true then redV (ovS (QS σ cl) (σ 0 5) (plI v4 v5 s u) (σ 0 0) (ovC v3.toNatClampNeg (rUp v1.toNatClampNeg v2.toNatClampNeg)) (σ 0 0 + 1)) (10 ^ (σ 0 0)) v8 else -1
theorem c_over {d : Nat} {n : Nat} {a : Nat → Nat → Int32} {b : Nat → Nat → Int64} {r : Nat → Nat → Option Nat} {σ : SV} {cl cl' : List Cls} {R R' : Nat → List Cls} {TL TS A : Nat} {TR : Nat → Nat} (h : (St a b r σ cl cl' R R' TL TS TR A)) {v1 v2 v3 v4 v5 v8 : Int32} {s u : Bool} : ∃ a' b', Den (d+14) 109 0 [.ref 14, .int v1, .int v2, .int v3, .int v4, .int v5, .int (bI s), .int (bI u), .int v8] [] (zmMk n a b r) = some (some (.long (overV σ cl v1 v2 v3 v4 v5 s u v8)), zmMk n a' b' r) ∧ St a' b' r σ cl cl' R R' TL TS TR A := by
  obtain ⟨⟨n1, n8⟩, h16, h94, hs⟩ := h.n8
  unfold overV
  by_cases g1 : inI v1 (iN 1) (iN 999) = true
  · by_cases g2 : inI v2 (iN 1) (iN 99) = true
    · by_cases g3 : inI v3 (iN 0) (iN 20) = true
      · by_cases g4 : isSt v4 v5 = true
        · by_cases g5 : inI v8 (iN 0) (iN 1) = true
          · obtain ⟨x, x1, x2, rfl⟩ := inI_ex (by decide) (by decide) g1
            obtain ⟨y, y1, y2, rfl⟩ := inI_ex (by decide) (by decide) g2
            obtain ⟨z, -, z2, rfl⟩ := inI_ex (by decide) (by decide) g3
            obtain ⟨i, j, i1, j1, rfl, rfl⟩ := isSt_ex g4
            have hp := plc_ltB i1 j1 s u
            have hq := rUp_le (show x ≤ 999 by omega) (show y ≤ 120 by omega)
            have hle := ovS_le (QS σ cl) (QF_B _ _ _ _) (σ 0 5) (plc i j (bN s) (bN u)) (ovC z (rUp x y)) (Nat.le_refl (σ 0 0 + 1))
            have h10 := p10_le (j := σ 0 0) (by omega)
            have h10p := p10_pos (σ 0 0)
            have hle2 : (σ 0 0 + 1) * 10 ^ (σ 0 0) ≤ 9 * 1000000000 := Nat.mul_le_mul (by omega) h10
            have hc : ∀ m, m < σ 0 0 + 1 → (fun j => !decide (iN j < iN (rUp x y) - iN z)) m = ovC z (rUp x y) m := fun m hm => by
              show (!decide (iN m < iN (rUp x y) - iN z)) = !decide (m + z < rUp x y)
              simp only [n_lt_sub (show rUp x y < 2147483648 by omega) (show z < 2147483648 by omega) (show m < 2147483648 by omega)]
            obtain ⟨a1, e1, f1⟩ := c_findOver (d := d+2) (n := n) (b := b) (r := r) (vf := iN (rUp x y) - iN z) rfl hp h.envC h.2.1.2.1
            rw [ovS_congr _ hc] at e1
            refine ⟨a1, _, ?_, h.qc f1.q (b' := uL (uL b 65 1 (jN (ovS (QS σ cl) (σ 0 5) (plc i j (bN s) (bN u)) (σ 0 0) (ovC z (rUp x y)) (σ 0 0 + 1) / Nat.gcd (ovS (QS σ cl) (σ 0 5) (plc i j (bN s) (bN u)) (σ 0 0) (ovC z (rUp x y)) (σ 0 0 + 1)) (10 ^ (σ 0 0))))) 65 2 (jN (10 ^ (σ 0 0) / Nat.gcd (ovS (QS σ cl) (σ 0 5) (plc i j (bN s) (bN u)) (σ 0 0) (ovC z (rUp x y)) (σ 0 0 + 1)) (10 ^ (σ 0 0))))) ?_ ?_ (h.2.2.2.fr f1 ?_ ?_)⟩
            · simp only [b109_0, b109_8, b109_11, b109_18, b109_21, b109_28, b109_31, b109_38, b109_41, b109_48, b109_51, b109_55, b109_64, b109_77, b109_80, b109_89, h16, c_within, c_isState, Option.bind_some, Option.toList_some, Option.toList_none, List.cons_append, List.nil_append, true_or, or_true, if_true, bI_if, bI_if, g1, g2, g3, g4, g5, c_placeOf, c_rUp (show x ≤ 999 by omega) (show 1 ≤ y by omega) (show y ≤ 120 by omega), e1, c_part, plI_n i1 j1, n_nat (show x < 2147483648 by omega), n_nat (show y < 2147483648 by omega), n_nat (show z < 2147483648 by omega), if_true, if_false, Bool.false_eq_true, true_and, and_true, false_and, and_false, true_or, or_true, false_or, or_false, and_self, or_self, decide_true, decide_false, Bool.not_true, Bool.not_false, Bool.and_true, Bool.and_false, Bool.true_and, Bool.false_and, ite_self]
            all_goals (funext q; rw [uL_at, if_neg (by omega), uL_at, if_neg (by omega)])
          · refine ⟨a, b, ?_, h⟩
            simp only [b109_0, b109_8, b109_11, b109_18, b109_21, b109_28, b109_31, b109_38, b109_41, b109_48, b109_51, b109_55, b109_64, b109_77, b109_80, b109_89, h16, h94, hs, c_within, c_isState, c_isMove, Option.bind_some, Option.toList_some, Option.toList_none, List.cons_append, List.nil_append, true_or, or_true, if_true, bI_if, bI_if, g1, g2, g3, g4, g5, if_true, if_false, Bool.false_eq_true, true_and, and_true, false_and, and_false, true_or, or_true, false_or, or_false, and_self, or_self, decide_true, decide_false, Bool.not_true, Bool.not_false, Bool.and_true, Bool.and_false, Bool.true_and, Bool.false_and, ite_self]
        · refine ⟨a, b, ?_, h⟩
          simp only [b109_0, b109_8, b109_11, b109_18, b109_21, b109_28, b109_31, b109_38, b109_41, b109_48, b109_51, b109_55, b109_64, b109_77, b109_80, b109_89, h16, h94, hs, c_within, c_isState, c_isMove, Option.bind_some, Option.toList_some, Option.toList_none, List.cons_append, List.nil_append, true_or, or_true, if_true, bI_if, bI_if, g1, g2, g3, g4, if_true, if_false, Bool.false_eq_true, true_and, and_true, false_and, and_false, true_or, or_true, false_or, or_false, and_self, or_self, decide_true, decide_false, Bool.not_true, Bool.not_false, Bool.and_true, Bool.and_false, Bool.true_and, Bool.false_and, ite_self]
      · refine ⟨a, b, ?_, h⟩
        simp only [b109_0, b109_8, b109_11, b109_18, b109_21, b109_28, b109_31, b109_38, b109_41, b109_48, b109_51, b109_55, b109_64, b109_77, b109_80, b109_89, h16, h94, hs, c_within, c_isState, c_isMove, Option.bind_some, Option.toList_some, Option.toList_none, List.cons_append, List.nil_append, true_or, or_true, if_true, bI_if, bI_if, g1, g2, g3, if_true, if_false, Bool.false_eq_true, true_and, and_true, false_and, and_false, true_or, or_true, false_or, or_false, and_self, or_self, decide_true, decide_false, Bool.not_true, Bool.not_false, Bool.and_true, Bool.and_false, Bool.true_and, Bool.false_and, ite_self]
    · refine ⟨a, b, ?_, h⟩
      simp only [b109_0, b109_8, b109_11, b109_18, b109_21, b109_28, b109_31, b109_38, b109_41, b109_48, b109_51, b109_55, b109_64, b109_77, b109_80, b109_89, h16, h94, hs, c_within, c_isState, c_isMove, Option.bind_some, Option.toList_some, Option.toList_none, List.cons_append, List.nil_append, true_or, or_true, if_true, bI_if, bI_if, g1, g2, if_true, if_false, Bool.false_eq_true, true_and, and_true, false_and, and_false, true_or, or_true, false_or, or_false, and_self, or_self, decide_true, decide_false, Bool.not_true, Bool.not_false, Bool.and_true, Bool.and_false, Bool.true_and, Bool.false_and, ite_self]
  · refine ⟨a, b, ?_, h⟩
    simp only [b109_0, b109_8, b109_11, b109_18, b109_21, b109_28, b109_31, b109_38, b109_41, b109_48, b109_51, b109_55, b109_64, b109_77, b109_80, b109_89, h16, h94, hs, c_within, c_isState, c_isMove, Option.bind_some, Option.toList_some, Option.toList_none, List.cons_append, List.nil_append, true_or, or_true, if_true, bI_if, bI_if, g1, if_true, if_false, Bool.false_eq_true, true_and, and_true, false_and, and_false, true_or, or_true, false_or, or_false, and_self, or_self, decide_true, decide_false, Bool.not_true, Bool.not_false, Bool.and_true, Bool.and_false, Bool.true_and, Bool.false_and, ite_self]
theorem m_over {d : Nat} {n : Nat} {a : Nat → Nat → Int32} {b : Nat → Nat → Int64} {r : Nat → Nat → Option Nat} {σ : SV} {cl cl' : List Cls} {R R' : Nat → List Cls} {TL TS A : Nat} {TR : Nat → Nat} (h : (St a b r σ cl cl' R R' TL TS TR A)) {v1 v2 v3 v4 v5 v8 : Int32} {s u : Bool} : ∃ a' b', Den (d+14) 241 0 [.ref 94, .int v1, .int v2, .int v3, .int v4, .int v5, .int (bI s), .int (bI u), .int v8, zmJ, zmJ, zmJ, zmJ] [] (zmMk n a b r) = some (some (.long (overV σ cl v1 v2 v3 v4 v5 s u v8)), zmMk n a' b' r) ∧ St a' b' r σ cl cl' R R' TL TS TR A := by
  obtain ⟨⟨n1, n8⟩, h16, h94, hs⟩ := h.n8
  unfold overV
  by_cases g1 : inI v1 (iN 1) (iN 999) = true
  · by_cases g2 : inI v2 (iN 1) (iN 99) = true
    · by_cases g3 : inI v3 (iN 0) (iN 20) = true
      · by_cases g4 : isSt v4 v5 = true
        · by_cases g5 : inI v8 (iN 0) (iN 1) = true
          · obtain ⟨x, x1, x2, rfl⟩ := inI_ex (by decide) (by decide) g1
            obtain ⟨y, y1, y2, rfl⟩ := inI_ex (by decide) (by decide) g2
            obtain ⟨z, -, z2, rfl⟩ := inI_ex (by decide) (by decide) g3
            obtain ⟨i, j, i1, j1, rfl, rfl⟩ := isSt_ex g4
            have hp := plc_ltB i1 j1 s u
            have hq := rUp_le (show x ≤ 999 by omega) (show y ≤ 120 by omega)
            have hle := ovS_le (QS σ cl) (QF_B _ _ _ _) (σ 0 5) (plc i j (bN s) (bN u)) (ovC z (rUp x y)) (Nat.le_refl (σ 0 0 + 1))
            have h10 := p10_le (j := σ 0 0) (by omega)
            have h10p := p10_pos (σ 0 0)
            have hle2 : (σ 0 0 + 1) * 10 ^ (σ 0 0) ≤ 9 * 1000000000 := Nat.mul_le_mul (by omega) h10
            have g9 : inI (iN 0) (iN 0) (iN (σ 0 0)) = true := (inI_n (by omega) (by omega) (by omega)).trans (by rw [decide_eq_true (by omega), decide_eq_true (by omega)]; rfl)
            have hy0 : (iN y = 0) = False := eq_false (eq_n (show y ≠ 0 by omega) (by omega) (show 0 < 2147483648 by omega))
            have hrq : (iN x + iN y - iN 1) / iN y = iN (rUp x y) := by
              rw [n_add, n_sub (by omega), n_div (by omega) (by omega)]
              rfl
            obtain ⟨a1, b1, e1, h1⟩ := m_overL (d := d+1) (n := n) (r := r) (x := x) (y := y) (v8 := v8) (s := s) (u := u) i1 j1 (show z ≤ 20 by omega) hq (σ 0 0 + 1) 0 (by omega) h
            obtain ⟨a2, e2, f2⟩ := m_leavesIn (d := d+2) (n := n) (b := b1) (r := r) (j := 0) rfl rfl (by omega) hp (h1.envT (n := n))
            have h2 : (St a2 (uL b1 94 63 (jN (10 ^ (σ 0 0)))) r σ cl cl' R R' TL TS TR A) := h1.tld.qm f2.q (fun k hk => by
              funext q
              rw [uL_at, if_neg (by omega)])
            have e63 : uL b1 94 63 (jN (10 ^ (σ 0 0))) 94 63 = jN (10 ^ (σ 0 0)) := by rw [uL_at, if_pos ⟨rfl, rfl⟩]
            have e3 : Den (d+13) 156 0 [.long (jN (ovS (QS σ cl) (σ 0 5) (plc i j (bN s) (bN u)) (σ 0 0) (ovC z (rUp x y)) (σ 0 0 + 1))), zmJ, .long (jN (10 ^ (σ 0 0))), zmJ, .int v8, zmJ, zmJ] [] (zmMk n a2 (uL b1 94 63 (jN (10 ^ (σ 0 0)))) r) = _ := m_through2 (d := d+12) (by omega) (by omega) h10p
            refine ⟨a2, _, ?_, h2⟩
            rw [b241_0]
            simp only [b241_8, b241_11, b241_18, b241_21, b241_28, b241_31, b241_40, b241_43, b241_50, b241_57, b241_64, m_in, m_isState h94, Option.bind_some, Option.toList_some, Option.toList_none, List.cons_append, List.nil_append, true_or, or_true, if_true, bI_if, bI_if, g1, g2, g3, g4, g5, g9, hy0, hrq, plI_n i1 j1, n_nat (show x < 2147483648 by omega), n_nat (show y < 2147483648 by omega), n_nat (show z < 2147483648 by omega), if_true, if_false, Bool.false_eq_true, true_and, and_true, false_and, and_false, true_or, or_true, false_or, or_false, and_self, or_self, decide_true, decide_false, Bool.not_true, Bool.not_false, Bool.and_true, Bool.and_false, Bool.true_and, Bool.false_and, ite_self]
            have e1' : Den (d+14) 241 72 [.ref 94,.int (iN x),.int (iN y),.int (iN z),.int (iN i),.int (iN j),.int (bI s),.int (bI u),.int v8,.int (iN (rUp x y)),.long 0,zmJ,.int (iN 0)] [] (zmMk n a b r) = _ := e1
            rw [e1']
            simp only [b241_122, b241_135, b241_138, b241_150, m_told, e2, e63, e3, Option.bind_some, Option.toList_some, Option.toList_none, List.cons_append, List.nil_append, true_or, or_true, if_true, bI_if]
          · refine ⟨a, b, ?_, h⟩
            simp only [b241_0, b241_8, b241_11, b241_18, b241_21, b241_28, b241_31, b241_40, b241_43, b241_50, b241_53, h16, h94, hs, m_in, m_isState h94, m_isAction, show inI (iN 0) (iN 0) (iN (σ 0 0)) = true from (inI_n (by omega) (by omega) (by omega)).trans (by rw [decide_eq_true (by omega), decide_eq_true (by omega)]; rfl), Option.bind_some, Option.toList_some, Option.toList_none, List.cons_append, List.nil_append, true_or, or_true, if_true, bI_if, bI_if, g1, g2, g3, g4, g5, if_true, if_false, Bool.false_eq_true, true_and, and_true, false_and, and_false, true_or, or_true, false_or, or_false, and_self, or_self, decide_true, decide_false, Bool.not_true, Bool.not_false, Bool.and_true, Bool.and_false, Bool.true_and, Bool.false_and, ite_self]
        · refine ⟨a, b, ?_, h⟩
          simp only [b241_0, b241_8, b241_11, b241_18, b241_21, b241_28, b241_31, b241_40, b241_43, b241_50, b241_53, h16, h94, hs, m_in, m_isState h94, m_isAction, show inI (iN 0) (iN 0) (iN (σ 0 0)) = true from (inI_n (by omega) (by omega) (by omega)).trans (by rw [decide_eq_true (by omega), decide_eq_true (by omega)]; rfl), Option.bind_some, Option.toList_some, Option.toList_none, List.cons_append, List.nil_append, true_or, or_true, if_true, bI_if, bI_if, g1, g2, g3, g4, if_true, if_false, Bool.false_eq_true, true_and, and_true, false_and, and_false, true_or, or_true, false_or, or_false, and_self, or_self, decide_true, decide_false, Bool.not_true, Bool.not_false, Bool.and_true, Bool.and_false, Bool.true_and, Bool.false_and, ite_self]
      · refine ⟨a, b, ?_, h⟩
        simp only [b241_0, b241_8, b241_11, b241_18, b241_21, b241_28, b241_31, b241_40, b241_43, b241_50, b241_53, h16, h94, hs, m_in, m_isState h94, m_isAction, show inI (iN 0) (iN 0) (iN (σ 0 0)) = true from (inI_n (by omega) (by omega) (by omega)).trans (by rw [decide_eq_true (by omega), decide_eq_true (by omega)]; rfl), Option.bind_some, Option.toList_some, Option.toList_none, List.cons_append, List.nil_append, true_or, or_true, if_true, bI_if, bI_if, g1, g2, g3, if_true, if_false, Bool.false_eq_true, true_and, and_true, false_and, and_false, true_or, or_true, false_or, or_false, and_self, or_self, decide_true, decide_false, Bool.not_true, Bool.not_false, Bool.and_true, Bool.and_false, Bool.true_and, Bool.false_and, ite_self]
    · refine ⟨a, b, ?_, h⟩
      simp only [b241_0, b241_8, b241_11, b241_18, b241_21, b241_28, b241_31, b241_40, b241_43, b241_50, b241_53, h16, h94, hs, m_in, m_isState h94, m_isAction, show inI (iN 0) (iN 0) (iN (σ 0 0)) = true from (inI_n (by omega) (by omega) (by omega)).trans (by rw [decide_eq_true (by omega), decide_eq_true (by omega)]; rfl), Option.bind_some, Option.toList_some, Option.toList_none, List.cons_append, List.nil_append, true_or, or_true, if_true, bI_if, bI_if, g1, g2, if_true, if_false, Bool.false_eq_true, true_and, and_true, false_and, and_false, true_or, or_true, false_or, or_false, and_self, or_self, decide_true, decide_false, Bool.not_true, Bool.not_false, Bool.and_true, Bool.and_false, Bool.true_and, Bool.false_and, ite_self]
  · refine ⟨a, b, ?_, h⟩
    simp only [b241_0, b241_8, b241_11, b241_18, b241_21, b241_28, b241_31, b241_40, b241_43, b241_50, b241_53, h16, h94, hs, m_in, m_isState h94, m_isAction, show inI (iN 0) (iN 0) (iN (σ 0 0)) = true from (inI_n (by omega) (by omega) (by omega)).trans (by rw [decide_eq_true (by omega), decide_eq_true (by omega)]; rfl), Option.bind_some, Option.toList_some, Option.toList_none, List.cons_append, List.nil_append, true_or, or_true, if_true, bI_if, bI_if, g1, if_true, if_false, Bool.false_eq_true, true_and, and_true, false_and, and_false, true_or, or_true, false_or, or_false, and_self, or_self, decide_true, decide_false, Bool.not_true, Bool.not_false, Bool.and_true, Bool.and_false, Bool.true_and, Bool.false_and, ite_self]
