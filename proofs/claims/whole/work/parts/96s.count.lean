/-! ===== questions: count ===== -/
theorem lay25 : zmLay 25 = (20, 121) := by decide +kernel
theorem lay28 : zmLay 28 = (20, 100) := by decide +kernel
theorem not_inI {x : Int32} {lo hi : Nat} (h1 : lo < 2147483648) (h2 : hi < 2147483648) (h : ¬ inI x (iN lo) (iN hi) = true) : x.toInt < lo ∨ hi < x.toInt := by
  refine Classical.byContradiction (fun z => h ?_)
  have z1 : ¬ x < iN lo := fun e => z (Or.inl (by rw [Int32.lt_iff_toInt_lt, n_toI h1] at e; exact e))
  have z2 : ¬ iN hi < x := fun e => z (Or.inr (by rw [Int32.lt_iff_toInt_lt, n_toI h2] at e; exact e))
  unfold inI
  rw [decide_eq_false z1, decide_eq_false z2]
  rfl
def cntW (σ : SV) (cl : List Cls) : Nat → Nat
  | 0 => σ 0 0
  | 1 => σ 0 3
  | 2 => σ 0 5
  | 3 => σ 0 4
  | 4 => cl.length
  | 5 => σ 0 2
  | _ => σ 0 1
def countV (σ : SV) (cl : List Cls) (R : Nat → List Cls) (v1 : Int32) : Int32 := if inI v1 (iN 0) (iN 6) = true then iN (cntW σ cl v1.toNatClampNeg) else if inI v1 (iN 10) (iN 13) = true then iN (R (v1.toNatClampNeg - 10)).length else if inI v1 (iN 100) (iN 220) = true then iN (sK σ (v1.toNatClampNeg - 100)) else if inI v1 (iN 300) (iN 399) = true then iN (sW σ (v1.toNatClampNeg - 300)) else -1
theorem c_count {d : Nat} {n : Nat} {a : Nat → Nat → Int32} {b : Nat → Nat → Int64} {r : Nat → Nat → Option Nat} {σ : SV} {cl cl' : List Cls} {R R' : Nat → List Cls} {TL TS A : Nat} {TR : Nat → Nat} (h : (St a b r σ cl cl' R R' TL TS TR A)) {v1 : Int32} : ∃ a' b', Den (d+3) 126 0 [.ref 14, .int v1, zmJ] [] (zmMk n a b r) = some (some (.int (countV σ cl R v1)), zmMk n a' b' r) ∧ St a' b' r σ cl cl' R R' TL TS TR A := by
  obtain ⟨⟨n1, n8⟩, h16, h94, hs⟩ := h.n8
  refine ⟨a, b, ?_, h⟩
  have hx := h.2.1.2.2.2.2.2.2.2.2.2.1
  unfold countV
  by_cases g0 : inI v1 (iN 0) (iN 6) = true
  · rw [if_pos g0]
    obtain ⟨k, -, k2, rfl⟩ := inI_ex (by decide) (by decide) g0
    rw [n_nat (by omega)]
    have j1 : inI (iN k) (iN 10) (iN 13) = false := by rw [inI_n (by omega) (by omega) (by omega), decide_eq_false (show ¬ 10 ≤ k by omega)]; rfl
    have j2 : inI (iN k) (iN 100) (iN 220) = false := by rw [inI_n (by omega) (by omega) (by omega), decide_eq_false (show ¬ 100 ≤ k by omega)]; rfl
    have j3 : inI (iN k) (iN 300) (iN 399) = false := by rw [inI_n (by omega) (by omega) (by omega), decide_eq_false (show ¬ 300 ≤ k by omega)]; rfl
    simp only [b126t_0, c_within, j1, j2, j3, Option.bind_some, Option.toList_some, Option.toList_none, List.cons_append, List.nil_append, true_or, or_true, if_true, bI_if, b126t_8, bI_if, b126t_33, b126t_42, b126t_60, b126t_70, if_true, if_false, Bool.false_eq_true, true_and, and_true, false_and, and_false, true_or, or_true, false_or, or_false, and_self, or_self, decide_true, decide_false, Bool.not_true, Bool.not_false, Bool.and_true, Bool.and_false, Bool.true_and, Bool.false_and, ite_self]
    rcases (by omega : k = 0 ∨ k = 1 ∨ k = 2 ∨ k = 3 ∨ k = 4 ∨ k = 5 ∨ k = 6) with rfl | rfl | rfl | rfl | rfl | rfl | rfl
    · exact b126t_89.trans (b126t_132.trans (by rw [h16]; rfl))
    · exact b126t_89.trans (b126t_140.trans (by rw [h.2.1.2.2.2.2.2.1.1]; rfl))
    · exact b126t_89.trans (b126t_148.trans (by rw [h.2.1.2.2.2.2.2.2.1.2.1]; rfl))
    · exact b126t_89.trans (b126t_156.trans (by rw [h.2.1.2.2.2.2.2.2.1.1]; rfl))
    · exact b126t_89.trans ((b126t_164 hx.2.2.2.2.2.2.1 hx.1).trans (by rw [h.2.1.2.2.2.2.2.2.2.2.2.2.1.1]; rfl))
    · exact b126t_89.trans (b126t_175.trans (by rw [h.2.1.2.2.2.2.1.1]; rfl))
    · exact b126t_89.trans (b126t_180.trans (by rw [h.2.1.2.2.1.2.1]; rfl))
  · rw [if_neg g0]
    by_cases g1 : inI v1 (iN 10) (iN 13) = true
    · rw [if_pos g1]
      obtain ⟨j, j1, j2, rfl⟩ := inI_ex (by decide) (by decide) g1
      rw [n_nat (by omega)]
      have hk : j - 10 < 4 := by omega
      have es : iN j - iN 10 = iN (j - 10) := n_sub (by omega)
      by_cases hR : R (j - 10) = []
      · have e0 := c_tldN (d := d+2) (n := n) (b := b) (v1 := iN (j - 10)) h (fun z => z.2 (by rw [n_nat (by omega)]; exact hR))
        simp only [b126t_0, c_within, g1, Option.bind_some, Option.toList_some, Option.toList_none, List.cons_append, List.nil_append, true_or, or_true, if_true, bI_if, b126t_8, bI_if, b126t_11, es, e0, b126n_19, b126n_24, b126n_32, hR, List.length_nil, if_true, if_false, Bool.false_eq_true, true_and, and_true, false_and, and_false, true_or, or_true, false_or, or_false, and_self, or_self, decide_true, decide_false, Bool.not_true, Bool.not_false, Bool.and_true, Bool.and_false, Bool.true_and, Bool.false_and, ite_self]
      · have e0 := c_tldT (d := d+2) (n := n) (b := b) h hk hR
        have hT : isTx (TR (j - 10)) := hx.2.2.1 _ hk
        have hl := (h.2.1.2.2.2.2.2.2.2.2.2.2.2 _ hk).1
        simp only [b126t_0, c_within, g1, Option.bind_some, Option.toList_some, Option.toList_none, List.cons_append, List.nil_append, true_or, or_true, if_true, bI_if, b126t_8, bI_if, b126t_11, es, e0, b126t_19 hT, b126t_28 hT, b126t_32 hT, hl, if_true, if_false, Bool.false_eq_true, true_and, and_true, false_and, and_false, true_or, or_true, false_or, or_false, and_self, or_self, decide_true, decide_false, Bool.not_true, Bool.not_false, Bool.and_true, Bool.and_false, Bool.true_and, Bool.false_and, ite_self]
    · rw [if_neg g1]
      rw [Bool.not_eq_true] at g1
      by_cases g2 : inI v1 (iN 100) (iN 220) = true
      · rw [if_pos g2]
        obtain ⟨j, j1, j2, rfl⟩ := inI_ex (by decide) (by decide) g2
        rw [n_nat (by omega)]
        have es : iN j - iN 100 = iN (j - 100) := n_sub (by omega)
        have ek := h.2.1.2.2.2.2.2.1.2 (j - 100) (by omega)
        simp only [b126t_0, c_within, g1, g2, Option.bind_some, Option.toList_some, Option.toList_none, List.cons_append, List.nil_append, true_or, or_true, if_true, bI_if, b126t_8, bI_if, b126t_33, b126t_42, b126t_45, es, c_item lay25 (show 25 ≠ 0 by omega) (show 25 < 147 by omega) (show 121 < 2147483648 by omega), itV_n (show j - 100 < 121 by omega) (show 121 < 2147483648 by omega), ek, b126t_59, if_true, if_false, Bool.false_eq_true, true_and, and_true, false_and, and_false, true_or, or_true, false_or, or_false, and_self, or_self, decide_true, decide_false, Bool.not_true, Bool.not_false, Bool.and_true, Bool.and_false, Bool.true_and, Bool.false_and, ite_self]
      · rw [if_neg g2]
        rw [Bool.not_eq_true] at g2
        by_cases g3 : inI v1 (iN 300) (iN 399) = true
        · rw [if_pos g3]
          obtain ⟨j, j1, j2, rfl⟩ := inI_ex (by decide) (by decide) g3
          rw [n_nat (by omega)]
          have es : iN j - iN 300 = iN (j - 300) := n_sub (by omega)
          have ek := h.2.1.2.2.2.2.2.2.1.2.2 (j - 300) (by omega)
          simp only [b126t_0, c_within, g1, g2, g3, Option.bind_some, Option.toList_some, Option.toList_none, List.cons_append, List.nil_append, true_or, or_true, if_true, bI_if, b126t_8, bI_if, b126t_33, b126t_42, b126t_60, b126t_70, b126t_73, es, c_item lay28 (show 28 ≠ 0 by omega) (show 28 < 147 by omega) (show 100 < 2147483648 by omega), itV_n (show j - 300 < 100 by omega) (show 100 < 2147483648 by omega), ek, b126t_88, if_true, if_false, Bool.false_eq_true, true_and, and_true, false_and, and_false, true_or, or_true, false_or, or_false, and_self, or_self, decide_true, decide_false, Bool.not_true, Bool.not_false, Bool.and_true, Bool.and_false, Bool.true_and, Bool.false_and, ite_self]
        · rw [if_neg g3]
          rw [Bool.not_eq_true] at g3
          have et : zmTs 90 98 0 6 #[42, 50, 58, 66, 74, 85, 90] v1 = 188 := by
            unfold zmTs
            rw [if_pos (show v1.toInt < 0 ∨ 6 < v1.toInt from not_inI (lo := 0) (hi := 6) (by omega) (by omega) g0)]
            decide +kernel
          simp only [b126t_0, c_within, g1, g2, g3, Option.bind_some, Option.toList_some, Option.toList_none, List.cons_append, List.nil_append, true_or, or_true, if_true, bI_if, b126t_8, bI_if, b126t_33, b126t_42, b126t_60, b126t_70, b126t_89, et, b126t_188, if_true, if_false, Bool.false_eq_true, true_and, and_true, false_and, and_false, true_or, or_true, false_or, or_false, and_self, or_self, decide_true, decide_false, Bool.not_true, Bool.not_false, Bool.and_true, Bool.and_false, Bool.true_and, Bool.false_and, ite_self]
theorem m_count {d : Nat} {n : Nat} {a : Nat → Nat → Int32} {b : Nat → Nat → Int64} {r : Nat → Nat → Option Nat} {σ : SV} {cl cl' : List Cls} {R R' : Nat → List Cls} {TL TS A : Nat} {TR : Nat → Nat} (h : (St a b r σ cl cl' R R' TL TS TR A)) {v1 : Int32} : ∃ a' b', Den (d+3) 268 0 [.ref 94, .int v1] [] (zmMk n a b r) = some (some (.int (countV σ cl R v1)), zmMk n a' b' r) ∧ St a' b' r σ cl cl' R R' TL TS TR A := by
  obtain ⟨⟨n1, n8⟩, h16, h94, hs⟩ := h.n8
  refine ⟨a, b, ?_, h⟩
  unfold countV
  rw [b268_0]
  by_cases g0 : inI v1 (iN 0) (iN 6) = true
  · rw [if_pos g0]
    obtain ⟨k, -, k2, rfl⟩ := inI_ex (by decide) (by decide) g0
    rw [n_nat (by omega)]
    rcases (by omega : k = 0 ∨ k = 1 ∨ k = 2 ∨ k = 3 ∨ k = 4 ∨ k = 5 ∨ k = 6) with rfl | rfl | rfl | rfl | rfl | rfl | rfl
    · exact b268_44.trans (by rw [h94]; rfl)
    · exact b268_49.trans (by rw [h.2.2.1.2.2.2.1.1]; rfl)
    · exact b268_54.trans (by rw [h.2.2.1.2.2.2.2.1.2.1]; rfl)
    · exact b268_59.trans (by rw [h.2.2.1.2.2.2.2.1.1]; rfl)
    · exact b268_64.trans (by rw [h.2.2.1.2.2.2.2.2.2.1.1, ← cleq_len _ h.1.2.2.2.2.2.2.2.1]; rfl)
    · exact b268_71.trans (by rw [h.2.2.1.2.2.1.1]; rfl)
    · exact b268_76.trans (by rw [h.2.2.1.1.2.1]; rfl)
  · rw [if_neg g0]
    have et : zmTs 1 80 0 6 #[43, 48, 53, 58, 63, 70, 75] v1 = 81 := by
      unfold zmTs
      rw [if_pos (show v1.toInt < 0 ∨ 6 < v1.toInt from not_inI (lo := 0) (hi := 6) (by omega) (by omega) g0)]
      decide +kernel
    rw [et]
    by_cases g1 : inI v1 (iN 10) (iN 13) = true
    · rw [if_pos g1]
      obtain ⟨j, j1, j2, rfl⟩ := inI_ex (by decide) (by decide) g1
      rw [n_nat (by omega)]
      have hk : j - 10 < 4 := by omega
      have es : iN j - iN 9 = iN (j - 9) := n_sub (by omega)
      have hin : zmIn (iN (j - 9)) 5 = true := by rw [n_in (by omega)]; exact decide_eq_true (by omega)
      obtain ⟨l1, -⟩ := h.reqE hk
      rw [show j - 10 + 1 = j - 9 by omega] at l1
      simp only [b268_81, m_in, g1, Option.bind_some, Option.toList_some, Option.toList_none, List.cons_append, List.nil_append, true_or, or_true, if_true, bI_if, b268_89, bI_if, b268_92, es, hin, n_nat (show j - 9 < 2147483648 by omega), l1, b268_101, if_true, if_false, Bool.false_eq_true, true_and, and_true, false_and, and_false, true_or, or_true, false_or, or_false, and_self, or_self, decide_true, decide_false, Bool.not_true, Bool.not_false, Bool.and_true, Bool.and_false, Bool.true_and, Bool.false_and, ite_self]
    · rw [if_neg g1]
      rw [Bool.not_eq_true] at g1
      by_cases g2 : inI v1 (iN 100) (iN 220) = true
      · rw [if_pos g2]
        obtain ⟨j, j1, j2, rfl⟩ := inI_ex (by decide) (by decide) g2
        rw [n_nat (by omega)]
        have es : iN j - iN 100 = iN (j - 100) := n_sub (by omega)
        have ek : Den (d+2) 165 0 [.ref 94, .int (iN (j - 100))] [] (zmMk n a b r) = some (some (.int (iN (sK σ (j - 100)))), (zmMk n a b r)) := m_kindWith ⟨h.2.2.1.2.2.2.1.1, h.1.2.2.2.2.1.1, h.2.2.1.2.2.2.1.2⟩ (by omega)
        simp only [b268_81, m_in, g1, g2, Option.bind_some, Option.toList_some, Option.toList_none, List.cons_append, List.nil_append, true_or, or_true, if_true, bI_if, b268_89, bI_if, b268_102, b268_111, b268_114, es, ek, b268_122, if_true, if_false, Bool.false_eq_true, true_and, and_true, false_and, and_false, true_or, or_true, false_or, or_false, and_self, or_self, decide_true, decide_false, Bool.not_true, Bool.not_false, Bool.and_true, Bool.and_false, Bool.true_and, Bool.false_and, ite_self]
      · rw [if_neg g2]
        rw [Bool.not_eq_true] at g2
        by_cases g3 : inI v1 (iN 300) (iN 399) = true
        · rw [if_pos g3]
          obtain ⟨j, j1, j2, rfl⟩ := inI_ex (by decide) (by decide) g3
          rw [n_nat (by omega)]
          have es : iN j - iN 300 = iN (j - 300) := n_sub (by omega)
          have hq := h.1.2.2.2.2.2.1
          have ek : Den (d+2) 166 0 [.ref 94, .int (iN (j - 300)), zmJ, zmJ] [] (zmMk n a b r) = some (some (.int (iN (sW σ (j - 300)))), (zmMk n a b r)) := m_waitingAt ⟨h.2.2.1.2.2.2.2.1.1, hq.1, fun j hj => ⟨h.2.2.1.2.2.2.2.1.2.2 j hj, by have := hq.2.2 j hj; omega⟩⟩ (by omega)
          simp only [b268_81, m_in, g1, g2, g3, Option.bind_some, Option.toList_some, Option.toList_none, List.cons_append, List.nil_append, true_or, or_true, if_true, bI_if, b268_89, bI_if, b268_102, b268_111, b268_123, b268_133, b268_136, es, ek, b268_145, b268_149, if_true, if_false, Bool.false_eq_true, true_and, and_true, false_and, and_false, true_or, or_true, false_or, or_false, and_self, or_self, decide_true, decide_false, Bool.not_true, Bool.not_false, Bool.and_true, Bool.and_false, Bool.true_and, Bool.false_and, ite_self]
        · rw [if_neg g3]
          rw [Bool.not_eq_true] at g3
          simp only [b268_81, m_in, g1, g2, g3, Option.bind_some, Option.toList_some, Option.toList_none, List.cons_append, List.nil_append, true_or, or_true, if_true, bI_if, b268_89, bI_if, b268_102, b268_111, b268_123, b268_133, b268_148, b268_149, if_true, if_false, Bool.false_eq_true, true_and, and_true, false_and, and_false, true_or, or_true, false_or, or_false, and_self, or_self, decide_true, decide_false, Bool.not_true, Bool.not_false, Bool.and_true, Bool.and_false, Bool.true_and, Bool.false_and, ite_self]
