/-! ===== the LOG told, both sides ===== -/
def tldL (E L : Nat) (P A : Nat → Nat) (w : Int32) : Int32 :=
  if w = iN 0 then iN L else if w = iN 1 then iN E else
  if inI w (iN 10) (iN (9 + L)) = true then iN (A (w - iN 10).toNatClampNeg) else
  if E ≠ 0 ∧ inI w (iN 20) (iN (20 + L)) = true then iN (pY (P (w - iN 20).toNatClampNeg)) else
  if E ≠ 0 ∧ inI w (iN 30) (iN (30 + L)) = true then iN (pS (P (w - iN 30).toNatClampNeg)) else -1
/-- the LOG's values -/
def LogV (Q : AQ) (N L E : Nat) (P A : Nat → Nat) : Prop := L ≤ N ∧ E ≤ 3 ∧ (E = 0 → L = 0) ∧ (∀ j, j ≤ L → P j < 4840) ∧ ∀ j, j < L → (A j < 8 ∧ A j ≠ 4) ∧ (A j ≠ 0 → mayP Q j (P j) (A j)) ∧ pY (P j) ≠ 0
def LogC (a : Nat → Nat → Int32) (L E : Nat) (P A : Nat → Nat) : Prop := a 62 2 = iN L ∧ a 62 3 = iN E ∧ (E ≠ 0 → ∀ j, j ≤ L → a 64 j = iN (P j)) ∧ ∀ j, j < L → a 63 j = iN (A j)
def LogM (a : Nat → Nat → Int32) (L E : Nat) (P A : Nat → Nat) : Prop := a 94 74 = iN E ∧ (E ≠ 0 → a 94 73 = iN L ∧ (∀ j, j ≤ L → a 134 j = iN (P j)) ∧ ∀ j, j < L → a 135 j = iN (A j))
theorem c_told {d N L E : Nat} {n : Nat} {a : Nat → Nat → Int32} {b : Nat → Nat → Int64} {r : Nat → Nat → Option Nat} {Q : AQ} {P A : Nat → Nat} {w : Int32} (hV : LogV Q N L E P A) (hN : N ≤ 8) (hL : LogC a L E P A) : Den (d+2) 26 0 [.ref 62, .int w] [] (zmMk n a b r) = some (some (.int (tldL E L P A w)), (zmMk n a b r)) := by
  obtain ⟨v1, v2, v3, v4, v5⟩ := hV
  obtain ⟨h1, h2, h3, h4⟩ := hL
  unfold tldL
  have e10 : iN (10 + L) - iN 1 = iN (9 + L) := by rw [n_sub (by omega)]; congr 1; omega
  simp (disch := omega) only [b26_0, b26_4, b26_9, b26_14, b26_19, h1, h2, e10, c_within, Option.bind_some, Option.toList_some, Option.toList_none, List.cons_append, List.nil_append, true_or, or_true, if_true, bI_if, b26_34, b26_46, b26_53, b26_66, b26_81, b26_88, b26_101, b26_124, n_add, n_eq]
  by_cases w0 : w = iN 0
  · rw [if_pos w0, if_pos w0]
  rw [if_neg w0, if_neg w0]
  by_cases w1 : w = iN 1
  · rw [if_pos w1, if_pos w1]
  rw [if_neg w1, if_neg w1]
  cases ha : inI w (iN 10) (iN (9 + L)) with
  | true =>
    obtain ⟨k, k1, k2, rfl⟩ := inI_ex (by decide) (by omega) ha
    have ek : Den (d+1) 23 0 [.ref 62, .int (iN (k - 10))] [] (zmMk n a b r) = _ := c_actionAt (by omega)
    simp (disch := omega) only [if_true, b26_37, n_sub, ek, Option.bind_some, Option.toList_some, Option.toList_none, List.cons_append, List.nil_append, true_or, or_true, if_true, bI_if, b26_45, n_nat]
    rw [h4 (k - 10) (by omega)]
  | false =>
    simp only [Bool.false_eq_true, if_false]
    by_cases hE : E = 0
    · simp only [hE, if_true, ne_eq, not_true, false_and, if_false]
    · simp only [hE, if_false, ne_eq, not_false_eq_true, true_and]
      cases hb : inI w (iN 20) (iN (20 + L)) with
      | true =>
        obtain ⟨k, k1, k2, rfl⟩ := inI_ex (by decide) (by omega) hb
        have ek : Den (d+1) 22 0 [.ref 62, .int (iN (k - 20))] [] (zmMk n a b r) = _ := c_placeAt (by omega)
        have hp := v4 (k - 20) (by omega)
        simp (disch := omega) only [if_true, b26_69, n_sub, ek, Option.bind_some, Option.toList_some, Option.toList_none, List.cons_append, List.nil_append, true_or, or_true, if_true, bI_if, h3 hE (k - 20) (by omega), b26_77, c_yardsAt hp, b26_80, n_nat]
      | false =>
        simp only [Bool.false_eq_true, if_false]
        cases hc : inI w (iN 30) (iN (30 + L)) with
        | true =>
          obtain ⟨k, k1, k2, rfl⟩ := inI_ex (by decide) (by omega) hc
          have ek : Den (d+1) 22 0 [.ref 62, .int (iN (k - 30))] [] (zmMk n a b r) = _ := c_placeAt (by omega)
          have hp := v4 (k - 30) (by omega)
          have hpS := pS_le (P (k - 30))
          simp (disch := omega) only [if_true, b26_104, n_sub, ek, Option.bind_some, Option.toList_some, Option.toList_none, List.cons_append, List.nil_append, true_or, or_true, if_true, bI_if, h3 hE (k - 30) (by omega), b26_112, c_isSeenAt hp, b26_115, n_nat]
          by_cases hs : pS (P (k - 30)) = 1
          · simp only [hs, decide_true, if_true, b26_118, b26_123]
          · simp only [show pS (P (k - 30)) = 0 by omega, show ¬ (0 : Nat) = 1 by omega, decide_false, Bool.false_eq_true, if_false, b26_122, b26_123]
        | false => simp only [Bool.false_eq_true, if_false]
theorem m_log {d N L E : Nat} {n : Nat} {a : Nat → Nat → Int32} {b : Nat → Nat → Int64} {r : Nat → Nat → Option Nat} {Q : AQ} {P A : Nat → Nat} {w : Int32} (hV : LogV Q N L E P A) (hN : N ≤ 8) (hL : LogM a L E P A) : Den (d+2) 254 0 [.ref 94, .int w] [] (zmMk n a b r) = some (some (.int (tldL E L P A w)), (zmMk n a b r)) := by
  obtain ⟨v1, v2, v3, v4, v5⟩ := hV
  obtain ⟨h1, h2⟩ := hL
  have ne01 : ¬ iN 0 = iN 1 := by rw [n_eq (by omega) (by omega)]; omega
  have ne10 : ¬ iN 1 = iN 0 := by rw [n_eq (by omega) (by omega)]; omega
  by_cases hE : E = 0
  · have hL0 := v3 hE
    subst hE hL0
    have hn : inI w (iN 10) (iN (9 + 0)) = false := by
      cases ha : inI w (iN 10) (iN (9 + 0)) with
      | false => rfl
      | true =>
        obtain ⟨k, k1, k2, -⟩ := inI_ex (by decide) (by decide) ha
        omega
    unfold tldL
    simp (disch := omega) only [b254_0, b254_5, b254_10, b254_14, b254_21, b254_29, b254_30, b254_37, h1, n_eq, if_true, hn, Bool.false_eq_true, if_false, ne_eq, not_true, false_and]
    by_cases w0 : w = iN 0
    · rw [if_neg (by rw [w0]; exact ne01), if_pos w0, if_pos w0]
    · by_cases w1 : w = iN 1
      · rw [if_pos w1, if_neg w0, if_pos w1]
      · rw [if_neg w1, if_neg w0, if_neg w0, if_neg w1]
  · obtain ⟨h2, h3, h4⟩ := h2 hE
    unfold tldL
    have e0 : Den (d+2) 254 0 [.ref 94, .int w] [] (zmMk n a b r) = if w = iN 1 then some (some (.int (iN E)), (zmMk n a b r)) else if w = iN 0 then some (some (.int (iN L)), (zmMk n a b r)) else Den (d+2) 254 39 [.ref 94,.int w] [] (zmMk n a b r) := by
      simp (disch := omega) only [b254_0, b254_5, b254_10, b254_14, b254_25, b254_29, b254_30, h1, h2, n_eq, hE, if_false]
    rw [e0]
    by_cases w0 : w = iN 0
    · rw [if_neg (by rw [w0]; exact ne01), if_pos w0, if_pos w0]
    by_cases w1 : w = iN 1
    · rw [if_pos w1, if_neg w0, if_pos w1]
    rw [if_neg w1, if_neg w0, if_neg w0, if_neg w1, b254_39, h2, n_add, m_in]
    simp (disch := omega) only [Option.bind_some, Option.toList_some, Option.toList_none, List.cons_append, List.nil_append, true_or, or_true, if_true, bI_if, b254_52, hE, ne_eq, not_false_eq_true, true_and]
    cases ha : inI w (iN 10) (iN (9 + L)) with
    | true =>
      obtain ⟨k, k1, k2, rfl⟩ := inI_ex (by decide) (by omega) ha
      rw [if_pos rfl, if_pos rfl, b254_55, n_sub (by omega), n_in (by omega), if_pos (decide_eq_true (by omega)), b254_64, n_nat (by omega), h4 (k - 10) (by omega)]
    | false =>
      simp only [Bool.false_eq_true, if_false, b254_65, h2, n_add, m_in, Option.bind_some, Option.toList_some, Option.toList_none, List.cons_append, List.nil_append, true_or, or_true, if_true, bI_if, b254_78]
      cases hb : inI w (iN 20) (iN (20 + L)) with
      | true =>
        obtain ⟨k, k1, k2, rfl⟩ := inI_ex (by decide) (by omega) hb
        have hp := v4 (k - 20) (by omega)
        rw [if_pos rfl, if_pos rfl, b254_81, n_sub (by omega), n_in (by omega), if_pos (decide_eq_true (by omega)), n_nat (by omega), h3 (k - 20) (by omega), b254_90, m_yardsIn hp]
        simp only [Option.bind_some, Option.toList_some, Option.toList_none, List.cons_append, List.nil_append, true_or, or_true, if_true, bI_if, b254_93]
      | false =>
        simp only [Bool.false_eq_true, if_false, b254_94, h2, n_add, m_in, Option.bind_some, Option.toList_some, Option.toList_none, List.cons_append, List.nil_append, true_or, or_true, if_true, bI_if, b254_107]
        cases hc : inI w (iN 30) (iN (30 + L)) with
        | true =>
          obtain ⟨k, k1, k2, rfl⟩ := inI_ex (by decide) (by omega) hc
          have hp := v4 (k - 30) (by omega)
          rw [if_pos rfl, if_pos rfl, b254_110, n_sub (by omega), n_in (by omega), if_pos (decide_eq_true (by omega)), n_nat (by omega), h3 (k - 30) (by omega), b254_119, m_seenIn hp]
          simp only [Option.bind_some, Option.toList_some, Option.toList_none, List.cons_append, List.nil_append, true_or, or_true, if_true, bI_if, b254_122, b254_126]
        | false => simp only [Bool.false_eq_true, if_false, b254_125, b254_126]
