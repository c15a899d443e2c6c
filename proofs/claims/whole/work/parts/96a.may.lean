/-! ===== questions: may, after, best ===== -/
theorem isAc_0 : isAc (iN 0) = true := by decide +kernel
theorem isMv_0 : isMv (iN 0) = false := by decide +kernel
theorem isAc_mv {x : Int32} (h : x ≠ iN 0) : isAc x = isMv x := by
  rw [Bool.eq_iff_iff]
  constructor
  · intro h2
    unfold isAc at h2
    rw [Bool.and_eq_true] at h2
    obtain ⟨k, h3, h4, rfl⟩ := inI_ex (by decide) (by decide) h2.1
    have h0 : k ≠ 0 := fun e => h (by rw [e])
    unfold isMv
    rw [Bool.and_eq_true, inI_n (by omega) (by omega) (by omega), Bool.and_eq_true]
    exact ⟨⟨decide_eq_true (by omega), decide_eq_true h4⟩, h2.2⟩
  · intro h2
    unfold isMv at h2
    rw [Bool.and_eq_true] at h2
    obtain ⟨k, h3, h4, rfl⟩ := inI_ex (by decide) (by decide) h2.1
    unfold isAc
    rw [Bool.and_eq_true, inI_n (by omega) (by omega) (by omega), Bool.and_eq_true]
    exact ⟨⟨decide_eq_true (by omega), decide_eq_true h4⟩, h2.2⟩
theorem isSt_ex {y e : Int32} (h : isSt y e = true) : ∃ i j : Nat, i ≤ 120 ∧ j ≤ 9 ∧ y = iN i ∧ e = iN j := by
  unfold isSt at h
  rw [Bool.and_eq_true] at h
  obtain ⟨i, -, h2, h3⟩ := inI_ex (by decide) (by decide) h.1
  obtain ⟨j, -, h5, h6⟩ := inI_ex (by decide) (by decide) h.2
  exact ⟨i, j, h2, h5, h3, h6⟩
/-- a STATE that is told -/
def plI (y e : Int32) (s u : Bool) : Nat := plc y.toNatClampNeg e.toNatClampNeg (bN s) (bN u)
theorem plI_n {i j : Nat} (hi : i ≤ 120) (hj : j ≤ 9) (s u : Bool) : plI (iN i) (iN j) s u = plc i j (bN s) (bN u) := by
  unfold plI
  rw [n_nat (by omega), n_nat (by omega)]
theorem plc_ltB {i j : Nat} (hi : i ≤ 120) (hj : j ≤ 9) (s u : Bool) : plc i j (bN s) (bN u) < 4840 := plc_lt hi hj (bN_le s) (bN_le u)
theorem pY_plB {i j : Nat} (hi : i ≤ 120) (hj : j ≤ 9) (s u : Bool) : pY (plc i j (bN s) (bN u)) = i := pY_plc hj (bN_le s) (bN_le u)
theorem St.n8 {a : Nat → Nat → Int32} {b : Nat → Nat → Int64} {r : Nat → Nat → Option Nat} {σ : SV} {cl cl' : List Cls} {R R' : Nat → List Cls} {TL TS A : Nat} {TR : Nat → Nat} (h : (St a b r σ cl cl' R R' TL TS TR A)) : (1 ≤ σ 0 0 ∧ σ 0 0 ≤ 8) ∧ a 16 0 = iN (σ 0 0) ∧ a 94 0 = iN (σ 0 0) ∧ iN (σ 0 0) - iN 1 = iN (σ 0 0 - 1) := ⟨h.1.1.1, h.2.1.2.2.1.1, h.2.2.1.1.1, n_sub (by have := h.1.1.1.1; omega)⟩
theorem m_isState {d N : Nat} {n : Nat} {a : Nat → Nat → Int32} {b : Nat → Nat → Int64} {r : Nat → Nat → Option Nat} {t y e : Int32} (hN : a 94 0 = iN N) : Den (d+1) 201 0 [.ref 94, .int t, .int y, .int e] [] (zmMk n a b r) = some (some (.int (bI (inI t (iN 0) (iN N) && isSt y e))), (zmMk n a b r)) := by
  unfold isSt
  cases h1 : inI t (iN 0) (iN N) <;> cases h2 : inI y (iN 0) (iN 120) <;> cases h3 : inI e (iN 0) (iN 9) <;> simp only [b201_0, b201_9, b201_12, b201_19, b201_22, b201_29, b201_32, b201_36, b201_37, m_in, hN, h1, h2, h3, Option.bind_some, Option.toList_some, Option.toList_none, List.cons_append, List.nil_append, true_or, or_true, if_true, bI_if, bI_if, Bool.false_eq_true, if_false, if_true, Bool.and_true, Bool.and_false, Bool.true_and, Bool.false_and] <;> rfl
theorem inI_hi {t : Int32} {N : Nat} (h1 : 1 ≤ N) (h8 : N ≤ 8) : inI t (iN 0) (iN (N - 1)) = (inI t (iN 0) (iN N) && !decide (t = iN N)) := by
  rw [Bool.eq_iff_iff]
  constructor
  · intro h
    obtain ⟨k, -, h2, rfl⟩ := inI_ex (by decide) (by omega) h
    rw [Bool.and_eq_true, inI_n (by omega) (by omega) (by omega), Bool.and_eq_true, decide_eq_false (eq_n (show k ≠ N by omega) (by omega) (by omega))]
    exact ⟨⟨decide_eq_true (by omega), decide_eq_true (by omega)⟩, rfl⟩
  · intro h
    rw [Bool.and_eq_true] at h
    obtain ⟨k, -, h2, rfl⟩ := inI_ex (by decide) (by omega) h.1
    have h3 : k ≠ N := fun e => by
      have := h.2
      rw [e, decide_eq_true rfl] at this
      cases this
    rw [inI_n (by omega) (by omega) (by omega), Bool.and_eq_true]
    exact ⟨decide_eq_true (by omega), decide_eq_true (by omega)⟩
def mayV (σ : SV) (cl : List Cls) (v1 v2 v3 : Int32) (s u : Bool) (v6 : Int32) : Int32 := if inI v1 (iN 0) (iN (σ 0 0 - 1)) = true ∧ isSt v2 v3 = true ∧ isAc v6 = true then (if v6 = iN 0 ∨ mayP (QS σ cl) v1.toNatClampNeg (plI v2 v3 s u) v6.toNatClampNeg then iN 1 else iN 0) else -1
theorem c_may {d : Nat} {n : Nat} {a : Nat → Nat → Int32} {b : Nat → Nat → Int64} {r : Nat → Nat → Option Nat} {σ : SV} {cl cl' : List Cls} {R R' : Nat → List Cls} {TL TS A : Nat} {TR : Nat → Nat} (h : (St a b r σ cl cl' R R' TL TS TR A)) {v1 v2 v3 v6 : Int32} {s u : Bool} : ∃ a' b', Den (d+14) 99 0 [.ref 14, .int v1, .int v2, .int v3, .int (bI s), .int (bI u), .int v6] [] (zmMk n a b r) = some (some (.int (mayV σ cl v1 v2 v3 s u v6)), zmMk n a' b' r) ∧ St a' b' r σ cl cl' R R' TL TS TR A := by
  obtain ⟨⟨n1, n8⟩, h16, -, hs⟩ := h.n8
  unfold mayV
  by_cases g1 : inI v1 (iN 0) (iN (σ 0 0 - 1)) = true
  · by_cases g2 : isSt v2 v3 = true
    · obtain ⟨t, -, t2, rfl⟩ := inI_ex (by decide) (by omega) g1
      obtain ⟨i, j, i1, j1, rfl, rfl⟩ := isSt_ex g2
      by_cases g0 : v6 = iN 0
      · refine ⟨a, b, ?_, h⟩
        subst g0
        simp only [b99_0, b99_14, b99_17, b99_22, b99_25, b99_30, b99_35, b99_38, b99_40, b99_45, b99_47, b99_61, b99_66, b99_69, b99_73, b99_74, h16, hs, c_within, c_isState, Option.bind_some, Option.toList_some, Option.toList_none, List.cons_append, List.nil_append, true_or, or_true, if_true, bI_if, bI_if, g1, g2, isAc_0, if_true, if_false, Bool.false_eq_true, true_and, and_true, false_and, and_false, true_or, or_true, false_or, or_false, and_self, or_self, decide_true, decide_false, Bool.not_true, Bool.not_false, Bool.and_true, Bool.and_false, Bool.true_and, Bool.false_and, ite_self]
      · by_cases g3 : isMv v6 = true
        · obtain ⟨k, k1, k2, k3, rfl⟩ := isMv_ex g3
          have hp := plc_ltB i1 j1 s u
          obtain ⟨a1, e1, f1⟩ := c_behind (d := d+1) (n := n) (b := b) (r := r) h.envC (t := t) (p := plc i j (bN s) (bN u)) (act := k) rfl rfl rfl (by omega) hp ⟨k2, k3⟩
          have hbl := behP_lt (Q := QS σ cl) (t := t) (act := k) hp
          refine ⟨a1, b, ?_, h.qc f1.q rfl rfl (h.2.2.2.fr f1 rfl rfl)⟩
          simp only [b99_0, b99_14, b99_17, b99_22, b99_25, b99_30, b99_35, b99_38, b99_40, b99_45, b99_47, b99_61, b99_66, b99_69, b99_73, b99_74, h16, hs, c_within, c_isState, c_isMove, Option.bind_some, Option.toList_some, Option.toList_none, List.cons_append, List.nil_append, true_or, or_true, if_true, bI_if, bI_if, g1, g2, g3, c_placeOf, e1, isAc_mv g0, plI_n i1 j1, n_nat (show t < 2147483648 by omega), n_nat (show k < 2147483648 by omega), if_neg g0, if_true, if_false, Bool.false_eq_true, true_and, and_true, false_and, and_false, true_or, or_true, false_or, or_false, and_self, or_self, decide_true, decide_false, Bool.not_true, Bool.not_false, Bool.and_true, Bool.and_false, Bool.true_and, Bool.false_and, ite_self]
          by_cases hm : mayP (QS σ cl) t (plc i j (bN s) (bN u)) k
          · simp only [if_pos hm, n_not_neg (show behP (QS σ cl) t (plc i j (bN s) (bN u)) k < 2147483648 by omega), if_false, hm, or_true, if_true]
          · have h2 : (-2 : Int32) < iN 0 := by decide +kernel
            simp only [if_neg hm, if_pos h2, hm, g0, or_self, if_false]
        · refine ⟨a, b, ?_, h⟩
          simp only [b99_0, b99_14, b99_17, b99_22, b99_25, b99_30, b99_35, b99_38, b99_40, b99_45, b99_47, b99_61, b99_66, b99_69, b99_73, b99_74, h16, hs, c_within, c_isState, c_isMove, Option.bind_some, Option.toList_some, Option.toList_none, List.cons_append, List.nil_append, true_or, or_true, if_true, bI_if, bI_if, g1, g2, g3, if_neg g0, isAc_mv g0, if_true, if_false, Bool.false_eq_true, true_and, and_true, false_and, and_false, true_or, or_true, false_or, or_false, and_self, or_self, decide_true, decide_false, Bool.not_true, Bool.not_false, Bool.and_true, Bool.and_false, Bool.true_and, Bool.false_and, ite_self]
    · refine ⟨a, b, ?_, h⟩
      simp only [b99_0, b99_14, b99_17, b99_22, b99_25, b99_30, b99_35, b99_38, b99_40, b99_45, b99_47, b99_61, b99_66, b99_69, b99_73, b99_74, h16, hs, c_within, c_isState, Option.bind_some, Option.toList_some, Option.toList_none, List.cons_append, List.nil_append, true_or, or_true, if_true, bI_if, bI_if, g1, g2, if_true, if_false, Bool.false_eq_true, true_and, and_true, false_and, and_false, true_or, or_true, false_or, or_false, and_self, or_self, decide_true, decide_false, Bool.not_true, Bool.not_false, Bool.and_true, Bool.and_false, Bool.true_and, Bool.false_and, ite_self]
  · refine ⟨a, b, ?_, h⟩
    simp only [b99_0, b99_14, b99_17, b99_22, b99_25, b99_30, b99_35, b99_38, b99_40, b99_45, b99_47, b99_61, b99_66, b99_69, b99_73, b99_74, h16, hs, c_within, Option.bind_some, Option.toList_some, Option.toList_none, List.cons_append, List.nil_append, true_or, or_true, if_true, bI_if, bI_if, g1, if_true, if_false, Bool.false_eq_true, true_and, and_true, false_and, and_false, true_or, or_true, false_or, or_false, and_self, or_self, decide_true, decide_false, Bool.not_true, Bool.not_false, Bool.and_true, Bool.and_false, Bool.true_and, Bool.false_and, ite_self]
theorem m_may {d : Nat} {n : Nat} {a : Nat → Nat → Int32} {b : Nat → Nat → Int64} {r : Nat → Nat → Option Nat} {σ : SV} {cl cl' : List Cls} {R R' : Nat → List Cls} {TL TS A : Nat} {TR : Nat → Nat} (h : (St a b r σ cl cl' R R' TL TS TR A)) {v1 v2 v3 v6 : Int32} {s u : Bool} : ∃ a' b', Den (d+14) 213 0 [.ref 94, .int v1, .int v2, .int v3, .int (bI s), .int (bI u), .int v6] [] (zmMk n a b r) = some (some (.int (mayV σ cl v1 v2 v3 s u v6)), zmMk n a' b' r) ∧ St a' b' r σ cl cl' R R' TL TS TR A := by
  obtain ⟨⟨n1, n8⟩, -, h94, hs⟩ := h.n8
  unfold mayV
  rw [inI_hi n1 n8]
  by_cases g1 : inI v1 (iN 0) (iN (σ 0 0)) = true
  · by_cases g2 : isSt v2 v3 = true
    · obtain ⟨t, -, t2, rfl⟩ := inI_ex (by decide) (by omega) g1
      obtain ⟨i, j, i1, j1, rfl, rfl⟩ := isSt_ex g2
      by_cases g4 : iN t = iN (σ 0 0)
      · refine ⟨a, b, ?_, h⟩
        simp only [b213_0, b213_7, b213_10, b213_18, b213_23, b213_26, b213_28, b213_39, b213_44, b213_47, b213_51, b213_52, h94, m_isState h94, Option.bind_some, Option.toList_some, Option.toList_none, List.cons_append, List.nil_append, true_or, or_true, if_true, bI_if, bI_if, g1, g2, g4, if_true, if_false, Bool.false_eq_true, true_and, and_true, false_and, and_false, true_or, or_true, false_or, or_false, and_self, or_self, decide_true, decide_false, Bool.not_true, Bool.not_false, Bool.and_true, Bool.and_false, Bool.true_and, Bool.false_and, ite_self]
      · by_cases g3 : isAc v6 = true
        · by_cases g0 : v6 = iN 0
          · have hp := plc_ltB i1 j1 s u
            have hET := h.envT (n := n)
            obtain ⟨a1, e1, f1⟩ := m_mayBeA (d := d+3) (n := n) (b := b) (r := r) hET.1 hET.2.2.2.2.2.2 (t := t) (p := plc i j (bN s) (bN u)) (act := 0) (by omega) hp (by omega)
            subst g0
            refine ⟨a1, b, ?_, h.qm f1.q (fun _ _ => rfl)⟩
            simp only [b213_0, b213_7, b213_10, b213_18, b213_23, b213_26, b213_28, b213_39, b213_44, b213_47, b213_51, b213_52, h94, m_isState h94, m_isAction, Option.bind_some, Option.toList_some, Option.toList_none, List.cons_append, List.nil_append, true_or, or_true, if_true, bI_if, bI_if, g1, g2, g3, g4, m_told, e1, if_true, if_false, Bool.false_eq_true, true_and, and_true, false_and, and_false, true_or, or_true, false_or, or_false, and_self, or_self, decide_true, decide_false, Bool.not_true, Bool.not_false, Bool.and_true, Bool.and_false, Bool.true_and, Bool.false_and, ite_self]
          · have g5 := g3
            rw [isAc_mv g0] at g5
            obtain ⟨k, k1, k2, k3, rfl⟩ := isMv_ex g5
            have hp := plc_ltB i1 j1 s u
            have hET := h.envT (n := n)
            obtain ⟨a1, e1, f1⟩ := m_mayBeA (d := d+3) (n := n) (b := b) (r := r) hET.1 hET.2.2.2.2.2.2 (t := t) (p := plc i j (bN s) (bN u)) (act := k) (by omega) hp ⟨k2, k3⟩
            refine ⟨a1, b, ?_, h.qm f1.q (fun _ _ => rfl)⟩
            simp only [b213_0, b213_7, b213_10, b213_18, b213_23, b213_26, b213_28, b213_39, b213_44, b213_47, b213_51, b213_52, h94, m_isState h94, m_isAction, Option.bind_some, Option.toList_some, Option.toList_none, List.cons_append, List.nil_append, true_or, or_true, if_true, bI_if, bI_if, g1, g2, g3, g4, m_told, e1, plI_n i1 j1, n_nat (show t < 2147483648 by omega), n_nat (show k < 2147483648 by omega), g0, if_true, if_false, Bool.false_eq_true, true_and, and_true, false_and, and_false, true_or, or_true, false_or, or_false, and_self, or_self, decide_true, decide_false, Bool.not_true, Bool.not_false, Bool.and_true, Bool.and_false, Bool.true_and, Bool.false_and, ite_self]
            have hk0 : ¬ k = 0 := by omega
            by_cases hm : mayP (QS σ cl) t (plc i j (bN s) (bN u)) k
            · have hm' := hm
              unfold mayP at hm'
              simp only [hk0, hm', hm, false_or, decide_true, if_true]
            · have hm' := hm
              unfold mayP at hm'
              simp only [hk0, hm', hm, or_self, decide_false, Bool.false_eq_true, if_false]
        · refine ⟨a, b, ?_, h⟩
          simp only [b213_0, b213_7, b213_10, b213_18, b213_23, b213_26, b213_28, b213_39, b213_44, b213_47, b213_51, b213_52, h94, m_isState h94, m_isAction, Option.bind_some, Option.toList_some, Option.toList_none, List.cons_append, List.nil_append, true_or, or_true, if_true, bI_if, bI_if, g1, g2, g3, g4, if_true, if_false, Bool.false_eq_true, true_and, and_true, false_and, and_false, true_or, or_true, false_or, or_false, and_self, or_self, decide_true, decide_false, Bool.not_true, Bool.not_false, Bool.and_true, Bool.and_false, Bool.true_and, Bool.false_and, ite_self]
    · refine ⟨a, b, ?_, h⟩
      simp only [b213_0, b213_7, b213_10, b213_18, b213_23, b213_26, b213_28, b213_39, b213_44, b213_47, b213_51, b213_52, h94, m_isState h94, Option.bind_some, Option.toList_some, Option.toList_none, List.cons_append, List.nil_append, true_or, or_true, if_true, bI_if, bI_if, g1, g2, if_true, if_false, Bool.false_eq_true, true_and, and_true, false_and, and_false, true_or, or_true, false_or, or_false, and_self, or_self, decide_true, decide_false, Bool.not_true, Bool.not_false, Bool.and_true, Bool.and_false, Bool.true_and, Bool.false_and, ite_self]
  · refine ⟨a, b, ?_, h⟩
    simp only [b213_0, b213_7, b213_10, b213_18, b213_23, b213_26, b213_28, b213_39, b213_44, b213_47, b213_51, b213_52, h94, m_isState h94, Option.bind_some, Option.toList_some, Option.toList_none, List.cons_append, List.nil_append, true_or, or_true, if_true, bI_if, bI_if, g1, if_true, if_false, Bool.false_eq_true, true_and, and_true, false_and, and_false, true_or, or_true, false_or, or_false, and_self, or_self, decide_true, decide_false, Bool.not_true, Bool.not_false, Bool.and_true, Bool.and_false, Bool.true_and, Bool.false_and, ite_self]
