/-! ===== had he seen me ===== -/
def hadV (σ : SV) (cl : List Cls) (v1 v2 v3 v4 v5 : Int32) : Int64 := if isSt v1 v2 = true ∧ isMv v3 = true ∧ inI v4 (iN 1) (iN (σ 0 0)) = true ∧ inI v5 (iN 0) (iN 1) = true then hsV (QS σ cl) (σ 0 5) v3.toNatClampNeg (plc v1.toNatClampNeg v2.toNatClampNeg 0 0) v4.toNatClampNeg v5 else -1
theorem z_eq {z : Int32} (h : z = iN 0) : (z = iN 0) = True := eq_true h
theorem c_had {d : Nat} {n : Nat} {a : Nat → Nat → Int32} {b : Nat → Nat → Int64} {r : Nat → Nat → Option Nat} {σ : SV} {cl cl' : List Cls} {R R' : Nat → List Cls} {TL TS A : Nat} {TR : Nat → Nat} (h : (St a b r σ cl cl' R R' TL TS TR A)) {v1 v2 v3 v4 v5 : Int32} : ∃ a' b', Den (d+16) 110 0 [.ref 14, .int v1, .int v2, .int v3, .int v4, .int v5, zmJ] [] (zmMk n a b r) = some (some (.long (hadV σ cl v1 v2 v3 v4 v5)), zmMk n a' b' r) ∧ St a' b' r σ cl cl' R R' TL TS TR A := by
  obtain ⟨⟨n1, n8⟩, h16, h94, hs⟩ := h.n8
  unfold hadV
  by_cases g1 : isSt v1 v2 = true
  · by_cases g2 : isMv v3 = true
    · by_cases g3 : inI v4 (iN 1) (iN (σ 0 0)) = true
      · by_cases g4 : inI v5 (iN 0) (iN 1) = true
        · obtain ⟨i, j, i1, j1, rfl, rfl⟩ := isSt_ex g1
          obtain ⟨k, k1, k2, k3, rfl⟩ := isMv_ex g2
          obtain ⟨J, J1, J2, rfl⟩ := inI_ex (by decide) (by omega) g3
          have hp : plc i j 0 0 < 4840 := plc_ltB i1 j1 false false
          have hpS : pS (plc i j 0 0) = 0 := pS_plc j1 (by omega) (by omega)
          have cp : ∀ d' (a : Nat → Nat → Int32), Den (d') 137 0 [.int (iN i), .int (iN j), .int (iN 0), .int (iN 0)] [] (zmMk n a b r) = some (some (.int (iN (plc i j 0 0))), (zmMk n a b r)) := fun d' a => c_placeOf (s := false) (u := false)
          obtain ⟨a1, b1, z, e1, f1, hz⟩ := c_findSeen (d := d+2) (n := n) (b := b) (r := r) rfl rfl rfl (show k < 8 ∧ k ≠ 4 from ⟨k2, k3⟩) J2 hp hpS h.envC
          rcases hz with ⟨hz, hb, hw⟩ | ⟨hz, x, y, hb, hw⟩
          
          · rw [hb] at e1
            refine ⟨a1, b, ?_, h.qc f1.q rfl rfl (h.2.2.2.fr f1 rfl rfl)⟩
            simp only [b110_0, b110_5, b110_8, b110_12, b110_15, b110_28, b110_31, b110_38, b110_41, b110_45, b110_56, b110_62, b110_69, b110_75, b110_84, h16, c_within, c_isState, c_isMove, Option.bind_some, Option.toList_some, Option.toList_none, List.cons_append, List.nil_append, true_or, or_true, if_true, bI_if, bI_if, g1, g2, g3, g4, cp, e1, hz, hw, n_nat (show i < 2147483648 by omega), n_nat (show j < 2147483648 by omega), n_nat (show k < 2147483648 by omega), n_nat (show J < 2147483648 by omega), if_true, if_false, Bool.false_eq_true, true_and, and_true, false_and, and_false, true_or, or_true, false_or, or_false, and_self, or_self, decide_true, decide_false, Bool.not_true, Bool.not_false, Bool.and_true, Bool.and_false, Bool.true_and, Bool.false_and, ite_self]
          · rw [hb, hz] at e1
            refine ⟨a1, uL (uL b 65 1 (jN (x / Nat.gcd x y))) 65 2 (jN (y / Nat.gcd x y)), ?_, h.qc f1.q ?_ ?_ (h.2.2.2.fr f1 ?_ ?_)⟩
            · simp only [b110_0, b110_5, b110_8, b110_12, b110_15, b110_28, b110_31, b110_38, b110_41, b110_45, b110_56, b110_62, b110_69, b110_75, b110_84, h16, c_within, c_isState, c_isMove, Option.bind_some, Option.toList_some, Option.toList_none, List.cons_append, List.nil_append, true_or, or_true, if_true, bI_if, bI_if, g1, g2, g3, g4, cp, e1, c_part, hw, n_nat (show i < 2147483648 by omega), n_nat (show j < 2147483648 by omega), n_nat (show k < 2147483648 by omega), n_nat (show J < 2147483648 by omega), if_true, if_false, Bool.false_eq_true, true_and, and_true, false_and, and_false, true_or, or_true, false_or, or_false, and_self, or_self, decide_true, decide_false, Bool.not_true, Bool.not_false, Bool.and_true, Bool.and_false, Bool.true_and, Bool.false_and, ite_self]
            all_goals (funext q; rw [uL_at, if_neg (by omega), uL_at, if_neg (by omega)])
        · refine ⟨a, b, ?_, h⟩
          simp only [b110_0, b110_5, b110_8, b110_12, b110_15, b110_28, b110_31, b110_38, b110_41, b110_45, b110_56, b110_62, b110_69, b110_75, b110_84, h16, h94, hs, c_within, c_isState, c_isMove, Option.bind_some, Option.toList_some, Option.toList_none, List.cons_append, List.nil_append, true_or, or_true, if_true, bI_if, bI_if, g1, g2, g3, g4, if_true, if_false, Bool.false_eq_true, true_and, and_true, false_and, and_false, true_or, or_true, false_or, or_false, and_self, or_self, decide_true, decide_false, Bool.not_true, Bool.not_false, Bool.and_true, Bool.and_false, Bool.true_and, Bool.false_and, ite_self]
      · refine ⟨a, b, ?_, h⟩
        simp only [b110_0, b110_5, b110_8, b110_12, b110_15, b110_28, b110_31, b110_38, b110_41, b110_45, b110_56, b110_62, b110_69, b110_75, b110_84, h16, h94, hs, c_within, c_isState, c_isMove, Option.bind_some, Option.toList_some, Option.toList_none, List.cons_append, List.nil_append, true_or, or_true, if_true, bI_if, bI_if, g1, g2, g3, if_true, if_false, Bool.false_eq_true, true_and, and_true, false_and, and_false, true_or, or_true, false_or, or_false, and_self, or_self, decide_true, decide_false, Bool.not_true, Bool.not_false, Bool.and_true, Bool.and_false, Bool.true_and, Bool.false_and, ite_self]
    · refine ⟨a, b, ?_, h⟩
      simp only [b110_0, b110_5, b110_8, b110_12, b110_15, b110_28, b110_31, b110_38, b110_41, b110_45, b110_56, b110_62, b110_69, b110_75, b110_84, h16, h94, hs, c_within, c_isState, c_isMove, Option.bind_some, Option.toList_some, Option.toList_none, List.cons_append, List.nil_append, true_or, or_true, if_true, bI_if, bI_if, g1, g2, if_true, if_false, Bool.false_eq_true, true_and, and_true, false_and, and_false, true_or, or_true, false_or, or_false, and_self, or_self, decide_true, decide_false, Bool.not_true, Bool.not_false, Bool.and_true, Bool.and_false, Bool.true_and, Bool.false_and, ite_self]
  · refine ⟨a, b, ?_, h⟩
    simp only [b110_0, b110_5, b110_8, b110_12, b110_15, b110_28, b110_31, b110_38, b110_41, b110_45, b110_56, b110_62, b110_69, b110_75, b110_84, h16, h94, hs, c_within, c_isState, c_isMove, Option.bind_some, Option.toList_some, Option.toList_none, List.cons_append, List.nil_append, true_or, or_true, if_true, bI_if, bI_if, g1, if_true, if_false, Bool.false_eq_true, true_and, and_true, false_and, and_false, true_or, or_true, false_or, or_false, and_self, or_self, decide_true, decide_false, Bool.not_true, Bool.not_false, Bool.and_true, Bool.and_false, Bool.true_and, Bool.false_and, ite_self]
theorem m_had {d : Nat} {n : Nat} {a : Nat → Nat → Int32} {b : Nat → Nat → Int64} {r : Nat → Nat → Option Nat} {σ : SV} {cl cl' : List Cls} {R R' : Nat → List Cls} {TL TS A : Nat} {TR : Nat → Nat} (h : (St a b r σ cl cl' R R' TL TS TR A)) {v1 v2 v3 v4 v5 : Int32} : ∃ a' b', Den (d+16) 242 0 [.ref 94, .int v1, .int v2, .int v3, .int v4, .int v5, zmJ, zmJ, zmJ, zmJ, zmJ, zmJ, zmJ] [] (zmMk n a b r) = some (some (.long (hadV σ cl v1 v2 v3 v4 v5)), zmMk n a' b' r) ∧ St a' b' r σ cl cl' R R' TL TS TR A := by
  obtain ⟨⟨n1, n8⟩, h16, h94, hs⟩ := h.n8
  unfold hadV
  by_cases g1 : isSt v1 v2 = true
  · by_cases g0 : v3 = iN 0
    · refine ⟨a, b, ?_, h⟩
      simp only [b242_0, b242_7, b242_10, b242_14, b242_17, b242_21, b242_31, b242_34, b242_41, b242_44, h16, h94, hs, m_in, m_isState h94, m_isAction, isMv_0, isAc_0, show inI (iN 0) (iN 0) (iN (σ 0 0)) = true from (inI_n (by omega) (by omega) (by omega)).trans (by rw [decide_eq_true (by omega), decide_eq_true (by omega)]; rfl), Option.bind_some, Option.toList_some, Option.toList_none, List.cons_append, List.nil_append, true_or, or_true, if_true, bI_if, bI_if, g1, g0, if_true, if_false, Bool.false_eq_true, true_and, and_true, false_and, and_false, true_or, or_true, false_or, or_false, and_self, or_self, decide_true, decide_false, Bool.not_true, Bool.not_false, Bool.and_true, Bool.and_false, Bool.true_and, Bool.false_and, ite_self]
    · have g5 := isAc_mv g0
      by_cases g2 : isMv v3 = true
      · by_cases g3 : inI v4 (iN 1) (iN (σ 0 0)) = true
        · by_cases g4 : inI v5 (iN 0) (iN 1) = true
          · obtain ⟨i, j, i1, j1, rfl, rfl⟩ := isSt_ex g1
            obtain ⟨k, k1, k2, k3, rfl⟩ := isMv_ex g2
            obtain ⟨J, J1, J2, rfl⟩ := inI_ex (by decide) (by omega) g3
            have hp : plc i j 0 0 < 4840 := plc_ltB i1 j1 false false
            have hpS : pS (plc i j 0 0) = 0 := pS_plc j1 (by omega) (by omega)
            have g9 : inI (iN 0) (iN 0) (iN (σ 0 0)) = true := (inI_n (by omega) (by omega) (by omega)).trans (by rw [decide_eq_true (by omega), decide_eq_true (by omega)]; rfl)
            obtain ⟨a1, h1, e1⟩ := m_hsL (d := d+4) (n := n) (r := r) (v1 := iN i) (v2 := iN j) (v5 := v5) (act := k) (J := J) ⟨k2, k3⟩ (by omega) J2 hp J 0 _ 0 1 zmJ (by omega) h.tld (tldM_fix rfl) rfl
            have st : Den (d+16) 242 0 [.ref 94, .int (iN i), .int (iN j), .int (iN k), .int (iN J), .int v5, zmJ, zmJ, zmJ, zmJ, zmJ, zmJ, zmJ] [] (zmMk n a b r) = Den (d+16) 242 70 [.ref 94,.int (iN i),.int (iN j),.int (iN k),.int (iN J),.int v5,.int (iN (plc i j 0 0)),.long (jN 1),zmJ,.long (jN 0),zmJ,.int (iN 0),zmJ] [] (zmMk n (tldM a) b r) := by
              rw [b242_0]
              simp only [b242_7, b242_10, b242_14, b242_17, b242_21, b242_31, b242_34, b242_41, b242_48, b242_52, h94, m_in, m_isState h94, m_isAction, m_asTold, m_stateOf, Option.bind_some, Option.toList_some, Option.toList_none, List.cons_append, List.nil_append, true_or, or_true, if_true, bI_if, bI_if, g0, g1, g2, g3, g4, g5, g9, if_true, if_false, Bool.false_eq_true, true_and, and_true, false_and, and_false, true_or, or_true, false_or, or_false, and_self, or_self, decide_true, decide_false, Bool.not_true, Bool.not_false, Bool.and_true, Bool.and_false, Bool.true_and, Bool.false_and, ite_self]
              exact b242_59
            have hhad : ∀ w, hadV σ cl (iN i) (iN j) (iN k) (iN J) w = if inI w (iN 0) (iN 1) = true then hsV (QS σ cl) (σ 0 5) k (plc i j 0 0) J w else -1 := fun w => by
              unfold hadV
              simp only [g1, g2, g3, n_nat (show i < 2147483648 by omega), n_nat (show j < 2147483648 by omega), n_nat (show k < 2147483648 by omega), n_nat (show J < 2147483648 by omega), if_true, if_false, Bool.false_eq_true, true_and, and_true, false_and, and_false, true_or, or_true, false_or, or_false, and_self, or_self, decide_true, decide_false, Bool.not_true, Bool.not_false, Bool.and_true, Bool.and_false, Bool.true_and, Bool.false_and, ite_self]
            rw [if_pos ⟨g1, g2, g3, g4⟩, n_nat (show i < 2147483648 by omega), n_nat (show j < 2147483648 by omega), n_nat (show k < 2147483648 by omega), n_nat (show J < 2147483648 by omega), st]
            rcases e1 with ⟨hn, e1⟩ | ⟨p', s', q', u', hh, e1⟩
            · refine ⟨a1, b, ?_, h1⟩
              rw [e1]
              unfold hsV
              rw [hn]
            · obtain ⟨-, hle, -⟩ := hsQ_le (QF_B _ _ _ _) hp J p' s' q' hh
              have hle2 := p100_le (j := J) (by omega)
              refine ⟨a1, b, ?_, h1⟩
              rw [e1]
              unfold hsV
              rw [hh]
              dsimp only
              by_cases hz : s' + q' = 0
              · rw [if_pos hz]
                simp (disch := omega) only [b242_197, l_add, cmp_0, l_eq0, n_add, n_mul, n_in, decide_eq_true_eq, n_nat, n_lt, n_eq, n_sub, if_pos, if_neg, if_true, if_false, hz, b242_207, b242_225, if_true, if_false, Bool.false_eq_true, true_and, and_true, false_and, and_false, true_or, or_true, false_or, or_false, and_self, or_self, decide_true, decide_false, Bool.not_true, Bool.not_false, Bool.and_true, Bool.and_false, Bool.true_and, Bool.false_and, ite_self]
              · rw [if_neg hz]
                have e3 : ∀ a, Den (d+15) 156 0 [.long (jN s'), zmJ, .long (jN (s' + q')), zmJ, .int v5, zmJ, zmJ] [] (zmMk n a b r) = some (some (.long (redV s' (s' + q') v5)), (zmMk n a b r)) := fun a => m_through2 (d := d+14) (by omega) (by omega) (by omega)
                simp (disch := omega) only [b242_197, l_add, cmp_0, l_eq0, hz, b242_213, b242_225, e3, Option.bind_some, Option.toList_some, Option.toList_none, List.cons_append, List.nil_append, true_or, or_true, if_true, bI_if, if_true, if_false, Bool.false_eq_true, true_and, and_true, false_and, and_false, true_or, or_true, false_or, or_false, and_self, or_self, decide_true, decide_false, Bool.not_true, Bool.not_false, Bool.and_true, Bool.and_false, Bool.true_and, Bool.false_and, ite_self]
          · refine ⟨a, b, ?_, h⟩
            simp only [b242_0, b242_7, b242_10, b242_14, b242_17, b242_21, b242_31, b242_34, b242_41, b242_44, h16, h94, hs, m_in, m_isState h94, m_isAction, isMv_0, isAc_0, show inI (iN 0) (iN 0) (iN (σ 0 0)) = true from (inI_n (by omega) (by omega) (by omega)).trans (by rw [decide_eq_true (by omega), decide_eq_true (by omega)]; rfl), Option.bind_some, Option.toList_some, Option.toList_none, List.cons_append, List.nil_append, true_or, or_true, if_true, bI_if, bI_if, g1, g0, g5, g2, g3, g4, if_true, if_false, Bool.false_eq_true, true_and, and_true, false_and, and_false, true_or, or_true, false_or, or_false, and_self, or_self, decide_true, decide_false, Bool.not_true, Bool.not_false, Bool.and_true, Bool.and_false, Bool.true_and, Bool.false_and, ite_self]
        · refine ⟨a, b, ?_, h⟩
          simp only [b242_0, b242_7, b242_10, b242_14, b242_17, b242_21, b242_31, b242_34, b242_41, b242_44, h16, h94, hs, m_in, m_isState h94, m_isAction, isMv_0, isAc_0, show inI (iN 0) (iN 0) (iN (σ 0 0)) = true from (inI_n (by omega) (by omega) (by omega)).trans (by rw [decide_eq_true (by omega), decide_eq_true (by omega)]; rfl), Option.bind_some, Option.toList_some, Option.toList_none, List.cons_append, List.nil_append, true_or, or_true, if_true, bI_if, bI_if, g1, g0, g5, g2, g3, if_true, if_false, Bool.false_eq_true, true_and, and_true, false_and, and_false, true_or, or_true, false_or, or_false, and_self, or_self, decide_true, decide_false, Bool.not_true, Bool.not_false, Bool.and_true, Bool.and_false, Bool.true_and, Bool.false_and, ite_self]
      · refine ⟨a, b, ?_, h⟩
        simp only [b242_0, b242_7, b242_10, b242_14, b242_17, b242_21, b242_31, b242_34, b242_41, b242_44, h16, h94, hs, m_in, m_isState h94, m_isAction, isMv_0, isAc_0, show inI (iN 0) (iN 0) (iN (σ 0 0)) = true from (inI_n (by omega) (by omega) (by omega)).trans (by rw [decide_eq_true (by omega), decide_eq_true (by omega)]; rfl), Option.bind_some, Option.toList_some, Option.toList_none, List.cons_append, List.nil_append, true_or, or_true, if_true, bI_if, bI_if, g1, g0, g5, g2, if_true, if_false, Bool.false_eq_true, true_and, and_true, false_and, and_false, true_or, or_true, false_or, or_false, and_self, or_self, decide_true, decide_false, Bool.not_true, Bool.not_false, Bool.and_true, Bool.and_false, Bool.true_and, Bool.false_and, ite_self]
  · refine ⟨a, b, ?_, h⟩
    simp only [b242_0, b242_7, b242_10, b242_14, b242_17, b242_21, b242_31, b242_34, b242_41, b242_44, h16, h94, hs, m_in, m_isState h94, m_isAction, isMv_0, isAc_0, show inI (iN 0) (iN 0) (iN (σ 0 0)) = true from (inI_n (by omega) (by omega) (by omega)).trans (by rw [decide_eq_true (by omega), decide_eq_true (by omega)]; rfl), Option.bind_some, Option.toList_some, Option.toList_none, List.cons_append, List.nil_append, true_or, or_true, if_true, bI_if, bI_if, g1, if_true, if_false, Bool.false_eq_true, true_and, and_true, false_and, and_false, true_or, or_true, false_or, or_false, and_self, or_self, decide_true, decide_false, Bool.not_true, Bool.not_false, Bool.and_true, Bool.and_false, Bool.true_and, Bool.false_and, ite_self]
