/-! ===== questions: best, leaves, more ===== -/
theorem frL.w {b b' : Nat → Nat → Int64} (h : frL scBL b b') : b' 2 = b 2 ∧ b' 3 = b 3 := ⟨h 2 rfl, h 3 rfl⟩
theorem St.qB {a a' : Nat → Nat → Int32} {b b' : Nat → Nat → Int64} {r : Nat → Nat → Option Nat} {σ : SV} {cl cl' : List Cls} {R R' : Nat → List Cls} {TL TS A : Nat} {TR : Nat → Nat} (h : (St a b r σ cl cl' R R' TL TS TR A)) (h1 : BestOk (σ 0 0) (σ 0 5) (QS σ cl) 0 a' b') (f : frS scB a a') (l : frL scBL b b') : (St a' b' r σ cl cl' R R' TL TS TR A) := h.qc f.qB l.w.1 l.w.2 (BestOk.c h.2.2.2 h1 f l)
theorem St.qS {a a' : Nat → Nat → Int32} {b b' : Nat → Nat → Int64} {r : Nat → Nat → Option Nat} {σ : SV} {cl cl' : List Cls} {R R' : Nat → List Cls} {TL TS A : Nat} {TR : Nat → Nat} (h : (St a b r σ cl cl' R R' TL TS TR A)) (f : frS scS a a') (l : frL scSL b b') : (St a' b' r σ cl cl' R R' TL TS TR A) := h.qm f.qS (fun k hk => l k (by
  cases hs : scSL k with
  | false => rfl
  | true =>
    simp only [scSL, Nat.beq_eq] at hs
    omega))
theorem St.tld {a : Nat → Nat → Int32} {b : Nat → Nat → Int64} {r : Nat → Nat → Option Nat} {σ : SV} {cl cl' : List Cls} {R R' : Nat → List Cls} {TL TS A : Nat} {TR : Nat → Nat} (h : (St a b r σ cl cl' R R' TL TS TR A)) : (St (tldM a) b r σ cl cl' R R' TL TS TR A) := h.qm (tldM_q a) (fun _ _ => rfl)
theorem m_asTold {d : Nat} {n : Nat} {a : Nat → Nat → Int32} {b : Nat → Nat → Int64} {r : Nat → Nat → Option Nat} : Den (d) 220 0 [.ref 94] [] (zmMk n a b r) = some (none, zmMk n (tldM a) b r) := b220_0
theorem c_val {d t p : Nat} {n : Nat} {a : Nat → Nat → Int32} {b : Nat → Nat → Int64} {r : Nat → Nat → Option Nat} {σ : SV} {cl cl' : List Cls} {R R' : Nat → List Cls} {TL TS A : Nat} {TR : Nat → Nat} (h : (St a b r σ cl cl' R R' TL TS TR A)) (ht : t ≤ σ 0 0) (hp : p < 4840) : ∃ a' b', Den (d+30) 2 0 [.ref 52, .int (iN t), .int (iN p), zmJ, zmJ, zmJ, zmJ, zmJ, zmJ, zmJ, zmJ, zmJ, zmJ] [] (zmMk n a b r) = some (some (.long (VB (QS σ cl) (σ 0 5) false (σ 0 0 - t) t p)), zmMk n a' b' r) ∧ (St a' b' r σ cl cl' R R' TL TS TR A) := by
  have hN := h.1.1.1
  obtain ⟨a1, b1, e1, k1, f1, l1, -⟩ := c_value (n := n) (N := σ 0 0) (B := σ 0 5) (r := r) (Q := QS σ cl) (mn := 0) (by omega) (σ 0 0 - t) (by omega) 0 t p _ _ a b (by omega) rfl rfl hp h.envC h.2.2.2.1 h.2.1.2.1
  exact ⟨a1, b1, Den_depth (by omega) e1, h.qB k1 f1 l1⟩
theorem m_solv {d t p : Nat} {n : Nat} {a : Nat → Nat → Int32} {b : Nat → Nat → Int64} {r : Nat → Nat → Option Nat} {σ : SV} {cl cl' : List Cls} {R R' : Nat → List Cls} {TL TS A : Nat} {TR : Nat → Nat} (h : (St a b r σ cl cl' R R' TL TS TR A)) (ht : t ≤ σ 0 0) (hp : p < 4840) : ∃ a' b', Den (d+16) 219 0 [.ref 94, .int (iN t), .int (iN p), zmJ, zmJ] [] (zmMk n (tldM a) b r) = some (some (.long (VB (QS σ cl) (σ 0 5) false (σ 0 0 - t) t p)), zmMk n a' b' r) ∧ (St a' b' r σ cl cl' R R' TL TS TR A) ∧ a' 116 (4840 * t + p) = actI (QS σ cl) (σ 0 0) (σ 0 5) false t p ∧ frS scS (tldM a) a' := by
  obtain ⟨a1, b1, e1, f1, l1, g1⟩ := m_solves (d := d) (n := n) (b := b) (r := r) rfl rfl ht hp (h.envT (n := n)).M (tldM_39 a)
  exact ⟨a1, b1, e1, h.tld.qS f1 l1, g1, f1⟩
def bestV (σ : SV) (cl : List Cls) (v1 v2 v3 : Int32) (s u : Bool) (v6 : Int32) : Int64 := if inI v1 (iN 0) (iN (σ 0 0)) = true ∧ isSt v2 v3 = true ∧ inI v6 (iN 0) (iN 1) = true then (if v6 = iN 0 then VB (QS σ cl) (σ 0 5) false (σ 0 0 - v1.toNatClampNeg) v1.toNatClampNeg (plI v2 v3 s u) else Int32.toInt64 (actI (QS σ cl) (σ 0 0) (σ 0 5) false v1.toNatClampNeg (plI v2 v3 s u))) else -2000000000000000000
def leavesV (σ : SV) (cl : List Cls) (v1 v2 v3 : Int32) (s u : Bool) (v6 : Int32) : Int64 := if inI v1 (iN 0) (iN (σ 0 0)) = true ∧ isSt v2 v3 = true ∧ inI v6 (iN 0) (iN 1) = true then redV (lvQ (QS σ cl) (σ 0 5) (plI v2 v3 s u) (σ 0 0) v1.toNatClampNeg) (10 ^ (σ 0 0)) v6 else -1
def moreV (σ : SV) (cl : List Cls) (v1 v2 : Int32) (s u : Bool) (v5 : Int32) : Int64 := if isSt v1 v2 = true ∧ inI v5 (iN 0) (iN 1) = true then (if v5 = iN 0 then VB (QS σ cl) (σ 0 5) false (σ 0 0) 0 (plI v1 v2 s u) - VB (QS σ cl) (σ 0 5) true (σ 0 0) 0 (plI v1 v2 s u) else VB (QS σ cl) (σ 0 5 + 1) false (σ 0 0) 0 (plI v1 v2 s u) - VB (QS σ cl) (σ 0 5) false (σ 0 0) 0 (plI v1 v2 s u)) else -2000000000000000000
theorem c_best {d : Nat} {n : Nat} {a : Nat → Nat → Int32} {b : Nat → Nat → Int64} {r : Nat → Nat → Option Nat} {σ : SV} {cl cl' : List Cls} {R R' : Nat → List Cls} {TL TS A : Nat} {TR : Nat → Nat} (h : (St a b r σ cl cl' R R' TL TS TR A)) {v1 v2 v3 v6 : Int32} {s u : Bool} : ∃ a' b', Den (d+41) 101 0 [.ref 14, .int v1, .int v2, .int v3, .int (bI s), .int (bI u), .int v6, zmJ] [] (zmMk n a b r) = some (some (.long (bestV σ cl v1 v2 v3 s u v6)), zmMk n a' b' r) ∧ St a' b' r σ cl cl' R R' TL TS TR A := by
  obtain ⟨⟨n1, n8⟩, h16, h94, hs⟩ := h.n8
  unfold bestV
  by_cases g1 : inI v1 (iN 0) (iN (σ 0 0)) = true
  · by_cases g2 : isSt v2 v3 = true
    · by_cases g3 : inI v6 (iN 0) (iN 1) = true
      · obtain ⟨t, -, t2, rfl⟩ := inI_ex (by decide) (by omega) g1
        obtain ⟨i, j, i1, j1, rfl, rfl⟩ := isSt_ex g2
        have hp := plc_ltB i1 j1 s u
        by_cases g0 : v6 = iN 0
        · obtain ⟨a1, b1, e1, h1⟩ := c_val (d := d+10) (n := n) h t2 hp
          refine ⟨a1, b1, ?_, h1⟩
          simp only [b101_0, b101_12, b101_15, b101_20, b101_23, b101_30, b101_33, b101_37, b101_46, b101_53, b101_63, b101_66, b101_76, b101_77, h16, c_within, c_isState, Option.bind_some, Option.toList_some, Option.toList_none, List.cons_append, List.nil_append, true_or, or_true, if_true, bI_if, bI_if, g1, g2, g3, g0, c_placeOf, e1, plI_n i1 j1, n_nat (show t < 2147483648 by omega), if_true, if_false, Bool.false_eq_true, true_and, and_true, false_and, and_false, true_or, or_true, false_or, or_false, and_self, or_self, decide_true, decide_false, Bool.not_true, Bool.not_false, Bool.and_true, Bool.and_false, Bool.true_and, Bool.false_and, ite_self]
          simp only [c_within, Option.bind_some, Option.toList_some, Option.toList_none, List.cons_append, List.nil_append, true_or, or_true, if_true, bI_if, bI_if, show inI (iN 0) (iN 0) (iN 1) = true from by decide +kernel, if_true, if_false, Bool.false_eq_true, true_and, and_true, false_and, and_false, true_or, or_true, false_or, or_false, and_self, or_self, decide_true, decide_false, Bool.not_true, Bool.not_false, Bool.and_true, Bool.and_false, Bool.true_and, Bool.false_and, ite_self]
        · obtain ⟨a1, b1, e1, k1, f1, l1⟩ := c_action (d := d) (n := n) (r := r) t2 rfl rfl hp h.envC h.2.2.2.1 h.2.1.2.1
          refine ⟨a1, b1, ?_, h.qB k1 f1 l1⟩
          simp only [b101_0, b101_12, b101_15, b101_20, b101_23, b101_30, b101_33, b101_37, b101_46, b101_53, b101_63, b101_66, b101_76, b101_77, h16, c_within, c_isState, Option.bind_some, Option.toList_some, Option.toList_none, List.cons_append, List.nil_append, true_or, or_true, if_true, bI_if, bI_if, g1, g2, g3, g0, c_placeOf, e1, plI_n i1 j1, n_nat (show t < 2147483648 by omega), if_true, if_false, Bool.false_eq_true, true_and, and_true, false_and, and_false, true_or, or_true, false_or, or_false, and_self, or_self, decide_true, decide_false, Bool.not_true, Bool.not_false, Bool.and_true, Bool.and_false, Bool.true_and, Bool.false_and, ite_self]
          rfl
      · refine ⟨a, b, ?_, h⟩
        simp only [b101_0, b101_12, b101_15, b101_20, b101_23, b101_30, b101_33, b101_37, b101_46, b101_53, b101_63, b101_66, b101_76, b101_77, h16, h94, hs, c_within, c_isState, c_isMove, Option.bind_some, Option.toList_some, Option.toList_none, List.cons_append, List.nil_append, true_or, or_true, if_true, bI_if, bI_if, g1, g2, g3, if_true, if_false, Bool.false_eq_true, true_and, and_true, false_and, and_false, true_or, or_true, false_or, or_false, and_self, or_self, decide_true, decide_false, Bool.not_true, Bool.not_false, Bool.and_true, Bool.and_false, Bool.true_and, Bool.false_and, ite_self]
    · refine ⟨a, b, ?_, h⟩
      simp only [b101_0, b101_12, b101_15, b101_20, b101_23, b101_30, b101_33, b101_37, b101_46, b101_53, b101_63, b101_66, b101_76, b101_77, h16, h94, hs, c_within, c_isState, c_isMove, Option.bind_some, Option.toList_some, Option.toList_none, List.cons_append, List.nil_append, true_or, or_true, if_true, bI_if, bI_if, g1, g2, if_true, if_false, Bool.false_eq_true, true_and, and_true, false_and, and_false, true_or, or_true, false_or, or_false, and_self, or_self, decide_true, decide_false, Bool.not_true, Bool.not_false, Bool.and_true, Bool.and_false, Bool.true_and, Bool.false_and, ite_self]
  · refine ⟨a, b, ?_, h⟩
    simp only [b101_0, b101_12, b101_15, b101_20, b101_23, b101_30, b101_33, b101_37, b101_46, b101_53, b101_63, b101_66, b101_76, b101_77, h16, h94, hs, c_within, c_isState, c_isMove, Option.bind_some, Option.toList_some, Option.toList_none, List.cons_append, List.nil_append, true_or, or_true, if_true, bI_if, bI_if, g1, if_true, if_false, Bool.false_eq_true, true_and, and_true, false_and, and_false, true_or, or_true, false_or, or_false, and_self, or_self, decide_true, decide_false, Bool.not_true, Bool.not_false, Bool.and_true, Bool.and_false, Bool.true_and, Bool.false_and, ite_self]
theorem m_best {d : Nat} {n : Nat} {a : Nat → Nat → Int32} {b : Nat → Nat → Int64} {r : Nat → Nat → Option Nat} {σ : SV} {cl cl' : List Cls} {R R' : Nat → List Cls} {TL TS A : Nat} {TR : Nat → Nat} (h : (St a b r σ cl cl' R R' TL TS TR A)) {v1 v2 v3 v6 : Int32} {s u : Bool} : ∃ a' b', Den (d+41) 221 0 [.ref 94, .int v1, .int v2, .int v3, .int (bI s), .int (bI u), .int v6, zmJ, zmJ, zmJ] [] (zmMk n a b r) = some (some (.long (bestV σ cl v1 v2 v3 s u v6)), zmMk n a' b' r) ∧ St a' b' r σ cl cl' R R' TL TS TR A := by
  obtain ⟨⟨n1, n8⟩, h16, h94, hs⟩ := h.n8
  unfold bestV
  by_cases g1 : inI v1 (iN 0) (iN (σ 0 0)) = true
  · by_cases g2 : isSt v2 v3 = true
    · by_cases g3 : inI v6 (iN 0) (iN 1) = true
      · obtain ⟨t, -, t2, rfl⟩ := inI_ex (by decide) (by omega) g1
        obtain ⟨i, j, i1, j1, rfl, rfl⟩ := isSt_ex g2
        have hp := plc_ltB i1 j1 s u
        obtain ⟨a1, b1, e1, h1, e2, -⟩ := m_solv (d := d+24) (n := n) h t2 hp
        refine ⟨a1, b1, ?_, h1⟩
        have hb : 4840 * t + plc i j (bN s) (bN u) < 43560 := by omega
        by_cases g0 : v6 = iN 0
        · simp only [b221_0, b221_7, b221_10, b221_17, b221_20, b221_24, b221_28, b221_37, b221_46, b221_53, b221_58, b221_72, b221_71, h94, m_in, m_isState h94, Option.bind_some, Option.toList_some, Option.toList_none, List.cons_append, List.nil_append, true_or, or_true, if_true, bI_if, bI_if, g1, g2, g3, g0, m_asTold, m_told, e1, plI_n i1 j1, n_nat (show t < 2147483648 by omega), Option.bind_some, Option.toList_none, List.nil_append, if_true, if_false, Bool.false_eq_true, true_and, and_true, false_and, and_false, true_or, or_true, false_or, or_false, and_self, or_self, decide_true, decide_false, Bool.not_true, Bool.not_false, Bool.and_true, Bool.and_false, Bool.true_and, Bool.false_and, ite_self]
          simp only [m_in, Option.bind_some, Option.toList_some, Option.toList_none, List.cons_append, List.nil_append, true_or, or_true, if_true, bI_if, bI_if, show inI (iN 0) (iN 0) (iN 1) = true from by decide +kernel, b221_0, b221_7, b221_10, b221_17, b221_20, b221_24, b221_28, b221_37, b221_46, b221_53, b221_58, b221_72, b221_71, m_asTold, m_told, e1, Option.bind_some, Option.toList_none, List.nil_append, if_true, if_false, Bool.false_eq_true, true_and, and_true, false_and, and_false, true_or, or_true, false_or, or_false, and_self, or_self, decide_true, decide_false, Bool.not_true, Bool.not_false, Bool.and_true, Bool.and_false, Bool.true_and, Bool.false_and, ite_self]
        · simp only [b221_0, b221_7, b221_10, b221_17, b221_20, b221_24, b221_28, b221_37, b221_46, b221_53, b221_58, b221_72, b221_71, h94, m_in, m_isState h94, Option.bind_some, Option.toList_some, Option.toList_none, List.cons_append, List.nil_append, true_or, or_true, if_true, bI_if, bI_if, g1, g2, g3, g0, m_asTold, m_told, e1, plI_n i1 j1, n_nat (show t < 2147483648 by omega), Option.bind_some, Option.toList_none, List.nil_append, n_mul, n_add, n_in (show 4840 * t + plc i j (bN s) (bN u) < 2147483648 by omega), decide_eq_true hb, n_nat (show 4840 * t + plc i j (bN s) (bN u) < 2147483648 by omega), e2, if_true, if_false, Bool.false_eq_true, true_and, and_true, false_and, and_false, true_or, or_true, false_or, or_false, and_self, or_self, decide_true, decide_false, Bool.not_true, Bool.not_false, Bool.and_true, Bool.and_false, Bool.true_and, Bool.false_and, ite_self]
      · refine ⟨a, b, ?_, h⟩
        simp only [b221_0, b221_7, b221_10, b221_17, b221_20, b221_24, b221_28, b221_37, b221_46, b221_53, b221_58, b221_72, b221_71, h16, h94, hs, m_in, m_isState h94, m_isAction, Option.bind_some, Option.toList_some, Option.toList_none, List.cons_append, List.nil_append, true_or, or_true, if_true, bI_if, bI_if, g1, g2, g3, if_true, if_false, Bool.false_eq_true, true_and, and_true, false_and, and_false, true_or, or_true, false_or, or_false, and_self, or_self, decide_true, decide_false, Bool.not_true, Bool.not_false, Bool.and_true, Bool.and_false, Bool.true_and, Bool.false_and, ite_self]
    · refine ⟨a, b, ?_, h⟩
      simp only [b221_0, b221_7, b221_10, b221_17, b221_20, b221_24, b221_28, b221_37, b221_46, b221_53, b221_58, b221_72, b221_71, h16, h94, hs, m_in, m_isState h94, m_isAction, Option.bind_some, Option.toList_some, Option.toList_none, List.cons_append, List.nil_append, true_or, or_true, if_true, bI_if, bI_if, g1, g2, if_true, if_false, Bool.false_eq_true, true_and, and_true, false_and, and_false, true_or, or_true, false_or, or_false, and_self, or_self, decide_true, decide_false, Bool.not_true, Bool.not_false, Bool.and_true, Bool.and_false, Bool.true_and, Bool.false_and, ite_self]
  · refine ⟨a, b, ?_, h⟩
    simp only [b221_0, b221_7, b221_10, b221_17, b221_20, b221_24, b221_28, b221_37, b221_46, b221_53, b221_58, b221_72, b221_71, h16, h94, hs, m_in, m_isState h94, m_isAction, Option.bind_some, Option.toList_some, Option.toList_none, List.cons_append, List.nil_append, true_or, or_true, if_true, bI_if, bI_if, g1, if_true, if_false, Bool.false_eq_true, true_and, and_true, false_and, and_false, true_or, or_true, false_or, or_false, and_self, or_self, decide_true, decide_false, Bool.not_true, Bool.not_false, Bool.and_true, Bool.and_false, Bool.true_and, Bool.false_and, ite_self]
theorem c_leaves {d : Nat} {n : Nat} {a : Nat → Nat → Int32} {b : Nat → Nat → Int64} {r : Nat → Nat → Option Nat} {σ : SV} {cl cl' : List Cls} {R R' : Nat → List Cls} {TL TS A : Nat} {TR : Nat → Nat} (h : (St a b r σ cl cl' R R' TL TS TR A)) {v1 v2 v3 v6 : Int32} {s u : Bool} : ∃ a' b', Den (d+12) 108 0 [.ref 14, .int v1, .int v2, .int v3, .int (bI s), .int (bI u), .int v6] [] (zmMk n a b r) = some (some (.long (leavesV σ cl v1 v2 v3 s u v6)), zmMk n a' b' r) ∧ St a' b' r σ cl cl' R R' TL TS TR A := by
  obtain ⟨⟨n1, n8⟩, h16, h94, hs⟩ := h.n8
  unfold leavesV
  by_cases g1 : inI v1 (iN 0) (iN (σ 0 0)) = true
  · by_cases g2 : isSt v2 v3 = true
    · by_cases g3 : inI v6 (iN 0) (iN 1) = true
      · obtain ⟨t, -, t2, rfl⟩ := inI_ex (by decide) (by omega) g1
        obtain ⟨i, j, i1, j1, rfl, rfl⟩ := isSt_ex g2
        have hp := plc_ltB i1 j1 s u
        obtain ⟨a1, x, y, e1, f1, k1⟩ := c_findLeaving (d := d) (n := n) (b := b) (r := r) rfl rfl t2 hp h.envC h.2.1.2.1
        refine ⟨a1, uL (uL b 65 1 (jN (x / x.gcd y))) 65 2 (jN (y / x.gcd y)), ?_, h.qc f1.q ?_ ?_ (h.2.2.2.fr f1 ?_ ?_)⟩
        · simp only [b108_0, b108_12, b108_15, b108_20, b108_23, b108_30, b108_33, b108_37, b108_51, b108_54, b108_63, h16, c_within, c_isState, Option.bind_some, Option.toList_some, Option.toList_none, List.cons_append, List.nil_append, true_or, or_true, if_true, bI_if, bI_if, g1, g2, g3, c_placeOf, e1, plI_n i1 j1, n_nat (show t < 2147483648 by omega), Option.bind_some, Option.toList_none, List.nil_append, c_part, k1, if_true, if_false, Bool.false_eq_true, true_and, and_true, false_and, and_false, true_or, or_true, false_or, or_false, and_self, or_self, decide_true, decide_false, Bool.not_true, Bool.not_false, Bool.and_true, Bool.and_false, Bool.true_and, Bool.false_and, ite_self]
        all_goals (funext q; rw [uL_at, if_neg (by omega), uL_at, if_neg (by omega)])
      · refine ⟨a, b, ?_, h⟩
        simp only [b108_0, b108_12, b108_15, b108_20, b108_23, b108_30, b108_33, b108_37, b108_51, b108_54, b108_63, h16, h94, hs, c_within, c_isState, c_isMove, Option.bind_some, Option.toList_some, Option.toList_none, List.cons_append, List.nil_append, true_or, or_true, if_true, bI_if, bI_if, g1, g2, g3, if_true, if_false, Bool.false_eq_true, true_and, and_true, false_and, and_false, true_or, or_true, false_or, or_false, and_self, or_self, decide_true, decide_false, Bool.not_true, Bool.not_false, Bool.and_true, Bool.and_false, Bool.true_and, Bool.false_and, ite_self]
    · refine ⟨a, b, ?_, h⟩
      simp only [b108_0, b108_12, b108_15, b108_20, b108_23, b108_30, b108_33, b108_37, b108_51, b108_54, b108_63, h16, h94, hs, c_within, c_isState, c_isMove, Option.bind_some, Option.toList_some, Option.toList_none, List.cons_append, List.nil_append, true_or, or_true, if_true, bI_if, bI_if, g1, g2, if_true, if_false, Bool.false_eq_true, true_and, and_true, false_and, and_false, true_or, or_true, false_or, or_false, and_self, or_self, decide_true, decide_false, Bool.not_true, Bool.not_false, Bool.and_true, Bool.and_false, Bool.true_and, Bool.false_and, ite_self]
  · refine ⟨a, b, ?_, h⟩
    simp only [b108_0, b108_12, b108_15, b108_20, b108_23, b108_30, b108_33, b108_37, b108_51, b108_54, b108_63, h16, h94, hs, c_within, c_isState, c_isMove, Option.bind_some, Option.toList_some, Option.toList_none, List.cons_append, List.nil_append, true_or, or_true, if_true, bI_if, bI_if, g1, if_true, if_false, Bool.false_eq_true, true_and, and_true, false_and, and_false, true_or, or_true, false_or, or_false, and_self, or_self, decide_true, decide_false, Bool.not_true, Bool.not_false, Bool.and_true, Bool.and_false, Bool.true_and, Bool.false_and, ite_self]
theorem m_leaves {d : Nat} {n : Nat} {a : Nat → Nat → Int32} {b : Nat → Nat → Int64} {r : Nat → Nat → Option Nat} {σ : SV} {cl cl' : List Cls} {R R' : Nat → List Cls} {TL TS A : Nat} {TR : Nat → Nat} (h : (St a b r σ cl cl' R R' TL TS TR A)) {v1 v2 v3 v6 : Int32} {s u : Bool} : ∃ a' b', Den (d+12) 240 0 [.ref 94, .int v1, .int v2, .int v3, .int (bI s), .int (bI u), .int v6, zmJ, zmJ] [] (zmMk n a b r) = some (some (.long (leavesV σ cl v1 v2 v3 s u v6)), zmMk n a' b' r) ∧ St a' b' r σ cl cl' R R' TL TS TR A := by
  obtain ⟨⟨n1, n8⟩, h16, h94, hs⟩ := h.n8
  unfold leavesV
  by_cases g1 : inI v1 (iN 0) (iN (σ 0 0)) = true
  · by_cases g2 : isSt v2 v3 = true
    · by_cases g3 : inI v6 (iN 0) (iN 1) = true
      · obtain ⟨t, -, t2, rfl⟩ := inI_ex (by decide) (by omega) g1
        obtain ⟨i, j, i1, j1, rfl, rfl⟩ := isSt_ex g2
        have hp := plc_ltB i1 j1 s u
        obtain ⟨a1, e1, f1⟩ := m_leavesIn (d := d) (n := n) (b := b) (r := r) rfl rfl t2 hp (h.envT (n := n))
        have hle := lvQ_le (QS σ cl) (QF_B _ _ _ _) (σ 0 5) (plc i j (bN s) (bN u)) t2
        have h10 := p10_le (j := σ 0 0) (by omega)
        have h10p := p10_pos (σ 0 0)
        have e2 : ∀ v w, Den (d+11) 156 0 [.long (jN (lvQ (QS σ cl) (σ 0 5) (plc i j (bN s) (bN u)) (σ 0 0) t)), zmJ, .long (jN (10 ^ (σ 0 0))), zmJ, .int v, zmJ, zmJ] [] (zmMk n w (uL b 94 63 (jN (10 ^ (σ 0 0)))) r) = _ := fun v w => m_through2 (d := d+10) (by omega) (by omega) h10p
        have e63 : uL b 94 63 (jN (10 ^ (σ 0 0))) 94 63 = jN (10 ^ (σ 0 0)) := by rw [uL_at, if_pos ⟨rfl, rfl⟩]
        refine ⟨a1, uL b 94 63 (jN (10 ^ (σ 0 0))), ?_, h.tld.qm f1.q (fun k hk => ?_)⟩
        · simp only [b240_0, b240_7, b240_10, b240_17, b240_20, b240_24, b240_35, b240_38, b240_51, h94, m_in, m_isState h94, Option.bind_some, Option.toList_some, Option.toList_none, List.cons_append, List.nil_append, true_or, or_true, if_true, bI_if, bI_if, g1, g2, g3, m_told, e1, e63, e2, plI_n i1 j1, n_nat (show t < 2147483648 by omega), if_true, if_false, Bool.false_eq_true, true_and, and_true, false_and, and_false, true_or, or_true, false_or, or_false, and_self, or_self, decide_true, decide_false, Bool.not_true, Bool.not_false, Bool.and_true, Bool.and_false, Bool.true_and, Bool.false_and, ite_self]
        · funext q
          rw [uL_at, if_neg (by omega)]
      · refine ⟨a, b, ?_, h⟩
        simp only [b240_0, b240_7, b240_10, b240_17, b240_20, b240_24, b240_35, b240_38, b240_51, h16, h94, hs, m_in, m_isState h94, m_isAction, Option.bind_some, Option.toList_some, Option.toList_none, List.cons_append, List.nil_append, true_or, or_true, if_true, bI_if, bI_if, g1, g2, g3, if_true, if_false, Bool.false_eq_true, true_and, and_true, false_and, and_false, true_or, or_true, false_or, or_false, and_self, or_self, decide_true, decide_false, Bool.not_true, Bool.not_false, Bool.and_true, Bool.and_false, Bool.true_and, Bool.false_and, ite_self]
    · refine ⟨a, b, ?_, h⟩
      simp only [b240_0, b240_7, b240_10, b240_17, b240_20, b240_24, b240_35, b240_38, b240_51, h16, h94, hs, m_in, m_isState h94, m_isAction, Option.bind_some, Option.toList_some, Option.toList_none, List.cons_append, List.nil_append, true_or, or_true, if_true, bI_if, bI_if, g1, g2, if_true, if_false, Bool.false_eq_true, true_and, and_true, false_and, and_false, true_or, or_true, false_or, or_false, and_self, or_self, decide_true, decide_false, Bool.not_true, Bool.not_false, Bool.and_true, Bool.and_false, Bool.true_and, Bool.false_and, ite_self]
  · refine ⟨a, b, ?_, h⟩
    simp only [b240_0, b240_7, b240_10, b240_17, b240_20, b240_24, b240_35, b240_38, b240_51, h16, h94, hs, m_in, m_isState h94, m_isAction, Option.bind_some, Option.toList_some, Option.toList_none, List.cons_append, List.nil_append, true_or, or_true, if_true, bI_if, bI_if, g1, if_true, if_false, Bool.false_eq_true, true_and, and_true, false_and, and_false, true_or, or_true, false_or, or_false, and_self, or_self, decide_true, decide_false, Bool.not_true, Bool.not_false, Bool.and_true, Bool.and_false, Bool.true_and, Bool.false_and, ite_self]
theorem c_more {d : Nat} {n : Nat} {a : Nat → Nat → Int32} {b : Nat → Nat → Int64} {r : Nat → Nat → Option Nat} {σ : SV} {cl cl' : List Cls} {R R' : Nat → List Cls} {TL TS A : Nat} {TR : Nat → Nat} (h : (St a b r σ cl cl' R R' TL TS TR A)) {v1 v2 v5 : Int32} {s u : Bool} : ∃ a' b', Den (d+41) 104 0 [.ref 14, .int v1, .int v2, .int (bI s), .int (bI u), .int v5, zmJ] [] (zmMk n a b r) = some (some (.long (moreV σ cl v1 v2 s u v5)), zmMk n a' b' r) ∧ St a' b' r σ cl cl' R R' TL TS TR A := by
  obtain ⟨⟨n1, n8⟩, h16, h94, hs⟩ := h.n8
  unfold moreV
  by_cases g1 : isSt v1 v2 = true
  · by_cases g2 : inI v5 (iN 0) (iN 1) = true
    · obtain ⟨i, j, i1, j1, rfl, rfl⟩ := isSt_ex g1
      have hp := plc_ltB i1 j1 s u
      by_cases g0 : v5 = iN 0
      · obtain ⟨a1, b1, e1, k1, f1, l1⟩ := c_wave (d := d) (n := n) (r := r) rfl hp h.envC h.2.2.2.1 h.2.1.2.1
        refine ⟨a1, b1, ?_, h.qB k1 f1 l1⟩
        subst g0
        simp only [b104_0, b104_5, b104_8, b104_15, b104_18, b104_22, b104_30, b104_37, b104_46, b104_49, b104_58, c_within, c_isState, Option.bind_some, Option.toList_some, Option.toList_none, List.cons_append, List.nil_append, true_or, or_true, if_true, bI_if, bI_if, g1, g2, c_placeOf, e1, plI_n i1 j1, if_true, if_false, Bool.false_eq_true, true_and, and_true, false_and, and_false, true_or, or_true, false_or, or_false, and_self, or_self, decide_true, decide_false, Bool.not_true, Bool.not_false, Bool.and_true, Bool.and_false, Bool.true_and, Bool.false_and, ite_self]
      · obtain ⟨a1, b1, e1, k1, f1, l1⟩ := c_board (d := d) (n := n) (r := r) rfl hp h.envC h.2.1.2.2.2.2.2.2.2.1.1 (by have := h.1.2.2.2.2.2.1.2.1; omega) h.2.2.2.1 h.2.1.2.1
        refine ⟨a1, b1, ?_, h.qB k1 f1 l1⟩
        simp only [b104_0, b104_5, b104_8, b104_15, b104_18, b104_22, b104_30, b104_37, b104_46, b104_49, b104_58, c_within, c_isState, Option.bind_some, Option.toList_some, Option.toList_none, List.cons_append, List.nil_append, true_or, or_true, if_true, bI_if, bI_if, g1, g2, g0, c_placeOf, e1, plI_n i1 j1, if_true, if_false, Bool.false_eq_true, true_and, and_true, false_and, and_false, true_or, or_true, false_or, or_false, and_self, or_self, decide_true, decide_false, Bool.not_true, Bool.not_false, Bool.and_true, Bool.and_false, Bool.true_and, Bool.false_and, ite_self]
    · refine ⟨a, b, ?_, h⟩
      simp only [b104_0, b104_5, b104_8, b104_15, b104_18, b104_22, b104_30, b104_37, b104_46, b104_49, b104_58, h16, h94, hs, c_within, c_isState, c_isMove, Option.bind_some, Option.toList_some, Option.toList_none, List.cons_append, List.nil_append, true_or, or_true, if_true, bI_if, bI_if, g1, g2, if_true, if_false, Bool.false_eq_true, true_and, and_true, false_and, and_false, true_or, or_true, false_or, or_false, and_self, or_self, decide_true, decide_false, Bool.not_true, Bool.not_false, Bool.and_true, Bool.and_false, Bool.true_and, Bool.false_and, ite_self]
  · refine ⟨a, b, ?_, h⟩
    simp only [b104_0, b104_5, b104_8, b104_15, b104_18, b104_22, b104_30, b104_37, b104_46, b104_49, b104_58, h16, h94, hs, c_within, c_isState, c_isMove, Option.bind_some, Option.toList_some, Option.toList_none, List.cons_append, List.nil_append, true_or, or_true, if_true, bI_if, bI_if, g1, if_true, if_false, Bool.false_eq_true, true_and, and_true, false_and, and_false, true_or, or_true, false_or, or_false, and_self, or_self, decide_true, decide_false, Bool.not_true, Bool.not_false, Bool.and_true, Bool.and_false, Bool.true_and, Bool.false_and, ite_self]
