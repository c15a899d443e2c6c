/-! ===== THE CORNER of the reference: here, gone, whole ===== -/
theorem l_sub (x y : Int64) : x - y = x + -y := Int64.sub_eq_add_neg ..
set_option maxHeartbeats 1000000 in
theorem m_here {n N B cr act t c u g p d : Nat} {r : Nat → Nat → Option Nat} {Q : AQ} {a : Nat → Nat → Int32} {b : Nat → Nat → Int64} {Φ x : Int64} {vt vp : Int32} (et : vt = iN t) (ep : vp = iN p) (ht : t ≤ N) (hp : p < 4840) (hact : act < 8 ∧ act ≠ 4) (ha0 : act ≠ 0) (hcr : cr < 120) (hE : EnvM n r a N B Q) (hnw : a 94 39 = bI false) (h56 : a 94 56 = iN cr) (h57 : a 94 57 = iN act) (hc : c ≤ 18) (hg : g ≤ 190) (hR : RowK N B cr act Q a b (t + 1) c u g Φ) : ∃ a' b' c' g', Den (d+17) 235 0 [.ref 94, .int vt, .int vp, .long x, zmJ, zmJ, zmJ, zmJ, zmJ, zmJ, zmJ, zmJ, zmJ, zmJ] [] (zmMk n a b r) = some (none, zmMk n a' b' r) ∧ RowK N B cr act Q a' b' (t + 1) c' (u + (if pS p = 0 then 1 else 0)) g' (Φ + x * UU Q B cr act (N - t) t p) ∧ c' ≤ c + 1 + (if pS p = 0 then 1 else 0) ∧ g' ≤ g + 2 ∧ (t = N → c' = c ∧ g' = g) ∧ onlyK a a' b b' := by
  subst et ep
  have h8 := hE.n8
  have hB := hE.qb
  have hyl := pY_le hp
  have h94 : a 94 0 = iN N := hE.2.1
  by_cases hy : pY p ≤ cr
  · obtain ⟨a1, b1, e1, f1, l1, -⟩ := m_solves (d := d) (b := b) (vt := iN t) (vp := iN p) rfl rfl ht hp hE hnw
    have R1 := (hR.ag (f1 94 rfl) (f1 118 rfl) (f1 124 rfl) (l1 94 rfl) (l1 122 rfl) (l1 126 rfl)).add (x * VB Q B false (N - t) t p)
    refine ⟨a1, _, c, g, ?_, (R1.le (by omega)).eq ?_, by omega, by omega, fun _ => ⟨rfl, rfl⟩, (onlyK.sol f1 l1).trans onlyK.add⟩
    · have h62 : b1 94 62 = b 94 62 := by rw [l1 94 rfl]
      rw [h62]
      simp (disch := omega) only [b235_0, m_yardsIn hp, Option.bind_some, Option.toList_some, Option.toList_none, List.cons_append, List.nil_append, true_or, or_true, if_true, bI_if, b235_4, h56, n_add, n_mul, n_in, decide_eq_true_eq, n_nat, n_lt, n_eq, n_sub, if_pos, if_neg, if_true, if_false, b235_11, e1, b235_23]
    · congr 2
      cases hk : N - t with
      | zero => rfl
      | succ m => unfold UU; rw [if_pos hy]
  · by_cases htN : t = N
    · obtain ⟨a1, e1, f1⟩ := m_costs (d := d+6) (b := b) (vt := iN t) (vp := iN p) hE rfl rfl (by omega) hp
      have hm := hB.m t p 0
      have R1 := (hR.fr f1).add (-(x * hun (N - t) * jN (Q (iN 109) t p 0)))
      rw [← l_sub] at R1
      refine ⟨a1, _, c, g, ?_, (R1.le (by omega)).eq ?_, by omega, by omega, fun _ => ⟨rfl, rfl⟩, (onlyK.fr f1).trans onlyK.add⟩
      · simp (disch := omega) only [b235_0, m_yardsIn hp, Option.bind_some, Option.toList_some, Option.toList_none, List.cons_append, List.nil_append, true_or, or_true, if_true, bI_if, b235_4, h56, n_add, n_mul, n_in, decide_eq_true_eq, n_nat, n_lt, n_eq, n_sub, if_pos, if_neg, if_true, if_false, b235_29, h94, m_hundreds, b235_38, b235_61, b235_78, e1, b235_84, b235_98, l_of]
      · rw [show N - t = 0 by omega]
        have e : UU Q B cr act 0 t p = -(jN (Q (iN 109) t p 0)) := by
          unfold UU VB
          rw [if_neg (by omega)]
        rw [e, show hun 0 = 1 from rfl, Int64.mul_one, Int64.mul_neg]
    · obtain ⟨m, hm⟩ : ∃ m, t + m + 1 = N := ⟨N - t - 1, by omega⟩
      have em : N - t = m + 1 := by omega
      obtain ⟨a1, e1, f1⟩ := m_mayBe (d := d+6) (b := b) hE (vt := iN t) (vp := iN p) (va := iN act) rfl rfl rfl (by omega) hp hact
      have hE1 := hE.fr f1
      have h94a : a1 94 0 = iN N := hE1.2.1
      have h57a : a1 94 57 = iN act := by rw [f1 94 rfl]; exact h57
      have hpre : Den (d+17) 235 0 [.ref 94, .int (iN t), .int (iN p), .long x, zmJ, zmJ, zmJ, zmJ, zmJ, zmJ, zmJ, zmJ, zmJ, zmJ] [] (zmMk n a b r) = Den (d+17) 235 58 [.ref 94,.int (iN t),.int (iN p),.long x,zmJ,.long (hun (m + 1)),zmJ,zmJ,zmJ,zmJ,zmJ,zmJ,zmJ,zmJ] [.int (bI (decide (act = 0 ∨ Q (iN 119) t p act ≤ pB p)))] (zmMk n a1 b r) := by
        simp (disch := omega) only [b235_0, m_yardsIn hp, Option.bind_some, Option.toList_some, Option.toList_none, List.cons_append, List.nil_append, true_or, or_true, if_true, bI_if, b235_4, h56, n_add, n_mul, n_in, decide_eq_true_eq, n_nat, n_lt, n_eq, n_sub, if_pos, if_neg, if_true, if_false, b235_29, h94, m_hundreds, em, b235_38, b235_48, h57, e1]
      rw [hpre]
      by_cases hmay : mayP Q t p act
      · have hd : decide (act = 0 ∨ Q (iN 119) t p act ≤ pB p) = true := decide_eq_true (Or.inr hmay)
        rw [hd]
        obtain ⟨a2, e2, f2⟩ := m_behind (d := d+6) (b := b) hE1 (vt := iN t) (vp := iN p) (va := iN act) rfl rfl rfl (by omega) hp hact hmay
        have hE2 := hE1.fr f2
        have h57b : a2 94 57 = iN act := by rw [f2 94 rfl]; exact h57a
        obtain ⟨a3, e3, f3⟩ := m_seenBy (d := d+6) (b := b) hE2 (vt := iN t) (vp := iN p) (va := iN act) rfl rfl rfl (by omega) hp hact
        have hE3 := hE2.fr f3
        have f123 := (f1.trans f2).trans f3
        have hs := senP_le hB t p act
        have hnx := behP_lt (Q := Q) (t := t) (act := act) hp
        have hpS := pS_le p
        have hs10 : senP Q t p act < 10 → pS p = 0 := fun h => by
          unfold senP at h
          split at h
          · omega
          · omega
        obtain ⟨v1, v2, v3, a4, b4, c4, g4, e4, R4, k4, j4, o4⟩ := m_herePart (d := d+5) (p := p) (sn := 0) (x := x) hm (by omega) hs hnx hE3 (by omega) (by omega) (hR.fr f123) zmJ zmJ zmJ
        have hc4 : c4 ≤ c + 1 := by split at k4 <;> omega
        obtain ⟨v4, v5, v6, a5, b5, c5, g5, e5, R5, k5, j5, o5⟩ := m_herePart (d := d+5) (p := p) (sn := 1) (x := x) hm (by omega) hs hnx (hE3.ag o4.agM) (by omega) (by omega) R4 v1 v2 v3
        refine ⟨a5, b5, c5, g5, ?_, (R5.le ?_).eq ?_, ?_, by omega, fun q => absurd q htN, ((onlyK.fr f123).trans o4).trans o5⟩
        · simp (disch := omega) only [b235_58, Option.bind_some, Option.toList_some, Option.toList_none, List.cons_append, List.nil_append, true_or, or_true, if_true, bI_if, b235_105, h57a, e2, b235_115, h57b, e3, b235_127, e4, e5]
          rw [b235_132]
          simp (disch := omega) only [n_add, n_mul, n_in, decide_eq_true_eq, n_nat, n_lt, n_eq, n_sub, if_pos, if_neg, if_true, if_false, b235_321]
        · by_cases h : senP Q t p act < 10
          · rw [if_pos ⟨rfl, h⟩, if_neg (by omega), if_pos (hs10 h)]
            exact Nat.le_refl _
          · rw [if_neg (fun q => h q.2), if_neg (by omega)]
            omega
        · rw [em]
          conv => rhs; unfold UU
          rw [if_neg hy, if_pos hmay]
          generalize crnV Q B (hun m) (UG Q cr act m (t + 1)) (UU Q B cr act m (t + 1)) t (behP Q t p act) (senP Q t p act) 0 = y0
          generalize crnV Q B (hun m) (UG Q cr act m (t + 1)) (UU Q B cr act m (t + 1)) t (behP Q t p act) (senP Q t p act) 1 = y1
          grind
        · rw [if_neg (by omega)] at k5
          by_cases h : senP Q t p act < 10
          · rw [if_pos (hs10 h)]
            omega
          · rw [if_pos ⟨rfl, by omega⟩] at k4
            omega
      · have hd : decide (act = 0 ∨ Q (iN 119) t p act ≤ pB p) = false := decide_eq_false (fun q => q.elim ha0 hmay)
        rw [hd]
        obtain ⟨hAsk, -⟩ := id hE1
        obtain ⟨a2, e2, f2⟩ := hAsk (d+7) a1 b (iN 108) _ _ _ _ t p 0 agD.refl rfl rfl rfl rfl rfl (by omega) hp (by omega)
        have e2' : Den (d+7+9) 205 0 [.ref 94, .int (iN t), .int (iN p), .int (iN 0), .int (iN 108), .int (iN 99)] [] (zmMk n a1 b r) = some (some (.int (iN (Q (iN 108) t p 0))), zmMk n a2 b r) := e2
        have hl := hB.l t p 0
        have f12 := f1.trans f2
        have R1 := (hR.fr f12).add (-(x * hun (m + 1) * jN (Q (iN 108) t p 0)))
        rw [← l_sub] at R1
        refine ⟨a2, _, c, g, ?_, (R1.le (by omega)).eq ?_, by omega, by omega, fun _ => ⟨rfl, rfl⟩, (onlyK.fr f12).trans onlyK.add⟩
        · simp (disch := omega) only [b235_58, Option.bind_some, Option.toList_some, Option.toList_none, List.cons_append, List.nil_append, true_or, or_true, if_true, bI_if, Bool.false_eq_true, if_false, b235_61, h94a, n_add, n_mul, n_in, decide_eq_true_eq, n_nat, n_lt, n_eq, n_sub, if_pos, if_neg, if_true, if_false, b235_87, e2', b235_98, l_of]
        · rw [em]
          conv => rhs; unfold UU
          rw [if_neg hy, if_neg hmay]
          generalize jN (Q (iN 108) t p 0) = y0
          generalize hun (m + 1) = y1
          grind
set_option maxHeartbeats 1000000 in
theorem m_gone {n N B cr act t c u g p d : Nat} {r : Nat → Nat → Option Nat} {Q : AQ} {a : Nat → Nat → Int32} {b : Nat → Nat → Int64} {Φ x : Int64} {vt vp : Int32} (et : vt = iN t) (ep : vp = iN p) (ht : t ≤ N) (hp : p < 4840) (hact : act < 8 ∧ act ≠ 4) (ha0 : act ≠ 0) (hcr : cr < 120) (hE : EnvM n r a N B Q) (h56 : a 94 56 = iN cr) (h57 : a 94 57 = iN act) (hg : g ≤ 190) (hR : RowK N B cr act Q a b (t + 1) c u g Φ) : ∃ a' b' g', Den (d+17) 236 0 [.ref 94, .int vt, .int vp, .long x, zmJ, zmJ, zmJ] [] (zmMk n a b r) = some (none, zmMk n a' b' r) ∧ RowK N B cr act Q a' b' (t + 1) c u g' (Φ + x * UG Q cr act (N - t) t p) ∧ g' ≤ g + 1 ∧ (t = N → g' = g) ∧ onlyK a a' b b' := by
  subst et ep
  have h8 := hE.n8
  have hB := hE.qb
  have hyl := pY_le hp
  have h94 : a 94 0 = iN N := hE.2.1
  have hmb := hB.m t p 0
  by_cases hy : t = N ∨ pY p ≤ cr
  · obtain ⟨a1, e1, f1⟩ := m_costs (d := d+6) (b := b) (vt := iN t) (vp := iN p) hE rfl rfl (by omega) hp
    have R1 := (hR.fr f1).add (-(x * hun (N - t) * jN (Q (iN 109) t p 0)))
    rw [← l_sub] at R1
    refine ⟨a1, _, g, ?_, R1.eq ?_, by omega, fun _ => rfl, (onlyK.fr f1).trans onlyK.add⟩
    · by_cases htN : t = N
      · simp (disch := omega) only [b236_0, h94, n_add, n_mul, n_in, decide_eq_true_eq, n_nat, n_lt, n_eq, n_sub, if_pos, if_neg, if_true, if_false, m_hundreds, Option.bind_some, Option.toList_some, Option.toList_none, List.cons_append, List.nil_append, true_or, or_true, if_true, bI_if, b236_9, b236_30, e1, b236_45, l_of, b236_139]
      · have hy2 := hy.resolve_left htN
        simp (disch := omega) only [b236_0, h94, n_add, n_mul, n_in, decide_eq_true_eq, n_nat, n_lt, n_eq, n_sub, if_pos, if_neg, if_true, if_false, m_hundreds, Option.bind_some, Option.toList_some, Option.toList_none, List.cons_append, List.nil_append, true_or, or_true, if_true, bI_if, b236_9, b236_19, m_yardsIn hp, b236_23, h56, b236_30, e1, b236_45, l_of, b236_139]
    · have e : UG Q cr act (N - t) t p = -(jN (Q (iN 109) t p 0)) * hun (N - t) := by
        cases hk : N - t with
        | zero => rfl
        | succ m => rw [UG_s, if_pos (hy.resolve_left (by omega))]
      rw [e]
      generalize jN (Q (iN 109) t p 0) = y0
      generalize hun (N - t) = y1
      grind
  · have htN : ¬ t = N := fun q => hy (Or.inl q)
    have hy2 : ¬ pY p ≤ cr := fun q => hy (Or.inr q)
    obtain ⟨m, hm⟩ : ∃ m, t + m + 1 = N := ⟨N - t - 1, by omega⟩
    have em : N - t = m + 1 := by omega
    obtain ⟨a1, e1, f1⟩ := m_mayBe (d := d+6) (b := b) hE (vt := iN t) (vp := iN p) (va := iN act) rfl rfl rfl (by omega) hp hact
    have hE1 := hE.fr f1
    have h57a : a1 94 57 = iN act := by rw [f1 94 rfl]; exact h57
    have hpre : Den (d+17) 236 0 [.ref 94, .int (iN t), .int (iN p), .long x, zmJ, zmJ, zmJ] [] (zmMk n a b r) = Den (d+17) 236 64 [.ref 94,.int (iN t),.int (iN p),.long x,zmJ,.long (hun (m + 1)),zmJ] [.int (bI (decide (act = 0 ∨ Q (iN 119) t p act ≤ pB p)))] (zmMk n a1 b r) := by
      simp (disch := omega) only [b236_0, h94, n_add, n_mul, n_in, decide_eq_true_eq, n_nat, n_lt, n_eq, n_sub, if_pos, if_neg, if_true, if_false, m_hundreds, em, Option.bind_some, Option.toList_some, Option.toList_none, List.cons_append, List.nil_append, true_or, or_true, if_true, bI_if, b236_9, b236_19, m_yardsIn hp, b236_23, h56, b236_54, h57, e1]
    rw [hpre, em, UG_s, if_neg hy2]
    by_cases hmay : mayP Q t p act
    · have hd : decide (act = 0 ∨ Q (iN 119) t p act ≤ pB p) = true := decide_eq_true (Or.inr hmay)
      rw [hd, if_pos hmay]
      obtain ⟨a2, e2, f2⟩ := m_behind (d := d+6) (b := b) hE1 (vt := iN t) (vp := iN p) (va := iN act) rfl rfl rfl (by omega) hp hact hmay
      have hnx := behP_lt (Q := Q) (t := t) (act := act) hp
      have f12 := f1.trans f2
      have R1 := (hR.fr f12).gone (x * 100) hnx
      rw [show N - (t + 1) = m by omega] at R1
      obtain ⟨P, PG, W, WG, -, -, ⟨h55, -⟩, -⟩ := hR.fr f12
      have h55a : a1 94 55 = iN g := by rw [← h55, f2 94 rfl]
      have h55' : (uI a2 124 g (iN (behP Q t p act))) 94 55 = iN g := by rw [uI_at, if_neg (by omega)]; exact h55
      refine ⟨_, _, g + 1, ?_, R1.eq ?_, Nat.le_refl _, fun q => absurd q htN, (onlyK.fr f12).trans onlyK.gone⟩
      · simp (disch := omega) only [b236_64, Option.bind_some, Option.toList_some, Option.toList_none, List.cons_append, List.nil_append, true_or, or_true, if_true, bI_if, b236_96, h57a, h55a, e2, b236_114, n_add, n_mul, n_in, decide_eq_true_eq, n_nat, n_lt, n_eq, n_sub, if_pos, if_neg, if_true, if_false, b236_115, h55', b236_129, b236_139]
      · generalize UG Q cr act m (t + 1) (behP Q t p act) = y0
        grind
    · have hd : decide (act = 0 ∨ Q (iN 119) t p act ≤ pB p) = false := decide_eq_false (fun q => q.elim ha0 hmay)
      rw [hd, if_neg hmay]
      obtain ⟨hAsk, -⟩ := id hE1
      obtain ⟨a2, e2, f2⟩ := hAsk (d+7) a1 b (iN 108) _ _ _ _ t p 0 agD.refl rfl rfl rfl rfl rfl (by omega) hp (by omega)
      have e2' : Den (d+7+9) 205 0 [.ref 94, .int (iN t), .int (iN p), .int (iN 0), .int (iN 108), .int (iN 99)] [] (zmMk n a1 b r) = some (some (.int (iN (Q (iN 108) t p 0))), zmMk n a2 b r) := e2
      have hl := hB.l t p 0
      have f12 := f1.trans f2
      have R1 := (hR.fr f12).add (-(x * hun (m + 1) * jN (Q (iN 108) t p 0)))
      rw [← l_sub] at R1
      refine ⟨a2, _, g, ?_, R1.eq ?_, by omega, fun _ => rfl, (onlyK.fr f12).trans onlyK.add⟩
      · simp (disch := omega) only [b236_64, Option.bind_some, Option.toList_some, Option.toList_none, List.cons_append, List.nil_append, true_or, or_true, if_true, bI_if, Bool.false_eq_true, if_false, b236_67, e2', b236_87, l_of, b236_139]
      · generalize jN (Q (iN 108) t p 0) = y0
        generalize hun (m + 1) = y1
        grind
