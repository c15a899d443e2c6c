/-! ===== the reference's BEST, back from the last STEP over the marked ===== -/
theorem m_worth {d N B : Nat} {n : Nat} {a : Nat → Nat → Int32} {b : Nat → Nat → Int64} {r : Nat → Nat → Option Nat} {Q : AQ} (hE : EnvM n r a N B Q) {t p : Nat} {vt vp : Int32} (et : vt = iN t) (ep : vp = iN p) (ht : t ≤ 8) (hp : p < 4840) : ∃ a', Den (d+10) 206 0 [.ref 94, .int vt, .int vp] [] (zmMk n a b r) = some (some (.int (iN (Q (iN 118) t p 0))), zmMk n a' b r) ∧ frM a a' := by
  subst et ep
  obtain ⟨hA, -⟩ := id hE
  obtain ⟨a1, e1, f1⟩ := hA d a b (iN 118) _ _ _ _ t p 0 agD.refl rfl rfl rfl rfl rfl ht hp (by omega)
  have e1' : Den (d+9) 205 0 [.ref 94, .int (iN t), .int (iN p), .int (iN 0), .int (iN 118), .int (iN 99)] [] (zmMk n a b r) = some (some (.int (iN (Q (iN 118) t p 0))), zmMk n a1 b r) := e1
  exact ⟨a1, by simp only [b206_0, b206_11, e1', Option.bind_some, Option.toList_some, Option.toList_none, List.cons_append, List.nil_append, true_or, or_true, if_true, bI_if], f1⟩
theorem m_costs {d N B : Nat} {n : Nat} {a : Nat → Nat → Int32} {b : Nat → Nat → Int64} {r : Nat → Nat → Option Nat} {Q : AQ} (hE : EnvM n r a N B Q) {t p : Nat} {vt vp : Int32} (et : vt = iN t) (ep : vp = iN p) (ht : t ≤ 8) (hp : p < 4840) : ∃ a', Den (d+10) 207 0 [.ref 94, .int vt, .int vp] [] (zmMk n a b r) = some (some (.int (iN (Q (iN 109) t p 0))), zmMk n a' b r) ∧ frM a a' := by
  subst et ep
  obtain ⟨hA, -⟩ := id hE
  obtain ⟨a1, e1, f1⟩ := hA d a b (iN 109) _ _ _ _ t p 0 agD.refl rfl rfl rfl rfl rfl ht hp (by omega)
  have e1' : Den (d+9) 205 0 [.ref 94, .int (iN t), .int (iN p), .int (iN 0), .int (iN 109), .int (iN 99)] [] (zmMk n a b r) = some (some (.int (iN (Q (iN 109) t p 0))), zmMk n a1 b r) := e1
  exact ⟨a1, by simp only [b207_0, b207_11, e1', Option.bind_some, Option.toList_some, Option.toList_none, List.cons_append, List.nil_append, true_or, or_true, if_true, bI_if], f1⟩
theorem l_rea2 (w c g m pw f k : Int64) : w - c * g * pw * m + c * k * f = w + (-(c * g * m * pw) + c * k * f) := by grind
theorem l_rea3 (w c v pw : Int64) : w + c * 10 * pw * v = w + 10 * c * v * pw := by grind
theorem l_rea4 (w c m g pw : Int64) : w - c * g * pw * m = w + -(c * g * m * pw) := by grind
theorem l_rea5 (x l w : Int64) : x * w * l = x * l * w := by grind
/-- the values that a worth needs of what comes stand in the row of values -/
def needM (b : Nat → Nat → Int64) (Q : AQ) (B : Nat) (F : Nat → Int64) (t nx s sn : Nat) : Prop := (if sn = 1 then s else 10 - s) ≠ 0 → pY (asP nx sn) ≠ 0 → b 115 (4840 * (t + 1) + asP nx sn) = F (asP nx sn)
set_option maxHeartbeats 1000000 in
theorem m_valuePart {n N B m : Nat} {r : Nat → Nat → Option Nat} {Q : AQ} {F : Nat → Int64} {d t p act nx s sn : Nat} {a : Nat → Nat → Int32} {b : Nat → Nat → Int64} (ht : t + m + 1 = N) (hsn : sn ≤ 1) (hs : s ≤ 10) (hnx : nx < 4840) (hE : EnvM n r a N B Q) (hF : needM b Q B F t nx s sn) (u11 u12 u13 : Value) (w : Int64) : ∃ u11' u12' u13' a', Den (d+12) 217 61 [.ref 94,.int (iN t),.int (iN p),.int (iN act),.long (hun m),zmJ,.int (iN nx),.int (iN s),.long w,zmJ,.int (iN sn),u11,u12,u13] [] (zmMk n a b r) = Den (d+12) 217 61 [.ref 94,.int (iN t),.int (iN p),.int (iN act),.long (hun m),zmJ,.int (iN nx),.int (iN s),.long (w + partV Q B (hun m) F t nx s sn),zmJ,.int (iN (sn + 1)),u11',u12',u13'] [] (zmMk n a' b r) ∧ frM a a' := by
  have h8 := hE.n8
  have hB := hE.qb
  have e1 : ∃ c, c = (if sn = 1 then s else 10 - s) ∧ Den (d+12) 217 61 [.ref 94,.int (iN t),.int (iN p),.int (iN act),.long (hun m),zmJ,.int (iN nx),.int (iN s),.long w,zmJ,.int (iN sn),u11,u12,u13] [] (zmMk n a b r) = Den (d+12) 217 83 [.ref 94,.int (iN t),.int (iN p),.int (iN act),.long (hun m),zmJ,.int (iN nx),.int (iN s),.long w,zmJ,.int (iN sn),u11,u12,u13] [.int (iN c)] (zmMk n a b r) := by
    rcases (by omega : sn = 0 ∨ sn = 1) with rfl | rfl
    · refine ⟨10 - s, rfl, ?_⟩
      rw [b217_61]
      simp (disch := omega) only [b217_67, b217_78, n_add, n_mul, n_in, decide_eq_true_eq, n_nat, n_lt, n_eq, n_sub, if_pos, if_neg, if_true, if_false]
    · refine ⟨s, rfl, ?_⟩
      rw [b217_61]
      simp (disch := omega) only [b217_67, b217_73, n_add, n_mul, n_in, decide_eq_true_eq, n_nat, n_lt, n_eq, n_sub, if_pos, if_neg, if_true, if_false]
  obtain ⟨c, hc1, e1⟩ := e1
  have hcb : c ≤ 10 := by rw [hc1]; split <;> omega
  rw [e1]
  unfold partV
  unfold needM at hF
  rw [← hc1] at hF ⊢
  by_cases h0 : c = 0
  · refine ⟨.int (iN c), u12, u13, a, ?_, frS.refl⟩
    simp (disch := omega) only [b217_83, b217_90, b217_206, n_add, n_mul, n_in, decide_eq_true_eq, n_nat, n_lt, n_eq, n_sub, if_pos, if_neg, if_true, if_false]
    rw [Int64.add_zero]
  · rw [if_neg h0]
    have hthl : asP nx sn < 4840 := asP_lt hnx hsn
    have hyl := pY_le hthl
    by_cases hy : pY (asP nx sn) = 0
    · obtain ⟨a1, e2, f1⟩ := m_worth (d := d+1) (b := b) hE (vt := iN t) (vp := iN (asP nx sn)) rfl rfl (by omega) hthl
      refine ⟨.int (iN c), .int (iN (asP nx sn)), u13, a1, ?_, f1⟩
      rw [if_pos hy]
      have hv := hB.v t (asP nx sn) 0
      simp (disch := omega) only [b217_83, n_add, n_mul, n_in, decide_eq_true_eq, n_nat, n_lt, n_eq, n_sub, if_pos, if_neg, if_true, if_false, b217_93, m_asSeen hnx, Option.bind_some, Option.toList_some, Option.toList_none, List.cons_append, List.nil_append, true_or, or_true, if_true, bI_if, b217_100, m_yardsIn hthl, b217_107, hy, b217_110, e2, b217_129, b217_206, l_of]
      rw [l_rea3]
    · obtain ⟨a1, e2, f1⟩ := m_goesBy (d := d+1) (b := b) hE (vt := iN t) (vp := iN (asP nx sn)) rfl rfl (by omega) hthl
      have hg := gonP_le hB B t (asP nx sn)
      obtain ⟨a2, e3, f2⟩ := m_costs (d := d+1) (b := b) (hE.fr f1) (vt := iN t) (vp := iN (asP nx sn)) rfl rfl (by omega) hthl
      have hv := hB.m t (asP nx sn) 0
      have hcg : c * gonP Q B t (asP nx sn) ≤ 100 := Nat.mul_le_mul hcb hg
      have hcg2 : c * (10 - gonP Q B t (asP nx sn)) ≤ 100 := Nat.mul_le_mul hcb (Nat.sub_le _ _)
      refine ⟨.int (iN c), .int (iN (asP nx sn)), .int (iN (gonP Q B t (asP nx sn))), a2, ?_, f1.trans f2⟩
      rw [if_neg hy]
      have hFv := hF h0 hy
      by_cases hg0 : gonP Q B t (asP nx sn) = 10
      · simp (disch := omega) only [b217_83, n_add, n_mul, n_in, decide_eq_true_eq, n_nat, n_lt, n_eq, n_sub, if_pos, if_neg, if_true, if_false, b217_93, m_asSeen hnx, Option.bind_some, Option.toList_some, Option.toList_none, List.cons_append, List.nil_append, true_or, or_true, if_true, bI_if, b217_100, m_yardsIn hthl, b217_107, hy, b217_137, e2, b217_144, e3, b217_164, b217_206, l_of, ← l_mul]
        rw [hg0, show jN (10 - 10) = 0 from rfl]
        rw [Int64.mul_zero, Int64.zero_mul, Int64.add_zero, l_rea4]
      · simp (disch := omega) only [b217_83, n_add, n_mul, n_in, decide_eq_true_eq, n_nat, n_lt, n_eq, n_sub, if_pos, if_neg, if_true, if_false, b217_93, m_asSeen hnx, Option.bind_some, Option.toList_some, Option.toList_none, List.cons_append, List.nil_append, true_or, or_true, if_true, bI_if, b217_100, m_yardsIn hthl, b217_107, hy, b217_137, e2, b217_144, e3, b217_164, b217_176, hFv, b217_202, b217_206, l_of, ← l_mul]
        rw [l_rea2]
theorem m_valueBy {n N B m : Nat} {r : Nat → Nat → Option Nat} {Q : AQ} {F : Nat → Int64} {d t p act : Nat} {vt vp va : Int32} {a : Nat → Nat → Int32} {b : Nat → Nat → Int64} (ht : t + m + 1 = N) (et : vt = iN t) (ep : vp = iN p) (ea : va = iN act) (hp : p < 4840) (ha : act < 8 ∧ act ≠ 4) (hE : EnvM n r a N B Q) (hm : act = 0 ∨ mayP Q t p act) (hF : act ≠ 0 → ∀ sn, sn ≤ 1 → needM b Q B F t (behP Q t p act) (senP Q t p act) sn) : ∃ a', Den (d+12) 217 0 [.ref 94, .int vt, .int vp, .int va, zmJ, zmJ, zmJ, zmJ, zmJ, zmJ, zmJ, zmJ, zmJ, zmJ] [] (zmMk n a b r) = some (some (.long (worthV Q B (hun m) F t p act)), zmMk n a' b r) ∧ frM a a' := by
  subst et ep ea
  have h8 := hE.n8
  obtain ⟨hA, h94, -, -, -, -, hB⟩ := id hE
  have em : N - t - 1 = m := by omega
  unfold worthV
  by_cases h0 : act = 0
  · subst h0
    obtain ⟨a1, e1, f1⟩ := hA (d+2) a b (iN 108) _ _ _ _ t p 0 agD.refl rfl rfl rfl rfl rfl (by omega) hp (by omega)
    have e1' : Den (d+2+9) 205 0 [.ref 94, .int (iN t), .int (iN p), .int (iN 0), .int (iN 108), .int (iN 99)] [] (zmMk n a b r) = some (some (.int (iN (Q (iN 108) t p 0))), zmMk n a1 b r) := e1
    have hl := hB.l t p 0
    refine ⟨a1, ?_, f1⟩
    simp (disch := omega) only [b217_0, h94, n_add, n_mul, n_in, decide_eq_true_eq, n_nat, n_lt, n_eq, n_sub, if_pos, if_neg, if_true, if_false, em, m_hundreds, Option.bind_some, Option.toList_some, Option.toList_none, List.cons_append, List.nil_append, true_or, or_true, if_true, bI_if, b217_11, b217_17, e1', b217_34, l_of]
    rw [l_rea5]
  · have hm2 : mayP Q t p act := hm.resolve_left h0
    obtain ⟨a1, e1, f1⟩ := m_behind (d := d+1) (b := b) hE (vt := iN t) (vp := iN p) (va := iN act) rfl rfl rfl (by omega) hp ha hm2
    have hE1 := hE.fr f1
    obtain ⟨a2, e2, f2⟩ := m_seenBy (d := d+1) (b := b) hE1 (vt := iN t) (vp := iN p) (va := iN act) rfl rfl rfl (by omega) hp ha
    have hE2 := hE1.fr f2
    have hs := senP_le hB t p act
    have hnx := behP_lt (Q := Q) (t := t) (act := act) hp
    obtain ⟨u1, u2, u3, a3, e3, f3⟩ := m_valuePart (p := p) (act := act) (d := d) ht (by omega) hs hnx hE2 (hF h0 0 (by omega)) zmJ zmJ zmJ 0
    obtain ⟨u4, u5, u6, a4, e4, f4⟩ := m_valuePart (p := p) (act := act) (d := d) ht (by omega) hs hnx (hE2.fr f3) (hF h0 1 (by omega)) u1 u2 u3 (0 + partV Q B (hun m) F t (behP Q t p act) (senP Q t p act) 0)
    refine ⟨a4, ?_, ((f1.trans f2).trans f3).trans f4⟩
    rw [if_neg h0]
    simp (disch := omega) only [b217_0, h94, n_add, n_mul, n_in, decide_eq_true_eq, n_nat, n_lt, n_eq, n_sub, if_pos, if_neg, if_true, if_false, em, m_hundreds, Option.bind_some, Option.toList_some, Option.toList_none, List.cons_append, List.nil_append, true_or, or_true, if_true, bI_if, b217_11, b217_37, e1, b217_44, e2, b217_53, e3, e4]
    rw [b217_61]
    simp (disch := omega) only [n_add, n_mul, n_in, decide_eq_true_eq, n_nat, n_lt, n_eq, n_sub, if_pos, if_neg, if_true, if_false, b217_212]
