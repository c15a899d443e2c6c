/-! ===== what comes behind an ACTION, both sides, over what is asked ===== -/
/-- asked of the class's text TT, as a premise: over every store that agrees where asking reads -/
def AskC (n : Nat) (r : Nat → Nat → Option Nat) (TT : Nat) (a : Nat → Nat → Int32) (Q : AQ) : Prop := ∀ (d : Nat) (a1 : Nat → Nat → Int32) (b : Nat → Nat → Int64) (l vt vp va : Int32) (t p act : Nat), agD dpA a a1 → isLt l = true → vt = iN t → vp = iN p → va = iN act → t ≤ 8 → p < 4840 → act < 8 ∧ act ≠ 4 → ∃ a2, Den (d+9) 58 0 [.ref 29, .ref TT, .int l, .int vt, .int vp, .int va, zmJ] [] (zmMk n a1 b r) = some (some (.int (iN (Q l t p act))), zmMk n a2 b r) ∧ frC a1 a2
def AskM (n : Nat) (r : Nat → Nat → Option Nat) (a : Nat → Nat → Int32) (Q : AQ) : Prop := ∀ (d : Nat) (a1 : Nat → Nat → Int32) (b : Nat → Nat → Int64) (l vt vp va vh : Int32) (t p act : Nat), agD dpMA a a1 → isLt l = true → vt = iN t → vp = iN p → va = iN act → vh = iN (hiQ l) → t ≤ 8 → p < 4840 → act < 8 ∧ act ≠ 4 → ∃ a2, Den (d+9) 205 0 [.ref 94, .int vt, .int vp, .int va, .int l, .int vh] [] (zmMk n a1 b r) = some (some (.int (iN (Q l t p act))), zmMk n a2 b r) ∧ frM a1 a2
/-- N STEPS, BOARDING over behind B, asking answers Q -/
def EnvC (n : Nat) (r : Nat → Nat → Option Nat) (a : Nat → Nat → Int32) (N B : Nat) (Q : AQ) : Prop := (∃ TT, isTx TT ∧ r 29 4 = some TT ∧ AskC n r TT a Q) ∧ a 16 0 = iN N ∧ 1 ≤ N ∧ N ≤ 8 ∧ a 27 1 + a 29 5 = iN B ∧ B ≤ 99 ∧ QB Q
def EnvM (n : Nat) (r : Nat → Nat → Option Nat) (a : Nat → Nat → Int32) (N B : Nat) (Q : AQ) : Prop := AskM n r a Q ∧ a 94 0 = iN N ∧ 1 ≤ N ∧ N ≤ 8 ∧ a 94 35 = iN B ∧ B ≤ 99 ∧ QB Q
theorem EnvC.ag {n N B : Nat} {r : Nat → Nat → Option Nat} {a a' : Nat → Nat → Int32} {Q : AQ} (h : EnvC n r a N B Q) (ha : agD dpC a a') : EnvC n r a' N B Q := by
  obtain ⟨⟨TT, hT, hr, hA⟩, h1, h2, h3, h4, h5, h6⟩ := h
  refine ⟨⟨TT, hT, hr, fun d a1 b l vt vp va t p act h0 => hA d a1 b l vt vp va t p act (ha.toA.trans h0)⟩, ?_, h2, h3, ?_, h5, h6⟩
  · rw [ha 16 0 rfl, h1]
  · rw [ha 27 1 rfl, ha 29 5 rfl, h4]
theorem EnvM.ag {n N B : Nat} {r : Nat → Nat → Option Nat} {a a' : Nat → Nat → Int32} {Q : AQ} (h : EnvM n r a N B Q) (ha : agD dpM a a') : EnvM n r a' N B Q := by
  obtain ⟨hA, h1, h2, h3, h4, h5, h6⟩ := h
  refine ⟨fun d a1 b l vt vp va vh t p act h0 => hA d a1 b l vt vp va vh t p act (ha.toMA.trans h0), ?_, h2, h3, ?_, h5, h6⟩
  · rw [ha 94 0 rfl, h1]
  · rw [ha 94 35 rfl, h4]
theorem EnvC.fr {n N B : Nat} {r : Nat → Nat → Option Nat} {a a' : Nat → Nat → Int32} {Q : AQ} (h : EnvC n r a N B Q) (ha : frC a a') : EnvC n r a' N B Q := h.ag ha.dpC
theorem EnvM.fr {n N B : Nat} {r : Nat → Nat → Option Nat} {a a' : Nat → Nat → Int32} {Q : AQ} (h : EnvM n r a N B Q) (ha : frM a a') : EnvM n r a' N B Q := h.ag ha.dpM
theorem EnvC.n8 {n N B : Nat} {r : Nat → Nat → Option Nat} {a : Nat → Nat → Int32} {Q : AQ} (h : EnvC n r a N B Q) : 1 ≤ N ∧ N ≤ 8 := ⟨h.2.2.1, h.2.2.2.1⟩
theorem EnvM.n8 {n N B : Nat} {r : Nat → Nat → Option Nat} {a : Nat → Nat → Int32} {Q : AQ} (h : EnvM n r a N B Q) : 1 ≤ N ∧ N ≤ 8 := ⟨h.2.2.1, h.2.2.2.1⟩
theorem EnvC.qb {n N B : Nat} {r : Nat → Nat → Option Nat} {a : Nat → Nat → Int32} {Q : AQ} (h : EnvC n r a N B Q) : QB Q := h.2.2.2.2.2.2
theorem EnvM.qb {n N B : Nat} {r : Nat → Nat → Option Nat} {a : Nat → Nat → Int32} {Q : AQ} (h : EnvM n r a N B Q) : QB Q := h.2.2.2.2.2.2
theorem n_lt_pred {t k : Nat} (ht : t < 1000) (hk : k < 1000) : (iN t < iN k - iN 1) = (t + 1 < k) := by
  rw [n_lt_sub (by omega) (by decide) (by omega)]
theorem c_behind {d N B : Nat} {n : Nat} {a : Nat → Nat → Int32} {b : Nat → Nat → Int64} {r : Nat → Nat → Option Nat} {Q : AQ} (hE : EnvC n r a N B Q) {t p act : Nat} {vt vp va : Int32} (et : vt = iN t) (ep : vp = iN p) (ea : va = iN act) (ht : t ≤ 8) (hp : p < 4840) (ha : act < 8 ∧ act ≠ 4) : ∃ a', Den (d+12) 62 0 [.ref 29, .int vt, .int vp, .int va, zmJ, zmJ, zmJ, zmJ] [] (zmMk n a b r) = some (some (.int (if mayP Q t p act then iN (behP Q t p act) else -2)), zmMk n a' b r) ∧ frC a a' := by
  subst et ep ea
  obtain ⟨⟨TT, hT, h29, hA⟩, -, -, -, -, -, hB⟩ := id hE
  obtain ⟨a1, e1, f1⟩ := hA (d+2) a b (iN 119) _ _ _ t p act agD.refl rfl rfl rfl rfl ht hp ha
  obtain ⟨a2, e2, f2⟩ := hA (d+2) a1 b (iN 121) _ _ _ t p act f1.dpA rfl rfl rfl rfl ht hp ha
  obtain ⟨a3, e3, f3⟩ := hA (d+2) a2 b (iN 98) _ _ _ t p act (f1.trans f2).dpA rfl rfl rfl rfl ht hp ha
  have hw := hB.w t p act
  have hy := hB.y t p act
  have hb := hB.b t p act
  have hpB := pB_le p
  have hpY := pY_le hp
  have hpS := pS_le p
  simp (disch := omega) only [b62_0, c_breathAt hp, Option.bind_some, Option.toList_some, Option.toList_none, List.cons_append, List.nil_append, true_or, or_true, if_true, bI_if, b62_4 h29 hT, e1, b62_17, n_sub_neg]
  by_cases hm : mayP Q t p act
  · have hm' := hm
    unfold mayP at hm'
    refine ⟨a3, ?_, (f1.trans f2).trans f3⟩
    rw [if_neg (by omega), if_pos hm, n_sub hm']
    simp (disch := omega) only [b62_28, c_yardsAt hp, Option.bind_some, Option.toList_some, Option.toList_none, List.cons_append, List.nil_append, true_or, or_true, if_true, bI_if, b62_33 h29 hT, e2, b62_46, c_max, b62_50 h29 hT, e3, b62_69, c_min, b62_73, n_add, mx1, mn1, n_and, q_and1, n_eq]
    rw [Nat.min_comm]
    simp (disch := omega) only [b62_81, b62_88, b62_92, b62_93, c_isSeenAt hp, Option.bind_some, Option.toList_some, Option.toList_none, List.cons_append, List.nil_append, true_or, or_true, if_true, bI_if, b62_103, b62_108, n_and, q_and3, n_eq]
    have key : ∀ c : Bool, (Den (d+11) 137 0 [.int (iN (pY p - Q (iN 121) t p act)), .int (iN (min 9 (pB p - Q (iN 119) t p act + Q (iN 98) t p act))), .int (bI (decide (pS p = 1))), .int (bI c)] [] (zmMk n a3 b r)) = some (some (.int (iN (plc (pY p - Q (iN 121) t p act) (min 9 (pB p - Q (iN 119) t p act + Q (iN 98) t p act)) (bN (decide (pS p = 1))) (bN c)))), zmMk n a3 b r) := fun c => c_placeOf
    have k1 := key true
    have k0 := key false
    rw [bI_t] at k1
    rw [bI_f] at k0
    have eS : bN (decide (pS p = 1)) = pS p := by
      rcases (by omega : pS p = 0 ∨ pS p = 1) with h | h <;> rw [h] <;> rfl
    simp only [k1, k0, eS, Option.bind_some, Option.toList_some, Option.toList_none, List.cons_append, List.nil_append, true_or, or_true, if_true, bI_if, b62_108]
    unfold behP
    by_cases h3 : act % 4 = 3
    · simp only [h3, if_true]
      split <;> rfl
    · simp only [h3, if_false]
      have : p % 2 = 0 ∨ p % 2 = 1 := by omega
      rcases this with h | h
      · rw [if_pos h, show pR p = 0 from h]; rfl
      · rw [if_neg (by omega), show pR p = 1 from h]; rfl
  · refine ⟨a1, ?_, f1⟩
    have hm' := hm
    unfold mayP at hm'
    rw [if_pos (by omega), if_neg hm, b62_25]
theorem c_tenthsSeen {d N B : Nat} {n : Nat} {a : Nat → Nat → Int32} {b : Nat → Nat → Int64} {r : Nat → Nat → Option Nat} {Q : AQ} (hE : EnvC n r a N B Q) {t p act : Nat} {vt vp va : Int32} (et : vt = iN t) (ep : vp = iN p) (ea : va = iN act) (ht : t ≤ 8) (hp : p < 4840) (ha : act < 8 ∧ act ≠ 4) : ∃ a', Den (d+10) 63 0 [.ref 29, .int vt, .int vp, .int va] [] (zmMk n a b r) = some (some (.int (iN (senP Q t p act))), zmMk n a' b r) ∧ frC a a' := by
  subst et ep ea
  obtain ⟨⟨TT, hT, h29, hA⟩, -, -, -, -, -, hB⟩ := id hE
  obtain ⟨a1, e1, f1⟩ := hA d a b (iN 115) _ _ _ t p act agD.refl rfl rfl rfl rfl ht hp ha
  simp only [b63_0, c_isSeenAt hp, Option.bind_some, Option.toList_some, Option.toList_none, List.cons_append, List.nil_append, true_or, or_true, if_true, bI_if, b63_4, bI_if]
  unfold senP
  by_cases h : pS p = 1
  · exact ⟨a, by simp only [h, decide_true, if_true, b63_7, b63_25], frS.refl⟩
  · refine ⟨a1, ?_, f1⟩
    simp only [h, decide_false, Bool.false_eq_true, if_false, b63_12 h29 hT, e1, Option.bind_some, Option.toList_some, Option.toList_none, List.cons_append, List.nil_append, true_or, or_true, if_true, bI_if, b63_25]
theorem c_mayGo {d N B : Nat} {n : Nat} {a : Nat → Nat → Int32} {b : Nat → Nat → Int64} {r : Nat → Nat → Option Nat} {Q : AQ} (hE : EnvC n r a N B Q) {t : Nat} {vt : Int32} (et : vt = iN t) (ht : t ≤ 8) : Den (d) 64 0 [.ref 29, .int vt] [] (zmMk n a b r) = some (some (.int (bI (decide (B ≤ t + 1)))), (zmMk n a b r)) := by
  subst et
  obtain ⟨-, -, -, -, h4, h5, -⟩ := id hE
  simp (disch := omega) only [b64_0, b64_18, b64_22, b64_23, h4, Option.bind_some, Option.toList_some, Option.toList_none, List.cons_append, List.nil_append, true_or, or_true, if_true, bI_if, n_lt_pred]
  by_cases h : t + 1 < B
  · rw [if_pos h, decide_eq_false (by omega)]; rfl
  · rw [if_neg h, decide_eq_true (by omega)]; rfl
theorem c_tenthsGone {d N B : Nat} {n : Nat} {a : Nat → Nat → Int32} {b : Nat → Nat → Int64} {r : Nat → Nat → Option Nat} {Q : AQ} (hE : EnvC n r a N B Q) {t p : Nat} {vt vp : Int32} (et : vt = iN t) (ep : vp = iN p) (ht : t ≤ 8) (hp : p < 4840) : ∃ a', Den (d+10) 65 0 [.ref 29, .int vt, .int vp] [] (zmMk n a b r) = some (some (.int (iN (gonP Q B t p))), zmMk n a' b r) ∧ frC a a' := by
  subst et ep
  obtain ⟨⟨TT, hT, h29, hA⟩, -, -, -, -, -, hB⟩ := id hE
  obtain ⟨a1, e1, f1⟩ := hA d a b (iN 103) _ _ _ t p 0 agD.refl rfl rfl rfl rfl ht hp (by omega)
  simp only [b65_0, c_mayGo hE rfl ht, Option.bind_some, Option.toList_some, Option.toList_none, List.cons_append, List.nil_append, true_or, or_true, if_true, bI_if, b65_5, bI_if]
  unfold gonP
  by_cases h : t + 1 < B
  · refine ⟨a, ?_, frS.refl⟩
    rw [decide_eq_false (by omega), if_neg (by decide), if_pos h]
    simp only [b65_24, b65_25]
  · refine ⟨a1, ?_, f1⟩
    rw [decide_eq_true (by omega), if_pos rfl, if_neg h]
    simp only [b65_8 h29 hT, e1, Option.bind_some, Option.toList_some, Option.toList_none, List.cons_append, List.nil_append, true_or, or_true, if_true, bI_if, b65_21, b65_25]
theorem m_mayBe {d N B : Nat} {n : Nat} {a : Nat → Nat → Int32} {b : Nat → Nat → Int64} {r : Nat → Nat → Option Nat} {Q : AQ} (hE : EnvM n r a N B Q) {t p act : Nat} {vt vp va : Int32} (et : vt = iN t) (ep : vp = iN p) (ea : va = iN act) (ht : t ≤ 8) (hp : p < 4840) (ha : act < 8 ∧ act ≠ 4) : ∃ a', Den (d+10) 208 0 [.ref 94, .int vt, .int vp, .int va] [] (zmMk n a b r) = some (some (.int (bI (decide (act = 0 ∨ Q (iN 119) t p act ≤ pB p)))), zmMk n a' b r) ∧ frM a a' := by
  subst et ep ea
  obtain ⟨hA, -, -, -, -, -, hB⟩ := id hE
  obtain ⟨a1, e1, f1⟩ := hA d a b (iN 119) _ _ _ _ t p act agD.refl rfl rfl rfl rfl rfl ht hp ha
  have hw := hB.w t p act
  have hpB := pB_le p
  simp (disch := omega) only [b208_0, n_eq]
  by_cases h : act = 0
  · refine ⟨a, ?_, frS.refl⟩
    rw [if_pos h, decide_eq_true (Or.inl h)]
    simp only [b208_22, b208_27, Option.bind_some, Option.toList_some, Option.toList_none, List.cons_append, List.nil_append, true_or, or_true, if_true, bI_if]
    rfl
  · refine ⟨a1, ?_, f1⟩
    have e2 : Den (d+9) 205 0 [.ref 94, .int (iN t), .int (iN p), .int (iN act), .int (iN 119), .int (iN 9)] [] (zmMk n a b r) = some (some (.int (iN (Q (iN 119) t p act))), zmMk n a1 b r) := e1
    rw [if_neg h]
    simp (disch := omega) only [b208_4, e2, Option.bind_some, Option.toList_some, Option.toList_none, List.cons_append, List.nil_append, true_or, or_true, if_true, bI_if, b208_15, m_breathIn hp, b208_19, b208_22, b208_26, b208_27, n_lt]
    by_cases h2 : Q (iN 119) t p act ≤ pB p
    · rw [if_neg (by omega), decide_eq_true (Or.inr h2)]; rfl
    · rw [if_pos (by omega), decide_eq_false (fun q => q.elim h h2)]; rfl
theorem m_behind {d N B : Nat} {n : Nat} {a : Nat → Nat → Int32} {b : Nat → Nat → Int64} {r : Nat → Nat → Option Nat} {Q : AQ} (hE : EnvM n r a N B Q) {t p act : Nat} {vt vp va : Int32} (et : vt = iN t) (ep : vp = iN p) (ea : va = iN act) (ht : t ≤ 8) (hp : p < 4840) (ha : act < 8 ∧ act ≠ 4) (hm : mayP Q t p act) : ∃ a', Den (d+10) 209 0 [.ref 94, .int vt, .int vp, .int va, zmJ, zmJ] [] (zmMk n a b r) = some (some (.int (iN (behP Q t p act))), zmMk n a' b r) ∧ frM a a' := by
  subst et ep ea
  obtain ⟨hA, -, -, -, -, -, hB⟩ := id hE
  obtain ⟨a1, e1, f1⟩ := hA d a b (iN 121) _ _ _ _ t p act agD.refl rfl rfl rfl rfl rfl ht hp ha
  obtain ⟨a2, e2, f2⟩ := hA d a1 b (iN 119) _ _ _ _ t p act f1.dpMA rfl rfl rfl rfl rfl ht hp ha
  obtain ⟨a3, e3, f3⟩ := hA d a2 b (iN 98) _ _ _ _ t p act (f1.trans f2).dpMA rfl rfl rfl rfl rfl ht hp ha
  have hw := hB.w t p act
  have hy := hB.y t p act
  have hb := hB.b t p act
  have hpB := pB_le p
  have hpY := pY_le hp
  have hpS := pS_le p
  refine ⟨a3, ?_, (f1.trans f2).trans f3⟩
  have e1' : Den (d+9) 205 0 [.ref 94, .int (iN t), .int (iN p), .int (iN act), .int (iN 121), .int (iN 99)] [] (zmMk n a b r) = some (some (.int (iN (Q (iN 121) t p act))), zmMk n a1 b r) := e1
  have e2' : Den (d+9) 205 0 [.ref 94, .int (iN t), .int (iN p), .int (iN act), .int (iN 119), .int (iN 9)] [] (zmMk n a1 b r) = some (some (.int (iN (Q (iN 119) t p act))), zmMk n a2 b r) := e2
  have e3' : Den (d+9) 205 0 [.ref 94, .int (iN t), .int (iN p), .int (iN act), .int (iN 98), .int (iN 9)] [] (zmMk n a2 b r) = some (some (.int (iN (Q (iN 98) t p act))), zmMk n a3 b r) := e3
  have hm' := hm
  unfold mayP at hm'
  simp (disch := omega) only [b209_0, m_yardsIn hp, b209_5, e1', b209_16, m_max, b209_20, m_breathIn hp, b209_28, e2', b209_39, e3', Option.bind_some, Option.toList_some, Option.toList_none, List.cons_append, List.nil_append, true_or, or_true, if_true, bI_if, n_sub, b209_51, m_min, b209_55, m_seenIn hp, n_add, b209_65, mx2, mn1, n_rem, n_eq, b209_72, b209_76, m_ranIn hp, b209_80, m_stateOf, b209_83]
  unfold behP
  split <;> rfl
theorem m_seenBy {d N B : Nat} {n : Nat} {a : Nat → Nat → Int32} {b : Nat → Nat → Int64} {r : Nat → Nat → Option Nat} {Q : AQ} (hE : EnvM n r a N B Q) {t p act : Nat} {vt vp va : Int32} (et : vt = iN t) (ep : vp = iN p) (ea : va = iN act) (ht : t ≤ 8) (hp : p < 4840) (ha : act < 8 ∧ act ≠ 4) : ∃ a', Den (d+10) 210 0 [.ref 94, .int vt, .int vp, .int va] [] (zmMk n a b r) = some (some (.int (iN (senP Q t p act))), zmMk n a' b r) ∧ frM a a' := by
  subst et ep ea
  obtain ⟨hA, -, -, -, -, -, hB⟩ := id hE
  obtain ⟨a1, e1, f1⟩ := hA d a b (iN 115) _ _ _ _ t p act agD.refl rfl rfl rfl rfl rfl ht hp ha
  have e1' : Den (d+9) 205 0 [.ref 94, .int (iN t), .int (iN p), .int (iN act), .int (iN 115), .int (iN 10)] [] (zmMk n a b r) = some (some (.int (iN (Q (iN 115) t p act))), zmMk n a1 b r) := e1
  have hpS := pS_le p
  simp (disch := omega) only [b210_0, m_seenIn hp, Option.bind_some, Option.toList_some, Option.toList_none, List.cons_append, List.nil_append, true_or, or_true, if_true, bI_if, b210_4, n_eq]
  unfold senP
  by_cases h : pS p = 1
  · exact ⟨a, by rw [if_pos h, if_pos h]; simp only [b210_8, b210_24], frS.refl⟩
  · refine ⟨a1, ?_, f1⟩
    rw [if_neg h, if_neg h]
    simp only [b210_13, e1', Option.bind_some, Option.toList_some, Option.toList_none, List.cons_append, List.nil_append, true_or, or_true, if_true, bI_if, b210_24]
theorem m_goesBy {d N B : Nat} {n : Nat} {a : Nat → Nat → Int32} {b : Nat → Nat → Int64} {r : Nat → Nat → Option Nat} {Q : AQ} (hE : EnvM n r a N B Q) {t p : Nat} {vt vp : Int32} (et : vt = iN t) (ep : vp = iN p) (ht : t ≤ 8) (hp : p < 4840) : ∃ a', Den (d+10) 212 0 [.ref 94, .int vt, .int vp] [] (zmMk n a b r) = some (some (.int (iN (gonP Q B t p))), zmMk n a' b r) ∧ frM a a' := by
  subst et ep
  obtain ⟨hA, -, -, -, h4, h5, hB⟩ := id hE
  obtain ⟨a1, e1, f1⟩ := hA d a b (iN 103) _ _ _ _ t p 0 agD.refl rfl rfl rfl rfl rfl ht hp (by omega)
  have e1' : Den (d+9) 205 0 [.ref 94, .int (iN t), .int (iN p), .int (iN 0), .int (iN 103), .int (iN 10)] [] (zmMk n a b r) = some (some (.int (iN (Q (iN 103) t p 0))), zmMk n a1 b r) := e1
  simp (disch := omega) only [b212_0, h4, n_lt_pred]
  unfold gonP
  by_cases h : t + 1 < B
  · exact ⟨a, by rw [if_pos h, if_pos h]; simp only [b212_10, b212_25], frS.refl⟩
  · refine ⟨a1, ?_, f1⟩
    rw [if_neg h, if_neg h]
    simp only [b212_14, e1', Option.bind_some, Option.toList_some, Option.toList_none, List.cons_append, List.nil_append, true_or, or_true, if_true, bI_if, b212_25]
