/-! ===== a RULE's ACTION, both sides ===== -/
theorem c_behindA {d TT : Nat} {n : Nat} {a : Nat → Nat → Int32} {b : Nat → Nat → Int64} {r : Nat → Nat → Option Nat} {Q : AQ} (hT : isTx TT) (h29 : r 29 4 = some TT) (hA : AskC n r TT a Q) (hB : QB Q) {t p act : Nat} (ht : t ≤ 8) (hp : p < 4840) (ha : act < 8 ∧ act ≠ 4) : ∃ a', Den (d+12) 62 0 [.ref 29, .int (iN t), .int (iN p), .int (iN act), zmJ, zmJ, zmJ, zmJ] [] (zmMk n a b r) = some (some (.int (if mayP Q t p act then iN (behP Q t p act) else -2)), zmMk n a' b r) ∧ frC a a' := by
  obtain ⟨a1, e1, f1⟩ := hA (d+2) a b (iN 119) _ _ _ t p act agD.refl rfl rfl rfl rfl ht hp ha
  obtain ⟨a2, e2, f2⟩ := hA (d+2) a1 b (iN 121) _ _ _ t p act f1.dpA rfl rfl rfl rfl ht hp ha
  obtain ⟨a3, e3, f3⟩ := hA (d+2) a2 b (iN 98) _ _ _ t p act (f1.trans f2).dpA rfl rfl rfl rfl ht hp ha
  have hw := hB.w t p act
  have hy := hB.y t p act
  have hb := hB.b t p act
  have hpB := pB_le p
  have hpY := pY_le hp
  have hpS := pS_le p
  simp (disch := omega) only [b62_0, c_breathAt hp, Option.bind_some, Option.toList_some, Option.toList_none, List.cons_append, List.nil_append, true_or, or_true, if_true, bI_if, b62_4 h29 hT, e1, b62_17, n_sub_neg]
  by_cases hm : mayP Q t p act
  · have hm' := hm
    unfold mayP at hm'
    refine ⟨a3, ?_, (f1.trans f2).trans f3⟩
    rw [if_neg (by omega), if_pos hm, n_sub hm']
    simp (disch := omega) only [b62_28, c_yardsAt hp, Option.bind_some, Option.toList_some, Option.toList_none, List.cons_append, List.nil_append, true_or, or_true, if_true, bI_if, b62_33 h29 hT, e2, b62_46, c_max, b62_50 h29 hT, e3, b62_69, c_min, b62_73, n_add, mx1, mn1, n_and, q_and1, n_eq]
    rw [Nat.min_comm]
    simp (disch := omega) only [b62_81, b62_88, b62_92, b62_93, c_isSeenAt hp, Option.bind_some, Option.toList_some, Option.toList_none, List.cons_append, List.nil_append, true_or, or_true, if_true, bI_if, b62_103, b62_108, n_and, q_and3, n_eq]
    have key : ∀ c : Bool, (Den (d+11) 137 0 [.int (iN (pY p - Q (iN 121) t p act)), .int (iN (min 9 (pB p - Q (iN 119) t p act + Q (iN 98) t p act))), .int (bI (decide (pS p = 1))), .int (bI c)] [] (zmMk n a3 b r)) = some (some (.int (iN (plc (pY p - Q (iN 121) t p act) (min 9 (pB p - Q (iN 119) t p act + Q (iN 98) t p act)) (bN (decide (pS p = 1))) (bN c)))), zmMk n a3 b r) := fun c => c_placeOf
    have k1 := key true
    have k0 := key false
    rw [bI_t] at k1
    rw [bI_f] at k0
    have eS : bN (decide (pS p = 1)) = pS p := by
      rcases (by omega : pS p = 0 ∨ pS p = 1) with h | h <;> rw [h] <;> rfl
    simp only [k1, k0, eS, Option.bind_some, Option.toList_some, Option.toList_none, List.cons_append, List.nil_append, true_or, or_true, if_true, bI_if, b62_108]
    unfold behP
    by_cases h3 : act % 4 = 3
    · simp only [h3, if_true]
      split <;> rfl
    · simp only [h3, if_false]
      have : p % 2 = 0 ∨ p % 2 = 1 := by omega
      rcases this with h | h
      · rw [if_pos h, show pR p = 0 from h]; rfl
      · rw [if_neg (by omega), show pR p = 1 from h]; rfl
  · refine ⟨a1, ?_, f1⟩
    have hm' := hm
    unfold mayP at hm'
    rw [if_pos (by omega), if_neg hm, b62_25]
theorem m_mayBeA {d : Nat} {n : Nat} {a : Nat → Nat → Int32} {b : Nat → Nat → Int64} {r : Nat → Nat → Option Nat} {Q : AQ} (hA : AskM n r a Q) (hB : QB Q) {t p act : Nat} (ht : t ≤ 8) (hp : p < 4840) (ha : act < 8 ∧ act ≠ 4) : ∃ a', Den (d+10) 208 0 [.ref 94, .int (iN t), .int (iN p), .int (iN act)] [] (zmMk n a b r) = some (some (.int (bI (decide (act = 0 ∨ Q (iN 119) t p act ≤ pB p)))), zmMk n a' b r) ∧ frM a a' := by
  obtain ⟨a1, e1, f1⟩ := hA d a b (iN 119) _ _ _ _ t p act agD.refl rfl rfl rfl rfl rfl ht hp ha
  have hw := hB.w t p act
  have hpB := pB_le p
  simp (disch := omega) only [b208_0, n_eq]
  by_cases h : act = 0
  · refine ⟨a, ?_, frS.refl⟩
    rw [if_pos h, decide_eq_true (Or.inl h)]
    simp only [b208_22, b208_27, Option.bind_some, Option.toList_some, Option.toList_none, List.cons_append, List.nil_append, true_or, or_true, if_true, bI_if]
    rfl
  · refine ⟨a1, ?_, f1⟩
    have e2 : Den (d+9) 205 0 [.ref 94, .int (iN t), .int (iN p), .int (iN act), .int (iN 119), .int (iN 9)] [] (zmMk n a b r) = some (some (.int (iN (Q (iN 119) t p act))), zmMk n a1 b r) := e1
    rw [if_neg h]
    simp (disch := omega) only [b208_4, e2, Option.bind_some, Option.toList_some, Option.toList_none, List.cons_append, List.nil_append, true_or, or_true, if_true, bI_if, b208_15, m_breathIn hp, b208_19, b208_22, b208_26, b208_27, n_lt]
    by_cases h2 : Q (iN 119) t p act ≤ pB p
    · rw [if_neg (by omega), decide_eq_true (Or.inr h2)]; rfl
    · rw [if_pos (by omega), decide_eq_false (fun q => q.elim h h2)]; rfl
/-- the ACTION that a RULE's E comes to -/
def rulX (Q : AQ) (t p : Nat) (x : Int32) : Nat := if isMv x = true ∧ mayP Q t p x.toNatClampNeg then x.toNatClampNeg else 0
def rulF (Q : AQ) (N : Nat) (K W : Nat → Nat) (R : List Cls) (t p : Nat) : Nat := rulX Q t p (askV (iN 97) (fctN N K W t p 0) R)
theorem isMv_ex {x : Int32} (h : isMv x = true) : ∃ k, 1 ≤ k ∧ k < 8 ∧ k ≠ 4 ∧ x = iN k := by
  unfold isMv at h
  rw [Bool.and_eq_true] at h
  obtain ⟨k, h1, h2, e⟩ := inI_ex (by decide) (by decide) h.1
  refine ⟨k, h1, by omega, ?_, e⟩
  intro h4
  have h5 := h.2
  rw [e, h4] at h5
  simp at h5
theorem rulX_ok (Q : AQ) (t p : Nat) (x : Int32) : (rulX Q t p x < 8 ∧ rulX Q t p x ≠ 4) ∧ (rulX Q t p x ≠ 0 → mayP Q t p (rulX Q t p x)) := by
  unfold rulX
  by_cases h : isMv x = true ∧ mayP Q t p x.toNatClampNeg
  · rw [if_pos h]
    obtain ⟨k, h1, h2, h3, e⟩ := isMv_ex h.1
    have e2 : x.toNatClampNeg = k := by rw [e, n_nat (by omega)]
    refine ⟨by omega, fun _ => h.2⟩
  · rw [if_neg h]
    exact ⟨by omega, fun h => absurd rfl h⟩
theorem rulF_ok (Q : AQ) (N : Nat) (K W : Nat → Nat) (R : List Cls) : ∀ t p, (rulF Q N K W R t p < 8 ∧ rulF Q N K W R t p ≠ 4) ∧ (rulF Q N K W R t p ≠ 0 → mayP Q t p (rulF Q N K W R t p)) := fun t p => rulX_ok Q t p _
theorem RulC_of {n N TL TT : Nat} {r : Nat → Nat → Option Nat} {a : Nat → Nat → Int32} {K W : Nat → Nat} {cl R : List Cls} (hL : isTx TL) (h29 : r 29 4 = some TL) (hTL : TxC a TL cl) (hX : isTx TT) (hT : TxC a TT R) (hB : BasC a N K W) : RulC n r TT a (rulF (QF cl N K W) N K W R) := by
  intro d a1 b vt vp t p hag et ep ht hp
  subst et ep
  have hB1 := hB.ag hag
  have hT1 := hT.agA hX hag
  obtain ⟨a2, e, F⟩ := c_ask (d := d+6) (c := 97) (b := b) (r := r) (n := n) hX hT1 hB1.1 hB1.2.1 hB1.2.2.1 hB1.2.2.2 (by omega) ht hp (show 0 < 8 ∧ 0 ≠ 4 by omega)
  have e' : Den (d+12) 58 0 [.ref 29, .ref TT, .int (iN 97), .int (iN t), .int (iN p), .int (iN 0), zmJ] [] (zmMk n a1 b r) = _ := e
  have eb : bndV 97 (askV (iN 97) (fctN N K W t p 0) R) = askV (iN 97) (fctN N K W t p 0) R := if_neg (by decide)
  rw [eb] at e'
  unfold rulF
  generalize askV (iN 97) (fctN N K W t p 0) R = x at e' ⊢
  unfold rulX
  rw [b61_0 hX, e']
  simp only [Option.bind_some, Option.toList_some, Option.toList_none, List.cons_append, List.nil_append, true_or, or_true, if_true, bI_if]
  have em : Den (d+12) 136 0 [.int x] [] (zmMk n a2 b r) = _ := c_isMove
  rw [b61_10 hX, em]
  simp only [Option.bind_some, Option.toList_some, Option.toList_none, List.cons_append, List.nil_append, true_or, or_true, if_true, bI_if]
  rw [b61_17 hX, bI_if]
  by_cases h : isMv x = true
  · obtain ⟨k, k1, k2, k3, ex⟩ := isMv_ex h
    have exn : x.toNatClampNeg = k := by rw [ex, n_nat (by omega)]
    obtain ⟨a3, e3, F3⟩ := c_behindA (d := d) (b := b) (r := r) (n := n) hL h29 (AskC_of hL ((hTL.agA hL hag).agA hL F.dpA) (hB1.ag F.dpA)) (QF_B cl N K W) ht hp ⟨k2, k3⟩
    rw [if_pos h, b61_20 hX, ex, e3]
    simp only [Option.bind_some, Option.toList_some, Option.toList_none, List.cons_append, List.nil_append, true_or, or_true, if_true, bI_if]
    rw [b61_28 hX, n_nat (by omega)]
    refine ⟨a3, ?_, F.trans F3⟩
    have hbl := behP_lt (Q := QF cl N K W) (t := t) (act := k) hp
    by_cases hm : mayP (QF cl N K W) t p k
    · rw [if_pos hm, if_neg (by rw [n_not_neg (by omega)]; exact not_false), b61_31 hX, b61_37 hX, if_pos ⟨by rw [← ex]; exact h, hm⟩]
    · rw [if_neg hm, if_pos (show (-2 : Int32) < iN 0 by decide +kernel), b61_36 hX, b61_37 hX, if_neg (fun q => hm q.2)]
  · refine ⟨a2, ?_, F⟩
    rw [if_neg h, b61_36 hX, b61_37 hX, if_neg (fun q => h q.1)]
set_option maxHeartbeats 1000000 in
theorem m_ruledL {d n k t p N : Nat} {b : Nat → Nat → Int64} {r : Nat → Nat → Option Nat} {K W : Nat → Nat} {f : Nat → Int32} {cl R : List Cls} (hk : k < 4) (ht : t ≤ 8) (hp : p < 4840) (hR : ∀ c, c ∈ R → c.1 = 97) (rest : List Cls) : ∀ (i : Nat) (a : Nat → Nat → Int32), i + rest.length = R.length → (∀ j, R[i + j]? = rest[j]?) → TxM a (k + 1) R → TxM a 0 cl → BasM a N K W → (∀ j, j < 10 → a 113 j = f j) → ∃ a', Den (d+12) 224 15 [.ref 94,.int (iN k),.int (iN t),.int (iN p),.int (iN (16 * (k + 1) + i)),zmJ] [] (zmMk n a b r) = some (some (.int (iN (rulX (QF cl N K W) t p (askV (iN 97) f rest)))), zmMk n a' b r) ∧ frM a a' := by
  induction rest with
  | nil =>
    intro i a hl hr hT hT0 hB hf
    have hl0 : ([] : List Cls).length = 0 := rfl
    have h16 := hT.2.1
    refine ⟨a, ?_, frS.refl⟩
    rw [b224_15, n_add, n_in (by omega), if_pos (decide_eq_true (by omega)), n_nat (by omega), hT.1, n_mul, b224_31, n_add, if_neg (by rw [n_lt (by omega) (by omega)]; omega), b224_112]
    show _ = some (some (Value.int (iN (rulX (QF cl N K W) t p (iN 0)))), (zmMk n a b r))
    unfold rulX
    rw [if_neg (fun q => by
      have := q.1
      revert this
      decide +kernel)]
  | cons z rest ih =>
    intro i a hl hr hT hT0 hB hf
    have hl1 : (z :: rest).length = rest.length + 1 := rfl
    rw [hl1] at hl
    have h16 := hT.2.1
    have hz : R[i]? = some z := hr 0
    have hz97 : z.1 = 97 := hR z (List.mem_iff_getElem?.mpr ⟨i, hz⟩)
    obtain ⟨ha, kk, e, t1, t2, t3, t4, t5, t6, t7, t8, t9, t10, t11, t12⟩ := hT.2.2 i z hz
    have hr2 : ∀ j, R[i + 1 + j]? = rest[j]? := fun j => by
      rw [show i + 1 + j = i + (j + 1) by omega]
      exact hr (j + 1)
    have ea : askV (iN 97) f (z :: rest) = if iN z.1 = iN 97 ∧ evV f z.2.2 = iN 1 then evV f z.2.1 else askV (iN 97) f rest := rfl
    obtain ⟨res, e1, e2, e3⟩ := ev_B t11.2 (by omega) f
    obtain ⟨a1, e4, F1⟩ := m_comes (d := d+10) (b := b) (r := r) (n := n) (T := k + 1) (e := e) (by omega) e1 t10 (by omega) t3 t4 (segB_ne t11.2 (by omega)) hf
    have e4' : Den (d+11) 194 0 [.ref 94, .int (iN kk), .int (iN e), zmJ, zmJ, zmJ, zmJ, zmJ] [] (zmMk n a b r) = _ := e4
    have hT1 : TxM a1 (k + 1) R := hT.ag (fun k h1 h2 => F1 k (by omega))
    have hT01 : TxM a1 0 cl := hT0.ag (fun k h1 h2 => F1 k (by omega))
    have hB1 : BasM a1 N K W := hB.ag F1.frM2.dpMA
    have g1 : ∀ j, j < 10 → a1 113 j = f j := fun j hj => by rw [F1 113 (by decide)]; exact hf j hj
    rw [b224_15, n_add, n_in (by omega), if_pos (decide_eq_true (by omega)), n_nat (by omega), hT.1, n_mul, b224_31, n_add, if_pos (by rw [n_lt (by omega) (by omega)]; omega), b224_35, n_in (by omega), if_pos (decide_eq_true (by omega)), n_nat (by omega), t7, b224_43, n_in (by omega), if_pos (decide_eq_true (by omega)), n_nat (by omega), t8, b224_50, e4', e2]
    simp only [Option.bind_some, Option.toList_some, Option.toList_none, List.cons_append, List.nil_append, true_or, or_true, if_true, bI_if]
    rw [b224_53, ea]
    by_cases hv : evV f z.2.2 = iN 1
    · obtain ⟨ha', k', e', s1, s2, s3, s4, s5, s6, s7, s8, s9, s10, s11, s12⟩ := hT1.2.2 i z hz
      obtain ⟨res2, e5, e6⟩ := ev_E t11.1 (by omega) f
      obtain ⟨a2, e7, F2⟩ := m_comes (d := d+10) (b := b) (r := r) (n := n) (T := k + 1) (e := k') (by omega) e5 s9 (by omega) s2 (by omega) (segE_ne t11.1 (by omega)) g1
      have e7' : Den (d+11) 194 0 [.ref 94, .int (iN ha'), .int (iN k'), zmJ, zmJ, zmJ, zmJ, zmJ] [] (zmMk n a1 b r) = _ := e7
      have em : Den (d+11) 202 0 [.int (evV f z.2.1)] [] (zmMk n a2 b r) = _ := m_isAction
      rw [if_pos hv, b224_60, n_in (by omega), if_pos (decide_eq_true (by omega)), n_nat (by omega), s6, b224_68, n_in (by omega), if_pos (decide_eq_true (by omega)), n_nat (by omega), s7, b224_75, e7', e6]
      simp only [Option.bind_some, Option.toList_some, Option.toList_none, List.cons_append, List.nil_append, true_or, or_true, if_true, bI_if]
      rw [b224_78, em]
      simp only [Option.bind_some, Option.toList_some, Option.toList_none, List.cons_append, List.nil_append, true_or, or_true, if_true, bI_if]
      rw [b224_85, bI_if, if_pos (show iN z.1 = iN 97 ∧ evV f z.2.2 = iN 1 from ⟨by rw [hz97], hv⟩)]
      generalize evV f z.2.1 = x
      unfold rulX
      have F12 : frM a a2 := F1.frM2.trans F2.frM2
      by_cases h : isAc x = true
      · have hI : inI x (iN 0) (iN 7) = true ∧ (!decide (x = iN 4)) = true := by
          unfold isAc at h
          rw [Bool.and_eq_true] at h
          exact h
        obtain ⟨j, j1, j2, ex⟩ := inI_ex (by decide) (by decide) hI.1
        have j4 : j ≠ 4 := fun h4 => by
          have h5 := hI.2
          rw [ex, h4] at h5
          simp at h5
        obtain ⟨a3, e8, F3⟩ := m_mayBeA (d := d+1) (b := b) (r := r) (n := n) (AskM_of (hT01.ag (fun k h1 h2 => F2 k (by omega))) (hB1.ag F2.frM2.dpMA)) (QF_B cl N K W) ht hp ⟨show j < 8 by omega, j4⟩
        have e8' : Den (d+11) 208 0 [.ref 94, .int (iN t), .int (iN p), .int (iN j)] [] (zmMk n a2 b r) = _ := e8
        refine ⟨a3, ?_, F12.trans F3⟩
        rw [if_pos h, b224_88, ex, e8']
        simp only [Option.bind_some, Option.toList_some, Option.toList_none, List.cons_append, List.nil_append, true_or, or_true, if_true, bI_if]
        rw [b224_96, bI_if, n_nat (by omega), b224_99, b224_104]
        simp only [b224_105, decide_eq_true_eq]
        by_cases hj0 : j = 0
        · subst hj0
          rw [if_pos (Or.inl rfl), ite_self]
        · have hmv : isMv (iN j) = true := by
            unfold isMv
            rw [inI_n (by omega) (by omega) (by omega), Bool.and_eq_true, Bool.and_eq_true]
            refine ⟨⟨decide_eq_true (by omega), decide_eq_true (by omega)⟩, ?_⟩
            rw [decide_eq_false (by rw [n_eq (by omega) (by omega)]; exact j4)]
            rfl
          by_cases hm : mayP (QF cl N K W) t p j
          · rw [if_pos (Or.inr hm), if_pos ⟨hmv, hm⟩]
          · rw [if_neg (fun q => q.elim hj0 hm), if_neg (fun q => hm q.2)]
      · refine ⟨a2, ?_, F12⟩
        have hn : ¬ isMv x = true := fun q => by
          obtain ⟨j, j1, j2, j3, ex⟩ := isMv_ex q
          refine h ?_
          unfold isAc
          rw [ex, inI_n (by omega) (by omega) (by omega), Bool.and_eq_true, Bool.and_eq_true]
          refine ⟨⟨decide_eq_true (by omega), decide_eq_true (by omega)⟩, ?_⟩
          rw [decide_eq_false (by rw [n_eq (by omega) (by omega)]; exact j3)]
          rfl
        rw [if_neg h, b224_104, b224_105, if_neg (fun q => hn q.1)]
    · obtain ⟨a2, e5, F2⟩ := ih (i + 1) a1 (by omega) hr2 hT1 hT01 hB1 g1
      refine ⟨a2, ?_, F1.frM2.trans F2⟩
      rw [if_neg hv, b224_57, b224_106, n_add, if_neg (fun q => hv q.2)]
      exact e5
theorem RulM_of {n N k : Nat} {r : Nat → Nat → Option Nat} {a : Nat → Nat → Int32} {K W : Nat → Nat} {cl R : List Cls} (hk : k < 4) (hR : ∀ c, c ∈ R → c.1 = 97) (hT : TxM a (k + 1) R) (hT0 : TxM a 0 cl) (hB : BasM a N K W) : RulM n r a k (rulF (QF cl N K W) N K W R) := by
  intro d a1 b vk vt vp t p hag ek et ep ht hp
  subst ek et ep
  have hB1 := hB.ag hag
  obtain ⟨a2, e2, F2, g2⟩ := m_feels (d := d+10) (act := 0) (b := b) (r := r) (n := n) hB1 ht hp (by omega)
  have e2' : Den (d+11) 204 0 [.ref 94, .int (iN t), .int (iN p), .int (iN 0)] [] (zmMk n a1 b r) = _ := e2
  obtain ⟨a3, e3, F3⟩ := m_ruledL (d := d) (n := n) (b := b) (r := r) (cl := cl) hk ht hp hR R 0 a2 (by omega) (fun j => by rw [Nat.zero_add]) ((hT.agA hag).ag (fun k h1 h2 => F2 k (by omega))) ((hT0.agA hag).ag (fun k h1 h2 => F2 k (by omega))) (hB1.ag F2.frM3.dpMA) g2
  refine ⟨a3, ?_, F2.frM3.trans F3⟩
  rw [b224_0, e2']
  simp only [Option.bind_some, Option.toList_none, List.nil_append]
  rw [b224_7, n_add, n_mul]
  exact e3
theorem ActM_rule {n N k : Nat} {r : Nat → Nat → Option Nat} {a : Nat → Nat → Int32} {A : Nat → Nat → Nat} (hN : N ≤ 8) (hk : k < 4) (h42 : a 94 42 = iN k) (hR : RulM n r a k A) : ActM n r a N A := by
  intro d a1 b vt vp t p hag h1 h2 et ep ht hp
  subst et ep
  obtain ⟨a2, e2, F2⟩ := hR d a1 b _ _ _ t p hag.toMA rfl rfl rfl (by omega) hp
  refine ⟨a2, ?_, F2⟩
  have hne : ¬ iN k = -1 := by
    rw [iN_m1]
    intro h
    have h3 := congrArg Int32.toInt h
    rw [n_toI (by omega)] at h3
    have h4 : (iN 4294967295).toInt = -1 := by decide +kernel
    rw [h4] at h3
    omega
  rw [b225_0, h1, h42, if_neg hne, b225_8, h1, h42, e2]
  simp only [Option.bind_some, Option.toList_some, Option.toList_none, List.cons_append, List.nil_append, true_or, or_true, if_true, bI_if]
  rw [b225_18]
