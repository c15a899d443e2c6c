/-! ===== questions: had he seen me ===== -/
theorem tldM_94 {a : Nat → Nat → Int32} (h : tldM a = a) {a1 : Nat → Nat → Int32} (f : frM a a1) : tldM a1 = a1 := tldM_fix ((f 94 rfl).trans (congrFun h.symm 94))
theorem St.eM {n : Nat} {a : Nat → Nat → Int32} {b : Nat → Nat → Int64} {r : Nat → Nat → Option Nat} {σ : SV} {cl cl' : List Cls} {R R' : Nat → List Cls} {TL TS A : Nat} {TR : Nat → Nat} (h : (St a b r σ cl cl' R R' TL TS TR A)) (ht : tldM a = a) : EnvM n r a (σ 0 0) (σ 0 5) (QS σ cl) := by
  have := (h.envT (n := n)).M
  rw [ht] at this
  exact this
set_option maxHeartbeats 1000000 in
theorem m_hsL {d act J p0 : Nat} {v1 v2 v5 : Int32} {n : Nat} {r : Nat → Nat → Option Nat} {σ : SV} {cl cl' : List Cls} {R R' : Nat → List Cls} {TL TS A : Nat} {TR : Nat → Nat} (hact : act < 8 ∧ act ≠ 4) (ha0 : act ≠ 0) (hJ : J ≤ σ 0 0) (hp0 : p0 < 4840) (k : Nat) : ∀ (i p s q : Nat) (u : Value) {a : Nat → Nat → Int32} {b : Nat → Nat → Int64}, i + k = J → (St a b r σ cl cl' R R' TL TS TR A) → tldM a = a → hsQ (QS σ cl) (σ 0 5) act p0 i = some (p, s, q) → ∃ a', (St a' b r σ cl cl' R R' TL TS TR A) ∧ ((hsQ (QS σ cl) (σ 0 5) act p0 J = none ∧ Den (d+12) 242 70 [.ref 94,.int v1,.int v2,.int (iN act),.int (iN J),.int v5,.int (iN p),.long (jN q),zmJ,.long (jN s),zmJ,.int (iN i),u] [] (zmMk n a b r) = some (some (.long (-3)), zmMk n a' b r)) ∨ ∃ p' s' q' u', hsQ (QS σ cl) (σ 0 5) act p0 J = some (p', s', q') ∧ Den (d+12) 242 70 [.ref 94,.int v1,.int v2,.int (iN act),.int (iN J),.int v5,.int (iN p),.long (jN q),zmJ,.long (jN s),zmJ,.int (iN i),u] [] (zmMk n a b r) = Den (d+12) 242 197 [.ref 94,.int v1,.int v2,.int (iN act),.int (iN J),.int v5,.int (iN p'),.long (jN q'),zmJ,.long (jN s'),zmJ,.int (iN J),u'] [] (zmMk n a' b r)) := by
  induction k with
  | zero =>
    intro i p s q u a b hik h ht hh
    have n8 := h.1.1.1.2
    obtain rfl : i = J := by omega
    refine ⟨a, h, Or.inr ⟨p, s, q, u, hh, ?_⟩⟩
    rw [b242_70, if_neg (by rw [n_lt (by omega) (by omega)]; omega)]
  | succ k ih =>
    intro i p s q u a b hik h ht hh
    have n8 := h.1.1.1.2
    have hE := h.eM (n := n) ht
    have hB := hE.2.2.2.2.2.2
    obtain ⟨hp, -, hpS⟩ := hsQ_le hB hp0 i p s q hh
    have hs := senP_le hB i p act
    have hnx := behP_lt (Q := QS σ cl) (t := i) (act := act) hp
    have hyl := pY_le hnx
    have hyp := pY_le hp
    have hst := hsQ_s hh
    have hlt : iN i < iN J := by rw [n_lt (by omega) (by omega)]; omega
    have hnone : ∀ (_ : ¬ (mayP (QS σ cl) i p act ∧ pY (behP (QS σ cl) i p act) ≠ 0)), hsQ (QS σ cl) (σ 0 5) act p0 J = none := fun hn => by
      rw [if_neg hn] at hst
      have h0 := hsQ_n hst k
      rw [show i + 1 + k = J by omega] at h0
      exact h0
    by_cases hy0 : pY p = 0
    · refine ⟨a, h, Or.inl ⟨hnone (fun z => z.2 (by
        unfold behP
        rw [pY_plc (Nat.min_le_left _ _) (pS_le p) (by split <;> first | omega | exact pR_le p), hy0, Nat.zero_sub])), ?_⟩⟩
      rw [b242_70, if_pos hlt]
      simp only [b242_77, m_yardsIn hp, Option.bind_some, Option.toList_some, Option.toList_none, List.cons_append, List.nil_append, true_or, or_true, if_true, bI_if, b242_82, hy0, b242_97, if_true, if_false, Bool.false_eq_true, true_and, and_true, false_and, and_false, true_or, or_true, false_or, or_false, and_self, or_self, decide_true, decide_false, Bool.not_true, Bool.not_false, Bool.and_true, Bool.and_false, Bool.true_and, Bool.false_and, ite_self]
    · have hy1 := eq_n hy0 (show pY p < 2147483648 by omega) (show 0 < 2147483648 by omega)
      obtain ⟨a1, e1, f1⟩ := m_mayBe (d := d+1) (b := b) (r := r) hE (vt := iN i) (vp := iN p) (va := iN act) rfl rfl rfl (by omega) hp hact
      have h1 := h.qm f1.q (fun _ _ => rfl)
      have ht1 := tldM_94 ht f1
      have hE1 := h1.eM (n := n) ht1
      by_cases hm : act = 0 ∨ QS σ cl (iN 119) i p act ≤ pB p
      · rw [decide_eq_true hm] at e1
        by_cases hmp : mayP (QS σ cl) i p act
        · obtain ⟨a2, e2, f2⟩ := m_seenBy (d := d+1) (b := b) (r := r) hE1 (vt := iN i) (vp := iN p) (va := iN act) rfl rfl rfl (by omega) hp hact
          have h2 := h1.qm f2.q (fun _ _ => rfl)
          have ht2 := tldM_94 ht1 f2
          obtain ⟨a3, e3, f3⟩ := m_behind (d := d+1) (b := b) (r := r) (h2.eM (n := n) ht2) (vt := iN i) (vp := iN p) (va := iN act) rfl rfl rfl (by omega) hp hact hmp
          have h3 := h2.qm f3.q (fun _ _ => rfl)
          have ht3 := tldM_94 ht2 f3
          by_cases hy : pY (behP (QS σ cl) i p act) = 0
          · refine ⟨a3, h3, Or.inl ⟨hnone (fun z => z.2 hy), ?_⟩⟩
            rw [b242_70, if_pos hlt]
            simp only [b242_77, m_yardsIn hp, m_yardsIn hnx, Option.bind_some, Option.toList_some, Option.toList_none, List.cons_append, List.nil_append, true_or, or_true, if_true, bI_if, b242_82, b242_85, b242_94, b242_101, b242_110, b242_121, b242_128, b242_131, hy1, hy, e1, e2, e3, bI_if, if_true, if_false, Bool.false_eq_true, true_and, and_true, false_and, and_false, true_or, or_true, false_or, or_false, and_self, or_self, decide_true, decide_false, Bool.not_true, Bool.not_false, Bool.and_true, Bool.and_false, Bool.true_and, Bool.false_and, ite_self]
          · rw [if_pos ⟨hmp, hy⟩, Nat.mul_comm 10 s, Nat.mul_comm (senP (QS σ cl) i p act) q, Nat.mul_comm (10 - senP (QS σ cl) i p act) q] at hst
            have hn1 := asP_lt (s := 1) hnx (by omega)
            have hy2 := eq_n hy (show pY (behP (QS σ cl) i p act) < 2147483648 by omega) (show 0 < 2147483648 by omega)
            obtain ⟨a4, e4, f4⟩ := m_goesBy (d := d+1) (b := b) (r := r) (h3.eM (n := n) ht3) (vt := iN i) (vp := iN (asP (behP (QS σ cl) i p act) 1)) rfl rfl (by omega) hn1
            have h4 := h3.qm f4.q (fun _ _ => rfl)
            have ht4 := tldM_94 ht3 f4
            have hg1 := gonP_le hB (σ 0 5) i (asP (behP (QS σ cl) i p act) 1)
            obtain ⟨a5, e5, f5⟩ := m_goesBy (d := d+1) (b := b) (r := r) (h4.eM (n := n) ht4) (vt := iN i) (vp := iN (behP (QS σ cl) i p act)) rfl rfl (by omega) hnx
            have h5 := h4.qm f5.q (fun _ _ => rfl)
            have ht5 := tldM_94 ht4 f5
            have hg0 := gonP_le hB (σ 0 5) i (behP (QS σ cl) i p act)
            obtain ⟨a6, h6, e6⟩ := ih (i + 1) _ _ _ (.int (iN (senP (QS σ cl) i p act))) (by omega) h5 ht5 hst
            have step : Den (d+12) 242 70 [.ref 94,.int v1,.int v2,.int (iN act),.int (iN J),.int v5,.int (iN p),.long (jN q),zmJ,.long (jN s),zmJ,.int (iN i),u] [] (zmMk n a b r) = Den (d+12) 242 70 [.ref 94,.int v1,.int v2,.int (iN act),.int (iN J),.int v5,.int (iN (behP (QS σ cl) i p act)),.long (jN (q * (10 - senP (QS σ cl) i p act) * (10 - gonP (QS σ cl) (σ 0 5) i (behP (QS σ cl) i p act)))),zmJ,.long (jN ((s * 10 + q * senP (QS σ cl) i p act) * (10 - gonP (QS σ cl) (σ 0 5) i (asP (behP (QS σ cl) i p act) 1)))),zmJ,.int (iN (i + 1)),.int (iN (senP (QS σ cl) i p act))] [] (zmMk n a5 b r) := by
              conv => lhs; rw [b242_70, if_pos hlt]
              simp (disch := omega) only [b242_77, m_yardsIn hp, m_yardsIn hnx, Option.bind_some, Option.toList_some, Option.toList_none, List.cons_append, List.nil_append, true_or, or_true, if_true, bI_if, b242_82, b242_85, b242_94, b242_101, b242_110, b242_121, b242_128, b242_135, b242_159, b242_162, b242_186, hy1, hy2, e1, e2, e3, e4, e5, m_asSeen hnx, bI_if, n_sub, n_add, l_of, ← l_mul, ← l_add, jN_10, if_true, if_false, Bool.false_eq_true, true_and, and_true, false_and, and_false, true_or, or_true, false_or, or_false, and_self, or_self, decide_true, decide_false, Bool.not_true, Bool.not_false, Bool.and_true, Bool.and_false, Bool.true_and, Bool.false_and, ite_self]
            refine ⟨a6, h6, ?_⟩
            rw [step]
            exact e6
        · exact absurd (hm.resolve_left ha0) hmp
      · rw [decide_eq_false hm] at e1
        refine ⟨a1, h1, Or.inl ⟨hnone (fun z => hm (by
          have hz := z.1
          unfold mayP at hz
          first | exact hz | exact Or.inr hz)), ?_⟩⟩
        rw [b242_70, if_pos hlt]
        simp only [b242_77, m_yardsIn hp, Option.bind_some, Option.toList_some, Option.toList_none, List.cons_append, List.nil_append, true_or, or_true, if_true, bI_if, b242_82, b242_85, b242_94, b242_97, hy1, e1, bI_if, if_true, if_false, Bool.false_eq_true, true_and, and_true, false_and, and_false, true_or, or_true, false_or, or_false, and_self, or_self, decide_true, decide_false, Bool.not_true, Bool.not_false, Bool.and_true, Bool.and_false, Bool.true_and, Bool.false_and, ite_self]
