/-! ===== the class's parser: parse, by THE LAW's letters and by RULES' ===== -/
def frX (TT : Nat) (a a' : Nat → Nat → Int32) : Prop := ∀ k, k ≠ 44 → k ≠ TT → k ≠ TT + 1 → k ≠ TT + 2 → k ≠ TT + 3 → k ≠ TT + 4 → a' k = a k
theorem frX.trans {TT : Nat} {a a1 a2 : Nat → Nat → Int32} (h : frX TT a a1) (g : frX TT a1 a2) : frX TT a a2 := fun k h1 h2 h3 h4 h5 h6 => (g k h1 h2 h3 h4 h5 h6).trans (h k h1 h2 h3 h4 h5 h6)
def PrR (n TT : Nat) (b : Nat → Nat → Int64) (r : Nat → Nat → Option Nat) (a : Nat → Nat → Int32) (z : (Nat × Nat) ⊕ List Cls) (X : Option (Option Value × zmH)) : Prop := match z with
  | .inl e => (1 ≤ e.1 ∧ e.1 ≤ 5 ∧ e.2 ≤ 240) ∧ ∃ a', X = some (some (.int (fltI e.1 e.2)), zmMk n a' b r) ∧ frX TT a a'
  | .inr cl => ∃ a', X = some (some (.int (iN 0)), zmMk n a' b r) ∧ TxC a' TT cl ∧ frX TT a a'
theorem PrR.fr {n TT : Nat} {b : Nat → Nat → Int64} {r : Nat → Nat → Option Nat} {a a1 : Nat → Nat → Int32} {z : (Nat × Nat) ⊕ List Cls} {X : Option (Option Value × zmH)} (h : PrR n TT b r a1 z X) (f : frX TT a a1) : PrR n TT b r a z X := by
  cases z with
  | inl e =>
    obtain ⟨h0, a', h1, h2⟩ := h
    exact ⟨h0, a', h1, f.trans h2⟩
  | inr cl =>
    obtain ⟨a', h1, h2, h3⟩ := h
    exact ⟨a', h1, h2, f.trans h3⟩
theorem c_parseLl {d n TT len : Nat} {nx : Nat → Nat} {r : Nat → Nat → Option Nat} {isL : Nat → Bool} (hH : PrH r TT len nx) (hL : LetC n 6 r isL) (f : Nat) : ∀ (i p s : Nat) (cl : List Cls) (a : Nat → Nat → Int32) (b : Nat → Nat → Int64), i + f = len + 1 → p ≤ len → PrS TT len nx s p a → TxP TT s cl a → s + (len - p) ≤ 240 → PrR n TT b r a (pTxt jn nx len isL f p cl) (Den (d+20) 35 41 [.ref 44,.ref 15,.int (iN len),.ref 6,.ref TT,.int (iN i)] [] (zmMk n a b r)) := by
  obtain ⟨h0, h5, hX, hl240, hn, hb⟩ := id hH
  induction f with
  | zero =>
    intro i p s cl a b hi hp h hT hs
    refine ⟨a, ?_, hT.C, fun _ _ _ _ _ _ _ => rfl⟩
    rw [b35l_41 hX, h.1, if_pos (lt_p (by omega) (by omega)), b35l_89 hX, h.2.2.1]
  | succ f ih =>
    intro i p s cl a b hi hp h hT hs
    have hC := c_clause (d := d) (b := b) hH hL h hT hp hs
    have hg := gd_cls (many := cl.length) hn hL.2.2.1 hp
    rw [b35l_41 hX, h.1, if_neg (lt_n (by omega) (by omega)), b35l_50 hX]
    show PrR n TT b r a (match pCls jn nx len isL cl.length p with
      | .inl e => .inl e
      | .inr (q, c) => if q < len then (if nx q = 59 then pTxt jn nx len isL f (q + 1) (cl ++ [c]) else .inl (1, q)) else .inr (cl ++ [c])) _
    cases hz : pCls jn nx len isL cl.length p with
    | inl e =>
      rw [hz] at hC hg
      obtain ⟨a', e1, e2, e3⟩ := hC
      obtain ⟨g1, g2, g3, g4⟩ := hg
      have hne : a' 44 3 ≠ iN 0 := by
        rw [e2]
        exact fltI_ne g1 (by omega) (by omega)
      rw [e1]
      simp only [Option.bind_some, Option.toList_none, List.nil_append]
      rw [b35l_54 hX, if_neg hne, b35l_72 hX, e2]
      exact ⟨⟨g1, g2, by omega⟩, a', rfl, fun k m1 m2 m3 m4 m5 m6 => e3.1 k m1 m2 m3 m4 m5 m6⟩
    | inr e =>
      obtain ⟨q, c⟩ := e
      rw [hz] at hC hg
      obtain ⟨a', e1, e2, e3, e4⟩ := hC
      obtain ⟨g1, g2, g3, g4, g5, g6, g7⟩ := hg
      have fX : frX TT a a' := fun k m1 m2 m3 m4 m5 m6 => e4.1 k m1 m2 m3 m4 m5 m6
      rw [e1]
      simp only [Option.bind_some, Option.toList_none, List.nil_append]
      rw [b35l_54 hX, e2.2.2.1, if_pos rfl, b35l_61 hX, e2.1, e2.2.1]
      by_cases hq : q < len
      · rw [if_pos (lt_p hq (by omega)), b35l_77 hX, if_pos hq]
        rcases c_take (d := d+17) (n := n) (b := b) (c := 59) hH e2 g2 (by omega) (by omega) with ⟨u1, u2⟩ | ⟨u1, u2⟩
        · have u2' : Den (d+19) 46 0 [.ref 44, .int (iN 59)] [] (zmMk n a' b r) = _ := u2
          have hT2 : TxP TT (s + c.2.1.length + c.2.2.length + 2) (cl ++ [c]) (uI a' 44 2 (iN (q + 1))) := by
            have hne : ∀ k, TT ≤ k → k ≤ TT + 4 → uI a' 44 2 (iN (q + 1)) k = a' k := fun k m1 m2 => uI_ne (by rcases tx_of hX with h | h | h | h | h | h <;> omega)
            unfold TxP TxQ
            rw [hne TT (by omega) (by omega), hne (TT + 1) (by omega) (by omega), hne (TT + 2) (by omega) (by omega), hne (TT + 3) (by omega) (by omega), hne (TT + 4) (by omega) (by omega)]
            exact e3
          rw [u2']
          simp only [Option.bind_some, Option.toList_none, List.nil_append]
          rw [b35l_83 hX, n_add, if_pos u1]
          exact (ih (i + 1) (q + 1) _ _ _ b (by omega) (by omega) (e2.step hX) hT2 (by omega)).fr (fX.trans (fun k m1 _ _ _ _ _ => uI_ne m1))
        · have u2' : Den (d+19) 46 0 [.ref 44, .int (iN 59)] [] (zmMk n a' b r) = _ := u2
          have hne : uI a' 44 3 (fltI 1 q) 44 3 ≠ iN 0 := by
            rw [uI_self]
            exact fltI_ne (by omega) (by omega) (by omega)
          rw [u2']
          simp only [Option.bind_some, Option.toList_none, List.nil_append]
          rw [b35l_83 hX, n_add, if_neg u1]
          refine ⟨⟨Nat.le_refl _, by show 1 ≤ 5; omega, by show q ≤ 240; omega⟩, uI a' 44 3 (fltI 1 q), ?_, fX.trans (fun k m1 _ _ _ _ _ => uI_ne m1)⟩
          rw [b35l_41 hX]
          split
          · rw [b35l_89 hX, uI_self]
          · rw [b35l_50 hX, bd_clause (D := d+18) h0 hne]
            simp only [Option.bind_some, Option.toList_none, List.nil_append]
            rw [b35l_54 hX, if_neg hne, b35l_72 hX, uI_self]
      · rw [if_neg (lt_n hq (by omega)), b35l_72 hX, e2.2.2.1, if_neg hq]
        exact ⟨a', rfl, e3.C, fX⟩
theorem c_parsel {d n TT len : Nat} {nx : Nat → Nat} {r : Nat → Nat → Option Nat} {isL : Nat → Bool} {a : Nat → Nat → Int32} {b : Nat → Nat → Int64} (hX : isTx TT) (hl : len ≤ 240) (hn : endN nx len) (hb : ∀ j, j < len → nx j < 256) (ht : ∀ j, j < len → a 15 j = iN (nx j)) (hC : CstC a) (hL : LetC n 6 (uR (uR (uR r 44 0 (some 15)) 44 4 (some 6)) 44 5 (some TT)) isL) : PrR n TT b (uR (uR (uR r 44 0 (some 15)) 44 4 (some 6)) 44 5 (some TT)) a (pTxt jn nx len isL (len + 1) 0 []) (Den (d+20) 35 0 [.ref 44, .ref 15, .int (iN len), .ref 6, .ref TT, zmJ] [] (zmMk n a b r)) := by
  have hH : PrH (uR (uR (uR r 44 0 (some 15)) 44 4 (some 6)) 44 5 (some TT)) TT len nx := ⟨rfl, rfl, hX, hl, hn, hb⟩
  have h44 : TT ≠ 44 := by rcases tx_of hX with h | h | h | h | h | h <;> omega
  rw [b35l_0 hX, b83_0 hX]
  simp only [Option.bind_some, Option.toList_none, List.nil_append]
  rw [b35l_38 hX]
  have h15 : ∀ k, k ≠ 44 → k ≠ TT → uI (uI (uI (uI (uI (uI a 44 1 (iN len)) 44 2 (iN 0)) 44 3 (iN 0)) TT 0 (iN 0)) TT 1 (iN 0)) TT 2 (iN 0) k = a k := fun k h1 h2 => by
    rw [uI_ne h2, uI_ne h2, uI_ne h2, uI_ne h1, uI_ne h1, uI_ne h1]
  refine (c_parseLl (d := d) hH hL (len + 1) 0 0 0 [] _ b (by omega) (by omega) ⟨?_, ?_, ?_, ?_, fun j hj => ?_, hC.ag (fun k hk => h15 k (by omega) (by rcases tx_of hX with h | h | h | h | h | h <;> omega))⟩ ⟨?_, by show 0 ≤ 16; omega, by omega, ⟨0, by omega, uI_self, fun c h => by cases h⟩, fun i c h => by cases h⟩ (by omega)).fr (fun k m1 m2 _ _ _ _ => h15 k m1 m2)
  · rw [uI_ne h44.symm, uI_ne h44.symm, uI_ne h44.symm, uI_nj (by omega), uI_nj (by omega), uI_self]
  · rw [uI_ne h44.symm, uI_ne h44.symm, uI_ne h44.symm, uI_nj (by omega), uI_self]
  · rw [uI_ne h44.symm, uI_ne h44.symm, uI_ne h44.symm, uI_self]
  · rw [uI_nj (by omega), uI_self]
  · rw [h15 15 (by omega) (by rcases tx_of hX with h | h | h | h | h | h <;> omega)]
    exact ht j hj
  · rw [uI_nj (by omega), uI_nj (by omega), uI_self]
    rfl
theorem c_parseLr {d n TT len : Nat} {nx : Nat → Nat} {r : Nat → Nat → Option Nat} {isL : Nat → Bool} (hH : PrH r TT len nx) (hL : LetC n 8 r isL) (f : Nat) : ∀ (i p s : Nat) (cl : List Cls) (a : Nat → Nat → Int32) (b : Nat → Nat → Int64), i + f = len + 1 → p ≤ len → PrS TT len nx s p a → TxP TT s cl a → s + (len - p) ≤ 240 → PrR n TT b r a (pTxt jn nx len isL f p cl) (Den (d+20) 35 41 [.ref 44,.ref 15,.int (iN len),.ref 8,.ref TT,.int (iN i)] [] (zmMk n a b r)) := by
  obtain ⟨h0, h5, hX, hl240, hn, hb⟩ := id hH
  induction f with
  | zero =>
    intro i p s cl a b hi hp h hT hs
    refine ⟨a, ?_, hT.C, fun _ _ _ _ _ _ _ => rfl⟩
    rw [b35r_41 hX, h.1, if_pos (lt_p (by omega) (by omega)), b35r_89 hX, h.2.2.1]
  | succ f ih =>
    intro i p s cl a b hi hp h hT hs
    have hC := c_clause (d := d) (b := b) hH hL h hT hp hs
    have hg := gd_cls (many := cl.length) hn hL.2.2.1 hp
    rw [b35r_41 hX, h.1, if_neg (lt_n (by omega) (by omega)), b35r_50 hX]
    show PrR n TT b r a (match pCls jn nx len isL cl.length p with
      | .inl e => .inl e
      | .inr (q, c) => if q < len then (if nx q = 59 then pTxt jn nx len isL f (q + 1) (cl ++ [c]) else .inl (1, q)) else .inr (cl ++ [c])) _
    cases hz : pCls jn nx len isL cl.length p with
    | inl e =>
      rw [hz] at hC hg
      obtain ⟨a', e1, e2, e3⟩ := hC
      obtain ⟨g1, g2, g3, g4⟩ := hg
      have hne : a' 44 3 ≠ iN 0 := by
        rw [e2]
        exact fltI_ne g1 (by omega) (by omega)
      rw [e1]
      simp only [Option.bind_some, Option.toList_none, List.nil_append]
      rw [b35r_54 hX, if_neg hne, b35r_72 hX, e2]
      exact ⟨⟨g1, g2, by omega⟩, a', rfl, fun k m1 m2 m3 m4 m5 m6 => e3.1 k m1 m2 m3 m4 m5 m6⟩
    | inr e =>
      obtain ⟨q, c⟩ := e
      rw [hz] at hC hg
      obtain ⟨a', e1, e2, e3, e4⟩ := hC
      obtain ⟨g1, g2, g3, g4, g5, g6, g7⟩ := hg
      have fX : frX TT a a' := fun k m1 m2 m3 m4 m5 m6 => e4.1 k m1 m2 m3 m4 m5 m6
      rw [e1]
      simp only [Option.bind_some, Option.toList_none, List.nil_append]
      rw [b35r_54 hX, e2.2.2.1, if_pos rfl, b35r_61 hX, e2.1, e2.2.1]
      by_cases hq : q < len
      · rw [if_pos (lt_p hq (by omega)), b35r_77 hX, if_pos hq]
        rcases c_take (d := d+17) (n := n) (b := b) (c := 59) hH e2 g2 (by omega) (by omega) with ⟨u1, u2⟩ | ⟨u1, u2⟩
        · have u2' : Den (d+19) 46 0 [.ref 44, .int (iN 59)] [] (zmMk n a' b r) = _ := u2
          have hT2 : TxP TT (s + c.2.1.length + c.2.2.length + 2) (cl ++ [c]) (uI a' 44 2 (iN (q + 1))) := by
            have hne : ∀ k, TT ≤ k → k ≤ TT + 4 → uI a' 44 2 (iN (q + 1)) k = a' k := fun k m1 m2 => uI_ne (by rcases tx_of hX with h | h | h | h | h | h <;> omega)
            unfold TxP TxQ
            rw [hne TT (by omega) (by omega), hne (TT + 1) (by omega) (by omega), hne (TT + 2) (by omega) (by omega), hne (TT + 3) (by omega) (by omega), hne (TT + 4) (by omega) (by omega)]
            exact e3
          rw [u2']
          simp only [Option.bind_some, Option.toList_none, List.nil_append]
          rw [b35r_83 hX, n_add, if_pos u1]
          exact (ih (i + 1) (q + 1) _ _ _ b (by omega) (by omega) (e2.step hX) hT2 (by omega)).fr (fX.trans (fun k m1 _ _ _ _ _ => uI_ne m1))
        · have u2' : Den (d+19) 46 0 [.ref 44, .int (iN 59)] [] (zmMk n a' b r) = _ := u2
          have hne : uI a' 44 3 (fltI 1 q) 44 3 ≠ iN 0 := by
            rw [uI_self]
            exact fltI_ne (by omega) (by omega) (by omega)
          rw [u2']
          simp only [Option.bind_some, Option.toList_none, List.nil_append]
          rw [b35r_83 hX, n_add, if_neg u1]
          refine ⟨⟨Nat.le_refl _, by show 1 ≤ 5; omega, by show q ≤ 240; omega⟩, uI a' 44 3 (fltI 1 q), ?_, fX.trans (fun k m1 _ _ _ _ _ => uI_ne m1)⟩
          rw [b35r_41 hX]
          split
          · rw [b35r_89 hX, uI_self]
          · rw [b35r_50 hX, bd_clause (D := d+18) h0 hne]
            simp only [Option.bind_some, Option.toList_none, List.nil_append]
            rw [b35r_54 hX, if_neg hne, b35r_72 hX, uI_self]
      · rw [if_neg (lt_n hq (by omega)), b35r_72 hX, e2.2.2.1, if_neg hq]
        exact ⟨a', rfl, e3.C, fX⟩
theorem c_parser {d n TT len : Nat} {nx : Nat → Nat} {r : Nat → Nat → Option Nat} {isL : Nat → Bool} {a : Nat → Nat → Int32} {b : Nat → Nat → Int64} (hX : isTx TT) (hl : len ≤ 240) (hn : endN nx len) (hb : ∀ j, j < len → nx j < 256) (ht : ∀ j, j < len → a 15 j = iN (nx j)) (hC : CstC a) (hL : LetC n 8 (uR (uR (uR r 44 0 (some 15)) 44 4 (some 8)) 44 5 (some TT)) isL) : PrR n TT b (uR (uR (uR r 44 0 (some 15)) 44 4 (some 8)) 44 5 (some TT)) a (pTxt jn nx len isL (len + 1) 0 []) (Den (d+20) 35 0 [.ref 44, .ref 15, .int (iN len), .ref 8, .ref TT, zmJ] [] (zmMk n a b r)) := by
  have hH : PrH (uR (uR (uR r 44 0 (some 15)) 44 4 (some 8)) 44 5 (some TT)) TT len nx := ⟨rfl, rfl, hX, hl, hn, hb⟩
  have h44 : TT ≠ 44 := by rcases tx_of hX with h | h | h | h | h | h <;> omega
  rw [b35r_0 hX, b83_0 hX]
  simp only [Option.bind_some, Option.toList_none, List.nil_append]
  rw [b35r_38 hX]
  have h15 : ∀ k, k ≠ 44 → k ≠ TT → uI (uI (uI (uI (uI (uI a 44 1 (iN len)) 44 2 (iN 0)) 44 3 (iN 0)) TT 0 (iN 0)) TT 1 (iN 0)) TT 2 (iN 0) k = a k := fun k h1 h2 => by
    rw [uI_ne h2, uI_ne h2, uI_ne h2, uI_ne h1, uI_ne h1, uI_ne h1]
  refine (c_parseLr (d := d) hH hL (len + 1) 0 0 0 [] _ b (by omega) (by omega) ⟨?_, ?_, ?_, ?_, fun j hj => ?_, hC.ag (fun k hk => h15 k (by omega) (by rcases tx_of hX with h | h | h | h | h | h <;> omega))⟩ ⟨?_, by show 0 ≤ 16; omega, by omega, ⟨0, by omega, uI_self, fun c h => by cases h⟩, fun i c h => by cases h⟩ (by omega)).fr (fun k m1 m2 _ _ _ _ => h15 k m1 m2)
  · rw [uI_ne h44.symm, uI_ne h44.symm, uI_ne h44.symm, uI_nj (by omega), uI_nj (by omega), uI_self]
  · rw [uI_ne h44.symm, uI_ne h44.symm, uI_ne h44.symm, uI_nj (by omega), uI_self]
  · rw [uI_ne h44.symm, uI_ne h44.symm, uI_ne h44.symm, uI_self]
  · rw [uI_nj (by omega), uI_self]
  · rw [h15 15 (by omega) (by rcases tx_of hX with h | h | h | h | h | h <;> omega)]
    exact ht j hj
  · rw [uI_nj (by omega), uI_nj (by omega), uI_self]
    rfl
def isLaw (c : Nat) : Bool := decide (lawI c < 8)
def isRul (c : Nat) : Bool := decide (c = 97)
theorem lawI_r {c : Nat} (h : lawI c < 8) : 97 ≤ c ∧ c ≤ 121 := by
  unfold lawI at h
  repeat' (split at h)
  all_goals omega
theorem let_law {n : Nat} {r : Nat → Nat → Option Nat} (h : r 44 4 = some 6) : LetC n 6 r isLaw := by
  refine ⟨h, fun _ _ _ => rfl, rfl, fun c hc => lawI_r (of_decide_eq_true hc), fun d c a b hc hC => ⟨_, c_lawL hC hc, ?_⟩⟩
  by_cases h8 : lawI c < 8
  · rw [if_pos h8]
    exact Or.inl ⟨decide_eq_true h8, ng (by omega)⟩
  · rw [if_neg h8]
    exact Or.inr ⟨decide_eq_false h8, m1_neg⟩
theorem let_rul {n : Nat} {r : Nat → Nat → Option Nat} (h : r 44 4 = some 8) : LetC n 8 r isRul := by
  refine ⟨h, fun _ _ _ => rfl, rfl, fun c hc => by have := of_decide_eq_true hc; omega, fun d c a b hc hC => ⟨_, c_ruleL hC hc, ?_⟩⟩
  by_cases h8 : c = 97
  · rw [if_pos h8]
    exact Or.inl ⟨decide_eq_true h8, ng (by omega)⟩
  · rw [if_neg h8]
    exact Or.inr ⟨decide_eq_false h8, m1_neg⟩
