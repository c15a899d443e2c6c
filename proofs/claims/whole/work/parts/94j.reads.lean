/-! ===== the reference's parser: reads ===== -/
def KRd (n d T len : Nat) (r : Nat → Nat → Option Nat) (κ : Option Value × zmH → Option (Option Value × zmH)) : Prop := ∀ v : Nat, v = 0 ∨ v = 1 → ∀ a b, κ (some (.int (iN v)), (zmMk n a b r)) = Den (d+8) 188 47 [.ref 94,.int (iN T),.int (iN len),.int (iN v),zmJ,zmJ] [] (zmMk n a b r)
def TxtM (n d T len : Nat) (b : Nat → Nat → Int64) (r : Nat → Nat → Option Nat) (a : Nat → Nat → Int32) (z : (Nat × Nat) ⊕ List Cls) (X : Option (Option Value × zmH)) : Prop := match z with
  | .inl e => ∃ a', X = Den (d+8) 188 88 [.ref 94,.int (iN T),.int (iN len),.int (iN 0),zmJ,zmJ] [] (zmMk n a' b r) ∧ a' 94 11 = fltI e.1 e.2 ∧ frK a a'
  | .inr cl => ∃ a' c, X = Den (d+8) 188 88 [.ref 94,.int (iN T),.int (iN len),.int (iN 1),zmJ,zmJ] [] (zmMk n a' b r) ∧ TxN a' cl c ∧ a' 94 18 = iN c ∧ c ≤ 250 ∧ frK a a'
theorem TxtM.fr {n d T len : Nat} {b : Nat → Nat → Int64} {r : Nat → Nat → Option Nat} {a a1 : Nat → Nat → Int32} {z : (Nat × Nat) ⊕ List Cls} {X : Option (Option Value × zmH)} (h : TxtM n d T len b r a1 z X) (f : frK a a1) : TxtM n d T len b r a z X := by
  cases z with
  | inl e =>
    obtain ⟨a', h1, h2, h3⟩ := h
    exact ⟨a', h1, h2, f.trans h3⟩
  | inr cl =>
    obtain ⟨a', c, h1, h2, h3, h4, h5⟩ := h
    exact ⟨a', c, h1, h2, h3, h4, f.trans h5⟩
theorem m_txtL {d n len T : Nat} {nx : Nat → Nat} {r : Nat → Nat → Option Nat} (hH : PrM len nx) (hT4 : T ≤ 4) (k : Nat) : ∀ (p c : Nat) (cl : List Cls) (a : Nat → Nat → Int32) (b : Nat → Nat → Int64) (κ : Option Value × zmH → Option (Option Value × zmH)), len < p + k → KRd n d T len r κ → MS0 len nx p c a → TxN a cl c → p ≤ len → c + (len - p) ≤ 250 → TxtM n d T len b r a (pTxt jm nx len (isTL T) k p cl) ((Den (d+7) 187 0 [.ref 94, .int (iN T), zmJ] [] (zmMk n a b r)).bind κ) := by
  induction k with
  | zero =>
    intro p c cl a b κ h1 _ _ _ h2
    exact absurd h1 (by omega)
  | succ k ih =>
    intro p c cl a b κ h1 hk h hT hp hc
    have hlen := hH.1
    have hC := m_clause (d := d) (n := n) (b := b) (r := r) hH hT4 h hT hp hc
    have hr := rl_cls (many := cl.length) hH.2.1 (isTL_256 T) hp
    have hg := gd_cls (many := cl.length) hH.2.1 (isTL_256 T) hp
    show TxtM n d T len b r a (match pCls jm nx len (isTL T) cl.length p with
      | .inl e => .inl e
      | .inr (q, c) => if q < len then (if nx q = 59 then pTxt jm nx len (isTL T) k (q + 1) (cl ++ [c]) else .inl (1, q)) else .inr (cl ++ [c])) _
    cases hz : pCls jm nx len (isTL T) cl.length p with
    | inl e =>
      rw [hz] at hC
      obtain ⟨a', e1, e2, e3⟩ := hC
      rw [e1]
      refine ⟨a', ?_, e2, e3⟩
      show κ (some (.int (iN 0)), zmMk n a' b r) = _
      rw [hk 0 (Or.inl rfl), b188_47, if_pos rfl]
    | inr e =>
      obtain ⟨q, x⟩ := e
      have hq : p < q ∧ q ≤ len ∧ c + x.2.1.length + x.2.2.length + (len - q) + 3 ≤ c + (len - p) := by
        rw [hz] at hr
        cases hz' : pCls jn nx len (isTL T) cl.length p with
        | inl e' =>
          rw [hz'] at hr
          exact hr.elim
        | inr e' =>
          rw [hz'] at hr hg
          obtain ⟨q', x'⟩ := e'
          obtain ⟨rfl, r1, r2, r3⟩ := hr
          obtain ⟨g1, g2, g3, g4⟩ := hg
          rw [r2, r3.1] at g3
          exact ⟨g1, g2, by omega⟩
      rw [hz] at hC
      obtain ⟨a', S, o, e1, M, hT2, e3⟩ := hC
      obtain ⟨m1, m2, m3, m4, m5, m6, m7⟩ := id M
      have e47 : (some (some (.int (iN 1)), zmMk n a' b r) : Option (Option Value × zmH)).bind κ = Den (d+8) 188 51 [.ref 94,.int (iN T),.int (iN len),.int (iN 1),zmJ,zmJ] [] (zmMk n a' b r) := by
        show κ (some (.int (iN 1)), zmMk n a' b r) = _
        rw [hk 1 (Or.inr rfl), b188_47, if_neg (eq_n (by omega) (by omega) (by omega))]
      rw [e1, e47, b188_51, m1, m2]
      dsimp only
      by_cases hql : q < len
      · have e4 : Den (d+7) 170 0 [.ref 94, .int (iN 59)] [] (zmMk n a' b r) = _ := m_takes hH m1 m2 m7 hq.2.1 (by omega)
        rw [if_pos (lt_p hql (by omega)), b188_62, e4, if_pos hql]
        by_cases h59 : nx q = 59
        · have hM2 : MSt len nx (q + 1) (c + x.2.1.length + x.2.2.length) S o (uI a' 94 9 (iN (q + 1))) := by
            have := (OkM.at (q := q + 1) M).1
            exact this
          have hT3 : TxN (uI a' 94 9 (iN (q + 1))) (cl ++ [x]) (c + x.2.1.length + x.2.2.length) := by
            unfold TxN TxD
            rw [uI_nj (show (20 : Nat) ≠ 9 by omega), uI_ne (show (102 : Nat) ≠ 94 by omega), uI_ne (show (103 : Nat) ≠ 94 by omega), uI_ne (show (104 : Nat) ≠ 94 by omega), uI_ne (show (105 : Nat) ≠ 94 by omega), uI_ne (show (100 : Nat) ≠ 94 by omega)]
            exact hT2
          rw [if_pos h59, if_pos h59]
          simp only [Option.bind_some, Option.toList_some, Option.toList_none, List.cons_append, List.nil_append, true_or, or_true, if_true, bI_if]
          rw [b188_68, if_neg (eq_n (by omega) (by omega) (by omega)), b188_71]
          refine (ih (q + 1) _ _ _ b _ (by omega) ?_ hM2.to0 hT3 hql (by omega)).fr (e3.trans (frK.p (by omega)))
          intro v hv a b
          simp only [Option.bind_some, Option.toList_some, Option.toList_none, List.cons_append, List.nil_append, true_or, or_true, if_true, bI_if]
          rw [b188_76]
          rcases hv with rfl | rfl
          · rw [if_pos rfl, b188_83, b188_84]
          · rw [if_neg (eq_n (by omega) (by omega) (by omega)), b188_79, b188_84]
        · rw [if_neg h59, if_neg h59]
          simp only [Option.bind_some, Option.toList_some, Option.toList_none, List.cons_append, List.nil_append, true_or, or_true, if_true, bI_if]
          rw [b188_68, if_pos rfl, b188_83, b188_84, b188_47, if_pos rfl]
          exact ⟨_, rfl, uI_self, e3.trans (frN.p94 (by omega)).K⟩
      · rw [if_neg (lt_n hql (by omega)), if_neg hql]
        exact ⟨a', _, rfl, hT2, m3, by omega, e3⟩
/-- what is said is copied -/
theorem m_cpyL {d n T len many c : Nat} {r : Nat → Nat → Option Nat} {v3 : Int32} (hT : T ≤ 4) (hc : c ≤ 250) (k : Nat) : ∀ (i : Nat) (a : Nat → Nat → Int32) (b : Nat → Nat → Int64), i + k = c → a 94 18 = iN c → ∃ a', Den d 188 122 [.ref 94,.int (iN T),.int (iN len),.int v3,.int (iN (260 * T)),.int (iN i)] [] (zmMk n a b r) = Den d 188 157 [.ref 94,.int (iN T),.int (iN len),.int v3,.int (iN (260 * T)),.int (iN 0)] [] (zmMk n a' b r) ∧ (∀ k, k ≠ 106 → a' k = a k) ∧ (∀ j, i ≤ j → j < c → a' 106 (260 * T + j) = a 100 j) ∧ ∀ j, (j < 260 * T + i ∨ 260 * T + c ≤ j) → a' 106 j = a 106 j := by
  induction k with
  | zero =>
    intro i a b hi h18
    refine ⟨a, ?_, fun _ _ => rfl, fun j h1 h2 => by omega, fun _ _ => rfl⟩
    rw [b188_122, h18, if_neg (lt_n (by omega) (by omega)), b188_154]
  | succ k ih =>
    intro i a b hi h18
    obtain ⟨a', e, f1, f2, f3⟩ := ih (i + 1) (uI a 106 (260 * T + i) (a 100 i)) b (by omega) (by rw [uI_ne (by omega)]; exact h18)
    refine ⟨a', ?_, fun k hk => by rw [f1 k hk, uI_ne hk], fun j h1 h2 => ?_, fun j hj => ?_⟩
    · rw [b188_122, h18, if_pos (lt_p (by omega) (by omega)), b188_131, n_in (by omega), if_pos (decide_eq_true (by omega)), n_nat (by omega), n_add, b188_147, n_in (by omega), if_pos (decide_eq_true (by omega)), n_nat (by omega), b188_148, n_add]
      exact e
    · by_cases hj : j = i
      · rw [hj, f3 _ (by omega), uI_self]
      · rw [f2 j (by omega) h2, uI_ne (by omega)]
    · rw [f3 j (by omega), uI_nj (by omega)]
theorem m_rowL {d n T len many : Nat} {r : Nat → Nat → Option Nat} {v3 : Int32} {h103 h104 h105 : Nat → Nat} (hT : T ≤ 4) (hm : many ≤ 16) (k : Nat) : ∀ (i : Nat) (a : Nat → Nat → Int32) (b : Nat → Nat → Int64), i + k = many → a 94 20 = iN many → (∀ j, j < many → a 103 j = iN (h103 j) ∧ a 104 j = iN (h104 j) ∧ a 105 j = iN (h105 j)) → ∃ a', Den d 188 157 [.ref 94,.int (iN T),.int (iN len),.int v3,.int (iN (260 * T)),.int (iN i)] [] (zmMk n a b r) = some (some (.int (iN many)), zmMk n a' b r) ∧ (∀ k, (k < 108 ∨ 111 < k) → a' k = a k) ∧ (∀ j, i ≤ j → j < many → a' 108 (16 * T + j) = a 102 j ∧ a' 109 (16 * T + j) = iN (260 * T + h103 j) ∧ a' 110 (16 * T + j) = iN (260 * T + h104 j) ∧ a' 111 (16 * T + j) = iN (260 * T + h105 j)) ∧ ∀ k j, 108 ≤ k → k ≤ 111 → (j < 16 * T + i ∨ 16 * T + many ≤ j) → a' k j = a k j := by
  induction k with
  | zero =>
    intro i a b hi h20 hr
    refine ⟨a, ?_, fun _ _ => rfl, fun j h1 h2 => by omega, fun _ _ _ _ _ => rfl⟩
    rw [b188_157, h20, if_neg (lt_n (by omega) (by omega)), b188_257, h20]
  | succ k ih =>
    intro i a b hi h20 hr
    obtain ⟨r1, r2, r3⟩ := hr i (by omega)
    have hne : ∀ k, (k < 108 ∨ 111 < k) → uI (uI (uI (uI a 108 (16 * T + i) (a 102 i)) 109 (16 * T + i) (iN (260 * T + h103 i))) 110 (16 * T + i) (iN (260 * T + h104 i))) 111 (16 * T + i) (iN (260 * T + h105 i)) k = a k := fun k hk => by
      rw [uI_ne (by omega), uI_ne (by omega), uI_ne (by omega), uI_ne (by omega)]
    obtain ⟨a', e, f1, f2, f3⟩ := ih (i + 1) (uI (uI (uI (uI a 108 (16 * T + i) (a 102 i)) 109 (16 * T + i) (iN (260 * T + h103 i))) 110 (16 * T + i) (iN (260 * T + h104 i))) 111 (16 * T + i) (iN (260 * T + h105 i))) b (by omega) (by rw [hne 94 (by omega)]; exact h20) (fun j hj => by rw [hne 103 (by omega), hne 104 (by omega), hne 105 (by omega)]; exact hr j hj)
    refine ⟨a', ?_, fun k hk => by rw [f1 k hk, hne k hk], fun j h1 h2 => ?_, fun q j hq1 hq2 hj => ?_⟩
    · rw [b188_157, h20, if_pos (lt_p (by omega) (by omega)), b188_166, n_in (by omega), if_pos (decide_eq_true (by omega)), n_nat (by omega), n_mul, n_add, b188_184, n_in (by omega), if_pos (decide_eq_true (by omega)), n_nat (by omega), b188_185, n_in (by omega), if_pos (decide_eq_true (by omega)), n_nat (by omega), n_mul, n_add, uI_ne (show (103 : Nat) ≠ 108 by omega), r1, b188_205, n_in (by omega), if_pos (decide_eq_true (by omega)), n_nat (by omega), n_add, b188_207, n_in (by omega), if_pos (decide_eq_true (by omega)), n_nat (by omega), n_mul, n_add, uI_ne (show (104 : Nat) ≠ 109 by omega), uI_ne (show (104 : Nat) ≠ 108 by omega), r2, b188_227, n_in (by omega), if_pos (decide_eq_true (by omega)), n_nat (by omega), n_add, b188_229, n_in (by omega), if_pos (decide_eq_true (by omega)), n_nat (by omega), n_mul, n_add, uI_ne (show (105 : Nat) ≠ 110 by omega), uI_ne (show (105 : Nat) ≠ 109 by omega), uI_ne (show (105 : Nat) ≠ 108 by omega), r3, b188_249, n_in (by omega), if_pos (decide_eq_true (by omega)), n_nat (by omega), n_add, b188_251, n_add]
      exact e
    · by_cases hj : j = i
      · subst hj
        refine ⟨?_, ?_, ?_, ?_⟩
        · rw [f3 108 _ (by omega) (by omega) (by omega), uI_ne (by omega), uI_ne (by omega), uI_ne (by omega), uI_self]
        · rw [f3 109 _ (by omega) (by omega) (by omega), uI_ne (by omega), uI_ne (by omega), uI_self]
        · rw [f3 110 _ (by omega) (by omega) (by omega), uI_ne (by omega), uI_self]
        · rw [f3 111 _ (by omega) (by omega) (by omega), uI_self]
      · have := f2 j (by omega) h2
        rw [hne 102 (by omega)] at this
        exact this
    · have hx : ∀ (g : Nat → Nat → Int32) (k : Nat) (v : Int32), uI g k (16 * T + i) v q j = g q j := fun g k v => by rw [uI_at, if_neg (by omega)]
      rw [f3 q j hq1 hq2 (by omega), hx, hx, hx, hx]
theorem layM_sh {f g : Nat → Int32} {lo : Nat} {os : Ops} : ∀ {p : Nat}, LayM f 0 p os → (∀ j, p ≤ j → j < p + os.length → g (lo + j) = f j) → LayM g lo (lo + p) os := by
  induction os with
  | nil => exact fun _ _ => trivial
  | cons z os ih =>
    obtain ⟨o, v⟩ := z
    intro p h hg
    have hl : ((o, v) :: os).length = os.length + 1 := rfl
    rw [hl] at hg
    refine ⟨?_, ?_⟩
    · rw [hg p (Nat.le_refl _) (by omega), h.1]
      congr 2
      unfold cdM
      by_cases h1 : o ≤ 1
      · rw [if_pos h1, if_pos h1]
      · rw [if_neg h1, if_neg h1]
        by_cases h2 : o = 11 ∨ o = 12
        · rw [if_pos h2, if_pos h2]
          omega
        · rw [if_neg h2, if_neg h2]
    · have := ih (p := p + 1) h.2 (fun j h1 h2 => hg j (by omega) (by omega))
      rw [show lo + (p + 1) = lo + p + 1 by omega] at this
      exact this
/-- what reading TEXT T changes, the other TEXTS stay -/
def frR (T : Nat) (a a' : Nat → Nat → Int32) : Prop := (∀ k, k ≠ 94 → (k < 100 ∨ 111 < k) → a' k = a k) ∧ (∀ j, (j < 8 ∨ (12 < j ∧ j < 17) ∨ 20 < j) → a' 94 j = a 94 j) ∧ (∀ j, j ≠ T → a' 107 j = a 107 j) ∧ (∀ j, (j < 260 * T ∨ 260 * T + 260 ≤ j) → a' 106 j = a 106 j) ∧ ∀ k j, 108 ≤ k → k ≤ 111 → (j < 16 * T ∨ 16 * T + 16 ≤ j) → a' k j = a k j
def RdM (n T : Nat) (b : Nat → Nat → Int64) (r : Nat → Nat → Option Nat) (a : Nat → Nat → Int32) (z : (Nat × Nat) ⊕ List Cls) (X : Option (Option Value × zmH)) : Prop := match z with
  | .inl e => ∃ a', X = some (some (.int (fltI e.1 e.2)), zmMk n a' b r) ∧ a' 94 8 = iN 0 ∧ frR T a a' ∧ (∀ k, 106 ≤ k → k ≤ 111 → a' k = a k)
  | .inr cl => ∃ a', X = some (some (.int (iN cl.length)), zmMk n a' b r) ∧ a' 94 8 = iN 0 ∧ frR T a a' ∧ TxM a' T cl
theorem m_inN {d i lo hi : Nat} {n : Nat} {a : Nat → Nat → Int32} {b : Nat → Nat → Int64} {r : Nat → Nat → Option Nat} (h1 : i < 2147483648) (h2 : lo < 2147483648) (h3 : hi < 2147483648) : Den (d) 150 0 [.int (iN i), .int (iN lo), .int (iN hi)] [] (zmMk n a b r) = some (some (.int (bI (decide (lo ≤ i) && decide (i ≤ hi)))), (zmMk n a b r)) := by
  have := m_in (d := d) (n := n) (a := a) (b := b) (r := r) (x := iN i) (lo := iN lo) (hi := iN hi)
  rw [inI_n h1 h2 h3] at this
  exact this
set_option maxHeartbeats 1000000 in
theorem m_reads {d n T len tp : Nat} {nx : Nat → Nat} {r : Nat → Nat → Option Nat} {a : Nat → Nat → Int32} {b : Nat → Nat → Int64} (hT4 : T ≤ 4) (h1 : 1 ≤ len) (h240 : len ≤ 240) (h8 : a 94 8 = iN tp) (htp : len ≤ tp) (htp2 : tp ≤ 260) (hn : endN nx len) (hx : ∀ j, j < len → nx j < 256) (hb : ∀ j, j < len → (a 95 j &&& iN 255) = iN (nx j)) : RdM n T b r a (pTxt jm nx len (isTL T) (len + 1) 0 []) (Den (d+8) 188 0 [.ref 94, .int (iN T), .int (iN len), zmJ, zmJ, zmJ] [] (zmMk n a b r)) := by
  have hH : PrM len nx := ⟨h240, hn, hx⟩
  have e1 : Den (d+7) 150 0 [.int (iN len), .int (iN 1), .int (iN 240)] [] (zmMk n a b r) = _ := m_inN (by omega) (by omega) (by omega)
  rw [b188_0, e1]
  simp only [Option.bind_some, Option.toList_some, Option.toList_none, List.cons_append, List.nil_append, true_or, or_true, if_true, bI_if]
  rw [b188_8, bI_if, if_pos (by rw [decide_eq_true h1, decide_eq_true h240]; rfl), b188_11, h8, if_neg (lt_n (by omega) (by omega)), b188_21]
  have hM : MS0 len nx 0 0 (uI (uI (uI (uI a 94 9 (iN 0)) 94 10 (iN len)) 94 18 (iN 0)) 94 20 (iN 0)) := by
    refine ⟨?_, ?_, ?_, fun j hj => ?_⟩
    · rw [uI_nj (by omega), uI_nj (by omega), uI_nj (by omega), uI_self]
    · rw [uI_nj (by omega), uI_nj (by omega), uI_self]
    · rw [uI_nj (by omega), uI_self]
    · rw [uI_ne (by omega), uI_ne (by omega), uI_ne (by omega), uI_ne (by omega)]; exact hb j hj
  have hTx := m_txtL (d := d) (n := n) (r := r) hH hT4 (len + 1) 0 0 [] _ b (fun y => Den (d+8) 188 46 [.ref 94,.int (iN T),.int (iN len),zmJ,zmJ,zmJ] (y.1.toList ++ []) y.2) (by omega) (fun v hv a b => by
    simp only [Option.bind_some, Option.toList_some, Option.toList_none, List.cons_append, List.nil_append, true_or, or_true, if_true, bI_if]
    rw [b188_46]) hM ⟨by rw [uI_self]; rfl, by show 0 ≤ 16; omega, fun i x h => by cases h⟩ (by omega) (by omega)
  have fA : ∀ {a' : Nat → Nat → Int32}, frK (uI (uI (uI (uI a 94 9 (iN 0)) 94 10 (iN len)) 94 18 (iN 0)) 94 20 (iN 0)) a' → (∀ k, k ≠ 94 → (k < 100 ∨ 105 < k) → a' k = a k) ∧ ∀ j, (j < 8 ∨ j = 8 ∨ (12 < j ∧ j < 17) ∨ 20 < j) → a' 94 j = a 94 j := fun h => by
    refine ⟨fun k h1 h2 => ?_, fun j hj => ?_⟩
    · rw [h.1 k h1 h2, uI_ne h1, uI_ne h1, uI_ne h1, uI_ne h1]
    · rw [h.2 j (by omega) (by omega) (by omega) (by omega) (by omega) (by omega) (by omega), uI_nj (by omega), uI_nj (by omega), uI_nj (by omega), uI_nj (by omega)]
  cases hz : pTxt jm nx len (isTL T) (len + 1) 0 [] with
  | inl e =>
    rw [hz] at hTx
    obtain ⟨a', e2, e3, e4⟩ := hTx
    obtain ⟨f1, f2⟩ := fA e4
    rw [e2, b188_88, if_pos rfl, b188_97, uI_nj (show (11 : Nat) ≠ 8 by omega), e3]
    refine ⟨_, rfl, uI_self, ⟨fun k h1 h2 => by rw [uI_ne h1, f1 k h1 (by omega)], fun j hj => by rw [uI_nj (by omega), f2 j (by omega)], fun j _ => by rw [uI_ne (by omega), f1 107 (by omega) (by omega)], fun j _ => by rw [uI_ne (by omega), f1 106 (by omega) (by omega)], fun k j h1 h2 _ => by rw [uI_ne (by omega), f1 k (by omega) (by omega)]⟩, fun k h1 h2 => by rw [uI_ne (by omega), f1 k (by omega) (by omega)]⟩
  | inr cl =>
    rw [hz] at hTx
    obtain ⟨a', c, e2, ⟨t1, t2, t3⟩, e3, hc, e4⟩ := hTx
    obtain ⟨f1, f2⟩ := fA e4
    obtain ⟨a2, e5, g1, g2, g3⟩ := m_cpyL (d := d+8) (n := n) (T := T) (len := len) (many := cl.length) (r := r) (v3 := iN 1) hT4 hc c 0 (uI (uI a' 94 8 (iN 0)) 107 T (iN cl.length)) b (by omega) (by rw [uI_ne (by omega), uI_nj (by omega)]; exact e3)
    have hr0 : ∀ k, k ≠ 106 → k ≠ 107 → k ≠ 94 → a2 k = a' k := fun k h1 h2 h3 => by rw [g1 k h1, uI_ne h2, uI_ne h3]
    have hrow : ∀ j, j < cl.length → ∃ h x, cl[j]? = some x ∧ TxD a' j x h c := fun j hj => by
      have hx2 : cl[j]? = some cl[j] := List.getElem?_eq_getElem hj
      obtain ⟨h, ht⟩ := t3 j _ hx2
      exact ⟨h, _, hx2, ht⟩
    have hrow2 : ∀ j, ∃ q : Nat × Nat × Nat, j < cl.length → a2 103 j = iN q.1 ∧ a2 104 j = iN q.2.1 ∧ a2 105 j = iN q.2.2 := fun j => by
      by_cases hj : j < cl.length
      · obtain ⟨h, x, -, w1, w2, w3, w4, -⟩ := hrow j hj
        exact ⟨(h, h + x.2.1.length, h + x.2.1.length + x.2.2.length), fun _ => ⟨by rw [hr0 103 (by omega) (by omega) (by omega)]; exact w2, by rw [hr0 104 (by omega) (by omega) (by omega)]; exact w3, by rw [hr0 105 (by omega) (by omega) (by omega)]; exact w4⟩⟩
      · exact ⟨(0, 0, 0), fun h => absurd h hj⟩
    obtain ⟨Q, hQ⟩ := Classical.axiomOfChoice hrow2
    have h20 : a2 94 20 = iN cl.length := by rw [g1 94 (by omega), uI_ne (by omega), uI_nj (by omega)]; exact t1
    obtain ⟨a3, e6, k1, k2, k3⟩ := m_rowL (d := d+8) (n := n) (T := T) (len := len) (r := r) (v3 := iN 1) (h103 := fun j => (Q j).1) (h104 := fun j => (Q j).2.1) (h105 := fun j => (Q j).2.2) hT4 t2 cl.length 0 a2 b (by omega) h20 (fun j hj => hQ j hj)
    refine ⟨a3, ?_, ?_, ⟨fun k h1 h2 => ?_, fun j hj => ?_, fun j hj => ?_, fun j hj => ?_, fun k j h1 h2 hj => ?_⟩, ⟨?_, t2, fun i x hx2 => ?_⟩⟩
    · rw [e2, b188_88, if_neg (eq_n (by omega) (by omega) (by omega)), b188_102, n_in (by omega), if_pos (decide_eq_true (by omega)), n_nat (by omega), uI_nj (show (20 : Nat) ≠ 8 by omega), t1, b188_112, n_mul, e5, e6]
    · rw [k1 94 (by omega), g1 94 (by omega), uI_ne (by omega), uI_self]
    · rw [k1 k (by omega), hr0 k (by omega) (by omega) h1, f1 k h1 (by omega)]
    · rw [k1 94 (by omega), g1 94 (by omega), uI_ne (by omega), uI_nj (by omega), f2 j (by omega)]
    · rw [k1 107 (by omega), g1 107 (by omega), uI_nj hj, uI_ne (by omega), f1 107 (by omega) (by omega)]
    · rw [k1 106 (by omega), g3 j (by omega), uI_ne (by omega), uI_ne (by omega), f1 106 (by omega) (by omega)]
    · rw [k3 k j h1 h2 (by omega), hr0 k (by omega) (by omega) (by omega), f1 k (by omega) (by omega)]
    · rw [k1 107 (by omega), g1 107 (by omega), uI_self]
    · have hi : i < cl.length := (List.getElem?_eq_some_iff.mp hx2).1
      obtain ⟨h, w1, w2, w3, w4, w5, w6, w7, w8, w9⟩ := t3 i x hx2
      obtain ⟨z1, z2, z3⟩ := hQ i hi
      obtain ⟨y1, y2, y3, y4⟩ := k2 i (by omega) hi
      have hj3 : h < 2147483648 ∧ h + x.2.1.length < 2147483648 ∧ h + x.2.1.length + x.2.2.length < 2147483648 := by omega
      have v3 : a2 103 i = iN h := by rw [hr0 103 (by omega) (by omega) (by omega)]; exact w2
      have v4 : a2 104 i = iN (h + x.2.1.length) := by rw [hr0 104 (by omega) (by omega) (by omega)]; exact w3
      have v5 : a2 105 i = iN (h + x.2.1.length + x.2.2.length) := by rw [hr0 105 (by omega) (by omega) (by omega)]; exact w4
      have c106 : ∀ j, j < c → a3 106 (260 * T + j) = a' 100 j := fun j hj => by
        rw [k1 106 (by omega), g2 j (by omega) hj, uI_ne (by omega), uI_ne (by omega)]
      refine ⟨260 * T + h, 260 * T + h + x.2.1.length, 260 * T + h + x.2.1.length + x.2.2.length, by omega, rfl, rfl, by omega, ?_, ?_, ?_, ?_, ?_, ?_, w8, w9⟩
      · rw [y1, hr0 102 (by omega) (by omega) (by omega)]; exact w1
      · rw [y2, ← n_add, ← z1, v3, n_add]
      · rw [y3, ← n_add, ← z2, v4, n_add, Nat.add_assoc]
      · rw [y4, ← n_add, ← z3, v5, n_add]
        congr 1
        omega
      · exact layM_sh w5 (fun j h1 h2 => c106 j (by omega))
      · rw [show 260 * T + h + x.2.1.length = 260 * T + (h + x.2.1.length) by omega]
        exact layM_sh w6 (fun j h1 h2 => c106 j (by omega))
