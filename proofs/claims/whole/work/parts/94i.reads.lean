/-! ===== the reference's parser: a CLAUSE, a TEXT ===== -/
theorem m_isLaw {d c : Nat} {n : Nat} {a : Nat → Nat → Int32} {b : Nat → Nat → Int64} {r : Nat → Nat → Option Nat} (hc : c < 257) : Den (d) 186 0 [.int (nxV c), .int (iN 0)] [] (zmMk n a b r) = some (some (.int (bI (isLaw c))), (zmMk n a b r)) := by
  have e66 : ∀ v : Int32, Den d 186 66 [.int v,.int (iN 0)] [] (zmMk n a b r) = some (some (.int (iN 1)), (zmMk n a b r)) := fun v => by rw [b186_66, b186_71, if_pos (Or.inr rfl)]
  rw [b186_0, if_neg (lt_n (by omega) (by omega)), b186_18]
  by_cases h1 : c = 121
  · rw [if_pos (nxV_y h1 (by omega)), e66, h1]; rfl
  rw [if_neg (nxV_n h1 (by omega)), b186_24]
  by_cases h2 : c = 119
  · rw [if_pos (nxV_y h2 (by omega)), e66, h2]; rfl
  rw [if_neg (nxV_n h2 (by omega)), b186_30]
  by_cases h3 : c = 98
  · rw [if_pos (nxV_y h3 (by omega)), e66, h3]; rfl
  rw [if_neg (nxV_n h3 (by omega)), b186_36]
  by_cases h4 : c = 115
  · rw [if_pos (nxV_y h4 (by omega)), e66, h4]; rfl
  rw [if_neg (nxV_n h4 (by omega)), b186_42]
  by_cases h5 : c = 103
  · rw [if_pos (nxV_y h5 (by omega)), e66, h5]; rfl
  rw [if_neg (nxV_n h5 (by omega)), b186_48]
  by_cases h6 : c = 118
  · rw [if_pos (nxV_y h6 (by omega)), e66, h6]; rfl
  rw [if_neg (nxV_n h6 (by omega)), b186_54]
  by_cases h7 : c = 109
  · rw [if_pos (nxV_y h7 (by omega)), e66, h7]; rfl
  rw [if_neg (nxV_n h7 (by omega)), b186_60]
  by_cases h8 : c = 108
  · rw [if_pos (nxV_y h8 (by omega)), e66, h8]; rfl
  have hl : isLaw c = false := by
    unfold isLaw lawI
    rw [if_neg h1, if_neg h2, if_neg h3, if_neg h4, if_neg h5, if_neg h6, if_neg h7, if_neg h8]
    rfl
  rw [if_neg (nxV_n h8 (by omega)), b186_70, b186_71, if_pos (Or.inl rfl), hl]
  rfl
theorem m_isRul {d c T : Nat} {n : Nat} {a : Nat → Nat → Int32} {b : Nat → Nat → Int64} {r : Nat → Nat → Option Nat} (hT : 1 ≤ T) (hT4 : T ≤ 4) : Den (d) 186 0 [.int (nxV c), .int (iN T)] [] (zmMk n a b r) = some (some (.int (bI (isRul c))), (zmMk n a b r)) := by
  rw [b186_0, if_pos (lt_p (by omega) (by omega)), b186_4]
  by_cases h1 : c = 97
  · rw [if_pos (nxV_y h1 (by omega)), b186_10, b186_71, if_pos (Or.inr rfl), h1]; rfl
  · rw [if_neg (nxV_n h1 (by omega)), b186_14, b186_71, if_pos (Or.inl rfl)]
    unfold isRul
    rw [decide_eq_false h1]
    rfl
/-- the letters of TEXT T -/
def isTL (T : Nat) : Nat → Bool := if T = 0 then isLaw else isRul
theorem m_isTL {d c T : Nat} {n : Nat} {a : Nat → Nat → Int32} {b : Nat → Nat → Int64} {r : Nat → Nat → Option Nat} (hc : c < 257) (hT4 : T ≤ 4) : Den (d) 186 0 [.int (nxV c), .int (iN T)] [] (zmMk n a b r) = some (some (.int (bI (isTL T c))), (zmMk n a b r)) := by
  unfold isTL
  by_cases h : T = 0
  · subst h
    exact m_isLaw hc
  · rw [if_neg h]
    exact m_isRul (by omega) hT4
theorem isTL_256 (T : Nat) : isTL T 256 = false := by
  unfold isTL
  by_cases h : T = 0
  · rw [if_pos h]; rfl
  · rw [if_neg h]; rfl
theorem isTL_lt {T c : Nat} (h : isTL T c = true) : 97 ≤ c ∧ c ≤ 121 := by
  unfold isTL at h
  by_cases hT : T = 0
  · rw [if_pos hT] at h
    exact lawI_r (of_decide_eq_true h)
  · rw [if_neg hT] at h
    have := of_decide_eq_true h
    omega
/-- CLAUSES as they are said, all below order c -/
def TxD (a : Nat → Nat → Int32) (i : Nat) (x : Cls) (h c : Nat) : Prop := a 102 i = iN x.1 ∧ a 103 i = iN h ∧ a 104 i = iN (h + x.2.1.length) ∧ a 105 i = iN (h + x.2.1.length + x.2.2.length) ∧ LayM (a 100) 0 h x.2.1 ∧ LayM (a 100) 0 (h + x.2.1.length) x.2.2 ∧ h + x.2.1.length + x.2.2.length ≤ c ∧ gdC x ∧ x.1 < 128
def TxN (a : Nat → Nat → Int32) (cl : List Cls) (c : Nat) : Prop := a 94 20 = iN cl.length ∧ cl.length ≤ 16 ∧ ∀ i x, cl[i]? = some x → ∃ h, TxD a i x h c
def frK (a a' : Nat → Nat → Int32) : Prop := (∀ k, k ≠ 94 → (k < 100 ∨ 105 < k) → a' k = a k) ∧ ∀ j, j ≠ 9 → j ≠ 11 → j ≠ 12 → j ≠ 17 → j ≠ 18 → j ≠ 19 → j ≠ 20 → a' 94 j = a 94 j
theorem frK.trans {a a1 a2 : Nat → Nat → Int32} (h : frK a a1) (g : frK a1 a2) : frK a a2 := ⟨fun k h1 h2 => (g.1 k h1 h2).trans (h.1 k h1 h2), fun j h1 h2 h3 h4 h5 h6 h7 => (g.2 j h1 h2 h3 h4 h5 h6 h7).trans (h.2 j h1 h2 h3 h4 h5 h6 h7)⟩
theorem frN.K {a a' : Nat → Nat → Int32} (h : frN a a') : frK a a' := ⟨fun k h1 h2 => h.1 k h1 (by omega) (by omega), fun j h1 h2 h3 h4 h5 h6 _ => h.2 j h1 h2 h3 h4 h5 h6⟩
theorem frK.p {a : Nat → Nat → Int32} {k j : Nat} {v : Int32} (h : (100 ≤ k ∧ k ≤ 105) ∨ (k = 94 ∧ (j = 9 ∨ j = 17 ∨ j = 19 ∨ j = 20))) : frK a (uI a k j v) := by
  refine ⟨fun q h1 h2 => uI_ne (by omega), fun i h1 h2 h3 h4 h5 h6 h7 => ?_⟩
  rw [uI_at, if_neg (by omega)]
def ClsM (n len : Nat) (nx : Nat → Nat) (b : Nat → Nat → Int64) (r : Nat → Nat → Option Nat) (a : Nat → Nat → Int32) (c : Nat) (cl : List Cls) (z : (Nat × Nat) ⊕ (Nat × Cls)) (X : Option (Option Value × zmH)) : Prop := match z with
  | .inl e => ∃ a', X = some (some (.int (iN 0)), zmMk n a' b r) ∧ a' 94 11 = fltI e.1 e.2 ∧ frK a a'
  | .inr (q, x) => ∃ a' S o, X = some (some (.int (iN 1)), zmMk n a' b r) ∧ MSt len nx q (c + x.2.1.length + x.2.2.length) S o a' ∧ TxN a' (cl ++ [x]) (c + x.2.1.length + x.2.2.length) ∧ frK a a'
/-- ahead of byte p, c orders are noted -/
def MS0 (len : Nat) (nx : Nat → Nat) (p c : Nat) (a : Nat → Nat → Int32) : Prop := a 94 9 = iN p ∧ a 94 10 = iN len ∧ a 94 18 = iN c ∧ ∀ j, j < len → (a 95 j &&& iN 255) = iN (nx j)
theorem MSt.to0 {len p c o : Nat} {nx : Nat → Nat} {S : List Nat} {a : Nat → Nat → Int32} (h : MSt len nx p c S o a) : MS0 len nx p c a := ⟨h.1, h.2.1, h.2.2.1, h.2.2.2.2.2.2⟩
set_option maxHeartbeats 2000000 in
theorem m_clause {d n len p c T : Nat} {nx : Nat → Nat} {r : Nat → Nat → Option Nat} {a : Nat → Nat → Int32} {b : Nat → Nat → Int64} {cl : List Cls} (hH : PrM len nx) (hT4 : T ≤ 4) (h : MS0 len nx p c a) (hT : TxN a cl c) (hp : p ≤ len) (hc : c + (len - p) ≤ 250) : ClsM n len nx b r a c cl (pCls jm nx len (isTL T) cl.length p) (Den (d+7) 187 0 [.ref 94, .int (iN T), zmJ] [] (zmMk n a b r)) := by
  have hlen := hH.1
  obtain ⟨h1, h2, h3, h7⟩ := id h
  obtain ⟨t1, t2, t3⟩ := id hT
  have e1 : ∀ e, Den e 167 0 [.ref 94] [] (zmMk n a b r) = some (some (.int (nxV (nx p))), (zmMk n a b r)) := fun e => m_look hH h1 h2 h7 hp
  have e2 : Den (d+6) 186 0 [.int (nxV (nx p)), .int (iN T)] [] (zmMk n a b r) = _ := m_isTL (nx_257 hH) hT4
  rw [b187_0, e1]
  simp only [Option.bind_some, Option.toList_some, Option.toList_none, List.cons_append, List.nil_append, true_or, or_true, if_true, bI_if]
  rw [b187_4, e2]
  simp only [Option.bind_some, Option.toList_some, Option.toList_none, List.cons_append, List.nil_append, true_or, or_true, if_true, bI_if]
  rw [b187_10, bI_if]
  unfold pCls
  by_cases hL : isTL T (nx p) = true
  · obtain ⟨c1, c2⟩ := isTL_lt hL
    have hp1 := nx_le hH.2.1 (p := p) (by omega)
    rw [if_pos hL, b187_23, t1, if_neg (by rw [hL]; decide)]
    by_cases h16 : cl.length = 16
    · rw [if_pos (show iN cl.length = iN 16 by rw [h16]), b187_32, h1, m_wrong, if_pos h16]
      simp only [Option.bind_some, Option.toList_some, Option.toList_none, List.cons_append, List.nil_append, true_or, or_true, if_true, bI_if]
      rw [b187_41, if_pos (Or.inl rfl)]
      exact ⟨_, rfl, uI_self, (frN.p94 (by omega)).K⟩
    · have g20 : ∀ v w, uI (uI a 102 cl.length v) 94 9 w 94 20 = iN cl.length := fun v w => by rw [uI_nj (by omega), uI_ne (by omega)]; exact t1
      have g9 : ∀ v, uI a 102 cl.length v 94 9 = iN p := fun v => by rw [uI_ne (by omega)]; exact h1
      have g18 : ∀ v w, uI (uI a 102 cl.length v) 94 9 w 94 18 = iN c := fun v w => by rw [uI_nj (by omega), uI_ne (by omega)]; exact h3
      rw [if_neg (eq_n h16 (by omega) (by omega)), b187_42, t1, n_in (by omega), if_pos (decide_eq_true (by omega)), n_nat (by omega), b187_52, g9, n_add, g20, n_in (by omega), if_pos (decide_eq_true (by omega)), n_nat (by omega), g18, b187_75, if_neg h16, nxV_of (by omega)]
      -- behind the opening
      have q1 : MSt len nx (p + 1) c [] 0 (uI (uI (uI (uI (uI a 102 cl.length (iN (nx p))) 94 9 (iN (p + 1))) 103 cl.length (iN c)) 94 17 (iN 0)) 94 19 (iN 0)) := by
        refine ⟨?_, ?_, ?_, uI_self, ?_, trivial, fun j hj => ?_⟩
        · rw [uI_nj (by omega), uI_nj (by omega), uI_ne (by omega), uI_self]
        · rw [uI_nj (by omega), uI_nj (by omega), uI_ne (by omega), uI_nj (by omega), uI_ne (by omega)]; exact h2
        · rw [uI_nj (by omega), uI_nj (by omega), uI_ne (by omega), uI_nj (by omega), uI_ne (by omega)]; exact h3
        · rw [uI_nj (by omega), uI_self]
        · rw [uI_ne (by omega), uI_ne (by omega), uI_ne (by omega), uI_ne (by omega), uI_ne (by omega)]; exact h7 j hj
      have q2 : frK a (uI (uI (uI (uI (uI a 102 cl.length (iN (nx p))) 94 9 (iN (p + 1))) 103 cl.length (iN c)) 94 17 (iN 0)) 94 19 (iN 0)) := ((((frK.p (by omega)).trans (frK.p (by omega))).trans (frK.p (by omega))).trans (frK.p (by omega))).trans (frK.p (by omega))
      have q3 : ∀ j, uI (uI (uI (uI (uI a 102 cl.length (iN (nx p))) 94 9 (iN (p + 1))) 103 cl.length (iN c)) 94 17 (iN 0)) 94 19 (iN 0) 102 j = if j = cl.length then iN (nx p) else a 102 j := fun j => by
        rw [uI_ne (by omega), uI_ne (by omega), uI_ne (by omega), uI_ne (by omega)]
        by_cases hj : j = cl.length
        · rw [if_pos hj, hj, uI_self]
        · rw [if_neg hj, uI_nj hj]
      have q4 : ∀ j, uI (uI (uI (uI (uI a 102 cl.length (iN (nx p))) 94 9 (iN (p + 1))) 103 cl.length (iN c)) 94 17 (iN 0)) 94 19 (iN 0) 103 j = if j = cl.length then iN c else a 103 j := fun j => by
        rw [uI_ne (by omega), uI_ne (by omega)]
        by_cases hj : j = cl.length
        · rw [if_pos hj, hj, uI_self]
        · rw [if_neg hj, uI_nj hj, uI_ne (by omega), uI_ne (by omega)]
      have q5 : ∀ k, k = 100 ∨ k = 104 ∨ k = 105 → uI (uI (uI (uI (uI a 102 cl.length (iN (nx p))) 94 9 (iN (p + 1))) 103 cl.length (iN c)) 94 17 (iN 0)) 94 19 (iN 0) k = a k := fun k hk => by
        rw [uI_ne (by omega), uI_ne (by omega), uI_ne (by omega), uI_ne (by omega), uI_ne (by omega)]
      have q6 : uI (uI (uI (uI (uI a 102 cl.length (iN (nx p))) 94 9 (iN (p + 1))) 103 cl.length (iN c)) 94 17 (iN 0)) 94 19 (iN 0) 94 20 = iN cl.length := by
        rw [uI_nj (by omega), uI_nj (by omega), uI_ne (by omega), uI_nj (by omega), uI_ne (by omega)]
        exact t1
      generalize uI (uI (uI (uI (uI a 102 cl.length (iN (nx p))) 94 9 (iN (p + 1))) 103 cl.length (iN c)) 94 17 (iN 0)) 94 19 (iN 0) = A1 at q1 q2 q3 q4 q5 q6 ⊢
      have hS := m_sum (d := d+2) (n := n) (b := b) (r := r) (m := 6) hH (by omega) q1 (fun s S' es => by cases es) hp1 (Nat.zero_le _) (fun s hs => by cases hs) (by omega)
      have hg := gd_sum hH.2.1 6 (p + 1) hp1
      cases hz : pSum nx len 6 (p + 1) with
      | inl e =>
        rw [hz] at hS
        obtain ⟨a2, e3, bad⟩ := hS
        rw [e3]
        simp only [Option.bind_some, Option.toList_some, Option.toList_none, List.cons_append, List.nil_append, true_or, or_true, if_true, bI_if]
        rw [b187_89, if_pos rfl, b187_92]
        exact ⟨a2, rfl, bad.1, q2.trans bad.2.K⟩
      | inr e =>
        rw [hz] at hS hg
        obtain ⟨q, oE⟩ := e
        obtain ⟨A2, e3, ok⟩ := hS
        obtain ⟨g1, g2, g3, g4⟩ := hg
        obtain ⟨k1, k2, k3, k4⟩ := id ok
        have h20 : A2 94 20 = iN cl.length := by
          rw [k4.2 20 (by omega) (by omega) (by omega) (by omega) (by omega) (by omega)]
          exact q6
        have k1' : MSt len nx q (c + oE.length) [] 0 (uI A2 104 cl.length (iN (c + oE.length))) := by
          obtain ⟨z1, z2, z3, z4, z5, z6, z7⟩ := k1
          exact ⟨by rw [uI_ne (by omega)]; exact z1, by rw [uI_ne (by omega)]; exact z2, by rw [uI_ne (by omega)]; exact z3, by rw [uI_ne (by omega)]; exact z4, by rw [uI_ne (by omega)]; exact z5, trivial, fun j hj => by rw [uI_ne (by omega)]; exact z7 j hj⟩
        have hC := m_condition (d := d) (n := n) (b := b) (r := r) hH k1' g2 (by omega)
        rw [e3]
        simp only [Option.bind_some, Option.toList_some, Option.toList_none, List.cons_append, List.nil_append, true_or, or_true, if_true, bI_if]
        rw [b187_89, if_neg (eq_n (by omega) (by omega) (by omega)), b187_94, h20, n_in (by omega), if_pos (decide_eq_true (by omega)), n_nat (by omega), k1.2.2.1, b187_107]
        show ClsM n len nx b r a c cl (if nx q ≠ 40 then .inl (1, q) else match pBrk nx 41 (pCnd jm nx (pPc jm nx len 5) (len + 1) (q + 1) [] []) with
          | .inl e => .inl e
          | .inr (q2, oC) => .inr (q2, (nx p, oE, oC))) _
        have hfin : ∀ (z : PR), gdB len 14 q z → ResM n len nx b r (uI A2 104 cl.length (iN (c + oE.length))) (c + oE.length) [] 0 z (Den (d+6) 185 0 [.ref 94] [] (zmMk n (uI A2 104 cl.length (iN (c + oE.length))) b r)) → ClsM n len nx b r a c cl (match z with
          | .inl e => .inl e
          | .inr (q2, oC) => .inr (q2, (nx p, oE, oC))) ((Den (d+6) 185 0 [.ref 94] [] (zmMk n (uI A2 104 cl.length (iN (c + oE.length))) b r)).bind fun y => Den (d+6+1) 187 111 [.ref 94,.int (iN T),.int (iN (nx p))] (y.1.toList ++ []) y.2) := by
          intro z hgz hz
          cases z with
          | inl e =>
            obtain ⟨a3, e4, bad⟩ := hz
            rw [e4]
            simp only [Option.bind_some, Option.toList_some, Option.toList_none, List.cons_append, List.nil_append, true_or, or_true, if_true, bI_if]
            rw [b187_111, if_pos rfl, b187_114]
            exact ⟨a3, rfl, bad.1, q2.trans (k4.K.trans ((frK.p (by omega)).trans bad.2.K))⟩
          | inr e =>
            obtain ⟨q3', oC⟩ := e
            obtain ⟨A4, e4, ok4⟩ := hz
            obtain ⟨y1, y2, y3, y4⟩ := hgz
            obtain ⟨z1, z2, z3, z4⟩ := id ok4
            have h20' : A4 94 20 = iN cl.length := by
              rw [z4.2 20 (by omega) (by omega) (by omega) (by omega) (by omega) (by omega), uI_ne (by omega)]
              exact h20
            rw [e4]
            simp only [Option.bind_some, Option.toList_some, Option.toList_none, List.cons_append, List.nil_append, true_or, or_true, if_true, bI_if]
            rw [b187_111, if_neg (eq_n (by omega) (by omega) (by omega)), b187_116, h20', n_in (by omega), if_pos (decide_eq_true (by omega)), n_nat (by omega), z1.2.2.1, b187_129]
            have h20'' : ∀ w, uI A4 105 cl.length w 94 20 = iN cl.length := fun w => by rw [uI_ne (by omega)]; exact h20'
            rw [h20'', n_add]
            obtain ⟨m1, m2, m3, m4, m5, m6, m7⟩ := z1
            have hl : (cl ++ [(nx p, oE, oC)]).length = cl.length + 1 := List.length_append
            have r102 : ∀ j, uI (uI A4 105 cl.length (iN (c + oE.length + oC.length))) 94 20 (iN (cl.length + 1)) 102 j = if j = cl.length then iN (nx p) else a 102 j := fun j => by
              rw [uI_ne (by omega), uI_ne (by omega), z4.1 102 (by omega) (by omega) (by omega), uI_ne (by omega), k4.1 102 (by omega) (by omega) (by omega), q3]
            have r103 : ∀ j, uI (uI A4 105 cl.length (iN (c + oE.length + oC.length))) 94 20 (iN (cl.length + 1)) 103 j = if j = cl.length then iN c else a 103 j := fun j => by
              rw [uI_ne (by omega), uI_ne (by omega), z4.1 103 (by omega) (by omega) (by omega), uI_ne (by omega), k4.1 103 (by omega) (by omega) (by omega), q4]
            have r104 : ∀ j, uI (uI A4 105 cl.length (iN (c + oE.length + oC.length))) 94 20 (iN (cl.length + 1)) 104 j = if j = cl.length then iN (c + oE.length) else a 104 j := fun j => by
              rw [uI_ne (by omega), uI_ne (by omega), z4.1 104 (by omega) (by omega) (by omega)]
              by_cases hj : j = cl.length
              · rw [if_pos hj, hj, uI_self]
              · rw [if_neg hj, uI_nj hj, k4.1 104 (by omega) (by omega) (by omega), q5 104 (by omega)]
            have r105 : ∀ j, uI (uI A4 105 cl.length (iN (c + oE.length + oC.length))) 94 20 (iN (cl.length + 1)) 105 j = if j = cl.length then iN (c + oE.length + oC.length) else a 105 j := fun j => by
              rw [uI_ne (by omega)]
              by_cases hj : j = cl.length
              · rw [if_pos hj, hj, uI_self]
              · rw [if_neg hj, uI_nj hj, z4.1 105 (by omega) (by omega) (by omega), uI_ne (by omega), k4.1 105 (by omega) (by omega) (by omega), q5 105 (by omega)]
            have r100 : uI (uI A4 105 cl.length (iN (c + oE.length + oC.length))) 94 20 (iN (cl.length + 1)) 100 = A4 100 := by
              rw [uI_ne (by omega), uI_ne (by omega)]
            have s100 : ∀ j, j < c + oE.length → A4 100 j = A2 100 j := fun j hj => by rw [z3 j hj, uI_ne (by omega)]
            have v100 : ∀ j, j < c → A4 100 j = a 100 j := fun j hj => by rw [s100 j (by omega), k3 j hj, q5 100 (by omega)]
            refine ⟨uI (uI A4 105 cl.length (iN (c + oE.length + oC.length))) 94 20 (iN (cl.length + 1)), [], 0, rfl, ⟨?_, ?_, ?_, ?_, ?_, trivial, fun j hj => ?_⟩, ⟨?_, ?_, fun i x hx => ?_⟩, q2.trans (k4.K.trans ((frK.p (by omega)).trans (z4.K.trans ((frK.p (by omega)).trans (frK.p (by omega))))))⟩
            · rw [uI_nj (by omega), uI_ne (by omega)]; exact m1
            · rw [uI_nj (by omega), uI_ne (by omega)]; exact m2
            · rw [uI_nj (by omega), uI_ne (by omega)]; exact m3
            · rw [uI_nj (by omega), uI_ne (by omega)]; exact m4
            · rw [uI_nj (by omega), uI_ne (by omega)]; exact m5
            · rw [uI_ne (by omega), uI_ne (by omega)]; exact m7 j hj
            · rw [hl, uI_self]
            · rw [hl]; omega
            · by_cases hi : i < cl.length
              · rw [List.getElem?_append_left hi] at hx
                obtain ⟨hh, w1, w2, w3, w4, w5, w6, w7, w8, w9⟩ := t3 i x hx
                refine ⟨hh, ?_, ?_, ?_, ?_, ?_, ?_, ?_, w8, w9⟩
                · rw [r102, if_neg (by omega)]; exact w1
                · rw [r103, if_neg (by omega)]; exact w2
                · rw [r104, if_neg (by omega)]; exact w3
                · rw [r105, if_neg (by omega)]; exact w4
                · rw [r100]; exact w5.ag (fun j _ hj => v100 j (by omega))
                · rw [r100]; exact w6.ag (fun j _ hj => v100 j (by omega))
                · show hh + x.2.1.length + x.2.2.length ≤ c + oE.length + oC.length
                  omega
              · rw [List.getElem?_append_right (by omega)] at hx
                have hi2 : i = cl.length := by
                  cases hd : i - cl.length with
                  | zero => omega
                  | succ k =>
                    rw [hd] at hx
                    cases hx
                subst hi2
                rw [Nat.sub_self] at hx
                cases hx
                refine ⟨c, ?_, ?_, ?_, ?_, ?_, ?_, Nat.le_refl _, ⟨g4, y4⟩, by show nx p < 128; omega⟩
                · rw [r102, if_pos rfl]
                · rw [r103, if_pos rfl]
                · rw [r104, if_pos rfl]
                · rw [r105, if_pos rfl]
                · rw [r100]; exact k2.ag (fun j _ hj => s100 j hj)
                · rw [r100]; exact z2
        by_cases h40 : nx q ≠ 40
        · rw [if_pos h40] at hC ⊢
          exact hfin (.inl (1, q)) ⟨by omega, by omega, Nat.le_refl _, g2⟩ hC
        · have hqn := hH.2.1.lt (p := q) (by omega)
          rw [if_neg h40] at hC ⊢
          refine hfin _ ?_ hC
          exact gdB_brk (k := 41) (p := q) hH.2.1 (by omega) (rl_gd (rl_cnd hH.2.1 (gd_pc hH.2.1 5) (rl_pc hH.2.1 5) (len + 1) (q + 1) [] [] [] [] hqn trivial trivial) (gd_cnd hH.2.1 (gd_pc hH.2.1 5) (len + 1) (q + 1) [] [] (fun o h => by cases h) (fun o h => by cases h) (Nat.le_refl _) (by show 0 + 0 ≤ _; omega) hqn (by omega)))
  · rw [if_neg hL, b187_13, h1, m_wrong, if_pos (Bool.eq_false_iff.mpr hL)]
    simp only [Option.bind_some, Option.toList_some, Option.toList_none, List.cons_append, List.nil_append, true_or, or_true, if_true, bI_if]
    rw [b187_22, if_pos (Or.inl rfl)]
    exact ⟨_, rfl, uI_self, (frN.p94 (by omega)).K⟩
