/-! ===== the class's parser: a CLAUSE as a whole ===== -/
set_option maxHeartbeats 2000000 in
theorem c_clause {d n TT len sr : Nat} {nx : Nat → Nat} {r : Nat → Nat → Option Nat} {isL : Nat → Bool} {a : Nat → Nat → Int32} {b : Nat → Nat → Int64} {s p : Nat} {cl : List Cls} (hH : PrH r TT len nx) (hL : LetC n sr r isL) (h : PrS TT len nx s p a) (hT : TxP TT s cl a) (hp : p ≤ len) (hs : s + (len - p) ≤ 240) : ClsR n TT len nx b r a s cl (pCls jn nx len isL cl.length p) (Den (d+19) 36 0 [.ref 44, zmJ] [] (zmMk n a b r)) := by
  obtain ⟨h0, h5, hX, hl240, hn, hb⟩ := id hH
  obtain ⟨hL4, hLv, hL256, hL97, hLi⟩ := hL
  obtain ⟨a1, a2, a3, a4, a5, a6⟩ := id h
  obtain ⟨t1, t2, t3, ⟨P, t4, t5, t6⟩, t7⟩ := id hT
  have e1 : Den (d+18) 45 0 [.ref 44] [] (zmMk n a b r) = _ := c_next hH h hp
  have h28 : ∀ v : Int32, Den (d+19) 36 28 [.ref 44,.int v] [] (zmMk n a b r) = some (none, zmMk n (uI a 44 3 (fltI 1 p)) b r) := fun v => by
    rw [b36_28, c_fail a3 a2]
    simp only [Option.bind_some, Option.toList_none, List.nil_append]
    rw [b36_33]
  have hf1 : ∀ k, frP TT a (uI a 44 3 (fltI k p)) := fun k => (frQ.at hX (by omega)).P
  rw [b36_0, e1]
  simp only [Option.bind_some, Option.toList_some, Option.toList_none, List.cons_append, List.nil_append, true_or, or_true, if_true, bI_if]
  rw [b36_4, a3, if_pos rfl, b36_12]
  unfold pCls
  by_cases hc : nx p < 256
  · obtain ⟨v, e2, hv⟩ := hLi (d+14) (nx p) a b hc a6
    have e2' : Den (d+18) 277 0 [.ref sr, .int (iN (nx p))] [] (zmMk n a b r) = _ := e2
    rw [nxV_of hc, if_neg (ng (by omega)), b36_16 hL4 (hLv a b r), ch_of (by omega), e2']
    simp only [Option.bind_some, Option.toList_some, Option.toList_none, List.cons_append, List.nil_append, true_or, or_true, if_true, bI_if]
    rw [b36_25]
    rcases hv with ⟨v1, v2⟩ | ⟨v1, v2⟩
    · obtain ⟨c1, c2⟩ := hL97 _ v1
      have hp1 := nx_le hn (p := p) (by omega)
      rw [if_neg v2, b36_34 h5 hX, t1, if_neg (by rw [v1]; decide)]
      by_cases h16 : cl.length < 16
      · have hA1 : PrS TT len nx s (p + 1) (uI (uI (uI (uI a 44 2 (iN (p + 1))) (TT + 2) cl.length (iN (nx p))) (TT + 3) cl.length (iN (2 * s))) TT 2 (iN (P ||| 2 ^ (nx p - 97)))) := (((h.step hX).p hX (by omega) (by omega) (by omega)).p hX (by omega) (by omega) (by omega)).p hX (by omega) (by omega) (by omega)
        have fA1 : frP TT a (uI (uI (uI (uI a 44 2 (iN (p + 1))) (TT + 2) cl.length (iN (nx p))) (TT + 3) cl.length (iN (2 * s))) TT 2 (iN (P ||| 2 ^ (nx p - 97)))) := (((frQ.at hX (by omega)).P.trans (frP.p hX (by omega) (by omega))).trans (frP.p hX (by omega) (by omega))).trans (frP.p hX (by omega) (by omega))
        have h44 : TT ≠ 44 := by rcases tx_of hX with h | h | h | h | h | h <;> omega
        have eO := c_open (d := d+17) (n := n) (a := uI a 44 2 (iN (p + 1))) (b := b) (r := r) (s := s) (i := cl.length) (c := nx p) (P := P) hX (by rw [uI_ne h44]; exact t1) h16 (by rw [uI_ne h44]; exact a4) (by rw [uI_ne h44]; exact t5) c1 c2
        -- what the rows of CLAUSES hold behind the opening
        have q2 : ∀ j, uI (uI (uI (uI a 44 2 (iN (p + 1))) (TT + 2) cl.length (iN (nx p))) (TT + 3) cl.length (iN (2 * s))) TT 2 (iN (P ||| 2 ^ (nx p - 97))) (TT + 2) j = if j = cl.length then iN (nx p) else a (TT + 2) j := fun j => by
          rw [uI_ne (by omega), uI_ne (by omega)]
          by_cases hj : j = cl.length
          · rw [if_pos hj, hj, uI_self]
          · rw [if_neg hj, uI_nj hj, uI_ne (by rcases tx_of hX with h | h | h | h | h | h <;> omega)]
        have q3 : ∀ j, uI (uI (uI (uI a 44 2 (iN (p + 1))) (TT + 2) cl.length (iN (nx p))) (TT + 3) cl.length (iN (2 * s))) TT 2 (iN (P ||| 2 ^ (nx p - 97))) (TT + 3) j = if j = cl.length then iN (2 * s) else a (TT + 3) j := fun j => by
          rw [uI_ne (by omega)]
          by_cases hj : j = cl.length
          · rw [if_pos hj, hj, uI_self]
          · rw [if_neg hj, uI_nj hj, uI_ne (by omega), uI_ne (by rcases tx_of hX with h | h | h | h | h | h <;> omega)]
        have q4 : uI (uI (uI (uI a 44 2 (iN (p + 1))) (TT + 2) cl.length (iN (nx p))) (TT + 3) cl.length (iN (2 * s))) TT 2 (iN (P ||| 2 ^ (nx p - 97))) (TT + 4) = a (TT + 4) := by
          rw [uI_ne (by omega), uI_ne (by omega), uI_ne (by omega), uI_ne (by rcases tx_of hX with h | h | h | h | h | h <;> omega)]
        have q1 : uI (uI (uI (uI a 44 2 (iN (p + 1))) (TT + 2) cl.length (iN (nx p))) (TT + 3) cl.length (iN (2 * s))) TT 2 (iN (P ||| 2 ^ (nx p - 97))) (TT + 1) = a (TT + 1) := by
          rw [uI_ne (by omega), uI_ne (by omega), uI_ne (by omega), uI_ne (by rcases tx_of hX with h | h | h | h | h | h <;> omega)]
        have q0 : uI (uI (uI (uI a 44 2 (iN (p + 1))) (TT + 2) cl.length (iN (nx p))) (TT + 3) cl.length (iN (2 * s))) TT 2 (iN (P ||| 2 ^ (nx p - 97))) TT 0 = iN cl.length := by
          rw [uI_nj (by omega), uI_ne (by omega), uI_ne (by omega), uI_ne h44]
          exact t1
        have q5 : uI (uI (uI (uI a 44 2 (iN (p + 1))) (TT + 2) cl.length (iN (nx p))) (TT + 3) cl.length (iN (2 * s))) TT 2 (iN (P ||| 2 ^ (nx p - 97))) TT 2 = iN (P ||| 2 ^ (nx p - 97)) := uI_self
        rw [if_pos (lt_p h16 (by omega)), b36_52 h5 hX, h.at2, eO]
        simp only [Option.bind_some, Option.toList_none, List.nil_append]
        generalize uI (uI (uI (uI a 44 2 (iN (p + 1))) (TT + 2) cl.length (iN (nx p))) (TT + 3) cl.length (iN (2 * s))) TT 2 (iN (P ||| 2 ^ (nx p - 97))) = A1 at hA1 fA1 q0 q1 q2 q3 q4 q5 ⊢
        rw [b36_70, if_neg (show ¬ cl.length = 16 by omega)]
        have hS := c_expr (n := n) hH 6 d (by omega) s (p + 1) A1 b hA1 hp1 (by omega)
        have hg := gd_sum hn 6 (p + 1) hp1
        cases hz : pSum nx len 6 (p + 1) with
        | inl e =>
          rw [hz] at hS hg
          obtain ⟨a', e', bad⟩ := hS
          obtain ⟨g1, g2, g3, g4⟩ := hg
          obtain ⟨k1, k2, ⟨K, k3, k4, k5⟩, k6⟩ := id bad
          obtain ⟨a2', e3, f3⟩ := bd_75 (D := d+17) (n := n) (b := b) (v := iN (nx p)) h0 h5 hX (bad.ne (len := len) (c := 0) (p := 0) g1 g2 (by omega)) k4 k5
          have e'' : Den (d+18) 40 0 [.ref 44, .int (iN 0), zmJ, zmJ, zmJ, zmJ] [] (zmMk n A1 b r) = _ := e'
          rw [e'']
          simp only [Option.bind_some, Option.toList_none, List.nil_append]
          rw [e3]
          exact ⟨_, rfl, f3.1.trans k1, (fA1.trans k2).trans f3.2.1⟩
        | inr e =>
          obtain ⟨q, oE⟩ := e
          rw [hz] at hS hg
          obtain ⟨A2, e', ok⟩ := hS
          obtain ⟨g1, g2, g3, g4⟩ := hg
          obtain ⟨k1, k2, k3, k4⟩ := id ok
          have e'' : Den (d+18) 40 0 [.ref 44, .int (iN 0), zmJ, zmJ, zmJ, zmJ] [] (zmMk n A1 b r) = _ := e'
          rw [e'']
          simp only [Option.bind_some, Option.toList_none, List.nil_append]
          rw [b36_75]
          rcases c_take (d := d+16) (n := n) (b := b) (c := 40) hH k1 g2 (by omega) (by omega) with ⟨u1, u2⟩ | ⟨u1, u2⟩
          · have u2' : Den (d+18) 46 0 [.ref 44, .int (iN 40)] [] (zmMk n A2 b r) = _ := u2
            have hq1 := nx_le hn (p := q) (by omega)
            have hA3 := k1.step hX
            have h20 : uI A2 44 2 (iN (q + 1)) TT 0 = iN cl.length := by
              rw [uI_ne h44, k4.2.2 0 (by omega)]
              exact q0
            have eT := c_turn (d := d+17) (n := n) (b := b) (r := r) hX h20 h16 hA3.2.2.2.1 (by omega)
            have hA4 : PrS TT len nx (s + oE.length + 1) (q + 1) (uI (adF TT (uI A2 44 2 (iN (q + 1))) (s + oE.length) (iN 0) (iN 0)) (TT + 4) cl.length (iN (2 * (s + oE.length + 1)))) := (hA3.ad hX).p hX (by omega) (by omega) (by omega)
            rw [u2']
            simp only [Option.bind_some, Option.toList_none, List.nil_append]
            rw [b36_81 h5 hX, eT]
            simp only [Option.bind_some, Option.toList_none, List.nil_append]
            rw [b36_88, if_neg (show ¬ nx q ≠ 40 from fun h => h u1)]
            have hC := c_cnd (D := d+16) (n := n) (b := b) (r := r) (s := s + oE.length + 1) (p := q + 1) (a := uI (adF TT (uI A2 44 2 (iN (q + 1))) (s + oE.length) (iN 0) (iN 0)) (TT + 4) cl.length (iN (2 * (s + oE.length + 1)))) hH (c_pc hH 5 d (by omega)) (fun p hp => gd_pc hn 5 p hp) hA4 hq1 (by omega)
            have hgc := gd_cnd hn (gd_pc hn 5) (len + 1) (q + 1) [] [] (p0 := q + 1) (fun o h => by cases h) (fun o h => by cases h) (Nat.le_refl _) (by show 0 + 0 ≤ _; omega) hq1 (by omega)
            have fA4 : frP TT A2 (uI (adF TT (uI A2 44 2 (iN (q + 1))) (s + oE.length) (iN 0) (iN 0)) (TT + 4) cl.length (iN (2 * (s + oE.length + 1)))) := ((frQ.at hX (by omega)).P.trans (frP.ad hX)).trans (frP.p hX (by omega) (by omega))
            have hadF : ∀ k, k ≠ TT → k ≠ TT + 1 → k ≠ 44 → adF TT (uI A2 44 2 (iN (q + 1))) (s + oE.length) (iN 0) (iN 0) k = A2 k := fun k z1 z2 z3 => by
              unfold adF
              rw [uI_ne z1, uI_ne z2, uI_ne z2, uI_ne z3]
            have w2 : uI (adF TT (uI A2 44 2 (iN (q + 1))) (s + oE.length) (iN 0) (iN 0)) (TT + 4) cl.length (iN (2 * (s + oE.length + 1))) (TT + 2) = A1 (TT + 2) := by
              rw [uI_ne (by omega), hadF _ (by omega) (by omega) (by rcases tx_of hX with h | h | h | h | h | h <;> omega)]
              exact k4.1 _ (by rcases tx_of hX with h | h | h | h | h | h <;> omega) (by omega) (by omega)
            have w3 : uI (adF TT (uI A2 44 2 (iN (q + 1))) (s + oE.length) (iN 0) (iN 0)) (TT + 4) cl.length (iN (2 * (s + oE.length + 1))) (TT + 3) = A1 (TT + 3) := by
              rw [uI_ne (by omega), hadF _ (by omega) (by omega) (by rcases tx_of hX with h | h | h | h | h | h <;> omega)]
              exact k4.1 _ (by rcases tx_of hX with h | h | h | h | h | h <;> omega) (by omega) (by omega)
            have w4 : ∀ j, uI (adF TT (uI A2 44 2 (iN (q + 1))) (s + oE.length) (iN 0) (iN 0)) (TT + 4) cl.length (iN (2 * (s + oE.length + 1))) (TT + 4) j = if j = cl.length then iN (2 * (s + oE.length + 1)) else a (TT + 4) j := fun j => by
              by_cases hj : j = cl.length
              · rw [if_pos hj, hj, uI_self]
              · rw [if_neg hj, uI_nj hj, hadF _ (by omega) (by omega) (by rcases tx_of hX with h | h | h | h | h | h <;> omega), k4.1 _ (by rcases tx_of hX with h | h | h | h | h | h <;> omega) (by omega) (by omega), q4]
            have w1 : ∀ j, j < 2 * (s + oE.length) → uI (adF TT (uI A2 44 2 (iN (q + 1))) (s + oE.length) (iN 0) (iN 0)) (TT + 4) cl.length (iN (2 * (s + oE.length + 1))) (TT + 1) j = A2 (TT + 1) j := fun j hj => by
              rw [uI_ne (by omega), adF_1.2.2.2 j hj, uI_ne (by rcases tx_of hX with h | h | h | h | h | h <;> omega)]
            have w1e : uI (adF TT (uI A2 44 2 (iN (q + 1))) (s + oE.length) (iN 0) (iN 0)) (TT + 4) cl.length (iN (2 * (s + oE.length + 1))) (TT + 1) (2 * (s + oE.length)) = iN 0 := by
              rw [uI_ne (by omega), adF_1.1]
            have w0 : uI (adF TT (uI A2 44 2 (iN (q + 1))) (s + oE.length) (iN 0) (iN 0)) (TT + 4) cl.length (iN (2 * (s + oE.length + 1))) TT 0 = iN cl.length := by
              rw [uI_ne (by omega), adF_0 (by omega)]
              exact h20
            have w5 : uI (adF TT (uI A2 44 2 (iN (q + 1))) (s + oE.length) (iN 0) (iN 0)) (TT + 4) cl.length (iN (2 * (s + oE.length + 1))) TT 2 = iN (P ||| 2 ^ (nx p - 97)) := by
              rw [uI_ne (by omega), adF_0 (by omega), uI_ne h44, k4.2.2 2 (by omega)]
              exact q5
            generalize uI (adF TT (uI A2 44 2 (iN (q + 1))) (s + oE.length) (iN 0) (iN 0)) (TT + 4) cl.length (iN (2 * (s + oE.length + 1))) = A4 at hA4 hC fA4 w0 w1 w1e w2 w3 w4 w5 ⊢
            cases hy : pCnd jn nx (pPc jn nx len 5) (len + 1) (q + 1) [] [] with
            | inl e =>
              rw [hy] at hC hgc
              obtain ⟨a', e3, bad⟩ := hC
              obtain ⟨y1, y2, y3, y4⟩ := hgc
              obtain ⟨z1, z2, ⟨K, z3, z4, z5⟩, z6⟩ := id bad
              obtain ⟨a5', e4, f4⟩ := bd_93 (D := d+17) (n := n) (b := b) (v := iN (nx p)) h0 h5 hX (bad.ne (len := len) (c := 0) (p := 0) y1 y2 (by omega)) z4 z5
              have e3' : Den (d+18) 37 0 [.ref 44, .int (iN 1), zmJ, zmJ, zmJ, zmJ] [] (zmMk n A4 b r) = _ := e3
              rw [e3']
              simp only [Option.bind_some, Option.toList_none, List.nil_append]
              rw [e4]
              exact ⟨_, rfl, f4.1.trans z1, ((fA1.trans k4.P).trans (fA4.trans z2)).trans f4.2.1⟩
            | inr e =>
              obtain ⟨q3', oC⟩ := e
              rw [hy] at hC hgc
              obtain ⟨A5, e3, ok5⟩ := hC
              obtain ⟨y1, y2, y3, y4⟩ := hgc
              obtain ⟨z1, z2, z3, z4⟩ := id ok5
              have e3' : Den (d+18) 37 0 [.ref 44, .int (iN 1), zmJ, zmJ, zmJ, zmJ] [] (zmMk n A4 b r) = _ := e3
              rw [e3']
              simp only [Option.bind_some, Option.toList_none, List.nil_append]
              rw [b36_93]
              show ClsR n TT len nx b r a s cl (match (if nx q3' = 41 then (.inr (q3' + 1, oC) : PR) else .inl (1, q3')) with
                | .inl e => .inl e
                | .inr (q2, oC) => .inr (q2, (nx p, oE, oC))) _
              rcases c_take (d := d+16) (n := n) (b := b) (c := 41) hH z1 y2 (by omega) (by omega) with ⟨u3, u4⟩ | ⟨u3, u4⟩
              · have u4' : Den (d+18) 46 0 [.ref 44, .int (iN 41)] [] (zmMk n A5 b r) = _ := u4
                have hq3 := nx_le hn (p := q3') (by omega)
                have hA6 := z1.step hX
                have h60 : uI A5 44 2 (iN (q3' + 1)) TT 0 = iN cl.length := by
                  rw [uI_ne h44, z4.2.2 0 (by omega)]
                  exact w0
                have eC := c_close (d := d+17) (n := n) (b := b) (r := r) hX h60 hA6.2.2.2.1 (by omega)
                rw [u4', if_pos u3]
                simp only [Option.bind_some, Option.toList_none, List.nil_append]
                rw [b36_99 h5 hX, eC]
                simp only [Option.bind_some, Option.toList_none, List.nil_append]
                rw [b36_106]
                have es : s + oE.length + 1 + oC.length + 1 = s + oE.length + oC.length + 2 := by omega
                have hA7 : PrS TT len nx (s + oE.length + oC.length + 2) (q3' + 1) (uI (adF TT (uI A5 44 2 (iN (q3' + 1))) (s + oE.length + 1 + oC.length) (iN 0) (iN 0)) TT 0 (iN (cl.length + 1))) := by
                  rw [← es]
                  exact (hA6.ad hX).p hX (by omega) (by omega) (fun _ => by omega)
                have fA7 : frP TT A5 (uI (adF TT (uI A5 44 2 (iN (q3' + 1))) (s + oE.length + 1 + oC.length) (iN 0) (iN 0)) TT 0 (iN (cl.length + 1))) := ((frQ.at hX (by omega)).P.trans (frP.ad hX)).trans (frP.p hX (by omega) (by omega))
                have x5 : ∀ k, k ≠ TT → k ≠ TT + 1 → k ≠ 44 → uI (adF TT (uI A5 44 2 (iN (q3' + 1))) (s + oE.length + 1 + oC.length) (iN 0) (iN 0)) TT 0 (iN (cl.length + 1)) k = A5 k := fun k m1 m2 m3 => by
                  rw [uI_ne m1]
                  unfold adF
                  rw [uI_ne m1, uI_ne m2, uI_ne m2, uI_ne m3]
                have x1 : ∀ j, j < 2 * (s + oE.length + 1 + oC.length) → uI (adF TT (uI A5 44 2 (iN (q3' + 1))) (s + oE.length + 1 + oC.length) (iN 0) (iN 0)) TT 0 (iN (cl.length + 1)) (TT + 1) j = A5 (TT + 1) j := fun j hj => by
                  rw [uI_ne (by omega), adF_1.2.2.2 j hj, uI_ne (by rcases tx_of hX with h | h | h | h | h | h <;> omega)]
                have x1e : uI (adF TT (uI A5 44 2 (iN (q3' + 1))) (s + oE.length + 1 + oC.length) (iN 0) (iN 0)) TT 0 (iN (cl.length + 1)) (TT + 1) (2 * (s + oE.length + 1 + oC.length)) = iN 0 := by
                  rw [uI_ne (by omega), adF_1.1]
                have x2 : uI (adF TT (uI A5 44 2 (iN (q3' + 1))) (s + oE.length + 1 + oC.length) (iN 0) (iN 0)) TT 0 (iN (cl.length + 1)) TT 2 = iN (P ||| 2 ^ (nx p - 97)) := by
                  rw [uI_nj (by omega), adF_0 (by omega), uI_ne h44, z4.2.2 2 (by omega)]
                  exact w5
                have x0 : uI (adF TT (uI A5 44 2 (iN (q3' + 1))) (s + oE.length + 1 + oC.length) (iN 0) (iN 0)) TT 0 (iN (cl.length + 1)) TT 0 = iN (cl.length + 1) := uI_self
                generalize uI (adF TT (uI A5 44 2 (iN (q3' + 1))) (s + oE.length + 1 + oC.length) (iN 0) (iN 0)) TT 0 (iN (cl.length + 1)) = A7 at hA7 fA7 x0 x1 x1e x2 x5 ⊢
                have r2 : ∀ j, A7 (TT + 2) j = if j = cl.length then iN (nx p) else a (TT + 2) j := fun j => by
                  rw [x5 _ (by omega) (by omega) (by rcases tx_of hX with h | h | h | h | h | h <;> omega), z4.1 _ (by rcases tx_of hX with h | h | h | h | h | h <;> omega) (by omega) (by omega), w2, q2]
                have r3 : ∀ j, A7 (TT + 3) j = if j = cl.length then iN (2 * s) else a (TT + 3) j := fun j => by
                  rw [x5 _ (by omega) (by omega) (by rcases tx_of hX with h | h | h | h | h | h <;> omega), z4.1 _ (by rcases tx_of hX with h | h | h | h | h | h <;> omega) (by omega) (by omega), w3, q3]
                have r4 : ∀ j, A7 (TT + 4) j = if j = cl.length then iN (2 * (s + oE.length + 1)) else a (TT + 4) j := fun j => by
                  rw [x5 _ (by omega) (by omega) (by rcases tx_of hX with h | h | h | h | h | h <;> omega), z4.1 _ (by rcases tx_of hX with h | h | h | h | h | h <;> omega) (by omega) (by omega), w4]
                have r5 : ∀ j, j < 2 * (s + oE.length + 1) → A7 (TT + 1) j = A4 (TT + 1) j := fun j hj => by
                  rw [x1 j (by omega), z3 j hj]
                have r6 : ∀ j, j < 2 * (s + oE.length) → A7 (TT + 1) j = A2 (TT + 1) j := fun j hj => by
                  rw [r5 j (by omega), w1 j hj]
                have r7 : ∀ j, j < 2 * s → A7 (TT + 1) j = a (TT + 1) j := fun j hj => by
                  rw [r6 j (by omega), k3 j hj, q1]
                have hl : (cl ++ [(nx p, oE, oC)]).length = cl.length + 1 := List.length_append
                refine ⟨A7, rfl, hA7, ⟨?_, ?_, ?_, ⟨P ||| 2 ^ (nx p - 97), prs_lt t4 c2, x2, fun c hcm => ?_⟩, fun i c hic => ?_⟩, ((fA1.trans k4.P).trans (fA4.trans z4.P)).trans fA7⟩
                · rw [hl]
                  exact x0
                · rw [hl]
                  omega
                · show s + oE.length + oC.length + 2 ≤ 240
                  omega
                · rw [Nat.testBit_or]
                  rcases List.mem_append.mp hcm with hm | hm
                  · rw [t6 c hm]
                    rfl
                  · rw [List.mem_singleton.mp hm, Nat.testBit_two_pow_self]
                    exact Bool.or_true _
                · show ∃ h k, TxQ A7 TT (s + oE.length + oC.length + 2) i c h k
                  by_cases hi : i < cl.length
                  · rw [List.getElem?_append_left hi] at hic
                    obtain ⟨hh, k, m1, m2, m3, m4, m5, m6, m7, m8, m9, m10, m11⟩ := t7 i c hic
                    refine ⟨hh, k, ?_, ?_, ?_, m4.ag (fun j _ hj => r7 j (by omega)), ?_, by omega, m7.ag (fun j _ hj => r7 j (by omega)), ?_, by omega, m10, m11⟩
                    · rw [r2, if_neg (by omega)]
                      exact m1
                    · rw [r3, if_neg (by omega)]
                      exact m2
                    · rw [r4, if_neg (by omega)]
                      exact m3
                    · rw [r7 _ (by omega)]
                      exact m5
                    · rw [r7 _ (by omega)]
                      exact m8
                  · rw [List.getElem?_append_right (by omega)] at hic
                    have hi2 : i = cl.length := by
                      cases hd : i - cl.length with
                      | zero => omega
                      | succ k =>
                        rw [hd] at hic
                        cases hic
                    subst hi2
                    rw [Nat.sub_self] at hic
                    cases hic
                    have gC : SegB 14 oC := y4
                    refine ⟨2 * s, 2 * (s + oE.length + 1), ?_, ?_, ?_, k2.ag (fun j _ hj => r6 j (by omega)), ?_, by show 2 * s + 2 * oE.length + 2 ≤ _; omega, z2.ag (fun j _ hj => x1 j (by omega)), ?_, by show 2 * (s + oE.length + 1) + 2 * oC.length + 2 ≤ _; omega, ⟨g4, gC⟩, c1, c2⟩
                    · rw [r2, if_pos rfl]
                    · rw [r3, if_pos rfl]
                    · rw [r4, if_pos rfl]
                    · show A7 (TT + 1) (2 * s + 2 * oE.length) = iN 0
                      rw [show 2 * s + 2 * oE.length = 2 * (s + oE.length) by omega, r5 _ (by omega), w1e]
                    · show A7 (TT + 1) (2 * (s + oE.length + 1) + 2 * oC.length) = iN 0
                      rw [show 2 * (s + oE.length + 1) + 2 * oC.length = 2 * (s + oE.length + 1 + oC.length) by omega, x1e]
              · have u4' : Den (d+18) 46 0 [.ref 44, .int (iN 41)] [] (zmMk n A5 b r) = _ := u4
                have bad : BadP TT (s + oE.length + 1 + oC.length) (1, q3') A5 (uI A5 44 3 (fltI 1 q3')) := BadP.fail hX (by omega) z1
                obtain ⟨v1', v2', ⟨K, v3', v4', v5'⟩, v6'⟩ := id bad
                obtain ⟨a7', e4, f4⟩ := bd_99 (D := d+17) (n := n) (b := b) (r := r) (v := iN (nx p)) h5 hX v4' v5'
                rw [u4', if_neg u3]
                simp only [Option.bind_some, Option.toList_none, List.nil_append]
                rw [e4]
                exact ⟨_, rfl, f4.1.trans v1', (((fA1.trans k4.P).trans (fA4.trans z4.P)).trans v2').trans f4.2.1⟩
          · have u2' : Den (d+18) 46 0 [.ref 44, .int (iN 40)] [] (zmMk n A2 b r) = _ := u2
            have bad : BadP TT (s + oE.length) (1, q) A2 (uI A2 44 3 (fltI 1 q)) := BadP.fail hX (by omega) k1
            obtain ⟨v1', v2', ⟨K, v3', v4', v5'⟩, v6'⟩ := id bad
            obtain ⟨a3', e4, f4⟩ := bd_81 (D := d+17) (n := n) (b := b) (v := iN (nx p)) h0 h5 hX (bad.ne (len := len) (c := 0) (p := 0) (Nat.le_refl 1) (by show 1 ≤ 5; omega) (by show q ≤ 240; omega)) v4' v5'
            rw [u2', if_pos (show nx q ≠ 40 from u1)]
            simp only [Option.bind_some, Option.toList_none, List.nil_append]
            rw [e4]
            exact ⟨_, rfl, f4.1.trans v1', ((fA1.trans k4.P).trans v2').trans f4.2.1⟩
      · rw [if_neg (lt_n h16 (by omega)), b36_46, c_fail a3 a2, if_pos (show cl.length = 16 by omega)]
        simp only [Option.bind_some, Option.toList_none, List.nil_append]
        rw [b36_51]
        exact ⟨_, rfl, uI_self, hf1 4⟩
    · rw [if_pos v2, h28, if_pos v1]
      exact ⟨_, rfl, uI_self, hf1 1⟩
  · rw [nxV_m hc, if_pos m1_neg, h28, nx_256 hH hc, if_pos hL256]
    exact ⟨_, rfl, uI_self, hf1 1⟩
