/-! ===== the reference's parser: a piece, a condition as a whole ===== -/
/-- what is closed: one less waits, one less is open, a byte further -/
theorem MSt.shut {len q c o s : Nat} {nx : Nat → Nat} {S : List Nat} {a : Nat → Nat → Int32} (h : MSt len nx q c (s :: S) o a) (v : Nat) (hv : v + 1 = o) : uI (uI (uI a 94 19 (a 94 19 - iN 1)) 94 17 (uI a 94 19 (a 94 19 - iN 1) 94 17 - iN 1)) 94 9 (uI (uI a 94 19 (a 94 19 - iN 1)) 94 17 (uI a 94 19 (a 94 19 - iN 1) 94 17 - iN 1) 94 9 + iN 1) = uI (uI (uI a 94 19 (iN S.length)) 94 17 (iN v)) 94 9 (iN (q + 1)) ∧ OkM len nx a (uI (uI (uI a 94 19 (iN S.length)) 94 17 (iN v)) 94 9 (iN (q + 1))) c (q + 1) S v [] := by
  obtain ⟨h1, h2, h3, h4, h5, h6, h7⟩ := h
  have hS : (s :: S).length = S.length + 1 := rfl
  refine ⟨?_, ⟨uI_self, ?_, ?_, ?_, ?_, ?_, fun j hj => ?_⟩, trivial, fun j _ => ?_, ((frN.p94 (by omega)).trans (frN.p94 (by omega))).trans (frN.p94 (by omega))⟩
  · rw [uI_nj (show (17 : Nat) ≠ 19 by omega), uI_nj (show (9 : Nat) ≠ 17 by omega), uI_nj (show (9 : Nat) ≠ 19 by omega), h4, h5, h1, hS, n_sub (by omega), n_sub (by omega), n_add, show S.length + 1 - 1 = S.length by omega, show o - 1 = v by omega]
  · rw [uI_nj (by omega), uI_nj (by omega), uI_nj (by omega)]; exact h2
  · rw [uI_nj (by omega), uI_nj (by omega), uI_nj (by omega)]; exact h3
  · rw [uI_nj (by omega), uI_nj (by omega), uI_self]
  · rw [uI_nj (by omega), uI_self]
  · rw [uI_ne (by omega), uI_ne (by omega), uI_ne (by omega)]; exact h6.2
  · rw [uI_ne (by omega), uI_ne (by omega), uI_ne (by omega)]; exact h7 j hj
  · rw [uI_ne (by omega), uI_ne (by omega), uI_ne (by omega)]
theorem stop_k {k : Nat} {S : List Nat} (hk : 10 ≤ k) : stopA true (mU k :: S) := fun s S' es q => by
  have es1 : mU k = s := (List.cons.inj es).1
  rw [← es1, mU_div] at q
  rcases q with q | ⟨-, q⟩ <;> omega
theorem bnd_k {k : Nat} {S : List Nat} (hk : k ≤ 14) (hb : ∀ s, s ∈ S → s < 100000000) : ∀ s, s ∈ mU k :: S → s < 100000000 := fun s hs => by
  rcases List.mem_cons.mp hs with h | h
  · rw [h]; unfold mU; omega
  · exact hb s h
set_option maxHeartbeats 2000000 in
theorem m_pc {d n len : Nat} {nx : Nat → Nat} {r : Nat → Nat → Option Nat} (hH : PrM len nx) (m : Nat) : m ≤ 5 → PcMM n (d+6) len nx r (pPc jm nx len m) (6 - m) := by
  have key : ∀ m, m ≤ 5 → (∀ m', m = m' + 1 → PcMM n (d+6) len nx r (pPc jm nx len m') (6 - m')) → PcMM n (d+6) len nx r (pPc jm nx len m) (6 - m) := by
    intro m hm hI p S c a b h hst hne hp hl hb hc
    have hlen := hH.1
    have e1 : ∀ e, Den e 167 0 [.ref 94] [] (zmMk n a b r) = some (some (.int (nxV (nx p))), (zmMk n a b r)) := fun e => m_lookS hH h hp
    have to58 : nx p = 33 ∨ nx p = 40 → Den (d+6) 185 40 [.ref 94] [] (zmMk n a b r) = Den (d+6) 185 75 [.ref 94] [.int (iN (if nx p = 33 then 10 else 13)),.ref 94] (zmMk n a b r) := fun hq => by
      have e58 : Den (d+6) 185 58 [.ref 94] [] (zmMk n a b r) = Den (d+6) 185 75 [.ref 94] [.int (iN (if nx p = 33 then 10 else 13)),.ref 94] (zmMk n a b r) := by
        rw [b185_58, e1]
        simp only [Option.bind_some, Option.toList_some, Option.toList_none, List.cons_append, List.nil_append, true_or, or_true, if_true, bI_if]
        rw [b185_63]
        by_cases h33 : nx p = 33
        · rw [if_pos (nxV_y h33 (by omega)), b185_68, if_pos h33]
        · rw [if_neg (nxV_n h33 (by omega)), b185_73, if_neg h33]
      rw [b185_40, e1]
      simp only [Option.bind_some, Option.toList_some, Option.toList_none, List.cons_append, List.nil_append, true_or, or_true, if_true, bI_if]
      rw [b185_44]
      by_cases h33 : nx p = 33
      · rw [if_pos (nxV_y h33 (by omega)), e58]
      · rw [if_neg (nxV_n h33 (by omega)), b185_49, e1]
        simp only [Option.bind_some, Option.toList_some, Option.toList_none, List.cons_append, List.nil_append, true_or, or_true, if_true, bI_if]
        rw [b185_53, if_pos (nxV_y (hq.resolve_left h33) (by omega)), e58]
    have to83 : ¬ nx p = 33 → ¬ nx p = 40 → Den (d+6) 185 40 [.ref 94] [] (zmMk n a b r) = Den (d+6) 185 83 [.ref 94] [] (zmMk n a b r) := fun h33 h40 => by
      rw [b185_40, e1]
      simp only [Option.bind_some, Option.toList_some, Option.toList_none, List.cons_append, List.nil_append, true_or, or_true, if_true, bI_if]
      rw [b185_44, if_neg (nxV_n h33 (by omega)), b185_49, e1]
      simp only [Option.bind_some, Option.toList_some, Option.toList_none, List.cons_append, List.nil_append, true_or, or_true, if_true, bI_if]
      rw [b185_53, if_neg (nxV_n h40 (by omega))]
    cases m with
    | zero =>
      show PceM n (d+6) len nx b r a c S 6 (if nx p = 33 ∨ nx p = 40 then .inl (5, p) else pCmp nx (pSum nx len 0) p) _
      by_cases hq : nx p = 33 ∨ nx p = 40
      · rw [to58 hq, b185_75, m_opens0 h.2.2.2.2.1 h.1, if_pos hq]
        simp only [Option.bind_some, Option.toList_some, Option.toList_none, List.cons_append, List.nil_append, true_or, or_true, if_true, bI_if]
        rw [b185_78, if_pos rfl, b185_81]
        exact ⟨_, rfl, BdM.w⟩
      · rw [to83 (fun h => hq (Or.inl h)) (fun h => hq (Or.inr h)), if_neg hq]
        exact m_cmp (m := 0) hH (by omega) h hst hp hl hb hc
    | succ m =>
      show PceM n (d+6) len nx b r a c S (6 - (m + 1)) (if nx p = 33 then pNot (pPc jm nx len m (p + 1)) else if nx p = 40 then pBrk nx 41 (pCnd jm nx (pPc jm nx len m) (len + 1) (p + 1) [] []) else pCmp nx (pSum nx len (m + 1)) p) _
      have eo : 6 - (m + 1) + 1 = 6 - m := by omega
      by_cases h33 : nx p = 33
      · have hp1 := nx_le hH.2.1 (p := p) (by omega)
        have ok1 := OkM_psh (z := mU 10) (o' := 6 - (m + 1) + 1) h
        rw [to58 (Or.inl h33), if_pos h33, b185_75, m_opens h.2.2.2.2.1 (by omega) h.1 h.2.2.2.1 (by omega), if_pos h33]
        simp only [Option.bind_some, Option.toList_some, Option.toList_none, List.cons_append, List.nil_append, true_or, or_true, if_true, bI_if]
        rw [b185_78, if_neg (eq_n (by omega) (by omega) (by omega))]
        rw [eo] at ok1 ⊢
        have hI1 := hI m rfl (p + 1) (mU 10 :: S) c _ b ok1.1 (stop_k (by omega)) (by simp) hp1 (by show S.length + 1 ≤ _; omega) (bnd_k (by omega) hb) (by omega)
        have hg := gd_pcM hH.2.1 m (p + 1) hp1
        cases hz : pPc jm nx len m (p + 1) with
        | inl e =>
          rw [hz] at hI1
          obtain ⟨a2, e2, bad⟩ := hI1
          exact ⟨a2, e2, ok1.bad bad⟩
        | inr e =>
          rw [hz] at hI1 hg
          obtain ⟨q, os⟩ := e
          obtain ⟨a2, κ, e, hk, e2, ok2⟩ := hI1
          obtain ⟨g1, g2, g3, g4⟩ := hg
          have hl1 : (mU 10 :: S).length = S.length + 1 := rfl
          have ok3 := ok1.trans ok2
          have ok4 := ok3.trans (OkM.note (k := 10) (v := 0) ok3.1 (by omega) (Or.inr rfl))
          have e3 : Den (e) 174 0 [.ref 94] [] (zmMk n a2 b r) = some (some (.int (iN 10)), zmMk n a2 b r) := by
            have := m_top2 (d := e) (b := b) (r := r) (n := n) ok2.1 (by omega) (by unfold mU; omega)
            rw [mU_div] at this
            exact this
          obtain ⟨m1, m2, m3, m4, m5, m6, m7⟩ := ok4.1
          have hS1 : iN (mU 10 :: S).length - iN 1 = iN S.length := by
            rw [hl1, n_sub (by omega)]
            congr 1
          refine ⟨uI (uI (uI (uI a2 100 (c + os.length) (iN (1048576 * 10 + 0))) 94 18 (iN (c + os.length + 1))) 94 19 (iN S.length)) 94 17 (iN (6 - (m + 1))), κ, e, hk, ?_, ⟨?_, ?_, ?_, ?_, ?_, ?_, fun j hj => ?_⟩, ?_, fun j hj => ?_, ok4.2.2.2.trans ((frN.p94 (by omega)).trans (frN.p94 (by omega)))⟩
          · rw [e2, b181_0, e3]
            simp only [Option.bind_some, Option.toList_some, Option.toList_none, List.cons_append, List.nil_append, true_or, or_true, if_true, bI_if]
            rw [b181_4, if_pos rfl, b181_9, m_notes ok2.1.2.2.1 (by omega) (show iN 1048576 * iN 10 + iN 0 = iN (1048576 * 10 + 0) by rw [n_mul, n_add])]
            simp only [Option.bind_some, Option.toList_none, List.nil_append]
            have e19 : uI (uI a2 100 (c + os.length) (iN (1048576 * 10 + 0))) 94 18 (iN (c + os.length + 1)) 94 19 - iN 1 = iN S.length := by
              rw [uI_nj (by omega), uI_ne (by omega), ok2.1.2.2.2.1]
              exact hS1
            have e17 : ∀ w, uI (uI (uI a2 100 (c + os.length) (iN (1048576 * 10 + 0))) 94 18 (iN (c + os.length + 1))) 94 19 w 94 17 - iN 1 = iN (6 - (m + 1)) := fun w => by
              rw [uI_nj (by omega), uI_nj (by omega), uI_ne (by omega), ok2.1.2.2.2.2.1, n_sub (by omega)]
              congr 1
            rw [b181_16, e19, e17]
          · rw [uI_nj (by omega), uI_nj (by omega)]; exact m1
          · rw [uI_nj (by omega), uI_nj (by omega)]; exact m2
          · rw [uI_nj (by omega), uI_nj (by omega)]; exact m3
          · rw [uI_nj (by omega), uI_self]
          · exact uI_self
          · rw [uI_ne (by omega), uI_ne (by omega)]; exact m6.2
          · rw [uI_ne (by omega), uI_ne (by omega)]; exact m7 j hj
          · rw [uI_ne (by omega), uI_ne (by omega)]; exact ok4.2.1
          · rw [uI_ne (by omega), uI_ne (by omega)]; exact ok4.2.2.1 j hj
      · rw [if_neg h33]
        by_cases h40 : nx p = 40
        · have hp1 := nx_le hH.2.1 (p := p) (by omega)
          have ok1 := OkM_psh (z := mU 13) (o' := 6 - (m + 1) + 1) h
          rw [to58 (Or.inr h40), if_neg h33, b185_75, m_opens h.2.2.2.2.1 (by omega) h.1 h.2.2.2.1 (by omega), if_pos h40]
          simp only [Option.bind_some, Option.toList_some, Option.toList_none, List.cons_append, List.nil_append, true_or, or_true, if_true, bI_if]
          rw [b185_78, if_neg (eq_n (by omega) (by omega) (by omega))]
          rw [eo] at ok1 ⊢
          have hC := m_cndL (d := d) (n := n) (r := r) hH (hI m rfl) (fun p hp => gd_pcM hH.2.1 m p hp) (len + 1) (p + 1) [] [] c S _ _ b (by omega) ok1.1 trivial trivial (fun _ _ => rfl) frN.refl hp1 (by show S.length + 1 ≤ _; omega) hb (by show c + 0 + 0 + (len - (p + 1)) ≤ 250; omega)
          have hC' : CndR n (d+6) len nx b r _ c S (6 - m) (pCnd jm nx (pPc jm nx len m) (len + 1) (p + 1) [] []) (Den (d+6) 185 40 [.ref 94] [] _) := hC
          cases hz : pCnd jm nx (pPc jm nx len m) (len + 1) (p + 1) [] [] with
          | inl e =>
            rw [hz] at hC'
            obtain ⟨a2, e2, bad⟩ := hC'
            exact ⟨a2, e2, ok1.bad bad⟩
          | inr e =>
            rw [hz] at hC'
            obtain ⟨q, os⟩ := e
            show PceM n (d+6) len nx b r a c S (6 - (m + 1)) (if nx q = 41 then .inr (q + 1, os) else .inl (1, q)) _
            rcases hC' with ⟨h41, a2, e2, ok2⟩ | ⟨h41, a2, e2, bad⟩
            · obtain ⟨s1, ok3⟩ := ok2.1.shut (6 - (m + 1)) (by omega)
              have hSl : S.length ≠ 0 := fun h => hne (List.length_eq_zero_iff.mp h)
              have ok4 := (ok1.trans ok2).trans ok3
              rw [List.nil_append, List.append_nil] at ok4
              rw [if_pos h41]
              refine ⟨_, fun q => Den (d+6) 185 149 [.ref 94] (q.1.toList ++ []) q.2, d + 4, fun a b => ?_, ?_, ok4⟩
              · simp only [Option.toList_none, List.nil_append]
                rw [b185_149]
              · rw [e2, b185_106, s1, if_neg (by
                  rw [uI_nj (by omega), uI_nj (by omega), uI_self]
                  exact eq_n hSl (by omega) (by omega)), b185_145]
            · rw [if_neg h41]
              exact ⟨a2, e2, ok1.bad bad⟩
        · rw [to83 h33 h40, if_neg h40]
          exact m_cmp (m := m + 1) hH (by omega) h hst hp hl hb hc
  induction m with
  | zero => exact fun hm => key 0 hm (fun m' h => by omega)
  | succ m ih => exact fun hm => key (m + 1) hm (fun m' h => by
      obtain rfl : m' = m := by omega
      exact ih (by omega))
/-- a condition with its brackets -/
theorem m_condition {d n len p c o0 : Nat} {nx : Nat → Nat} {r : Nat → Nat → Option Nat} {a : Nat → Nat → Int32} {b : Nat → Nat → Int64} {S0 : List Nat} (hH : PrM len nx) (h : MSt len nx p c S0 o0 a) (hp : p ≤ len) (hc : c + (len - p) ≤ 250) : ResM n len nx b r a c [] 0 (if nx p ≠ 40 then .inl (1, p) else pBrk nx 41 (pCnd jm nx (pPc jm nx len 5) (len + 1) (p + 1) [] [])) (Den (d+6) 185 0 [.ref 94] [] (zmMk n a b r)) := by
  have hlen := hH.1
  have e1 : ∀ e, Den e 167 0 [.ref 94] [] (zmMk n a b r) = some (some (.int (nxV (nx p))), (zmMk n a b r)) := fun e => m_lookS hH h hp
  rw [b185_0, e1]
  simp only [Option.bind_some, Option.toList_some, Option.toList_none, List.cons_append, List.nil_append, true_or, or_true, if_true, bI_if]
  rw [b185_4]
  by_cases h40 : nx p = 40
  · have hp1 := nx_le hH.2.1 (p := p) (by omega)
    have h0 : MSt len nx p c [] 0 (uI (uI a 94 17 (iN 0)) 94 19 (iN 0)) := by
      obtain ⟨h1, h2, h3, h4, h5, h6, h7⟩ := h
      refine ⟨?_, ?_, ?_, uI_self, ?_, trivial, fun j hj => ?_⟩
      · rw [uI_nj (by omega), uI_nj (by omega)]; exact h1
      · rw [uI_nj (by omega), uI_nj (by omega)]; exact h2
      · rw [uI_nj (by omega), uI_nj (by omega)]; exact h3
      · rw [uI_nj (by omega), uI_self]
      · rw [uI_ne (by omega), uI_ne (by omega)]; exact h7 j hj
    have ok0 : OkM len nx a (uI (uI a 94 17 (iN 0)) 94 19 (iN 0)) c p [] 0 [] := ⟨h0, trivial, fun j _ => by rw [uI_ne (by omega), uI_ne (by omega)], (frN.p94 (by omega)).trans (frN.p94 (by omega))⟩
    have ok1 := ok0.trans (OkM_psh (z := mU 13) (o' := 0 + 1) h0)
    have hC := m_cndL (d := d) (n := n) (r := r) hH (m_pc hH 5 (by omega)) (fun p hp => gd_pcM hH.2.1 5 p hp) (len + 1) (p + 1) [] [] c [] _ _ b (by omega) ok1.1 trivial trivial (fun _ _ => rfl) frN.refl hp1 (by show 0 + 1 ≤ _; omega) (fun s hs => by cases hs) (by show c + 0 + 0 + (len - (p + 1)) ≤ 250; omega)
    have hC' : CndR n (d+6) len nx b r _ c [] 1 (pCnd jm nx (pPc jm nx len 5) (len + 1) (p + 1) [] []) (Den (d+6) 185 40 [.ref 94] [] _) := hC
    rw [if_pos (nxV_y h40 (by omega)), b185_19, m_opens (o := 0) (l := 0) h0.2.2.2.2.1 (by omega) h0.1 h0.2.2.2.1 (by omega), if_neg (show ¬ nx p ≠ 40 from fun q => q h40)]
    simp only [Option.bind_some, Option.toList_some, Option.toList_none, List.cons_append, List.nil_append, true_or, or_true, if_true, bI_if]
    rw [b185_35, if_neg (eq_n (by omega) (by omega) (by omega))]
    cases hz : pCnd jm nx (pPc jm nx len 5) (len + 1) (p + 1) [] [] with
    | inl e =>
      rw [hz] at hC'
      obtain ⟨a2, e2, bad⟩ := hC'
      exact ⟨a2, e2, ok1.bad bad⟩
    | inr e =>
      rw [hz] at hC'
      obtain ⟨q, os⟩ := e
      show ResM n len nx b r a c [] 0 (if nx q = 41 then .inr (q + 1, os) else .inl (1, q)) _
      rcases hC' with ⟨h41, a2, e2, ok2⟩ | ⟨h41, a2, e2, bad⟩
      · obtain ⟨s1, ok3⟩ := ok2.1.shut 0 (by omega)
        have ok4 := (ok1.trans ok2).trans ok3
        rw [List.append_nil] at ok4
        rw [if_pos h41]
        refine ⟨_, ?_, ok4⟩
        have e2' : Den (d+6) 185 40 [.ref 94] [] (zmMk n (psh (uI (uI a 94 17 (iN 0)) 94 19 (iN 0)) 0 (mU 13) (p + 1) (0 + 1)) b r) = _ := e2
        rw [e2', b185_106, s1, if_pos (by
          rw [uI_nj (by omega), uI_nj (by omega), uI_self]
          rfl), b185_143]
      · rw [if_neg h41]
        exact ⟨a2, e2, ok1.bad bad⟩
  · rw [if_neg (nxV_n h40 (by omega)), b185_9, h.1, m_wrong, if_pos (show nx p ≠ 40 from h40)]
    simp only [Option.bind_some, Option.toList_some, Option.toList_none, List.cons_append, List.nil_append, true_or, or_true, if_true, bI_if]
    rw [b185_18, if_pos (Or.inl rfl)]
    exact ⟨_, rfl, BdM.w⟩
