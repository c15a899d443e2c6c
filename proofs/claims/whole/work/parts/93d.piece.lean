/-! ===== the class's parser: condition, piece ===== -/
theorem PrS.only {TT len s p : Nat} {nx : Nat → Nat} {a a' : Nat → Nat → Int32} (hX : isTx TT) (h : PrS TT len nx s p a) (F : ∀ k, k ≠ TT + 1 → a' k = a k) : PrS TT len nx s p a' := by
  obtain ⟨a1, a2, a3, a4, a5, a6⟩ := h
  have h44 : a' 44 = a 44 := F 44 (by rcases tx_of hX with h | h | h | h | h | h <;> omega)
  refine ⟨by rw [h44]; exact a1, by rw [h44]; exact a2, by rw [h44]; exact a3, by rw [F TT (by omega)]; exact a4, fun j hj => ?_, a6.ag (fun k hk => F k (by rcases tx_of hX with h | h | h | h | h | h <;> omega))⟩
  rw [F 15 (by rcases tx_of hX with h | h | h | h | h | h <;> omega)]
  exact a5 j hj
theorem frQ.only {TT : Nat} {a a' : Nat → Nat → Int32} (hX : isTx TT) (F : ∀ k, k ≠ TT + 1 → a' k = a k) : frQ TT a a' := ⟨fun k _ _ h => F k h, by rw [F 44 (by rcases tx_of hX with h | h | h | h | h | h <;> omega)], fun j _ => by rw [F TT (by omega)]⟩
def PcP (n TT len : Nat) (nx : Nat → Nat) (r : Nat → Nat → Option Nat) (pc : Nat → PR) (g D : Nat) : Prop := ∀ (s p : Nat) (a : Nat → Nat → Int32) (b : Nat → Nat → Int64), PrS TT len nx s p a → p ≤ len → s + (len - p) ≤ 239 → ResP n TT len nx b r a s (pc p) (Den (D) 39 0 [.ref 44, .int (iN g), zmJ] [] (zmMk n a b r))
set_option maxHeartbeats 1000000 in
theorem c_cndL {D n TT len g c : Nat} {nx : Nat → Nat} {r : Nat → Nat → Option Nat} {pc : Nat → PR} (hH : PrH r TT len nx) (hP : PcP n TT len nx r pc g (D+1)) (hG : ∀ p, p ≤ len → gdB len c p (pc p)) (f : Nat) : ∀ (i p : Nat) (RQ RP : List Ops) (v2 v3 : Int32) (u5 : Value) (s0 : Nat) (a0 a : Nat → Nat → Int32) (b : Nat → Nat → Int64), i + f = len + 1 → p ≤ len → len < p + f → PrS TT len nx (s0 + lenS RQ + lenS RP) p a → (∀ j, j < 2 * s0 → a (TT + 1) j = a0 (TT + 1) j) → frQ TT a0 a → HR (a (TT + 1)) 12 (2 * s0) RQ v2 → HR (a (TT + 1)) 11 (2 * s0 + 2 * lenS RQ) RP v3 → s0 + lenS RQ + lenS RP + (len - p) ≤ 239 → ResP n TT len nx b r a0 s0 (pCnd jn nx pc f p RQ.reverse RP.reverse) (Den (D+2) 37 7 [.ref 44,.int (iN g),.int v2,.int v3,.int (iN i),u5] [] (zmMk n a b r)) := by
  obtain ⟨h0, h5, hX, hl240, hn, hb⟩ := id hH
  induction f with
  | zero =>
    intro i p RQ RP v2 v3 u5 s0 a0 a b hi hp hpf
    exact absurd hpf (by omega)
  | succ f ih =>
    intro i p RQ RP v2 v3 u5 s0 a0 a b hi hp hpf h hsame hfr hQ hR hs
    obtain ⟨a1, a2, a3, a4, a5, a6⟩ := id h
    have hP1 := hP (s0 + lenS RQ + lenS RP) p a b h hp hs
    have hg := hG p hp
    rw [b37_7, a1, if_neg (lt_n (by omega) (by omega)), b37_16, a3, if_pos rfl, b37_23]
    show ResP n TT len nx b r a0 s0 (match pc p with
      | .inl e => .inl e
      | .inr (q, o) => if nx q = 38 then pCnd jn nx pc f (q + 1) RQ.reverse (RP.reverse ++ [o]) else if nx q = 124 then pCnd jn nx pc f (q + 1) (RQ.reverse ++ [jn 11 (RP.reverse ++ [o])]) [] else .inr (q, jn 12 (RQ.reverse ++ [jn 11 (RP.reverse ++ [o])]))) _
    cases hz : pc p with
    | inl e =>
      rw [hz] at hP1 hg
      obtain ⟨a', e', bad⟩ := hP1
      obtain ⟨g1, g2, g3, g4⟩ := hg
      obtain ⟨k1, k2, ⟨K, k3, k4, k5⟩, k6⟩ := id bad
      have hne := bad.ne (len := len) (c := 0) (p := 0) g1 g2 (by omega)
      obtain ⟨a2', e2, f2⟩ := bd_cnd (D := D) (n := n) (a := a') (b := b) (v1 := iN g) (v4 := iN i) (u5 := u5) (s0 := s0) h0 h5 hX hne k4 k5 (by omega) (hQ.ag (fun j _ hj => k6 j (by omega))) (hR.ag (fun j _ hj => k6 j (by omega)))
      rw [e']
      simp only [Option.bind_some, Option.toList_none, List.nil_append]
      rw [e2]
      exact ⟨_, rfl, BadP.next ⟨k1, hfr.P.trans k2, ⟨K, by omega, k4, k5⟩, fun j hj => (k6 j (by omega)).trans (hsame j hj)⟩ (Nat.le_refl _) f2⟩
    | inr e =>
      obtain ⟨q, o⟩ := e
      rw [hz] at hP1 hg
      obtain ⟨a', e', ok⟩ := hP1
      obtain ⟨g1, g2, g3, g4⟩ := hg
      obtain ⟨k1, k2, k3, k4⟩ := id ok
      have e1 : Den (D+1) 45 0 [.ref 44] [] (zmMk n a' b r) = _ := c_next hH k1 g2
      have hQ' : HR (a' (TT + 1)) 12 (2 * s0) RQ v2 := hQ.ag (fun j _ hj => k3 j (by omega))
      have hR' : HR (a' (TT + 1)) 11 (2 * s0 + 2 * lenS RQ) RP v3 := hR.ag (fun j _ hj => k3 j (by omega))
      rw [e']
      simp only [Option.bind_some, Option.toList_none, List.nil_append]
      rw [b37_28, e1]
      simp only [Option.bind_some, Option.toList_some, Option.toList_none, List.cons_append, List.nil_append, true_or, or_true, if_true, bI_if]
      rw [b37_32]
      by_cases h38 : nx q = 38
      · have hq1 := nx_le hn (p := q) (by omega)
        have eL := c_leap (d := D) (n := n) (b := b) (r := r) (x := nxV (nx q)) (y := v3) hH k1 (by omega)
        have hT : ∀ j, uI (adF TT a' (s0 + lenS RQ + lenS RP + o.length) (nxV (nx q)) v3) 44 2 (iN (q + 1)) (TT + 1) j = adF TT a' (s0 + lenS RQ + lenS RP + o.length) (nxV (nx q)) v3 (TT + 1) j := fun j => by rw [uI_ne (by rcases tx_of hX with h | h | h | h | h | h <;> omega)]
        rw [if_pos (nxV_y h38 (by omega)), b37_41, eL]
        simp only [Option.bind_some, Option.toList_some, Option.toList_none, List.cons_append, List.nil_append, true_or, or_true, if_true, bI_if]
        rw [b37_48, b37_80, n_add, if_pos h38, ← List.reverse_cons]
        refine ih (i + 1) (q + 1) RQ (o :: RP) v2 _ _ s0 a0 _ b (by omega) hq1 (by omega) ?_ (fun j hj => ?_) ?_ ?_ ⟨?_, ?_, ?_, ?_⟩ ?_
        · rw [lenS_cons, show s0 + lenS RQ + (o.length + 1 + lenS RP) = s0 + lenS RQ + lenS RP + o.length + 1 by omega]
          exact (k1.ad hX).step hX
        · rw [hT, adF_1.2.2.2 j (by omega), k3 j (by omega)]
          exact hsame j hj
        · exact (hfr.trans k4).trans ((frQ.ad hX).trans (frQ.at hX (by omega)))
        · exact hQ'.ag (fun j _ hj => by rw [hT, adF_1.2.2.2 j (by omega)])
        · rw [show 2 * s0 + 2 * lenS RQ + 2 * lenS RP = 2 * (s0 + lenS RQ + lenS RP) by omega]
          exact k2.ag (fun j _ hj => by rw [hT, adF_1.2.2.2 j (by omega)])
        · rw [hT, show 2 * s0 + 2 * lenS RQ + 2 * lenS RP + 2 * o.length = 2 * (s0 + lenS RQ + lenS RP + o.length) by omega, adF_1.1, nxV_y h38 (by omega)]
          rfl
        · congr 1
          omega
        · rw [hT, show 2 * s0 + 2 * lenS RQ + 2 * lenS RP + 2 * o.length + 1 = 2 * (s0 + lenS RQ + lenS RP + o.length) + 1 by omega, adF_1.2.1]
          exact hR'.ag (fun j _ hj => by rw [hT, adF_1.2.2.2 j (by omega)])
        · rw [lenS_cons]
          omega
      · obtain ⟨a2', e2, F2, hd2, hs2⟩ := c_lh (d := D+1) (n := n) (b := b) (r := r) (z := 2 * (s0 + lenS RQ + lenS RP + o.length)) hX (by omega) hR' k1.2.2.2.1 (by omega)
        have hO : LayC (a2' (TT + 1)) (2 * s0 + 2 * lenS RQ + 2 * lenS RP) (jn 11 [o]) := by
          rw [show 2 * s0 + 2 * lenS RQ + 2 * lenS RP = 2 * (s0 + lenS RQ + lenS RP) by omega]
          exact k2.ag (fun j hj _ => hs2 j (Or.inr (by omega)))
        obtain ⟨hJ, hJl⟩ := HD_jn (Or.inl rfl) (T := [o]) (by simp) hd2 hO (by show _ = _ + 2 * o.length; omega)
        have hJl' : (jn 11 (RP.reverse ++ [o])).length = lenS RP + o.length := hJl
        have h2 := k1.only hX F2
        have f2 := frQ.only hX F2
        have hQ2 : HR (a2' (TT + 1)) 12 (2 * s0) RQ v2 := hQ'.ag (fun j _ hj => hs2 j (Or.inl (by omega)))
        have hpre : ∀ j, j < 2 * s0 → a2' (TT + 1) j = a0 (TT + 1) j := fun j hj => by rw [hs2 j (Or.inl (by omega)), k3 j (by omega)]; exact hsame j hj
        rw [if_neg (nxV_n h38 (by omega)), b37_52 h5 hX, e2]
        simp only [Option.bind_some, Option.toList_none, List.nil_append]
        rw [b37_60, if_neg h38]
        by_cases h124 : nx q = 124
        · have hq1 := nx_le hn (p := q) (by omega)
          have eL := c_leap (d := D) (n := n) (b := b) (r := r) (x := nxV (nx q)) (y := v2) hH h2 (by omega)
          have hT : ∀ j, uI (adF TT a2' (s0 + lenS RQ + lenS RP + o.length) (nxV (nx q)) v2) 44 2 (iN (q + 1)) (TT + 1) j = adF TT a2' (s0 + lenS RQ + lenS RP + o.length) (nxV (nx q)) v2 (TT + 1) j := fun j => by rw [uI_ne (by rcases tx_of hX with h | h | h | h | h | h <;> omega)]
          rw [if_pos (nxV_y h124 (by omega)), b37_72, eL]
          simp only [Option.bind_some, Option.toList_some, Option.toList_none, List.cons_append, List.nil_append, true_or, or_true, if_true, bI_if]
          rw [b37_79, b37_80, n_add, if_pos h124, ← List.reverse_cons]
          refine ih (i + 1) (q + 1) (jn 11 (RP.reverse ++ [o]) :: RQ) [] _ (-1) _ s0 a0 _ b (by omega) hq1 (by omega) ?_ (fun j hj => ?_) ?_ ⟨?_, ?_, ?_, ?_⟩ rfl ?_
          · rw [lenS_cons, lenS_nil, hJl', show s0 + (lenS RP + o.length + 1 + lenS RQ) + 0 = s0 + lenS RQ + lenS RP + o.length + 1 by omega]
            exact (h2.ad hX).step hX
          · rw [hT, adF_1.2.2.2 j (by omega)]
            exact hpre j hj
          · exact (hfr.trans k4).trans (f2.trans ((frQ.ad hX).trans (frQ.at hX (by omega))))
          · exact hJ.ag (fun j _ hj => by rw [hT, adF_1.2.2.2 j (by omega)])
          · rw [hT, show 2 * s0 + 2 * lenS RQ + 2 * (jn 11 (RP.reverse ++ [o])).length = 2 * (s0 + lenS RQ + lenS RP + o.length) by omega, adF_1.1, nxV_y h124 (by omega)]
            rfl
          · congr 1
            omega
          · rw [hT, show 2 * s0 + 2 * lenS RQ + 2 * (jn 11 (RP.reverse ++ [o])).length + 1 = 2 * (s0 + lenS RQ + lenS RP + o.length) + 1 by omega, adF_1.2.1]
            exact hQ2.ag (fun j _ hj => by rw [hT, adF_1.2.2.2 j (by omega)])
          · rw [lenS_cons, lenS_nil, hJl']
            omega
        · obtain ⟨a3', e3, F3, hd3, hs3⟩ := c_86 (D := D+1) (n := n) (b := b) (v1 := iN g) (v3 := -1) (v4 := iN i) (u5 := .int (nxV (nx q))) h5 hX (show 2 * (s0 + lenS RQ + lenS RP + o.length) ≤ 480 by omega) hQ2 h2.2.2.2.1 (by omega)
          have hO3 : LayC (a3' (TT + 1)) (2 * s0 + 2 * lenS RQ) (jn 12 [jn 11 (RP.reverse ++ [o])]) := hJ.ag (fun j hj _ => hs3 j (Or.inr hj))
          obtain ⟨hJ3, hJl3⟩ := HD_jn (Or.inr rfl) (T := [jn 11 (RP.reverse ++ [o])]) (by simp) hd3 hO3 (by show _ = _ + 2 * (jn 11 (RP.reverse ++ [o])).length; omega)
          have hJl3' : (jn 12 (RQ.reverse ++ [jn 11 (RP.reverse ++ [o])])).length = lenS RQ + (jn 11 (RP.reverse ++ [o])).length := hJl3
          rw [if_neg (nxV_n h124 (by omega)), b37_69, e3, if_neg h124]
          refine ⟨a3', rfl, ?_, hJ3, fun j hj => ?_, (hfr.trans k4).trans (f2.trans (frQ.only hX F3))⟩
          · rw [hJl3', hJl', show s0 + (lenS RQ + (lenS RP + o.length)) = s0 + lenS RQ + lenS RP + o.length by omega]
            exact h2.only hX F3
          · rw [hs3 j (Or.inl hj)]
            exact hpre j hj
theorem c_cnd {D n TT len g c : Nat} {nx : Nat → Nat} {r : Nat → Nat → Option Nat} {pc : Nat → PR} (hH : PrH r TT len nx) (hP : PcP n TT len nx r pc g (D+1)) (hG : ∀ p, p ≤ len → gdB len c p (pc p)) {s p : Nat} {a : Nat → Nat → Int32} {b : Nat → Nat → Int64} (h : PrS TT len nx s p a) (hp : p ≤ len) (hs : s + (len - p) ≤ 239) : ResP n TT len nx b r a s (pCnd jn nx pc (len + 1) p [] []) (Den (D+2) 37 0 [.ref 44, .int (iN g), zmJ, zmJ, zmJ, zmJ] [] (zmMk n a b r)) := by
  rw [b37_0]
  exact c_cndL hH hP hG (len + 1) 0 p [] [] (-1) (-1) zmJ s a a b (by omega) hp (by omega) h (fun _ _ => rfl) frQ.refl rfl rfl (by show s + 0 + 0 + (len - p) ≤ 239; omega)
theorem bd_cmp {D TT K : Nat} {n : Nat} {a : Nat → Nat → Int32} {b : Nat → Nat → Int64} {r : Nat → Nat → Option Nat} {v1 v2 : Int32} (h0 : r 44 0 = some 15) (h5 : r 44 5 = some TT) (hX : isTx TT) (h3 : a 44 3 ≠ iN 0) (hK : K ≤ 480) (h1 : a TT 1 = iN K) : ∃ a', Den (D+1) 39 97 [.ref 44,.int v1,.int v2] [] (zmMk n a b r) = some (none, zmMk n a' b r) ∧ BadF TT K a a' := by
  have key : ∀ w : Int32, ∃ a', Den (D+1) 39 126 [.ref 44,.int v1,.int w] [] (zmMk n a b r) = some (none, zmMk n a' b r) ∧ BadF TT K a a' := by
    intro w
    have f1 := BadF.at (v := a 44 2 + iN 1) hX hK h1
    obtain ⟨k0, k1, ⟨K1, k2, k3, k4⟩, k5⟩ := id f1
    obtain ⟨a1, e1, f2⟩ := bd_add (d := D) (n := n) (b := b) (r := r) (x := w) (y := iN 0) hX k3 k4
    rw [b39_126, bd_expr (by rw [k0]; exact h3)]
    simp only [Option.bind_some, Option.toList_none, List.nil_append]
    rw [b39_141 h5 hX, e1]
    simp only [Option.bind_some, Option.toList_none, List.nil_append]
    rw [b39_150]
    exact ⟨_, rfl, f1.trans k2 f2⟩
  obtain ⟨w, e⟩ := bd_next (d := D) (n := n) (a := a) (b := b) h0
  rw [b39_97, e]
  simp only [Option.bind_some, Option.toList_some, Option.toList_none, List.cons_append, List.nil_append, true_or, or_true, if_true, bI_if]
  rw [b39_101]
  split
  · exact key w
  · rw [b39_108]
    split
    · exact key w
    · rw [b39_114]
      split
      · exact key w
      · rw [b39_120, bd_fail h3]
        simp only [Option.bind_some, Option.toList_none, List.nil_append]
        rw [b39_125]
        exact ⟨_, rfl, BadF.refl hK h1⟩
set_option maxHeartbeats 1000000 in
theorem c_cmp {D n TT len m : Nat} {nx : Nat → Nat} {r : Nat → Nat → Option Nat} {v2 : Int32} (hH : PrH r TT len nx) (hE : ExpC n TT len nx r m (D+1)) {s p : Nat} {a : Nat → Nat → Int32} {b : Nat → Nat → Int64} (h : PrS TT len nx s p a) (hp : p ≤ len) (hs : s + (len - p) ≤ 239) : ResP n TT len nx b r a s (pCmp nx (pSum nx len m) p) (Den (D+2) 39 92 [.ref 44,.int (iN (6 - m)),.int v2] [] (zmMk n a b r)) := by
  obtain ⟨h0, h5, hX, hl240, hn, hb⟩ := id hH
  have hS := hE s p a b h hp hs
  have hg := gd_sum hn m p hp
  unfold pCmp
  rw [b39_92]
  cases hz : pSum nx len m p with
  | inl e =>
    rw [hz] at hS hg
    obtain ⟨a', e', bad⟩ := hS
    obtain ⟨g1, g2, g3, g4⟩ := hg
    obtain ⟨k1, k2, ⟨K, k3, k4, k5⟩, k6⟩ := id bad
    obtain ⟨a2, e2, f2⟩ := bd_cmp (D := D+1) (n := n) (b := b) (v1 := iN (6 - m)) (v2 := v2) h0 h5 hX (bad.ne (len := len) (c := 0) (p := 0) g1 g2 (by omega)) k4 k5
    rw [e']
    simp only [Option.bind_some, Option.toList_none, List.nil_append]
    rw [e2]
    exact ⟨_, rfl, bad.next k3 f2⟩
  | inr e =>
    obtain ⟨q, o1⟩ := e
    rw [hz] at hS hg
    obtain ⟨a', e', ok⟩ := hS
    obtain ⟨g1, g2, g3, g4⟩ := hg
    have e1 : Den (D+1) 45 0 [.ref 44] [] (zmMk n a' b r) = _ := c_next hH ok.1 g2
    rw [e']
    simp only [Option.bind_some, Option.toList_none, List.nil_append]
    rw [b39_97, e1]
    simp only [Option.bind_some, Option.toList_some, Option.toList_none, List.cons_append, List.nil_append, true_or, or_true, if_true, bI_if]
    by_cases hc : cmO (nx q) = 0
    · have h60 : ¬ nx q = 60 := fun h => by rw [h] at hc; revert hc; decide
      have h62 : ¬ nx q = 62 := fun h => by rw [h] at hc; revert hc; decide
      have h61 : ¬ nx q = 61 := fun h => by rw [h] at hc; revert hc; decide
      rw [b39_101, if_neg (nxV_n h60 (by omega)), b39_108, if_neg (nxV_n h62 (by omega)), b39_114, if_neg (nxV_n h61 (by omega)), b39_120, c_fail ok.1.2.2.1 ok.1.2.1, if_pos hc]
      simp only [Option.bind_some, Option.toList_none, List.nil_append]
      rw [b39_125]
      exact ⟨_, rfl, ok.bad (BadP.fail hX (by omega) ok.1)⟩
    · obtain ⟨r1, r2, r3⟩ := cmO_r hc
      have hq1 := nx_le hn (p := q) (by omega)
      have hto : Den (D+2) 39 101 [.ref 44,.int (iN (6 - m)),.int v2] [.int (nxV (nx q))] (zmMk n a' b r) = Den (D+2) 39 126 [.ref 44,.int (iN (6 - m)),.int (nxV (nx q))] [] (zmMk n a' b r) := by
        rw [b39_101]
        by_cases h60 : nx q = 60
        · rw [if_pos (nxV_y h60 (by omega))]
        · rw [if_neg (nxV_n h60 (by omega)), b39_108]
          by_cases h62 : nx q = 62
          · rw [if_pos (nxV_y h62 (by omega))]
          · have h61 : nx q = 61 := by
              unfold cmO at hc
              rw [if_neg h60, if_neg h62] at hc
              by_cases h : nx q = 61
              · exact h
              · rw [if_neg h] at hc
                exact absurd rfl hc
            rw [if_neg (nxV_n h62 (by omega)), b39_114, if_pos (nxV_y h61 (by omega))]
      have ok1 := ok.trans (OkP.step hX ok.1)
      rw [List.append_nil] at ok1
      have hS2 := hE (s + o1.length) (q + 1) (uI a' 44 2 (iN (q + 1))) b (ok.1.step hX) hq1 (by omega)
      have hg2 := gd_sum hn m (q + 1) hq1
      rw [hto, b39_126, ok.1.at2, if_neg hc]
      cases hy : pSum nx len m (q + 1) with
      | inl e =>
        rw [hy] at hS2 hg2
        obtain ⟨a2, e2, bad⟩ := hS2
        have bad1 := ok1.bad bad
        obtain ⟨k1, k2, ⟨K, k3, k4, k5⟩, k6⟩ := id bad1
        obtain ⟨a3, e3, f3⟩ := bd_add (d := D+1) (n := n) (b := b) (r := r) (x := nxV (nx q)) (y := iN 0) hX k4 k5
        rw [e2]
        simp only [Option.bind_some, Option.toList_none, List.nil_append]
        rw [b39_141 h5 hX, e3]
        simp only [Option.bind_some, Option.toList_none, List.nil_append]
        rw [b39_150]
        exact ⟨_, rfl, bad1.next k3 f3⟩
      | inr e =>
        obtain ⟨q2, o2⟩ := e
        rw [hy] at hS2 hg2
        obtain ⟨a2, e2, ok2⟩ := hS2
        obtain ⟨t1, t2, t3, t4⟩ := hg2
        have ok3 := ok1.trans ok2
        have hlen : (o1 ++ o2).length = o1.length + o2.length := List.length_append
        have ok4 := ok3.trans (OkP.ad (o := cmO (nx q)) (v := 0) (x := nxV (nx q)) (y := iN 0) hX ok3.1 (by rw [cc_cm hc, nxV_of r3]) (fun _ => rfl) (by omega))
        rw [List.append_assoc] at ok4
        rw [e2]
        simp only [Option.bind_some, Option.toList_none, List.nil_append]
        rw [b39_141 h5 hX, c_add hX ok3.1.2.2.2.1 (by omega)]
        simp only [Option.bind_some, Option.toList_none, List.nil_append]
        rw [b39_150]
        exact ⟨_, rfl, ok4⟩
def brkG (len s : Nat) (z : PR) : Prop := match z with
  | .inl e => 1 ≤ e.1 ∧ e.1 ≤ 5 ∧ e.2 ≤ len
  | .inr (q, os) => q ≤ len ∧ s + os.length ≤ 240
/-- what must stand behind -/
theorem c_brk {D n TT len s k : Nat} {nx : Nat → Nat} {r : Nat → Nat → Option Nat} {a : Nat → Nat → Int32} {b : Nat → Nat → Int64} {z : PR} {X : Option (Option Value × zmH)} {f : Option Value × zmH → Option (Option Value × zmH)} (hH : PrH r TT len nx) (hk : k < 256) (hz : ResP n TT len nx b r a s z X) (hg : brkG len s z) (hf : ∀ a' a2, Den (D+2) 46 0 [.ref 44, .int (iN k)] [] (zmMk n a' b r) = some (none, zmMk n a2 b r) → f (none, zmMk n a' b r) = some (none, zmMk n a2 b r)) : ResP n TT len nx b r a s (pBrk nx k z) (X.bind f) := by
  obtain ⟨h0, h5, hX, hl240, hn, hb⟩ := id hH
  cases z with
  | inl e =>
    obtain ⟨a', e', bad⟩ := hz
    obtain ⟨g1, g2, g4⟩ := hg
    obtain ⟨-, -, ⟨K, k1, k2, k3⟩, -⟩ := id bad
    obtain ⟨a2, e2, f2⟩ := bd_take (d := D+1) (n := n) (b := b) (v := iN k) h0 hX (bad.ne (len := len) (c := 0) (p := 0) g1 g2 (by omega)) k2 k3
    exact ⟨a2, by rw [e']; exact hf a' a2 e2, bad.next k1 f2⟩
  | inr e =>
    obtain ⟨q, os⟩ := e
    obtain ⟨a', e', ok⟩ := hz
    obtain ⟨g1, g2⟩ := hg
    show ResP n TT len nx b r a s (if nx q = k then .inr (q + 1, os) else .inl (1, q)) _
    rcases c_take (d := D) (n := n) (b := b) (c := k) hH ok.1 g1 g2 hk with ⟨t1, t2⟩ | ⟨t1, t2⟩
    · rw [if_pos t1]
      have ok3 := ok.trans (OkP.step hX ok.1)
      rw [List.append_nil] at ok3
      exact ⟨_, by rw [e']; exact hf _ _ t2, ok3⟩
    · rw [if_neg t1]
      exact ⟨_, by rw [e']; exact hf _ _ t2, ok.bad (BadP.fail hX g2 ok.1)⟩
set_option maxHeartbeats 1000000 in
theorem c_pc {n TT len : Nat} {nx : Nat → Nat} {r : Nat → Nat → Option Nat} (hH : PrH r TT len nx) (m : Nat) : ∀ d, m ≤ 5 → PcP n TT len nx r (pPc jn nx len m) (6 - m) (d + 7 + 2 * m) := by
  obtain ⟨h0, h5, hX, hl240, hn, hb⟩ := id hH
  induction m with
  | zero =>
    intro d hm s p a b h hp hs
    have e1 : Den (d+6) 45 0 [.ref 44] [] (zmMk n a b r) = _ := c_next hH h hp
    show ResP n TT len nx b r a s (if nx p = 33 ∨ nx p = 40 then .inl (5, p) else pCmp nx (pSum nx len 0) p) (Den (d+7) 39 0 [.ref 44, .int (iN 6), zmJ] [] (zmMk n a b r))
    rw [b39_0, e1]
    simp only [Option.bind_some, Option.toList_some, Option.toList_none, List.cons_append, List.nil_append, true_or, or_true, if_true, bI_if]
    have h17 : nx p = 33 ∨ nx p = 40 → Den (d+7) 39 17 [.ref 44,.int (iN 6),.int (nxV (nx p))] [] (zmMk n a b r) = some (none, zmMk n (uI a 44 3 (fltI 5 p)) b r) := by
      intro _
      rw [b39_17, if_neg (lt_n (by omega) (by omega)), b39_23, c_fail h.2.2.1 h.2.1]
      simp only [Option.bind_some, Option.toList_none, List.nil_append]
      rw [b39_28]
    rw [b39_4]
    by_cases h33 : nx p = 33
    · rw [if_pos (nxV_y h33 (by omega)), h17 (Or.inl h33), if_pos (Or.inl h33)]
      exact ⟨_, rfl, BadP.fail hX (by omega) h⟩
    · rw [if_neg (nxV_n h33 (by omega)), b39_11]
      by_cases h40 : nx p = 40
      · rw [if_pos (nxV_y h40 (by omega)), h17 (Or.inr h40), if_pos (Or.inr h40)]
        exact ⟨_, rfl, BadP.fail hX (by omega) h⟩
      · rw [if_neg (nxV_n h40 (by omega)), b39_29, if_neg (nxV_n h33 (by omega)), b39_62, if_neg (nxV_n h40 (by omega)), if_neg (fun q => q.elim h33 h40)]
        exact c_cmp (D := d+5) (m := 0) hH (c_expr hH 0 d (by omega)) h hp hs
  | succ m ih =>
    intro d hm s p a b h hp hs
    have e1 : Den (d+8+2*m) 45 0 [.ref 44] [] (zmMk n a b r) = _ := c_next hH h hp
    rw [show d + 7 + 2 * (m + 1) = d + 8 + 2 * m + 1 by omega]
    show ResP n TT len nx b r a s (if nx p = 33 then pNot (pPc jn nx len m (p + 1)) else if nx p = 40 then pBrk nx 41 (pCnd jn nx (pPc jn nx len m) (len + 1) (p + 1) [] []) else pCmp nx (pSum nx len (m + 1)) p) (Den (d+8+2*m+1) 39 0 [.ref 44, .int (iN (6 - (m + 1))), zmJ] [] (zmMk n a b r))
    rw [b39_0, e1]
    simp only [Option.bind_some, Option.toList_some, Option.toList_none, List.cons_append, List.nil_append, true_or, or_true, if_true, bI_if]
    rw [b39_4]
    by_cases h33 : nx p = 33
    · have hp1 := nx_le hn (p := p) (by omega)
      have hI := ih (d + 1) (by omega) s (p + 1) (uI a 44 2 (iN (p + 1))) b (h.step hX) hp1 (by omega)
      have hg := gd_pc hn m (p + 1) hp1
      have ed : d + 1 + 7 + 2 * m = d + 8 + 2 * m := by omega
      rw [ed] at hI
      rw [if_pos (nxV_y h33 (by omega)), b39_17, if_pos (lt_p (by omega) (by omega)), b39_29, if_pos (nxV_y h33 (by omega)), b39_35, h.at2, n_add, show 6 - (m + 1) + 1 = 6 - m by omega, if_pos h33]
      cases hz : pPc jn nx len m (p + 1) with
      | inl e =>
        rw [hz] at hI hg
        obtain ⟨a', e', bad⟩ := hI
        have bad1 := (OkP.step hX h).bad bad
        obtain ⟨k1, k2, ⟨K, k3, k4, k5⟩, k6⟩ := id bad1
        obtain ⟨a3, e3, f3⟩ := bd_add (d := d+8+2*m) (n := n) (b := b) (r := r) (x := nxV (nx p)) (y := iN 0) hX k4 k5
        rw [e']
        simp only [Option.bind_some, Option.toList_none, List.nil_append]
        rw [b39_52 h5 hX, e3]
        simp only [Option.bind_some, Option.toList_none, List.nil_append]
        rw [b39_61]
        exact ⟨_, rfl, bad1.next k3 f3⟩
      | inr e =>
        obtain ⟨q, os⟩ := e
        rw [hz] at hI hg
        obtain ⟨a', e', ok⟩ := hI
        obtain ⟨g1, g2, g3, g4⟩ := hg
        have ok1 := (OkP.step hX h).trans ok
        have ok2 := ok1.trans (OkP.ad (o := 10) (v := 0) (x := nxV (nx p)) (y := iN 0) hX ok1.1 (by rw [h33]; rfl) (fun _ => rfl) (by omega))
        rw [e']
        simp only [Option.bind_some, Option.toList_none, List.nil_append]
        rw [b39_52 h5 hX, c_add hX ok1.1.2.2.2.1 (by show s + os.length ≤ 239; omega)]
        simp only [Option.bind_some, Option.toList_none, List.nil_append]
        rw [b39_61]
        exact ⟨_, rfl, ok2⟩
    · rw [if_neg (nxV_n h33 (by omega)), b39_11, if_neg h33]
      by_cases h40 : nx p = 40
      · have hp1 := nx_le hn (p := p) (by omega)
        have hC := c_cnd (D := d+6+2*m) (n := n) (b := b) (r := r) (s := s) (p := p + 1) (a := uI a 44 2 (iN (p + 1))) hH (pc := pPc jn nx len m) (g := 6 - m) (by rw [show d + 6 + 2 * m + 1 = d + 7 + 2 * m by omega]; exact ih d (by omega)) (fun p hp => gd_pc hn m p hp) (h.step hX) hp1 (by omega)
        have hg := gd_cnd hn (gd_pc hn m) (len + 1) (p + 1) [] [] (p0 := p + 1) (fun o h => by cases h) (fun o h => by cases h) (Nat.le_refl _) (by show 0 + 0 ≤ _; omega) hp1 (by omega)
        have ed : d + 6 + 2 * m + 2 = d + 8 + 2 * m := by omega
        rw [ed] at hC
        rw [if_pos (nxV_y h40 (by omega)), b39_17, if_pos (lt_p (by omega) (by omega)), b39_29, if_neg (nxV_n h33 (by omega)), b39_62, if_pos (nxV_y h40 (by omega)), b39_68, h.at2, n_add, show 6 - (m + 1) + 1 = 6 - m by omega, if_pos h40]
        have hB := c_brk (D := d+6+2*m) (k := 41) (f := fun q => Den (d+8+2*m+1) 39 85 [.ref 44,.int (iN (6 - (m + 1))),.int (nxV (nx p))] (q.1.toList ++ []) q.2) hH (by omega) hC (by
          revert hg
          cases pCnd jn nx (pPc jn nx len m) (len + 1) (p + 1) [] [] with
          | inl e => exact fun hg => ⟨hg.1, hg.2.1, hg.2.2.2⟩
          | inr e => exact fun hg => ⟨hg.2.1, by have := hg.1; have := hg.2.1; have := hg.2.2.1; omega⟩) (fun a' a2 e2 => by
          have e2' : Den (d+8+2*m) 46 0 [.ref 44, .int (iN 41)] [] (zmMk n a' b r) = some (none, zmMk n a2 b r) := by
            rw [← ed]
            exact e2
          simp only [Option.toList_none, List.nil_append]
          rw [b39_85, e2']
          simp only [Option.bind_some, Option.toList_none, List.nil_append]
          rw [b39_91])
        revert hB
        cases pBrk nx 41 (pCnd jn nx (pPc jn nx len m) (len + 1) (p + 1) [] []) with
        | inl e =>
          rintro ⟨a', e', bad⟩
          exact ⟨a', e', (OkP.step hX h).bad bad⟩
        | inr e =>
          obtain ⟨q, os⟩ := e
          rintro ⟨a', e', ok⟩
          exact ⟨a', e', (OkP.step hX h).trans ok⟩
      · rw [if_neg (nxV_n h40 (by omega)), b39_29, if_neg (nxV_n h33 (by omega)), b39_62, if_neg (nxV_n h40 (by omega)), if_neg h40]
        have hE : ExpC n TT len nx r (m + 1) (d+7+2*m+1) := by
          rw [show d + 7 + 2 * m + 1 = d + 6 + 2 * (m + 1) by omega]
          exact c_expr hH (m + 1) d (by omega)
        have hC := c_cmp (D := d+7+2*m) (b := b) (v2 := nxV (nx p)) hH hE h hp hs
        rw [show d + 7 + 2 * m + 2 = d + 8 + 2 * m + 1 by omega] at hC
        exact hC
