/-! ===== the reference's parser: a condition, a piece ===== -/
theorem m_ends0 {e n len p c o s : Nat} {nx : Nat → Nat} {S : List Nat} {a : Nat → Nat → Int32} {b : Nat → Nat → Int64} {r : Nat → Nat → Option Nat} (hM : MSt len nx p c (s :: S) o a) (hs : s < 100000000) (h10 : s / 1048576 ≠ 10) (hl : S.length < 260) : Den (e+1) 181 0 [.ref 94] [] (zmMk n a b r) = some (none, (zmMk n a b r)) := by
  have hll : (s :: S).length = S.length + 1 := rfl
  have e1 : Den (e) 174 0 [.ref 94] [] (zmMk n a b r) = some (some (.int (iN (s / 1048576))), (zmMk n a b r)) := m_top2 hM (by omega) hs
  rw [b181_0, e1]
  simp only [Option.bind_some, Option.toList_some, Option.toList_none, List.cons_append, List.nil_append, true_or, or_true, if_true, bI_if]
  rw [b181_4, if_neg (eq_n h10 (by omega) (by omega)), b181_39]
def PcMM (n D len : Nat) (nx : Nat → Nat) (r : Nat → Nat → Option Nat) (pc : Nat → PR) (o : Nat) : Prop := ∀ (p : Nat) (S : List Nat) (c : Nat) (a : Nat → Nat → Int32) (b : Nat → Nat → Int64), MSt len nx p c S o a → stopA true S → S ≠ [] → p ≤ len → S.length ≤ p → (∀ s, s ∈ S → s < 100000000) → c + (len - p) ≤ 250 → PceM n D len nx b r a c S o (pc p) (Den D 185 40 [.ref 94] [] (zmMk n a b r))
def CndR (n D len : Nat) (nx : Nat → Nat) (b : Nat → Nat → Int64) (r : Nat → Nat → Option Nat) (a : Nat → Nat → Int32) (c : Nat) (S : List Nat) (o : Nat) (z : PR) (X : Option (Option Value × zmH)) : Prop := match z with
  | .inl e => ∃ a', X = some (some (.int (iN 0)), zmMk n a' b r) ∧ BdM e a a'
  | .inr (q, os) => (nx q = 41 ∧ ∃ a', X = Den D 185 106 [.ref 94] [] (zmMk n a' b r) ∧ OkM len nx a a' c q (mU 13 :: S) o os) ∨ (¬ nx q = 41 ∧ ∃ a', X = some (some (.int (iN 0)), zmMk n a' b r) ∧ BdM (1, q) a a')
/-- the top of what waits in a condition -/
theorem stk_top (c0 c1 : Nat) (RQ RP : List Ops) (S : List Nat) (h0 : c0 + lenS RQ ≤ 260) (h1 : c1 + lenS RP ≤ 260) : ∃ s S', stk 11 c1 RP ++ (stk 12 c0 RQ ++ mU 13 :: S) = s :: S' ∧ 11 ≤ s / 1048576 ∧ s / 1048576 ≤ 13 ∧ s < 100000000 := by
  cases RP with
  | cons x R =>
    rw [lenS_cons] at h1
    exact ⟨_, _, rfl, by unfold mU; omega, by unfold mU; omega, by unfold mU; omega⟩
  | nil =>
    cases RQ with
    | cons x R =>
      rw [lenS_cons] at h0
      exact ⟨_, _, rfl, by unfold mU; omega, by unfold mU; omega, by unfold mU; omega⟩
    | nil => exact ⟨_, _, rfl, by unfold mU; omega, by unfold mU; omega, by unfold mU; omega⟩
theorem stk_top2 (c0 : Nat) (RQ : List Ops) (S : List Nat) (h0 : c0 + lenS RQ ≤ 260) : ∃ s S', stk 12 c0 RQ ++ mU 13 :: S = s :: S' ∧ 12 ≤ s / 1048576 ∧ s / 1048576 ≤ 13 ∧ s < 100000000 := by
  cases RQ with
  | cons x R =>
    rw [lenS_cons] at h0
    exact ⟨_, _, rfl, by unfold mU; omega, by unfold mU; omega, by unfold mU; omega⟩
  | nil => exact ⟨_, _, rfl, by unfold mU; omega, by unfold mU; omega, by unfold mU; omega⟩
set_option maxHeartbeats 2000000 in
theorem m_cndL {d n len o cc : Nat} {nx : Nat → Nat} {r : Nat → Nat → Option Nat} {pc : Nat → PR} (hH : PrM len nx) (hP : PcMM n (d+6) len nx r pc o) (hG : ∀ p, p ≤ len → gdB len cc p (pc p)) (f : Nat) : ∀ (p : Nat) (RQ RP : List Ops) (c0 : Nat) (S : List Nat) (a0 a : Nat → Nat → Int32) (b : Nat → Nat → Int64), len < p + f → MSt len nx p (c0 + lenS RQ + lenS RP) (stk 11 (c0 + lenS RQ) RP ++ (stk 12 c0 RQ ++ mU 13 :: S)) o a → MP (a 100) 12 c0 RQ → MP (a 100) 11 (c0 + lenS RQ) RP → (∀ j, j < c0 → a 100 j = a0 100 j) → frN a0 a → p ≤ len → (stk 11 (c0 + lenS RQ) RP ++ (stk 12 c0 RQ ++ mU 13 :: S)).length ≤ p → (∀ s, s ∈ S → s < 100000000) → c0 + lenS RQ + lenS RP + (len - p) ≤ 250 → CndR n (d+6) len nx b r a0 c0 S o (pCnd jm nx pc f p RQ.reverse RP.reverse) (Den (d+6) 185 40 [.ref 94] [] (zmMk n a b r)) := by
  induction f with
  | zero =>
    intro p RQ RP c0 S a0 a b h1 _ _ _ _ _ h2
    exact absurd h1 (by omega)
  | succ f ih =>
    intro p RQ RP c0 S a0 a b h1 hM hQ hR hsame hfr hp hl hb hc
    have hlen := hH.1
    have hlS : (stk 11 (c0 + lenS RQ) RP ++ (stk 12 c0 RQ ++ mU 13 :: S)).length = (stk 11 (c0 + lenS RQ) RP).length + ((stk 12 c0 RQ).length + (S.length + 1)) := by rw [List.length_append, List.length_append]; rfl
    obtain ⟨s, S', es, hs1, hs2, hs3⟩ := stk_top c0 (c0 + lenS RQ) RQ RP S (by omega) (by omega)
    have hbS : ∀ s, s ∈ stk 12 c0 RQ ++ mU 13 :: S → s < 100000000 := fun s hs => by
      rcases List.mem_append.mp hs with h | h
      · exact stk_mm (by omega) (by omega) s h
      · rcases List.mem_cons.mp h with h | h
        · rw [h]; unfold mU; omega
        · exact hb s h
    have hball : ∀ s, s ∈ stk 11 (c0 + lenS RQ) RP ++ (stk 12 c0 RQ ++ mU 13 :: S) → s < 100000000 := fun s hs => by
      rcases List.mem_append.mp hs with h | h
      · exact stk_mm (by omega) (by omega) s h
      · exact hbS s h
    have hP1 := hP p _ (c0 + lenS RQ + lenS RP) a b hM (fun s2 S2 e2 q => by
      rw [es] at e2
      have := (List.cons.inj e2).1
      rw [← this] at q
      rcases q with q | ⟨-, q⟩ <;> omega) (by rw [es]; simp) hp hl hball hc
    have hg := hG p hp
    show CndR n (d+6) len nx b r a0 c0 S o (match pc p with
      | .inl e => .inl e
      | .inr (q, o) => if nx q = 38 then pCnd jm nx pc f (q + 1) RQ.reverse (RP.reverse ++ [o]) else if nx q = 124 then pCnd jm nx pc f (q + 1) (RQ.reverse ++ [jm 11 (RP.reverse ++ [o])]) [] else .inr (q, jm 12 (RQ.reverse ++ [jm 11 (RP.reverse ++ [o])]))) _
    cases hz : pc p with
    | inl e =>
      rw [hz] at hP1
      obtain ⟨a1, e1, bad⟩ := hP1
      exact ⟨a1, e1, bad.1, hfr.trans bad.2⟩
    | inr e =>
      obtain ⟨q, x⟩ := e
      rw [hz] at hP1 hg
      obtain ⟨a1, κ, e, hk, e1, ok⟩ := hP1
      obtain ⟨g1, g2, g3, g4⟩ := hg
      obtain ⟨k1, k2, k3, k4⟩ := id ok
      have e92 : Den (d+6) 185 40 [.ref 94] [] (zmMk n a b r) = Den (d+6) 185 92 [.ref 94] [] (zmMk n a1 b r) := by
        have k1' := k1
        rw [es] at k1'
        have hl2 : (s :: S').length ≤ p := by rw [← es]; exact hl
        have hl3 : (s :: S').length = S'.length + 1 := rfl
        rw [e1, m_ends0 k1' hs3 (by omega) (by omega)]
        exact hk a1 b
      have hq : ∀ e, Den e 167 0 [.ref 94] [] (zmMk n a1 b r) = some (some (.int (nxV (nx q))), zmMk n a1 b r) := fun e => m_lookS hH k1 g2
      have hQ1 : MP (a1 100) 12 c0 RQ := hQ.ag (fun j _ hj => k3 j (by omega))
      have hR1 : MP (a1 100) 11 (c0 + lenS RQ) RP := hR.ag (fun j _ hj => k3 j (by omega))
      have hlx : (stk 12 c0 RQ ++ mU 13 :: S).length = (stk 12 c0 RQ).length + (S.length + 1) := by rw [List.length_append]; rfl
      rw [e92, b185_92, hq]
      simp only [Option.bind_some, Option.toList_some, Option.toList_none, List.cons_append, List.nil_append, true_or, or_true, if_true, bI_if]
      rw [b185_96]
      have hel : jm 11 [x] = x := rfl
      by_cases h38 : nx q = 38
      · -- and: the piece before leaps to here
        have hq1 := nx_le hH.2.1 (p := q) (by omega)
        obtain ⟨a2, u2, e2, M2, R2, s2, f2⟩ := m_landR (d := d+4) (n := n) (b := b) (r := r) (all := false) (u2 := zmJ) (R := RP) k1 (Or.inl rfl) (by omega) (by omega) hR1
        obtain ⟨t, S2, et, ht1, ht2, ht3⟩ := stk_top2 c0 RQ S (by omega)
        have hl2 : (t :: S2).length = S2.length + 1 := rfl
        have e3 : Den (d+5) 182 0 [.ref 94,.int (bI false),u2] [] (zmMk n a2 b r) = some (none, zmMk n a2 b r) := by
          have M2' := M2
          rw [et] at M2'
          exact m_land0 (d := d+4) M2' ht3 (by omega) (fun h => by cases h) (by rw [← et] at hl2; omega)
        obtain ⟨a3, e4, M3, J1, J2, f3⟩ := m_jumps (d := d+4) (n := n) (b := b) (r := r) (w := 11) M2 (by omega) (by omega) (by omega)
        have hq2 : ∀ e, Den e 167 0 [.ref 94] [] (zmMk n a2 b r) = some (some (.int (nxV (nx q))), zmMk n a2 b r) := fun e => m_lookS hH M2 g2
        have e2' : Den (d+5) 182 0 [.ref 94, .int (iN 0), zmJ] [] (zmMk n a1 b r) = some (none, zmMk n a2 b r) := e2.trans e3
        have e4' : Den (d+5) 183 0 [.ref 94, .int (iN 11)] [] (zmMk n a2 b r) = _ := e4
        rw [if_neg (nxV_n (show ¬ nx q = 41 by omega) (by omega)), b185_152, hq]
        simp only [Option.bind_some, Option.toList_some, Option.toList_none, List.cons_append, List.nil_append, true_or, or_true, if_true, bI_if]
        rw [b185_156, if_pos (nxV_y h38 (by omega)), b185_180, hq]
        simp only [Option.bind_some, Option.toList_some, Option.toList_none, List.cons_append, List.nil_append, true_or, or_true, if_true, bI_if]
        rw [b185_185, if_neg (nxV_n (show ¬ nx q = 124 by omega) (by omega)), b185_194, b185_195, e2']
        simp only [Option.bind_some, Option.toList_none, List.nil_append]
        rw [b185_198, hq2]
        simp only [Option.bind_some, Option.toList_some, Option.toList_none, List.cons_append, List.nil_append, true_or, or_true, if_true, bI_if]
        rw [b185_203, if_pos (nxV_y h38 (by omega)), b185_208, b185_215, e4']
        simp only [Option.bind_some, Option.toList_none, List.nil_append]
        rw [b185_218, if_pos h38, ← List.reverse_cons]
        have ecs : (mU 11 + (c0 + lenS RQ + lenS RP + x.length)) :: (stk 12 c0 RQ ++ mU 13 :: S) = stk 11 (c0 + lenS RQ) (x :: RP) ++ (stk 12 c0 RQ ++ mU 13 :: S) := rfl
        have elc : c0 + lenS RQ + lenS (x :: RP) = c0 + lenS RQ + lenS RP + x.length + 1 := by rw [lenS_cons]; omega
        refine ih (q + 1) RQ (x :: RP) c0 S a0 a3 b (by omega) ?_ ?_ ⟨?_, ?_, ?_⟩ (fun j hj => ?_) (hfr.trans (k4.trans (f2.trans f3))) hq1 ?_ hb (by omega)
        · rw [elc, ← ecs]
          exact M3
        · exact hQ1.ag (fun j _ hj => by rw [J2 j (by omega), s2 j (Or.inl (by omega))])
        · exact k2.ag (fun j hj hj2 => by rw [J2 j (by omega), s2 j (Or.inr (by omega))])
        · exact J1
        · exact R2.ag (fun j _ hj => J2 j (by omega))
        · rw [J2 j (by omega), s2 j (Or.inl (by omega)), k3 j (by omega)]
          exact hsame j hj
        · rw [← ecs]
          show (stk 12 c0 RQ ++ mU 13 :: S).length + 1 ≤ q + 1
          omega
      · -- both kinds of leaps land here
        have hboth : ∃ a2, Den (d+5) 182 0 [.ref 94, .int (iN 1), zmJ] [] (zmMk n a1 b r) = some (none, zmMk n a2 b r) ∧ MSt len nx q (c0 + lenS RQ + lenS RP + x.length) (mU 13 :: S) o a2 ∧ MRh (a2 100) 12 c0 RQ (c0 + lenS RQ + lenS RP + x.length) ∧ (∀ j, j < c0 → a2 100 j = a1 100 j) ∧ frN a1 a2 ∧ LayM (a2 100) 0 (c0 + lenS RQ) (jm 11 (RP.reverse ++ [x])) ∧ (jm 11 (RP.reverse ++ [x])).length = lenS RP + x.length := by
          obtain ⟨a2, u2, e2, M2, R2, s2, f2⟩ := m_landR (d := d+4) (n := n) (b := b) (r := r) (all := true) (u2 := zmJ) (R := RP) k1 (Or.inl rfl) (by omega) (by omega) hR1
          obtain ⟨a3, u3, e3, M3, R3, s3, f3⟩ := m_landR (d := d+4) (n := n) (b := b) (r := r) (all := true) (u2 := u2) (R := RQ) M2 (Or.inr ⟨rfl, rfl⟩) (by show S.length + 1 < 260; omega) (by omega) (hQ1.ag (fun j _ hj => s2 j (Or.inl (by omega))))
          have e4 : Den (d+5) 182 0 [.ref 94,.int (bI true),u3] [] (zmMk n a3 b r) = some (none, zmMk n a3 b r) := m_land0 (d := d+4) M3 (by unfold mU; omega) (by rw [mU_div]; omega) (fun _ => by rw [mU_div]; omega) (by omega)
          obtain ⟨j1, j2⟩ := MR_jm (f := a3 100) (w := 11) (cb := c0 + lenS RQ) (Or.inl rfl) (R := RP) (x := x) (T := []) (R2.ag (fun j h1 h2 => s3 j (Or.inr h1))) (k2.ag (fun j hj hj2 => by rw [s3 j (Or.inr (by omega)), s2 j (Or.inr (by omega))]))
          refine ⟨a3, (e2.trans e3).trans e4, M3, R3, fun j hj => ?_, f2.trans f3, j1, j2⟩
          rw [s3 j (Or.inl hj), s2 j (Or.inl (by omega))]
        obtain ⟨a2, e2, M2, R2, s2, f2, j1, j2⟩ := hboth
        rw [if_neg h38]
        by_cases h124 : nx q = 124
        · have hq1 := nx_le hH.2.1 (p := q) (by omega)
          obtain ⟨a3, e4, M3, J1, J2, f3⟩ := m_jumps (d := d+4) (n := n) (b := b) (r := r) (w := 12) M2 (by omega) (by show S.length + 1 < 260; omega) (by omega)
          have hq2 : ∀ e, Den e 167 0 [.ref 94] [] (zmMk n a2 b r) = some (some (.int (nxV (nx q))), zmMk n a2 b r) := fun e => m_lookS hH M2 g2
          have e4' : Den (d+5) 183 0 [.ref 94, .int (iN 12)] [] (zmMk n a2 b r) = _ := e4
          rw [if_neg (nxV_n (show ¬ nx q = 41 by omega) (by omega)), b185_152, hq]
          simp only [Option.bind_some, Option.toList_some, Option.toList_none, List.cons_append, List.nil_append, true_or, or_true, if_true, bI_if]
          rw [b185_156, if_neg (nxV_n h38 (by omega)), b185_161, hq]
          simp only [Option.bind_some, Option.toList_some, Option.toList_none, List.cons_append, List.nil_append, true_or, or_true, if_true, bI_if]
          rw [b185_165, if_pos (nxV_y h124 (by omega)), b185_180, hq]
          simp only [Option.bind_some, Option.toList_some, Option.toList_none, List.cons_append, List.nil_append, true_or, or_true, if_true, bI_if]
          rw [b185_185, if_pos (nxV_y h124 (by omega)), b185_190, b185_195, e2]
          simp only [Option.bind_some, Option.toList_none, List.nil_append]
          rw [b185_198, hq2]
          simp only [Option.bind_some, Option.toList_some, Option.toList_none, List.cons_append, List.nil_append, true_or, or_true, if_true, bI_if]
          rw [b185_203, if_neg (nxV_n h38 (by omega)), b185_213, b185_215, e4']
          simp only [Option.bind_some, Option.toList_none, List.nil_append]
          rw [b185_218, if_pos h124, ← List.reverse_cons]
          have ecs : (mU 12 + (c0 + lenS RQ + lenS RP + x.length)) :: mU 13 :: S = stk 11 (c0 + lenS (jm 11 (RP.reverse ++ [x]) :: RQ)) [] ++ (stk 12 c0 (jm 11 (RP.reverse ++ [x]) :: RQ) ++ mU 13 :: S) := by
            show _ = (mU 12 + (c0 + lenS RQ + (jm 11 (RP.reverse ++ [x])).length)) :: mU 13 :: S
            rw [j2, show c0 + lenS RQ + (lenS RP + x.length) = c0 + lenS RQ + lenS RP + x.length by omega]
          have elc : c0 + lenS (jm 11 (RP.reverse ++ [x]) :: RQ) + lenS [] = c0 + lenS RQ + lenS RP + x.length + 1 := by rw [lenS_cons, lenS_nil, j2]; omega
          refine ih (q + 1) (jm 11 (RP.reverse ++ [x]) :: RQ) [] c0 S a0 a3 b (by omega) ?_ ⟨?_, ?_, ?_⟩ trivial (fun j hj => ?_) (hfr.trans (k4.trans (f2.trans f3))) hq1 ?_ hb (by omega)
          · rw [elc, ← ecs]
            exact M3
          · exact j1.ag (fun j hj hj2 => J2 j (by omega))
          · rw [j2, show c0 + lenS RQ + (lenS RP + x.length) = c0 + lenS RQ + lenS RP + x.length by omega]
            exact J1
          · rw [j2, show c0 + lenS RQ + (lenS RP + x.length) = c0 + lenS RQ + lenS RP + x.length by omega]
            exact R2.ag (fun j _ hj => J2 j (by omega))
          · rw [J2 j (by omega), s2 j hj, k3 j (by omega)]
            exact hsame j hj
          · rw [← ecs]
            show S.length + 1 + 1 ≤ q + 1
            omega
        · rw [if_neg h124]
          by_cases h41 : nx q = 41
          · refine Or.inl ⟨h41, a2, ?_, ?_⟩
            · rw [if_pos (nxV_y h41 (by omega)), b185_101, e2]
              simp only [Option.bind_some, Option.toList_none, List.nil_append]
            · obtain ⟨y1, y2⟩ := MR_jm (f := a2 100) (w := 12) (cb := c0) (Or.inr rfl) (R := RQ) (x := jm 11 (RP.reverse ++ [x])) (T := []) (by rw [j2, show c0 + lenS RQ + (lenS RP + x.length) = c0 + lenS RQ + lenS RP + x.length by omega]; exact R2) j1
              have y3 : (jm 12 (RQ.reverse ++ [jm 11 (RP.reverse ++ [x])])).length = lenS RQ + (jm 11 (RP.reverse ++ [x])).length := y2
              refine ⟨?_, y1, fun j hj => ?_, hfr.trans (k4.trans f2)⟩
              · rw [y3, j2, show c0 + (lenS RQ + (lenS RP + x.length)) = c0 + lenS RQ + lenS RP + x.length by omega]
                exact M2
              · rw [s2 j hj, k3 j (by omega)]
                exact hsame j hj
          · refine Or.inr ⟨h41, _, ?_, BdM.w.1, (hfr.trans k4).trans BdM.w.2⟩
            rw [if_neg (nxV_n h41 (by omega)), b185_152, hq]
            simp only [Option.bind_some, Option.toList_some, Option.toList_none, List.cons_append, List.nil_append, true_or, or_true, if_true, bI_if]
            rw [b185_156, if_neg (nxV_n h38 (by omega)), b185_161, hq]
            simp only [Option.bind_some, Option.toList_some, Option.toList_none, List.cons_append, List.nil_append, true_or, or_true, if_true, bI_if]
            rw [b185_165, if_neg (nxV_n h124 (by omega)), b185_170, k1.1, m_wrong]
            simp only [Option.bind_some, Option.toList_some, Option.toList_none, List.cons_append, List.nil_append, true_or, or_true, if_true, bI_if]
            rw [b185_179, if_pos (Or.inl rfl)]
