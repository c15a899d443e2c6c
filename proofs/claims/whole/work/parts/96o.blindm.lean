/-! ===== questions: blind (the reference) ===== -/
theorem fldO_ini {f : Nat → Int64} {x y : Int64} (hx : x < f 0) (hy : y < f 0) (c : Nat) : fldO f x (c + 1) = fldO f y (c + 1) := by
  induction c with
  | zero =>
    show (if (fldO f x 0).1 < f 0 then (f 0, 0) else fldO f x 0) = (if (fldO f y 0).1 < f 0 then (f 0, 0) else fldO f y 0)
    rw [if_pos (show (fldO f x 0).1 < f 0 from hx), if_pos (show (fldO f y 0).1 < f 0 from hy)]
  | succ c ih =>
    show (if (fldO f x (c + 1)).1 < f (c + 1) then (f (c + 1), c + 1) else fldO f x (c + 1)) = (if (fldO f y (c + 1)).1 < f (c + 1) then (f (c + 1), c + 1) else fldO f y (c + 1))
    rw [ih]
theorem fldO_lt {f : Nat → Int64} {x : Int64} (c : Nat) : (fldO f x c).2 ≤ c := by
  induction c with
  | zero => exact Nat.le_refl _
  | succ c ih =>
    show (if (fldO f x c).1 < f c then (f c, c) else fldO f x c).2 ≤ _
    split
    · exact Nat.le_succ _
    · exact Nat.le_succ_of_le ih
theorem seven_mono {i N : Nat} (h : i ≤ N) (hN : N ≤ 4) : 7 ^ i ≤ 2401 := p7_le (by omega)
theorem m_pow {d N : Nat} {n : Nat} {a : Nat → Nat → Int32} {b : Nat → Nat → Int64} {r : Nat → Nat → Option Nat} {v1 v2 v3 v4 v5 v6 : Int32} (h94 : a 94 0 = iN N) (hN : N ≤ 4) (k : Nat) : ∀ i, i + k = N → Den d 234 74 [.ref 94,.int v1,.int v2,.int v3,.int v4,.int v5,.int v6,.int (iN (7 ^ i)),.int (iN i),zmJ,zmJ,zmJ] [] (zmMk n a b r) = Den d 234 96 [.ref 94,.int v1,.int v2,.int v3,.int v4,.int v5,.int v6,.int (iN (7 ^ N)),.int (iN N),zmJ,zmJ,zmJ] [] (zmMk n a b r) := by
  induction k with
  | zero =>
    intro i hi
    obtain rfl : i = N := by omega
    rw [b234_74, h94, if_neg (by rw [n_lt (by omega) (by omega)]; omega)]
  | succ k ih =>
    intro i hi
    rw [b234_74, h94, if_pos (by rw [n_lt (by omega) (by omega)]; omega), b234_83, n_mul, n_add]
    exact ih (i + 1) (by omega)
/-- what the loop over rows keeps -/
def tldB (a : Nat → Nat → Int32) : Prop := a 94 3 = a 94 35 ∧ a 94 39 = iN 0 ∧ a 94 42 = -1
theorem tldB.t {a : Nat → Nat → Int32} (h : tldB a) : tldM a = a := tldM_fix2 h.1 h.2.1
theorem tldB.ag {a a' : Nat → Nat → Int32} (h : tldB a) (e : ∀ j, j ≠ 40 → j ≠ 41 → a' 94 j = a 94 j) : tldB a' := by
  unfold tldB
  rw [e 3 (by omega) (by omega), e 35 (by omega) (by omega), e 39 (by omega) (by omega), e 42 (by omega) (by omega)]
  exact h
theorem m_row {d x : Nat} {n : Nat} {a : Nat → Nat → Int32} {b : Nat → Nat → Int64} {r : Nat → Nat → Option Nat} {σ : SV} {cl cl' : List Cls} {R R' : Nat → List Cls} {TL TS A : Nat} {TR : Nat → Nat} (h : (St a b r σ cl cl' R R' TL TS TR A)) (hN : σ 0 0 ≤ 4) (hx : x < 10000) (ht : tldB a) : ∃ a', Den (d+1) 233 0 [.ref 94, .int (iN x), zmJ, zmJ] [] (zmMk n a b r) = some (none, zmMk n a' b r) ∧ (∀ j, j < σ 0 0 → a' 119 j = iN (rowOf (σ 0 0) x j)) ∧ (St a' b r σ cl cl' R R' TL TS TR A) ∧ tldB a' := by
  obtain ⟨a1, e1, w1, o1⟩ := m_readsRow (n := n) (d := d) (b := b) (r := r) hN hx h.2.2.1.1.1
  exact ⟨a1, e1, w1, h.qm ⟨fun k _ _ _ _ => (by
    by_cases hk : k = 119
    · exfalso; omega
    · exact o1 k hk), fun j _ => by rw [o1 94 (by omega)]⟩ (fun _ _ => rfl), ht.ag (fun j _ _ => by rw [o1 94 (by omega)])⟩
theorem m_bldL {d p : Nat} {v1 v2 v3 v4 v5 : Int32} {n : Nat} {r : Nat → Nat → Option Nat} {σ : SV} {cl cl' : List Cls} {R R' : Nat → List Cls} {TL TS A : Nat} {TR : Nat → Nat} (hN : σ 0 0 ≤ 4) (hp : p < 4840) (k : Nat) : ∀ (c : Nat) {a : Nat → Nat → Int32} {b : Nat → Nat → Int64}, c + k = 7 ^ (σ 0 0) → (St a b r σ cl cl' R R' TL TS TR A) → tldB a → ∃ a' b', Den (d+17) 234 107 [.ref 94,.int v1,.int v2,.int v3,.int v4,.int v5,.int (iN p),.int (iN (7 ^ (σ 0 0))),.long (fldO (valR (QS σ cl) (σ 0 5) (σ 0 0) p) (-2000000000000000000 : Int64) c).1,zmJ,.int (iN (fldO (valR (QS σ cl) (σ 0 5) (σ 0 0) p) (-2000000000000000000 : Int64) c).2),.int (iN c)] [] (zmMk n a b r) = Den (d+17) 234 156 [.ref 94,.int v1,.int v2,.int v3,.int v4,.int v5,.int (iN p),.int (iN (7 ^ (σ 0 0))),.long (fldO (valR (QS σ cl) (σ 0 5) (σ 0 0) p) (-2000000000000000000 : Int64) (7 ^ (σ 0 0))).1,zmJ,.int (iN (fldO (valR (QS σ cl) (σ 0 5) (σ 0 0) p) (-2000000000000000000 : Int64) (7 ^ (σ 0 0))).2),.int (iN (7 ^ (σ 0 0)))] [] (zmMk n a' b' r) ∧ (St a' b' r σ cl cl' R R' TL TS TR A) ∧ tldB a' := by
  have h7 := p7_le hN
  induction k with
  | zero =>
    intro c a b hc h ht
    obtain rfl : c = 7 ^ (σ 0 0) := by omega
    refine ⟨a, b, ?_, h, ht⟩
    rw [b234_107, if_neg (by rw [n_lt (by omega) (by omega)]; omega)]
  | succ k ih =>
    intro c a b hc h ht
    obtain ⟨a1, e1, w1, h1, ht1⟩ := m_row (d := d+15) (x := c) (n := n) h hN (by omega) ht
    obtain ⟨a2, b2, e2, w2, o2⟩ := m_through (d := d+1) (n := n) (b := b) (r := r) (vt := iN 0) (vp := iN p) rfl rfl (Nat.zero_le (σ 0 0)) hp (arow_ok (QS σ cl) (σ 0 0) c) (h1.eM (n := n) ht1.t) (m_actRow hN (h1.eM (n := n) ht1.t) ht1.2.2 w1)
    have h2 : (St a2 b2 r σ cl cl' R R' TL TS TR A) := h1.qm o2.q (fun q hq => o2.2.2.1 q (by omega) (by omega) (by omega))
    have ht2 : tldB a2 := ht1.ag o2.2.1
    have hw : b2 94 49 = valR (QS σ cl) (σ 0 5) (σ 0 0) p c := w2 0 (by omega)
    have hs : fldO (valR (QS σ cl) (σ 0 5) (σ 0 0) p) (-2000000000000000000 : Int64) (c + 1) = if (fldO (valR (QS σ cl) (σ 0 5) (σ 0 0) p) (-2000000000000000000 : Int64) c).1 < valR (QS σ cl) (σ 0 5) (σ 0 0) p c then (valR (QS σ cl) (σ 0 5) (σ 0 0) p c, c) else fldO (valR (QS σ cl) (σ 0 5) (σ 0 0) p) (-2000000000000000000 : Int64) c := rfl
    obtain ⟨a3, b3, e3, h3, ht3⟩ := ih (c + 1) (by omega) h2 ht2
    refine ⟨a3, b3, ?_, h3, ht3⟩
    rw [b234_107, if_pos (by rw [n_lt (by omega) (by omega)]; omega), b234_114, e1]
    simp only [Option.bind_some, Option.toList_some, Option.toList_none, List.cons_append, List.nil_append, true_or, or_true, if_true, bI_if]
    rw [b234_120, e2]
    simp only [Option.bind_some, Option.toList_some, Option.toList_none, List.cons_append, List.nil_append, true_or, or_true, if_true, bI_if]
    rw [b234_127, hw]
    simp only [cmp_pos]
    by_cases hlt : (fldO (valR (QS σ cl) (σ 0 5) (σ 0 0) p) (-2000000000000000000 : Int64) c).1 < valR (QS σ cl) (σ 0 5) (σ 0 0) p c
    · rw [if_pos hlt] at hs
      rw [hs] at e3
      rw [if_pos hlt, b234_140, hw, b234_150, n_add]
      exact e3
    · rw [if_neg hlt] at hs
      rw [hs] at e3
      rw [if_neg hlt, b234_137, b234_150, n_add]
      exact e3
theorem m_blind {d : Nat} {n : Nat} {a : Nat → Nat → Int32} {b : Nat → Nat → Int64} {r : Nat → Nat → Option Nat} {σ : SV} {cl cl' : List Cls} {R R' : Nat → List Cls} {TL TS A : Nat} {TR : Nat → Nat} (h : (St a b r σ cl cl' R R' TL TS TR A)) {v1 v2 v5 : Int32} {s u : Bool} : ∃ a' b', Den (d+41) 234 0 [.ref 94, .int v1, .int v2, .int (bI s), .int (bI u), .int v5, zmJ, zmJ, zmJ, zmJ, zmJ, zmJ] [] (zmMk n a b r) = some (some (.long (blindV σ cl v1 v2 s u v5)), zmMk n a' b' r) ∧ St a' b' r σ cl cl' R R' TL TS TR A := by
  obtain ⟨⟨n1, n8⟩, h16, h94, hs⟩ := h.n8
  have g9 : inI (iN 0) (iN 0) (iN (σ 0 0)) = true := (inI_n (by omega) (by omega) (by omega)).trans (by rw [decide_eq_true (by omega), decide_eq_true (by omega)]; rfl)
  unfold blindV
  rw [b234_0, m_isState h94, g9]
  simp only [Option.bind_some, Option.toList_some, Option.toList_none, List.cons_append, List.nil_append, true_or, or_true, if_true, bI_if, Bool.true_and]
  rw [b234_7, bI_if]
  by_cases g1 : isSt v1 v2 = true
  · rw [if_pos g1, b234_10, h94]
    by_cases gN : σ 0 0 ≤ 4
    · rw [if_neg (show ¬ iN 4 < iN (σ 0 0) by rw [n_lt (by omega) (by omega)]; omega), b234_18, h94, hs, m_in]
      simp only [Option.bind_some, Option.toList_some, Option.toList_none, List.cons_append, List.nil_append, true_or, or_true, if_true, bI_if]
      rw [b234_30, bI_if]
      have hst : (if inI v5 (iN 0) (iN (σ 0 0 - 1)) = true then Den (d+41) 234 49 [.ref 94,.int v1,.int v2,.int (bI s),.int (bI u),.int v5,zmJ,zmJ,zmJ,zmJ,zmJ,zmJ] [] (zmMk n a b r) else Den (d+41) 234 33 [.ref 94,.int v1,.int v2,.int (bI s),.int (bI u),.int v5,zmJ,zmJ,zmJ,zmJ,zmJ,zmJ] [] (zmMk n a b r)) = if (inI v5 (iN 20) (iN 21) = true ∨ inI v5 (iN 0) (iN (σ 0 0 - 1)) = true) then Den (d+41) 234 49 [.ref 94,.int v1,.int v2,.int (bI s),.int (bI u),.int v5,zmJ,zmJ,zmJ,zmJ,zmJ,zmJ] [] (zmMk n a b r) else some (some (.long (-2000000000000000000)), (zmMk n a b r)) := by
        by_cases k1 : inI v5 (iN 0) (iN (σ 0 0 - 1)) = true
        · rw [if_pos k1, if_pos (Or.inr k1)]
        · rw [if_neg k1, b234_33, m_in]
          simp only [Option.bind_some, Option.toList_some, Option.toList_none, List.cons_append, List.nil_append, true_or, or_true, if_true, bI_if]
          rw [b234_42, bI_if]
          by_cases k2 : inI v5 (iN 20) (iN 21) = true
          · rw [if_pos k2, if_pos (Or.inl k2)]
          · rw [if_neg k2, if_neg (fun z => z.elim k2 k1), b234_45]
      rw [hst]
      by_cases g2 : inI v5 (iN 20) (iN 21) = true ∨ inI v5 (iN 0) (iN (σ 0 0 - 1)) = true
      · rw [if_pos g2, if_pos ⟨gN, g1, g2⟩]
        obtain ⟨i, j, i1, j1, rfl, rfl⟩ := isSt_ex g1
        have hp := plc_ltB i1 j1 s u
        rw [plI_n i1 j1]
        have h0 : (St (uI (tldM a) 94 42 (-1)) b r σ cl cl' R R' TL TS TR A) := h.tld.put (by omega)
        have ht0 : tldB (uI (tldM a) 94 42 (-1)) := ⟨by
          rw [uI_at, if_neg (by omega), uI_at, if_neg (by omega)]
          unfold tldM
          rw [uI_at, if_neg (by omega), uI_at, if_neg (by omega), uI_at, if_neg (by omega), uI_at, if_pos ⟨rfl, rfl⟩], by
          rw [uI_at, if_neg (by omega)]
          exact tldM_39 a, by rw [uI_at, if_pos ⟨rfl, rfl⟩]⟩
        obtain ⟨a1, b1, e1, h1, ht1⟩ := m_bldL (d := d+24) (v1 := iN i) (v2 := iN j) (v3 := bI s) (v4 := bI u) (v5 := v5) (n := n) gN hp (7 ^ (σ 0 0)) 0 (by omega) h0 ht0
        have h7 := p7_le gN
        have hbd : fldO (valR (QS σ cl) (σ 0 5) (σ 0 0) (plc i j (bN s) (bN u))) (-2000000000000000000 : Int64) (7 ^ (σ 0 0)) = bldF σ cl (plc i j (bN s) (bN u)) := by
          have q1 := val_big (QF_B cl (σ 0 0) (sK σ) (sW σ)) (B := σ 0 5) (p := plc i j (bN s) (bN u)) (x := 0) gN
          have h70 : 0 < 7 ^ (σ 0 0) := Nat.pow_pos (by omega)
          have e := fldO_ini (f := valR (QS σ cl) (σ 0 5) (σ 0 0) (plc i j (bN s) (bN u))) q1 q1 (7 ^ (σ 0 0) - 1)
          rw [Nat.sub_add_cancel h70] at e
          exact e
        rw [hbd] at e1
        have hlt := fldO_lt (f := valR (QS σ cl) (σ 0 5) (σ 0 0) (plc i j (bN s) (bN u))) (x := -2000000000000000000) (7 ^ (σ 0 0))
        have hlt2 : (bldF σ cl (plc i j (bN s) (bN u))).2 < 10000 := Nat.lt_of_le_of_lt hlt (by omega)
        obtain ⟨a2, e2, w2, h2, ht2⟩ := m_row (d := d+39) (n := n) h1 gN hlt2 ht1
        rw [b234_49, m_asTold]
        simp only [Option.bind_some, Option.toList_some, Option.toList_none, List.cons_append, List.nil_append, true_or, or_true, if_true, bI_if]
        rw [b234_53, m_told]
        simp only [Option.bind_some, Option.toList_some, Option.toList_none, List.cons_append, List.nil_append, true_or, or_true, if_true, bI_if]
        rw [b234_66, m_pow (N := σ 0 0) h0.2.2.1.1.1 gN (σ 0 0) 0 (by omega), b234_96]
        have e1' : Den (d+41) 234 107 [.ref 94,.int (iN i),.int (iN j),.int (bI s),.int (bI u),.int v5,.int (iN (plc i j (bN s) (bN u))),.int (iN (7 ^ (σ 0 0))),.long (-2000000000000000000),zmJ,.int (iN 0),.int (iN 0)] [] (zmMk n (uI (tldM a) 94 42 (-1)) b r) = _ := e1
        rw [e1', b234_156, e2]
        simp only [Option.bind_some, Option.toList_some, Option.toList_none, List.cons_append, List.nil_append, true_or, or_true, if_true, bI_if]
        rw [b234_162]
        unfold bldW
        by_cases g4 : v5 = iN 20
        · rw [if_pos g4, if_pos g4, b234_169, b234_202]
          exact ⟨a2, b1, rfl, h2⟩
        · rw [if_neg g4, if_neg g4, b234_174]
          by_cases g5 : v5 = iN 21
          · rw [if_pos g5, if_pos g5, b234_181]
            obtain ⟨a3, b3, e3, h3, -⟩ := m_solv (d := d+24) (t := 0) (n := n) h2 (Nat.zero_le _) hp
            rw [ht2.t, Nat.sub_zero] at e3
            rw [e3]
            simp only [Option.bind_some, Option.toList_some, Option.toList_none, List.cons_append, List.nil_append, true_or, or_true, if_true, bI_if]
            rw [b234_188, b234_202]
            exact ⟨a3, b3, rfl, h3⟩
          · rw [if_neg g5, if_neg g5, b234_194]
            have g6 : inI v5 (iN 0) (iN (σ 0 0 - 1)) = true := g2.resolve_left (fun z => by
              obtain ⟨k, k1, k2, rfl⟩ := inI_ex (by decide) (by decide) z
              rcases (by omega : k = 20 ∨ k = 21) with rfl | rfl
              · exact g4 rfl
              · exact g5 rfl)
            obtain ⟨k, -, k2, rfl⟩ := inI_ex (by decide) (by omega) g6
            have hin : zmIn (iN k) 4 = true := by rw [n_in (by omega)]; exact decide_eq_true (by omega)
            rw [if_pos hin, b234_201, b234_202, n_nat (by omega), w2 k (by omega)]
            exact ⟨a2, b1, rfl, h2⟩
      · rw [if_neg g2, if_neg (fun z => g2 z.2.2)]
        exact ⟨a, b, rfl, h⟩
    · rw [if_pos (show iN 4 < iN (σ 0 0) by rw [n_lt (by omega) (by omega)]; omega), if_neg (fun z => gN z.1), b234_45]
      exact ⟨a, b, rfl, h⟩
  · rw [if_neg g1, if_neg (fun z => g1 z.2.1), b234_45]
    exact ⟨a, b, rfl, h⟩
