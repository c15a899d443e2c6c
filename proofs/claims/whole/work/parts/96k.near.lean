/-! ===== questions: near ===== -/
theorem l_nat {x : Nat} (h : x < 9223372036854775808) : (jN x).toNatClampNeg = x := Int64.toNatClampNeg_ofNat_of_lt h
def ffS (σ : SV) (cl : List Cls) (R : Nat → List Cls) (k p w : Nat) : Int64 := FF (QS σ cl) (σ 0 5) (AS σ cl (R k)) (σ 0 0) 0 p w
theorem ffS_nn (σ : SV) (cl : List Cls) (R : Nat → List Cls) {k p w : Nat} (hN : σ 0 0 ≤ 8) (hp : p < 4840) (hw : w ≠ 0) : ∃ x : Nat, ffS σ cl R k p w = jN x ∧ x < 9223372036854775808 := by
  obtain ⟨x, h1, h2⟩ := FF_nn (QF_B cl (σ 0 0) (sK σ) (sW σ)) (σ 0 5) (AS σ cl (R k)) hw (σ 0 0) 0 p hp
  have := p100_le hN
  exact ⟨x, h1, by omega⟩
theorem Cac.frF {N B A : Nat} {Q : AQ} {a a' : Nat → Nat → Int32} {b b' : Nat → Nat → Int64} (h : Cac N B Q A a b) (hf : frS scF a a') (l : frL scFL b b') : Cac N B Q A a' b' := ⟨h.1.ag (hf 52 rfl) (hf 29 rfl) (hf 54 rfl) (l 53 rfl), h.2.ag (hf 55 rfl) (hf 61 rfl) (l 55 rfl)⟩
theorem St.cF {a a' : Nat → Nat → Int32} {b b' : Nat → Nat → Int64} {r : Nat → Nat → Option Nat} {σ : SV} {cl cl' : List Cls} {R R' : Nat → List Cls} {TL TS A : Nat} {TR : Nat → Nat} (h : (St a b r σ cl cl' R R' TL TS TR A)) (hf : frS scF a a') (l : frL scFL b b') : (St a' b' r σ cl cl' R R' TL TS TR A) := h.qc hf.qF (l 2 rfl) (l 3 rfl) (h.2.2.2.frF hf l)
theorem St.odd {a : Nat → Nat → Int32} {b : Nat → Nat → Int64} {r : Nat → Nat → Option Nat} {σ : SV} {cl cl' : List Cls} {R R' : Nat → List Cls} {TL TS A : Nat} {TR : Nat → Nat} (h : (St a b r σ cl cl' R R' TL TS TR A)) (x y : Int64) : (St a (uL (uL b 65 1 x) 65 2 y) r σ cl cl' R R' TL TS TR A) := by
  refine h.qc (fun _ _ => rfl) ?_ ?_ (h.2.2.2.fr frS.refl ?_ ?_)
  all_goals (funext q; rw [uL_at, if_neg (by omega), uL_at, if_neg (by omega)])
theorem tldM_fix2 {a1 : Nat → Nat → Int32} (h3 : a1 94 3 = a1 94 35) (h39 : a1 94 39 = iN 0) : tldM a1 = a1 := by
  funext k j
  unfold tldM
  rw [uI_at]
  split
  · next e => rw [e.1, e.2, h39]
  · rw [uI_at]
    split
    · next e => rw [e.1, e.2, h3]
    · rfl
def nearV (σ : SV) (cl : List Cls) (R : Nat → List Cls) (v1 v2 v3 : Int32) (s u : Bool) (v6 : Int32) : Int64 := if inI v1 (iN 0) (iN 3) = true ∧ isSt v2 v3 = true ∧ inI v6 (iN 0) (iN 1) = true then (if R v1.toNatClampNeg = [] then -1 else if ffS σ cl R v1.toNatClampNeg (plI v2 v3 s u) 2 = 0 then -2 else redV (ffS σ cl R v1.toNatClampNeg (plI v2 v3 s u) 4).toNatClampNeg (ffS σ cl R v1.toNatClampNeg (plI v2 v3 s u) 2).toNatClampNeg v6) else -1
theorem nearV_n {σ : SV} {cl : List Cls} {R : Nat → List Cls} {v1 v2 v3 : Int32} {s u : Bool} {v6 : Int32} (h : ¬ toldR R v1) : nearV σ cl R v1 v2 v3 s u v6 = -1 := by
  unfold nearV
  by_cases g : inI v1 (iN 0) (iN 3) = true
  · have hR : R v1.toNatClampNeg = [] := Classical.byContradiction (fun e => h ⟨g, e⟩)
    rw [if_pos hR, ite_self]
  · rw [if_neg (fun z => g z.1)]
theorem c_near {d : Nat} {n : Nat} {a : Nat → Nat → Int32} {b : Nat → Nat → Int64} {r : Nat → Nat → Option Nat} {σ : SV} {cl cl' : List Cls} {R R' : Nat → List Cls} {TL TS A : Nat} {TR : Nat → Nat} (h : (St a b r σ cl cl' R R' TL TS TR A)) {v1 v2 v3 v6 : Int32} {s u : Bool} : ∃ a' b', Den (d+18) 107 0 [.ref 14, .int v1, .int v2, .int v3, .int (bI s), .int (bI u), .int v6, zmJ, zmJ, zmJ] [] (zmMk n a b r) = some (some (.long (nearV σ cl R v1 v2 v3 s u v6)), zmMk n a' b' r) ∧ St a' b' r σ cl cl' R R' TL TS TR A := by
  obtain ⟨⟨n1, n8⟩, h16, h94, hs⟩ := h.n8
  by_cases g0 : toldR R v1
  · obtain ⟨g1, hR⟩ := g0
    obtain ⟨k, -, k2, rfl⟩ := inI_ex (by decide) (by decide) g1
    have hk : k < 4 := by omega
    rw [n_nat (by omega)] at hR
    have hT : isTx (TR k) := h.2.1.2.2.2.2.2.2.2.2.2.1.2.2.1 k hk
    have e0 := c_tldT (d := d+17) (n := n) (b := b) h hk hR
    by_cases g2 : isSt v2 v3 = true
    · by_cases g3 : inI v6 (iN 0) (iN 1) = true
      · obtain ⟨i, j, i1, j1, rfl, rfl⟩ := isSt_ex g2
        have hp := plc_ltB i1 j1 s u
        obtain ⟨a1, b1, e1, w1, f1, l1⟩ := c_follow (d := d+2) (n := n) (b := b) (r := r) hT (AS_ok σ cl (R k)) rfl rfl (Nat.zero_le (σ 0 0)) hp h.envC h.2.1.2.1 (h.rulC hk)
        have h1 := h.cF f1 l1
        have h16' : a1 16 0 = iN (σ 0 0) := h1.n8.2.1
        have hw2 : b1 59 (σ 0 0 * 5 + 2) = ffS σ cl R k (plc i j (bN s) (bN u)) 2 := w1 2 (by omega)
        have hw4 : b1 59 (σ 0 0 * 5 + 4) = ffS σ cl R k (plc i j (bN s) (bN u)) 4 := w1 4 (by omega)
        have s2 : ∀ d', Den (d'+1) 9 0 [.ref 55, .int (iN (σ 0 0)), .int (iN 2)] [] (zmMk n a1 b1 r) = _ := fun d' => c_sum (d := d') (n := n) (a := a1) (b := b1) (r := r) rfl rfl n8 (show 2 < 5 by omega)
        have s4 : ∀ d', Den (d'+1) 9 0 [.ref 55, .int (iN (σ 0 0)), .int (iN 4)] [] (zmMk n a1 b1 r) = _ := fun d' => c_sum (d := d') (n := n) (a := a1) (b := b1) (r := r) rfl rfl n8 (show 4 < 5 by omega)
        obtain ⟨x, x1, x2⟩ := ffS_nn σ cl R (k := k) n8 hp (show 2 ≠ 0 by omega)
        obtain ⟨y, y1, y2⟩ := ffS_nn σ cl R (k := k) n8 hp (show 4 ≠ 0 by omega)
        rw [x1] at hw2
        rw [y1] at hw4
        unfold nearV
        rw [if_pos ⟨g1, g2, g3⟩, n_nat (show k < 2147483648 by omega), if_neg hR, plI_n i1 j1, x1, y1, l_nat x2, l_nat y2]
        have hx0 := l_eq0 x2
        by_cases hz : x = 0
        · refine ⟨a1, b1, ?_, h1⟩
          rw [if_pos (show jN x = 0 by rw [hx0]; exact hz)]
          simp only [b107t_0, e0, Option.bind_some, Option.toList_some, Option.toList_none, List.cons_append, List.nil_append, true_or, or_true, if_true, bI_if, b107t_5 hT, b107t_12 hT, c_isState, b107t_17 hT, bI_if, g2, b107t_20 hT, c_within, b107t_27 hT, g3, b107t_34 hT, c_placeOf, b107t_50 hT, e1, b107t_53 hT, h16', s2, hw2, b107t_68 hT, cmp_0, l_eq0 x2, hz, show (jN 0 = (0:Int64)) = True from eq_true rfl, b107t_77 hT, if_true, if_false, Bool.false_eq_true, true_and, and_true, false_and, and_false, true_or, or_true, false_or, or_false, and_self, or_self, decide_true, decide_false, Bool.not_true, Bool.not_false, Bool.and_true, Bool.and_false, Bool.true_and, Bool.false_and, ite_self]
        · refine ⟨a1, _, ?_, h1.odd (jN (y / Nat.gcd y x)) (jN (x / Nat.gcd y x))⟩
          rw [if_neg (show ¬ jN x = 0 by rw [hx0]; exact hz)]
          simp only [b107t_0, e0, Option.bind_some, Option.toList_some, Option.toList_none, List.cons_append, List.nil_append, true_or, or_true, if_true, bI_if, b107t_5 hT, b107t_12 hT, c_isState, b107t_17 hT, bI_if, g2, b107t_20 hT, c_within, b107t_27 hT, g3, b107t_34 hT, c_placeOf, b107t_50 hT, e1, b107t_53 hT, h16', s2, hw2, b107t_68 hT, cmp_0, l_eq0 x2, hz, b107t_81 hT, s4, hw4, b107t_100 hT, c_set (x := y) (y := x) y2 x2 (by omega), b107t_105 hT, c_part, b107t_114 hT, if_true, if_false, Bool.false_eq_true, true_and, and_true, false_and, and_false, true_or, or_true, false_or, or_false, and_self, or_self, decide_true, decide_false, Bool.not_true, Bool.not_false, Bool.and_true, Bool.and_false, Bool.true_and, Bool.false_and, ite_self]
      · refine ⟨a, b, ?_, h⟩
        unfold nearV
        rw [if_neg (fun z => g3 z.2.2)]
        rw [Bool.not_eq_true] at g3
        simp only [b107t_0, e0, Option.bind_some, Option.toList_some, Option.toList_none, List.cons_append, List.nil_append, true_or, or_true, if_true, bI_if, b107t_5 hT, b107t_12 hT, c_isState, b107t_17 hT, bI_if, g2, b107t_20 hT, c_within, b107t_27 hT, g3, b107t_30 hT, if_true, if_false, Bool.false_eq_true, true_and, and_true, false_and, and_false, true_or, or_true, false_or, or_false, and_self, or_self, decide_true, decide_false, Bool.not_true, Bool.not_false, Bool.and_true, Bool.and_false, Bool.true_and, Bool.false_and, ite_self]
    · refine ⟨a, b, ?_, h⟩
      unfold nearV
      rw [if_neg (fun z => g2 z.2.1)]
      rw [Bool.not_eq_true] at g2
      simp only [b107t_0, e0, Option.bind_some, Option.toList_some, Option.toList_none, List.cons_append, List.nil_append, true_or, or_true, if_true, bI_if, b107t_5 hT, b107t_12 hT, c_isState, b107t_17 hT, bI_if, g2, b107t_30 hT, if_true, if_false, Bool.false_eq_true, true_and, and_true, false_and, and_false, true_or, or_true, false_or, or_false, and_self, or_self, decide_true, decide_false, Bool.not_true, Bool.not_false, Bool.and_true, Bool.and_false, Bool.true_and, Bool.false_and, ite_self]
  · refine ⟨a, b, ?_, h⟩
    rw [nearV_n g0, b107n_0, c_tldN h g0]
    simp only [Option.bind_some, Option.toList_some, Option.toList_none, List.cons_append, List.nil_append, true_or, or_true, if_true, bI_if, b107n_5, b107n_30]
theorem m_near {d : Nat} {n : Nat} {a : Nat → Nat → Int32} {b : Nat → Nat → Int64} {r : Nat → Nat → Option Nat} {σ : SV} {cl cl' : List Cls} {R R' : Nat → List Cls} {TL TS A : Nat} {TR : Nat → Nat} (h : (St a b r σ cl cl' R R' TL TS TR A)) {v1 v2 v3 v6 : Int32} {s u : Bool} : ∃ a' b', Den (d+18) 231 0 [.ref 94, .int v1, .int v2, .int v3, .int (bI s), .int (bI u), .int v6] [] (zmMk n a b r) = some (some (.long (nearV σ cl R v1 v2 v3 s u v6)), zmMk n a' b' r) ∧ St a' b' r σ cl cl' R R' TL TS TR A := by
  obtain ⟨⟨n1, n8⟩, h16, h94, hs⟩ := h.n8
  have g9 : inI (iN 0) (iN 0) (iN (σ 0 0)) = true := (inI_n (by omega) (by omega) (by omega)).trans (by rw [decide_eq_true (by omega), decide_eq_true (by omega)]; rfl)
  rcases m_isTold (d := d+16) (v1 := v1) (n := n) h with ⟨g0, e0⟩ | ⟨g0, e0⟩
  · obtain ⟨g1, hR⟩ := g0
    obtain ⟨k, -, k2, rfl⟩ := inI_ex (by decide) (by decide) g1
    have hk : k < 4 := by omega
    rw [n_nat (by omega)] at hR
    by_cases g2 : isSt v2 v3 = true
    · by_cases g3 : inI v6 (iN 0) (iN 1) = true
      · obtain ⟨i, j, i1, j1, rfl, rfl⟩ := isSt_ex g2
        have hp := plc_ltB i1 j1 s u
        have h1 : (St (uI (tldM a) 94 42 (iN k)) b r σ cl cl' R R' TL TS TR A) := h.tld.put (by omega)
        have ht1 : tldM (uI (tldM a) 94 42 (iN k)) = uI (tldM a) 94 42 (iN k) := tldM_fix2 (by
          rw [uI_at, if_neg (by omega), uI_at, if_neg (by omega)]
          unfold tldM
          rw [uI_at, if_neg (by omega), uI_at, if_neg (by omega), uI_at, if_neg (by omega), uI_at, if_pos ⟨rfl, rfl⟩]) (by
          rw [uI_at, if_neg (by omega)]
          exact tldM_39 a)
        obtain ⟨a2, b2, e2, w2, o2⟩ := m_through (d := d+2) (n := n) (b := b) (r := r) (vt := iN 0) (vp := iN (plc i j (bN s) (bN u))) rfl rfl (Nat.zero_le (σ 0 0)) hp (AS_ok σ cl (R k)) (h1.eM (n := n) ht1) (ActM_rule n8 hk (by rw [uI_at, if_pos ⟨rfl, rfl⟩]) (h1.rulM (n := n) hk))
        have h2 : (St a2 b2 r σ cl cl' R R' TL TS TR A) := h1.qm o2.q (fun q hq => o2.2.2.1 q (by omega) (by omega) (by omega))
        have hw2 : b2 94 51 = ffS σ cl R k (plc i j (bN s) (bN u)) 2 := w2 2 (by omega)
        have hw4 : b2 94 53 = ffS σ cl R k (plc i j (bN s) (bN u)) 4 := w2 4 (by omega)
        obtain ⟨x, x1, x2⟩ := ffS_nn σ cl R (k := k) n8 hp (show 2 ≠ 0 by omega)
        obtain ⟨y, y1, y2⟩ := ffS_nn σ cl R (k := k) n8 hp (show 4 ≠ 0 by omega)
        rw [x1] at hw2
        rw [y1] at hw4
        unfold nearV
        rw [if_pos ⟨g1, g2, g3⟩, n_nat (show k < 2147483648 by omega), if_neg hR, plI_n i1 j1, x1, y1, l_nat x2, l_nat y2]
        have hx0 := l_eq0 x2
        refine ⟨a2, b2, ?_, h2⟩
        by_cases hz : x = 0
        · rw [if_pos (show jN x = 0 by rw [hx0]; exact hz)]
          simp only [b231_0, e0, Option.bind_some, Option.toList_some, Option.toList_none, List.cons_append, List.nil_append, true_or, or_true, if_true, bI_if, b231_5, show (iN 1 = iN 0) = False from by decide +kernel, b231_8, m_isState h94, g9, b231_15, bI_if, g2, b231_18, m_in, b231_25, g3, b231_32, m_asTold, b231_36, m_told, b231_52, e2, b231_55, hw2, cmp_0, l_eq0 x2, hz, show (jN 0 = (0:Int64)) = True from eq_true rfl, b231_64, b231_83, if_true, if_false, Bool.false_eq_true, true_and, and_true, false_and, and_false, true_or, or_true, false_or, or_false, and_self, or_self, decide_true, decide_false, Bool.not_true, Bool.not_false, Bool.and_true, Bool.and_false, Bool.true_and, Bool.false_and, ite_self]
        · rw [if_neg (show ¬ jN x = 0 by rw [hx0]; exact hz)]
          have e3 : Den (d+17) 156 0 [.long (jN y), zmJ, .long (jN x), zmJ, .int v6, zmJ, zmJ] [] (zmMk n a2 b2 r) = some (some (.long (redV y x v6)), zmMk n a2 b2 r) := m_through2 (d := d+16) y2 x2 (by omega)
          simp only [b231_0, e0, Option.bind_some, Option.toList_some, Option.toList_none, List.cons_append, List.nil_append, true_or, or_true, if_true, bI_if, b231_5, show (iN 1 = iN 0) = False from by decide +kernel, b231_8, m_isState h94, g9, b231_15, bI_if, g2, b231_18, m_in, b231_25, g3, b231_32, m_asTold, b231_36, m_told, b231_52, e2, b231_55, hw2, hw4, cmp_0, l_eq0 x2, hz, b231_70, e3, b231_83, if_true, if_false, Bool.false_eq_true, true_and, and_true, false_and, and_false, true_or, or_true, false_or, or_false, and_self, or_self, decide_true, decide_false, Bool.not_true, Bool.not_false, Bool.and_true, Bool.and_false, Bool.true_and, Bool.false_and, ite_self]
      · refine ⟨a, b, ?_, h⟩
        unfold nearV
        rw [if_neg (fun z => g3 z.2.2)]
        rw [Bool.not_eq_true] at g3
        simp only [b231_0, e0, Option.bind_some, Option.toList_some, Option.toList_none, List.cons_append, List.nil_append, true_or, or_true, if_true, bI_if, b231_5, show (iN 1 = iN 0) = False from by decide +kernel, b231_8, m_isState h94, g9, b231_15, bI_if, g2, b231_18, m_in, b231_25, g3, b231_28, if_true, if_false, Bool.false_eq_true, true_and, and_true, false_and, and_false, true_or, or_true, false_or, or_false, and_self, or_self, decide_true, decide_false, Bool.not_true, Bool.not_false, Bool.and_true, Bool.and_false, Bool.true_and, Bool.false_and, ite_self]
    · refine ⟨a, b, ?_, h⟩
      unfold nearV
      rw [if_neg (fun z => g2 z.2.1)]
      rw [Bool.not_eq_true] at g2
      simp only [b231_0, e0, Option.bind_some, Option.toList_some, Option.toList_none, List.cons_append, List.nil_append, true_or, or_true, if_true, bI_if, b231_5, show (iN 1 = iN 0) = False from by decide +kernel, b231_8, m_isState h94, g9, b231_15, bI_if, g2, b231_28, if_true, if_false, Bool.false_eq_true, true_and, and_true, false_and, and_false, true_or, or_true, false_or, or_false, and_self, or_self, decide_true, decide_false, Bool.not_true, Bool.not_false, Bool.and_true, Bool.and_false, Bool.true_and, Bool.false_and, ite_self]
  · refine ⟨a, b, ?_, h⟩
    rw [nearV_n g0, b231_0, e0]
    simp only [Option.bind_some, Option.toList_some, Option.toList_none, List.cons_append, List.nil_append, true_or, or_true, if_true, bI_if, b231_5, b231_28, if_true, if_false, Bool.false_eq_true, true_and, and_true, false_and, and_false, true_or, or_true, false_or, or_false, and_self, or_self, decide_true, decide_false, Bool.not_true, Bool.not_false, Bool.and_true, Bool.and_false, Bool.true_and, Bool.false_and, ite_self]
