/-! ===== questions: by ===== -/
def byW (σ : SV) (cl R : List Cls) (t p : Nat) (y : Int32) (v7 : Int32) : Int64 := if v7 = iN 4 then (if y = iN 0 ∨ t = σ 0 0 then -1 else Int32.toInt64 (iN (AS σ cl R t p))) else FF (QS σ cl) (σ 0 5) (AS σ cl R) (σ 0 0 - t) t p v7.toNatClampNeg
def byV (σ : SV) (cl : List Cls) (R : Nat → List Cls) (v1 v2 v3 v4 : Int32) (s u : Bool) (v7 : Int32) : Int64 := if inI v1 (iN 0) (iN 3) = true ∧ inI v2 (iN 0) (iN (σ 0 0)) = true ∧ isSt v3 v4 = true ∧ inI v7 (iN 0) (iN 4) = true then (if R v1.toNatClampNeg = [] then (-2000000000000000000) else byW σ cl (R v1.toNatClampNeg) v2.toNatClampNeg (plI v3 v4 s u) v3 v7) else (-2000000000000000000)
theorem byV_n {σ : SV} {cl : List Cls} {R : Nat → List Cls} {v1 v2 v3 v4 : Int32} {s u : Bool} {v7 : Int32} (h : ¬ toldR R v1) : byV σ cl R v1 v2 v3 v4 s u v7 = (-2000000000000000000) := by
  unfold byV
  by_cases g : inI v1 (iN 0) (iN 3) = true
  · have hR : R v1.toNatClampNeg = [] := Classical.byContradiction (fun e => h ⟨g, e⟩)
    rw [if_pos hR, ite_self]
  · rw [if_neg (fun z => g z.1)]
theorem w5 {w : Nat} (h : w ≤ 4) (h4 : ¬ w = 4) : w = 0 ∨ w = 1 ∨ w = 2 ∨ w = 3 := by omega
theorem c_by {d : Nat} {n : Nat} {a : Nat → Nat → Int32} {b : Nat → Nat → Int64} {r : Nat → Nat → Option Nat} {σ : SV} {cl cl' : List Cls} {R R' : Nat → List Cls} {TL TS A : Nat} {TR : Nat → Nat} (h : (St a b r σ cl cl' R R' TL TS TR A)) {v1 v2 v3 v4 v7 : Int32} {s u : Bool} : ∃ a' b', Den (d+18) 102 0 [.ref 14, .int v1, .int v2, .int v3, .int v4, .int (bI s), .int (bI u), .int v7, zmJ, zmJ] [] (zmMk n a b r) = some (some (.long (byV σ cl R v1 v2 v3 v4 s u v7)), zmMk n a' b' r) ∧ St a' b' r σ cl cl' R R' TL TS TR A := by
  obtain ⟨⟨n1, n8⟩, h16, h94, hs⟩ := h.n8
  by_cases g0 : toldR R v1
  · obtain ⟨g1, hR⟩ := g0
    obtain ⟨k, -, k2, rfl⟩ := inI_ex (by decide) (by decide) g1
    have hk : k < 4 := by omega
    rw [n_nat (by omega)] at hR
    have hT : isTx (TR k) := h.2.1.2.2.2.2.2.2.2.2.2.1.2.2.1 k hk
    have e0 := c_tldT (d := d+17) (n := n) (b := b) h hk hR
    by_cases g2 : inI v2 (iN 0) (iN (σ 0 0)) = true
    · by_cases g3 : isSt v3 v4 = true
      · by_cases g4 : inI v7 (iN 0) (iN 4) = true
        · obtain ⟨t, -, t1, rfl⟩ := inI_ex (by decide) (by omega) g2
          obtain ⟨i, j, i1, j1, rfl, rfl⟩ := isSt_ex g3
          obtain ⟨w, -, w4, rfl⟩ := inI_ex (by decide) (by decide) g4
          have hp := plc_ltB i1 j1 s u
          unfold byV
          rw [if_pos ⟨g1, g2, g3, g4⟩, n_nat (show k < 2147483648 by omega), if_neg hR, plI_n i1 j1, n_nat (show t < 2147483648 by omega)]
          unfold byW
          by_cases hw : w = 4
          · subst hw
            rw [if_pos rfl]
            have hi0 : (iN i = iN 0) = (i = 0) := n_eq (by omega) (by omega)
            by_cases hz : i = 0
            · subst hz
              rw [if_pos (Or.inl rfl)]
              refine ⟨a, b, ?_, h⟩
              simp only [b102t_0, e0, Option.bind_some, Option.toList_some, Option.toList_none, List.cons_append, List.nil_append, true_or, or_true, if_true, bI_if, b102t_5 hT, b102t_12 hT, h16, c_within, g2, b102t_24 hT, bI_if, b102t_27 hT, c_isState, g3, b102t_33 hT, b102t_36 hT, g4, b102t_43 hT, b102t_50 hT, c_placeOf, b102t_60 hT, b102t_68 hT, b102t_83 hT, b102t_102 hT, if_true, if_false, Bool.false_eq_true, true_and, and_true, false_and, and_false, true_or, or_true, false_or, or_false, and_self, or_self, decide_true, decide_false, Bool.not_true, Bool.not_false, Bool.and_true, Bool.and_false, Bool.true_and, Bool.false_and, ite_self]
            · by_cases hn : t = σ 0 0
              · rw [if_pos (Or.inr hn)]
                have hlt : (iN t < iN (σ 0 0)) = False := by rw [n_lt (by omega) (by omega)]; exact eq_false (by omega)
                refine ⟨a, b, ?_, h⟩
                simp only [b102t_0, e0, Option.bind_some, Option.toList_some, Option.toList_none, List.cons_append, List.nil_append, true_or, or_true, if_true, bI_if, b102t_5 hT, b102t_12 hT, h16, c_within, g2, b102t_24 hT, bI_if, b102t_27 hT, c_isState, g3, b102t_33 hT, b102t_36 hT, g4, b102t_43 hT, b102t_50 hT, c_placeOf, b102t_60 hT, b102t_68 hT, hi0, hz, b102t_72 hT, hlt, b102t_83 hT, b102t_102 hT, if_true, if_false, Bool.false_eq_true, true_and, and_true, false_and, and_false, true_or, or_true, false_or, or_false, and_self, or_self, decide_true, decide_false, Bool.not_true, Bool.not_false, Bool.and_true, Bool.and_false, Bool.true_and, Bool.false_and, ite_self]
              · rw [if_neg (fun z => z.elim (fun e => hz (Eq.mp hi0 e)) hn)]
                have hlt : (iN t < iN (σ 0 0)) = True := by rw [n_lt (by omega) (by omega)]; exact eq_true (by omega)
                obtain ⟨a1, e1, f1⟩ := h.rulC (n := n) hk (d+4) a b (iN t) (iN (plc i j (bN s) (bN u))) t _ agD.refl rfl rfl (by omega) hp
                refine ⟨a1, b, ?_, h.qc f1.q rfl rfl (h.2.2.2.fr f1 rfl rfl)⟩
                simp only [b102t_0, e0, Option.bind_some, Option.toList_some, Option.toList_none, List.cons_append, List.nil_append, true_or, or_true, if_true, bI_if, b102t_5 hT, b102t_12 hT, h16, c_within, g2, b102t_24 hT, bI_if, b102t_27 hT, c_isState, g3, b102t_33 hT, b102t_36 hT, g4, b102t_43 hT, b102t_50 hT, c_placeOf, b102t_60 hT, b102t_68 hT, hi0, hz, b102t_72 hT, hlt, b102t_89 hT, e1, b102t_101 hT, b102t_102 hT, if_true, if_false, Bool.false_eq_true, true_and, and_true, false_and, and_false, true_or, or_true, false_or, or_false, and_self, or_self, decide_true, decide_false, Bool.not_true, Bool.not_false, Bool.and_true, Bool.and_false, Bool.true_and, Bool.false_and, ite_self]
          · have hw4 : (iN w = iN 4) = False := by rw [n_eq (by omega) (by omega)]; exact eq_false hw
            rw [if_neg (fun e => hw (by rw [hw4] at e; exact e.elim)), n_nat (show w < 2147483648 by omega)]
            obtain ⟨a1, b1, e1, w1, f1, l1⟩ := c_follow (d := d+2) (n := n) (b := b) (r := r) (vt := iN t) (vp := iN (plc i j (bN s) (bN u))) hT (AS_ok σ cl (R k)) rfl rfl t1 hp h.envC h.2.1.2.1 (h.rulC hk)
            have h1 := h.cF f1 l1
            have h16' : a1 16 0 = iN (σ 0 0) := h1.n8.2.1
            have s2 : ∀ d', Den (d'+1) 9 0 [.ref 55, .int (iN (σ 0 0)), .int (iN w)] [] (zmMk n a1 b1 r) = _ := fun d' => c_sum (d := d') (n := n) (a := a1) (b := b1) (r := r) rfl rfl n8 (show w < 5 by omega)
            refine ⟨a1, b1, ?_, h1⟩
            simp only [b102t_0, e0, Option.bind_some, Option.toList_some, Option.toList_none, List.cons_append, List.nil_append, true_or, or_true, if_true, bI_if, b102t_5 hT, b102t_12 hT, h16, c_within, g2, b102t_24 hT, bI_if, b102t_27 hT, c_isState, g3, b102t_33 hT, b102t_36 hT, g4, b102t_43 hT, b102t_50 hT, c_placeOf, b102t_60 hT, hw4, b102t_103 hT, e1, b102t_115 hT, h16', s2, w1 w (by omega), b102t_131 hT, if_true, if_false, Bool.false_eq_true, true_and, and_true, false_and, and_false, true_or, or_true, false_or, or_false, and_self, or_self, decide_true, decide_false, Bool.not_true, Bool.not_false, Bool.and_true, Bool.and_false, Bool.true_and, Bool.false_and, ite_self]
        · refine ⟨a, b, ?_, h⟩
          unfold byV
          rw [if_neg (fun z => g4 z.2.2.2)]
          rw [Bool.not_eq_true] at g4
          simp only [b102t_0, e0, Option.bind_some, Option.toList_some, Option.toList_none, List.cons_append, List.nil_append, true_or, or_true, if_true, bI_if, b102t_5 hT, b102t_12 hT, h16, c_within, g2, b102t_24 hT, bI_if, b102t_27 hT, c_isState, g3, b102t_33 hT, b102t_36 hT, g4, b102t_43 hT, b102t_46 hT, if_true, if_false, Bool.false_eq_true, true_and, and_true, false_and, and_false, true_or, or_true, false_or, or_false, and_self, or_self, decide_true, decide_false, Bool.not_true, Bool.not_false, Bool.and_true, Bool.and_false, Bool.true_and, Bool.false_and, ite_self]
      · refine ⟨a, b, ?_, h⟩
        unfold byV
        rw [if_neg (fun z => g3 z.2.2.1)]
        rw [Bool.not_eq_true] at g3
        simp only [b102t_0, e0, Option.bind_some, Option.toList_some, Option.toList_none, List.cons_append, List.nil_append, true_or, or_true, if_true, bI_if, b102t_5 hT, b102t_12 hT, h16, c_within, g2, b102t_24 hT, bI_if, b102t_27 hT, c_isState, g3, b102t_33 hT, b102t_46 hT, if_true, if_false, Bool.false_eq_true, true_and, and_true, false_and, and_false, true_or, or_true, false_or, or_false, and_self, or_self, decide_true, decide_false, Bool.not_true, Bool.not_false, Bool.and_true, Bool.and_false, Bool.true_and, Bool.false_and, ite_self]
    · refine ⟨a, b, ?_, h⟩
      unfold byV
      rw [if_neg (fun z => g2 z.2.1)]
      rw [Bool.not_eq_true] at g2
      simp only [b102t_0, e0, Option.bind_some, Option.toList_some, Option.toList_none, List.cons_append, List.nil_append, true_or, or_true, if_true, bI_if, b102t_5 hT, b102t_12 hT, h16, c_within, g2, b102t_24 hT, bI_if, b102t_46 hT, if_true, if_false, Bool.false_eq_true, true_and, and_true, false_and, and_false, true_or, or_true, false_or, or_false, and_self, or_self, decide_true, decide_false, Bool.not_true, Bool.not_false, Bool.and_true, Bool.and_false, Bool.true_and, Bool.false_and, ite_self]
  · refine ⟨a, b, ?_, h⟩
    rw [byV_n g0, b102n_0, c_tldN h g0]
    simp only [Option.bind_some, Option.toList_some, Option.toList_none, List.cons_append, List.nil_append, true_or, or_true, if_true, bI_if, b102n_5, b102n_46]
theorem m_by {d : Nat} {n : Nat} {a : Nat → Nat → Int32} {b : Nat → Nat → Int64} {r : Nat → Nat → Option Nat} {σ : SV} {cl cl' : List Cls} {R R' : Nat → List Cls} {TL TS A : Nat} {TR : Nat → Nat} (h : (St a b r σ cl cl' R R' TL TS TR A)) {v1 v2 v3 v4 v7 : Int32} {s u : Bool} : ∃ a' b', Den (d+18) 230 0 [.ref 94, .int v1, .int v2, .int v3, .int v4, .int (bI s), .int (bI u), .int v7, zmJ] [] (zmMk n a b r) = some (some (.long (byV σ cl R v1 v2 v3 v4 s u v7)), zmMk n a' b' r) ∧ St a' b' r σ cl cl' R R' TL TS TR A := by
  obtain ⟨⟨n1, n8⟩, h16, h94, hs⟩ := h.n8
  have n10 : (iN 1 = iN 0) = False := by decide +kernel
  rcases m_isTold (d := d+16) (v1 := v1) (n := n) h with ⟨g0, e0⟩ | ⟨g0, e0⟩
  · obtain ⟨g1, hR⟩ := g0
    obtain ⟨k, -, k2, rfl⟩ := inI_ex (by decide) (by decide) g1
    have hk : k < 4 := by omega
    rw [n_nat (by omega)] at hR
    by_cases g2 : inI v2 (iN 0) (iN (σ 0 0)) = true
    · by_cases g3 : isSt v3 v4 = true
      · by_cases g4 : inI v7 (iN 0) (iN 4) = true
        · obtain ⟨t, -, t1, rfl⟩ := inI_ex (by decide) (by omega) g2
          obtain ⟨i, j, i1, j1, rfl, rfl⟩ := isSt_ex g3
          obtain ⟨w, -, w4, rfl⟩ := inI_ex (by decide) (by decide) g4
          have hp := plc_ltB i1 j1 s u
          have h94t : tldM a 94 0 = iN (σ 0 0) := h.tld.2.2.1.1.1
          unfold byV
          rw [if_pos ⟨g1, g2, g3, g4⟩, n_nat (show k < 2147483648 by omega), if_neg hR, plI_n i1 j1, n_nat (show t < 2147483648 by omega)]
          unfold byW
          by_cases hw : w = 4
          · subst hw
            rw [if_pos rfl]
            have hi0 : (iN i = iN 0) = (i = 0) := n_eq (by omega) (by omega)
            by_cases hz : i = 0
            · subst hz
              rw [if_pos (Or.inl rfl)]
              refine ⟨tldM a, b, ?_, h.tld⟩
              simp only [b230_0, e0, Option.bind_some, Option.toList_some, Option.toList_none, List.cons_append, List.nil_append, true_or, or_true, if_true, bI_if, b230_5, n10, b230_8, m_isState h94, g2, b230_16, bI_if, g3, b230_19, m_in, b230_26, g4, b230_33, m_asTold, b230_37, m_told, b230_47, b230_55, b230_67, b230_82, if_true, if_false, Bool.false_eq_true, true_and, and_true, false_and, and_false, true_or, or_true, false_or, or_false, and_self, or_self, decide_true, decide_false, Bool.not_true, Bool.not_false, Bool.and_true, Bool.and_false, Bool.true_and, Bool.false_and, ite_self]
            · by_cases hn : t = σ 0 0
              · rw [if_pos (Or.inr hn)]
                have hlt : (iN t = iN (σ 0 0)) = True := by rw [n_eq (by omega) (by omega)]; exact eq_true hn
                refine ⟨tldM a, b, ?_, h.tld⟩
                simp only [b230_0, e0, Option.bind_some, Option.toList_some, Option.toList_none, List.cons_append, List.nil_append, true_or, or_true, if_true, bI_if, b230_5, n10, b230_8, m_isState h94, g2, b230_16, bI_if, g3, b230_19, m_in, b230_26, g4, b230_33, m_asTold, b230_37, m_told, b230_47, b230_55, hi0, hz, b230_59, h94t, hlt, b230_67, b230_82, if_true, if_false, Bool.false_eq_true, true_and, and_true, false_and, and_false, true_or, or_true, false_or, or_false, and_self, or_self, decide_true, decide_false, Bool.not_true, Bool.not_false, Bool.and_true, Bool.and_false, Bool.true_and, Bool.false_and, ite_self]
              · rw [if_neg (fun z => z.elim (fun e => hz (Eq.mp hi0 e)) hn)]
                have hlt : (iN t = iN (σ 0 0)) = False := by rw [n_eq (by omega) (by omega)]; exact eq_false hn
                obtain ⟨a1, e1, f1⟩ := h.tld.rulM (n := n) hk (d+5) (tldM a) b (iN k) (iN t) (iN (plc i j (bN s) (bN u))) t _ agD.refl rfl rfl rfl (by omega) hp
                refine ⟨a1, b, ?_, h.tld.qm f1.q (fun _ _ => rfl)⟩
                simp only [b230_0, e0, Option.bind_some, Option.toList_some, Option.toList_none, List.cons_append, List.nil_append, true_or, or_true, if_true, bI_if, b230_5, n10, b230_8, m_isState h94, g2, b230_16, bI_if, g3, b230_19, m_in, b230_26, g4, b230_33, m_asTold, b230_37, m_told, b230_47, b230_55, hi0, hz, b230_59, h94t, hlt, b230_73, e1, b230_81, b230_82, if_true, if_false, Bool.false_eq_true, true_and, and_true, false_and, and_false, true_or, or_true, false_or, or_false, and_self, or_self, decide_true, decide_false, Bool.not_true, Bool.not_false, Bool.and_true, Bool.and_false, Bool.true_and, Bool.false_and, ite_self]
          · have hw4 : (iN w = iN 4) = False := by rw [n_eq (by omega) (by omega)]; exact eq_false hw
            rw [if_neg (fun e => hw (by rw [hw4] at e; exact e.elim)), n_nat (show w < 2147483648 by omega)]
            have h1 : (St (uI (tldM a) 94 42 (iN k)) b r σ cl cl' R R' TL TS TR A) := h.tld.put (by omega)
            have ht1 : tldM (uI (tldM a) 94 42 (iN k)) = uI (tldM a) 94 42 (iN k) := tldM_fix2 (by
              rw [uI_at, if_neg (by omega), uI_at, if_neg (by omega)]
              unfold tldM
              rw [uI_at, if_neg (by omega), uI_at, if_neg (by omega), uI_at, if_neg (by omega), uI_at, if_pos ⟨rfl, rfl⟩]) (by
              rw [uI_at, if_neg (by omega)]
              exact tldM_39 a)
            obtain ⟨a2, b2, e2, w2, o2⟩ := m_through (d := d+2) (n := n) (b := b) (r := r) (vt := iN t) (vp := iN (plc i j (bN s) (bN u))) rfl rfl t1 hp (AS_ok σ cl (R k)) (h1.eM (n := n) ht1) (ActM_rule n8 hk (by rw [uI_at, if_pos ⟨rfl, rfl⟩]) (h1.rulM (n := n) hk))
            have h2 : (St a2 b2 r σ cl cl' R R' TL TS TR A) := h1.qm o2.q (fun q hq => o2.2.2.1 q (by omega) (by omega) (by omega))
            refine ⟨a2, b2, ?_, h2⟩
            simp only [b230_0, e0, Option.bind_some, Option.toList_some, Option.toList_none, List.cons_append, List.nil_append, true_or, or_true, if_true, bI_if, b230_5, n10, b230_8, m_isState h94, g2, b230_16, bI_if, g3, b230_19, m_in, b230_26, g4, b230_33, m_asTold, b230_37, m_told, b230_47, hw4, b230_83, e2, b230_95, if_true, if_false, Bool.false_eq_true, true_and, and_true, false_and, and_false, true_or, or_true, false_or, or_false, and_self, or_self, decide_true, decide_false, Bool.not_true, Bool.not_false, Bool.and_true, Bool.and_false, Bool.true_and, Bool.false_and, ite_self]
            have q0 : b2 94 49 = FF (QS σ cl) (σ 0 5) (AS σ cl (R k)) (σ 0 0 - t) t (plc i j (bN s) (bN u)) 0 := w2 0 (by omega)
            have q1 : b2 94 50 = FF (QS σ cl) (σ 0 5) (AS σ cl (R k)) (σ 0 0 - t) t (plc i j (bN s) (bN u)) 1 := w2 1 (by omega)
            have q2 : b2 94 51 = FF (QS σ cl) (σ 0 5) (AS σ cl (R k)) (σ 0 0 - t) t (plc i j (bN s) (bN u)) 2 := w2 2 (by omega)
            have q3 : b2 94 52 = FF (QS σ cl) (σ 0 5) (AS σ cl (R k)) (σ 0 0 - t) t (plc i j (bN s) (bN u)) 3 := w2 3 (by omega)
            rcases w5 w4 hw with rfl | rfl | rfl | rfl
            · rw [if_pos rfl, b230_100, b230_137, q0]
            · rw [if_neg (by decide +kernel), b230_107, if_pos rfl, b230_113, b230_137, q1]
            · rw [if_neg (by decide +kernel), b230_107, if_neg (by decide +kernel), b230_120, if_pos rfl, b230_126, b230_137, q2]
            · rw [if_neg (by decide +kernel), b230_107, if_neg (by decide +kernel), b230_120, if_neg (by decide +kernel), b230_133, b230_137, q3]
        · refine ⟨a, b, ?_, h⟩
          unfold byV
          rw [if_neg (fun z => g4 z.2.2.2)]
          rw [Bool.not_eq_true] at g4
          simp only [b230_0, e0, Option.bind_some, Option.toList_some, Option.toList_none, List.cons_append, List.nil_append, true_or, or_true, if_true, bI_if, b230_5, n10, b230_8, m_isState h94, g2, b230_16, bI_if, g3, b230_19, m_in, b230_26, g4, b230_29, if_true, if_false, Bool.false_eq_true, true_and, and_true, false_and, and_false, true_or, or_true, false_or, or_false, and_self, or_self, decide_true, decide_false, Bool.not_true, Bool.not_false, Bool.and_true, Bool.and_false, Bool.true_and, Bool.false_and, ite_self]
      · refine ⟨a, b, ?_, h⟩
        unfold byV
        rw [if_neg (fun z => g3 z.2.2.1)]
        rw [Bool.not_eq_true] at g3
        simp only [b230_0, e0, Option.bind_some, Option.toList_some, Option.toList_none, List.cons_append, List.nil_append, true_or, or_true, if_true, bI_if, b230_5, n10, b230_8, m_isState h94, g2, b230_16, bI_if, g3, b230_29, if_true, if_false, Bool.false_eq_true, true_and, and_true, false_and, and_false, true_or, or_true, false_or, or_false, and_self, or_self, decide_true, decide_false, Bool.not_true, Bool.not_false, Bool.and_true, Bool.and_false, Bool.true_and, Bool.false_and, ite_self]
    · refine ⟨a, b, ?_, h⟩
      unfold byV
      rw [if_neg (fun z => g2 z.2.1)]
      rw [Bool.not_eq_true] at g2
      simp only [b230_0, e0, Option.bind_some, Option.toList_some, Option.toList_none, List.cons_append, List.nil_append, true_or, or_true, if_true, bI_if, b230_5, n10, b230_8, m_isState h94, g2, b230_16, bI_if, b230_29, if_true, if_false, Bool.false_eq_true, true_and, and_true, false_and, and_false, true_or, or_true, false_or, or_false, and_self, or_self, decide_true, decide_false, Bool.not_true, Bool.not_false, Bool.and_true, Bool.and_false, Bool.true_and, Bool.false_and, ite_self]
  · refine ⟨a, b, ?_, h⟩
    rw [byV_n g0, b230_0, e0]
    simp only [Option.bind_some, Option.toList_some, Option.toList_none, List.cons_append, List.nil_append, true_or, or_true, if_true, bI_if, b230_5, b230_29, if_true, if_false, Bool.false_eq_true, true_and, and_true, false_and, and_false, true_or, or_true, false_or, or_false, and_self, or_self, decide_true, decide_false, Bool.not_true, Bool.not_false, Bool.and_true, Bool.and_false, Bool.true_and, Bool.false_and, ite_self]
