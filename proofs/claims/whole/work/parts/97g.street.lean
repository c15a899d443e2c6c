/-! ===== THE STREET as a text: the reference; the call ===== -/
theorem m_kindFor {d c : Nat} {n : Nat} {a : Nat → Nat → Int32} {b : Nat → Nat → Int64} {r : Nat → Nat → Option Nat} (hc : c < 257) : Den (d) 160 0 [.int (nxV c)] [] (zmMk n a b r) = some (some (.int (if kdS c < 4 then iN (kdS c) else -1)), (zmMk n a b r)) := by
  unfold kdS
  rw [b160_0]
  by_cases h1 : c = 102
  · rw [if_pos (nxV_y h1 (by omega)), if_pos h1, b160_6, b160_41, if_pos (by omega)]
  · rw [if_neg (nxV_n h1 (by omega)), if_neg h1, b160_10]
    by_cases h2 : c = 117
    · rw [if_pos (nxV_y h2 (by omega)), if_pos h2, b160_16, b160_41, if_pos (by omega)]
    · rw [if_neg (nxV_n h2 (by omega)), if_neg h2, b160_20]
      by_cases h3 : c = 119
      · rw [if_pos (nxV_y h3 (by omega)), if_pos h3, b160_26, b160_41, if_pos (by omega)]
      · rw [if_neg (nxV_n h3 (by omega)), if_neg h3, b160_30]
        by_cases h4 : c = 115
        · rw [if_pos (nxV_y h4 (by omega)), if_pos h4, b160_36, b160_41, if_pos (by omega)]
        · rw [if_neg (nxV_n h4 (by omega)), if_neg h4, b160_40, b160_41, if_neg (by omega)]
def MPc (len : Nat) (nx : Nat → Nat) (a : Nat → Nat → Int32) (p pc tot : Nat) (K : Nat → Nat) : Prop := a 94 9 = iN p ∧ a 94 10 = iN len ∧ a 94 5 = iN tot ∧ a 94 6 = iN pc ∧ (∀ j, j < tot → a 97 j = iN (K j)) ∧ ∀ j, j < len → (a 95 j &&& iN 255) = iN (nx j)
def frG (a a' : Nat → Nat → Int32) : Prop := (∀ q, q ≠ 94 → q ≠ 97 → a' q = a q) ∧ ∀ j, (j ≤ 4 ∨ j = 8 ∨ j = 10 ∨ 13 ≤ j) → a' 94 j = a 94 j
theorem frG.refl {a : Nat → Nat → Int32} : frG a a := ⟨fun _ _ _ => rfl, fun _ _ => rfl⟩
theorem frG.trans {a a1 a2 : Nat → Nat → Int32} (h : frG a a1) (g : frG a1 a2) : frG a a2 := ⟨fun q h1 h2 => (g.1 q h1 h2).trans (h.1 q h1 h2), fun j hj => (g.2 j hj).trans (h.2 j hj)⟩
theorem frG.p {a : Nat → Nat → Int32} {j : Nat} {v : Int32} (hj : j = 5 ∨ j = 6 ∨ j = 9 ∨ j = 11 ∨ j = 12) : frG a (uI a 94 j v) := ⟨fun q h1 _ => uI_ne h1, fun i hi => uI_nj (by omega)⟩
theorem frG.k {a : Nat → Nat → Int32} {j : Nat} {v : Int32} : frG a (uI a 97 j v) := ⟨fun q _ h1 => uI_ne h1, fun i hi => by rw [uI_ne (by omega)]⟩
def nmA (a : Nat → Nat → Int32) (x p : Nat) : Nat → Nat → Int32 := uI (uI a 94 12 (iN x)) 94 9 (iN p)
theorem nmA_fr (a : Nat → Nat → Int32) (x p : Nat) : frG a (nmA a x p) := (frG.p (by omega)).trans (frG.p (by omega))
theorem nmA_12 {a : Nat → Nat → Int32} {x p : Nat} : nmA a x p 94 12 = iN x := by
  unfold nmA
  rw [uI_nj (by omega), uI_self]
theorem nmA_9 {a : Nat → Nat → Int32} {x p : Nat} : nmA a x p 94 9 = iN p := by
  unfold nmA
  rw [uI_self]
theorem nmA_o {a : Nat → Nat → Int32} {x p j : Nat} (h1 : j ≠ 9) (h2 : j ≠ 12) : nmA a x p 94 j = a 94 j := by
  unfold nmA
  rw [uI_nj h1, uI_nj h2]
theorem m_numS {d len p : Nat} {n : Nat} {b : Nat → Nat → Int64} {r : Nat → Nat → Option Nat} {nx : Nat → Nat} {a : Nat → Nat → Int32} (hH : PrM len nx) (hd : isDg (nx p) = true) (h9 : a 94 9 = iN p) (h10 : a 94 10 = iN len) (hb : ∀ j, j < len → (a 95 j &&& iN 255) = iN (nx j)) : ∃ a', Den (d+2) 161 46 [.ref 94,.int (iN p),zmJ,zmJ] [] (zmMk n (uI a 94 12 (iN 0)) b r) = Den (d+2) 161 95 [.ref 94,.int (iN p),zmJ,zmJ] [] (zmMk n a' b r) ∧ a' 94 12 = iN (numP nx p).1 ∧ a' 94 9 = iN (numP nx p).2 ∧ (∀ j, j ≠ 9 → j ≠ 12 → a' 94 j = a 94 j) ∧ (∀ q, q ≠ 94 → a' q = a q) := by
  have hn := hH.2.1
  have hl := hH.1
  have d1 := isDg_d hd
  have hpl := hn.lt (p := p) (by omega)
  have hc := hH.2.2 p hpl
  have b0 : ∀ j, j < len → (uI a 94 12 (iN 0) 95 j &&& iN 255) = iN (nx j) := fun j hj => by rw [uI_ne (by omega)]; exact hb j hj
  have e0 := m_isDig (d := d) (n := n) (b := b) (r := r) (a := uI a 94 12 (iN 0)) hH (show _ = iN p by rw [uI_nj (by omega)]; exact h9) (by rw [uI_nj (by omega)]; exact h10) b0 (by omega)
  have l0 : Den (d+1) 167 0 [.ref 94] [] (zmMk n (uI a 94 12 (iN 0)) b r) = _ := m_look (n := n) (b := b) (r := r) (a := uI a 94 12 (iN 0)) hH (show _ = iN p by rw [uI_nj (by omega)]; exact h9) (by rw [uI_nj (by omega)]; exact h10) b0 (by omega)
  have ea : uI (uI (uI a 94 12 (iN 0)) 94 12 ((iN 10 * iN 0 + iN (nx p)) - iN 48)) 94 9 (iN p + iN 1) = nmA a (nx p - 48) (p + 1) := by
    unfold nmA
    rw [n_mul, n_add, n_add, n_sub (by omega), show 10 * 0 + nx p - 48 = nx p - 48 by omega]
    funext q j
    simp only [uI_at]
    by_cases z : q = 94 ∧ j = 9
    · rw [if_pos z, if_pos z]
    · rw [if_neg z, if_neg z]
      by_cases z2 : q = 94 ∧ j = 12
      · rw [if_pos z2, if_pos z2]
      · rw [if_neg z2, if_neg z2, if_neg z2]
  have step1 : Den (d+2) 161 46 [.ref 94,.int (iN p),zmJ,zmJ] [] (zmMk n (uI a 94 12 (iN 0)) b r) = Den (d+2) 161 46 [.ref 94,.int (iN p),zmJ,zmJ] [] (zmMk n (nmA a (nx p - 48) (p + 1)) b r) := by
    rw [b161_46, e0]
    simp only [Option.bind_some, Option.toList_some, Option.toList_none, List.cons_append, List.nil_append, true_or, or_true, if_true, bI_if]
    rw [b161_50, bI_if, if_pos hd, b161_53, uI_nj (by omega), h9, n_add, if_pos (lt_p (by omega) (by omega)), b161_63, l0, uI_self]
    simp only [Option.bind_some, Option.toList_some, Option.toList_none, List.cons_append, List.nil_append, true_or, or_true, if_true, bI_if]
    rw [b161_75, nxV_of hc]
    rw [show uI (uI a 94 12 (iN 0)) 94 12 ((iN 10 * iN 0 + iN (nx p)) - iN 48) 94 9 = iN p by rw [uI_nj (by omega), uI_nj (by omega)]; exact h9, ea]
  have b1 : ∀ j, j < len → (nmA a (nx p - 48) (p + 1) 95 j &&& iN 255) = iN (nx j) := fun j hj => by rw [(nmA_fr a _ _).1 95 (by omega) (by omega)]; exact hb j hj
  have h10' : nmA a (nx p - 48) (p + 1) 94 10 = iN len := by rw [nmA_o (by omega) (by omega)]; exact h10
  have e1 := m_isDig (d := d) (n := n) (b := b) (r := r) (a := nmA a (nx p - 48) (p + 1)) hH nmA_9 h10' b1 (by omega)
  rw [step1, b161_46, e1]
  simp only [Option.bind_some, Option.toList_some, Option.toList_none, List.cons_append, List.nil_append, true_or, or_true, if_true, bI_if]
  rw [b161_50, bI_if]
  unfold numP
  by_cases h3 : isDg (nx (p + 1)) = true
  · have d2 := isDg_d h3
    have hpl2 := hn.lt (p := p + 1) (by omega)
    have hc2 := hH.2.2 _ hpl2
    have l1 : Den (d+1) 167 0 [.ref 94] [] (zmMk n (nmA a (nx p - 48) (p + 1)) b r) = _ := m_look (n := n) (b := b) (r := r) (a := nmA a (nx p - 48) (p + 1)) hH nmA_9 h10' b1 (by omega)
    have ea2 : uI (uI (nmA a (nx p - 48) (p + 1)) 94 12 ((iN 10 * iN (nx p - 48) + iN (nx (p + 1))) - iN 48)) 94 9 (iN (p + 1) + iN 1) = nmA a ((nx p - 48) * 10 + (nx (p + 1) - 48)) (p + 2) := by
      unfold nmA
      rw [n_mul, n_add, n_add, n_sub (by omega), show 10 * (nx p - 48) + nx (p + 1) - 48 = (nx p - 48) * 10 + (nx (p + 1) - 48) by omega]
      funext q j
      simp only [uI_at]
      by_cases z : q = 94 ∧ j = 9
      · rw [if_pos z, if_pos z]
      · rw [if_neg z, if_neg z, if_neg z]
        by_cases z2 : q = 94 ∧ j = 12
        · rw [if_pos z2, if_pos z2]
        · rw [if_neg z2, if_neg z2, if_neg z2]
    have b2 : ∀ j, j < len → (nmA a ((nx p - 48) * 10 + (nx (p + 1) - 48)) (p + 2) 95 j &&& iN 255) = iN (nx j) := fun j hj => by rw [(nmA_fr a _ _).1 95 (by omega) (by omega)]; exact hb j hj
    have e2 := m_isDig (d := d) (n := n) (b := b) (r := r) (a := nmA a ((nx p - 48) * 10 + (nx (p + 1) - 48)) (p + 2)) hH nmA_9 (by rw [nmA_o (by omega) (by omega)]; exact h10) b2 (by omega)
    rw [if_pos h3, if_pos h3, b161_53, nmA_9, n_add, if_pos (lt_p (by omega) (by omega)), b161_63, l1, nmA_12]
    simp only [Option.bind_some, Option.toList_some, Option.toList_none, List.cons_append, List.nil_append, true_or, or_true, if_true, bI_if]
    rw [b161_75, nxV_of hc2]
    rw [show uI (nmA a (nx p - 48) (p + 1)) 94 12 ((iN 10 * iN (nx p - 48) + iN (nx (p + 1))) - iN 48) 94 9 = iN (p + 1) by rw [uI_nj (by omega), nmA_9], ea2, b161_46, e2]
    simp only [Option.bind_some, Option.toList_some, Option.toList_none, List.cons_append, List.nil_append, true_or, or_true, if_true, bI_if]
    refine ⟨nmA a ((nx p - 48) * 10 + (nx (p + 1) - 48)) (p + 2), ?_, nmA_12, nmA_9, fun j h1 h2 => nmA_o h1 h2, fun q hq => by unfold nmA; rw [uI_ne hq, uI_ne hq]⟩
    rw [b161_50, bI_if]
    by_cases h4 : isDg (nx (p + 2)) = true
    · rw [if_pos h4, b161_53, nmA_9, n_add, if_neg (lt_n (by omega) (by omega))]
    · rw [if_neg h4]
  · rw [if_neg h3, if_neg h3]
    exact ⟨nmA a (nx p - 48) (p + 1), rfl, nmA_12, nmA_9, fun j h1 h2 => nmA_o h1 h2, fun q hq => by unfold nmA; rw [uI_ne hq, uI_ne hq]⟩
def PcM (n : Nat) (b : Nat → Nat → Int64) (r : Nat → Nat → Option Nat) (a : Nat → Nat → Int32) (pc tot : Nat) (K : Nat → Nat) (z : (Nat × Nat) ⊕ (Nat × Nat × Nat)) (X : Option (Option Value × zmH)) : Prop := match z with
  | .inl e => ∃ a', X = some (some (.int (iN 0)), zmMk n a' b r) ∧ a' 94 11 = fltI e.1 e.2 ∧ frG a a'
  | .inr t => ∃ a', X = some (some (.int (iN 1)), zmMk n a' b r) ∧ a' 94 9 = iN t.2.2 ∧ a' 94 5 = iN (tot + t.1) ∧ a' 94 6 = iN (pc + 1) ∧ (∀ j, j < tot + t.1 → a' 97 j = iN (layK K tot t.1 t.2.1 j)) ∧ frG a a'
theorem m_layS {d tot num kd p : Nat} {n : Nat} {b : Nat → Nat → Int64} {r : Nat → Nat → Option Nat} {K : Nat → Nat} (ht : tot + num ≤ 120) (k : Nat) : ∀ (i : Nat) (a : Nat → Nat → Int32), i + k = num → a 94 12 = iN num → a 94 5 = iN tot → (∀ j, j < tot + i → a 97 j = iN (layK K tot num kd j)) → ∃ a', Den d 161 166 [.ref 94,.int (iN p),.int (iN kd),.int (iN i)] [] (zmMk n a b r) = Den d 161 192 [.ref 94,.int (iN p),.int (iN kd),.int (iN num)] [] (zmMk n a' b r) ∧ (∀ j, j < tot + num → a' 97 j = iN (layK K tot num kd j)) ∧ ∀ q, q ≠ 97 → a' q = a q := by
  induction k with
  | zero =>
    intro i a hi h12 h5 ha
    obtain rfl : i = num := by omega
    refine ⟨a, ?_, ha, fun _ _ => rfl⟩
    rw [b161_166, h12, if_neg (lt_n (by omega) (by omega))]
  | succ k ih =>
    intro i a hi h12 h5 ha
    obtain ⟨a', e1, h1, o1⟩ := ih (i + 1) (uI a 97 (tot + i) (iN kd)) (by omega) (by rw [uI_ne (by omega)]; exact h12) (by rw [uI_ne (by omega)]; exact h5) (fun j hj => by
      rw [uI_at]
      by_cases h : j = tot + i
      · rw [if_pos ⟨rfl, h⟩]
        unfold layK
        rw [if_pos (by omega)]
      · rw [if_neg (fun z => h z.2)]
        exact ha j (by omega))
    refine ⟨a', ?_, h1, fun q hq => by
      rw [o1 q hq, uI_ne hq]⟩
    rw [b161_166, h12, if_pos (lt_p (by omega) (by omega)), b161_174, h5, n_add, n_in (by omega), if_pos (decide_eq_true (by omega)), n_nat (by omega), b161_186, n_add]
    exact e1
theorem m_piece {d len p pc tot : Nat} {n : Nat} {b : Nat → Nat → Int64} {r : Nat → Nat → Option Nat} {nx K : Nat → Nat} {a : Nat → Nat → Int32} (hH : PrM len nx) (h : MPc len nx a p pc tot K) (hpc : pc ≤ 12) (hp : p ≤ len) (ht : tot ≤ 120) : PcM n b r a pc tot K (pcP nx p pc tot) (Den (d+2) 161 0 [.ref 94, zmJ, zmJ, zmJ] [] (zmMk n a b r)) := by
  obtain ⟨h9, h10, h5, h6, hK, hb⟩ := h
  have hn := hH.2.1
  have hl := hH.1
  have e0 := m_isDig (d := d) (n := n) (b := b) (r := r) hH h9 h10 hb hp
  rw [b161_0, e0, h9]
  simp only [Option.bind_some, Option.toList_some, Option.toList_none, List.cons_append, List.nil_append, true_or, or_true, if_true, bI_if]
  rw [b161_9, bI_if]
  by_cases h1 : isDg (nx p) = true
  · have d1 := isDg_d h1
    have hpl := hn.lt (p := p) (by omega)
    obtain ⟨o1, o2, o3, o4⟩ := numP_ok hn h1
    rw [if_pos h1, b161_22, h6]
    by_cases h2 : pc = 12
    · have hz : pcP nx p pc tot = .inl (4, p) := by unfold pcP; rw [if_neg (by rw [h1]; decide), if_pos h2]
      rw [hz, if_pos (show iN pc = iN 12 by rw [h2]), b161_31, h9, m_wrong]
      simp only [Option.bind_some, Option.toList_some, Option.toList_none, List.cons_append, List.nil_append, true_or, or_true, if_true, bI_if]
      rw [b161_40, if_pos (Or.inl rfl)]
      exact ⟨_, rfl, uI_self, frG.p (by omega)⟩
    · obtain ⟨a1, e1, w12, w9, f1, f2⟩ := m_numS (d := d) (n := n) (b := b) (r := r) hH h1 h9 h10 hb
      have fG : frG a a1 := ⟨fun q q1 _ => f2 q q1, fun j hj => f1 j (by omega) (by omega)⟩
      rw [if_neg (show ¬ iN pc = iN 12 by rw [n_eq (by omega) (by omega)]; exact h2), b161_41, e1, b161_95, w12]
      by_cases h3 : (numP nx p).1 = 0
      · have hz : pcP nx p pc tot = .inl (3, p) := by unfold pcP; rw [if_neg (by rw [h1]; decide), if_neg h2, if_pos h3]
        rw [hz, if_pos (show iN (numP nx p).1 = iN 0 by rw [h3]), b161_102, m_wrong]
        simp only [Option.bind_some, Option.toList_some, Option.toList_none, List.cons_append, List.nil_append, true_or, or_true, if_true, bI_if]
        rw [b161_108, if_pos (Or.inl rfl)]
        exact ⟨_, rfl, uI_self, fG.trans (frG.p (by omega))⟩
      · have b1 : ∀ j, j < len → (a1 95 j &&& iN 255) = iN (nx j) := fun j hj => by rw [f2 95 (by omega)]; exact hb j hj
        have l1 : Den (d+1) 167 0 [.ref 94] [] (zmMk n a1 b r) = _ := m_look (n := n) (b := b) (r := r) hH w9 (by rw [f1 10 (by omega) (by omega)]; exact h10) b1 o2
        have hc : nx (numP nx p).2 < 257 := by
          by_cases hq : (numP nx p).2 < len
          · have := hH.2.2 _ hq; omega
          · rw [hn _ (by omega)]; omega
        rw [if_neg (show ¬ iN (numP nx p).1 = iN 0 by rw [n_eq (by omega) (by omega)]; exact h3), b161_109, l1]
        simp only [Option.bind_some, Option.toList_some, Option.toList_none, List.cons_append, List.nil_append, true_or, or_true, if_true, bI_if]
        rw [b161_113, m_kindFor hc]
        simp only [Option.bind_some, Option.toList_some, Option.toList_none, List.cons_append, List.nil_append, true_or, or_true, if_true, bI_if]
        rw [b161_116]
        by_cases h4 : 4 ≤ kdS (nx (numP nx p).2)
        · have hz : pcP nx p pc tot = .inl (1, (numP nx p).2) := by unfold pcP; rw [if_neg (by rw [h1]; decide), if_neg h2, if_neg h3, if_pos h4]
          rw [hz, if_neg (show ¬ kdS (nx (numP nx p).2) < 4 by omega), if_pos rfl, b161_122, w9, m_wrong]
          simp only [Option.bind_some, Option.toList_some, Option.toList_none, List.cons_append, List.nil_append, true_or, or_true, if_true, bI_if]
          rw [b161_131, if_pos (Or.inl rfl)]
          exact ⟨_, rfl, uI_self, fG.trans (frG.p (by omega))⟩
        · have hm1 : ¬ iN (kdS (nx (numP nx p).2)) = -1 := by
            have : ∀ k < 4, ¬ iN k = -1 := by decide +kernel
            exact this _ (by omega)
          rw [if_pos (show kdS (nx (numP nx p).2) < 4 by omega), if_neg hm1, b161_132, w9, n_add]
          rw [show uI a1 94 9 (iN ((numP nx p).2 + 1)) 94 5 = iN tot by rw [uI_nj (by omega), f1 5 (by omega) (by omega)]; exact h5, show uI a1 94 9 (iN ((numP nx p).2 + 1)) 94 12 = iN (numP nx p).1 by rw [uI_nj (by omega)]; exact w12, n_add]
          have fG2 : frG a (uI a1 94 9 (iN ((numP nx p).2 + 1))) := fG.trans (frG.p (by omega))
          by_cases h5' : 120 < tot + (numP nx p).1
          · have hz : pcP nx p pc tot = .inl (6, p) := by unfold pcP; rw [if_neg (by rw [h1]; decide), if_neg h2, if_neg h3, if_neg h4, if_pos h5']
            rw [hz, if_pos (lt_p h5' (by omega)), b161_156, m_wrong]
            simp only [Option.bind_some, Option.toList_some, Option.toList_none, List.cons_append, List.nil_append, true_or, or_true, if_true, bI_if]
            rw [b161_163, if_pos (Or.inl rfl)]
            exact ⟨_, rfl, uI_self, fG2.trans (frG.p (by omega))⟩
          · have hz : pcP nx p pc tot = .inr ((numP nx p).1, kdS (nx (numP nx p).2), (numP nx p).2 + 1) := by unfold pcP; rw [if_neg (by rw [h1]; decide), if_neg h2, if_neg h3, if_neg h4, if_neg h5']
            obtain ⟨a2, e2, w2, f3⟩ := m_layS (d := d+2) (n := n) (b := b) (r := r) (K := K) (kd := kdS (nx (numP nx p).2)) (num := (numP nx p).1) (tot := tot) (p := p) (by omega) (numP nx p).1 0 (uI a1 94 9 (iN ((numP nx p).2 + 1))) (by omega) (by rw [uI_nj (by omega)]; exact w12) (by rw [uI_nj (by omega), f1 5 (by omega) (by omega)]; exact h5) (fun j hj => by
              rw [uI_ne (by omega), f2 97 (by omega)]
              unfold layK
              rw [if_neg (by omega)]
              exact hK j (by omega))
            have q5 : a2 94 5 = iN tot := by rw [f3 94 (by omega), uI_nj (by omega), f1 5 (by omega) (by omega)]; exact h5
            have q12 : a2 94 12 = iN (numP nx p).1 := by rw [f3 94 (by omega), uI_nj (by omega)]; exact w12
            have q6 : a2 94 6 = iN pc := by rw [f3 94 (by omega), uI_nj (by omega), f1 6 (by omega) (by omega)]; exact h6
            have q9 : a2 94 9 = iN ((numP nx p).2 + 1) := by rw [f3 94 (by omega), uI_self]
            rw [hz, if_neg (lt_n h5' (by omega)), b161_164, e2, b161_192, q5, q12, n_add]
            rw [show uI a2 94 5 (iN (tot + (numP nx p).1)) 94 6 = iN pc by rw [uI_nj (by omega)]; exact q6, n_add]
            refine ⟨_, rfl, ?_, ?_, ?_, ?_, ?_⟩
            · rw [uI_nj (by omega), uI_nj (by omega)]; exact q9
            · rw [uI_nj (by omega), uI_self]
            · rw [uI_self]
            · intro j hj
              rw [uI_ne (by omega), uI_ne (by omega)]
              exact w2 j hj
            · have fK : frG (uI a1 94 9 (iN ((numP nx p).2 + 1))) a2 := ⟨fun q _ q2 => f3 q q2, fun j _ => by rw [f3 94 (by omega)]⟩
              exact ((fG2.trans fK).trans (frG.p (by omega))).trans (frG.p (by omega))
  · have h1' : isDg (nx p) = false := by
      cases hd : isDg (nx p) with
      | true => exact absurd hd h1
      | false => rfl
    have hz : pcP nx p pc tot = .inl (1, p) := by unfold pcP; rw [if_pos h1']
    rw [hz, if_neg h1, b161_12, h9, m_wrong]
    simp only [Option.bind_some, Option.toList_some, Option.toList_none, List.cons_append, List.nil_append, true_or, or_true, if_true, bI_if]
    rw [b161_21, if_pos (Or.inl rfl)]
    exact ⟨_, rfl, uI_self, frG.p (by omega)⟩
def KSt (n d len : Nat) (r : Nat → Nat → Option Nat) (κ : Option Value × zmH → Option (Option Value × zmH)) : Prop := ∀ v : Nat, v = 0 ∨ v = 1 → ∀ a b, κ (some (.int (iN v)), (zmMk n a b r)) = Den (d+3) 162 45 [.ref 94,.int (iN len),.int (iN v),zmJ] [] (zmMk n a b r)
def StrQ (n : Nat) (b : Nat → Nat → Int64) (r : Nat → Nat → Option Nat) (a : Nat → Nat → Int32) (z : (Nat × Nat) ⊕ (Nat × (Nat → Nat))) (X : Option (Option Value × zmH)) : Prop := match z with
  | .inl e => ∃ a', X = some (some (.int (fltI e.1 e.2)), zmMk n a' b r) ∧ a' 94 8 = iN 0 ∧ (∀ q, q ≠ 94 → q ≠ 97 → a' q = a q) ∧ ∀ j, (j ≤ 4 ∨ 13 ≤ j) → a' 94 j = a 94 j
  | .inr t => ∃ a', X = some (some (.int (iN t.1)), zmMk n a' b r) ∧ a' 94 8 = iN 0 ∧ a' 94 2 = iN t.1 ∧ a' 94 74 = iN 0 ∧ (∀ j, j < t.1 → a' 96 j = iN (t.2 j)) ∧ (∀ q, q ≠ 94 → q ≠ 96 → q ≠ 97 → a' q = a q) ∧ ∀ j, (j = 0 ∨ j = 1 ∨ j = 3 ∨ j = 4 ∨ (13 ≤ j ∧ j ≠ 74)) → a' 94 j = a 94 j
theorem StrQ.fr {n : Nat} {b : Nat → Nat → Int64} {r : Nat → Nat → Option Nat} {a a1 : Nat → Nat → Int32} {z : (Nat × Nat) ⊕ (Nat × (Nat → Nat))} {X : Option (Option Value × zmH)} (h : StrQ n b r a1 z X) (o : frG a a1) : StrQ n b r a z X := by
  cases z with
  | inl e =>
    obtain ⟨a', h1, h2, h3, h4⟩ := h
    exact ⟨a', h1, h2, fun q q1 q2 => (h3 q q1 q2).trans (o.1 q q1 q2), fun j hj => (h4 j hj).trans (o.2 j (by omega))⟩
  | inr t =>
    obtain ⟨a', h1, h2, h3, h4, h5, h6, h7⟩ := h
    exact ⟨a', h1, h2, h3, h4, h5, fun q q1 q2 q3 => (h6 q q1 q2 q3).trans (o.1 q q1 q3), fun j hj => (h7 j hj).trans (o.2 j (by omega))⟩
theorem m_cpS {d T len : Nat} {n : Nat} {b : Nat → Nat → Int64} {r : Nat → Nat → Option Nat} {K : Nat → Nat} {v2 : Int32} (hT : T ≤ 120) (k : Nat) : ∀ (i : Nat) (a : Nat → Nat → Int32), i + k = T → a 94 5 = iN T → (∀ j, j < T → a 97 j = iN (K j)) → (∀ j, j < i → a 96 j = iN (K j)) → ∃ a', Den d 162 109 [.ref 94,.int (iN len),.int v2,.int (iN i)] [] (zmMk n a b r) = Den d 162 135 [.ref 94,.int (iN len),.int v2,.int (iN T)] [] (zmMk n a' b r) ∧ (∀ j, j < T → a' 96 j = iN (K j)) ∧ ∀ q, q ≠ 96 → a' q = a q := by
  induction k with
  | zero =>
    intro i a hi h5 hK hc
    obtain rfl : i = T := by omega
    refine ⟨a, ?_, hc, fun _ _ => rfl⟩
    rw [b162_109, h5, if_neg (lt_n (by omega) (by omega))]
  | succ k ih =>
    intro i a hi h5 hK hc
    obtain ⟨a', e1, h1, o1⟩ := ih (i + 1) (uI a 96 i (iN (K i))) (by omega) (by rw [uI_ne (by omega)]; exact h5) (fun j hj => by rw [uI_ne (by omega)]; exact hK j hj) (fun j hj => by
      rw [uI_at]
      by_cases h : j = i
      · rw [if_pos ⟨rfl, h⟩, h]
      · rw [if_neg (fun z => h z.2)]
        exact hc j (by omega))
    have hin : zmIn (iN i) 120 = true := by rw [n_in (by omega)]; exact decide_eq_true (by omega)
    refine ⟨a', ?_, h1, fun q hq => by rw [o1 q hq, uI_ne hq]⟩
    rw [b162_109, h5, if_pos (lt_p (by omega) (by omega)), b162_117, if_pos hin, n_nat (by omega), hK i (by omega), b162_128, if_pos hin, n_nat (by omega), b162_129, n_add]
    exact e1
theorem m_badS {n d len : Nat} {b : Nat → Nat → Int64} {r : Nat → Nat → Option Nat} {a : Nat → Nat → Int32} {e : Nat × Nat} (h : a 94 11 = fltI e.1 e.2) : StrQ n b r a (.inl e) (Den d 162 45 [.ref 94,.int (iN len),.int (iN 0),zmJ] [] (zmMk n a b r)) := by
  refine ⟨uI a 94 8 (iN 0), ?_, uI_self, fun q q1 _ => uI_ne q1, fun j hj => uI_nj (by omega)⟩
  rw [b162_45, if_pos rfl, b162_85, if_pos rfl, b162_94, uI_nj (by omega), h]
theorem m_strL {d len n : Nat} {b : Nat → Nat → Int64} {r : Nat → Nat → Option Nat} {nx : Nat → Nat} (hH : PrM len nx) (k : Nat) : ∀ (p pc tot : Nat) (K : Nat → Nat) (a : Nat → Nat → Int32) (κ : Option Value × zmH → Option (Option Value × zmH)), KSt n d len r κ → MPc len nx a p pc tot K → pc + k = 13 → pc ≤ 12 → p ≤ len → tot ≤ 120 → StrQ n b r a (strF nx len k p pc tot K) ((Den (d+2) 161 0 [.ref 94, zmJ, zmJ, zmJ] [] (zmMk n a b r)).bind κ) := by
  have hn := hH.2.1
  have hl := hH.1
  induction k with
  | zero => intro p pc tot K a κ hκ h hk hpc; omega
  | succ k ih =>
    intro p pc tot K a κ hκ h hk hpc hp ht
    have hz := m_piece (d := d) (n := n) (b := b) (r := r) hH h hpc hp ht
    unfold strF
    cases hq : pcP nx p pc tot with
    | inl e =>
      rw [hq] at hz
      obtain ⟨a1, e1, w1, f1⟩ := hz
      rw [e1, Option.bind_some, hκ 0 (Or.inl rfl)]
      exact (m_badS w1).fr f1
    | inr t =>
      obtain ⟨num, kd, q⟩ := t
      rw [hq] at hz
      obtain ⟨a1, e1, w9, w5, w6, w97, f1⟩ := hz
      obtain ⟨g1, g2, g3, g4, g5, g6, g7, g8, g9⟩ := pcP_r hn hq
      have w10 : a1 94 10 = iN len := (f1.2 10 (by omega)).trans h.2.1
      have hb1 : ∀ j, j < len → (a1 95 j &&& iN 255) = iN (nx j) := fun j hj => by rw [f1.1 95 (by omega) (by omega)]; exact h.2.2.2.2.2 j hj
      rw [e1, Option.bind_some, hκ 1 (Or.inr rfl)]
      refine StrQ.fr (a1 := a1) ?_ f1
      show StrQ n b r a1 (if q = len then (.inr (tot + num, layK K tot num kd) : (Nat × Nat) ⊕ (Nat × (Nat → Nat))) else if nx q = 44 then strF nx len k (q + 1) (pc + 1) (tot + num) (layK K tot num kd) else .inl (1, q)) _
      have w9' : a1 94 9 = iN q := w9
      have n10 : ¬ iN 1 = iN 0 := by decide +kernel
      rw [b162_45, if_neg n10, b162_49, w9', w10]
      by_cases h6 : q = len
      · rw [if_pos h6, if_neg (lt_n (by omega) (by omega)), b162_85, if_neg n10, b162_99]
        rw [show uI a1 94 8 (iN 0) 94 5 = iN (tot + num) by rw [uI_nj (by omega)]; exact w5]
        obtain ⟨a2, e2, w2, f2⟩ := m_cpS (d := d+3) (n := n) (b := b) (r := r) (T := tot + num) (len := len) (K := layK K tot num kd) (v2 := iN 1) g7 (tot + num) 0 (uI (uI a1 94 8 (iN 0)) 94 2 (iN (tot + num))) (by omega) (by rw [uI_nj (by omega), uI_nj (by omega)]; exact w5) (fun j hj => by rw [uI_ne (by omega), uI_ne (by omega)]; exact w97 j hj) (fun j hj => absurd hj (Nat.not_lt_zero j))
        rw [e2, b162_135]
        refine ⟨uI a2 94 74 (iN 0), ?_, ?_, ?_, uI_self, fun j hj => by rw [uI_ne (by omega)]; exact w2 j hj, fun q q1 q2 _ => by rw [uI_ne q1, f2 q q2, uI_ne q1, uI_ne q1], fun j hj => by rw [uI_nj (by omega), f2 94 (by omega), uI_nj (by omega), uI_nj (by omega)]⟩
        · rw [uI_nj (by omega), f2 94 (by omega), uI_self]
        · rw [uI_nj (by omega), f2 94 (by omega), uI_nj (by omega), uI_self]
        · rw [uI_nj (by omega), f2 94 (by omega), uI_self]
      · have hql : q < len := by omega
        have et := m_takes (d := d+1) (n := n) (b := b) (r := r) (k := 44) hH w9' w10 hb1 g9 (by omega)
        rw [if_neg h6, if_pos (lt_p hql (by omega)), b162_60, et]
        by_cases h7 : nx q = 44
        · rw [if_pos h7, if_pos h7]
          simp only [Option.bind_some, Option.toList_some, Option.toList_none, List.cons_append, List.nil_append, true_or, or_true, if_true, bI_if]
          rw [b162_66, if_neg n10, b162_69]
          have hM : MPc len nx (uI a1 94 9 (iN (q + 1))) (q + 1) (pc + 1) (tot + num) (layK K tot num kd) := ⟨uI_self, by rw [uI_nj (by omega)]; exact w10, by rw [uI_nj (by omega)]; exact w5, by rw [uI_nj (by omega)]; exact w6, fun j hj => by rw [uI_ne (by omega)]; exact w97 j hj, fun j hj => by rw [uI_ne (by omega)]; exact hb1 j hj⟩
          have hκ' : KSt n d len r (fun q => Den (d+2+1) 162 73 [.ref 94,.int (iN len),.int (iN 1),zmJ] (q.1.toList ++ []) q.2) := fun v hv a b => by
            simp only [Option.bind_some, Option.toList_some, Option.toList_none, List.cons_append, List.nil_append, true_or, or_true, if_true, bI_if]
            rw [b162_73]
            rcases hv with rfl | rfl
            · rw [if_pos rfl, b162_80, b162_81]
            · rw [if_neg n10, b162_76, b162_81]
          exact (ih (q + 1) (pc + 1) (tot + num) _ _ _ hκ' hM (by omega) (by omega) (by omega) g7).fr (frG.p (by omega))
        · rw [if_neg h7, if_neg h7]
          simp only [Option.bind_some, Option.toList_some, Option.toList_none, List.cons_append, List.nil_append, true_or, or_true, if_true, bI_if]
          rw [b162_66, if_pos rfl, b162_80, b162_81]
          exact (m_badS (e := (1, q)) uI_self).fr (frG.p (by omega))
/-- the first bytes of the tape -/
def nxS (σ : SV) (len : Nat) : Nat → Nat := fun j => if j < len then σ 10 j else 256
theorem nxS_end (σ : SV) (len : Nat) : endN (nxS σ len) len := fun p hp => if_neg (by omega)
theorem nxS_lt {σ : SV} {len : Nat} (h : ∀ j, j < σ 0 2 → σ 10 j < 256) (hl : len ≤ σ 0 2) : ∀ j, j < len → nxS σ len j < 256 := fun j hj => by
  unfold nxS
  rw [if_pos hj]
  exact h j (by omega)
theorem p_street {d : Nat} {n : Nat} {a : Nat → Nat → Int32} {b : Nat → Nat → Int64} {r : Nat → Nat → Option Nat} {σ : SV} {cl cl' : List Cls} {R R' : Nat → List Cls} {TL TS A : Nat} {TR : Nat → Nat} (h : (St a b r σ cl cl' R R' TL TS TR A)) (hA : A < 90000) {v1 : Int32} : ∃ (v : Int32) (a1 : Nat → Nat → Int32) (b1 : Nat → Nat → Int64) (r1 : Nat → Nat → Option Nat) (a2 : Nat → Nat → Int32) (b2 : Nat → Nat → Int64), Den (d+60) 95 0 [.ref 14, .int v1, zmJ] [] (zmMk n a b r) = some (some (.int v), zmMk n a1 b1 r1) ∧ Den (d+60) 162 0 [.ref 94, .int v1, zmJ, zmJ] [] (zmMk n a1 b1 r1) = some (some (.int v), zmMk n a2 b2 r1) ∧ InvS a2 b2 r1 (A + 1) := by
  have hT : TapC a (σ 0 2) (σ 10) := h.2.1.2.2.2.2.1
  have hU : TapM a (σ 0 2) (σ 10) := h.2.2.1.2.2.1
  have hs : σ 0 2 ≤ 260 ∧ ∀ j, j < σ 0 2 → σ 10 j < 256 := h.1.2.2.2.1
  by_cases g1 : inI v1 (iN 1) (iN 80) = true
  · obtain ⟨len, l1, l8, rfl⟩ := inI_ex (by decide) (by decide) g1
    by_cases g2 : len ≤ σ 0 2
    · have q1 : (iN (σ 0 2) < iN len) = False := by rw [n_lt (by omega) (by omega)]; exact eq_false (by omega)
      have hn := nxS_end σ len
      have hx := nxS_lt hs.2 g2
      have hH : PrM len (nxS σ len) := ⟨by omega, hn, hx⟩
      have bC : ∀ j, j < len → a 15 j = iN (nxS σ len j) := fun j hj => by
        unfold nxS
        rw [if_pos hj]
        exact hT.2 j (by omega)
      have z1 := c_strL (d := d+52) (n := n) (b := b) (r := r) hn hx (by omega) 13 0 0 0 (fun _ => 0) zmJ zmJ zmJ a (by omega) (by omega) (by omega) (by omega) h.2.1.1 bC (fun j hj => absurd hj (Nat.not_lt_zero j))
      have z1' : StrR n b r a (strF (nxS σ len) len 13 0 0 0 (fun _ => 0)) (Den (d+59) 78 0 [.ref 24, .ref 15, .int (iN len), zmJ, zmJ, zmJ, zmJ, zmJ, zmJ] [] (zmMk n a b r)) := by
        rw [b78_0]
        exact z1
      have key2 : ∀ a1, (∀ q, 94 ≤ q → a1 q = a q) → StrQ n b r a1 (strF (nxS σ len) len 13 0 0 0 (fun _ => 0)) (Den (d+60) 162 0 [.ref 94, .int (iN len), zmJ, zmJ] [] (zmMk n a1 b r)) := fun a1 h1 => by
        have hM : MPc len (nxS σ len) (uI (uI (uI (uI a1 94 9 (iN 0)) 94 10 (iN len)) 94 5 (iN 0)) 94 6 (iN 0)) 0 0 0 (fun _ => 0) := ⟨by rw [uI_nj (by omega), uI_nj (by omega), uI_nj (by omega), uI_self], by rw [uI_nj (by omega), uI_nj (by omega), uI_self], by rw [uI_nj (by omega), uI_self], uI_self, fun j hj => absurd hj (Nat.not_lt_zero j), fun j hj => by
          rw [uI_ne (by omega), uI_ne (by omega), uI_ne (by omega), uI_ne (by omega), h1 95 (by omega), hU.2 j (by omega), i8_and _ (hs.2 j (by omega))]
          unfold nxS
          rw [if_pos hj]⟩
        have hκ : KSt n (d+57) len r (fun q => Den (d+59+1) 162 44 [.ref 94,.int (iN len),zmJ,zmJ] (q.1.toList ++ []) q.2) := fun v hv a b => by
          simp only [Option.bind_some, Option.toList_some, Option.toList_none, List.cons_append, List.nil_append, true_or, or_true, if_true, bI_if]
          rw [b162_44]
        have z2 := m_strL (d := d+57) (n := n) (b := b) (r := r) hH 13 0 0 0 (fun _ => 0) _ _ hκ hM (by omega) (by omega) (by omega) (by omega)
        have fr4 : frG a1 (uI (uI (uI (uI a1 94 9 (iN 0)) 94 10 (iN len)) 94 5 (iN 0)) 94 6 (iN 0)) ∨ True := Or.inr trivial
        have e8 : a1 94 8 = iN (σ 0 2) := by rw [h1 94 (by omega)]; exact hU.1
        rw [b162_0, m_in]
        simp only [Option.bind_some, Option.toList_some, Option.toList_none, List.cons_append, List.nil_append, true_or, or_true, if_true, bI_if]
        rw [b162_7, bI_if, if_pos g1, b162_10, e8]
        simp only [q1, if_false]
        rw [b162_20]
        cases hz : strF (nxS σ len) len 13 0 0 0 (fun _ => 0) with
        | inl e =>
          rw [hz] at z2
          obtain ⟨a', w1, w2, w3, w4⟩ := z2
          exact ⟨a', w1, w2, fun q q1 q2 => by rw [w3 q q1 q2, uI_ne q1, uI_ne q1, uI_ne q1, uI_ne q1], fun j hj => by rw [w4 j hj, uI_nj (by omega), uI_nj (by omega), uI_nj (by omega), uI_nj (by omega)]⟩
        | inr t =>
          rw [hz] at z2
          obtain ⟨a', w1, w2, w3, w4, w5, w6, w7⟩ := z2
          exact ⟨a', w1, w2, w3, w4, w5, fun q q1 q2 q3 => by rw [w6 q q1 q2 q3, uI_ne q1, uI_ne q1, uI_ne q1, uI_ne q1], fun j hj => by rw [w7 j hj, uI_nj (by omega), uI_nj (by omega), uI_nj (by omega), uI_nj (by omega)]⟩
      cases hz : strF (nxS σ len) len 13 0 0 0 (fun _ => 0) with
      | inl e =>
        have hb := strF_l hn 13 0 0 0 (fun _ => 0) e (by omega) hz
        rw [hz] at z1'
        obtain ⟨a1, e1, f1⟩ := z1'
        have key := key2 (uI a1 14 1 (iN 0)) (fun q hq => by rw [uI_ne (by omega)]; exact f1 q (by omega))
        rw [hz] at key
        obtain ⟨a2, e2, w8, f2, f3⟩ := key
        have hlt : (fltI e.1 e.2 < iN 0) = True := eq_true (fltI_lt hb.1 hb.2.1 (by omega))
        refine ⟨fltI e.1 e.2, uI a1 14 1 (iN 0), b, r, a2, b, ?_, e2, ?_⟩
        · simp only [b95_0, c_within, Option.bind_some, Option.toList_some, Option.toList_none, List.cons_append, List.nil_append, true_or, or_true, if_true, bI_if, b95_7, bI_if, g1, b95_10, hT.1, q1, b95_20, e1, b95_32, hlt, b95_46, if_true, if_false, Bool.false_eq_true, true_and, and_true, false_and, and_false, true_or, or_true, false_or, or_false, and_self, or_self, decide_true, decide_false, Bool.not_true, Bool.not_false, Bool.and_true, Bool.and_false, Bool.true_and, Bool.false_and, ite_self]
        · have ea : ∀ q, q ≠ 14 → q ≠ 26 → uI a1 14 1 (iN 0) q = a q := fun q q1 q2 => by rw [uI_ne q1]; exact f1 q q2
          refine InvS.of (St.updT (a1 := uI a1 14 1 (iN 0)) (b1 := b) (s := 0) (G := σ 10) h (by omega) (fun j hj => absurd hj (Nat.not_lt_zero j)) (fun k _ _ h1 _ h2 _ _ => ea k h1 h2) ⟨ea 52 (by omega) (by omega), ea 54 (by omega) (by omega), ea 55 (by omega) (by omega), ea 61 (by omega) (by omega)⟩ (fun j hj => by rw [uI_nj hj, f1 14 (by omega)]) uI_self (fun j hj => absurd hj (Nat.not_lt_zero j)) h.2.1.2.2.2.2.2.2.2.2.2.1 (fun _ _ => rfl) (fun k hk => ea k (by omega) (by omega)) (fun k hk => f2 k (by omega) (by omega)) (fun _ _ => rfl) (fun k hk => f2 k (by omega) (by omega)) (fun j hj => f3 j (by omega)) w8 (fun j hj => absurd hj (Nat.not_lt_zero j))) (Nat.le_succ _)
      | inr t =>
        obtain ⟨T, K⟩ := t
        obtain ⟨t1, t2, t3⟩ : T ≤ 120 ∧ 1 ≤ T ∧ ∀ j, j < T → K j ≤ 3 := strF_r hn 13 0 0 0 (fun _ => 0) (T, K) (by omega) (fun j hj => absurd hj (Nat.not_lt_zero j)) hz
        rw [hz] at z1'
        obtain ⟨a1, e1, v24, v25, f1⟩ := z1'
        have e1' : Den (d+59) 78 0 [.ref 24, .ref 15, .int (iN len), zmJ, zmJ, zmJ, zmJ, zmJ, zmJ] [] (zmMk n a b r) = some (some (.int (iN T)), zmMk n a1 b r) := e1
        have v24' : a1 24 0 = iN T := v24
        have v25' : ∀ y, y ≤ 120 → a1 25 y = iN (kyF T K y) := v25
        have ea : ∀ q, q ≠ 14 → q ≠ 24 → q ≠ 25 → q ≠ 26 → q ≠ 29 → q ≠ 62 → fgA (uI a1 14 1 (iN 0)) q = a q := fun q q1 q2 q3 q4 q5 q6 => by rw [fgA_ne q5 q6, uI_ne q1]; exact f1 q q2 q3 q4
        have key := key2 (fgA (uI a1 14 1 (iN 0))) (fun q hq => ea q (by omega) (by omega) (by omega) (by omega) (by omega) (by omega))
        rw [hz] at key
        obtain ⟨a2, e2, w8, w2, w74, w96, f2, f3⟩ := key
        have e2' : Den (d+60) 162 0 [.ref 94, .int (iN len), zmJ, zmJ] [] (zmMk n (fgA (uI a1 14 1 (iN 0))) b r) = some (some (.int (iN T)), zmMk n a2 b r) := e2
        have w2' : a2 94 2 = iN T := w2
        have w96' : ∀ j, j < T → a2 96 j = iN (K j) := w96
        have hlt : (iN T < iN 0) = False := eq_false (ng (by omega))
        refine ⟨iN T, fgA (uI a1 14 1 (iN 0)), b, r, a2, b, ?_, e2', ?_⟩
        · simp only [b95_0, c_within, Option.bind_some, Option.toList_some, Option.toList_none, List.cons_append, List.nil_append, true_or, or_true, if_true, bI_if, b95_7, bI_if, g1, b95_10, hT.1, q1, b95_20, e1', b95_32, hlt, b95_42, c_forget, b95_46, if_true, if_false, Bool.false_eq_true, true_and, and_true, false_and, and_false, true_or, or_true, false_or, or_false, and_self, or_self, decide_true, decide_false, Bool.not_true, Bool.not_false, Bool.and_true, Bool.and_false, Bool.true_and, Bool.false_and, ite_self]
        · obtain ⟨hB, hC, hM, hK⟩ := h
          obtain ⟨x1, x2, x3, x4, x5, x6, x7, x8, x9⟩ := hB
          obtain ⟨c1, c2, c3, c4, c5, c6, c7, c8, c9, c10, c11, c12⟩ := id hC
          have e29 : (uI a1 14 1 (iN 0)) 29 6 = iN A := by rw [uI_ne (by omega), f1 29 (by omega) (by omega) (by omega)]; exact c8.2
          have hBn : StB (fgS (uN (uRow (uN σ 0 2 0) 11 K) 0 3 T)) cl cl' R R' := ⟨x1, x2, x3, ⟨Nat.zero_le _, fun j hj => absurd hj (Nat.not_lt_zero j)⟩, ⟨t1, t3⟩, x6, x7.fall, x8, x9⟩
          have hCn : (StC (fgA (uI a1 14 1 (iN 0))) b r (fgS (uN (uRow (uN σ 0 2 0) 11 K) 0 3 T)) cl R TL TS TR (A + 1) ∧ Cac ((fgS (uN (uRow (uN σ 0 2 0) 11 K) 0 3 T)) 0 0) ((fgS (uN (uRow (uN σ 0 2 0) 11 K) 0 3 T)) 0 5) (QS (fgS (uN (uRow (uN σ 0 2 0) 11 K) 0 3 T)) cl) (A + 1) (fgA (uI a1 14 1 (iN 0))) b) := by
            refine ⟨hC.upd (fun q _ _ h1 h2 => ea q (by omega) (by omega) (by omega) (by omega) (by omega) (by omega)) rfl rfl ?_ ?_ ?_ ?_ ?_ ?_ fgA_log, hK.forget (by omega) c8.2 (ea 52 (by omega) (by omega) (by omega) (by omega) (by omega) (by omega)) (fgA_6 e29) (ea 54 (by omega) (by omega) (by omega) (by omega) (by omega) (by omega)) (ea 55 (by omega) (by omega) (by omega) (by omega) (by omega) (by omega))⟩
            · exact c3.ag (fun q h1 h2 => ea q (by omega) (by omega) (by omega) (by omega) (by omega) (by omega))
            · refine ⟨?_, fun q => (c4.2 q).ag (fun k h1 h2 => ea k (by omega) (by omega) (by omega) (by omega) (by omega) (by omega))⟩
              rw [fgA_ne (by omega) (by omega), uI_nj (by omega), f1 14 (by omega) (by omega) (by omega)]
              exact c4.1
            · refine ⟨?_, fun j hj => absurd hj (Nat.not_lt_zero j)⟩
              rw [fgA_ne (by omega) (by omega), uI_self]
              rfl
            · refine ⟨?_, fun y hy => ?_⟩
              · rw [fgA_ne (by omega) (by omega), uI_ne (by omega)]
                exact v24'
              · rw [fgA_ne (by omega) (by omega), uI_ne (by omega)]
                exact v25' y hy
            · rw [ea 27 (by omega) (by omega) (by omega) (by omega) (by omega) (by omega), ea 28 (by omega) (by omega) (by omega) (by omega) (by omega) (by omega)]
              exact c7
            · exact ⟨by rw [fgA_5, uI_ne (by omega), f1 29 (by omega) (by omega) (by omega)]; exact c8.1, fgA_6 e29⟩
          have hMh := hM.hi (a' := fgA (uI a1 14 1 (iN 0))) (fun q hq => ea q (by omega) (by omega) (by omega) (by omega) (by omega) (by omega))
          obtain ⟨z1, z2, z3, z4, z5, z6, z7, z8⟩ := hMh
          have hMn : StM a2 (fgS (uN (uRow (uN σ 0 2 0) 11 K) 0 3 T)) cl' R' := by
            refine ⟨?_, ?_, ⟨w8, fun j hj => absurd hj (Nat.not_lt_zero j)⟩, ⟨w2', w96'⟩, ?_, LogM.fall w74, z7.ag (fun q h1 h2 => f2 q (by omega) (by omega) (by omega)), fun j hj => (z8 j hj).ag (fun q h1 h2 => f2 q (by omega) (by omega) (by omega))⟩
            · exact z1.ag (fun j hj => f3 j (by omega)) (fun k hk => f2 k (by omega) (by omega) (by omega))
            · rw [f3 80 (by omega)]
              exact ⟨z2.1, fun q => (z2.2 q).ag (fun j hj => f3 j (by omega)) (fun k hk => f2 k (by omega) (by omega) (by omega))⟩
            · rw [f3 4 (by omega), f3 3 (by omega), f2 98 (by omega) (by omega) (by omega)]
              exact z5
          exact InvS.of (St.mkJ hBn hCn hMn (fun q hq => f2 q (by omega) (by omega) (by omega)) (fun _ _ => rfl)) (Nat.le_refl _)
    · have q1 : (iN (σ 0 2) < iN len) = True := by rw [n_lt (by omega) (by omega)]; exact eq_true (by omega)
      refine ⟨-1, a, b, r, a, b, ?_, ?_, InvS.of h (Nat.le_succ _)⟩
      · simp only [b95_0, c_within, Option.bind_some, Option.toList_some, Option.toList_none, List.cons_append, List.nil_append, true_or, or_true, if_true, bI_if, b95_7, bI_if, g1, b95_10, hT.1, q1, b95_18, if_true, if_false, Bool.false_eq_true, true_and, and_true, false_and, and_false, true_or, or_true, false_or, or_false, and_self, or_self, decide_true, decide_false, Bool.not_true, Bool.not_false, Bool.and_true, Bool.and_false, Bool.true_and, Bool.false_and, ite_self]
      · simp only [b162_0, m_in, Option.bind_some, Option.toList_some, Option.toList_none, List.cons_append, List.nil_append, true_or, or_true, if_true, bI_if, b162_7, bI_if, g1, b162_10, hU.1, q1, b162_18, if_true, if_false, Bool.false_eq_true, true_and, and_true, false_and, and_false, true_or, or_true, false_or, or_false, and_self, or_self, decide_true, decide_false, Bool.not_true, Bool.not_false, Bool.and_true, Bool.and_false, Bool.true_and, Bool.false_and, ite_self]
  · refine ⟨-1, a, b, r, a, b, ?_, ?_, InvS.of h (Nat.le_succ _)⟩
    · rw [Bool.not_eq_true] at g1
      simp only [b95_0, c_within, Option.bind_some, Option.toList_some, Option.toList_none, List.cons_append, List.nil_append, true_or, or_true, if_true, bI_if, b95_7, bI_if, g1, b95_18, if_true, if_false, Bool.false_eq_true, true_and, and_true, false_and, and_false, true_or, or_true, false_or, or_false, and_self, or_self, decide_true, decide_false, Bool.not_true, Bool.not_false, Bool.and_true, Bool.and_false, Bool.true_and, Bool.false_and, ite_self]
    · rw [Bool.not_eq_true] at g1
      simp only [b162_0, m_in, Option.bind_some, Option.toList_some, Option.toList_none, List.cons_append, List.nil_append, true_or, or_true, if_true, bI_if, b162_7, bI_if, g1, b162_18, if_true, if_false, Bool.false_eq_true, true_and, and_true, false_and, and_false, true_or, or_true, false_or, or_false, and_self, or_self, decide_true, decide_false, Bool.not_true, Bool.not_false, Bool.and_true, Bool.and_false, Bool.true_and, Bool.false_and, ite_self]
