/-! ===== questions: wrong ===== -/
/-- back to STEP t -/
theorem m_back2 {d n N B t p : Nat} {r : Nat → Nat → Option Nat} {Q : AQ} {nw : Bool} (htN : t ≤ N) (k : Nat) : ∀ (s : Nat) (u4 : Value) (a : Nat → Nat → Int32) (b : Nat → Nat → Int64), EnvM n r a N B Q → a 94 39 = bI nw → s = t + k → s ≤ N → (∀ s' q, t ≤ s' → s' < N → q < 4840 → a 114 (4840 * s' + q) ≠ iN 0 → clsM Q nw a s' q) → (s < N → ∀ q, q < 4840 → a 114 (4840 * (s + 1) + q) ≠ iN 0 → rgtM a b Q N B nw (s + 1) q) → ∃ v' u' a' b', Den (d+16) 219 100 [.ref 94,.int (iN t),.int (iN p),.int (iN s),u4] [] (zmMk n a b r) = Den (d+16) 219 151 [.ref 94,.int (iN t),.int (iN p),.int v',u'] [] (zmMk n a' b' r) ∧ frS scA a a' ∧ frL scSL b b' ∧ (∀ q, q < 4840 → a' 114 (4840 * t + q) ≠ iN 0 → rgtM a' b' Q N B nw t q) ∧ (t < N → ∀ q, q < 4840 → a' 114 (4840 * (t + 1) + q) ≠ iN 0 → rgtM a' b' Q N B nw (t + 1) q) := by
  induction k with
  | zero =>
    intro s u4 a b hE hnw hk hsN hC hR
    have h8 := hE.n8
    have hst : s = t := by omega
    obtain ⟨a1, b1, e1, f1, l1, o1, c1⟩ := m_backRow (d := d) (t := t) (p := p) hsN 4840 0 a b hE hnw (by omega) (fun h q => hC s q (by omega) h) hR
    refine ⟨iN s + (-1), .int (iN 4840), a1, b1, ?_, f1, l1, fun q h1 h2 => ?_, fun htN2 q h1 h2 => ?_⟩
    · rw [b219_100]
      have hlt : (iN s + (-1) < iN t) = True := by
        rcases Nat.eq_zero_or_pos s with h | h
        · rw [h]; exact n_m1 (by omega)
        · rw [n_dec h, n_lt (by omega) (by omega)]
          exact eq_true (by omega)
      simp (disch := omega) only [n_add, n_mul, n_in, decide_eq_true_eq, n_nat, n_lt, n_eq, n_sub, if_pos, if_neg, if_true, if_false, b219_105, e1, b219_145]
      rw [b219_100]
      simp only [hlt, if_true]
    · rw [← hst] at h2 ⊢
      exact c1 q (by omega) h1 h2
    · rw [← hst] at h2 ⊢
      rw [f1 114 rfl] at h2
      have h3 := hR (by omega) q h1 h2
      unfold rgtM at h3 ⊢
      obtain ⟨o3, o4⟩ := o1 (4840 * (s + 1) + q) (by omega)
      rw [o3, o4]
      exact h3
  | succ k ih =>
    intro s u4 a b hE hnw hk hsN hC hR
    have h8 := hE.n8
    obtain ⟨a1, b1, e1, f1, l1, o1, c1⟩ := m_backRow (d := d) (t := t) (p := p) hsN 4840 0 a b hE hnw (by omega) (fun h q => hC s q (by omega) h) hR
    obtain ⟨v', u', a2, b2, e2, f2, l2, c2⟩ := ih (s - 1) (.int (iN 4840)) a1 b1 (hE.ag (f1.ag dpM_scA)) (by rw [f1 94 rfl]; exact hnw) (by omega) (by omega) (fun s' q q1 q2 q3 q4 => by
        rw [f1 114 rfl] at q4
        have h := hC s' q q1 q2 q3 q4
        unfold clsM at h ⊢
        rw [f1 114 rfl]
        exact h) (fun _ q q1 q2 => by
        rw [show s - 1 + 1 = s by omega] at q2 ⊢
        exact c1 q (by omega) q1 q2)
    refine ⟨v', u', a2, b2, ?_, f1.trans f2, l1.trans l2, c2⟩
    rw [b219_100]
    simp (disch := omega) only [n_add, n_mul, n_in, decide_eq_true_eq, n_nat, n_lt, n_eq, n_sub, if_pos, if_neg, if_true, if_false, b219_105, e1, b219_145, n_dec, e2]
theorem m_solves2 {d n N B t p : Nat} {r : Nat → Nat → Option Nat} {Q : AQ} {nw : Bool} {vt vp : Int32} {a : Nat → Nat → Int32} {b : Nat → Nat → Int64} (et : vt = iN t) (ep : vp = iN p) (ht : t ≤ N) (hp : p < 4840) (hE : EnvM n r a N B Q) (hnw : a 94 39 = bI nw) : ∃ a' b', Den (d+16) 219 0 [.ref 94, .int vt, .int vp, zmJ, zmJ] [] (zmMk n a b r) = some (some (.long (VB Q B nw (N - t) t p)), zmMk n a' b' r) ∧ frS scS a a' ∧ frL scSL b b' ∧ a' 116 (4840 * t + p) = actI Q N B nw t p ∧ (t < N → pY p ≠ 0 → ∀ act, act < 8 → act ≠ 4 → (nw = true → act ≤ 3) → act ≠ 0 → mayP Q t p act → ∀ sn, sn ≤ 1 → needM b' Q B (VB Q B nw (N - t - 1) (t + 1)) t (behP Q t p act) (senP Q t p act) sn) := by
  subst et ep
  have h8 := hE.n8
  have hcl : frS scS a (clrM a (4840 * t) (4840 * (N + 1))) := fun k hk => by
    funext j
    unfold clrM
    rw [if_neg (fun q => by rw [q.1] at hk; cases hk)]
  have f0 : frS scS a (uI (clrM a (4840 * t) (4840 * (N + 1))) 114 (4840 * t + p) (iN 1)) := hcl.put rfl
  obtain ⟨u1, a1, e1, f1, g1, o1, c1⟩ := m_sweep (d := d+3) (b := b) (t := t) (p := p) (nw := nw) (N - t) t zmJ (uI (clrM a (4840 * t) (4840 * (N + 1))) 114 (4840 * t + p) (iN 1)) (hE.ag (f0.ag dpM_scS)) (by rw [f0 94 rfl]; exact hnw) (by omega)
  have f01 := f0.trans f1
  obtain ⟨v', u', a2, b2, e2, f2, l2, c2, c3⟩ := m_back2 (d := d) (p := p) ht (N - t) N u1 a1 b (hE.ag (f01.ag dpM_scS)) (by rw [f01 94 rfl]; exact hnw) (by omega) (Nat.le_refl _) c1 (fun h => absurd h (Nat.lt_irrefl _))
  have hmk : a2 114 (4840 * t + p) ≠ iN 0 := by
    rw [f2 114 rfl]
    refine g1 _ ?_
    rw [uI_at, if_pos ⟨rfl, rfl⟩]
    decide
  obtain ⟨v2, w2⟩ := c2 p hp hmk
  refine ⟨a2, b2, ?_, f01.trans f2.SAtoS, l2, w2, fun htN hy act q1 q2 q3 q4 q5 sn q6 => ?_⟩
  rotate_left
  · intro hc hyy
    rw [f2 114 rfl] at hmk
    have hm := c1 t p (Nat.le_refl _) htN hp hmk hy act (by omega) (by omega) _ ⟨q2, q3, q5, sn, q6, hc, hyy, rfl⟩
    rw [← f2 114 rfl] at hm
    have hb := behP_lt (Q := Q) (t := t) (act := act) hp
    have hb2 := asP_lt hb q6
    rw [show N - t - 1 = N - (t + 1) by omega]
    exact (c3 htN _ hb2 hm).1
  have h194 : a1 94 0 = iN N := by rw [f01 94 rfl]; exact hE.2.1
  have ecl := m_clear (d := d+16) (n := n) (t := t) (p := p) (b := b) (r := r) h8.2 (4840 * (N + 1) - 4840 * t) (4840 * t) a hE.2.1 (by omega)
  simp (disch := omega) only [b219_0, n_add, n_mul, n_in, decide_eq_true_eq, n_nat, n_lt, n_eq, n_sub, if_pos, if_neg, if_true, if_false, ecl, b219_33, m_marks rfl rfl _ hp, Option.bind_some, Option.toList_some, Option.toList_none, List.cons_append, List.nil_append, true_or, or_true, if_true, bI_if, b219_39, e1, b219_95, h194, e2, b219_151, v2, b219_163]

def wrV (σ : SV) (cl : List Cls) (j : Nat) : Int64 := ((VB (QS σ cl) (σ 0 5) false (σ 0 0 - j) j (σ 13 j)) - (worthV (QS σ cl) (σ 0 5) (hun (σ 0 0 - j - 1)) (VB (QS σ cl) (σ 0 5) false (σ 0 0 - j - 1) (j + 1)) j (σ 13 j) (σ 14 j))) * hun j
theorem c_loss {d j : Nat} {n : Nat} {a : Nat → Nat → Int32} {b : Nat → Nat → Int64} {r : Nat → Nat → Option Nat} {σ : SV} {cl cl' : List Cls} {R R' : Nat → List Cls} {TL TS A : Nat} {TR : Nat → Nat} (h : (St a b r σ cl cl' R R' TL TS TR A)) (hj : j < σ 0 6) : ∃ a' b', Den (d+40) 131 0 [.ref 14, .int (iN j), zmJ, zmJ, zmJ] [] (zmMk n a b r) = some (some (.long (wrV σ cl j)), zmMk n a' b' r) ∧ (St a' b' r σ cl cl' R R' TL TS TR A) := by
  obtain ⟨⟨n1, n8⟩, h16, h94, hs⟩ := h.n8
  obtain ⟨v1, v2, v3, v4, v5⟩ := h.1.2.2.2.2.2.2.1
  have hE : σ 0 7 ≠ 0 := fun e => by have := v3 e; omega
  have hp : σ 13 j < 4840 := v4 j (by omega)
  obtain ⟨ha, hm, hy⟩ := v5 j hj
  obtain ⟨c1, c2, c3, c4⟩ := h.2.1.2.2.2.2.2.2.2.2.1
  obtain ⟨a1, b1, e1, h1⟩ := c_val (d := d+9) (n := n) (t := j) h (by omega) hp
  obtain ⟨-, -, -, c5⟩ := h1.2.1.2.2.2.2.2.2.2.2.1
  obtain ⟨a2, b2, e2, k2, f2, l2⟩ := c_worth (n := n) (N := σ 0 0) (B := σ 0 5) (mn := 0) (r := r) (Q := QS σ cl) (m := σ 0 0 - j - 1) (d := d) (c_value (mn := 0) (by omega) (σ 0 0 - j - 1) (by omega)) (t := j) (p := σ 13 j) (act := σ 14 j) (vt := iN j) (vp := iN (σ 13 j)) (va := iN (σ 14 j)) (by omega) rfl rfl rfl hp ha h1.envC h1.2.2.2.1 h1.2.1.2.1
  have h2 := h1.qB k2 f2 l2
  rw [if_pos (Classical.byCases (fun e => Or.inl e) (fun e => Or.inr (hm e)))] at e2
  have e2' : Den (d+39) 4 0 [.ref 52, .int (iN j), .int (iN (σ 13 j)), .int (iN (σ 14 j)), zmJ, zmJ, zmJ, zmJ, zmJ, zmJ, zmJ, zmJ, zmJ, zmJ, zmJ] [] (zmMk n a1 b1 r) = some (some (.long (worthV (QS σ cl) (σ 0 5) (hun (σ 0 0 - j - 1)) (VB (QS σ cl) (σ 0 5) false (σ 0 0 - j - 1) (j + 1)) j (σ 13 j) (σ 14 j))), zmMk n a2 b2 r) := Den_depth (by omega) e2
  refine ⟨a2, b2, ?_, h2⟩
  rw [b131_0, c_placeAt (by omega), c3 hE j (by omega)]
  simp only [Option.bind_some, Option.toList_some, Option.toList_none, List.cons_append, List.nil_append, true_or, or_true, if_true, bI_if]
  rw [b131_8, e1]
  simp only [Option.bind_some, Option.toList_some, Option.toList_none, List.cons_append, List.nil_append, true_or, or_true, if_true, bI_if]
  rw [b131_18, c_actionAt (by omega), c5 j hj]
  simp only [Option.bind_some, Option.toList_some, Option.toList_none, List.cons_append, List.nil_append, true_or, or_true, if_true, bI_if]
  rw [b131_32, e2']
  simp only [Option.bind_some, Option.toList_some, Option.toList_none, List.cons_append, List.nil_append, true_or, or_true, if_true, bI_if]
  rw [b131_35, c_hundreds h2.2.1.2.1 (by omega)]
  simp only [Option.bind_some, Option.toList_some, Option.toList_none, List.cons_append, List.nil_append, true_or, or_true, if_true, bI_if]
  rw [b131_42]
  rfl
theorem m_wrongIn {d j : Nat} {n : Nat} {a : Nat → Nat → Int32} {b : Nat → Nat → Int64} {r : Nat → Nat → Option Nat} {σ : SV} {cl cl' : List Cls} {R R' : Nat → List Cls} {TL TS A : Nat} {TR : Nat → Nat} (h : (St a b r σ cl cl' R R' TL TS TR A)) (hj : j < σ 0 6) : ∃ a' b', Den (d+17) 255 0 [.ref 94, .int (iN j), zmJ, zmJ] [] (zmMk n a b r) = some (some (.long (wrV σ cl j)), zmMk n a' b' r) ∧ (St a' b' r σ cl cl' R R' TL TS TR A) := by
  obtain ⟨⟨n1, n8⟩, h16, h94, hs⟩ := h.n8
  obtain ⟨v1, v2, v3, v4, v5⟩ := h.1.2.2.2.2.2.2.1
  have hE : σ 0 7 ≠ 0 := fun e => by have := v3 e; omega
  have hp : σ 13 j < 4840 := v4 j (by omega)
  obtain ⟨ha, hm, hy⟩ := v5 j hj
  obtain ⟨-, c2⟩ := h.tld.2.2.1.2.2.2.2.2.1
  obtain ⟨-, c3, -⟩ := c2 hE
  obtain ⟨a1, b1, e1, f1, l1, g1, w1⟩ := m_solves2 (d := d) (n := n) (b := b) (r := r) (vt := iN j) (vp := iN (σ 13 j)) rfl rfl (show j ≤ σ 0 0 by omega) hp (h.envT (n := n)).M (tldM_39 a)
  have h1 : (St a1 b1 r σ cl cl' R R' TL TS TR A) := h.tld.qS f1 l1
  have ht1 : tldM a1 = a1 := tldM_fix (f1 94 rfl)
  obtain ⟨-, c4⟩ := h1.2.2.1.2.2.2.2.2.1
  obtain ⟨-, c5, c6⟩ := c4 hE
  obtain ⟨a2, e2, f2⟩ := m_valueBy (n := n) (b := b1) (r := r) (d := d+4) (N := σ 0 0) (m := σ 0 0 - j - 1) (F := VB (QS σ cl) (σ 0 5) false (σ 0 0 - j - 1) (j + 1)) (vt := iN j) (vp := iN (σ 13 j)) (va := iN (σ 14 j)) (by omega) rfl rfl rfl hp ha (h1.eM (n := n) ht1) (Classical.byCases (fun e => Or.inl e) (fun e => Or.inr (hm e))) (fun q sn hsn => w1 (by omega) hy _ ha.1 ha.2 (fun e => by cases e) q (hm q) sn hsn)
  have h2 : (St a2 b1 r σ cl cl' R R' TL TS TR A) := h1.qm f2.q (fun _ _ => rfl)
  have i9 : zmIn (iN j) 9 = true := by rw [n_in (by omega)]; exact decide_eq_true (by omega)
  have i8 : zmIn (iN j) 8 = true := by rw [n_in (by omega)]; exact decide_eq_true (by omega)
  refine ⟨a2, b1, ?_, h2⟩
  rw [b255_0, m_asTold]
  simp only [Option.bind_some, Option.toList_some, Option.toList_none, List.cons_append, List.nil_append, true_or, or_true, if_true, bI_if]
  rw [b255_4, if_pos i9, n_nat (by omega), c3 j (by omega), b255_12, e1]
  simp only [Option.bind_some, Option.toList_some, Option.toList_none, List.cons_append, List.nil_append, true_or, or_true, if_true, bI_if]
  rw [b255_15, if_pos i9, n_nat (by omega), c5 j (by omega), b255_25, if_pos i8, n_nat (by omega), c6 j hj, b255_31, e2]
  simp only [Option.bind_some, Option.toList_some, Option.toList_none, List.cons_append, List.nil_append, true_or, or_true, if_true, bI_if]
  rw [b255_34, m_hundreds (by omega)]
  simp only [Option.bind_some, Option.toList_some, Option.toList_none, List.cons_append, List.nil_append, true_or, or_true, if_true, bI_if]
  rw [b255_39]
  rfl
/-- the WORST of the STEPS up to j -/
def wstF (F : Nat → Int64) : Nat → Nat
  | 0 => 0
  | j + 1 => if F (wstF F j) < F (j + 1) then j + 1 else wstF F j
theorem wstF_le (F : Nat → Int64) (j : Nat) : wstF F j ≤ j := by
  induction j with
  | zero => exact Nat.le_refl _
  | succ j ih =>
    unfold wstF
    split <;> omega
theorem c_wrL {d : Nat} {v1 v2 : Int32} {n : Nat} {r : Nat → Nat → Option Nat} {σ : SV} {cl cl' : List Cls} {R R' : Nat → List Cls} {TL TS A : Nat} {TR : Nat → Nat} (hL : σ 0 6 ≤ 8) (k : Nat) : ∀ (j : Nat) {a : Nat → Nat → Int32} {b : Nat → Nat → Int64}, j + k + 1 = σ 0 6 → (St a b r σ cl cl' R R' TL TS TR A) → ∃ a' b', Den (d+41) 118 59 [.ref 14,.int v1,.int v2,.int (iN (wstF (wrV σ cl) j)),.int (iN (j + 1))] [] (zmMk n a b r) = Den (d+41) 118 95 [.ref 14,.int v1,.int v2,.int (iN (wstF (wrV σ cl) (σ 0 6 - 1))),.int (iN (σ 0 6))] [] (zmMk n a' b' r) ∧ (St a' b' r σ cl cl' R R' TL TS TR A) := by
  induction k with
  | zero =>
    intro j a b hj h
    have e62 : a 62 2 = iN (σ 0 6) := h.2.1.2.2.2.2.2.2.2.2.1.1
    have ej : j = σ 0 6 - 1 := by omega
    have ej1 : j + 1 = σ 0 6 := by omega
    refine ⟨a, b, ?_, h⟩
    rw [b118_59, e62, ej1, ej, if_neg (by rw [n_lt (by omega) (by omega)]; omega)]
  | succ k ih =>
    intro j a b hj h
    have e62 : a 62 2 = iN (σ 0 6) := h.2.1.2.2.2.2.2.2.2.2.1.1
    have hw := wstF_le (wrV σ cl) j
    have hs : wstF (wrV σ cl) (j + 1) = if wrV σ cl (wstF (wrV σ cl) j) < wrV σ cl (j + 1) then j + 1 else wstF (wrV σ cl) j := rfl
    obtain ⟨a1, b1, e1, h1⟩ := c_loss (d := d) (n := n) (j := j + 1) h (by omega)
    obtain ⟨a2, b2, e2, h2⟩ := c_loss (d := d) (n := n) (j := wstF (wrV σ cl) j) h1 (by omega)
    obtain ⟨a3, b3, e3, h3⟩ := ih (j + 1) (by omega) h2
    refine ⟨a3, b3, ?_, h3⟩
    rw [b118_59, e62, if_pos (by rw [n_lt (by omega) (by omega)]; omega), b118_71, e1]
    simp only [Option.bind_some, Option.toList_some, Option.toList_none, List.cons_append, List.nil_append, true_or, or_true, if_true, bI_if]
    rw [b118_77, e2]
    simp only [Option.bind_some, Option.toList_some, Option.toList_none, List.cons_append, List.nil_append, true_or, or_true, if_true, bI_if]
    rw [b118_82]
    simp only [cmp_pos]
    by_cases hlt : wrV σ cl (wstF (wrV σ cl) j) < wrV σ cl (j + 1)
    · rw [if_pos hlt] at hs
      rw [hs] at e3
      rw [if_pos hlt, b118_86, b118_89, n_add]
      exact e3
    · rw [if_neg hlt] at hs
      rw [hs] at e3
      rw [if_neg hlt, b118_89, n_add]
      exact e3
theorem m_wrL {d : Nat} {v1 v2 : Int32} {n : Nat} {r : Nat → Nat → Option Nat} {σ : SV} {cl cl' : List Cls} {R R' : Nat → List Cls} {TL TS A : Nat} {TR : Nat → Nat} (hL : σ 0 6 ≤ 8) (hE : σ 0 7 ≠ 0) (k : Nat) : ∀ (j : Nat) (u7 : Value) {a : Nat → Nat → Int32} {b : Nat → Nat → Int64}, j + k + 1 = σ 0 6 → (St a b r σ cl cl' R R' TL TS TR A) → ∃ u' a' b', Den (d+18) 256 67 [.ref 94,.int v1,.int v2,.int (iN (wstF (wrV σ cl) j)),.long (wrV σ cl (wstF (wrV σ cl) j)),zmJ,.int (iN (j + 1)),u7,zmJ] [] (zmMk n a b r) = Den (d+18) 256 108 [.ref 94,.int v1,.int v2,.int (iN (wstF (wrV σ cl) (σ 0 6 - 1))),.long (wrV σ cl (wstF (wrV σ cl) (σ 0 6 - 1))),zmJ,.int (iN (σ 0 6)),u',zmJ] [] (zmMk n a' b' r) ∧ (St a' b' r σ cl cl' R R' TL TS TR A) := by
  induction k with
  | zero =>
    intro j u7 a b hj h
    have e73 : a 94 73 = iN (σ 0 6) := (h.2.2.1.2.2.2.2.2.1.2 hE).1
    have ej : j = σ 0 6 - 1 := by omega
    have ej1 : j + 1 = σ 0 6 := by omega
    refine ⟨u7, a, b, ?_, h⟩
    rw [b256_67, e73, ej1, ej, if_neg (by rw [n_lt (by omega) (by omega)]; omega)]
  | succ k ih =>
    intro j u7 a b hj h
    have e73 : a 94 73 = iN (σ 0 6) := (h.2.2.1.2.2.2.2.2.1.2 hE).1
    have hw := wstF_le (wrV σ cl) j
    have hs : wstF (wrV σ cl) (j + 1) = if wrV σ cl (wstF (wrV σ cl) j) < wrV σ cl (j + 1) then j + 1 else wstF (wrV σ cl) j := rfl
    obtain ⟨a1, b1, e1, h1⟩ := m_wrongIn (d := d) (n := n) (j := j + 1) h (by omega)
    obtain ⟨u', a3, b3, e3, h3⟩ := ih (j + 1) (.long (wrV σ cl (j + 1))) (by omega) h1
    refine ⟨u', a3, b3, ?_, h3⟩
    rw [b256_67, e73, if_pos (by rw [n_lt (by omega) (by omega)]; omega), b256_76, e1]
    simp only [Option.bind_some, Option.toList_some, Option.toList_none, List.cons_append, List.nil_append, true_or, or_true, if_true, bI_if]
    rw [b256_82]
    simp only [cmp_pos]
    by_cases hlt : wrV σ cl (wstF (wrV σ cl) j) < wrV σ cl (j + 1)
    · rw [if_pos hlt] at hs
      rw [hs] at e3
      rw [if_pos hlt, b256_95, b256_102, n_add]
      exact e3
    · rw [if_neg hlt] at hs
      rw [hs] at e3
      rw [if_neg hlt, b256_92, b256_102, n_add]
      exact e3
def wrongV (σ : SV) (cl : List Cls) (v1 v2 : Int32) : Int64 := if σ 0 6 ≠ 0 ∧ inI v2 (iN 0) (iN 2) = true ∧ (v2 = iN 0 → inI v1 (iN 0) (iN (σ 0 6 - 1)) = true) then (if v2 = iN 0 then wrV σ cl v1.toNatClampNeg else if v2 = iN 1 then Int32.toInt64 (iN (wstF (wrV σ cl) (σ 0 6 - 1))) else wrV σ cl (wstF (wrV σ cl) (σ 0 6 - 1))) else -1
theorem c_wrongQ {d : Nat} {n : Nat} {a : Nat → Nat → Int32} {b : Nat → Nat → Int64} {r : Nat → Nat → Option Nat} {σ : SV} {cl cl' : List Cls} {R R' : Nat → List Cls} {TL TS A : Nat} {TR : Nat → Nat} (h : (St a b r σ cl cl' R R' TL TS TR A)) {v1 v2 : Int32} : ∃ a' b', Den (d+41) 118 0 [.ref 14, .int v1, .int v2, zmJ, zmJ] [] (zmMk n a b r) = some (some (.long (wrongV σ cl v1 v2)), zmMk n a' b' r) ∧ St a' b' r σ cl cl' R R' TL TS TR A := by
  obtain ⟨⟨n1, n8⟩, h16, h94, hs⟩ := h.n8
  have hL : σ 0 6 ≤ σ 0 0 := h.1.2.2.2.2.2.2.1.1
  have e62 : a 62 2 = iN (σ 0 6) := h.2.1.2.2.2.2.2.2.2.2.1.1
  unfold wrongV
  have e0 : (iN (σ 0 6) = iN 0) = (σ 0 6 = 0) := n_eq (by omega) (by omega)
  rw [b118_0, e62]
  simp only [e0]
  by_cases g0 : σ 0 6 = 0
  · rw [if_pos g0, if_neg (fun z => z.1 g0), b118_40]
    exact ⟨a, b, rfl, h⟩
  · rw [if_neg g0, b118_10, c_within]
    simp only [Option.bind_some, Option.toList_some, Option.toList_none, List.cons_append, List.nil_append, true_or, or_true, if_true, bI_if]
    rw [b118_16, bI_if]
    by_cases g1 : inI v2 (iN 0) (iN 2) = true
    · rw [if_pos g1, b118_19]
      have esub : iN (σ 0 6) - iN 1 = iN (σ 0 6 - 1) := n_sub (by omega)
      by_cases g2 : v2 = iN 0
      · rw [if_pos g2, b118_23, e62, esub, c_within]
        simp only [Option.bind_some, Option.toList_some, Option.toList_none, List.cons_append, List.nil_append, true_or, or_true, if_true, bI_if]
        rw [b118_37, bI_if]
        by_cases g3 : inI v1 (iN 0) (iN (σ 0 6 - 1)) = true
        · rw [if_pos g3, if_pos ⟨g0, g1, fun _ => g3⟩, if_pos g2, b118_44, if_pos g2]
          obtain ⟨j, -, j2, rfl⟩ := inI_ex (by decide) (by omega) g3
          obtain ⟨a1, b1, e1, h1⟩ := c_loss (d := d) (n := n) (j := j) h (by omega)
          refine ⟨a1, b1, ?_, h1⟩
          rw [b118_48, e1]
          simp only [Option.bind_some, Option.toList_some, Option.toList_none, List.cons_append, List.nil_append, true_or, or_true, if_true, bI_if]
          rw [b118_53, n_nat (by omega)]
        · rw [if_neg g3, if_neg (fun z => g3 (z.2.2 g2)), b118_40]
          exact ⟨a, b, rfl, h⟩
      · rw [if_neg g2, if_pos ⟨g0, g1, fun e => absurd e g2⟩, if_neg g2, b118_44, if_neg g2, b118_54]
        obtain ⟨a1, b1, e1, h1⟩ := c_wrL (d := d) (v1 := v1) (v2 := v2) (n := n) (by omega) (σ 0 6 - 1) 0 (by omega) h
        have e1' : Den (d+41) 118 59 [.ref 14,.int v1,.int v2,.int (iN 0),.int (iN 1)] [] (zmMk n a b r) = _ := e1
        rw [e1', b118_95]
        by_cases g4 : v2 = iN 1
        · rw [if_pos g4, if_pos g4, b118_100, b118_110]
          exact ⟨a1, b1, rfl, h1⟩
        · rw [if_neg g4, if_neg g4]
          have hw := wstF_le (wrV σ cl) (σ 0 6 - 1)
          obtain ⟨a2, b2, e2, h2⟩ := c_loss (d := d) (n := n) (j := wstF (wrV σ cl) (σ 0 6 - 1)) h1 (by omega)
          refine ⟨a2, b2, ?_, h2⟩
          rw [b118_105, e2]
          simp only [Option.bind_some, Option.toList_some, Option.toList_none, List.cons_append, List.nil_append, true_or, or_true, if_true, bI_if]
          rw [b118_110]
    · rw [if_neg g1, if_neg (fun z => g1 z.2.1), b118_40]
      exact ⟨a, b, rfl, h⟩
theorem m_wrongQ {d : Nat} {n : Nat} {a : Nat → Nat → Int32} {b : Nat → Nat → Int64} {r : Nat → Nat → Option Nat} {σ : SV} {cl cl' : List Cls} {R R' : Nat → List Cls} {TL TS A : Nat} {TR : Nat → Nat} (h : (St a b r σ cl cl' R R' TL TS TR A)) {v1 v2 : Int32} : ∃ a' b', Den (d+41) 256 0 [.ref 94, .int v1, .int v2, zmJ, zmJ, zmJ, zmJ, zmJ, zmJ] [] (zmMk n a b r) = some (some (.long (wrongV σ cl v1 v2)), zmMk n a' b' r) ∧ St a' b' r σ cl cl' R R' TL TS TR A := by
  obtain ⟨⟨n1, n8⟩, h16, h94, hs⟩ := h.n8
  have hL : σ 0 6 ≤ σ 0 0 := h.1.2.2.2.2.2.2.1.1
  have hE3 : σ 0 7 ≤ 3 := h.1.2.2.2.2.2.2.1.2.1
  have hE0 := h.1.2.2.2.2.2.2.1.2.2.1
  have e74 : a 94 74 = iN (σ 0 7) := h.2.2.1.2.2.2.2.2.1.1
  unfold wrongV
  have e0 : (iN (σ 0 6) = iN 0) = (σ 0 6 = 0) := n_eq (by omega) (by omega)
  have e7 : (iN (σ 0 7) = iN 0) = (σ 0 7 = 0) := n_eq (by omega) (by omega)
  rw [b256_0, e74]
  simp only [e7]
  by_cases gE : σ 0 7 = 0
  · rw [if_pos gE, if_neg (fun z => z.1 (hE0 gE)), b256_41]
    exact ⟨a, b, rfl, h⟩
  have e73 : a 94 73 = iN (σ 0 6) := (h.2.2.1.2.2.2.2.2.1.2 gE).1
  rw [if_neg gE, b256_7, e73]
  simp only [e0]
  by_cases g0 : σ 0 6 = 0
  · rw [if_pos g0, if_neg (fun z => z.1 g0), b256_41]
    exact ⟨a, b, rfl, h⟩
  · rw [if_neg g0, b256_14, m_in]
    simp only [Option.bind_some, Option.toList_some, Option.toList_none, List.cons_append, List.nil_append, true_or, or_true, if_true, bI_if]
    rw [b256_20, bI_if]
    by_cases g1 : inI v2 (iN 0) (iN 2) = true
    · rw [if_pos g1, b256_23]
      have esub : iN (σ 0 6) - iN 1 = iN (σ 0 6 - 1) := n_sub (by omega)
      by_cases g2 : v2 = iN 0
      · rw [if_pos g2, b256_27, e73, esub, m_in]
        simp only [Option.bind_some, Option.toList_some, Option.toList_none, List.cons_append, List.nil_append, true_or, or_true, if_true, bI_if]
        rw [b256_38, bI_if]
        by_cases g3 : inI v1 (iN 0) (iN (σ 0 6 - 1)) = true
        · rw [if_pos g3, if_pos ⟨g0, g1, fun _ => g3⟩, if_pos g2, b256_45, if_pos g2]
          obtain ⟨j, -, j2, rfl⟩ := inI_ex (by decide) (by omega) g3
          obtain ⟨a1, b1, e1, h1⟩ := m_wrongIn (d := d+23) (n := n) (j := j) h (by omega)
          refine ⟨a1, b1, ?_, h1⟩
          rw [b256_49, e1]
          simp only [Option.bind_some, Option.toList_some, Option.toList_none, List.cons_append, List.nil_append, true_or, or_true, if_true, bI_if]
          rw [b256_54, n_nat (by omega)]
        · rw [if_neg g3, if_neg (fun z => g3 (z.2.2 g2)), b256_41]
          exact ⟨a, b, rfl, h⟩
      · rw [if_neg g2, if_pos ⟨g0, g1, fun e => absurd e g2⟩, if_neg g2, b256_45, if_neg g2]
        obtain ⟨a0, b0, e9, h9⟩ := m_wrongIn (d := d+23) (n := n) (j := 0) h (by omega)
        obtain ⟨u', a1, b1, e1, h1⟩ := m_wrL (d := d+23) (v1 := v1) (v2 := v2) (n := n) (by omega) gE (σ 0 6 - 1) 0 zmJ (by omega) h9
        have e1' : Den (d+41) 256 67 [.ref 94,.int v1,.int v2,.int (iN 0),.long (wrV σ cl 0),zmJ,.int (iN 1),zmJ,zmJ] [] (zmMk n a0 b0 r) = _ := e1
        rw [b256_55, e9]
        simp only [Option.bind_some, Option.toList_some, Option.toList_none, List.cons_append, List.nil_append, true_or, or_true, if_true, bI_if]
        rw [b256_62, e1', b256_108]
        by_cases g4 : v2 = iN 1
        · rw [if_pos g4, if_pos g4, b256_113, b256_120]
          exact ⟨a1, b1, rfl, h1⟩
        · rw [if_neg g4, if_neg g4, b256_118, b256_120]
          exact ⟨a1, b1, rfl, h1⟩
    · rw [if_neg g1, if_neg (fun z => g1 z.2.1), b256_41]
      exact ⟨a, b, rfl, h⟩
