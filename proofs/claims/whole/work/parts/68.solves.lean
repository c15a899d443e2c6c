/-! ===== the reference's solvesAt and solves ===== -/
theorem m_solvesAt {n N B : Nat} {r : Nat → Nat → Option Nat} {Q : AQ} {nw : Bool} {d s p : Nat} {vt vp : Int32} {a : Nat → Nat → Int32} {b : Nat → Nat → Int64} (et : vt = iN s) (ep : vp = iN p) (hs : s ≤ N) (hp : p < 4840) (hE : EnvM n r a N B Q) (hnw : a 94 39 = bI nw) (hN : pY p ≠ 0 → s < N → ∀ act, act < 8 → act ≠ 4 → (nw = true → act ≤ 3) → act ≠ 0 → mayP Q s p act → ∀ sn, sn ≤ 1 → needM b Q B (VB Q B nw (N - s - 1) (s + 1)) s (behP Q s p act) (senP Q s p act) sn) : ∃ a' b', Den (d+15) 218 0 [.ref 94, .int vt, .int vp, zmJ, zmJ, zmJ, zmJ] [] (zmMk n a b r) = some (none, zmMk n a' b' r) ∧ frS scA a a' ∧ frL scSL b b' ∧ (∀ i, i ≠ 4840 * s + p → a' 116 i = a 116 i ∧ b' 115 i = b 115 i) ∧ b' 115 (4840 * s + p) = VB Q B nw (N - s) s p ∧ a' 116 (4840 * s + p) = actI Q N B nw s p := by
  subst et ep
  have h8 := hE.n8
  have hB := hE.qb
  have hyl := pY_le hp
  have h94 : a 94 0 = iN N := hE.2.1
  have hv := hB.v s p 0
  have hm := hB.m s p 0
  have hi : 4840 * s + p < 43560 := by omega
  have hE1 : EnvM n r (uI a 116 (4840 * s + p) (-1)) N B Q := hE.ag (agD.refl.put rfl)
  unfold actI
  by_cases hy : pY p = 0
  · obtain ⟨a1, e1, f1⟩ := m_worth (d := d+4) (b := b) hE1 (vt := iN s) (vp := iN p) rfl rfl (by omega) hp
    refine ⟨a1, uL b 115 (4840 * s + p) (hun (N - s) * jN (Q (iN 118) s p 0)), ?_, ?_, frL.refl.put rfl, fun i hne => ⟨?_, ?_⟩, ?_, ?_⟩
    · simp (disch := omega) only [n_add, n_mul, n_in, decide_eq_true_eq, n_nat, n_lt, n_eq, n_sub, if_pos, if_neg, if_true, if_false, Option.bind_some, Option.toList_some, Option.toList_none, List.cons_append, List.nil_append, true_or, or_true, if_true, bI_if, b218_0, i8m, b218_15, m_yardsIn hp, b218_19, hy, b218_22, uI_at, false_and, h94, m_hundreds, b218_36, e1, b218_42, l_of, b218_45, show ¬ (94 = 116) by decide]
    · exact (frS.refl.put rfl : frS scA a (uI a 116 (4840 * s + p) (-1))).trans f1.toSA
    · rw [f1 116 rfl, uI_at, if_neg (fun q => hne q.2)]
    · rw [uL_at, if_neg (fun q => hne q.2)]
    · rw [uL_at, if_pos ⟨rfl, rfl⟩]
      cases hk : N - s with
      | zero =>
        unfold VB
        rw [if_pos hy]
        simp [hun]
      | succ m =>
        unfold VB
        rw [if_pos hy]
        exact Int64.mul_comm _ _
    · rw [f1 116 rfl, uI_at, if_pos ⟨rfl, rfl⟩, if_pos (Or.inl hy)]
  · by_cases hsN : s = N
    · subst hsN
      obtain ⟨a1, e1, f1⟩ := m_costs (d := d+4) (b := b) hE1 (vt := iN s) (vp := iN p) rfl rfl (by omega) hp
      refine ⟨a1, uL b 115 (4840 * s + p) (-(jN (Q (iN 109) s p 0))), ?_, ?_, frL.refl.put rfl, fun i hne => ⟨?_, ?_⟩, ?_, ?_⟩
      · simp (disch := omega) only [n_add, n_mul, n_in, decide_eq_true_eq, n_nat, n_lt, n_eq, n_sub, if_pos, if_neg, if_true, if_false, Option.bind_some, Option.toList_some, Option.toList_none, List.cons_append, List.nil_append, true_or, or_true, if_true, bI_if, b218_0, i8m, b218_15, m_yardsIn hp, b218_19, hy, b218_46, uI_at, false_and, h94, b218_54, show ¬ (94 = 116) by decide, e1, b218_65, l_ofn, b218_68]
      · exact (frS.refl.put rfl : frS scA a (uI a 116 (4840 * s + p) (-1))).trans f1.toSA
      · rw [f1 116 rfl, uI_at, if_neg (fun q => hne q.2)]
      · rw [uL_at, if_neg (fun q => hne q.2)]
      · rw [uL_at, if_pos ⟨rfl, rfl⟩, show s - s = 0 by omega]
        unfold VB
        rw [if_neg hy]
      · rw [f1 116 rfl, uI_at, if_pos ⟨rfl, rfl⟩, if_pos (Or.inr rfl)]
    · obtain ⟨m, hm1⟩ : ∃ m, s + m + 1 = N := ⟨N - s - 1, by omega⟩
      have em : N - s - 1 = m := by omega
      rw [em] at hN
      have hN2 := hN hy (by omega)
      obtain ⟨a1, e1, f1⟩ := m_valueBy (d := d+2) (vt := iN s) (vp := iN p) (va := iN 0) (F := VB Q B nw m (s + 1)) (b := b) hm1 rfl rfl rfl hp (by omega) hE1 (Or.inl rfl) (fun q => absurd rfl q)
      have hfr1 : frS scA a a1 := (frS.refl.put rfl : frS scA a (uI a 116 (4840 * s + p) (-1))).trans f1.toSA
      have hfr2 : frS scA a (uI a1 116 (4840 * s + p) (iN 0)) := hfr1.put rfl
      obtain ⟨a2, b2, e2, f2, l2, o2, v2, w2⟩ := m_solvesLoop (d := d+1) (b := uL b 115 (4840 * s + p) (worthV Q B (hun m) (VB Q B nw m (s + 1)) s p 0)) (a := uI a1 116 (4840 * s + p) (iN 0)) hm1 hp 7 0 zmJ (by omega) (hE.ag (hfr2.ag dpM_scA)) (by rw [hfr2 94 rfl]; exact hnw) (fun act q1 q2 q3 q4 q5 sn q6 => by
        have h := hN2 act q1 q2 q3 q4 q5 sn q6
        unfold needM at h ⊢
        have hb := behP_lt (Q := Q) (t := s) (act := act) hp
        have hb2 := asP_lt hb q6
        rw [uL_at, if_neg (show ¬ (115 = 115 ∧ 4840 * (s + 1) + asP (behP Q s p act) sn = 4840 * s + p) by omega)]
        exact h) (by rw [uL_at, if_pos ⟨rfl, rfl⟩]; rfl) (by rw [uI_at, if_pos ⟨rfl, rfl⟩]; rfl)
      refine ⟨a2, b2, ?_, hfr2.trans f2, (frL.refl.put rfl : frL scSL b (uL b 115 (4840 * s + p) (worthV Q B (hun m) (VB Q B nw m (s + 1)) s p 0))).trans l2, fun i hne => ?_, ?_, ?_⟩
      · simp (disch := omega) only [n_add, n_mul, n_in, decide_eq_true_eq, n_nat, n_lt, n_eq, n_sub, if_pos, if_neg, if_true, if_false, Option.bind_some, Option.toList_some, Option.toList_none, List.cons_append, List.nil_append, true_or, or_true, if_true, bI_if, b218_0, i8m, b218_15, m_yardsIn hp, b218_19, hy, b218_46, uI_at, false_and, h94, b218_69, e1, b218_81, b218_82, i8n, b218_89, show ¬ (94 = 116) by decide]
        exact e2
      · obtain ⟨o3, o4⟩ := o2 i hne
        rw [uI_at, if_neg (fun q => hne q.2), f1 116 rfl, uI_at, if_neg (fun q => hne q.2)] at o3
        rw [uL_at, if_neg (fun q => hne q.2)] at o4
        exact ⟨o3, o4⟩
      · rw [v2, show N - s = m + 1 by omega]
        conv => rhs; unfold VB
        rw [if_neg hy]
      · rw [w2, if_neg (fun q => q.elim hy hsN), em]
        rfl
/-- the marks of a stretch are taken away -/
def clrM (a : Nat → Nat → Int32) (lo hi : Nat) : Nat → Nat → Int32 := fun k j => if k = 114 ∧ lo ≤ j ∧ j < hi then iN 0 else a k j
theorem clrM_step {a : Nat → Nat → Int32} {lo hi : Nat} (h : lo < hi) : clrM (uI a 114 lo (iN 0)) (lo + 1) hi = clrM a lo hi := by
  funext k j
  unfold clrM
  rw [uI_at]
  by_cases h1 : k = 114 ∧ lo ≤ j ∧ j < hi
  · rw [if_pos h1]
    split
    · rfl
    · rw [if_pos (by omega)]
  · rw [if_neg h1, if_neg (by omega), if_neg (by omega)]
theorem clrM_0 {a : Nat → Nat → Int32} {lo : Nat} : clrM a lo lo = a := by
  funext k j
  unfold clrM
  rw [if_neg (by omega)]
theorem m_clear {d n N t p : Nat} {b : Nat → Nat → Int64} {r : Nat → Nat → Option Nat} (hN : N ≤ 8) (k : Nat) : ∀ (lo : Nat) (a : Nat → Nat → Int32), a 94 0 = iN N → lo + k = 4840 * (N + 1) → Den d 219 6 [.ref 94,.int (iN t),.int (iN p),.int (iN lo),zmJ] [] (zmMk n a b r) = Den d 219 33 [.ref 94,.int (iN t),.int (iN p),.int (iN (4840 * (N + 1))),zmJ] [] (zmMk n (clrM a lo (4840 * (N + 1))) b r) := by
  induction k with
  | zero =>
    intro lo a h94 hk
    obtain rfl : lo = 4840 * (N + 1) := by omega
    rw [b219_6, clrM_0]
    simp (disch := omega) only [h94, n_add, n_mul, n_in, decide_eq_true_eq, n_nat, n_lt, n_eq, n_sub, if_pos, if_neg, if_true, if_false]
  | succ k ih =>
    intro lo a h94 hk
    rw [b219_6]
    simp (disch := omega) only [h94, n_add, n_mul, n_in, decide_eq_true_eq, n_nat, n_lt, n_eq, n_sub, if_pos, if_neg, if_true, if_false, b219_20, b219_27]
    rw [ih (lo + 1) (uI a 114 lo (iN 0)) (by rw [uI_at, if_neg (by omega)]; exact h94) (by omega), clrM_step (by omega)]
/-- one STEP's row: what can come behind the marked is marked -/
theorem m_sweepRow {d n N B t p s : Nat} {b : Nat → Nat → Int64} {r : Nat → Nat → Option Nat} {Q : AQ} {nw : Bool} (hs : s < N) (k : Nat) : ∀ (lo : Nat) (a : Nat → Nat → Int32), EnvM n r a N B Q → a 94 39 = bI nw → lo + k = 4840 → ∃ a', Den (d+13) 219 52 [.ref 94,.int (iN t),.int (iN p),.int (iN s),.int (iN lo)] [] (zmMk n a b r) = Den (d+13) 219 89 [.ref 94,.int (iN t),.int (iN p),.int (iN s),.int (iN 4840)] [] (zmMk n a' b r) ∧ frS scS a a' ∧ MonM a a' (s + 1) ∧ ∀ q, lo ≤ q → q < 4840 → a' 114 (4840 * s + q) ≠ iN 0 → clsM Q nw a' s q := by
  induction k with
  | zero =>
    intro lo a hE hnw hk
    obtain rfl : lo = 4840 := by omega
    refine ⟨a, ?_, frS.refl, MonM.refl rfl, fun q h1 h2 => absurd h1 (by omega)⟩
    rw [b219_52]
    simp (disch := omega) only [n_add, n_mul, n_in, decide_eq_true_eq, n_nat, n_lt, n_eq, n_sub, if_pos, if_neg, if_true, if_false]
  | succ k ih =>
    intro lo a hE hnw hk
    have h8 := hE.n8
    by_cases hmk : a 114 (4840 * s + lo) = iN 0
    · obtain ⟨a1, e1, f1, m1, c1⟩ := ih (lo + 1) a hE hnw (by omega)
      refine ⟨a1, ?_, f1, m1, fun q h1 h2 h3 => ?_⟩
      · rw [b219_52]
        simp (disch := omega) only [n_add, n_mul, n_in, decide_eq_true_eq, n_nat, n_lt, n_eq, n_sub, if_pos, if_neg, if_true, if_false, b219_60, hmk, b219_73, b219_83, e1]
      · rcases Nat.lt_or_ge lo q with h | h
        · exact c1 q h h2 h3
        · obtain rfl : q = lo := by omega
          rcases m1 (4840 * s + q) with q2 | q2
          · rw [q2] at h3; exact absurd hmk h3
          · exact absurd q2.1 (by omega)
    · obtain ⟨a1, e1, f1, m1, c1⟩ := m_spreads (d := d) (b := b) (nw := nw) (vt := iN s) (vp := iN lo) rfl rfl hs (by omega) hE hnw
      obtain ⟨a2, e2, f2, m2, c2⟩ := ih (lo + 1) a1 (hE.ag (f1.ag dpM_scS)) (by rw [f1 94 rfl]; exact hnw) (by omega)
      refine ⟨a2, ?_, f1.trans f2, m1.trans m2, fun q h1 h2 h3 => ?_⟩
      · rw [b219_52]
        simp (disch := omega) only [n_add, n_mul, n_in, decide_eq_true_eq, n_nat, n_lt, n_eq, n_sub, if_pos, if_neg, if_true, if_false, b219_60, hmk, b219_73, b219_76, e1, Option.bind_some, Option.toList_some, Option.toList_none, List.cons_append, List.nil_append, true_or, or_true, if_true, bI_if, b219_83, e2]
      · rcases Nat.lt_or_ge lo q with h | h
        · exact c2 q h h2 h3
        · obtain rfl : q = lo := by omega
          exact fun hy act q1 q2 th hs => m2.mk (c1 hy act q1 q2 th hs)
/-- all STEPS -/
theorem m_sweep {d n N B t p : Nat} {b : Nat → Nat → Int64} {r : Nat → Nat → Option Nat} {Q : AQ} {nw : Bool} (k : Nat) : ∀ (s : Nat) (u4 : Value) (a : Nat → Nat → Int32), EnvM n r a N B Q → a 94 39 = bI nw → s + k = N → ∃ u' a', Den (d+13) 219 41 [.ref 94,.int (iN t),.int (iN p),.int (iN s),u4] [] (zmMk n a b r) = Den (d+13) 219 95 [.ref 94,.int (iN t),.int (iN p),.int (iN N),u'] [] (zmMk n a' b r) ∧ frS scS a a' ∧ (∀ j, a 114 j ≠ iN 0 → a' 114 j ≠ iN 0) ∧ (∀ j, j < 4840 * (s + 1) → a' 114 j = a 114 j) ∧ ∀ s' q, s ≤ s' → s' < N → q < 4840 → a' 114 (4840 * s' + q) ≠ iN 0 → clsM Q nw a' s' q := by
  induction k with
  | zero =>
    intro s u4 a hE hnw hk
    have h8 := hE.n8
    obtain rfl : s = N := by omega
    refine ⟨u4, a, ?_, frS.refl, fun j h => h, fun j _ => rfl, fun s' q h1 h2 => absurd h1 (by omega)⟩
    rw [b219_41]
    simp (disch := omega) only [hE.2.1, n_add, n_mul, n_in, decide_eq_true_eq, n_nat, n_lt, n_eq, n_sub, if_pos, if_neg, if_true, if_false]
  | succ k ih =>
    intro s u4 a hE hnw hk
    have h8 := hE.n8
    obtain ⟨a1, e1, f1, m1, c1⟩ := m_sweepRow (d := d) (b := b) (t := t) (p := p) (s := s) (by omega) 4840 0 a hE hnw (by omega)
    obtain ⟨u', a2, e2, f2, g2, o2, c2⟩ := ih (s + 1) (.int (iN 4840)) a1 (hE.ag (f1.ag dpM_scS)) (by rw [f1 94 rfl]; exact hnw) (by omega)
    have om : ∀ j, j < 4840 * (s + 1) → a1 114 j = a 114 j := fun j hj => by
      rcases m1 j with q | q
      · exact q
      · exact absurd q.1 (by omega)
    refine ⟨u', a2, ?_, f1.trans f2, fun j hj => g2 j (m1.mk hj), fun j hj => (o2 j (by omega)).trans (om j hj), fun s' q h1 h2 h3 h4 => ?_⟩
    · rw [b219_41]
      simp (disch := omega) only [hE.2.1, n_add, n_mul, n_in, decide_eq_true_eq, n_nat, n_lt, n_eq, n_sub, if_pos, if_neg, if_true, if_false, b219_49, e1, b219_89, e2]
    · rcases Nat.lt_or_ge s s' with h | h
      · exact c2 s' q h h2 h3 h4
      · obtain rfl : s' = s := by omega
        rw [o2 _ (by omega)] at h4
        intro hy act q1 q2 th hs
        exact g2 _ (c1 q (by omega) h3 h4 hy act q1 q2 th hs)

/-- the values of a STEP's marked places are right -/
def rgtM (a : Nat → Nat → Int32) (b : Nat → Nat → Int64) (Q : AQ) (N B : Nat) (nw : Bool) (s q : Nat) : Prop := b 115 (4840 * s + q) = VB Q B nw (N - s) s q ∧ a 116 (4840 * s + q) = actI Q N B nw s q
theorem m_backRow {d n N B t p s : Nat} {r : Nat → Nat → Option Nat} {Q : AQ} {nw : Bool} (hs : s ≤ N) (k : Nat) : ∀ (lo : Nat) (a : Nat → Nat → Int32) (b : Nat → Nat → Int64), EnvM n r a N B Q → a 94 39 = bI nw → lo + k = 4840 → (s < N → ∀ q, q < 4840 → a 114 (4840 * s + q) ≠ iN 0 → clsM Q nw a s q) → (s < N → ∀ q, q < 4840 → a 114 (4840 * (s + 1) + q) ≠ iN 0 → rgtM a b Q N B nw (s + 1) q) → ∃ a' b', Den (d+16) 219 108 [.ref 94,.int (iN t),.int (iN p),.int (iN s),.int (iN lo)] [] (zmMk n a b r) = Den (d+16) 219 145 [.ref 94,.int (iN t),.int (iN p),.int (iN s),.int (iN 4840)] [] (zmMk n a' b' r) ∧ frS scA a a' ∧ frL scSL b b' ∧ (∀ i, i < 4840 * s + lo ∨ 4840 * (s + 1) ≤ i → a' 116 i = a 116 i ∧ b' 115 i = b 115 i) ∧ ∀ q, lo ≤ q → q < 4840 → a' 114 (4840 * s + q) ≠ iN 0 → rgtM a' b' Q N B nw s q := by
  induction k with
  | zero =>
    intro lo a b hE hnw hk hC hR
    obtain rfl : lo = 4840 := by omega
    refine ⟨a, b, ?_, frS.refl, frL.refl, fun i _ => ⟨rfl, rfl⟩, fun q h1 h2 => absurd h1 (by omega)⟩
    rw [b219_108]
    simp (disch := omega) only [n_add, n_mul, n_in, decide_eq_true_eq, n_nat, n_lt, n_eq, n_sub, if_pos, if_neg, if_true, if_false]
  | succ k ih =>
    intro lo a b hE hnw hk hC hR
    have h8 := hE.n8
    by_cases hmk : a 114 (4840 * s + lo) = iN 0
    · obtain ⟨a1, b1, e1, f1, l1, o1, c1⟩ := ih (lo + 1) a b hE hnw (by omega) hC hR
      refine ⟨a1, b1, ?_, f1, l1, fun i hi => o1 i (by omega), fun q h1 h2 h3 => ?_⟩
      · rw [b219_108]
        simp (disch := omega) only [n_add, n_mul, n_in, decide_eq_true_eq, n_nat, n_lt, n_eq, n_sub, if_pos, if_neg, if_true, if_false, b219_116, hmk, b219_129, b219_139, e1]
      · rcases Nat.lt_or_ge lo q with h | h
        · exact c1 q h h2 h3
        · obtain rfl : q = lo := by omega
          rw [f1 114 rfl] at h3
          exact absurd hmk h3
    · obtain ⟨a1, b1, e1, f1, l1, o1, v1, w1⟩ := m_solvesAt (d := d) (b := b) (nw := nw) (vt := iN s) (vp := iN lo) rfl rfl hs (by omega) hE hnw (fun hy hsN act q1 q2 q3 q4 q5 sn q6 => by
        intro hc hyy
        have hm := hC hsN lo (by omega) hmk hy act (by omega) (by omega) _ ⟨q2, q3, q5, sn, q6, hc, hyy, rfl⟩
        have hb := behP_lt (Q := Q) (t := s) (act := act) (show lo < 4840 by omega)
        have hb2 := asP_lt hb q6
        rw [show N - s - 1 = N - (s + 1) by omega]
        exact (hR hsN _ hb2 hm).1)
      have f1' : frS scA a a1 := f1
      obtain ⟨a2, b2, e2, f2, l2, o2, c2⟩ := ih (lo + 1) a1 b1 (hE.ag (f1.ag dpM_scA)) (by rw [f1 94 rfl]; exact hnw) (by omega) (fun hsN q q1 q2 => by
        rw [f1 114 rfl] at q2
        have h := hC hsN q q1 q2
        unfold clsM at h ⊢
        rw [f1 114 rfl]
        exact h) (fun hsN q q1 q2 => by
        rw [f1 114 rfl] at q2
        have h := hR hsN q q1 q2
        unfold rgtM at h ⊢
        obtain ⟨o3, o4⟩ := o1 (4840 * (s + 1) + q) (by omega)
        rw [o3, o4]
        exact h)
      refine ⟨a2, b2, ?_, f1.trans f2, l1.trans l2, fun i hi => ?_, fun q h1 h2 h3 => ?_⟩
      · rw [b219_108]
        simp (disch := omega) only [n_add, n_mul, n_in, decide_eq_true_eq, n_nat, n_lt, n_eq, n_sub, if_pos, if_neg, if_true, if_false, b219_116, hmk, b219_129, b219_132, e1, Option.bind_some, Option.toList_some, Option.toList_none, List.cons_append, List.nil_append, true_or, or_true, if_true, bI_if, b219_139, e2]
      · obtain ⟨o3, o4⟩ := o1 i (by omega)
        obtain ⟨o5, o6⟩ := o2 i (by omega)
        exact ⟨o5.trans o3, o6.trans o4⟩
      · rcases Nat.lt_or_ge lo q with h | h
        · exact c2 q h h2 h3
        · have : q = lo := by omega
          rw [this]
          obtain ⟨o5, o6⟩ := o2 (4840 * s + lo) (by omega)
          unfold rgtM
          rw [o5, o6]
          exact ⟨v1, w1⟩
theorem n_dec {s : Nat} (h : 1 ≤ s) : iN s + (-1) = iN (s - 1) := by
  rw [← n_sub h, Int32.sub_eq_add_neg, show (-1 : Int32) = -(iN 1) by decide]
theorem n_m1 {t : Nat} (h : t < 2147483648) : (iN 0 + (-1) < iN t) = True := by
  refine eq_true ?_
  rw [Int32.lt_iff_toInt_lt, n_toI h]
  have : (iN 0 + (-1)).toInt = -1 := by decide
  omega
/-- back to STEP t -/
theorem m_back {d n N B t p : Nat} {r : Nat → Nat → Option Nat} {Q : AQ} {nw : Bool} (htN : t ≤ N) (k : Nat) : ∀ (s : Nat) (u4 : Value) (a : Nat → Nat → Int32) (b : Nat → Nat → Int64), EnvM n r a N B Q → a 94 39 = bI nw → s = t + k → s ≤ N → (∀ s' q, t ≤ s' → s' < N → q < 4840 → a 114 (4840 * s' + q) ≠ iN 0 → clsM Q nw a s' q) → (s < N → ∀ q, q < 4840 → a 114 (4840 * (s + 1) + q) ≠ iN 0 → rgtM a b Q N B nw (s + 1) q) → ∃ v' u' a' b', Den (d+16) 219 100 [.ref 94,.int (iN t),.int (iN p),.int (iN s),u4] [] (zmMk n a b r) = Den (d+16) 219 151 [.ref 94,.int (iN t),.int (iN p),.int v',u'] [] (zmMk n a' b' r) ∧ frS scA a a' ∧ frL scSL b b' ∧ ∀ q, q < 4840 → a' 114 (4840 * t + q) ≠ iN 0 → rgtM a' b' Q N B nw t q := by
  induction k with
  | zero =>
    intro s u4 a b hE hnw hk hsN hC hR
    have h8 := hE.n8
    have hst : s = t := by omega
    obtain ⟨a1, b1, e1, f1, l1, o1, c1⟩ := m_backRow (d := d) (t := t) (p := p) hsN 4840 0 a b hE hnw (by omega) (fun h q => hC s q (by omega) h) hR
    refine ⟨iN s + (-1), .int (iN 4840), a1, b1, ?_, f1, l1, fun q h1 h2 => ?_⟩
    · rw [b219_100]
      have hlt : (iN s + (-1) < iN t) = True := by
        rcases Nat.eq_zero_or_pos s with h | h
        · rw [h]; exact n_m1 (by omega)
        · rw [n_dec h, n_lt (by omega) (by omega)]
          exact eq_true (by omega)
      simp (disch := omega) only [n_add, n_mul, n_in, decide_eq_true_eq, n_nat, n_lt, n_eq, n_sub, if_pos, if_neg, if_true, if_false, b219_105, e1, b219_145]
      rw [b219_100]
      simp only [hlt, if_true]
    · rw [← hst] at h2 ⊢
      exact c1 q (by omega) h1 h2
  | succ k ih =>
    intro s u4 a b hE hnw hk hsN hC hR
    have h8 := hE.n8
    obtain ⟨a1, b1, e1, f1, l1, o1, c1⟩ := m_backRow (d := d) (t := t) (p := p) hsN 4840 0 a b hE hnw (by omega) (fun h q => hC s q (by omega) h) hR
    obtain ⟨v', u', a2, b2, e2, f2, l2, c2⟩ := ih (s - 1) (.int (iN 4840)) a1 b1 (hE.ag (f1.ag dpM_scA)) (by rw [f1 94 rfl]; exact hnw) (by omega) (by omega) (fun s' q q1 q2 q3 q4 => by
        rw [f1 114 rfl] at q4
        have h := hC s' q q1 q2 q3 q4
        unfold clsM at h ⊢
        rw [f1 114 rfl]
        exact h) (fun _ q q1 q2 => by
        rw [show s - 1 + 1 = s by omega] at q2 ⊢
        exact c1 q (by omega) q1 q2)
    refine ⟨v', u', a2, b2, ?_, f1.trans f2, l1.trans l2, c2⟩
    rw [b219_100]
    simp (disch := omega) only [n_add, n_mul, n_in, decide_eq_true_eq, n_nat, n_lt, n_eq, n_sub, if_pos, if_neg, if_true, if_false, b219_105, e1, b219_145, n_dec, e2]
theorem m_solves {d n N B t p : Nat} {r : Nat → Nat → Option Nat} {Q : AQ} {nw : Bool} {vt vp : Int32} {a : Nat → Nat → Int32} {b : Nat → Nat → Int64} (et : vt = iN t) (ep : vp = iN p) (ht : t ≤ N) (hp : p < 4840) (hE : EnvM n r a N B Q) (hnw : a 94 39 = bI nw) : ∃ a' b', Den (d+16) 219 0 [.ref 94, .int vt, .int vp, zmJ, zmJ] [] (zmMk n a b r) = some (some (.long (VB Q B nw (N - t) t p)), zmMk n a' b' r) ∧ frS scS a a' ∧ frL scSL b b' ∧ a' 116 (4840 * t + p) = actI Q N B nw t p := by
  subst et ep
  have h8 := hE.n8
  have hcl : frS scS a (clrM a (4840 * t) (4840 * (N + 1))) := fun k hk => by
    funext j
    unfold clrM
    rw [if_neg (fun q => by rw [q.1] at hk; cases hk)]
  have f0 : frS scS a (uI (clrM a (4840 * t) (4840 * (N + 1))) 114 (4840 * t + p) (iN 1)) := hcl.put rfl
  obtain ⟨u1, a1, e1, f1, g1, o1, c1⟩ := m_sweep (d := d+3) (b := b) (t := t) (p := p) (nw := nw) (N - t) t zmJ (uI (clrM a (4840 * t) (4840 * (N + 1))) 114 (4840 * t + p) (iN 1)) (hE.ag (f0.ag dpM_scS)) (by rw [f0 94 rfl]; exact hnw) (by omega)
  have f01 := f0.trans f1
  obtain ⟨v', u', a2, b2, e2, f2, l2, c2⟩ := m_back (d := d) (p := p) ht (N - t) N u1 a1 b (hE.ag (f01.ag dpM_scS)) (by rw [f01 94 rfl]; exact hnw) (by omega) (Nat.le_refl _) c1 (fun h => absurd h (Nat.lt_irrefl _))
  have hmk : a2 114 (4840 * t + p) ≠ iN 0 := by
    rw [f2 114 rfl]
    refine g1 _ ?_
    rw [uI_at, if_pos ⟨rfl, rfl⟩]
    decide
  obtain ⟨v2, w2⟩ := c2 p hp hmk
  refine ⟨a2, b2, ?_, f01.trans f2.SAtoS, l2, w2⟩
  have h194 : a1 94 0 = iN N := by rw [f01 94 rfl]; exact hE.2.1
  have ecl := m_clear (d := d+16) (n := n) (t := t) (p := p) (b := b) (r := r) h8.2 (4840 * (N + 1) - 4840 * t) (4840 * t) a hE.2.1 (by omega)
  simp (disch := omega) only [b219_0, n_add, n_mul, n_in, decide_eq_true_eq, n_nat, n_lt, n_eq, n_sub, if_pos, if_neg, if_true, if_false, ecl, b219_33, m_marks rfl rfl _ hp, Option.bind_some, Option.toList_some, Option.toList_none, List.cons_append, List.nil_append, true_or, or_true, if_true, bI_if, b219_39, e1, b219_95, h194, e2, b219_151, v2, b219_163]
