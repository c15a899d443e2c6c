/-! ===== HAD HE SEEN ME: the class's findSeen ===== -/
def hsQ (Q : AQ) (B act p0 : Nat) : Nat → Option (Nat × Nat × Nat)
  | 0 => some (p0, 0, 1)
  | t + 1 => match hsQ Q B act p0 t with
    | none => none
    | some (p, s, q) => if mayP Q t p act ∧ pY (behP Q t p act) ≠ 0 then some (behP Q t p act, (10 * s + senP Q t p act * q) * (10 - gonP Q B t (asP (behP Q t p act) 1)), (10 - senP Q t p act) * q * (10 - gonP Q B t (behP Q t p act))) else none
theorem hsQ_s {Q : AQ} {B act p0 t p s q : Nat} (h : hsQ Q B act p0 t = some (p, s, q)) : hsQ Q B act p0 (t + 1) = if mayP Q t p act ∧ pY (behP Q t p act) ≠ 0 then some (behP Q t p act, (10 * s + senP Q t p act * q) * (10 - gonP Q B t (asP (behP Q t p act) 1)), (10 - senP Q t p act) * q * (10 - gonP Q B t (behP Q t p act))) else none := by
  show (match hsQ Q B act p0 t with
    | none => none
    | some (p, s, q) => if mayP Q t p act ∧ pY (behP Q t p act) ≠ 0 then some (behP Q t p act, (10 * s + senP Q t p act * q) * (10 - gonP Q B t (asP (behP Q t p act) 1)), (10 - senP Q t p act) * q * (10 - gonP Q B t (behP Q t p act))) else none) = _
  rw [h]
theorem hsQ_n {Q : AQ} {B act p0 t : Nat} (h : hsQ Q B act p0 t = none) (k : Nat) : hsQ Q B act p0 (t + k) = none := by
  induction k with
  | zero => exact h
  | succ k ih =>
    show (match hsQ Q B act p0 (t + k) with
      | none => none
      | some (p, s, q) => if mayP Q (t + k) p act ∧ pY (behP Q (t + k) p act) ≠ 0 then some (behP Q (t + k) p act, (10 * s + senP Q (t + k) p act * q) * (10 - gonP Q B (t + k) (asP (behP Q (t + k) p act) 1)), (10 - senP Q (t + k) p act) * q * (10 - gonP Q B (t + k) (behP Q (t + k) p act))) else none) = _
    rw [ih]
theorem hsQ_le {Q : AQ} (hB : QB Q) {B act p0 : Nat} (hp0 : p0 < 4840) (t : Nat) : ∀ p s q, hsQ Q B act p0 t = some (p, s, q) → p < 4840 ∧ s + q ≤ 100 ^ t ∧ pS p = pS p0 := by
  induction t with
  | zero =>
    intro p s q h
    cases h
    exact ⟨hp0, Nat.le_refl _, rfl⟩
  | succ t ih =>
    intro p s q h
    cases h0 : hsQ Q B act p0 t with
    | none => rw [hsQ_n h0 1] at h; cases h
    | some x =>
      obtain ⟨p1, s1, q1⟩ := x
      obtain ⟨i1, i2, i3⟩ := ih p1 s1 q1 h0
      rw [hsQ_s h0] at h
      split at h
      · cases h
        refine ⟨behP_lt i1, ?_, by rw [pS_behP]; exact i3⟩
        have h1 := senP_le hB t p1 act
        have e1 : (10 * s1 + senP Q t p1 act * q1) * (10 - gonP Q B t (asP (behP Q t p1 act) 1)) ≤ (10 * s1 + senP Q t p1 act * q1) * 10 := Nat.mul_le_mul (Nat.le_refl _) (Nat.sub_le _ _)
        have e2 : (10 - senP Q t p1 act) * q1 * (10 - gonP Q B t (behP Q t p1 act)) ≤ (10 - senP Q t p1 act) * q1 * 10 := Nat.mul_le_mul (Nat.le_refl _) (Nat.sub_le _ _)
        have e3 : senP Q t p1 act * q1 + (10 - senP Q t p1 act) * q1 = 10 * q1 := by
          rw [← Nat.add_mul]
          congr 1
          omega
        rw [Nat.pow_succ]
        omega
      · cases h
set_option maxHeartbeats 1000000 in
theorem c_seenLoop {n N B act p0 J d : Nat} {r : Nat → Nat → Option Nat} {Q : AQ} {v1 : Int32} (hact : act < 8 ∧ act ≠ 4) (hJ : J ≤ N) (hp0 : p0 < 4840) (h0S : pS p0 = 0) (k : Nat) : ∀ (i p s q : Nat) (u : Value) (a : Nat → Nat → Int32) (b : Nat → Nat → Int64), i + k = J → EnvC n r a N B Q → hsQ Q B act p0 i = some (p, s, q) → ∃ a', frC a a' ∧ ((hsQ Q B act p0 J = none ∧ Den (d+13) 33 12 [.ref 65,.int v1,.int (iN act),.int (iN J),.int (iN p),.long (jN s),zmJ,.long (jN q),zmJ,.int (iN i),u] [] (zmMk n a b r) = some (some (.int (-3)), zmMk n a' b r)) ∨ ∃ p' s' q' u', hsQ Q B act p0 J = some (p', s', q') ∧ Den (d+13) 33 12 [.ref 65,.int v1,.int (iN act),.int (iN J),.int (iN p),.long (jN s),zmJ,.long (jN q),zmJ,.int (iN i),u] [] (zmMk n a b r) = Den (d+13) 33 135 [.ref 65,.int v1,.int (iN act),.int (iN J),.int (iN p'),.long (jN s'),zmJ,.long (jN q'),zmJ,.int (iN J),u'] [] (zmMk n a' b r)) := by
  induction k with
  | zero =>
    intro i p s q u a b hik hE hh
    have h8 := hE.n8
    obtain rfl : i = J := by omega
    refine ⟨a, frS.refl, Or.inr ⟨p, s, q, u, hh, ?_⟩⟩
    rw [b33_12]
    simp (disch := omega) only [n_add, n_mul, n_in, decide_eq_true_eq, n_nat, n_lt, n_eq, n_sub, if_pos, if_neg, if_true, if_false]
  | succ k ih =>
    intro i p s q u a b hik hE hh
    have h8 := hE.n8
    have hB := hE.qb
    obtain ⟨hp, -, hpS⟩ := hsQ_le hB hp0 i p s q hh
    have hs := senP_le hB i p act
    obtain ⟨a1, e1, f1⟩ := c_tenthsSeen (d := d+2) (b := b) hE (vt := iN i) (vp := iN p) (va := iN act) rfl rfl rfl (by omega) hp hact
    have hE1 := hE.fr f1
    obtain ⟨a2, e2, f2⟩ := c_behind (d := d) (b := b) hE1 (vt := iN i) (vp := iN p) (va := iN act) rfl rfl rfl (by omega) hp hact
    have hE2 := hE1.fr f2
    have hnx := behP_lt (Q := Q) (t := i) (act := act) hp
    have hyl := pY_le hnx
    have hst := hsQ_s hh
    by_cases hm : mayP Q i p act
    · rw [if_pos hm] at e2
      by_cases hy : pY (behP Q i p act) = 0
      · rw [if_neg (fun z => z.2 hy)] at hst
        have hnone : hsQ Q B act p0 J = none := by
          have h := hsQ_n hst k
          rw [show i + 1 + k = J by omega] at h
          exact h
        refine ⟨a2, f1.trans f2, Or.inl ⟨hnone, ?_⟩⟩
        rw [b33_12]
        simp (disch := omega) only [n_add, n_mul, n_in, decide_eq_true_eq, n_nat, n_lt, n_eq, n_sub, if_pos, if_neg, if_true, if_false, b33_18, b33_25, e1, Option.bind_some, Option.toList_some, Option.toList_none, List.cons_append, List.nil_append, true_or, or_true, if_true, bI_if, b33_37, e2, b33_51, n_not_neg, b33_58, c_yardsAt hnx, b33_63, hy, b33_66]
      · rw [if_pos ⟨hm, hy⟩] at hst
        have hn1 := asP_lt (s := 1) hnx (by omega)
        obtain ⟨a3, e3, f3⟩ := c_tenthsGone (d := d+2) (b := b) hE2 (vt := iN i) (vp := iN (asP (behP Q i p act) 1)) rfl rfl (by omega) hn1
        have hE3 := hE2.fr f3
        have hg1 := gonP_le hB B i (asP (behP Q i p act) 1)
        obtain ⟨a4, e4, f4⟩ := c_tenthsGone (d := d+2) (b := b) hE3 (vt := iN i) (vp := iN (behP Q i p act)) rfl rfl (by omega) hnx
        have hE4 := hE3.fr f4
        have hg0 := gonP_le hB B i (behP Q i p act)
        have f14 := ((f1.trans f2).trans f3).trans f4
        obtain ⟨a5, f5, e5⟩ := ih (i + 1) _ _ _ (.int (iN (senP Q i p act))) a4 b (by omega) hE4 hst
        have step : Den (d+13) 33 12 [.ref 65,.int v1,.int (iN act),.int (iN J),.int (iN p),.long (jN s),zmJ,.long (jN q),zmJ,.int (iN i),u] [] (zmMk n a b r) = Den (d+13) 33 12 [.ref 65,.int v1,.int (iN act),.int (iN J),.int (iN (behP Q i p act)),.long (jN ((10 * s + senP Q i p act * q) * (10 - gonP Q B i (asP (behP Q i p act) 1)))),zmJ,.long (jN ((10 - senP Q i p act) * q * (10 - gonP Q B i (behP Q i p act)))),zmJ,.int (iN (i + 1)),.int (iN (senP Q i p act))] [] (zmMk n a4 b r) := by
          conv => lhs; rw [b33_12]
          simp (disch := omega) only [n_add, n_mul, n_in, decide_eq_true_eq, n_nat, n_lt, n_eq, n_sub, if_pos, if_neg, if_true, if_false, b33_18, b33_25, e1, Option.bind_some, Option.toList_some, Option.toList_none, List.cons_append, List.nil_append, true_or, or_true, if_true, bI_if, b33_37, e2, b33_51, n_not_neg, b33_58, c_yardsAt hnx, b33_63, hy, b33_69, n_or2 hnx, e3, b33_97, e4, b33_124, l_of, ← l_mul, ← l_add, jN_10]
        refine ⟨a5, f14.trans f5, ?_⟩
        rw [step]
        exact e5
    · rw [if_neg hm] at e2
      rw [if_neg (fun z => hm z.1)] at hst
      have hnone : hsQ Q B act p0 J = none := by
        have h := hsQ_n hst k
        rw [show i + 1 + k = J by omega] at h
        exact h
      have h2 : ((-2 : Int32) < iN 0) = True := eq_true (by decide)
      refine ⟨a2, f1.trans f2, Or.inl ⟨hnone, ?_⟩⟩
      rw [b33_12]
      simp (disch := omega) only [n_add, n_mul, n_in, decide_eq_true_eq, n_nat, n_lt, n_eq, n_sub, if_pos, if_neg, if_true, if_false, b33_18, b33_25, e1, Option.bind_some, Option.toList_some, Option.toList_none, List.cons_append, List.nil_append, true_or, or_true, if_true, bI_if, b33_37, e2, b33_51, h2, b33_66]
/-- what HAD HE SEEN ME comes to -/
def hsV (Q : AQ) (B act p0 J : Nat) (w : Int32) : Int64 := match hsQ Q B act p0 J with
  | none => -3
  | some (_, s, q) => if s + q = 0 then -2 else redV s (s + q) w
theorem p100_le {j : Nat} (h : j ≤ 8) : 100 ^ j ≤ 10000000000000000 := by
  have := Nat.pow_le_pow_right (show 0 < 100 by omega) h
  exact this
theorem c_findSeen {n N B act p0 J d : Nat} {r : Nat → Nat → Option Nat} {Q : AQ} {a : Nat → Nat → Int32} {b : Nat → Nat → Int64} {vp va vj : Int32} (ep : vp = iN p0) (ea : va = iN act) (ej : vj = iN J) (hact : act < 8 ∧ act ≠ 4) (hJ : J ≤ N) (hp0 : p0 < 4840) (h0S : pS p0 = 0) (hE : EnvC n r a N B Q) : ∃ a' b' z, Den (d+13) 33 0 [.ref 65, .int vp, .int va, .int vj, zmJ, zmJ, zmJ, zmJ, zmJ, zmJ, zmJ] [] (zmMk n a b r) = some (some (.int z), zmMk n a' b' r) ∧ frC a a' ∧ ((z ≠ iN 0 ∧ b' = b ∧ ∀ w, hsV Q B act p0 J w = Int32.toInt64 z) ∨ (z = iN 0 ∧ ∃ x y, b' = uL (uL b 65 1 (jN (x / Nat.gcd x y))) 65 2 (jN (y / Nat.gcd x y)) ∧ ∀ w, hsV Q B act p0 J w = redV x y w)) := by
  subst ep ea ej
  have h8 := hE.n8
  obtain ⟨a1, f1, e1⟩ := c_seenLoop (d := d) (v1 := iN p0) hact hJ hp0 h0S J 0 p0 0 1 zmJ a b (by omega) hE rfl
  have e0 : Den (d+13) 33 0 [.ref 65, .int (iN p0), .int (iN act), .int (iN J), zmJ, zmJ, zmJ, zmJ, zmJ, zmJ, zmJ] [] (zmMk n a b r) = Den (d+13) 33 12 [.ref 65,.int (iN p0),.int (iN act),.int (iN J),.int (iN p0),.long (jN 0),zmJ,.long (jN 1),zmJ,.int (iN 0),zmJ] [] (zmMk n a b r) := b33_0
  rcases e1 with ⟨hn, e1⟩ | ⟨p', s', q', u', hh, e1⟩
  · refine ⟨a1, b, -3, e0.trans e1, f1, Or.inl ⟨by decide, rfl, fun w => ?_⟩⟩
    unfold hsV
    rw [hn]
    rfl
  · obtain ⟨-, hle, -⟩ := hsQ_le hE.qb hp0 J p' s' q' hh
    have hle2 := p100_le (j := J) (by omega)
    by_cases hz : s' + q' = 0
    · refine ⟨a1, b, -2, ?_, f1, Or.inl ⟨by decide, rfl, fun w => ?_⟩⟩
      · rw [e0, e1]
        simp (disch := omega) only [b33_135, l_add, cmp_0, l_eq0, n_add, n_mul, n_in, decide_eq_true_eq, n_nat, n_lt, n_eq, n_sub, if_pos, if_neg, if_true, if_false, b33_145]
      · unfold hsV
        rw [hh]
        dsimp only
        rw [if_pos hz]
        rfl
    · refine ⟨a1, _, iN 0, ?_, f1, Or.inr ⟨rfl, s', s' + q', rfl, fun w => ?_⟩⟩
      · rw [e0, e1]
        simp (disch := omega) only [b33_135, l_add, cmp_0, l_eq0, n_add, n_mul, n_in, decide_eq_true_eq, n_nat, n_lt, n_eq, n_sub, if_pos, if_neg, if_true, if_false, b33_148, c_set, Option.bind_some, Option.toList_some, Option.toList_none, List.cons_append, List.nil_append, true_or, or_true, if_true, bI_if, b33_159]
      · unfold hsV
        rw [hh]
        dsimp only
        rw [if_neg hz]
