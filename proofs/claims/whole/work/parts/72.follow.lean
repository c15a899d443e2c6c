/-! ===== the class's Course: a whole STEP, the begin, the end; by a RULE ===== -/
/-- the first i sums of row t stand in row t + 1 too -/
def cpyS (b : Nat → Nat → Int64) (t i : Nat) : Nat → Nat → Int64 := fun k j => if k = 59 ∧ (t + 1) * 5 ≤ j ∧ j < (t + 1) * 5 + i then b 59 (j - 5) else b k j
theorem cpyS_0 (b : Nat → Nat → Int64) (t : Nat) : cpyS b t 0 = b := by
  funext k j
  unfold cpyS
  rw [if_neg (by omega)]
theorem cpyS_step {b : Nat → Nat → Int64} {t i : Nat} (h : i < 5) : uL (cpyS b t i) 59 ((t + 1) * 5 + i) (cpyS b t i 59 (t * 5 + i)) = cpyS b t (i + 1) := by
  funext k j
  rw [uL_at]
  unfold cpyS
  by_cases h1 : k = 59 ∧ j = (t + 1) * 5 + i
  · rw [if_pos h1, if_neg (by omega), if_pos (by omega), show j - 5 = t * 5 + i by omega]
  · rw [if_neg h1]
    by_cases h2 : k = 59 ∧ (t + 1) * 5 ≤ j ∧ j < (t + 1) * 5 + i
    · rw [if_pos h2, if_pos (by omega)]
    · rw [if_neg h2, if_neg (by omega)]
theorem c_copyt {n t d : Nat} {r : Nat → Nat → Option Nat} {v2 : Int32} {TT : Nat} (hX : isTx TT) (ht : t < 8) (k : Nat) : ∀ (i : Nat) (a : Nat → Nat → Int32) (b : Nat → Nat → Int64), i + k = 5 → Den (d+3) 16 3 [.ref 55,.int (iN t),.int v2,.ref TT,.int (iN i),zmJ,zmJ,zmJ,zmJ,zmJ,zmJ,zmJ] [] (zmMk n a (cpyS b t i) r) = Den (d+3) 16 37 [.ref 55,.int (iN t),.int v2,.ref TT,.int (iN 5),zmJ,zmJ,zmJ,zmJ,zmJ,zmJ,zmJ] [] (zmMk n a (cpyS b t 5) r) := by
  induction k with
  | zero =>
    intro i a b hik
    obtain rfl : i = 5 := by omega
    rw [b16t_3 hX]
    simp (disch := first | assumption | omega) only [n_add, n_mul, n_in, decide_eq_true_eq, n_nat, n_lt, n_eq, n_sub, if_pos, if_neg, if_true, if_false]
  | succ k ih =>
    intro i a b hik
    rw [← ih (i + 1) a b (by omega), b16t_3 hX]
    simp (disch := first | assumption | omega) only [n_add, n_mul, n_in, decide_eq_true_eq, n_nat, n_lt, n_eq, n_sub, if_pos, if_neg, if_true, if_false, b16t_9 hX, c_sum rfl rfl, Option.bind_some, Option.toList_some, Option.toList_none, List.cons_append, List.nil_append, true_or, or_true, if_true, bI_if, b16t_28 hX, c_putLong lay59, puV_nL, b16t_31 hX, cpyS_step]
theorem c_advancet {n N B t m c0 u d : Nat} {r : Nat → Nat → Option Nat} {Q : AQ} {A : Nat → Nat → Nat} {a : Nat → Nat → Int32} {b : Nat → Nat → Int64} {Φ : Nat → Int64} {TT : Nat} (hX : isTx TT) (hRu : RulC n r TT a A) {vt vx : Int32} (et : vt = iN t) (ht : t + m + 1 = N) (hA8 : ∀ t p, (A t p < 8 ∧ A t p ≠ 4) ∧ (A t p ≠ 0 → mayP Q t p (A t p))) (hE : EnvC n r a N B Q) (hT : TabC b) (hc0 : c0 ≤ 9) (hu1 : u ≤ 1) (hR : RowI N B Q A a b t c0 u Φ) : ∃ a' b' c', Den (d+14) 16 0 [.ref 55, .int vt, .int vx, .ref TT, zmJ, zmJ, zmJ, zmJ, zmJ, zmJ, zmJ, zmJ] [] (zmMk n a b r) = some (none, zmMk n a' b' r) ∧ RowI N B Q A a' b' (t + 1) c' u Φ ∧ c' ≤ c0 + u ∧ onlyR a a' b b' (t + 1) := by
  subst et
  have h8 := hE.n8
  obtain ⟨P, W, h56, hsrc, hus, hsum⟩ := hR
  have em : N - t = m + 1 := by omega
  have e0 := c_copyt (d := d+11) (n := n) (r := r) (v2 := vx) hX (show t < 8 by omega) 5 0 a b (by omega)
  have o1 : onlyR a (uI a 56 (t + 1) (iN 0)) b (cpyS b t 5) (t + 1) := ⟨fun k _ h1 h2 => by funext j; rw [uI_at, if_neg (by omega)], fun j h => by rw [uI_at, if_neg (by omega)], fun j h => by rw [uI_at, if_neg (by omega)], fun k _ h => by funext j; unfold cpyS; rw [if_neg (by omega)], fun j h => by unfold cpyS; rw [if_neg (by omega)], fun j h => by unfold cpyS; rw [if_neg (by omega)]⟩
  have R1 : RowI N B Q A (uI a 56 (t + 1) (iN 0)) (cpyS b t 5) (t + 1) 0 (usum P 0) (fun w => b 59 (t * 5 + w) + psum (fun j => W j * FF Q B A (m + 1) t (P j) w) 0) := ⟨fun _ => 0, fun _ => 0, by rw [uI_at, if_pos ⟨rfl, rfl⟩], fun i hi => absurd hi (by omega), Nat.le_refl _, fun w hw => by
    simp only [psum]
    unfold cpyS
    rw [if_pos (by omega), show (t + 1) * 5 + w - 5 = t * 5 + w by omega]⟩
  obtain ⟨a2, b2, c2, e2, R2, k2, o2⟩ := c_advt (d := d) (S := fun w => b 59 (t * 5 + w)) (va := vx) hX ht hA8 hc0 (Nat.le_trans hus hu1) c0 0 0 zmJ zmJ zmJ zmJ zmJ (uI a 56 (t + 1) (iN 0)) (cpyS b t 5) (by omega) (hE.ag o1.ag) (o1.tab hT) (fun d a1 b vt vp t p h0 => hRu d a1 b vt vp t p (o1.ag.toA.trans h0)) (by rw [o1.2.1 t (by omega)]; exact h56) (fun j hj => by
    rw [o1.2.2.1 (t * 10 + j) (by omega), o1.2.2.2.2.1 (t * 10 + j) (by omega)]
    exact hsrc j hj) R1 (by omega)
  refine ⟨a2, b2, c2, ?_, (R2.le hus).eq (fun w hw => by rw [← hsum w hw, em]), Nat.le_trans k2 (Nat.add_le_add_left hus _), o1.trans o2⟩
  have e0' : Den (d+14) 16 3 [.ref 55,.int (iN t),.int vx,.ref TT,.int (iN 0),zmJ,zmJ,zmJ,zmJ,zmJ,zmJ,zmJ] [] (zmMk n a b r) = Den (d+14) 16 37 [.ref 55,.int (iN t),.int vx,.ref TT,.int (iN 5),zmJ,zmJ,zmJ,zmJ,zmJ,zmJ,zmJ] [] (zmMk n a (cpyS b t 5) r) := by
    have h := e0
    rw [cpyS_0] at h
    exact h
  simp (disch := first | assumption | omega) only [b16t_0 hX, e0', b16t_37 hX, n_add, n_mul, n_in, decide_eq_true_eq, n_nat, n_lt, n_eq, n_sub, if_pos, if_neg, if_true, if_false, c_put lay56, puV_n, Option.bind_some, Option.toList_some, Option.toList_none, List.cons_append, List.nil_append, true_or, or_true, if_true, bI_if, b16t_48 hX, e2]
theorem c_copyn {n t d : Nat} {r : Nat → Nat → Option Nat} {v2 : Int32}  (ht : t < 8) (k : Nat) : ∀ (i : Nat) (a : Nat → Nat → Int32) (b : Nat → Nat → Int64), i + k = 5 → Den (d+3) 16 3 [.ref 55,.int (iN t),.int v2,.null,.int (iN i),zmJ,zmJ,zmJ,zmJ,zmJ,zmJ,zmJ] [] (zmMk n a (cpyS b t i) r) = Den (d+3) 16 37 [.ref 55,.int (iN t),.int v2,.null,.int (iN 5),zmJ,zmJ,zmJ,zmJ,zmJ,zmJ,zmJ] [] (zmMk n a (cpyS b t 5) r) := by
  induction k with
  | zero =>
    intro i a b hik
    obtain rfl : i = 5 := by omega
    rw [b16n_3]
    simp (disch := first | assumption | omega) only [n_add, n_mul, n_in, decide_eq_true_eq, n_nat, n_lt, n_eq, n_sub, if_pos, if_neg, if_true, if_false]
  | succ k ih =>
    intro i a b hik
    rw [← ih (i + 1) a b (by omega), b16n_3]
    simp (disch := first | assumption | omega) only [n_add, n_mul, n_in, decide_eq_true_eq, n_nat, n_lt, n_eq, n_sub, if_pos, if_neg, if_true, if_false, b16n_9, c_sum rfl rfl, Option.bind_some, Option.toList_some, Option.toList_none, List.cons_append, List.nil_append, true_or, or_true, if_true, bI_if, b16n_28, c_putLong lay59, puV_nL, b16n_31, cpyS_step]
theorem c_advancen {n N B t m c0 u d : Nat} {r : Nat → Nat → Option Nat} {Q : AQ} {A : Nat → Nat → Nat} {a : Nat → Nat → Int32} {b : Nat → Nat → Int64} {Φ : Nat → Int64}  {act : Nat} (hact : act < 8 ∧ act ≠ 4) (hAt : ∀ p, A t p = if act ≠ 0 ∧ mayP Q t p act then act else 0) {vt vx : Int32} (et : vt = iN t) (ex : vx = iN act) (ht : t + m + 1 = N) (hA8 : ∀ t p, (A t p < 8 ∧ A t p ≠ 4) ∧ (A t p ≠ 0 → mayP Q t p (A t p))) (hE : EnvC n r a N B Q) (hT : TabC b) (hc0 : c0 ≤ 9) (hu1 : u ≤ 1) (hR : RowI N B Q A a b t c0 u Φ) : ∃ a' b' c', Den (d+14) 16 0 [.ref 55, .int vt, .int vx, .null, zmJ, zmJ, zmJ, zmJ, zmJ, zmJ, zmJ, zmJ] [] (zmMk n a b r) = some (none, zmMk n a' b' r) ∧ RowI N B Q A a' b' (t + 1) c' u Φ ∧ c' ≤ c0 + u ∧ onlyR a a' b b' (t + 1) := by
  subst et ex
  have h8 := hE.n8
  obtain ⟨P, W, h56, hsrc, hus, hsum⟩ := hR
  have em : N - t = m + 1 := by omega
  have e0 := c_copyn (d := d+11) (n := n) (r := r) (v2 := (iN act))  (show t < 8 by omega) 5 0 a b (by omega)
  have o1 : onlyR a (uI a 56 (t + 1) (iN 0)) b (cpyS b t 5) (t + 1) := ⟨fun k _ h1 h2 => by funext j; rw [uI_at, if_neg (by omega)], fun j h => by rw [uI_at, if_neg (by omega)], fun j h => by rw [uI_at, if_neg (by omega)], fun k _ h => by funext j; unfold cpyS; rw [if_neg (by omega)], fun j h => by unfold cpyS; rw [if_neg (by omega)], fun j h => by unfold cpyS; rw [if_neg (by omega)]⟩
  have R1 : RowI N B Q A (uI a 56 (t + 1) (iN 0)) (cpyS b t 5) (t + 1) 0 (usum P 0) (fun w => b 59 (t * 5 + w) + psum (fun j => W j * FF Q B A (m + 1) t (P j) w) 0) := ⟨fun _ => 0, fun _ => 0, by rw [uI_at, if_pos ⟨rfl, rfl⟩], fun i hi => absurd hi (by omega), Nat.le_refl _, fun w hw => by
    simp only [psum]
    unfold cpyS
    rw [if_pos (by omega), show (t + 1) * 5 + w - 5 = t * 5 + w by omega]⟩
  obtain ⟨a2, b2, c2, e2, R2, k2, o2⟩ := c_advn (d := d) (S := fun w => b 59 (t * 5 + w)) hact hAt ht hA8 hc0 (Nat.le_trans hus hu1) c0 0 0 zmJ zmJ zmJ zmJ zmJ (uI a 56 (t + 1) (iN 0)) (cpyS b t 5) (by omega) (hE.ag o1.ag) (o1.tab hT)  (by rw [o1.2.1 t (by omega)]; exact h56) (fun j hj => by
    rw [o1.2.2.1 (t * 10 + j) (by omega), o1.2.2.2.2.1 (t * 10 + j) (by omega)]
    exact hsrc j hj) R1 (by omega)
  refine ⟨a2, b2, c2, ?_, (R2.le hus).eq (fun w hw => by rw [← hsum w hw, em]), Nat.le_trans k2 (Nat.add_le_add_left hus _), o1.trans o2⟩
  have e0' : Den (d+14) 16 3 [.ref 55,.int (iN t),.int (iN act),.null,.int (iN 0),zmJ,zmJ,zmJ,zmJ,zmJ,zmJ,zmJ] [] (zmMk n a b r) = Den (d+14) 16 37 [.ref 55,.int (iN t),.int (iN act),.null,.int (iN 5),zmJ,zmJ,zmJ,zmJ,zmJ,zmJ,zmJ] [] (zmMk n a (cpyS b t 5) r) := by
    have h := e0
    rw [cpyS_0] at h
    exact h
  simp (disch := first | assumption | omega) only [b16n_0, e0', b16n_37, n_add, n_mul, n_in, decide_eq_true_eq, n_nat, n_lt, n_eq, n_sub, if_pos, if_neg, if_true, if_false, c_put lay56, puV_n, Option.bind_some, Option.toList_some, Option.toList_none, List.cons_append, List.nil_append, true_or, or_true, if_true, bI_if, b16n_48, e2]
theorem c_end0 {n t d : Nat} {a : Nat → Nat → Int32} {b : Nat → Nat → Int64} {r : Nat → Nat → Option Nat} {vt : Int32} (et : vt = iN t) (ht : t ≤ 8) (h56 : a 56 t = iN 0) : Den (d+1) 19 0 [.ref 55, .int vt, zmJ, zmJ] [] (zmMk n a b r) = some (none, (zmMk n a b r)) := by
  subst et
  have ei : itV (iN 0) 9 (a 56) (iN t) = iN 0 := by rw [itV_n (by omega) (by decide), h56]
  simp (disch := omega) only [b19_0, b19_2, c_item lay56, ei, Option.bind_some, Option.toList_some, Option.toList_none, List.cons_append, List.nil_append, true_or, or_true, if_true, bI_if, b19_11, n_add, n_mul, n_in, decide_eq_true_eq, n_nat, n_lt, n_eq, n_sub, if_pos, if_neg, if_true, if_false, b19_78]
theorem c_endLoop {n N B c0 d : Nat} {r : Nat → Nat → Option Nat} {Q : AQ} {P : Nat → Nat} {W S : Nat → Int64} (hc0 : c0 ≤ 10) (k : Nat) : ∀ (i : Nat) (u3 : Value) (a : Nat → Nat → Int32) (b : Nat → Nat → Int64), i + k = c0 → EnvC n r a N B Q → a 56 N = iN c0 → (∀ i, i < c0 → a 57 (N * 10 + i) = iN (P i) ∧ b 58 (N * 10 + i) = W i ∧ P i < 4840 ∧ pY (P i) ≠ 0) → (∀ w, w < 5 → b 59 (N * 5 + w) = S w + psum (fun j => mV (W j) (jN (Q (iN 109) N (P j) 0)) (jN (pY (P j))) w) i) → ∃ a' b', Den (d+12) 19 2 [.ref 55,.int (iN N),.int (iN i),u3] [] (zmMk n a b r) = some (none, zmMk n a' b' r) ∧ (∀ w, w < 5 → b' 59 (N * 5 + w) = S w + psum (fun j => mV (W j) (jN (Q (iN 109) N (P j) 0)) (jN (pY (P j))) w) c0) ∧ onlyR a a' b b' N := by
  induction k with
  | zero =>
    intro i u3 a b hik hE h56 hsrc hS
    have h8 := hE.n8
    obtain rfl : i = c0 := by omega
    refine ⟨a, b, ?_, hS, onlyR.refl⟩
    have ei : itV (iN 0) 9 (a 56) (iN N) = iN i := by rw [itV_n (by omega) (by decide), h56]
    simp (disch := omega) only [b19_2, c_item lay56, ei, Option.bind_some, Option.toList_some, Option.toList_none, List.cons_append, List.nil_append, true_or, or_true, if_true, bI_if, b19_11, n_add, n_mul, n_in, decide_eq_true_eq, n_nat, n_lt, n_eq, n_sub, if_pos, if_neg, if_true, if_false, b19_78]
  | succ k ih =>
    intro i u3 a b hik hE h56 hsrc hS
    have h8 := hE.n8
    obtain ⟨q1, q2, q3, q4⟩ := hsrc i (by omega)
    obtain ⟨⟨TT, hTT, h29, hA⟩, -, -, -, -, -, hB⟩ := id hE
    obtain ⟨a1, e1, f1⟩ := hA (d+2) a b (iN 109) _ _ _ N (P i) 0 agD.refl rfl rfl rfl rfl (by omega) q3 (by omega)
    have hm := hB.m N (P i) 0
    have ei : itV (iN 0) 9 (a 56) (iN N) = iN c0 := by rw [itV_n (by omega) (by decide), h56]
    have ep : itV (iN 0) 90 (a 57) (iN (N * 10 + i)) = iN (P i) := by rw [itV_n (by omega) (by decide), q1]
    have ew : itV 0 90 (b 58) (iN (N * 10 + i)) = W i := by rw [itV_n (by omega) (by decide), q2]
    have o1 : onlyR a a1 b (addS b N (mV (W i) (jN (Q (iN 109) N (P i) 0)) (jN (pY (P i))))) N := (onlyR.fr f1).trans onlyR.sums
    obtain ⟨a2, b2, e2, S2, o2⟩ := ih (i + 1) (.int (iN (P i))) a1 (addS b N (mV (W i) (jN (Q (iN 109) N (P i) 0)) (jN (pY (P i))))) (by omega) (hE.fr f1) (by rw [f1 56 rfl]; exact h56) (fun j hj => by
      rw [f1 57 rfl, addS_ne (fun q => absurd q.1 (by decide))]
      exact hsrc j hj) (fun w hw => by
      rw [addS_at hw, hS w hw]
      exact Int64.add_assoc ..)
    refine ⟨a2, b2, ?_, S2, o1.trans o2⟩
    rw [← e2]
    simp (disch := omega) only [b19_2, c_item lay56, ei, Option.bind_some, Option.toList_some, Option.toList_none, List.cons_append, List.nil_append, true_or, or_true, if_true, bI_if, b19_11, n_add, n_mul, n_in, decide_eq_true_eq, n_nat, n_lt, n_eq, n_sub, if_pos, if_neg, if_true, if_false, b19_14, b19_20, c_item lay57, ep, b19_33, c_longItem lay58, ew, b19_49 h29 hTT, e1, b19_69, c_miss (t := N) (p := P i) (c := Q (iN 109) N (P i) 0) rfl rfl rfl h8.2 q3 hm, b19_72]
theorem c_end {n N B c u d : Nat} {r : Nat → Nat → Option Nat} {Q : AQ} {A : Nat → Nat → Nat} {a : Nat → Nat → Int32} {b : Nat → Nat → Int64} {Φ : Nat → Int64} {vt : Int32} (et : vt = iN N) (hc : c ≤ 10) (hE : EnvC n r a N B Q) (hR : RowI N B Q A a b N c u Φ) : ∃ a' b', Den (d+12) 19 0 [.ref 55, .int vt, zmJ, zmJ] [] (zmMk n a b r) = some (none, zmMk n a' b' r) ∧ (∀ w, w < 5 → b' 59 (N * 5 + w) = Φ w) ∧ onlyR a a' b b' N := by
  subst et
  obtain ⟨P, W, h56, hsrc, -, hsum⟩ := hR
  obtain ⟨a2, b2, e2, S2, o2⟩ := c_endLoop (d := d) (S := fun w => b 59 (N * 5 + w)) hc c 0 zmJ a b (by omega) hE h56 hsrc (fun w _ => (Int64.add_zero _).symm)
  refine ⟨a2, b2, by rw [b19_0]; exact e2, fun w hw => ?_, o2⟩
  rw [S2 w hw, ← hsum w hw]
  congr 1
  refine psum_congr (fun i hi => ?_)
  rw [Nat.sub_self]
  unfold FF
  rw [if_neg (hsrc i hi).2.2.2, mV_mul, Int64.mul_one]
/-- row t of the sums is nought -/
def zroS (b : Nat → Nat → Int64) (t i : Nat) : Nat → Nat → Int64 := fun k j => if k = 59 ∧ t * 5 ≤ j ∧ j < t * 5 + i then 0 else b k j
theorem zroS_0 (b : Nat → Nat → Int64) (t : Nat) : zroS b t 0 = b := by
  funext k j
  unfold zroS
  rw [if_neg (by omega)]
theorem zroS_step {b : Nat → Nat → Int64} {t i : Nat} : uL (zroS b t i) 59 (t * 5 + i) 0 = zroS b t (i + 1) := by
  funext k j
  rw [uL_at]
  unfold zroS
  by_cases h1 : k = 59 ∧ j = t * 5 + i
  · rw [if_pos h1, if_pos (by omega)]
  · rw [if_neg h1]
    by_cases h2 : k = 59 ∧ t * 5 ≤ j ∧ j < t * 5 + i
    · rw [if_pos h2, if_pos (by omega)]
    · rw [if_neg h2, if_neg (by omega)]
theorem c_zero {n t d : Nat} {r : Nat → Nat → Option Nat} {v2 : Int32} (ht : t ≤ 8) (k : Nat) : ∀ (i : Nat) (a : Nat → Nat → Int32) (b : Nat → Nat → Int64), i + k = 5 → Den (d+3) 13 2 [.ref 55,.int (iN t),.int v2,.int (iN i),zmJ] [] (zmMk n a (zroS b t i) r) = Den (d+3) 13 26 [.ref 55,.int (iN t),.int v2,.int (iN 5),zmJ] [] (zmMk n a (zroS b t 5) r) := by
  induction k with
  | zero =>
    intro i a b hik
    obtain rfl : i = 5 := by omega
    rw [b13_2]
    simp (disch := omega) only [n_add, n_mul, n_in, decide_eq_true_eq, n_nat, n_lt, n_eq, n_sub, if_pos, if_neg, if_true, if_false]
  | succ k ih =>
    intro i a b hik
    rw [← ih (i + 1) a b (by omega), b13_2]
    simp (disch := omega) only [n_add, n_mul, n_in, decide_eq_true_eq, n_nat, n_lt, n_eq, n_sub, if_pos, if_neg, if_true, if_false, b13_7, Option.bind_some, Option.toList_some, Option.toList_none, List.cons_append, List.nil_append, true_or, or_true, if_true, bI_if, c_putLong lay59, puV_nL, b13_20, zroS_step]
theorem c_begin {n N B t p d : Nat} {r : Nat → Nat → Option Nat} {Q : AQ} {A : Nat → Nat → Nat} {a : Nat → Nat → Int32} {b : Nat → Nat → Int64} {vt vp : Int32} (et : vt = iN t) (ep : vp = iN p) (ht : t ≤ N) (hp : p < 4840) (hE : EnvC n r a N B Q) (hT : TabC b) : ∃ a' b' c, Den (d+12) 13 0 [.ref 55, .int vt, .int vp, zmJ, zmJ] [] (zmMk n a b r) = some (none, zmMk n a' b' r) ∧ RowI N B Q A a' b' t c 1 (fun w => FF Q B A (N - t) t p w) ∧ c ≤ 1 ∧ onlyR a a' b b' t := by
  subst et ep
  have h8 := hE.n8
  have hyl := pY_le hp
  obtain ⟨⟨TT, hTT, h29, hA⟩, h16, -, -, -, -, hB⟩ := id hE
  have e0 : Den (d+12) 13 2 [.ref 55,.int (iN t),.int (iN p),.int (iN 0),zmJ] [] (zmMk n a b r) = Den (d+12) 13 26 [.ref 55,.int (iN t),.int (iN p),.int (iN 5),zmJ] [] (zmMk n a (zroS b t 5) r) := by
    have h := c_zero (d := d+9) (n := n) (r := r) (v2 := iN p) (show t ≤ 8 by omega) 5 0 a b (by omega)
    rw [zroS_0] at h
    exact h
  have o1 : onlyR a (uI a 56 t (iN 0)) b (zroS b t 5) t := ⟨fun k _ h1 h2 => by funext j; rw [uI_at, if_neg (by omega)], fun j h => by rw [uI_at, if_neg (by omega)], fun j h => by rw [uI_at, if_neg (by omega)], fun k _ h => by funext j; unfold zroS; rw [if_neg (by omega)], fun j h => by unfold zroS; rw [if_neg (by omega)], fun j h => by unfold zroS; rw [if_neg (by omega)]⟩
  have h56 : (uI a 56 t (iN 0)) 56 t = iN 0 := by rw [uI_at, if_pos ⟨rfl, rfl⟩]
  have R1 : RowI N B Q A (uI a 56 t (iN 0)) (zroS b t 5) t 0 0 (fun _ => 0) := ⟨fun _ => 0, fun _ => 0, h56, fun i hi => absurd hi (by omega), Nat.le_refl _, fun w hw => by
    simp only [psum]
    unfold zroS
    rw [if_pos (by omega), Int64.add_zero]⟩
  by_cases hy : pY p = 0
  · obtain ⟨a2, e2, f2⟩ := hA (d+2) (uI a 56 t (iN 0)) (addS (zroS b t 5) t (fun q => if q = 1 then hun (N - t) else 0)) (iN 118) _ _ _ t p 0 o1.ag.toA rfl rfl rfl rfl (by omega) hp (by omega)
    have hv := hB.v t p 0
    refine ⟨a2, addS (addS (zroS b t 5) t (fun q => if q = 1 then hun (N - t) else 0)) t (fun q => if q = 0 then hun (N - t) * jN (Q (iN 118) t p 0) else 0), 0, ?_, ?_, by omega, o1.trans ((onlyR.fr f2).trans (onlyR.sums.trans onlyR.sums))⟩
    · have hT1 : TabC (zroS b t 5) := o1.tab hT
      have h16' : (uI a 56 t (iN 0)) 16 0 = iN N := by rw [uI_at, if_neg (by omega)]; exact h16
      simp (disch := omega) only [b13_0, e0, b13_26, c_put lay56, puV_n, Option.bind_some, Option.toList_some, Option.toList_none, List.cons_append, List.nil_append, true_or, or_true, if_true, bI_if, b13_35, c_yardsAt hp, b13_39, hy, n_add, n_mul, n_in, decide_eq_true_eq, n_nat, n_lt, n_eq, n_sub, if_pos, if_neg, if_true, if_false, b13_50, b57_0, h16', b13_57, c_hundreds hT1, b13_62, c_gather rfl rfl, b13_70 h29 hTT, e2, b13_93, l_of, b13_98]
    · refine ((((R1.fr f2).add _).add _).le (by omega)).eq (fun w hw => ?_)
      have eF : FF Q B A (N - t) t p w = cV (hun (N - t)) (jN (Q (iN 118) t p 0)) w := by
        cases N - t with
        | zero => unfold FF; rw [if_pos hy]; rfl
        | succ m => unfold FF; rw [if_pos hy]
      rw [eF]
      unfold cV
      rcases (by omega : w = 0 ∨ w = 1 ∨ w = 2 ∨ w = 3 ∨ w = 4) with rfl | rfl | rfl | rfl | rfl <;> simp
  · refine ⟨_, _, 1, ?_, ((R1.branch 1 hp hy).le (by split <;> omega)).eq (fun w hw => by rw [Int64.zero_add, Int64.one_mul]), by omega, o1.trans (onlyR.branch (by omega))⟩
    simp (disch := omega) only [b13_0, e0, b13_26, c_put lay56, puV_n, Option.bind_some, Option.toList_some, Option.toList_none, List.cons_append, List.nil_append, true_or, or_true, if_true, bI_if, b13_35, c_yardsAt hp, b13_39, n_add, n_mul, n_in, decide_eq_true_eq, n_nat, n_lt, n_eq, n_sub, if_pos, if_neg, if_true, if_false, b13_42, c_branch (t := t) (c := 0) (p := p) rfl rfl (by omega) (by omega) h56, b13_49]
def scF (k : Nat) : Bool := scC k || (Nat.beq k 56 || Nat.beq k 57)
def scFL (k : Nat) : Bool := Nat.beq k 58 || Nat.beq k 59
theorem onlyR.toF {a a' : Nat → Nat → Int32} {b b' : Nat → Nat → Int64} {T : Nat} (h : onlyR a a' b b' T) : frS scF a a' ∧ frL scFL b b' := by
  refine ⟨fun k hk => ?_, fun k hk => ?_⟩
  · unfold scF at hk
    obtain ⟨h1, h2⟩ := Bool.or_eq_false_iff.mp hk
    obtain ⟨h2, h3⟩ := Bool.or_eq_false_iff.mp h2
    exact h.1 k h1 (fun q => by rw [q] at h2; cases h2) (fun q => by rw [q] at h3; cases h3)
  · unfold scFL at hk
    obtain ⟨h2, h3⟩ := Bool.or_eq_false_iff.mp hk
    exact h.2.2.2.1 k (fun q => by rw [q] at h2; cases h2) (fun q => by rw [q] at h3; cases h3)
theorem dpC_scF (k j : Nat) (h : dpC k j = true) : scF k = false := by
  unfold scF
  rw [dpC_scC k j h]
  obtain ⟨h1, h2⟩ := dpC_56 k j h
  cases h3 : Nat.beq k 56 with
  | true => exact absurd (Nat.eq_of_beq_eq_true h3) h1
  | false =>
    cases h4 : Nat.beq k 57 with
    | true => exact absurd (Nat.eq_of_beq_eq_true h4) h2
    | false => rfl
theorem TabC.frF {b b' : Nat → Nat → Int64} (h : TabC b) (hf : frL scFL b b') : TabC b' := h.fr (hf 2 rfl) (hf 3 rfl)
theorem RulC.ag {n TT : Nat} {r : Nat → Nat → Option Nat} {a a' : Nat → Nat → Int32} {A : Nat → Nat → Nat} (h : RulC n r TT a A) (ha : agD dpA a a') : RulC n r TT a' A := fun d a1 b vt vp t p h0 => h d a1 b vt vp t p (ha.trans h0)
theorem c_followLoop {n N B TT d : Nat} {r : Nat → Nat → Option Nat} {Q : AQ} {A : Nat → Nat → Nat} {Φ : Nat → Int64} {v2 v3 : Int32} (hX : isTx TT) (hA8 : ∀ t p, (A t p < 8 ∧ A t p ≠ 4) ∧ (A t p ≠ 0 → mayP Q t p (A t p))) (k : Nat) : ∀ (t c : Nat) (a : Nat → Nat → Int32) (b : Nat → Nat → Int64), t + k = N → EnvC n r a N B Q → TabC b → RulC n r TT a A → RowI N B Q A a b t c 1 Φ → c ≤ t + 1 → ∃ a' b', Den (d+15) 10 18 [.ref 55,.ref TT,.int v2,.int v3,.int (iN N),.int (iN t)] [] (zmMk n a b r) = some (none, zmMk n a' b' r) ∧ (∀ w, w < 5 → b' 59 (N * 5 + w) = Φ w) ∧ frS scF a a' ∧ frL scFL b b' := by
  induction k with
  | zero =>
    intro t c a b htk hE hT hRu hR hc
    have h8 := hE.n8
    obtain rfl : t = N := by omega
    obtain ⟨a2, b2, e2, S2, o2⟩ := c_end (d := d+2) (vt := iN t) rfl (by omega) hE hR
    refine ⟨a2, b2, ?_, S2, o2.toF⟩
    simp (disch := first | assumption | omega) only [b10_18 hX, n_add, n_mul, n_in, decide_eq_true_eq, n_nat, n_lt, n_eq, n_sub, if_pos, if_neg, if_true, if_false, b10_39 hX, e2, Option.bind_some, Option.toList_some, Option.toList_none, List.cons_append, List.nil_append, true_or, or_true, if_true, bI_if, b10_45 hX]
  | succ k ih =>
    intro t c a b htk hE hT hRu hR hc
    have h8 := hE.n8
    obtain ⟨a1, b1, c1, e1, R1, k1, o1⟩ := c_advancet (d := d) (m := k) (vt := iN t) (vx := iN 0) hX hRu rfl (by omega) hA8 hE hT (by omega) (Nat.le_refl _) hR
    obtain ⟨a2, b2, e2, S2, f2, l2⟩ := ih (t + 1) c1 a1 b1 (by omega) (hE.ag o1.ag) (o1.tab hT) (hRu.ag o1.ag.toA) R1 (by omega)
    refine ⟨a2, b2, ?_, S2, o1.toF.1.trans f2, o1.toF.2.trans l2⟩
    rw [← e2, b10_18 hX]
    simp (disch := first | assumption | omega) only [n_add, n_mul, n_in, decide_eq_true_eq, n_nat, n_lt, n_eq, n_sub, if_pos, if_neg, if_true, if_false, b10_25 hX, e1, Option.bind_some, Option.toList_some, Option.toList_none, List.cons_append, List.nil_append, true_or, or_true, if_true, bI_if, b10_33 hX]
theorem c_follow {n N B TT t p d : Nat} {r : Nat → Nat → Option Nat} {Q : AQ} {A : Nat → Nat → Nat} {a : Nat → Nat → Int32} {b : Nat → Nat → Int64} {vt vp : Int32} (hX : isTx TT) (hA8 : ∀ t p, (A t p < 8 ∧ A t p ≠ 4) ∧ (A t p ≠ 0 → mayP Q t p (A t p))) (et : vt = iN t) (ep : vp = iN p) (ht : t ≤ N) (hp : p < 4840) (hE : EnvC n r a N B Q) (hT : TabC b) (hRu : RulC n r TT a A) : ∃ a' b', Den (d+15) 10 0 [.ref 55, .ref TT, .int vt, .int vp, zmJ, zmJ] [] (zmMk n a b r) = some (none, zmMk n a' b' r) ∧ (∀ w, w < 5 → b' 59 (N * 5 + w) = FF Q B A (N - t) t p w) ∧ frS scF a a' ∧ frL scFL b b' := by
  subst et ep
  have h8 := hE.n8
  obtain ⟨a1, b1, c1, e1, R1, k1, o1⟩ := c_begin (d := d+2) (A := A) (vt := iN t) (vp := iN p) rfl rfl ht hp hE hT
  obtain ⟨a2, b2, e2, S2, f2, l2⟩ := c_followLoop (d := d) (v2 := iN t) (v3 := iN p) hX hA8 (N - t) t c1 a1 b1 (by omega) (hE.ag o1.ag) (o1.tab hT) (hRu.ag o1.ag.toA) R1 (by omega)
  refine ⟨a2, b2, ?_, S2, o1.toF.1.trans f2, o1.toF.2.trans l2⟩
  have h16 : a 16 0 = iN N := hE.2.1
  simp (disch := first | assumption | omega) only [b10_0 hX, b57_0, h16, Option.bind_some, Option.toList_some, Option.toList_none, List.cons_append, List.nil_append, true_or, or_true, if_true, bI_if, b10_7 hX, e1, b10_15 hX, e2]
