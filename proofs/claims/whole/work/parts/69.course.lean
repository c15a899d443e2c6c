/-! ===== what can come by ACTIONS told ahead: the class's Course ===== -/
def cV (x v : Int64) (w : Nat) : Int64 := if w = 0 then x * v else if w = 1 then x else 0
def mV (x c y : Int64) (w : Nat) : Int64 := if w = 0 then -(x * c) else if w = 2 then x else if w = 4 then x * y else 0
def lV (x c : Int64) (w : Nat) : Int64 := if w = 0 then -(x * c) else if w = 3 then x else 0
theorem cV_mul (y x v : Int64) (w : Nat) : y * cV x v w = cV (y * x) v w := by
  unfold cV
  split
  · grind
  · split
    · rfl
    · exact Int64.mul_zero
theorem mV_mul (y x c z : Int64) (w : Nat) : y * mV x c z w = mV (y * x) c z w := by
  unfold mV
  split
  · grind
  · split
    · rfl
    · split
      · grind
      · exact Int64.mul_zero
theorem lV_mul (y x c : Int64) (w : Nat) : y * lV x c w = lV (y * x) c w := by
  unfold lV
  split
  · grind
  · split
    · rfl
    · exact Int64.mul_zero
/-- behind a STEP, the place being th: caught, gone by g, else on -/
def arrF (Q : AQ) (B : Nat) (pw : Int64) (G : Nat → Nat → Int64) (t th w : Nat) : Int64 :=
  if pY th = 0 then cV (10 * pw) (jN (Q (iN 118) t th 0)) w
  else mV (jN (gonP Q B t th) * pw) (jN (Q (iN 109) t th 0)) (jN (pY th)) w + jN (10 - gonP Q B t th) * G th w
/-- what comes by the ACTIONS A with m STEPS left: w 0 VALUE, 1 caught, 2 MISSED, 3 let go, 4 YARDS -/
def FF (Q : AQ) (B : Nat) (A : Nat → Nat → Nat) : Nat → Nat → Nat → Nat → Int64
  | 0, t, p, w => if pY p = 0 then cV 1 (jN (Q (iN 118) t p 0)) w else mV 1 (jN (Q (iN 109) t p 0)) (jN (pY p)) w
  | m + 1, t, p, w => if pY p = 0 then cV (hun (m + 1)) (jN (Q (iN 118) t p 0)) w
    else if A t p = 0 then lV (hun (m + 1)) (jN (Q (iN 108) t p 0)) w
    else jN (senP Q t p (A t p)) * arrF Q B (hun m) (FF Q B A m (t + 1)) t (asP (behP Q t p (A t p)) 1) w + jN (10 - senP Q t p (A t p)) * arrF Q B (hun m) (FF Q B A m (t + 1)) t (asP (behP Q t p (A t p)) 0) w
def psum (f : Nat → Int64) : Nat → Int64
  | 0 => 0
  | k + 1 => psum f k + f k
theorem psum_congr {f g : Nat → Int64} {k : Nat} (h : ∀ i, i < k → f i = g i) : psum f k = psum g k := by
  induction k with
  | zero => rfl
  | succ k ih => simp only [psum]; rw [ih (fun i hi => h i (by omega)), h k (by omega)]
/-- how many of the first k are not SEEN -/
def usum (P : Nat → Nat) : Nat → Nat
  | 0 => 0
  | k + 1 => usum P k + (if pS (P k) = 0 then 1 else 0)
theorem usum_congr {f g : Nat → Nat} {k : Nat} (h : ∀ i, i < k → f i = g i) : usum f k = usum g k := by
  induction k with
  | zero => rfl
  | succ k ih => simp only [usum]; rw [ih (fun i hi => h i (by omega)), h k (by omega)]
theorem usum_le {f : Nat → Nat} {i k : Nat} (h : i ≤ k) : usum f i ≤ usum f k := by
  induction k with
  | zero => rw [show i = 0 by omega]; exact Nat.le_refl _
  | succ k ih =>
    rcases Nat.lt_or_ge k i with h2 | h2
    · rw [show i = k + 1 by omega]; exact Nat.le_refl _
    · exact Nat.le_trans (ih h2) (Nat.le_add_right _ _)
theorem lay56 : zmLay 56 = (20, 9) := by decide +kernel
theorem lay57 : zmLay 57 = (20, 90) := by decide +kernel
theorem lay58 : zmLay 58 = (21, 90) := by decide +kernel
theorem lay59 : zmLay 59 = (21, 45) := by decide +kernel
/-- row t of the sums, more by f -/
def addS (b : Nat → Nat → Int64) (t : Nat) (f : Nat → Int64) : Nat → Nat → Int64 := fun k j => if k = 59 ∧ t * 5 ≤ j ∧ j < t * 5 + 5 then b k j + f (j - t * 5) else b k j
theorem addS_addS (b : Nat → Nat → Int64) (t : Nat) (f g : Nat → Int64) : addS (addS b t f) t g = addS b t (fun w => f w + g w) := by
  funext k j
  unfold addS
  split
  · exact Int64.add_assoc ..
  · rfl
theorem addS_congr {b : Nat → Nat → Int64} {t : Nat} {f g : Nat → Int64} (h : ∀ w, w < 5 → f w = g w) : addS b t f = addS b t g := by
  funext k j
  unfold addS
  split
  · rw [h _ (by omega)]
  · rfl
theorem addS_at {b : Nat → Nat → Int64} {t w : Nat} {f : Nat → Int64} (h : w < 5) : addS b t f 59 (t * 5 + w) = b 59 (t * 5 + w) + f w := by
  unfold addS
  rw [if_pos (by omega), show t * 5 + w - t * 5 = w by omega]
theorem addS_ne {b : Nat → Nat → Int64} {t k j : Nat} {f : Nat → Int64} (h : ¬ (k = 59 ∧ t * 5 ≤ j ∧ j < t * 5 + 5)) : addS b t f k j = b k j := if_neg h
theorem c_sum {d t w : Nat} {n : Nat} {a : Nat → Nat → Int32} {b : Nat → Nat → Int64} {r : Nat → Nat → Option Nat} {vt vw : Int32} (et : vt = iN t) (ew : vw = iN w) (ht : t ≤ 8) (hw : w < 5) : Den (d+1) 9 0 [.ref 55, .int vt, .int vw] [] (zmMk n a b r) = some (some (.long (b 59 (t * 5 + w))), (zmMk n a b r)) := by
  subst et ew
  simp (disch := omega) only [b9_0, b9_12, n_add, n_mul, n_in, decide_eq_true_eq, n_nat, n_lt, n_eq, n_sub, if_pos, if_neg, if_true, if_false, c_longItem lay59, Option.bind_some, Option.toList_some, Option.toList_none, List.cons_append, List.nil_append, true_or, or_true, if_true, bI_if, itV_n]
theorem c_gather {d t w : Nat} {n : Nat} {a : Nat → Nat → Int32} {b : Nat → Nat → Int64} {r : Nat → Nat → Option Nat} {vt vw : Int32} {x : Int64} (et : vt = iN t) (ew : vw = iN w) (ht : t ≤ 8) (hw : w < 5) : Den (d+2) 15 0 [.ref 55, .int vt, .int vw, .long x, zmJ] [] (zmMk n a b r) = some (none, zmMk n a (addS b t (fun q => if q = w then x else 0)) r) := by
  subst et ew
  have e : uL b 59 (t * 5 + w) (b 59 (t * 5 + w) + x) = addS b t (fun q => if q = w then x else 0) := by
    funext k j
    unfold addS
    rw [uL_at]
    by_cases h : k = 59 ∧ j = t * 5 + w
    · rw [if_pos h, if_pos (by omega)]
      dsimp only
      rw [if_pos (by omega), h.1, h.2]
    · rw [if_neg h]
      split
      · dsimp only
        rw [if_neg (by omega), Int64.add_zero]
      · rfl
  rw [← e]
  simp (disch := omega) only [b15_0, b15_15, b15_20, c_sum rfl rfl, n_add, n_mul, n_in, decide_eq_true_eq, n_nat, n_lt, n_eq, n_sub, if_pos, if_neg, if_true, if_false, Option.bind_some, Option.toList_some, Option.toList_none, List.cons_append, List.nil_append, true_or, or_true, if_true, bI_if, c_putLong lay59, puV_nL]
theorem c_branch {d t c p : Nat} {n : Nat} {a : Nat → Nat → Int32} {b : Nat → Nat → Int64} {r : Nat → Nat → Option Nat} {vt vp : Int32} {x : Int64} (et : vt = iN t) (ep : vp = iN p) (ht : t ≤ 8) (hc : c < 10) (h56 : a 56 t = iN c) : Den (d+1) 14 0 [.ref 55, .int vt, .int vp, .long x, zmJ, zmJ] [] (zmMk n a b r) = some (none, zmMk n (uI (uI a 57 (t * 10 + c) (iN p)) 56 t (iN (c + 1))) (uL b 58 (t * 10 + c) x) r) := by
  subst et ep
  have h56' : (uI a 57 (t * 10 + c) (iN p)) 56 t = iN c := by rw [uI_at, if_neg (by omega)]; exact h56
  have ei : itV (iN 0) 9 (a 56) (iN t) = iN c := by rw [itV_n (by omega) (by decide), h56]
  have ei' : itV (iN 0) 9 (uI a 57 (t * 10 + c) (iN p) 56) (iN t) = iN c := by rw [itV_n (by omega) (by decide), h56']
  simp (disch := omega) only [b14_0, b14_12, b14_25, b14_35, b14_48, b14_53, n_add, n_mul, n_in, decide_eq_true_eq, n_nat, n_lt, n_eq, n_sub, if_pos, if_neg, if_true, if_false, Option.bind_some, Option.toList_some, Option.toList_none, List.cons_append, List.nil_append, true_or, or_true, if_true, bI_if, c_item lay56, ei, c_put lay57, puV_n, c_putLong lay58, puV_nL, ei', c_put lay56]
theorem c_miss {d t p c : Nat} {n : Nat} {a : Nat → Nat → Int32} {b : Nat → Nat → Int64} {r : Nat → Nat → Option Nat} {vt vp vc : Int32} {x : Int64} (et : vt = iN t) (ep : vp = iN p) (ec : vc = iN c) (ht : t ≤ 8) (hp : p < 4840) (hc : c ≤ 99) : Den (d+3) 18 0 [.ref 55, .int vt, .long x, zmJ, .int vp, .int vc] [] (zmMk n a b r) = some (none, zmMk n a (addS b t (mV x (jN c) (jN (pY p)))) r) := by
  subst et ep ec
  have hy := pY_le hp
  simp (disch := omega) only [b18_0, b18_7, b18_19, b18_28, b18_33, c_gather rfl rfl, c_yardsAt hp, Option.bind_some, Option.toList_some, Option.toList_none, List.cons_append, List.nil_append, true_or, or_true, if_true, bI_if, addS_addS, l_of]
  rw [addS_congr (g := mV x (jN c) (jN (pY p)))]
  intro w hw
  unfold mV
  rcases (by omega : w = 0 ∨ w = 1 ∨ w = 2 ∨ w = 3 ∨ w = 4) with rfl | rfl | rfl | rfl | rfl <;> simp [Int64.neg_mul]
/-- row T as it is built: c places, at most u of them not SEEN; sums and what comes of the places come to Φ -/
def RowI (N B : Nat) (Q : AQ) (A : Nat → Nat → Nat) (a : Nat → Nat → Int32) (b : Nat → Nat → Int64) (T c u : Nat) (Φ : Nat → Int64) : Prop := ∃ (P : Nat → Nat) (W : Nat → Int64), a 56 T = iN c ∧ (∀ i, i < c → a 57 (T * 10 + i) = iN (P i) ∧ b 58 (T * 10 + i) = W i ∧ P i < 4840 ∧ pY (P i) ≠ 0) ∧ usum P c ≤ u ∧ ∀ w, w < 5 → b 59 (T * 5 + w) + psum (fun i => W i * FF Q B A (N - T) T (P i) w) c = Φ w
/-- only what belongs to row T is changed, and scratch -/
def onlyR (a a' : Nat → Nat → Int32) (b b' : Nat → Nat → Int64) (T : Nat) : Prop := (∀ k, scC k = false → k ≠ 56 → k ≠ 57 → a' k = a k) ∧ (∀ j, j ≠ T → a' 56 j = a 56 j) ∧ (∀ j, (j < T * 10 ∨ T * 10 + 10 ≤ j) → a' 57 j = a 57 j) ∧ (∀ k, k ≠ 58 → k ≠ 59 → b' k = b k) ∧ (∀ j, (j < T * 10 ∨ T * 10 + 10 ≤ j) → b' 58 j = b 58 j) ∧ ∀ j, (j < T * 5 ∨ T * 5 + 5 ≤ j) → b' 59 j = b 59 j
theorem onlyR.refl {a : Nat → Nat → Int32} {b : Nat → Nat → Int64} {T : Nat} : onlyR a a b b T := ⟨fun _ _ _ _ => rfl, fun _ _ => rfl, fun _ _ => rfl, fun _ _ _ => rfl, fun _ _ => rfl, fun _ _ => rfl⟩
theorem onlyR.trans {a a1 a2 : Nat → Nat → Int32} {b b1 b2 : Nat → Nat → Int64} {T : Nat} (h : onlyR a a1 b b1 T) (h2 : onlyR a1 a2 b1 b2 T) : onlyR a a2 b b2 T := ⟨fun k p q s => (h2.1 k p q s).trans (h.1 k p q s), fun j p => (h2.2.1 j p).trans (h.2.1 j p), fun j p => (h2.2.2.1 j p).trans (h.2.2.1 j p), fun k p q => (h2.2.2.2.1 k p q).trans (h.2.2.2.1 k p q), fun j p => (h2.2.2.2.2.1 j p).trans (h.2.2.2.2.1 j p), fun j p => (h2.2.2.2.2.2 j p).trans (h.2.2.2.2.2 j p)⟩
theorem onlyR.fr {a a' : Nat → Nat → Int32} {b : Nat → Nat → Int64} {T : Nat} (h : frC a a') : onlyR a a' b b T := ⟨fun k p _ _ => h k p, fun j _ => by rw [h 56 rfl], fun j _ => by rw [h 57 rfl], fun _ _ _ => rfl, fun _ _ => rfl, fun _ _ => rfl⟩
theorem onlyR.sums {a : Nat → Nat → Int32} {b : Nat → Nat → Int64} {T : Nat} {f : Nat → Int64} : onlyR a a b (addS b T f) T := ⟨fun _ _ _ _ => rfl, fun _ _ => rfl, fun _ _ => rfl, fun k _ h => by funext j; exact addS_ne (fun q => h q.1), fun j _ => addS_ne (fun q => absurd q.1 (by decide)), fun j h => addS_ne (by omega)⟩
theorem onlyR.branch {a : Nat → Nat → Int32} {b : Nat → Nat → Int64} {T c : Nat} {v w : Int32} {x : Int64} (hc : c < 10) : onlyR a (uI (uI a 57 (T * 10 + c) v) 56 T w) b (uL b 58 (T * 10 + c) x) T := ⟨fun k _ h1 h2 => by funext j; rw [uI_at, if_neg (by omega), uI_at, if_neg (by omega)], fun j h => by rw [uI_at, if_neg (by omega), uI_at, if_neg (by omega)], fun j h => by rw [uI_at, if_neg (by omega), uI_at, if_neg (by omega)], fun k h _ => by funext j; rw [uL_at, if_neg (by omega)], fun j h => by rw [uL_at, if_neg (by omega)], fun j h => by rw [uL_at, if_neg (by omega)]⟩
theorem dpC_56 (k j : Nat) (h : dpC k j = true) : k ≠ 56 ∧ k ≠ 57 := ⟨fun q => by rw [q] at h; simp [dpC, dpA] at h, fun q => by rw [q] at h; simp [dpC, dpA] at h⟩
theorem onlyR.ag {a a' : Nat → Nat → Int32} {b b' : Nat → Nat → Int64} {T : Nat} (h : onlyR a a' b b' T) : agD dpC a a' := fun k j hp => by rw [h.1 k (dpC_scC k j hp) (dpC_56 k j hp).1 (dpC_56 k j hp).2]
theorem onlyR.tab {a a' : Nat → Nat → Int32} {b b' : Nat → Nat → Int64} {T : Nat} (h : onlyR a a' b b' T) (hT : TabC b) : TabC b' := hT.fr (h.2.2.2.1 2 (by decide) (by decide)) (h.2.2.2.1 3 (by decide) (by decide))
theorem RowI.fr {N B T c u : Nat} {Q : AQ} {A : Nat → Nat → Nat} {a a' : Nat → Nat → Int32} {b : Nat → Nat → Int64} {Φ : Nat → Int64} (h : RowI N B Q A a b T c u Φ) (hf : frC a a') : RowI N B Q A a' b T c u Φ := by
  unfold RowI
  rw [hf 56 rfl, hf 57 rfl]
  exact h
theorem RowI.add {N B T c u : Nat} {Q : AQ} {A : Nat → Nat → Nat} {a : Nat → Nat → Int32} {b : Nat → Nat → Int64} {Φ : Nat → Int64} (h : RowI N B Q A a b T c u Φ) (f : Nat → Int64) : RowI N B Q A a (addS b T f) T c u (fun w => Φ w + f w) := by
  obtain ⟨P, W, h1, h2, h3, h4⟩ := h
  refine ⟨P, W, h1, fun i hi => ?_, h3, fun w hw => ?_⟩
  · rw [addS_ne (fun q => absurd q.1 (by decide))]
    exact h2 i hi
  · dsimp only
    rw [addS_at hw, ← h4 w hw]
    generalize b 59 (T * 5 + w) = y
    generalize psum _ c = z
    generalize f w = v
    grind
theorem RowI.branch {N B T c u p : Nat} {Q : AQ} {A : Nat → Nat → Nat} {a : Nat → Nat → Int32} {b : Nat → Nat → Int64} {Φ : Nat → Int64} (h : RowI N B Q A a b T c u Φ) (x : Int64) (hp : p < 4840) (hy : pY p ≠ 0) : RowI N B Q A (uI (uI a 57 (T * 10 + c) (iN p)) 56 T (iN (c + 1))) (uL b 58 (T * 10 + c) x) T (c + 1) (u + (if pS p = 0 then 1 else 0)) (fun w => Φ w + x * FF Q B A (N - T) T p w) := by
  obtain ⟨P, W, h1, h2, h3, h4⟩ := h
  refine ⟨fun i => if i = c then p else P i, fun i => if i = c then x else W i, by rw [uI_at, if_pos ⟨rfl, rfl⟩], fun i hi => ?_, ?_, fun w hw => ?_⟩
  · dsimp only
    by_cases hc : i = c
    · refine ⟨by rw [uI_at, if_neg (by omega), uI_at, if_pos ⟨rfl, by rw [hc]⟩, if_pos hc], by rw [uL_at, if_pos ⟨rfl, by rw [hc]⟩, if_pos hc], by rw [if_pos hc]; exact hp, by rw [if_pos hc]; exact hy⟩
    · obtain ⟨q1, q2, q3, q4⟩ := h2 i (by omega)
      refine ⟨by rw [uI_at, if_neg (by omega), uI_at, if_neg (by omega), if_neg hc]; exact q1, by rw [uL_at, if_neg (by omega), if_neg hc]; exact q2, by rw [if_neg hc]; exact q3, by rw [if_neg hc]; exact q4⟩
  · simp only [usum]
    rw [usum_congr (g := P) (fun i hi => if_neg (Nat.ne_of_lt hi))]
    simp only [if_true]
    omega
  · simp only [psum]
    rw [psum_congr (g := fun i => W i * FF Q B A (N - T) T (P i) w) (fun i hi => by simp only [if_neg (Nat.ne_of_lt hi)])]
    simp only [if_true]
    rw [uL_at, if_neg (by omega), ← h4 w hw]
    exact (Int64.add_assoc ..).symm
