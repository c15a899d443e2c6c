/-! ===== BLIND: rows as numbers; the class's search ===== -/
def actBy (g : Nat) : Nat := if g < 4 then g else g + 1
def rowOf (L x j : Nat) : Nat := actBy (x / 7 ^ (L - 1 - j) % 7)
def arow (Q : AQ) (R : Nat → Nat) (t p : Nat) : Nat := if R t ≠ 0 ∧ mayP Q t p (R t) then R t else 0
def valR (Q : AQ) (B N p x : Nat) : Int64 := FF Q B (arow Q (rowOf N x)) N 0 p 0
/-- the first greatest of the first c -/
def fldO (f : Nat → Int64) (ini : Int64) : Nat → Int64 × Nat
  | 0 => (ini, 0)
  | c + 1 => if (fldO f ini c).1 < f c then (f c, c) else fldO f ini c
theorem fldO_const {f : Nat → Int64} {ini v : Int64} {s : Nat} (k : Nat) (h : ∀ x, s ≤ x → x < s + (k + 1) → f x = v) : fldO f ini (s + (k + 1)) = if (fldO f ini s).1 < v then (v, s) else fldO f ini s := by
  induction k with
  | zero =>
    show (if (fldO f ini s).1 < f s then (f s, s) else fldO f ini s) = _
    rw [h s (Nat.le_refl _) (by omega)]
  | succ k ih =>
    have h1 := ih (fun x h1 h2 => h x h1 (by omega))
    have h2 := h (s + (k + 1)) (by omega) (by omega)
    show (if (fldO f ini (s + (k + 1))).1 < f (s + (k + 1)) then (f (s + (k + 1)), s + (k + 1)) else fldO f ini (s + (k + 1))) = _
    rw [h1, h2]
    by_cases hv : (fldO f ini s).1 < v
    · rw [if_pos hv, if_neg (l_irr v)]
    · rw [if_neg hv, if_neg hv]
theorem actBy_le {g : Nat} (h : g < 7) : actBy g < 8 := by
  unfold actBy
  split <;> omega
theorem actBy_ne (g : Nat) : actBy g ≠ 4 := by
  unfold actBy
  split <;> omega
theorem rowOf_lt (L x j : Nat) : rowOf L x j < 8 := actBy_le (Nat.mod_lt _ (by omega))
theorem arow_ok (Q : AQ) (L x : Nat) : ∀ t p, (arow Q (rowOf L x) t p < 8 ∧ arow Q (rowOf L x) t p ≠ 4) ∧ (arow Q (rowOf L x) t p ≠ 0 → mayP Q t p (arow Q (rowOf L x) t p)) := by
  intro t p
  unfold arow
  split
  · exact ⟨⟨rowOf_lt L x t, actBy_ne _⟩, fun _ => (by assumption : _ ∧ _).2⟩
  · exact ⟨by omega, fun h => absurd rfl h⟩
theorem seven_pos (k : Nat) : 0 < 7 ^ k := Nat.pow_pos (by omega)
/-- a number between has the digits ahead -/
theorem rowOf_pre {t m cd x j : Nat} (hj : j < t) (h1 : cd * 7 ^ m ≤ x) (h2 : x < (cd + 1) * 7 ^ m) : rowOf (t + m) x j = rowOf t cd j := by
  unfold rowOf
  have e : x / 7 ^ m = cd := by
    apply Nat.div_eq_of_lt_le
    · exact h1
    · exact h2
  rw [show t + m - 1 - j = m + (t - 1 - j) by omega, Nat.pow_add, ← Nat.div_div_eq_div_mul, e]
theorem rowOf_zero {t m cd j : Nat} (hj : t ≤ j) (hj2 : j < t + m) : rowOf (t + m) (cd * 7 ^ m) j = 0 := by
  unfold rowOf
  obtain ⟨k, hk⟩ : ∃ k, m = (t + m - 1 - j) + (k + 1) := ⟨m - (t + m - 1 - j) - 1, by omega⟩
  have e : cd * 7 ^ m / 7 ^ (t + m - 1 - j) = cd * 7 ^ (k + 1) := by
    conv => lhs; rw [show 7 ^ m = 7 ^ (t + m - 1 - j) * 7 ^ (k + 1) by rw [← Nat.pow_add, ← hk]]
    rw [Nat.mul_left_comm, Nat.mul_div_cancel_left _ (seven_pos _)]
  rw [e, Nat.pow_succ, ← Nat.mul_assoc, Nat.mul_mod_left]
  rfl
theorem lay60 : zmLay 60 = (20, 4) := by decide +kernel
theorem lay61 : zmLay 61 = (20, 4) := by decide +kernel
/-- what the search has found after c rows -/
def BR (N : Nat) (f : Nat → Int64) (ini : Int64) (a : Nat → Nat → Int32) (b : Nat → Nat → Int64) (c : Nat) : Prop := b 55 7 = (fldO f ini c).1 ∧ (0 < c → ∀ j, j < N → a 61 j = iN (rowOf N (fldO f ini c).2 j))
/-- rows ahead of STEP t stay, and all else but the search's own -/
def lowF (t : Nat) (a a' : Nat → Nat → Int32) (b b' : Nat → Nat → Int64) : Prop := (∀ k, scC k = false → k ≠ 56 → k ≠ 57 → k ≠ 60 → k ≠ 61 → a' k = a k) ∧ (∀ j, j < t → a' 56 j = a 56 j ∧ a' 60 j = a 60 j) ∧ (∀ j, j < t * 10 → a' 57 j = a 57 j ∧ b' 58 j = b 58 j) ∧ (∀ k, k ≠ 58 → k ≠ 59 → k ≠ 55 → b' k = b k) ∧ (∀ j, j < t * 5 → b' 59 j = b 59 j) ∧ ∀ j, j ≠ 7 → b' 55 j = b 55 j
theorem lowF.refl {t : Nat} {a : Nat → Nat → Int32} {b : Nat → Nat → Int64} : lowF t a a b b := ⟨fun _ _ _ _ _ _ => rfl, fun _ _ => ⟨rfl, rfl⟩, fun _ _ => ⟨rfl, rfl⟩, fun _ _ _ _ => rfl, fun _ _ => rfl, fun _ _ => rfl⟩
theorem lowF.trans {t : Nat} {a a1 a2 : Nat → Nat → Int32} {b b1 b2 : Nat → Nat → Int64} (h : lowF t a a1 b b1) (h2 : lowF t a1 a2 b1 b2) : lowF t a a2 b b2 := ⟨fun k p q s u v => (h2.1 k p q s u v).trans (h.1 k p q s u v), fun j p => ⟨(h2.2.1 j p).1.trans (h.2.1 j p).1, (h2.2.1 j p).2.trans (h.2.1 j p).2⟩, fun j p => ⟨(h2.2.2.1 j p).1.trans (h.2.2.1 j p).1, (h2.2.2.1 j p).2.trans (h.2.2.1 j p).2⟩, fun k p q s => (h2.2.2.2.1 k p q s).trans (h.2.2.2.1 k p q s), fun j p => (h2.2.2.2.2.1 j p).trans (h.2.2.2.2.1 j p), fun j p => (h2.2.2.2.2.2 j p).trans (h.2.2.2.2.2 j p)⟩
theorem lowF.le {t t' : Nat} {a a' : Nat → Nat → Int32} {b b' : Nat → Nat → Int64} (h : lowF t a a' b b') (ht : t' ≤ t) : lowF t' a a' b b' := ⟨h.1, fun j p => h.2.1 j (by omega), fun j p => h.2.2.1 j (by omega), h.2.2.2.1, fun j p => h.2.2.2.2.1 j (by omega), h.2.2.2.2.2⟩
theorem onlyR.low {T t : Nat} {a a' : Nat → Nat → Int32} {b b' : Nat → Nat → Int64} (h : onlyR a a' b b' T) (ht : t ≤ T) : lowF t a a' b b' := ⟨fun k p q s _ _ => h.1 k p q s, fun j p => ⟨h.2.1 j (by omega), by rw [h.1 60 rfl (by omega) (by omega)]⟩, fun j p => ⟨h.2.2.1 j (by omega), h.2.2.2.2.1 j (by omega)⟩, fun k p q _ => h.2.2.2.1 k p q, fun j p => h.2.2.2.2.2 j (by omega), fun j _ => by rw [h.2.2.2.1 55 (by omega) (by omega)]⟩
theorem dpC_60 (k j : Nat) (h : dpC k j = true) : k ≠ 60 ∧ k ≠ 61 := ⟨fun q => by rw [q] at h; simp [dpC, dpA] at h, fun q => by rw [q] at h; simp [dpC, dpA] at h⟩
theorem lowF.ag {t : Nat} {a a' : Nat → Nat → Int32} {b b' : Nat → Nat → Int64} (h : lowF t a a' b b') : agD dpC a a' := fun k j hp => by rw [h.1 k (dpC_scC k j hp) (dpC_56 k j hp).1 (dpC_56 k j hp).2 (dpC_60 k j hp).1 (dpC_60 k j hp).2]
theorem lowF.tab {t : Nat} {a a' : Nat → Nat → Int32} {b b' : Nat → Nat → Int64} (h : lowF t a a' b b') (hT : TabC b) : TabC b' := hT.fr (h.2.2.2.1 2 (by decide) (by decide) (by decide)) (h.2.2.2.1 3 (by decide) (by decide) (by decide))
/-- the row that is told up to STEP t stands as the best, noughts behind it -/
def bstR (a : Nat → Nat → Int32) (t k : Nat) : Nat → Nat → Int32 := fun q j => if q = 61 ∧ j < k then (if j < t then a 60 j else iN 0) else a q j
theorem bstR_step (a : Nat → Nat → Int32) (t k : Nat) : uI (bstR a t k) 61 k (if k < t then a 60 k else iN 0) = bstR a t (k + 1) := by
  funext q j
  rw [uI_at]
  unfold bstR
  by_cases h : q = 61 ∧ j = k
  · rw [if_pos h, if_pos (show q = 61 ∧ j < k + 1 by omega), h.2]
  · rw [if_neg h]
    by_cases h2 : q = 61 ∧ j < k
    · rw [if_pos h2, if_pos (show q = 61 ∧ j < k + 1 by omega)]
    · rw [if_neg h2, if_neg (show ¬ (q = 61 ∧ j < k + 1) by omega)]
theorem c_bstLoop {n t d : Nat} {r : Nat → Nat → Option Nat} (ht : t ≤ 4) (k : Nat) : ∀ (i : Nat) (a : Nat → Nat → Int32) (b : Nat → Nat → Int64), i + k = 4 → Den (d+1) 12 58 [.ref 55,.int (iN t),.int (iN i)] [] (zmMk n (bstR a t i) b r) = some (none, zmMk n (bstR a t 4) b r) := by
  induction k with
  | zero =>
    intro i a b hik
    obtain rfl : i = 4 := by omega
    rw [b12_58]
    simp (disch := omega) only [n_add, n_mul, n_in, decide_eq_true_eq, n_nat, n_lt, n_eq, n_sub, if_pos, if_neg, if_true, if_false, b12_96]
  | succ k ih =>
    intro i a b hik
    have ei : itV (iN 0) 4 (bstR a t i 60) (iN i) = a 60 i := by
      rw [itV_n (by omega) (by decide)]
      unfold bstR
      rw [if_neg (by omega)]
    rw [← ih (i + 1) a b (by omega), b12_58, ← bstR_step a t i]
    by_cases h : i < t
    · rw [if_pos h]
      simp (disch := omega) only [n_add, n_mul, n_in, decide_eq_true_eq, n_nat, n_lt, n_eq, n_sub, if_pos, if_neg, if_true, if_false, b12_67, b12_77, c_item lay60, ei, Option.bind_some, Option.toList_some, Option.toList_none, List.cons_append, List.nil_append, true_or, or_true, if_true, bI_if, b12_85, b12_89, b12_90]
    · rw [if_neg h]
      simp (disch := omega) only [n_add, n_mul, n_in, decide_eq_true_eq, n_nat, n_lt, n_eq, n_sub, if_pos, if_neg, if_true, if_false, b12_67, b12_88, b12_89, b12_90]
/-- the end of a row: the value of all rows that go on so is v -/
theorem c_leaf {n N B p m t cd d : Nat} {r : Nat → Nat → Option Nat} {Q : AQ} {v ini : Int64} {a : Nat → Nat → Int32} {b : Nat → Nat → Int64} (ht : t + m = N) (hN : N ≤ 4) (h59 : b 59 (t * 5) = v) (hv : ∀ x, cd * 7 ^ m ≤ x → x < (cd + 1) * 7 ^ m → valR Q B N p x = v) (h60 : ∀ j, j < t → a 60 j = iN (rowOf t cd j)) (hB : BR N (valR Q B N p) ini a b (cd * 7 ^ m)) (hini : ini < valR Q B N p 0) : ∃ a' b', Den (d+2) 12 32 [.ref 55,.int (iN t),zmJ] [] (zmMk n a b r) = some (none, zmMk n a' b' r) ∧ BR N (valR Q B N p) ini a' b' ((cd + 1) * 7 ^ m) ∧ lowF t a a' b b' := by
  have e59 : b 59 (t * 5 + 0) = v := h59
  obtain ⟨k, hk⟩ : ∃ k, 7 ^ m = k + 1 := ⟨7 ^ m - 1, by have := seven_pos m; omega⟩
  have hco := fldO_const (f := valR Q B N p) (ini := ini) (v := v) (s := cd * 7 ^ m) k (fun x h1 h2 => hv x h1 (by rw [Nat.add_mul, Nat.one_mul, hk]; rw [hk] at h1 h2; exact h2))
  have hs : cd * 7 ^ m + (k + 1) = (cd + 1) * 7 ^ m := by rw [Nat.add_mul, Nat.one_mul, hk]
  rw [hs] at hco
  by_cases hlt : (fldO (valR Q B N p) ini (cd * 7 ^ m)).1 < v
  · rw [if_pos hlt] at hco
    have hb := c_bstLoop (d := d+1) (n := n) (r := r) (show t ≤ 4 by omega) 4 0 a (uL b 55 7 v) (by omega)
    have hb0 : bstR a t 0 = a := by funext q j; exact if_neg (by omega)
    rw [hb0] at hb
    refine ⟨bstR a t 4, uL b 55 7 v, ?_, ⟨?_, fun _ j hj => ?_⟩, ?_⟩
    · simp (disch := omega) only [b12_32, c_sum (w := 0) rfl rfl, e59, Option.bind_some, Option.toList_some, Option.toList_none, List.cons_append, List.nil_append, true_or, or_true, if_true, bI_if, b12_38, cmp_pos, hB.1, hlt, b12_46, b12_53, hb]
    · rw [hco, uL_at, if_pos ⟨rfl, rfl⟩]
    · rw [hco]
      unfold bstR
      rw [if_pos ⟨rfl, by omega⟩]
      subst ht
      by_cases hjt : j < t
      · rw [if_pos hjt, h60 j hjt, rowOf_pre hjt (Nat.le_refl _) (by rw [Nat.add_mul, Nat.one_mul]; have := seven_pos m; omega)]
      · rw [if_neg hjt, rowOf_zero (by omega) hj]
    · refine ⟨fun k _ _ _ _ h => ?_, fun j hj => ⟨?_, ?_⟩, fun j hj => ⟨?_, ?_⟩, fun k _ _ h => ?_, fun j _ => ?_, fun j h => ?_⟩
      · funext j; unfold bstR; rw [if_neg (by omega)]
      · unfold bstR; rw [if_neg (by omega)]
      · unfold bstR; rw [if_neg (by omega)]
      · unfold bstR; rw [if_neg (by omega)]
      · rw [uL_at, if_neg (by omega)]
      · funext j; rw [uL_at, if_neg (by omega)]
      · rw [uL_at, if_neg (by omega)]
      · rw [uL_at, if_neg (by omega)]
  · rw [if_neg hlt] at hco
    refine ⟨a, b, ?_, ⟨by rw [hco]; exact hB.1, fun _ j hj => ?_⟩, lowF.refl⟩
    · simp (disch := omega) only [b12_32, c_sum (w := 0) rfl rfl, e59, Option.bind_some, Option.toList_some, Option.toList_none, List.cons_append, List.nil_append, true_or, or_true, if_true, bI_if, b12_38, cmp_pos, hB.1, hlt, if_false, b12_96]
    · rw [hco]
      refine hB.2 ?_ j hj
      refine Nat.pos_of_ne_zero (fun h0 => hlt ?_)
      rw [h0]
      have h1 := hv 0 (by omega) (by rw [Nat.add_mul, Nat.one_mul, h0]; have := seven_pos m; omega)
      rw [← h1]
      exact hini

theorem zmk_inj {n : Nat} {a a' : Nat → Nat → Int32} {b b' : Nat → Nat → Int64} {r : Nat → Nat → Option Nat} {v : Option Value} (h : (some (v, zmMk n a b r) : Option (Option Value × zmH)) = some (v, zmMk n a' b' r)) : a = a' ∧ b = b' := by
  have h2 := congrArg (fun o : Option (Option Value × zmH) => match o with
    | some (_, x) => (x.2.1, x.2.2.1)
    | none => (a, b)) h
  exact ⟨congrArg Prod.fst h2, congrArg Prod.snd h2⟩
/-- the search with m STEPS left, as a premise -/
def SrC (n : Nat) (r : Nat → Nat → Option Nat) (N B p : Nat) (Q : AQ) (ini : Int64) (m : Nat) : Prop := ∀ (d t cd c : Nat) (vt : Int32) (a : Nat → Nat → Int32) (b : Nat → Nat → Int64), t + m = N → vt = iN t → EnvC n r a N B Q → TabC b → c ≤ t + 1 → (∀ x, cd * 7 ^ m ≤ x → x < (cd + 1) * 7 ^ m → RowI N B Q (arow Q (rowOf N x)) a b t c 1 (fun w => FF Q B (arow Q (rowOf N x)) N 0 p w)) → (∀ j, j < t → a 60 j = iN (rowOf t cd j)) → BR N (valR Q B N p) ini a b (cd * 7 ^ m) → ∃ a' b', Den (d+m+15) 12 0 [.ref 55, .int vt, zmJ] [] (zmMk n a b r) = some (none, zmMk n a' b' r) ∧ BR N (valR Q B N p) ini a' b' ((cd + 1) * 7 ^ m) ∧ lowF t a a' b b'
def dgOf (act : Nat) : Nat := if act ≤ 4 then act else act - 1
theorem actBy_dg {act : Nat} (h : act ≠ 4) (h8 : act < 8) : actBy (dgOf act) = act := by
  unfold actBy dgOf
  split <;> split <;> omega
theorem rowOf_app {t cd act j : Nat} (h : act ≠ 4) (h8 : act < 8) (hj : j < t + 1) : rowOf (t + 1) (cd * 7 + dgOf act) j = if j < t then rowOf t cd j else act := by
  have hd : dgOf act < 7 := by unfold dgOf; split <;> omega
  unfold rowOf
  by_cases hjt : j < t
  · rw [if_pos hjt, show t + 1 - 1 - j = (t - 1 - j) + 1 by omega, Nat.pow_succ, Nat.mul_comm (7 ^ (t - 1 - j)) 7, ← Nat.div_div_eq_div_mul]
    congr 2
    congr 1
    omega
  · rw [if_neg hjt, show t + 1 - 1 - j = 0 by omega, Nat.pow_zero, Nat.div_one, show (cd * 7 + dgOf act) % 7 = dgOf act by omega]
    exact actBy_dg h h8
set_option maxHeartbeats 1000000 in
theorem c_searchLoop {n N B p m t cd c d : Nat} {r : Nat → Nat → Option Nat} {Q : AQ} {ini : Int64} (hS : SrC n r N B p Q ini m) (ht : t + m + 1 = N) (hN : N ≤ 4) (hc : c ≤ t + 1) (k : Nat) : ∀ (act : Nat) (a : Nat → Nat → Int32) (b : Nat → Nat → Int64), act + k = 8 → EnvC n r a N B Q → TabC b → (∀ x, cd * 7 ^ (m + 1) ≤ x → x < (cd + 1) * 7 ^ (m + 1) → RowI N B Q (arow Q (rowOf N x)) a b t c 1 (fun w => FF Q B (arow Q (rowOf N x)) N 0 p w)) → (∀ j, j < t → a 60 j = iN (rowOf t cd j)) → BR N (valR Q B N p) ini a b ((cd * 7 + dgOf act) * 7 ^ m) → ∃ a' b', Den (d+m+16) 12 99 [.ref 55,.int (iN t),.int (iN act)] [] (zmMk n a b r) = some (none, zmMk n a' b' r) ∧ BR N (valR Q B N p) ini a' b' ((cd + 1) * 7 ^ (m + 1)) ∧ lowF t a a' b b' := by
  have h7 : ∀ y, y * 7 ^ (m + 1) = y * 7 * 7 ^ m := fun y => by rw [Nat.pow_succ, Nat.mul_comm (7 ^ m) 7, ← Nat.mul_assoc]
  induction k with
  | zero =>
    intro act a b hk hE hT hR h60 hB
    obtain rfl : act = 8 := by omega
    refine ⟨a, b, ?_, ?_, lowF.refl⟩
    · rw [b12_99]
      simp (disch := omega) only [n_add, n_mul, n_in, decide_eq_true_eq, n_nat, n_lt, n_eq, n_sub, if_pos, if_neg, if_true, if_false, b12_139]
    · rw [h7]
      have e : (cd + 1) * 7 = cd * 7 + dgOf 8 := by show _ = cd * 7 + 7; omega
      rw [e]
      exact hB
  | succ k ih =>
    intro act a b hk hE hT hR h60 hB
    have h8 := hE.n8
    have hact : act < 8 := by omega
    by_cases h4 : act = 4
    · obtain ⟨a1, b1, e1, B1, f1⟩ := ih (act + 1) a b (by omega) hE hT hR h60 (by
        have e : dgOf (act + 1) = dgOf act := by rw [h4]; rfl
        rw [e]; exact hB)
      refine ⟨a1, b1, ?_, B1, f1⟩
      rw [← e1, b12_99]
      simp (disch := omega) only [n_add, n_mul, n_in, decide_eq_true_eq, n_nat, n_lt, n_eq, n_sub, if_pos, if_neg, if_true, if_false, b12_105, b12_133]
    · have hdg : dgOf act < 7 := by unfold dgOf; split <;> omega
      have hdg1 : dgOf (act + 1) = dgOf act + 1 := by unfold dgOf; split <;> split <;> omega
      have o0 : lowF t a (uI a 60 t (iN act)) b b := ⟨fun k _ _ _ h _ => by funext j; rw [uI_at, if_neg (by omega)], fun j hj => ⟨by rw [uI_at, if_neg (by omega)], by rw [uI_at, if_neg (by omega)]⟩, fun j hj => ⟨by rw [uI_at, if_neg (by omega)], rfl⟩, fun _ _ _ _ => rfl, fun _ _ => rfl, fun _ _ => rfl⟩
      have hE0 := hE.ag o0.ag
      have hR0 : ∀ x, cd * 7 ^ (m + 1) ≤ x → x < (cd + 1) * 7 ^ (m + 1) → RowI N B Q (arow Q (rowOf N x)) (uI a 60 t (iN act)) b t c 1 (fun w => FF Q B (arow Q (rowOf N x)) N 0 p w) := fun x h1 h2 => by
        obtain ⟨P, W, q1, q2, q3, q4⟩ := hR x h1 h2
        refine ⟨P, W, by rw [uI_at, if_neg (by omega)]; exact q1, fun i hi => ?_, q3, q4⟩
        rw [uI_at, if_neg (by omega)]
        exact q2 i hi
      -- the codes that go on by this ACTION
      have hin : ∀ x, (cd * 7 + dgOf act) * 7 ^ m ≤ x → x < (cd * 7 + dgOf act + 1) * 7 ^ m → cd * 7 ^ (m + 1) ≤ x ∧ x < (cd + 1) * 7 ^ (m + 1) := fun x h1 h2 => by
        rw [h7, h7]
        refine ⟨Nat.le_trans (Nat.mul_le_mul_right _ (by omega)) h1, Nat.lt_of_lt_of_le h2 (Nat.mul_le_mul_right _ (by omega))⟩
      have hAt : ∀ x, (cd * 7 + dgOf act) * 7 ^ m ≤ x → x < (cd * 7 + dgOf act + 1) * 7 ^ m → ∀ q, arow Q (rowOf N x) t q = if act ≠ 0 ∧ mayP Q t q act then act else 0 := fun x h1 h2 q => by
        have e : rowOf N x t = act := by
          have h := rowOf_pre (t := t + 1) (m := m) (j := t) (by omega) h1 h2
          rw [show t + 1 + m = N by omega] at h
          rw [h, rowOf_app h4 hact (by omega), if_neg (by omega)]
        unfold arow
        rw [e]
      have hx0 : (cd * 7 + dgOf act) * 7 ^ m < (cd * 7 + dgOf act + 1) * 7 ^ m := by rw [Nat.add_mul (cd * 7 + dgOf act) 1, Nat.one_mul]; have := seven_pos m; omega
      obtain ⟨a1, b1, c1, e1, R1, k1, o1⟩ := c_advancen (d := d + m + 1) (m := m) (act := act) (vt := iN t) (vx := iN act) ⟨hact, h4⟩ (hAt _ (Nat.le_refl _) hx0) rfl rfl (by omega) (arow_ok Q N _) hE0 hT (by omega) (Nat.le_refl _) (hR0 _ (hin _ (Nat.le_refl _) hx0).1 (hin _ (Nat.le_refl _) hx0).2)
      have hR1 : ∀ x, (cd * 7 + dgOf act) * 7 ^ m ≤ x → x < (cd * 7 + dgOf act + 1) * 7 ^ m → RowI N B Q (arow Q (rowOf N x)) a1 b1 (t + 1) c1 1 (fun w => FF Q B (arow Q (rowOf N x)) N 0 p w) := fun x h1 h2 => by
        obtain ⟨a2, b2, c2, e2, R2, k2, o2⟩ := c_advancen (d := d + m + 1) (m := m) (act := act) (vt := iN t) (vx := iN act) ⟨hact, h4⟩ (hAt x h1 h2) rfl rfl (by omega) (arow_ok Q N x) hE0 hT (by omega) (Nat.le_refl _) (hR0 x (hin x h1 h2).1 (hin x h1 h2).2)
        obtain ⟨rfl, rfl⟩ := zmk_inj (e1.symm.trans e2)
        have hcc : c2 = c1 := by
          obtain ⟨_, _, g1, -⟩ := R1
          obtain ⟨_, _, g2, -⟩ := id R2
          rw [g1, n_eq (by omega) (by omega)] at g2
          exact g2.symm
        rw [← hcc]
        exact R2
      have oA : lowF t a a1 b b1 := o0.trans (o1.low (by omega))
      have B1' : BR N (valR Q B N p) ini a1 b1 ((cd * 7 + dgOf act) * 7 ^ m) := by
        refine ⟨?_, fun h j hj => ?_⟩
        · rw [o1.2.2.2.1 55 (by omega) (by omega)]; exact hB.1
        · rw [o1.1 61 rfl (by omega) (by omega), uI_at, if_neg (by omega)]
          exact hB.2 h j hj
      obtain ⟨a2, b2, e2, B2, f2⟩ := hS d (t + 1) (cd * 7 + dgOf act) c1 (iN (t + 1)) a1 b1 (by omega) rfl (hE0.ag o1.ag) (o1.tab hT) (by omega) hR1 (fun j hj => by
        rw [o1.1 60 rfl (by omega) (by omega), rowOf_app h4 hact hj, uI_at]
        by_cases hjt : j < t
        · rw [if_neg (by omega), if_pos hjt]
          exact h60 j hjt
        · rw [if_pos (by omega), if_neg hjt]) B1'
      have oB : lowF t a a2 b b2 := oA.trans (f2.le (by omega))
      have f2' : lowF (t + 1) (uI a 60 t (iN act)) a2 b b2 := (o1.low (Nat.le_refl _)).trans f2
      obtain ⟨a3, b3, e3, B3, f3⟩ := ih (act + 1) a2 b2 (by omega) (hE.ag oB.ag) (oB.tab hT) (fun x h1 h2 => by
        obtain ⟨P, W, q1, q2, q3, q4⟩ := hR0 x h1 h2
        refine ⟨P, W, by rw [(f2'.2.1 t (by omega)).1]; exact q1, fun i hi => ?_, q3, fun w hw => ?_⟩
        · rw [(f2'.2.2.1 (t * 10 + i) (by omega)).1, (f2'.2.2.1 (t * 10 + i) (by omega)).2]
          exact q2 i hi
        · rw [f2'.2.2.2.2.1 (t * 5 + w) (by omega)]
          exact q4 w hw) (fun j hj => by rw [(oB.2.1 j hj).2]; exact h60 j hj) (by rw [hdg1]; exact B2)
      refine ⟨a3, b3, ?_, B3, oB.trans f3⟩
      rw [← e3, b12_99]
      have e1' : Den (d+m+15) 16 0 [.ref 55, .int (iN t), .int (iN act), .null, zmJ, zmJ, zmJ, zmJ, zmJ, zmJ, zmJ, zmJ] [] (zmMk n (uI a 60 t (iN act)) b r) = some (none, zmMk n a1 b1 r) := e1
      simp (disch := omega) only [n_add, n_mul, n_in, decide_eq_true_eq, n_nat, n_lt, n_eq, n_sub, if_pos, if_neg, if_true, if_false, b12_105, b12_110, c_put lay60, puV_n, Option.bind_some, Option.toList_some, Option.toList_none, List.cons_append, List.nil_append, true_or, or_true, if_true, bI_if, b12_119, e1', b12_126, e2, b12_133]

theorem c_search {n N B p : Nat} {r : Nat → Nat → Option Nat} {Q : AQ} {ini : Int64} (hN : N ≤ 4) (hini : ini < valR Q B N p 0) : ∀ m, SrC n r N B p Q ini m := by
  have leaf0 : ∀ (m d t cd c : Nat) (a : Nat → Nat → Int32) (b : Nat → Nat → Int64), t + m = N → EnvC n r a N B Q → c = 0 → (∀ x, cd * 7 ^ m ≤ x → x < (cd + 1) * 7 ^ m → RowI N B Q (arow Q (rowOf N x)) a b t c 1 (fun w => FF Q B (arow Q (rowOf N x)) N 0 p w)) → (∀ j, j < t → a 60 j = iN (rowOf t cd j)) → BR N (valR Q B N p) ini a b (cd * 7 ^ m) → ∃ a' b', Den (d+m+15) 12 27 [.ref 55,.int (iN t),zmJ] [] (zmMk n a b r) = some (none, zmMk n a' b' r) ∧ BR N (valR Q B N p) ini a' b' ((cd + 1) * 7 ^ m) ∧ lowF t a a' b b' := by
    intro m d t cd c a b ht hE hc hR h60 hB
    subst hc
    have h8 := hE.n8
    have hx0 : cd * 7 ^ m < (cd + 1) * 7 ^ m := by rw [Nat.add_mul cd 1, Nat.one_mul]; have := seven_pos m; omega
    obtain ⟨P, W, h56, -, -, hs0⟩ := hR _ (Nat.le_refl _) hx0
    have hv : ∀ x, cd * 7 ^ m ≤ x → x < (cd + 1) * 7 ^ m → valR Q B N p x = b 59 (t * 5) := fun x h1 h2 => by
      obtain ⟨P, W, -, -, -, hs⟩ := hR x h1 h2
      have h := hs 0 (by omega)
      simp only [psum, Int64.add_zero, Nat.add_zero] at h
      exact h.symm
    obtain ⟨a1, b1, e1, B1, f1⟩ := c_leaf (d := d + m + 13) ht hN rfl hv h60 hB hini
    refine ⟨a1, b1, ?_, B1, f1⟩
    rw [← e1]
    simp (disch := omega) only [b12_27, c_end0 rfl (show t ≤ 8 by omega) h56, Option.bind_some, Option.toList_some, Option.toList_none, List.cons_append, List.nil_append, true_or, or_true, if_true, bI_if]
  intro m
  induction m with
  | zero =>
    intro d t cd c vt a b ht et hE hT hc hR h60 hB
    subst et
    have h8 := hE.n8
    have h16 : a 16 0 = iN N := hE.2.1
    have htN : t = N := by omega
    subst htN
    have hx0 : cd * 7 ^ 0 < (cd + 1) * 7 ^ 0 := by omega
    obtain ⟨a1, b1, e1, S1, o1⟩ := c_end (d := d + 2) (vt := iN t) rfl (by omega) hE (hR _ (Nat.le_refl _) hx0)
    have hv : ∀ x, cd * 7 ^ 0 ≤ x → x < (cd + 1) * 7 ^ 0 → valR Q B t p x = b1 59 (t * 5) := fun x h1 h2 => by
      have hx : x = cd * 7 ^ 0 := by omega
      have h := S1 0 (by omega)
      rw [hx]
      exact h.symm
    obtain ⟨a2, b2, e2, B2, f2⟩ := c_leaf (d := d + 13) (a := a1) (b := b1) ht hN rfl hv (fun j hj => by rw [o1.1 60 rfl (by omega) (by omega)]; exact h60 j hj) ⟨by rw [o1.2.2.2.1 55 (by omega) (by omega)]; exact hB.1, fun h j hj => by rw [o1.1 61 rfl (by omega) (by omega)]; exact hB.2 h j hj⟩ hini
    refine ⟨a2, b2, ?_, B2, (o1.low (Nat.le_refl _)).trans f2⟩
    rw [← e2]
    simp (disch := omega) only [b12_0, b57_0, h16, Option.bind_some, Option.toList_some, Option.toList_none, List.cons_append, List.nil_append, true_or, or_true, if_true, bI_if, b12_8, n_add, n_mul, n_in, decide_eq_true_eq, n_nat, n_lt, n_eq, n_sub, if_pos, if_neg, if_true, if_false, b12_27, e1]
  | succ m ih =>
    intro d t cd c vt a b ht et hE hT hc hR h60 hB
    subst et
    have h8 := hE.n8
    have h16 : a 16 0 = iN N := hE.2.1
    have hx0 : cd * 7 ^ (m + 1) < (cd + 1) * 7 ^ (m + 1) := by rw [Nat.add_mul cd 1, Nat.one_mul]; have := seven_pos (m + 1); omega
    have h56 : a 56 t = iN c := by
      obtain ⟨P, W, h, -⟩ := hR _ (Nat.le_refl _) hx0
      exact h
    have ei : itV (iN 0) 9 (a 56) (iN t) = iN c := by rw [itV_n (by omega) (by decide), h56]
    by_cases hc0 : c = 0
    · obtain ⟨a1, b1, e1, B1, f1⟩ := leaf0 (m + 1) d t cd c a b ht hE hc0 hR h60 hB
      refine ⟨a1, b1, ?_, B1, f1⟩
      rw [← e1]
      simp (disch := omega) only [b12_0, b57_0, h16, Option.bind_some, Option.toList_some, Option.toList_none, List.cons_append, List.nil_append, true_or, or_true, if_true, bI_if, b12_8, n_add, n_mul, n_in, decide_eq_true_eq, n_nat, n_lt, n_eq, n_sub, if_pos, if_neg, if_true, if_false, b12_11, b12_16, c_item lay56, ei, b12_24]
    · obtain ⟨a1, b1, e1, B1, f1⟩ := c_searchLoop (d := d) ih (show t + m + 1 = N by omega) hN hc 8 0 a b (by omega) hE hT hR h60 (by
        have e : (cd * 7 + dgOf 0) * 7 ^ m = cd * 7 ^ (m + 1) := by
          rw [Nat.pow_succ, Nat.mul_comm (7 ^ m) 7, ← Nat.mul_assoc]
          rfl
        rw [e]
        exact hB)
      refine ⟨a1, b1, ?_, B1, f1⟩
      rw [← e1, show d + (m + 1) + 15 = d + m + 16 by omega]
      simp (disch := omega) only [b12_0, b57_0, h16, Option.bind_some, Option.toList_some, Option.toList_none, List.cons_append, List.nil_append, true_or, or_true, if_true, bI_if, b12_8, n_add, n_mul, n_in, decide_eq_true_eq, n_nat, n_lt, n_eq, n_sub, if_pos, if_neg, if_true, if_false, b12_11, b12_16, c_item lay56, ei, b12_24, b12_97]
