/-! ===== ODDS: the greatest common divisor on both sides; LEAVES, OVER ===== -/
theorem l_div {i j : Nat} (hi : i < 9223372036854775808) (hj : j < 9223372036854775808) : jN i / jN j = jN (i / j) := (Int64.ofNat_div hi hj).symm
theorem l_sub2 {i j : Nat} (h : j ≤ i) : jN i - jN j = jN (i - j) := (Int64.ofNat_sub i j h).symm
theorem l_rem {i j : Nat} (hi : i < 9223372036854775808) (hj : j < 9223372036854775808) : jN i - jN i / jN j * jN j = jN (i % j) := by
  rw [l_div hi hj, l_mul, l_sub2 (Nat.div_mul_le_self i j)]
  congr 1
  have := Nat.div_add_mod i j
  rw [Nat.mul_comm] at this
  omega
theorem gcd_half {b r : Nat} (hr : 0 < r) (hb : r < b) : 2 * (b % r) < b := by
  have h1 := Nat.mod_lt b hr
  have h2 := Nat.div_add_mod b r
  have h3 : 1 ≤ b / r := Nat.div_pos (Nat.le_of_lt hb) hr
  have h4 : r * 1 ≤ r * (b / r) := Nat.mul_le_mul_left r h3
  omega
theorem gcd_st (x y : Nat) : y.gcd (x % y) = x.gcd y := by rw [Nat.gcd_comm y, ← Nat.gcd_rec, Nat.gcd_comm]
theorem c_divLoop {d n : Nat} {a : Nat → Nat → Int32} {b : Nat → Nat → Int64} {r : Nat → Nat → Option Nat} {w0 w2 : Int64} (k : Nat) : ∀ (x y i : Nat) (u9 : Value), y < 2 ^ k → x < 9223372036854775808 → y < 9223372036854775808 → i + 2 * k ≤ 128 → Den d 30 9 [.long w0,zmJ,.long w2,zmJ,.long (jN x),zmJ,.long (jN y),zmJ,.int (iN i),u9,zmJ] [] (zmMk n a b r) = some (some (.long (jN (Nat.gcd x y))), (zmMk n a b r)) := by
  induction k with
  | zero =>
    intro x y i u9 hy hx _ hi
    obtain rfl : y = 0 := by simpa using hy
    simp (disch := omega) only [b30_9, n_add, n_mul, n_in, decide_eq_true_eq, n_nat, n_lt, n_eq, n_sub, if_pos, if_neg, if_true, if_false, b30_17, cmp_0, l_eq0, b30_45, Nat.gcd_zero_right]
  | succ k ih =>
    intro x y i u9 hy hx hy2 hi
    by_cases h0 : y = 0
    · subst h0
      simp (disch := omega) only [b30_9, n_add, n_mul, n_in, decide_eq_true_eq, n_nat, n_lt, n_eq, n_sub, if_pos, if_neg, if_true, if_false, b30_17, cmp_0, l_eq0, b30_45, Nat.gcd_zero_right]
    · have hm : x % y < y := Nat.mod_lt _ (Nat.pos_of_ne_zero h0)
      have e1 : Den d 30 9 [.long w0,zmJ,.long w2,zmJ,.long (jN x),zmJ,.long (jN y),zmJ,.int (iN i),u9,zmJ] [] (zmMk n a b r) = Den d 30 9 [.long w0,zmJ,.long w2,zmJ,.long (jN y),zmJ,.long (jN (x % y)),zmJ,.int (iN (i + 1)),.long (jN (x % y)),zmJ] [] (zmMk n a b r) := by
        conv => lhs; rw [b30_9]
        simp (disch := omega) only [n_add, n_mul, n_in, decide_eq_true_eq, n_nat, n_lt, n_eq, n_sub, if_pos, if_neg, if_true, if_false, b30_17, cmp_0, l_eq0, h0, b30_24, l_rem, b30_29]
      rw [e1]
      by_cases h1 : x % y = 0
      · rw [h1]
        simp (disch := omega) only [b30_9, n_add, n_mul, n_in, decide_eq_true_eq, n_nat, n_lt, n_eq, n_sub, if_pos, if_neg, if_true, if_false, b30_17, cmp_0, l_eq0, b30_45]
        rw [Nat.gcd_eq_right (Nat.dvd_of_mod_eq_zero h1)]
      · have hm2 := gcd_half (Nat.pos_of_ne_zero h1) hm
        have e2 : Den d 30 9 [.long w0,zmJ,.long w2,zmJ,.long (jN y),zmJ,.long (jN (x % y)),zmJ,.int (iN (i + 1)),.long (jN (x % y)),zmJ] [] (zmMk n a b r) = Den d 30 9 [.long w0,zmJ,.long w2,zmJ,.long (jN (x % y)),zmJ,.long (jN (y % (x % y))),zmJ,.int (iN (i + 1 + 1)),.long (jN (y % (x % y))),zmJ] [] (zmMk n a b r) := by
          conv => lhs; rw [b30_9]
          simp (disch := omega) only [n_add, n_mul, n_in, decide_eq_true_eq, n_nat, n_lt, n_eq, n_sub, if_pos, if_neg, if_true, if_false, b30_17, cmp_0, l_eq0, h1, b30_24, l_rem, b30_29]
        have hk : 2 ^ (k + 1) = 2 * 2 ^ k := by rw [Nat.pow_succ, Nat.mul_comm]
        rw [e2, ih (x % y) (y % (x % y)) (i + 1 + 1) _ (by omega) (by omega) (by omega) (by omega)]
        rw [gcd_st y (x % y), gcd_st x y]
theorem m_gcdLoop {d n : Nat} {a : Nat → Nat → Int32} {b : Nat → Nat → Int64} {r : Nat → Nat → Option Nat} {w0 w2 : Int64} (y : Nat) : ∀ (x : Nat) (u8 : Value), x < 9223372036854775808 → y < 9223372036854775808 → Den d 155 17 [.long w0,zmJ,.long w2,zmJ,.long (jN x),zmJ,.long (jN y),zmJ,u8,zmJ] [] (zmMk n a b r) = some (some (.long (jN (Nat.gcd x y))), (zmMk n a b r)) := by
  induction y using Nat.strongRecOn with
  | _ y ih =>
    intro x u8 hx hy
    by_cases h0 : y = 0
    · subst h0
      simp (disch := omega) only [b155_17, n_add, n_mul, n_in, decide_eq_true_eq, n_nat, n_lt, n_eq, n_sub, if_pos, if_neg, if_true, if_false, cmp_0, l_eq0, b155_42, Nat.gcd_zero_right]
    · have hm : x % y < y := Nat.mod_lt _ (Nat.pos_of_ne_zero h0)
      rw [b155_17]
      simp (disch := omega) only [n_add, n_mul, n_in, decide_eq_true_eq, n_nat, n_lt, n_eq, n_sub, if_pos, if_neg, if_true, if_false, cmp_0, l_eq0, h0, b155_24, l_rem, b155_29]
      rw [ih (x % y) hm y _ hy (by omega), Nat.gcd_comm y, ← Nat.gcd_rec, Nat.gcd_comm]
/-- the two parts of x in y, without a common divisor -/
def redV (x y : Nat) (w : Int32) : Int64 := if w = iN 0 then jN (x / Nat.gcd x y) else jN (y / Nat.gcd x y)
theorem redV_mul {k x y : Nat} (hk : 0 < k) (w : Int32) : redV (k * x) (k * y) w = redV x y w := by
  unfold redV
  rw [Nat.gcd_mul_left, Nat.mul_div_mul_left _ _ hk, Nat.mul_div_mul_left _ _ hk]
theorem m_through2 {d n x y : Nat} {a : Nat → Nat → Int32} {b : Nat → Nat → Int64} {r : Nat → Nat → Option Nat} {w : Int32} (hx : x < 9223372036854775808) (hy : y < 9223372036854775808) (hy0 : 0 < y) : Den (d+1) 156 0 [.long (jN x), zmJ, .long (jN y), zmJ, .int w, zmJ, zmJ] [] (zmMk n a b r) = some (some (.long (redV x y w)), (zmMk n a b r)) := by
  have hg : 0 < Nat.gcd x y := Nat.gcd_pos_of_pos_right x hy0
  have hg2 : Nat.gcd x y ≤ y := Nat.gcd_le_right x hy0
  have hnn : (jN x < (0 : Int64)) = False := by
    rw [← jN_0, l_lt hx (by decide)]
    simp
  have e1 : Den (d) 155 0 [.long (jN x), zmJ, .long (jN y), zmJ, zmJ, zmJ, zmJ, zmJ, zmJ, zmJ] [] (zmMk n a b r) = some (some (.long (jN (Nat.gcd x y))), (zmMk n a b r)) := by
    simp (disch := omega) only [b155_0, cmp_neg, hnn, if_false, b155_11, b155_12, m_gcdLoop y x _ hx hy]
  unfold redV
  by_cases hw : w = iN 0
  · rw [if_pos hw]
    simp (disch := omega) only [b156_0, e1, Option.bind_some, Option.toList_some, Option.toList_none, List.cons_append, List.nil_append, true_or, or_true, if_true, bI_if, b156_5, hw, b156_12, n_add, n_mul, n_in, decide_eq_true_eq, n_nat, n_lt, n_eq, n_sub, if_pos, if_neg, if_true, if_false, l_eq0, l_div, b156_16, b156_23]
  · rw [if_neg hw]
    simp (disch := omega) only [b156_0, e1, Option.bind_some, Option.toList_some, Option.toList_none, List.cons_append, List.nil_append, true_or, or_true, if_true, bI_if, b156_5, hw, n_add, n_mul, n_in, decide_eq_true_eq, n_nat, n_lt, n_eq, n_sub, if_pos, if_neg, if_true, if_false, b156_19, l_eq0, l_div, b156_23]
theorem c_set {d n x y : Nat} {a : Nat → Nat → Int32} {b : Nat → Nat → Int64} {r : Nat → Nat → Option Nat} (hx : x < 9223372036854775808) (hy : y < 9223372036854775808) (hy0 : 0 < y) : Den (d+1) 29 0 [.ref 65, .long (jN x), zmJ, .long (jN y), zmJ, zmJ, zmJ] [] (zmMk n a b r) = some (none, zmMk n a (uL (uL b 65 1 (jN (x / Nat.gcd x y))) 65 2 (jN (y / Nat.gcd x y))) r) := by
  have hg : 0 < Nat.gcd x y := Nat.gcd_pos_of_pos_right x hy0
  have hg2 : Nat.gcd x y ≤ y := Nat.gcd_le_right x hy0
  have e1 : Den (d) 30 0 [.long (jN x), zmJ, .long (jN y), zmJ, zmJ, zmJ, zmJ, zmJ, zmJ, zmJ, zmJ] [] (zmMk n a b r) = some (some (.long (jN (Nat.gcd x y))), (zmMk n a b r)) := by
    rw [b30_0]
    exact c_divLoop 63 x y 0 zmJ (by omega) hx hy (by omega)
  simp (disch := omega) only [b29_0, e1, Option.bind_some, Option.toList_some, Option.toList_none, List.cons_append, List.nil_append, true_or, or_true, if_true, bI_if, b29_5, cmp_0, l_eq0, n_add, n_mul, n_in, decide_eq_true_eq, n_nat, n_lt, n_eq, n_sub, if_pos, if_neg, if_true, if_false, b29_19, l_div, b29_23, b29_38, b29_42]
theorem c_part {d n x y : Nat} {a : Nat → Nat → Int32} {b : Nat → Nat → Int64} {r : Nat → Nat → Option Nat} {w : Int32} : Den (d) 28 0 [.ref 65, .int w] [] (zmMk n a (uL (uL b 65 1 (jN (x / Nat.gcd x y))) 65 2 (jN (y / Nat.gcd x y))) r) = some (some (.long (redV x y w)), zmMk n a (uL (uL b 65 1 (jN (x / Nat.gcd x y))) 65 2 (jN (y / Nat.gcd x y))) r) := by
  unfold redV
  by_cases hw : w = iN 0
  · simp (disch := omega) only [b28_0, b28_4, b28_11, b28_15, hw, if_true, uL_at, n_add, n_mul, n_in, decide_eq_true_eq, n_nat, n_lt, n_eq, n_sub, if_pos, if_neg, if_true, if_false, and_self]
  · simp (disch := omega) only [b28_0, b28_4, b28_11, b28_15, hw, if_false, uL_at, n_add, n_mul, n_in, decide_eq_true_eq, n_nat, n_lt, n_eq, n_sub, if_pos, if_neg, if_true, if_false, and_self]
/-! LEAVES and OVER: how likely, in parts -/
def stQ (Q : AQ) (B p : Nat) : Nat → Nat
  | 0 => 1
  | j + 1 => stQ Q B p j * (10 - gonP Q B j p)
theorem stQ_le (Q : AQ) (B p j : Nat) : stQ Q B p j ≤ 10 ^ j := by
  induction j with
  | zero => exact Nat.le_refl _
  | succ j ih =>
    show stQ Q B p j * (10 - gonP Q B j p) ≤ 10 ^ (j + 1)
    rw [Nat.pow_succ]
    exact Nat.mul_le_mul ih (Nat.sub_le _ _)
theorem p10_le {j : Nat} (h : j ≤ 9) : 10 ^ j ≤ 1000000000 := by
  have := Nat.pow_le_pow_right (show 0 < 10 by omega) h
  exact this
theorem p10_pos (j : Nat) : 0 < 10 ^ j := Nat.pow_pos (by omega)
theorem ten_N (j : Nat) : ten j = jN (10 ^ j) := by
  induction j with
  | zero => rfl
  | succ j ih =>
    show ten j * 10 = _
    rw [ih, Nat.pow_succ, ← l_mul]
    rfl
/-- of 10 ^ N parts in how many the bus goes in STEP j, in STEP N surely -/
def lvQ (Q : AQ) (B p N j : Nat) : Nat := if j = N then stQ Q B p N else stQ Q B p j * gonP Q B j p * 10 ^ (N - 1 - j)
theorem c_leaveLoop {n N B p d j : Nat} {r : Nat → Nat → Option Nat} {Q : AQ} (hj : j ≤ N) (hp : p < 4840) (k : Nat) : ∀ (i : Nat) (a : Nat → Nat → Int32) (b : Nat → Nat → Int64), i + k = j → EnvC n r a N B Q → ∃ a', Den (d+11) 31 14 [.ref 65,.int (iN j),.int (iN p),.int (iN N),.long (jN (stQ Q B p i)),zmJ,.int (iN i)] [] (zmMk n a b r) = Den (d+11) 31 51 [.ref 65,.int (iN j),.int (iN p),.int (iN N),.long (jN (stQ Q B p j)),zmJ,.int (iN j)] [] (zmMk n a' b r) ∧ frC a a' := by
  induction k with
  | zero =>
    intro i a b hik hE
    have h8 := hE.n8
    obtain rfl : i = j := by omega
    refine ⟨a, ?_, frS.refl⟩
    rw [b31_14]
    simp (disch := omega) only [n_add, n_mul, n_in, decide_eq_true_eq, n_nat, n_lt, n_eq, n_sub, if_pos, if_neg, if_true, if_false]
  | succ k ih =>
    intro i a b hik hE
    have h8 := hE.n8
    obtain ⟨a1, e1, f1⟩ := c_tenthsGone (d := d) (b := b) hE (vt := iN i) (vp := iN p) rfl rfl (by omega) hp
    have hg := gonP_le hE.qb B i p
    obtain ⟨a2, e2, f2⟩ := ih (i + 1) a1 b (by omega) (hE.fr f1)
    refine ⟨a2, ?_, f1.trans f2⟩
    rw [← e2, b31_14]
    simp (disch := omega) only [n_add, n_mul, n_in, decide_eq_true_eq, n_nat, n_lt, n_eq, n_sub, if_pos, if_neg, if_true, if_false, b31_20, b31_26, e1, Option.bind_some, Option.toList_some, Option.toList_none, List.cons_append, List.nil_append, true_or, or_true, if_true, bI_if, b31_40, l_of, l_mul]
    rfl
theorem redV_lv {Q : AQ} {B p N j : Nat} (h : j < N) (w : Int32) : redV (stQ Q B p j * gonP Q B j p) (10 ^ (j + 1)) w = redV (lvQ Q B p N j) (10 ^ N) w := by
  unfold lvQ
  rw [if_neg (by omega)]
  have e1 : stQ Q B p j * gonP Q B j p * 10 ^ (N - 1 - j) = 10 ^ (N - 1 - j) * (stQ Q B p j * gonP Q B j p) := Nat.mul_comm ..
  have e2 : 10 ^ N = 10 ^ (N - 1 - j) * 10 ^ (j + 1) := by
    rw [← Nat.pow_add]
    congr 1
    omega
  rw [e1, e2, redV_mul (p10_pos _)]
theorem c_findLeaving {n N B p d j : Nat} {r : Nat → Nat → Option Nat} {Q : AQ} {a : Nat → Nat → Int32} {b : Nat → Nat → Int64} {vj vp : Int32} (ej : vj = iN j) (ep : vp = iN p) (hj : j ≤ N) (hp : p < 4840) (hE : EnvC n r a N B Q) (hT : TabC b) : ∃ a' x y, Den (d+11) 31 0 [.ref 65, .int vj, .int vp, zmJ, zmJ, zmJ, zmJ] [] (zmMk n a b r) = some (none, zmMk n a' (uL (uL b 65 1 (jN (x / Nat.gcd x y))) 65 2 (jN (y / Nat.gcd x y))) r) ∧ frC a a' ∧ ∀ w, redV x y w = redV (lvQ Q B p N j) (10 ^ N) w := by
  subst ej ep
  have h8 := hE.n8
  have h16 : a 16 0 = iN N := hE.2.1
  have h31 : stQ Q B p 0 = 1 := rfl
  obtain ⟨a1, e1, f1⟩ := c_leaveLoop (d := d) hj hp j 0 a b (by omega) hE
  rw [h31, jN_1] at e1
  have hs := stQ_le Q B p j
  by_cases hjN : j < N
  · obtain ⟨a2, e2, f2⟩ := c_tenthsGone (d := d) (b := b) (hE.fr f1) (vt := iN j) (vp := iN p) rfl rfl (by omega) hp
    have hg := gonP_le hE.qb B j p
    have hx : stQ Q B p j * gonP Q B j p ≤ 10 ^ (j + 1) := by rw [Nat.pow_succ]; exact Nat.mul_le_mul hs hg
    have hp10 := p10_le (j := j + 1) (by omega)
    have hpp := p10_pos (j + 1)
    refine ⟨a2, stQ Q B p j * gonP Q B j p, 10 ^ (j + 1), ?_, f1.trans f2, redV_lv hjN⟩
    simp (disch := omega) only [b31_0, b57_0, h16, Option.bind_some, Option.toList_some, Option.toList_none, List.cons_append, List.nil_append, true_or, or_true, if_true, bI_if, b31_7, e1, b31_51, n_add, n_mul, n_in, decide_eq_true_eq, n_nat, n_lt, n_eq, n_sub, if_pos, if_neg, if_true, if_false, b31_56, e2, b31_68, c_tens hT, ten_N, l_of, l_mul, b31_76, c_set, b31_79, b31_92]
  · obtain rfl : j = N := by omega
    have hp10 := p10_le (j := j) (by omega)
    have hpp := p10_pos j
    refine ⟨a1, stQ Q B p j, 10 ^ j, ?_, f1, fun w => by unfold lvQ; rw [if_pos rfl]⟩
    simp (disch := omega) only [b31_0, b57_0, h16, Option.bind_some, Option.toList_some, Option.toList_none, List.cons_append, List.nil_append, true_or, or_true, if_true, bI_if, b31_7, e1, b31_51, n_add, n_mul, n_in, decide_eq_true_eq, n_nat, n_lt, n_eq, n_sub, if_pos, if_neg, if_true, if_false, b31_82, c_tens hT, ten_N, b31_89, c_set, b31_92]
