/-! ===== longs; hundreds ===== -/
def jN (k : Nat) : Int64 := Int64.ofNat k
theorem l_toI {k : Nat} (h : k < 9223372036854775808) : (jN k).toInt = k := Int64.toInt_ofNat_of_lt h
theorem l_of {k : Nat} (h : k < 2147483648) : Int32.toInt64 (iN k) = jN k := by
  apply Int64.toInt_inj.mp
  rw [Int32.toInt_toInt64, n_toI h, l_toI (by omega)]
theorem l_ofn {k : Nat} (h : k < 2147483648) : Int32.toInt64 (-(iN k)) = -(jN k) := by
  have e1 : -(iN k) = Int32.ofInt (-(k : Int)) := by
    rw [Int32.ofInt_neg, Int32.ofInt_eq_ofNat]; rfl
  have e2 : -(jN k) = Int64.ofInt (-(k : Int)) := by
    rw [Int64.ofInt_neg, Int64.ofInt_eq_ofNat]; rfl
  apply Int64.toInt_inj.mp
  rw [Int32.toInt_toInt64, e1, e2, Int32.toInt_ofInt_of_le (by omega) (by omega), Int64.toInt_ofInt_of_le (by omega) (by omega)]
theorem l_add (i j : Nat) : jN i + jN j = jN (i + j) := (Int64.ofNat_add i j).symm
theorem l_mul (i j : Nat) : jN i * jN j = jN (i * j) := (Int64.ofNat_mul i j).symm
theorem l_lt {i j : Nat} (hi : i < 9223372036854775808) (hj : j < 9223372036854775808) : (jN i < jN j) = (i < j) := propext (Int64.ofNat_lt_iff_lt hi hj)
theorem l_eq {i j : Nat} (hi : i < 9223372036854775808) (hj : j < 9223372036854775808) : (jN i = jN j) = (i = j) := by
  refine propext ⟨fun h => ?_, fun h => by rw [h]⟩
  have h2 := congrArg Int64.toInt h
  rw [l_toI hi, l_toI hj] at h2
  exact Int.ofNat_inj.mp h2
theorem jN_0 : jN 0 = 0 := rfl
theorem jN_1 : jN 1 = 1 := rfl
theorem jN_10 : jN 10 = 10 := rfl
theorem l_pos {i : Nat} (hi : i < 9223372036854775808) : ((0 : Int64) < jN i) = (0 < i) := by
  rw [← jN_0, l_lt (by decide) hi]
theorem l_eq0 {i : Nat} (hi : i < 9223372036854775808) : (jN i = (0 : Int64)) = (i = 0) := by
  rw [← jN_0, l_eq hi (by decide)]
theorem l_irr (x : Int64) : ¬ x < x := Int64.lt_irrefl
theorem cmp_pos (x y : Int64) : (iN 0 < lg_cmp x y) = (y < x) := by
  unfold lg_cmp
  by_cases h : x > y
  · rw [if_pos h]; exact propext ⟨fun _ => h, fun _ => by decide⟩
  · rw [if_neg h]
    split
    · exact propext ⟨fun q => absurd q (by decide), fun q => absurd q h⟩
    · exact propext ⟨fun q => absurd q (by decide), fun q => absurd q h⟩
theorem cmp_0 (x y : Int64) : (lg_cmp x y = iN 0) = (x = y) := by
  unfold lg_cmp
  by_cases h : x > y
  · rw [if_pos h]; exact propext ⟨fun q => absurd q (by decide), fun q => by rw [q] at h; exact absurd h (l_irr y)⟩
  · rw [if_neg h]
    by_cases h2 : x = y
    · rw [if_pos h2]; exact propext ⟨fun _ => h2, fun _ => rfl⟩
    · rw [if_neg h2]; exact propext ⟨fun q => absurd q (by decide), fun q => absurd q h2⟩
theorem cmp_neg (x y : Int64) : (lg_cmp x y < iN 0) = (x < y) := by
  unfold lg_cmp
  by_cases h : x > y
  · rw [if_pos h]
    refine propext ⟨fun q => absurd q (by decide), fun q => ?_⟩
    rw [gt_iff_lt, Int64.lt_iff_toInt_lt] at h
    rw [Int64.lt_iff_toInt_lt] at q
    omega
  · rw [if_neg h]
    by_cases h2 : x = y
    · rw [if_pos h2]; exact propext ⟨fun q => absurd q (by decide), fun q => by rw [h2] at q; exact absurd q (l_irr y)⟩
    · rw [if_neg h2]
      refine propext ⟨fun _ => ?_, fun _ => by decide⟩
      rw [gt_iff_lt, Int64.lt_iff_toInt_lt] at h
      rw [← Int64.toInt_inj] at h2
      rw [Int64.lt_iff_toInt_lt]
      omega
def hun : Nat → Int64
  | 0 => 1
  | k + 1 => hun k * 100
def ten : Nat → Int64
  | 0 => 1
  | k + 1 => ten k * 10
def TabC (b : Nat → Nat → Int64) : Prop := (∀ j, j < 9 → b 2 j = hun j) ∧ ∀ j, j < 9 → b 3 j = ten j
theorem TabC.fr {b b' : Nat → Nat → Int64} (h : TabC b) (h2 : b' 2 = b 2) (h3 : b' 3 = b 3) : TabC b' := by
  unfold TabC
  rw [h2, h3]
  exact h
theorem c_hundreds {d k : Nat} {n : Nat} {a : Nat → Nat → Int32} {b : Nat → Nat → Int64} {r : Nat → Nat → Option Nat} (hb : TabC b) (hk : k < 9) : Den (d) 142 0 [.int (iN k)] [] (zmMk n a b r) = some (some (.long (hun k)), (zmMk n a b r)) := by
  simp (disch := omega) only [b142_0, b142_4, b142_12, b142_20, b142_21, b142_17, n_lt, n_in, n_nat, hb.1 k hk, decide_true, if_true, hk, Nat.not_lt_zero, if_false]
theorem c_tens {d k : Nat} {n : Nat} {a : Nat → Nat → Int32} {b : Nat → Nat → Int64} {r : Nat → Nat → Option Nat} (hb : TabC b) (hk : k < 9) : Den (d) 143 0 [.int (iN k)] [] (zmMk n a b r) = some (some (.long (ten k)), (zmMk n a b r)) := by
  simp (disch := omega) only [b143_0, b143_4, b143_12, b143_20, b143_21, b143_17, n_lt, n_in, n_nat, hb.2 k hk, decide_true, if_true, hk, Nat.not_lt_zero, if_false]
theorem m_hundreds {d k : Nat} {n : Nat} {a : Nat → Nat → Int32} {b : Nat → Nat → Int64} {r : Nat → Nat → Option Nat} (hk : k < 1000) : Den (d) 154 0 [.int (iN k), zmJ, zmJ, zmJ] [] (zmMk n a b r) = some (some (.long (hun k)), (zmMk n a b r)) := by
  have key : ∀ j i, i + j = k → Den d 154 4 [.int (iN k), .long (hun i), zmJ, .int (iN i)] [] (zmMk n a b r) = some (some (.long (hun k)), (zmMk n a b r)) := by
    intro j
    induction j with
    | zero =>
      intro i hi
      simp (disch := omega) only [b154_4, n_lt]
      rw [if_neg (by omega), b154_21, show i = k by omega]
    | succ j ih =>
      intro i hi
      simp (disch := omega) only [b154_4, n_lt]
      rw [if_pos (by omega), b154_9, n_add]
      exact ih (i + 1) (by omega)
  rw [b154_0]
  exact key k 0 (by omega)
theorem l_rea (x y z : Int64) : x - y + z = x + (-y + z) := by grind
