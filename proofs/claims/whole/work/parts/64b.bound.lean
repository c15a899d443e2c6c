/-! ===== how large a VALUE of BEST can be ===== -/
theorem jN_ofI (k : Nat) : jN k = Int64.ofInt k := (Int64.ofInt_eq_ofNat (n := k)).symm
theorem hun_ofI (m : Nat) : hun m = Int64.ofInt ((100 ^ m : Nat) : Int) := by
  induction m with
  | zero => rfl
  | succ m ih =>
    show hun m * 100 = _
    rw [ih, Nat.pow_succ, Int.natCast_mul, Int64.ofInt_mul]
    rfl
theorem mix10 {s : Nat} (hs : s ≤ 10) {x y X : Int} (h1 : -X ≤ x ∧ x ≤ X) (h2 : -X ≤ y ∧ y ≤ X) : -(10 * X) ≤ (s : Int) * x + ((10 - s : Nat) : Int) * y ∧ (s : Int) * x + ((10 - s : Nat) : Int) * y ≤ 10 * X := by
  rcases (by omega : s = 0 ∨ s = 1 ∨ s = 2 ∨ s = 3 ∨ s = 4 ∨ s = 5 ∨ s = 6 ∨ s = 7 ∨ s = 8 ∨ s = 9 ∨ s = 10) with rfl | rfl | rfl | rfl | rfl | rfl | rfl | rfl | rfl | rfl | rfl <;> omega
theorem small99 {v K : Nat} (hv : v ≤ 99) : (0 : Int) ≤ (K : Int) * v ∧ (K : Int) * v ≤ 99 * K := by
  have h : K * v ≤ K * 99 := Nat.mul_le_mul_left K hv
  constructor
  · exact Int.mul_nonneg (Int.natCast_nonneg _) (Int.natCast_nonneg _)
  · have h2 : ((K * v : Nat) : Int) ≤ ((K * 99 : Nat) : Int) := Int.ofNat_le.mpr h
    rw [Int.natCast_mul, Int.natCast_mul] at h2
    omega
theorem part_bound {Q : AQ} (hB : QB Q) {B m K : Nat} (hh : hun m = Int64.ofInt (K : Int)) {F : Nat → Int64} (hF : ∀ p, ∃ z : Int, F p = Int64.ofInt z ∧ -(99 * (K : Int)) ≤ z ∧ z ≤ 99 * (K : Int)) (t nx s sn : Nat) : ∃ z : Int, partV Q B (hun m) F t nx s sn = Int64.ofInt (((if sn = 1 then s else 10 - s : Nat) : Int) * z) ∧ -(990 * (K : Int)) ≤ z ∧ z ≤ 990 * (K : Int) := by
  unfold partV
  generalize (if sn = 1 then s else 10 - s) = c
  by_cases h0 : c = 0
  · refine ⟨0, ?_, by omega, by omega⟩
    rw [if_pos h0, Int.mul_zero]
    rfl
  · rw [if_neg h0]
    by_cases hy : pY (asP nx sn) = 0
    · have hv := small99 (K := K) (hB.v t (asP nx sn) 0)
      refine ⟨10 * ((K : Int) * Q (iN 118) t (asP nx sn) 0), ?_, by omega, by omega⟩
      have e10 : (10 : Int64) = Int64.ofInt 10 := rfl
      rw [if_pos hy, hh, jN_ofI, jN_ofI, Int64.ofInt_mul, Int64.ofInt_mul, Int64.ofInt_mul, e10]
      generalize Int64.ofInt 10 = x
      generalize Int64.ofInt (c : Int) = y
      generalize Int64.ofInt (K : Int) = w
      grind
    · obtain ⟨z, hz1, hz2, hz3⟩ := hF (asP nx sn)
      have hg := gonP_le hB B t (asP nx sn)
      have hv := small99 (K := K) (hB.m t (asP nx sn) 0)
      obtain ⟨b1, b2⟩ := mix10 hg (x := -((K : Int) * Q (iN 109) t (asP nx sn) 0)) (y := z) (X := 99 * K) (by omega) (by omega)
      refine ⟨(gonP Q B t (asP nx sn) : Int) * (-((K : Int) * Q (iN 109) t (asP nx sn) 0)) + ((10 - gonP Q B t (asP nx sn) : Nat) : Int) * z, ?_, by omega, by omega⟩
      rw [if_neg hy, hh, hz1, jN_ofI, jN_ofI, jN_ofI, jN_ofI, Int64.ofInt_mul, Int64.ofInt_add, Int64.ofInt_mul, Int64.ofInt_mul, Int64.ofInt_neg, Int64.ofInt_mul]
      generalize Int64.ofInt (c : Int) = y
      generalize Int64.ofInt (K : Int) = w
      generalize Int64.ofInt z = x
      grind
theorem worth_bound {Q : AQ} (hB : QB Q) {B m K : Nat} (hh : hun m = Int64.ofInt (K : Int)) {F : Nat → Int64} (hF : ∀ p, ∃ z : Int, F p = Int64.ofInt z ∧ -(99 * (K : Int)) ≤ z ∧ z ≤ 99 * (K : Int)) (t p act : Nat) : ∃ z : Int, worthV Q B (hun m) F t p act = Int64.ofInt z ∧ -(9900 * (K : Int)) ≤ z ∧ z ≤ 9900 * (K : Int) := by
  unfold worthV
  by_cases h0 : act = 0
  · have hv := small99 (K := K) (hB.l t p 0)
    refine ⟨-(100 * ((K : Int) * Q (iN 108) t p 0)), ?_, by omega, by omega⟩
    have e100 : (-100 : Int64) = -(Int64.ofInt 100) := rfl
    rw [if_pos h0, hh, jN_ofI, Int64.ofInt_neg, Int64.ofInt_mul, Int64.ofInt_mul, e100]
    generalize Int64.ofInt 100 = x
    generalize Int64.ofInt (K : Int) = w
    grind
  · obtain ⟨z0, e0, b1, b2⟩ := part_bound (B := B) hB hh hF t (behP Q t p act) (senP Q t p act) 0
    obtain ⟨z1, e1, b3, b4⟩ := part_bound (B := B) hB hh hF t (behP Q t p act) (senP Q t p act) 1
    have hs := senP_le hB t p act
    obtain ⟨c1, c2⟩ := mix10 hs (x := z1) (y := z0) (X := 990 * K) ⟨b3, b4⟩ ⟨b1, b2⟩
    refine ⟨(senP Q t p act : Int) * z1 + ((10 - senP Q t p act : Nat) : Int) * z0, ?_, by omega, by omega⟩
    rw [if_neg h0, e0, e1, if_neg (show ¬ (0 : Nat) = 1 by decide), if_pos (show (1 : Nat) = 1 from rfl), Int64.ofInt_add, Int64.zero_add, Int64.add_comm]
theorem foldB_bound {Q : AQ} (hB : QB Q) {B m K : Nat} (hh : hun m = Int64.ofInt (K : Int)) {F : Nat → Int64} (hF : ∀ p, ∃ z : Int, F p = Int64.ofInt z ∧ -(99 * (K : Int)) ≤ z ∧ z ≤ 99 * (K : Int)) (nw : Bool) (t p j : Nat) : ∃ z : Int, (foldB Q B nw (hun m) F t p j).1 = Int64.ofInt z ∧ -(9900 * (K : Int)) ≤ z ∧ z ≤ 9900 * (K : Int) := by
  induction j with
  | zero => exact worth_bound (B := B) hB hh hF t p 0
  | succ j ih =>
    show ∃ z : Int, (stepB Q B nw (hun m) F t p (foldB Q B nw (hun m) F t p j) (j + 1)).1 = Int64.ofInt z ∧ _
    unfold stepB
    split
    · exact worth_bound (B := B) hB hh hF t p (j + 1)
    · exact ih
theorem VB_bound {Q : AQ} (hB : QB Q) (B : Nat) (nw : Bool) (m : Nat) : ∀ t p, ∃ z : Int, VB Q B nw m t p = Int64.ofInt z ∧ -(99 * ((100 ^ m : Nat) : Int)) ≤ z ∧ z ≤ 99 * ((100 ^ m : Nat) : Int) := by
  induction m with
  | zero =>
    intro t p
    have hv := hB.v t p 0
    have hm := hB.m t p 0
    unfold VB
    by_cases hy : pY p = 0
    · exact ⟨Q (iN 118) t p 0, by rw [if_pos hy, jN_ofI], by omega, by omega⟩
    · exact ⟨-(Q (iN 109) t p 0 : Int), by rw [if_neg hy, jN_ofI, Int64.ofInt_neg], by omega, by omega⟩
  | succ m ih =>
    intro t p
    have hK : (100 ^ (m + 1) : Nat) = 100 * 100 ^ m := by rw [Nat.pow_succ, Nat.mul_comm]
    have hKi : ((100 ^ (m + 1) : Nat) : Int) = 100 * ((100 ^ m : Nat) : Int) := by rw [hK, Int.natCast_mul]; rfl
    unfold VB
    by_cases hy : pY p = 0
    · have hv := small99 (K := 100 ^ (m + 1)) (hB.v t p 0)
      refine ⟨((100 ^ (m + 1) : Nat) : Int) * Q (iN 118) t p 0, ?_, by omega, hv.2⟩
      rw [if_pos hy, hun_ofI, jN_ofI, Int64.ofInt_mul, Int64.mul_comm]
    · obtain ⟨z, h1, h2, h3⟩ := foldB_bound hB (hun_ofI m) (ih (t + 1)) (B := B) nw t p 7
      exact ⟨z, by rw [if_neg hy, h1], by omega, by omega⟩
theorem foldB_big {Q : AQ} (hB : QB Q) (B : Nat) (nw : Bool) {m : Nat} (hm : m ≤ 7) (t p j : Nat) : (-2000000000000000000 : Int64) < (foldB Q B nw (hun m) (VB Q B nw m (t + 1)) t p j).1 := by
  obtain ⟨z, h1, h2, h3⟩ := foldB_bound (B := B) hB (hun_ofI m) (VB_bound hB B nw m (t + 1)) nw t p j
  have hp : (100 ^ m : Nat) ≤ 100000000000000 := Nat.pow_le_pow_right (show 0 < 100 by omega) hm
  have hp2 : ((100 ^ m : Nat) : Int) ≤ 100000000000000 := by
    have := Int.ofNat_le.mpr hp
    exact this
  rw [h1, Int64.lt_iff_toInt_lt, Int64.toInt_ofInt_of_le (by omega) (by omega)]
  have e1 : (-2000000000000000000 : Int64).toInt = -2000000000000000000 := by decide
  rw [e1]
  omega
