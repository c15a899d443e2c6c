/-! ===== how large a VALUE can be; the reference's rows ===== -/
theorem FF_bound {Q : AQ} (hB : QB Q) {B : Nat} {A : Nat → Nat → Nat} (m : Nat) : ∀ t p, ∃ z : Int, FF Q B A m t p 0 = Int64.ofInt z ∧ -(99 * ((100 ^ m : Nat) : Int)) ≤ z ∧ z ≤ 99 * ((100 ^ m : Nat) : Int) := by
  induction m with
  | zero =>
    intro t p
    have hv := hB.v t p 0
    have hm := hB.m t p 0
    by_cases hy : pY p = 0
    · refine ⟨Q (iN 118) t p 0, ?_, by omega, by omega⟩
      unfold FF
      rw [if_pos hy]
      unfold cV
      rw [if_pos rfl, Int64.one_mul, jN_ofI]
    · refine ⟨-(Q (iN 109) t p 0 : Int), ?_, by omega, by omega⟩
      unfold FF
      rw [if_neg hy]
      unfold mV
      rw [if_pos rfl, Int64.one_mul, jN_ofI, Int64.ofInt_neg]
  | succ m ih =>
    intro t p
    have hK : (100 ^ (m + 1) : Nat) = 100 * 100 ^ m := by rw [Nat.pow_succ, Nat.mul_comm]
    generalize hKK : (100 ^ m : Nat) = K at ih hK
    have hKi : ((100 ^ (m + 1) : Nat) : Int) = 100 * (K : Int) := by rw [hK, Int.natCast_mul]; rfl
    have hh : hun m = Int64.ofInt (K : Int) := by rw [hun_ofI, hKK]
    by_cases hy : pY p = 0
    · have hv := small99 (K := 100 ^ (m + 1)) (hB.v t p 0)
      refine ⟨((100 ^ (m + 1) : Nat) : Int) * Q (iN 118) t p 0, ?_, by omega, hv.2⟩
      unfold FF
      rw [if_pos hy]
      unfold cV
      rw [if_pos rfl, hun_ofI, jN_ofI, Int64.ofInt_mul]
    · by_cases hz : A t p = 0
      · have hv := small99 (K := 100 ^ (m + 1)) (hB.l t p 0)
        refine ⟨-(((100 ^ (m + 1) : Nat) : Int) * Q (iN 108) t p 0), ?_, by omega, by omega⟩
        unfold FF
        rw [if_neg hy, if_pos hz]
        unfold lV
        rw [if_pos rfl, hun_ofI, jN_ofI, Int64.ofInt_neg, Int64.ofInt_mul]
      · have arr : ∀ th, ∃ z : Int, arrF Q B (hun m) (FF Q B A m (t + 1)) t th 0 = Int64.ofInt z ∧ -(990 * (K : Int)) ≤ z ∧ z ≤ 990 * (K : Int) := by
          intro th
          by_cases hy1 : pY th = 0
          · have hv := small99 (K := K) (hB.v t th 0)
            refine ⟨10 * (K : Int) * Q (iN 118) t th 0, ?_, ?_, ?_⟩
            · unfold arrF
              rw [if_pos hy1]
              unfold cV
              rw [if_pos rfl, hh, jN_ofI, Int64.ofInt_mul, Int64.ofInt_mul]
              rfl
            · rw [Int.mul_assoc]; omega
            · rw [Int.mul_assoc]; omega
          · obtain ⟨z, hz1, hz2, hz3⟩ := ih (t + 1) th
            have hg := gonP_le hB B t th
            have hv := small99 (K := K) (hB.m t th 0)
            obtain ⟨b1, b2⟩ := mix10 hg (x := -((K : Int) * Q (iN 109) t th 0)) (y := z) (X := 99 * K) (by omega) (by omega)
            refine ⟨(gonP Q B t th : Int) * (-((K : Int) * Q (iN 109) t th 0)) + ((10 - gonP Q B t th : Nat) : Int) * z, ?_, by omega, by omega⟩
            unfold arrF
            rw [if_neg hy1]
            unfold mV
            rw [if_pos rfl, hh, hz1, jN_ofI, jN_ofI, jN_ofI, Int64.ofInt_add, Int64.ofInt_mul, Int64.ofInt_mul, Int64.ofInt_neg, Int64.ofInt_mul]
            rw [Int64.mul_neg, Int64.mul_assoc]
        obtain ⟨z1, e1, b1, b2⟩ := arr (asP (behP Q t p (A t p)) 1)
        obtain ⟨z0, e0, b3, b4⟩ := arr (asP (behP Q t p (A t p)) 0)
        have hs := senP_le hB t p (A t p)
        obtain ⟨c1, c2⟩ := mix10 hs (x := z1) (y := z0) (X := 990 * K) ⟨b1, b2⟩ ⟨b3, b4⟩
        refine ⟨(senP Q t p (A t p) : Int) * z1 + ((10 - senP Q t p (A t p) : Nat) : Int) * z0, ?_, by omega, by omega⟩
        unfold FF
        rw [if_neg hy, if_neg hz, e1, e0, jN_ofI, jN_ofI, Int64.ofInt_add, Int64.ofInt_mul, Int64.ofInt_mul]
theorem val_big {Q : AQ} (hB : QB Q) {B N p x : Nat} (hN : N ≤ 4) : (-2000000000000000000 : Int64) < valR Q B N p x := by
  obtain ⟨z, h1, h2, h3⟩ := FF_bound hB (B := B) (A := arow Q (rowOf N x)) N 0 p
  have hp : (100 ^ N : Nat) ≤ 100000000 := Nat.pow_le_pow_right (show 0 < 100 by omega) hN
  have hp2 : ((100 ^ N : Nat) : Int) ≤ 100000000 := by
    have := Int.ofNat_le.mpr hp
    exact this
  unfold valR
  rw [h1, Int64.lt_iff_toInt_lt, Int64.toInt_ofInt_of_le (by omega) (by omega)]
  have e1 : (-2000000000000000000 : Int64).toInt = -2000000000000000000 := by decide
  rw [e1]
  omega
theorem m_actionBy {d g : Nat} {n : Nat} {a : Nat → Nat → Int32} {b : Nat → Nat → Int64} {r : Nat → Nat → Option Nat} (h : g < 7) : Den (d) 232 0 [.int (iN g)] [] (zmMk n a b r) = some (some (.int (iN (actBy g))), (zmMk n a b r)) := by
  unfold actBy
  by_cases h4 : g < 4
  · rw [if_pos h4]
    simp (disch := omega) only [b232_0, b232_5, b232_9, b232_12, n_add, n_mul, n_in, decide_eq_true_eq, n_nat, n_lt, n_eq, n_sub, if_pos, if_neg, if_true, if_false]
  · rw [if_neg h4]
    simp (disch := omega) only [b232_0, b232_5, b232_9, b232_12, n_add, n_mul, n_in, decide_eq_true_eq, n_nat, n_lt, n_eq, n_sub, if_pos, if_neg, if_true, if_false]
theorem m_readsLoop {n N x d : Nat} {r : Nat → Nat → Option Nat} (hN : N ≤ 4) (hx : x < 10000) (k : Nat) : ∀ (a : Nat → Nat → Int32) (b : Nat → Nat → Int64) (v3 : Int32), k ≤ N → v3 = iN k - iN 1 → (∀ j, k ≤ j → j < N → a 119 j = iN (rowOf N x j)) → ∃ a', Den (d+1) 233 9 [.ref 94,.int (iN x),.int (iN (x / 7 ^ (N - k))),.int v3] [] (zmMk n a b r) = some (none, zmMk n a' b r) ∧ (∀ j, j < N → a' 119 j = iN (rowOf N x j)) ∧ ∀ q, q ≠ 119 → a' q = a q := by
  induction k with
  | zero =>
    intro a b v3 hk e hj
    subst e
    refine ⟨a, ?_, fun j h => hj j (by omega) h, fun _ _ => rfl⟩
    have h2 : (iN 0 - iN 1 < iN 0) = True := eq_true (by decide)
    simp only [b233_9, h2, if_true, b233_37]
  | succ k ih =>
    intro a b v3 hk e hj
    subst e
    have h7 := seven_pos (N - (k + 1))
    have hdiv : x / 7 ^ (N - (k + 1)) < 10000 := Nat.lt_of_le_of_lt (Nat.div_le_self _ _) hx
    have hmod := Nat.mod_lt (x / 7 ^ (N - (k + 1))) (show 7 > 0 by omega)
    have er : rowOf N x k = actBy (x / 7 ^ (N - (k + 1)) % 7) := by
      unfold rowOf
      rw [show N - 1 - k = N - (k + 1) by omega]
    have e7 : x / 7 ^ (N - k) = x / 7 ^ (N - (k + 1)) / 7 := by
      rw [Nat.div_div_eq_div_mul, ← Nat.pow_succ]
      congr 2
      omega
    obtain ⟨a1, e1, h1, o1⟩ := ih (uI a 119 k (iN (rowOf N x k))) b (iN k - iN 1) (by omega) rfl (fun j h1 h2 => by
      rw [uI_at]
      by_cases h : j = k
      · rw [if_pos ⟨rfl, h⟩, h]
      · rw [if_neg (fun q => h q.2)]
        exact hj j (by omega) h2)
    refine ⟨a1, ?_, h1, fun q hq => ?_⟩
    · have es : iN (k + 1) - iN 1 = iN k := by rw [n_sub (by omega)]; rfl
      have em : iN k + -1 = iN k - iN 1 := by rw [Int32.sub_eq_add_neg]; rfl
      have hrem : iN (x / 7 ^ (N - (k + 1))) - iN (x / 7 ^ (N - (k + 1))) / iN 7 * iN 7 = iN (x / 7 ^ (N - (k + 1)) % 7) := n_rem (by omega) (by omega)
      have hdv : iN (x / 7 ^ (N - (k + 1))) / iN 7 = iN (x / 7 ^ (N - (k + 1)) / 7) := n_div (by omega) (by omega)
      have hkz : (iN k < iN 0) = False := n_not_neg (by omega)
      have hin : (zmIn (iN k) 4 = true) = True := by rw [n_in (by omega)]; exact eq_true (decide_eq_true (by omega))
      have step : Den (d+1) 233 9 [.ref 94,.int (iN x),.int (iN (x / 7 ^ (N - (k + 1)))),.int (iN k)] [] (zmMk n a b r) = Den (d+1) 233 26 [.ref 94,.int (iN x),.int (iN (x / 7 ^ (N - (k + 1)))),.int (iN k)] [] (zmMk n (uI a 119 k (iN (actBy (x / 7 ^ (N - (k + 1)) % 7)))) b r) := by
        simp only [b233_9, hkz, if_false, b233_13, hrem, m_actionBy hmod, Option.bind_some, Option.toList_some, Option.toList_none, List.cons_append, List.nil_append, true_or, or_true, if_true, bI_if, b233_25, hin, n_nat (show k < 2147483648 by omega)]
      rw [er, e7] at e1
      rw [es, step, b233_26, hdv, em]
      exact e1
    · rw [o1 q hq]
      funext j
      rw [uI_at, if_neg (fun z => hq z.1)]
theorem m_readsRow {n N x d : Nat} {r : Nat → Nat → Option Nat} {a : Nat → Nat → Int32} {b : Nat → Nat → Int64} (hN : N ≤ 4) (hx : x < 10000) (h94 : a 94 0 = iN N) : ∃ a', Den (d+1) 233 0 [.ref 94, .int (iN x), zmJ, zmJ] [] (zmMk n a b r) = some (none, zmMk n a' b r) ∧ (∀ j, j < N → a' 119 j = iN (rowOf N x j)) ∧ ∀ q, q ≠ 119 → a' q = a q := by
  obtain ⟨a1, e1, h1, o1⟩ := m_readsLoop (n := n) (d := d) (r := r) hN hx N a b (iN N - iN 1) (Nat.le_refl _) rfl (fun j h1 h2 => absurd h1 (by omega))
  rw [Nat.sub_self, Nat.pow_zero, Nat.div_one] at e1
  refine ⟨a1, ?_, h1, o1⟩
  simp only [b233_0, h94, e1]
theorem m_actRow {n N B : Nat} {r : Nat → Nat → Option Nat} {Q : AQ} {a : Nat → Nat → Int32} {x : Nat} (hN : N ≤ 4) (hE : EnvM n r a N B Q) (h42 : a 94 42 = -1) (hr : ∀ j, j < N → a 119 j = iN (rowOf N x j)) : ActM n r a N (arow Q (rowOf N x)) := by
  intro d a1 b vt vp t p hag h42a h119 et ep ht hp
  subst et ep
  have h42' : a1 94 42 = -1 := h42a.trans h42
  have hrow : a1 119 t = iN (rowOf N x t) := by rw [h119]; exact hr t ht
  have hlt : rowOf N x t < 8 ∧ rowOf N x t ≠ 4 := ⟨rowOf_lt N x t, actBy_ne _⟩
  obtain ⟨a2, e2, f2⟩ := m_mayBe (d := d+2) (b := b) (hE.ag hag) (vt := iN t) (vp := iN p) (va := iN (rowOf N x t)) rfl rfl rfl (by omega) hp hlt
  refine ⟨a2, ?_, f2⟩
  have hrow2 : a2 119 t = iN (rowOf N x t) := by rw [f2 119 rfl]; exact hrow
  unfold arow
  by_cases hm : rowOf N x t = 0 ∨ Q (iN 119) t p (rowOf N x t) ≤ pB p
  · rw [decide_eq_true hm] at e2
    simp (disch := omega) only [b225_0, h42', if_true, b225_19, n_add, n_mul, n_in, decide_eq_true_eq, n_nat, n_lt, n_eq, n_sub, if_pos, if_neg, if_true, if_false, hrow, b225_28, e2, Option.bind_some, Option.toList_some, Option.toList_none, List.cons_append, List.nil_append, true_or, or_true, if_true, bI_if, b225_31, b225_34, hrow2, b225_40, b225_44]
    by_cases h0 : rowOf N x t = 0
    · rw [if_neg (fun q => q.1 h0), h0]
    · rw [if_pos ⟨h0, hm.resolve_left h0⟩]
  · rw [decide_eq_false hm] at e2
    simp (disch := omega) only [b225_0, h42', if_true, b225_19, n_add, n_mul, n_in, decide_eq_true_eq, n_nat, n_lt, n_eq, n_sub, if_pos, if_neg, if_true, if_false, hrow, b225_28, e2, Option.bind_some, Option.toList_some, Option.toList_none, List.cons_append, List.nil_append, true_or, or_true, if_true, bI_if, b225_31, Bool.false_eq_true, b225_43, b225_44]
