/-! ===== questions: fits ===== -/
theorem lay69 : zmLay 69 = (20, 16) := by decide +kernel
/-- the digits of a number -/
def dg (K V j : Nat) : Nat := V / K ^ j % K
theorem dg_step {K V f j : Nat} (hK : 0 < K) : (dg K V j * f + V % K ^ j * f / K ^ j) % K = dg K (V * f) j ∧ (dg K V j * f + V % K ^ j * f / K ^ j) / K = V % K ^ (j + 1) * f / K ^ (j + 1) := by
  have hKj : 0 < K ^ j := Nat.pow_pos hK
  have hw : dg K V j * f + V % K ^ j * f / K ^ j = V % K ^ (j + 1) * f / K ^ j := by
    rw [Nat.mod_pow_succ, Nat.add_mul, Nat.mul_assoc, Nat.add_mul_div_left _ _ hKj, Nat.add_comm]
    rfl
  rw [hw]
  constructor
  · unfold dg
    have hV : V * f = V % K ^ (j + 1) * f + K ^ j * (K * (V / K ^ (j + 1) * f)) := by
      have h := Nat.mod_add_div V (K ^ (j + 1))
      have h2 : K ^ (j + 1) * (V / K ^ (j + 1)) * f = K ^ j * (K * (V / K ^ (j + 1) * f)) := by rw [Nat.pow_succ]; simp only [Nat.mul_assoc]
      rw [← h2, ← Nat.add_mul, h]
    rw [hV, Nat.add_mul_div_left _ _ hKj, Nat.add_mul_mod_self_left]
  · rw [Nat.div_div_eq_div_mul, ← Nat.pow_succ]
theorem dg_carry {K V f j : Nat} (hK : 0 < K) : V % K ^ j * f / K ^ j ≤ f := Nat.div_le_of_le_mul (Nat.mul_le_mul_right f (Nat.le_of_lt (Nat.mod_lt _ (Nat.pow_pos hK))))
theorem dg_lt {K V j : Nat} (hK : 0 < K) : dg K V j < K := Nat.mod_lt _ hK
theorem dg_one {K j : Nat} (hK : 1 < K) : dg K 1 j = if j = 0 then 1 else 0 := by
  unfold dg
  cases j with
  | zero => rw [if_pos rfl, Nat.pow_zero, Nat.div_one, Nat.mod_eq_of_lt hK]
  | succ j => rw [if_neg (by omega), Nat.div_eq_of_lt (Nat.one_lt_pow (by omega) hK), Nat.zero_mod]
theorem dg_cmp {K V W j : Nat} (h : V / K ^ (j + 1) = W / K ^ (j + 1)) : (dg K V j = dg K W j → V / K ^ j = W / K ^ j) ∧ (dg K V j < dg K W j → V < W) := by
  have h1 : V / K ^ j / K = W / K ^ j / K := by rw [Nat.div_div_eq_div_mul, Nat.div_div_eq_div_mul, ← Nat.pow_succ]; exact h
  have e1 := Nat.div_add_mod (V / K ^ j) K
  have e2 := Nat.div_add_mod (W / K ^ j) K
  unfold dg
  rw [h1] at e1
  constructor
  · intro e
    rw [e] at e1
    exact e1.symm.trans e2
  · intro e
    have h3 : V / K ^ j < W / K ^ j := by omega
    exact Nat.lt_of_not_le (fun hh => absurd (Nat.div_le_div_right (c := K ^ j) hh) (by omega))
def ordV (V W : Nat) : Int32 := if V < W then -1 else if V = W then iN 0 else iN 1
theorem c_compare {d : Nat} {n : Nat} {a : Nat → Nat → Int32} {b : Nat → Nat → Int64} {r : Nat → Nat → Option Nat} {x y : Int32} : Den (d) 272 0 [.int x, .int y] [] (zmMk n a b r) = some (some (.int (if x < y then -1 else if x = y then iN 0 else iN 1)), (zmMk n a b r)) := by
  rw [b272_0]
  by_cases h : x < y
  · rw [if_pos h, if_pos h, b272_5, b272_19]
  · rw [if_neg h, if_neg h, b272_9]
    by_cases h2 : x = y
    · rw [if_pos h2, if_pos h2, b272_14, b272_19]
    · rw [if_neg h2, if_neg h2, b272_18, b272_19]
/-- how likely THE BOOK is by a guess -/
def prdV (G : Nat → Nat) (s z : Nat) : Nat := 1 * s ^ G 1 * (10 - s) ^ (G 0 - G 1) * z ^ G 3 * (10 - z) ^ (G 2 - G 3)
theorem prdV_lt {G : Nat → Nat} {s z : Nat} (hG : G 0 + G 2 ≤ 60 ∧ G 1 ≤ G 0 ∧ G 3 ≤ G 2) (hs : s ≤ 10) (hz : z ≤ 10) : prdV G s z < 10 ^ 64 := by
  obtain ⟨h1, h2, h3⟩ := hG
  have p1 : s ^ G 1 ≤ 10 ^ G 1 := Nat.pow_le_pow_left hs _
  have p2 : (10 - s) ^ (G 0 - G 1) ≤ 10 ^ (G 0 - G 1) := Nat.pow_le_pow_left (by omega) _
  have p3 : z ^ G 3 ≤ 10 ^ G 3 := Nat.pow_le_pow_left hz _
  have p4 : (10 - z) ^ (G 2 - G 3) ≤ 10 ^ (G 2 - G 3) := Nat.pow_le_pow_left (by omega) _
  have q : prdV G s z ≤ 1 * 10 ^ G 1 * 10 ^ (G 0 - G 1) * 10 ^ G 3 * 10 ^ (G 2 - G 3) := Nat.mul_le_mul (Nat.mul_le_mul (Nat.mul_le_mul (Nat.mul_le_mul (Nat.le_refl _) p1) p2) p3) p4
  rw [Nat.one_mul, ← Nat.pow_add, ← Nat.pow_add, ← Nat.pow_add] at q
  exact Nat.lt_of_le_of_lt q (Nat.pow_lt_pow_right (by omega) (by omega))
theorem mulL_50f {d V f n : Nat} {b : Nat → Nat → Int64} {r : Nat → Nat → Option Nat} {v2 v3 : Int32} (hf : f ≤ 10) (k : Nat) : ∀ (j : Nat) (u6 : Value) (a : Nat → Nat → Int32), j + k = 16 → (∀ i, i < 16 → a 67 i = iN (if i < j then dg 10000 (V * f) i else dg 10000 V i)) → ∃ (v4 : Int32) (u6' : Value) (a' : Nat → Nat → Int32), Den d 50 19 [.ref 66,.int (iN f),.int v2,.int v3,.int (iN (V % 10000 ^ j * f / 10000 ^ j)),.int (iN j),u6] [] (zmMk n a b r) = Den d 50 70 [.ref 66,.int (iN f),.int v2,.int v3,.int v4,.int (iN 16),u6'] [] (zmMk n a' b r) ∧ (∀ i, i < 16 → a' 67 i = iN (dg 10000 (V * f) i)) ∧ ∀ q, q ≠ 67 → a' q = a q := by
  induction k with
  | zero =>
    intro j u6 a hj ha
    obtain rfl : j = 16 := by omega
    refine ⟨iN (V % 10000 ^ 16 * f / 10000 ^ 16), u6, a, ?_, fun i hi => by rw [ha i hi, if_pos hi], fun _ _ => rfl⟩
    rw [b50f_19, if_neg (by rw [n_lt (by omega) (by omega)]; omega)]
  | succ k ih =>
    intro j u6 a hj ha
    have hc := dg_carry (K := 10000) (V := V) (f := f) (j := j) (by omega)
    have hd := dg_lt (K := 10000) (V := V) (j := j) (by omega)
    have hdf : dg 10000 V j * f ≤ dg 10000 V j * 10 := Nat.mul_le_mul_left _ hf
    obtain ⟨t1, t2⟩ := dg_step (K := 10000) (V := V) (f := f) (j := j) (by omega)
    have hin : zmIn (iN j) 16 = true := by rw [n_in (by omega)]; exact decide_eq_true (by omega)
    have haj : a 67 j = iN (dg 10000 V j) := by rw [ha j (by omega), if_neg (by omega)]
    generalize hw : dg 10000 V j * f + V % 10000 ^ j * f / 10000 ^ j = w at t1 t2
    have hw2 : w < 200000 := by omega
    obtain ⟨v4, u6', a', e1, h1, o1⟩ := ih (j + 1) (.int (iN w)) (uI a 67 j (iN (dg 10000 (V * f) j))) (by omega) (fun i hi => by
      rw [uI_at]
      by_cases hij : i = j
      · rw [if_pos ⟨rfl, hij⟩, hij, if_pos (by omega)]
      · rw [if_neg (fun z => hij z.2), ha i hi]
        by_cases h2 : i < j
        · rw [if_pos h2, if_pos (by omega)]
        · rw [if_neg h2, if_neg (by omega)])
    refine ⟨v4, u6', a', ?_, h1, fun q hq => by
      rw [o1 q hq]
      funext z
      rw [uI_at, if_neg (fun e => hq e.1)]⟩
    have hwi : iN (dg 10000 V j) * iN f + iN (V % 10000 ^ j * f / 10000 ^ j) = iN w := by rw [n_mul, n_add, hw]
    have hrem : iN w - iN w / iN 10000 * iN 10000 = iN (w % 10000) := n_rem (by omega) (by omega)
    have hdiv : iN w / iN 10000 = iN (w / 10000) := n_div (by omega) (by omega)
    rw [b50f_19, if_pos (by rw [n_lt (by omega) (by omega)]; omega), b50f_29, if_pos hin, n_nat (by omega), haj, b50f_36, if_pos hin, n_nat (by omega), hwi, hrem, t1, b50f_56, hdiv, t2, n_add]
    exact e1
theorem mulT_50f {d T f n : Nat} {b : Nat → Nat → Int64} {r : Nat → Nat → Option Nat} (hf : f ≤ 10) (hT : T ≤ 60) (k : Nat) : ∀ (i V : Nat) (u4 u5 u6 : Value) (a : Nat → Nat → Int32), i + k = T → (∀ j, j < 16 → a 67 j = iN (dg 10000 V j)) → ∃ a', Den d 50 2 [.ref 66,.int (iN f),.int (iN T),.int (iN i),u4,u5,u6] [] (zmMk n a b r) = some (none, zmMk n a' b r) ∧ (∀ j, j < 16 → a' 67 j = iN (dg 10000 (V * f ^ k) j)) ∧ ∀ q, q ≠ 67 → a' q = a q := by
  induction k with
  | zero =>
    intro i V u4 u5 u6 a hi ha
    obtain rfl : i = T := by omega
    refine ⟨a, ?_, fun j hj => by rw [ha j hj, Nat.pow_zero, Nat.mul_one], fun _ _ => rfl⟩
    rw [b50f_2, if_neg (by rw [n_lt (by omega) (by omega)]; omega), b50f_76]
  | succ k ih =>
    intro i V u4 u5 u6 a hi ha
    obtain ⟨v4, u6', a1, e1, h1, o1⟩ := mulL_50f (d := d) (V := V) (n := n) (b := b) (r := r) (v2 := iN T) (v3 := iN i) hf 16 0 u6 a (by omega) (fun j hj => by rw [ha j hj, if_neg (by omega)])
    obtain ⟨a2, e2, h2, o2⟩ := ih (i + 1) (V * f) (.int v4) (.int (iN 16)) u6' a1 (by omega) h1
    refine ⟨a2, ?_, fun j hj => by rw [h2 j hj, Nat.mul_assoc, Nat.pow_succ, Nat.mul_comm (f ^ k) f], fun q hq => (o2 q hq).trans (o1 q hq)⟩
    rw [Nat.pow_zero, Nat.mod_one, Nat.zero_mul, Nat.zero_div] at e1
    rw [b50f_2, if_pos (by rw [n_lt (by omega) (by omega)]; omega), b50f_7, if_pos (by rw [n_lt (by omega) (by omega)]; omega), b50f_13, e1, b50f_70, n_add]
    exact e2
theorem ini_49f {d n : Nat} {b : Nat → Nat → Int64} {r : Nat → Nat → Option Nat} {v2 v3 : Int32} (k : Nat) : ∀ (j : Nat) (a : Nat → Nat → Int32), j + k = 16 → (∀ i, i < j → a 67 i = iN (dg 10000 1 i)) → ∃ a', Den d 49 3 [.ref 66,.ref 19,.int v2,.int v3,.int (iN j)] [] (zmMk n a b r) = Den d 49 36 [.ref 66,.ref 19,.int v2,.int v3,.int (iN 16)] [] (zmMk n a' b r) ∧ (∀ i, i < 16 → a' 67 i = iN (dg 10000 1 i)) ∧ ∀ q, q ≠ 67 → a' q = a q := by
  induction k with
  | zero =>
    intro j a hj ha
    obtain rfl : j = 16 := by omega
    refine ⟨a, ?_, ha, fun _ _ => rfl⟩
    rw [b49f_3, if_neg (by rw [n_lt (by omega) (by omega)]; omega)]
  | succ k ih =>
    intro j a hj ha
    have hin : zmIn (iN j) 16 = true := by rw [n_in (by omega)]; exact decide_eq_true (by omega)
    obtain ⟨a', e1, h1, o1⟩ := ih (j + 1) (uI a 67 j (iN (dg 10000 1 j))) (by omega) (fun i hi => by
      rw [uI_at]
      by_cases hij : i = j
      · rw [if_pos ⟨rfl, hij⟩, hij]
      · rw [if_neg (fun z => hij z.2), ha i (by omega)])
    refine ⟨a', ?_, h1, fun q hq => by
      rw [o1 q hq]
      funext z
      rw [uI_at, if_neg (fun e => hq e.1)]⟩
    have hd1 := dg_one (K := 10000) (j := j) (by omega)
    rw [b49f_3, if_pos (by rw [n_lt (by omega) (by omega)]; omega), b49f_13]
    by_cases hz : j = 0
    · rw [if_pos hz] at hd1
      rw [if_pos (show iN j = iN 0 by rw [hz]), b49f_24, b49f_29, if_pos hin, n_nat (by omega), b49f_30, n_add]
      rw [hd1] at e1
      exact e1
    · rw [if_neg hz] at hd1
      rw [if_neg (show ¬ iN j = iN 0 by rw [n_eq (by omega) (by omega)]; exact hz), b49f_28, b49f_29, if_pos hin, n_nat (by omega), b49f_30, n_add]
      rw [hd1] at e1
      exact e1
theorem gs_49f {d n s z : Nat} {b : Nat → Nat → Int64} {r : Nat → Nat → Option Nat} {a : Nat → Nat → Int32} {G : Nat → Nat} (hG : G 0 + G 2 ≤ 60 ∧ G 1 ≤ G 0 ∧ G 3 ≤ G 2) (hK : ∀ j, j < 4 → a 19 j = iN (G j)) (hs : s ≤ 10) (hn : z ≤ 10) : ∃ a', Den (d+2) 49 0 [.ref 66, .ref 19, .int (iN s), .int (iN z), zmJ] [] (zmMk n a b r) = some (none, zmMk n a' b r) ∧ (∀ j, j < 16 → a' 67 j = iN (dg 10000 (prdV G s z) j)) ∧ ∀ q, q ≠ 67 → a' q = a q := by
  obtain ⟨hb, hb1, hb3⟩ := hG
  obtain ⟨a0, e0, h0, o0⟩ := ini_49f (d := d+2) (n := n) (b := b) (r := r) (v2 := iN s) (v3 := iN z) 16 0 a (by omega) (fun i hi => absurd hi (by omega))
  obtain ⟨a1, e1, h1, o1⟩ := mulT_50f (d := d+1) (T := G 1) (f := s) (n := n) (b := b) (r := r) hs (by omega) (G 1) 0 1 zmJ zmJ zmJ a0 (by omega) h0
  obtain ⟨a2, e2, h2, o2⟩ := mulT_50f (d := d+1) (T := G 0 - G 1) (f := 10 - s) (n := n) (b := b) (r := r) (by omega) (by omega) (G 0 - G 1) 0 _ zmJ zmJ zmJ a1 (by omega) h1
  obtain ⟨a3, e3, h3, o3⟩ := mulT_50f (d := d+1) (T := G 3) (f := z) (n := n) (b := b) (r := r) hn (by omega) (G 3) 0 _ zmJ zmJ zmJ a2 (by omega) h2
  obtain ⟨a4, e4, h4, o4⟩ := mulT_50f (d := d+1) (T := G 2 - G 3) (f := 10 - z) (n := n) (b := b) (r := r) (by omega) (by omega) (G 2 - G 3) 0 _ zmJ zmJ zmJ a3 (by omega) h3
  have K0 : ∀ j, j < 4 → a0 19 j = iN (G j) := fun j hj => by rw [o0 19 (by omega)]; exact hK j hj
  have K1 : ∀ j, j < 4 → a1 19 j = iN (G j) := fun j hj => by rw [o1 19 (by omega)]; exact K0 j hj
  have K2 : ∀ j, j < 4 → a2 19 j = iN (G j) := fun j hj => by rw [o2 19 (by omega)]; exact K1 j hj
  have K3 : ∀ j, j < 4 → a3 19 j = iN (G j) := fun j hj => by rw [o3 19 (by omega)]; exact K2 j hj
  have E1 : Den (d+1) 50 0 [.ref 66, .int (iN s), .int (iN (G 1)), zmJ, zmJ, zmJ, zmJ] [] (zmMk n a0 b r) = some (none, zmMk n a1 b r) := by rw [b50f_0]; exact e1
  have E2 : Den (d+1) 50 0 [.ref 66, .int (iN (10 - s)), .int (iN (G 0 - G 1)), zmJ, zmJ, zmJ, zmJ] [] (zmMk n a1 b r) = some (none, zmMk n a2 b r) := by rw [b50f_0]; exact e2
  have E3 : Den (d+1) 50 0 [.ref 66, .int (iN z), .int (iN (G 3)), zmJ, zmJ, zmJ, zmJ] [] (zmMk n a2 b r) = some (none, zmMk n a3 b r) := by rw [b50f_0]; exact e3
  have E4 : Den (d+1) 50 0 [.ref 66, .int (iN (10 - z)), .int (iN (G 2 - G 3)), zmJ, zmJ, zmJ, zmJ] [] (zmMk n a3 b r) = some (none, zmMk n a4 b r) := by rw [b50f_0]; exact e4
  refine ⟨a4, ?_, h4, fun q hq => (o4 q hq).trans ((o3 q hq).trans ((o2 q hq).trans ((o1 q hq).trans (o0 q hq))))⟩
  rw [b49f_0, e0]
  rw [b49f_36, c_item lay19 (show 19 ≠ 0 by omega) (show 19 < 147 by omega) (show 4 < 2147483648 by omega), itV_n (show 1 < 4 by omega) (show 4 < 2147483648 by omega), K0 1 (by omega)]
  simp only [Option.bind_some, Option.toList_some, Option.toList_none, List.cons_append, List.nil_append, true_or, or_true, if_true, bI_if]
  rw [b49f_43, E1]
  simp only [Option.bind_some, Option.toList_some, Option.toList_none, List.cons_append, List.nil_append, true_or, or_true, if_true, bI_if]
  rw [b49f_46, c_item lay19 (show 19 ≠ 0 by omega) (show 19 < 147 by omega) (show 4 < 2147483648 by omega), itV_n (show 0 < 4 by omega) (show 4 < 2147483648 by omega), K1 0 (by omega)]
  simp only [Option.bind_some, Option.toList_some, Option.toList_none, List.cons_append, List.nil_append, true_or, or_true, if_true, bI_if]
  rw [b49f_56, c_item lay19 (show 19 ≠ 0 by omega) (show 19 < 147 by omega) (show 4 < 2147483648 by omega), itV_n (show 1 < 4 by omega) (show 4 < 2147483648 by omega), K1 1 (by omega)]
  simp only [Option.bind_some, Option.toList_some, Option.toList_none, List.cons_append, List.nil_append, true_or, or_true, if_true, bI_if]
  rw [b49f_61, n_sub hb1, n_sub hs, E2]
  simp only [Option.bind_some, Option.toList_some, Option.toList_none, List.cons_append, List.nil_append, true_or, or_true, if_true, bI_if]
  rw [b49f_65, c_item lay19 (show 19 ≠ 0 by omega) (show 19 < 147 by omega) (show 4 < 2147483648 by omega), itV_n (show 3 < 4 by omega) (show 4 < 2147483648 by omega), K2 3 (by omega)]
  simp only [Option.bind_some, Option.toList_some, Option.toList_none, List.cons_append, List.nil_append, true_or, or_true, if_true, bI_if]
  rw [b49f_72, E3]
  simp only [Option.bind_some, Option.toList_some, Option.toList_none, List.cons_append, List.nil_append, true_or, or_true, if_true, bI_if]
  rw [b49f_75, c_item lay19 (show 19 ≠ 0 by omega) (show 19 < 147 by omega) (show 4 < 2147483648 by omega), itV_n (show 2 < 4 by omega) (show 4 < 2147483648 by omega), K3 2 (by omega)]
  simp only [Option.bind_some, Option.toList_some, Option.toList_none, List.cons_append, List.nil_append, true_or, or_true, if_true, bI_if]
  rw [b49f_85, c_item lay19 (show 19 ≠ 0 by omega) (show 19 < 147 by omega) (show 4 < 2147483648 by omega), itV_n (show 3 < 4 by omega) (show 4 < 2147483648 by omega), K3 3 (by omega)]
  simp only [Option.bind_some, Option.toList_some, Option.toList_none, List.cons_append, List.nil_append, true_or, or_true, if_true, bI_if]
  rw [b49f_90, n_sub hb3, n_sub hn, E4]
  simp only [Option.bind_some, Option.toList_some, Option.toList_none, List.cons_append, List.nil_append, true_or, or_true, if_true, bI_if]
  rw [b49f_94]
theorem mulL_50s {d V f n : Nat} {b : Nat → Nat → Int64} {r : Nat → Nat → Option Nat} {v2 v3 : Int32} (hf : f ≤ 10) (k : Nat) : ∀ (j : Nat) (u6 : Value) (a : Nat → Nat → Int32), j + k = 16 → (∀ i, i < 16 → a 69 i = iN (if i < j then dg 10000 (V * f) i else dg 10000 V i)) → ∃ (v4 : Int32) (u6' : Value) (a' : Nat → Nat → Int32), Den d 50 19 [.ref 68,.int (iN f),.int v2,.int v3,.int (iN (V % 10000 ^ j * f / 10000 ^ j)),.int (iN j),u6] [] (zmMk n a b r) = Den d 50 70 [.ref 68,.int (iN f),.int v2,.int v3,.int v4,.int (iN 16),u6'] [] (zmMk n a' b r) ∧ (∀ i, i < 16 → a' 69 i = iN (dg 10000 (V * f) i)) ∧ ∀ q, q ≠ 69 → a' q = a q := by
  induction k with
  | zero =>
    intro j u6 a hj ha
    obtain rfl : j = 16 := by omega
    refine ⟨iN (V % 10000 ^ 16 * f / 10000 ^ 16), u6, a, ?_, fun i hi => by rw [ha i hi, if_pos hi], fun _ _ => rfl⟩
    rw [b50s_19, if_neg (by rw [n_lt (by omega) (by omega)]; omega)]
  | succ k ih =>
    intro j u6 a hj ha
    have hc := dg_carry (K := 10000) (V := V) (f := f) (j := j) (by omega)
    have hd := dg_lt (K := 10000) (V := V) (j := j) (by omega)
    have hdf : dg 10000 V j * f ≤ dg 10000 V j * 10 := Nat.mul_le_mul_left _ hf
    obtain ⟨t1, t2⟩ := dg_step (K := 10000) (V := V) (f := f) (j := j) (by omega)
    have hin : zmIn (iN j) 16 = true := by rw [n_in (by omega)]; exact decide_eq_true (by omega)
    have haj : a 69 j = iN (dg 10000 V j) := by rw [ha j (by omega), if_neg (by omega)]
    generalize hw : dg 10000 V j * f + V % 10000 ^ j * f / 10000 ^ j = w at t1 t2
    have hw2 : w < 200000 := by omega
    obtain ⟨v4, u6', a', e1, h1, o1⟩ := ih (j + 1) (.int (iN w)) (uI a 69 j (iN (dg 10000 (V * f) j))) (by omega) (fun i hi => by
      rw [uI_at]
      by_cases hij : i = j
      · rw [if_pos ⟨rfl, hij⟩, hij, if_pos (by omega)]
      · rw [if_neg (fun z => hij z.2), ha i hi]
        by_cases h2 : i < j
        · rw [if_pos h2, if_pos (by omega)]
        · rw [if_neg h2, if_neg (by omega)])
    refine ⟨v4, u6', a', ?_, h1, fun q hq => by
      rw [o1 q hq]
      funext z
      rw [uI_at, if_neg (fun e => hq e.1)]⟩
    have hwi : iN (dg 10000 V j) * iN f + iN (V % 10000 ^ j * f / 10000 ^ j) = iN w := by rw [n_mul, n_add, hw]
    have hrem : iN w - iN w / iN 10000 * iN 10000 = iN (w % 10000) := n_rem (by omega) (by omega)
    have hdiv : iN w / iN 10000 = iN (w / 10000) := n_div (by omega) (by omega)
    rw [b50s_19, if_pos (by rw [n_lt (by omega) (by omega)]; omega), b50s_29, if_pos hin, n_nat (by omega), haj, b50s_36, if_pos hin, n_nat (by omega), hwi, hrem, t1, b50s_56, hdiv, t2, n_add]
    exact e1
theorem mulT_50s {d T f n : Nat} {b : Nat → Nat → Int64} {r : Nat → Nat → Option Nat} (hf : f ≤ 10) (hT : T ≤ 60) (k : Nat) : ∀ (i V : Nat) (u4 u5 u6 : Value) (a : Nat → Nat → Int32), i + k = T → (∀ j, j < 16 → a 69 j = iN (dg 10000 V j)) → ∃ a', Den d 50 2 [.ref 68,.int (iN f),.int (iN T),.int (iN i),u4,u5,u6] [] (zmMk n a b r) = some (none, zmMk n a' b r) ∧ (∀ j, j < 16 → a' 69 j = iN (dg 10000 (V * f ^ k) j)) ∧ ∀ q, q ≠ 69 → a' q = a q := by
  induction k with
  | zero =>
    intro i V u4 u5 u6 a hi ha
    obtain rfl : i = T := by omega
    refine ⟨a, ?_, fun j hj => by rw [ha j hj, Nat.pow_zero, Nat.mul_one], fun _ _ => rfl⟩
    rw [b50s_2, if_neg (by rw [n_lt (by omega) (by omega)]; omega), b50s_76]
  | succ k ih =>
    intro i V u4 u5 u6 a hi ha
    obtain ⟨v4, u6', a1, e1, h1, o1⟩ := mulL_50s (d := d) (V := V) (n := n) (b := b) (r := r) (v2 := iN T) (v3 := iN i) hf 16 0 u6 a (by omega) (fun j hj => by rw [ha j hj, if_neg (by omega)])
    obtain ⟨a2, e2, h2, o2⟩ := ih (i + 1) (V * f) (.int v4) (.int (iN 16)) u6' a1 (by omega) h1
    refine ⟨a2, ?_, fun j hj => by rw [h2 j hj, Nat.mul_assoc, Nat.pow_succ, Nat.mul_comm (f ^ k) f], fun q hq => (o2 q hq).trans (o1 q hq)⟩
    rw [Nat.pow_zero, Nat.mod_one, Nat.zero_mul, Nat.zero_div] at e1
    rw [b50s_2, if_pos (by rw [n_lt (by omega) (by omega)]; omega), b50s_7, if_pos (by rw [n_lt (by omega) (by omega)]; omega), b50s_13, e1, b50s_70, n_add]
    exact e2
theorem ini_49s {d n : Nat} {b : Nat → Nat → Int64} {r : Nat → Nat → Option Nat} {v2 v3 : Int32} (k : Nat) : ∀ (j : Nat) (a : Nat → Nat → Int32), j + k = 16 → (∀ i, i < j → a 69 i = iN (dg 10000 1 i)) → ∃ a', Den d 49 3 [.ref 68,.ref 19,.int v2,.int v3,.int (iN j)] [] (zmMk n a b r) = Den d 49 36 [.ref 68,.ref 19,.int v2,.int v3,.int (iN 16)] [] (zmMk n a' b r) ∧ (∀ i, i < 16 → a' 69 i = iN (dg 10000 1 i)) ∧ ∀ q, q ≠ 69 → a' q = a q := by
  induction k with
  | zero =>
    intro j a hj ha
    obtain rfl : j = 16 := by omega
    refine ⟨a, ?_, ha, fun _ _ => rfl⟩
    rw [b49s_3, if_neg (by rw [n_lt (by omega) (by omega)]; omega)]
  | succ k ih =>
    intro j a hj ha
    have hin : zmIn (iN j) 16 = true := by rw [n_in (by omega)]; exact decide_eq_true (by omega)
    obtain ⟨a', e1, h1, o1⟩ := ih (j + 1) (uI a 69 j (iN (dg 10000 1 j))) (by omega) (fun i hi => by
      rw [uI_at]
      by_cases hij : i = j
      · rw [if_pos ⟨rfl, hij⟩, hij]
      · rw [if_neg (fun z => hij z.2), ha i (by omega)])
    refine ⟨a', ?_, h1, fun q hq => by
      rw [o1 q hq]
      funext z
      rw [uI_at, if_neg (fun e => hq e.1)]⟩
    have hd1 := dg_one (K := 10000) (j := j) (by omega)
    rw [b49s_3, if_pos (by rw [n_lt (by omega) (by omega)]; omega), b49s_13]
    by_cases hz : j = 0
    · rw [if_pos hz] at hd1
      rw [if_pos (show iN j = iN 0 by rw [hz]), b49s_24, b49s_29, if_pos hin, n_nat (by omega), b49s_30, n_add]
      rw [hd1] at e1
      exact e1
    · rw [if_neg hz] at hd1
      rw [if_neg (show ¬ iN j = iN 0 by rw [n_eq (by omega) (by omega)]; exact hz), b49s_28, b49s_29, if_pos hin, n_nat (by omega), b49s_30, n_add]
      rw [hd1] at e1
      exact e1
theorem gs_49s {d n s z : Nat} {b : Nat → Nat → Int64} {r : Nat → Nat → Option Nat} {a : Nat → Nat → Int32} {G : Nat → Nat} (hG : G 0 + G 2 ≤ 60 ∧ G 1 ≤ G 0 ∧ G 3 ≤ G 2) (hK : ∀ j, j < 4 → a 19 j = iN (G j)) (hs : s ≤ 10) (hn : z ≤ 10) : ∃ a', Den (d+2) 49 0 [.ref 68, .ref 19, .int (iN s), .int (iN z), zmJ] [] (zmMk n a b r) = some (none, zmMk n a' b r) ∧ (∀ j, j < 16 → a' 69 j = iN (dg 10000 (prdV G s z) j)) ∧ ∀ q, q ≠ 69 → a' q = a q := by
  obtain ⟨hb, hb1, hb3⟩ := hG
  obtain ⟨a0, e0, h0, o0⟩ := ini_49s (d := d+2) (n := n) (b := b) (r := r) (v2 := iN s) (v3 := iN z) 16 0 a (by omega) (fun i hi => absurd hi (by omega))
  obtain ⟨a1, e1, h1, o1⟩ := mulT_50s (d := d+1) (T := G 1) (f := s) (n := n) (b := b) (r := r) hs (by omega) (G 1) 0 1 zmJ zmJ zmJ a0 (by omega) h0
  obtain ⟨a2, e2, h2, o2⟩ := mulT_50s (d := d+1) (T := G 0 - G 1) (f := 10 - s) (n := n) (b := b) (r := r) (by omega) (by omega) (G 0 - G 1) 0 _ zmJ zmJ zmJ a1 (by omega) h1
  obtain ⟨a3, e3, h3, o3⟩ := mulT_50s (d := d+1) (T := G 3) (f := z) (n := n) (b := b) (r := r) hn (by omega) (G 3) 0 _ zmJ zmJ zmJ a2 (by omega) h2
  obtain ⟨a4, e4, h4, o4⟩ := mulT_50s (d := d+1) (T := G 2 - G 3) (f := 10 - z) (n := n) (b := b) (r := r) (by omega) (by omega) (G 2 - G 3) 0 _ zmJ zmJ zmJ a3 (by omega) h3
  have K0 : ∀ j, j < 4 → a0 19 j = iN (G j) := fun j hj => by rw [o0 19 (by omega)]; exact hK j hj
  have K1 : ∀ j, j < 4 → a1 19 j = iN (G j) := fun j hj => by rw [o1 19 (by omega)]; exact K0 j hj
  have K2 : ∀ j, j < 4 → a2 19 j = iN (G j) := fun j hj => by rw [o2 19 (by omega)]; exact K1 j hj
  have K3 : ∀ j, j < 4 → a3 19 j = iN (G j) := fun j hj => by rw [o3 19 (by omega)]; exact K2 j hj
  have E1 : Den (d+1) 50 0 [.ref 68, .int (iN s), .int (iN (G 1)), zmJ, zmJ, zmJ, zmJ] [] (zmMk n a0 b r) = some (none, zmMk n a1 b r) := by rw [b50s_0]; exact e1
  have E2 : Den (d+1) 50 0 [.ref 68, .int (iN (10 - s)), .int (iN (G 0 - G 1)), zmJ, zmJ, zmJ, zmJ] [] (zmMk n a1 b r) = some (none, zmMk n a2 b r) := by rw [b50s_0]; exact e2
  have E3 : Den (d+1) 50 0 [.ref 68, .int (iN z), .int (iN (G 3)), zmJ, zmJ, zmJ, zmJ] [] (zmMk n a2 b r) = some (none, zmMk n a3 b r) := by rw [b50s_0]; exact e3
  have E4 : Den (d+1) 50 0 [.ref 68, .int (iN (10 - z)), .int (iN (G 2 - G 3)), zmJ, zmJ, zmJ, zmJ] [] (zmMk n a3 b r) = some (none, zmMk n a4 b r) := by rw [b50s_0]; exact e4
  refine ⟨a4, ?_, h4, fun q hq => (o4 q hq).trans ((o3 q hq).trans ((o2 q hq).trans ((o1 q hq).trans (o0 q hq))))⟩
  rw [b49s_0, e0]
  rw [b49s_36, c_item lay19 (show 19 ≠ 0 by omega) (show 19 < 147 by omega) (show 4 < 2147483648 by omega), itV_n (show 1 < 4 by omega) (show 4 < 2147483648 by omega), K0 1 (by omega)]
  simp only [Option.bind_some, Option.toList_some, Option.toList_none, List.cons_append, List.nil_append, true_or, or_true, if_true, bI_if]
  rw [b49s_43, E1]
  simp only [Option.bind_some, Option.toList_some, Option.toList_none, List.cons_append, List.nil_append, true_or, or_true, if_true, bI_if]
  rw [b49s_46, c_item lay19 (show 19 ≠ 0 by omega) (show 19 < 147 by omega) (show 4 < 2147483648 by omega), itV_n (show 0 < 4 by omega) (show 4 < 2147483648 by omega), K1 0 (by omega)]
  simp only [Option.bind_some, Option.toList_some, Option.toList_none, List.cons_append, List.nil_append, true_or, or_true, if_true, bI_if]
  rw [b49s_56, c_item lay19 (show 19 ≠ 0 by omega) (show 19 < 147 by omega) (show 4 < 2147483648 by omega), itV_n (show 1 < 4 by omega) (show 4 < 2147483648 by omega), K1 1 (by omega)]
  simp only [Option.bind_some, Option.toList_some, Option.toList_none, List.cons_append, List.nil_append, true_or, or_true, if_true, bI_if]
  rw [b49s_61, n_sub hb1, n_sub hs, E2]
  simp only [Option.bind_some, Option.toList_some, Option.toList_none, List.cons_append, List.nil_append, true_or, or_true, if_true, bI_if]
  rw [b49s_65, c_item lay19 (show 19 ≠ 0 by omega) (show 19 < 147 by omega) (show 4 < 2147483648 by omega), itV_n (show 3 < 4 by omega) (show 4 < 2147483648 by omega), K2 3 (by omega)]
  simp only [Option.bind_some, Option.toList_some, Option.toList_none, List.cons_append, List.nil_append, true_or, or_true, if_true, bI_if]
  rw [b49s_72, E3]
  simp only [Option.bind_some, Option.toList_some, Option.toList_none, List.cons_append, List.nil_append, true_or, or_true, if_true, bI_if]
  rw [b49s_75, c_item lay19 (show 19 ≠ 0 by omega) (show 19 < 147 by omega) (show 4 < 2147483648 by omega), itV_n (show 2 < 4 by omega) (show 4 < 2147483648 by omega), K3 2 (by omega)]
  simp only [Option.bind_some, Option.toList_some, Option.toList_none, List.cons_append, List.nil_append, true_or, or_true, if_true, bI_if]
  rw [b49s_85, c_item lay19 (show 19 ≠ 0 by omega) (show 19 < 147 by omega) (show 4 < 2147483648 by omega), itV_n (show 3 < 4 by omega) (show 4 < 2147483648 by omega), K3 3 (by omega)]
  simp only [Option.bind_some, Option.toList_some, Option.toList_none, List.cons_append, List.nil_append, true_or, or_true, if_true, bI_if]
  rw [b49s_90, n_sub hb3, n_sub hn, E4]
  simp only [Option.bind_some, Option.toList_some, Option.toList_none, List.cons_append, List.nil_append, true_or, or_true, if_true, bI_if]
  rw [b49s_94]
theorem mulL_259a {d V f n : Nat} {b : Nat → Nat → Int64} {r : Nat → Nat → Option Nat} {v2 v3 : Int32} (hf : f ≤ 10) (k : Nat) : ∀ (j : Nat) (u6 : Value) (a : Nat → Nat → Int32), j + k = 64 → (∀ i, i < 64 → a 137 i = iN (if i < j then dg 10 (V * f) i else dg 10 V i)) → ∃ (v4 : Int32) (u6' : Value) (a' : Nat → Nat → Int32), Den d 259 13 [.ref 137,.int (iN f),.int v2,.int v3,.int (iN (V % 10 ^ j * f / 10 ^ j)),.int (iN j),u6] [] (zmMk n a b r) = Den d 259 53 [.ref 137,.int (iN f),.int v2,.int v3,.int v4,.int (iN 64),u6'] [] (zmMk n a' b r) ∧ (∀ i, i < 64 → a' 137 i = iN (dg 10 (V * f) i)) ∧ ∀ q, q ≠ 137 → a' q = a q := by
  induction k with
  | zero =>
    intro j u6 a hj ha
    obtain rfl : j = 64 := by omega
    refine ⟨iN (V % 10 ^ 64 * f / 10 ^ 64), u6, a, ?_, fun i hi => by rw [ha i hi, if_pos hi], fun _ _ => rfl⟩
    rw [b259a_13, if_neg (by rw [n_lt (by omega) (by omega)]; omega)]
  | succ k ih =>
    intro j u6 a hj ha
    have hc := dg_carry (K := 10) (V := V) (f := f) (j := j) (by omega)
    have hd := dg_lt (K := 10) (V := V) (j := j) (by omega)
    have hdf : dg 10 V j * f ≤ dg 10 V j * 10 := Nat.mul_le_mul_left _ hf
    obtain ⟨t1, t2⟩ := dg_step (K := 10) (V := V) (f := f) (j := j) (by omega)
    have hin : zmIn (iN j) 64 = true := by rw [n_in (by omega)]; exact decide_eq_true (by omega)
    have haj : a 137 j = iN (dg 10 V j) := by rw [ha j (by omega), if_neg (by omega)]
    generalize hw : dg 10 V j * f + V % 10 ^ j * f / 10 ^ j = w at t1 t2
    have hw2 : w < 200000 := by omega
    obtain ⟨v4, u6', a', e1, h1, o1⟩ := ih (j + 1) (.int (iN w)) (uI a 137 j (iN (dg 10 (V * f) j))) (by omega) (fun i hi => by
      rw [uI_at]
      by_cases hij : i = j
      · rw [if_pos ⟨rfl, hij⟩, hij, if_pos (by omega)]
      · rw [if_neg (fun z => hij z.2), ha i hi]
        by_cases h2 : i < j
        · rw [if_pos h2, if_pos (by omega)]
        · rw [if_neg h2, if_neg (by omega)])
    refine ⟨v4, u6', a', ?_, h1, fun q hq => by
      rw [o1 q hq]
      funext z
      rw [uI_at, if_neg (fun e => hq e.1)]⟩
    have hwi : iN (dg 10 V j) * iN f + iN (V % 10 ^ j * f / 10 ^ j) = iN w := by rw [n_mul, n_add, hw]
    have hrem : iN w - iN w / iN 10 * iN 10 = iN (w % 10) := n_rem (by omega) (by omega)
    have hdiv : iN w / iN 10 = iN (w / 10) := n_div (by omega) (by omega)
    rw [b259a_13, if_pos (by rw [n_lt (by omega) (by omega)]; omega), b259a_20, if_pos hin, n_nat (by omega), haj, b259a_24, if_pos hin, n_nat (by omega), hwi, hrem, t1, b259a_40, hdiv, t2, n_add]
    exact e1
theorem mulT_259a {d T f n : Nat} {b : Nat → Nat → Int64} {r : Nat → Nat → Option Nat} (hf : f ≤ 10) (hT : T ≤ 60) (k : Nat) : ∀ (i V : Nat) (u4 u5 u6 : Value) (a : Nat → Nat → Int32), i + k = T → (∀ j, j < 64 → a 137 j = iN (dg 10 V j)) → ∃ a', Den d 259 2 [.ref 137,.int (iN f),.int (iN T),.int (iN i),u4,u5,u6] [] (zmMk n a b r) = some (none, zmMk n a' b r) ∧ (∀ j, j < 64 → a' 137 j = iN (dg 10 (V * f ^ k) j)) ∧ ∀ q, q ≠ 137 → a' q = a q := by
  induction k with
  | zero =>
    intro i V u4 u5 u6 a hi ha
    obtain rfl : i = T := by omega
    refine ⟨a, ?_, fun j hj => by rw [ha j hj, Nat.pow_zero, Nat.mul_one], fun _ _ => rfl⟩
    rw [b259a_2, if_neg (by rw [n_lt (by omega) (by omega)]; omega), b259a_59]
  | succ k ih =>
    intro i V u4 u5 u6 a hi ha
    obtain ⟨v4, u6', a1, e1, h1, o1⟩ := mulL_259a (d := d) (V := V) (n := n) (b := b) (r := r) (v2 := iN T) (v3 := iN i) hf 64 0 u6 a (by omega) (fun j hj => by rw [ha j hj, if_neg (by omega)])
    obtain ⟨a2, e2, h2, o2⟩ := ih (i + 1) (V * f) (.int v4) (.int (iN 64)) u6' a1 (by omega) h1
    refine ⟨a2, ?_, fun j hj => by rw [h2 j hj, Nat.mul_assoc, Nat.pow_succ, Nat.mul_comm (f ^ k) f], fun q hq => (o2 q hq).trans (o1 q hq)⟩
    rw [Nat.pow_zero, Nat.mod_one, Nat.zero_mul, Nat.zero_div] at e1
    rw [b259a_2, if_pos (by rw [n_lt (by omega) (by omega)]; omega), b259a_7, e1, b259a_53, n_add]
    exact e2
theorem ini_260a {d n : Nat} {b : Nat → Nat → Int64} {r : Nat → Nat → Option Nat} {v2 v3 : Int32} (k : Nat) : ∀ (j : Nat) (a : Nat → Nat → Int32), j + k = 64 → (∀ i, i < j → a 137 i = iN (dg 10 1 i)) → ∃ a', Den d 260 3 [.ref 94,.ref 137,.int v2,.int v3,.int (iN j)] [] (zmMk n a b r) = Den d 260 30 [.ref 94,.ref 137,.int v2,.int v3,.int (iN 64)] [] (zmMk n a' b r) ∧ (∀ i, i < 64 → a' 137 i = iN (dg 10 1 i)) ∧ ∀ q, q ≠ 137 → a' q = a q := by
  induction k with
  | zero =>
    intro j a hj ha
    obtain rfl : j = 64 := by omega
    refine ⟨a, ?_, ha, fun _ _ => rfl⟩
    rw [b260a_3, if_neg (by rw [n_lt (by omega) (by omega)]; omega)]
  | succ k ih =>
    intro j a hj ha
    have hin : zmIn (iN j) 64 = true := by rw [n_in (by omega)]; exact decide_eq_true (by omega)
    obtain ⟨a', e1, h1, o1⟩ := ih (j + 1) (uI a 137 j (iN (dg 10 1 j))) (by omega) (fun i hi => by
      rw [uI_at]
      by_cases hij : i = j
      · rw [if_pos ⟨rfl, hij⟩, hij]
      · rw [if_neg (fun z => hij z.2), ha i (by omega)])
    refine ⟨a', ?_, h1, fun q hq => by
      rw [o1 q hq]
      funext z
      rw [uI_at, if_neg (fun e => hq e.1)]⟩
    have hd1 := dg_one (K := 10) (j := j) (by omega)
    rw [b260a_3, if_pos (by rw [n_lt (by omega) (by omega)]; omega), b260a_10]
    by_cases hz : j = 0
    · rw [if_pos hz] at hd1
      rw [if_pos (show iN j = iN 0 by rw [hz]), b260a_18, b260a_23, if_pos hin, n_nat (by omega), b260a_24, n_add]
      rw [hd1] at e1
      exact e1
    · rw [if_neg hz] at hd1
      rw [if_neg (show ¬ iN j = iN 0 by rw [n_eq (by omega) (by omega)]; exact hz), b260a_22, b260a_23, if_pos hin, n_nat (by omega), b260a_24, n_add]
      rw [hd1] at e1
      exact e1
theorem gs_260a {d n s z : Nat} {b : Nat → Nat → Int64} {r : Nat → Nat → Option Nat} {a : Nat → Nat → Int32} {G : Nat → Nat} (hG : G 0 + G 2 ≤ 60 ∧ G 1 ≤ G 0 ∧ G 3 ≤ G 2) (hK : ∀ j, j < 4 → a 136 j = iN (G j)) (hs : s ≤ 10) (hn : z ≤ 10) : ∃ a', Den (d+2) 260 0 [.ref 94, .ref 137, .int (iN s), .int (iN z), zmJ] [] (zmMk n a b r) = some (none, zmMk n a' b r) ∧ (∀ j, j < 64 → a' 137 j = iN (dg 10 (prdV G s z) j)) ∧ ∀ q, q ≠ 137 → a' q = a q := by
  obtain ⟨hb, hb1, hb3⟩ := hG
  obtain ⟨a0, e0, h0, o0⟩ := ini_260a (d := d+2) (n := n) (b := b) (r := r) (v2 := iN s) (v3 := iN z) 64 0 a (by omega) (fun i hi => absurd hi (by omega))
  obtain ⟨a1, e1, h1, o1⟩ := mulT_259a (d := d+1) (T := G 1) (f := s) (n := n) (b := b) (r := r) hs (by omega) (G 1) 0 1 zmJ zmJ zmJ a0 (by omega) h0
  obtain ⟨a2, e2, h2, o2⟩ := mulT_259a (d := d+1) (T := G 0 - G 1) (f := 10 - s) (n := n) (b := b) (r := r) (by omega) (by omega) (G 0 - G 1) 0 _ zmJ zmJ zmJ a1 (by omega) h1
  obtain ⟨a3, e3, h3, o3⟩ := mulT_259a (d := d+1) (T := G 3) (f := z) (n := n) (b := b) (r := r) hn (by omega) (G 3) 0 _ zmJ zmJ zmJ a2 (by omega) h2
  obtain ⟨a4, e4, h4, o4⟩ := mulT_259a (d := d+1) (T := G 2 - G 3) (f := 10 - z) (n := n) (b := b) (r := r) (by omega) (by omega) (G 2 - G 3) 0 _ zmJ zmJ zmJ a3 (by omega) h3
  have K0 : ∀ j, j < 4 → a0 136 j = iN (G j) := fun j hj => by rw [o0 136 (by omega)]; exact hK j hj
  have K1 : ∀ j, j < 4 → a1 136 j = iN (G j) := fun j hj => by rw [o1 136 (by omega)]; exact K0 j hj
  have K2 : ∀ j, j < 4 → a2 136 j = iN (G j) := fun j hj => by rw [o2 136 (by omega)]; exact K1 j hj
  have K3 : ∀ j, j < 4 → a3 136 j = iN (G j) := fun j hj => by rw [o3 136 (by omega)]; exact K2 j hj
  have E1 : Den (d+1) 259 0 [.ref 137, .int (iN s), .int (iN (G 1)), zmJ, zmJ, zmJ, zmJ] [] (zmMk n a0 b r) = some (none, zmMk n a1 b r) := by rw [b259a_0]; exact e1
  have E2 : Den (d+1) 259 0 [.ref 137, .int (iN (10 - s)), .int (iN (G 0 - G 1)), zmJ, zmJ, zmJ, zmJ] [] (zmMk n a1 b r) = some (none, zmMk n a2 b r) := by rw [b259a_0]; exact e2
  have E3 : Den (d+1) 259 0 [.ref 137, .int (iN z), .int (iN (G 3)), zmJ, zmJ, zmJ, zmJ] [] (zmMk n a2 b r) = some (none, zmMk n a3 b r) := by rw [b259a_0]; exact e3
  have E4 : Den (d+1) 259 0 [.ref 137, .int (iN (10 - z)), .int (iN (G 2 - G 3)), zmJ, zmJ, zmJ, zmJ] [] (zmMk n a3 b r) = some (none, zmMk n a4 b r) := by rw [b259a_0]; exact e4
  refine ⟨a4, ?_, h4, fun q hq => (o4 q hq).trans ((o3 q hq).trans ((o2 q hq).trans ((o1 q hq).trans (o0 q hq))))⟩
  rw [b260a_0, e0]
  rw [b260a_30, K0 1 (by omega), E1]
  simp only [Option.bind_some, Option.toList_some, Option.toList_none, List.cons_append, List.nil_append, true_or, or_true, if_true, bI_if]
  rw [b260a_41, K1 0 (by omega), K1 1 (by omega), n_sub hb1, n_sub hs, E2]
  simp only [Option.bind_some, Option.toList_some, Option.toList_none, List.cons_append, List.nil_append, true_or, or_true, if_true, bI_if]
  rw [b260a_62, K2 3 (by omega), E3]
  simp only [Option.bind_some, Option.toList_some, Option.toList_none, List.cons_append, List.nil_append, true_or, or_true, if_true, bI_if]
  rw [b260a_73, K3 2 (by omega), K3 3 (by omega), n_sub hb3, n_sub hn, E4]
  simp only [Option.bind_some, Option.toList_some, Option.toList_none, List.cons_append, List.nil_append, true_or, or_true, if_true, bI_if]
  rw [b260a_94]
theorem mulL_259b {d V f n : Nat} {b : Nat → Nat → Int64} {r : Nat → Nat → Option Nat} {v2 v3 : Int32} (hf : f ≤ 10) (k : Nat) : ∀ (j : Nat) (u6 : Value) (a : Nat → Nat → Int32), j + k = 64 → (∀ i, i < 64 → a 138 i = iN (if i < j then dg 10 (V * f) i else dg 10 V i)) → ∃ (v4 : Int32) (u6' : Value) (a' : Nat → Nat → Int32), Den d 259 13 [.ref 138,.int (iN f),.int v2,.int v3,.int (iN (V % 10 ^ j * f / 10 ^ j)),.int (iN j),u6] [] (zmMk n a b r) = Den d 259 53 [.ref 138,.int (iN f),.int v2,.int v3,.int v4,.int (iN 64),u6'] [] (zmMk n a' b r) ∧ (∀ i, i < 64 → a' 138 i = iN (dg 10 (V * f) i)) ∧ ∀ q, q ≠ 138 → a' q = a q := by
  induction k with
  | zero =>
    intro j u6 a hj ha
    obtain rfl : j = 64 := by omega
    refine ⟨iN (V % 10 ^ 64 * f / 10 ^ 64), u6, a, ?_, fun i hi => by rw [ha i hi, if_pos hi], fun _ _ => rfl⟩
    rw [b259b_13, if_neg (by rw [n_lt (by omega) (by omega)]; omega)]
  | succ k ih =>
    intro j u6 a hj ha
    have hc := dg_carry (K := 10) (V := V) (f := f) (j := j) (by omega)
    have hd := dg_lt (K := 10) (V := V) (j := j) (by omega)
    have hdf : dg 10 V j * f ≤ dg 10 V j * 10 := Nat.mul_le_mul_left _ hf
    obtain ⟨t1, t2⟩ := dg_step (K := 10) (V := V) (f := f) (j := j) (by omega)
    have hin : zmIn (iN j) 64 = true := by rw [n_in (by omega)]; exact decide_eq_true (by omega)
    have haj : a 138 j = iN (dg 10 V j) := by rw [ha j (by omega), if_neg (by omega)]
    generalize hw : dg 10 V j * f + V % 10 ^ j * f / 10 ^ j = w at t1 t2
    have hw2 : w < 200000 := by omega
    obtain ⟨v4, u6', a', e1, h1, o1⟩ := ih (j + 1) (.int (iN w)) (uI a 138 j (iN (dg 10 (V * f) j))) (by omega) (fun i hi => by
      rw [uI_at]
      by_cases hij : i = j
      · rw [if_pos ⟨rfl, hij⟩, hij, if_pos (by omega)]
      · rw [if_neg (fun z => hij z.2), ha i hi]
        by_cases h2 : i < j
        · rw [if_pos h2, if_pos (by omega)]
        · rw [if_neg h2, if_neg (by omega)])
    refine ⟨v4, u6', a', ?_, h1, fun q hq => by
      rw [o1 q hq]
      funext z
      rw [uI_at, if_neg (fun e => hq e.1)]⟩
    have hwi : iN (dg 10 V j) * iN f + iN (V % 10 ^ j * f / 10 ^ j) = iN w := by rw [n_mul, n_add, hw]
    have hrem : iN w - iN w / iN 10 * iN 10 = iN (w % 10) := n_rem (by omega) (by omega)
    have hdiv : iN w / iN 10 = iN (w / 10) := n_div (by omega) (by omega)
    rw [b259b_13, if_pos (by rw [n_lt (by omega) (by omega)]; omega), b259b_20, if_pos hin, n_nat (by omega), haj, b259b_24, if_pos hin, n_nat (by omega), hwi, hrem, t1, b259b_40, hdiv, t2, n_add]
    exact e1
theorem mulT_259b {d T f n : Nat} {b : Nat → Nat → Int64} {r : Nat → Nat → Option Nat} (hf : f ≤ 10) (hT : T ≤ 60) (k : Nat) : ∀ (i V : Nat) (u4 u5 u6 : Value) (a : Nat → Nat → Int32), i + k = T → (∀ j, j < 64 → a 138 j = iN (dg 10 V j)) → ∃ a', Den d 259 2 [.ref 138,.int (iN f),.int (iN T),.int (iN i),u4,u5,u6] [] (zmMk n a b r) = some (none, zmMk n a' b r) ∧ (∀ j, j < 64 → a' 138 j = iN (dg 10 (V * f ^ k) j)) ∧ ∀ q, q ≠ 138 → a' q = a q := by
  induction k with
  | zero =>
    intro i V u4 u5 u6 a hi ha
    obtain rfl : i = T := by omega
    refine ⟨a, ?_, fun j hj => by rw [ha j hj, Nat.pow_zero, Nat.mul_one], fun _ _ => rfl⟩
    rw [b259b_2, if_neg (by rw [n_lt (by omega) (by omega)]; omega), b259b_59]
  | succ k ih =>
    intro i V u4 u5 u6 a hi ha
    obtain ⟨v4, u6', a1, e1, h1, o1⟩ := mulL_259b (d := d) (V := V) (n := n) (b := b) (r := r) (v2 := iN T) (v3 := iN i) hf 64 0 u6 a (by omega) (fun j hj => by rw [ha j hj, if_neg (by omega)])
    obtain ⟨a2, e2, h2, o2⟩ := ih (i + 1) (V * f) (.int v4) (.int (iN 64)) u6' a1 (by omega) h1
    refine ⟨a2, ?_, fun j hj => by rw [h2 j hj, Nat.mul_assoc, Nat.pow_succ, Nat.mul_comm (f ^ k) f], fun q hq => (o2 q hq).trans (o1 q hq)⟩
    rw [Nat.pow_zero, Nat.mod_one, Nat.zero_mul, Nat.zero_div] at e1
    rw [b259b_2, if_pos (by rw [n_lt (by omega) (by omega)]; omega), b259b_7, e1, b259b_53, n_add]
    exact e2
theorem ini_260b {d n : Nat} {b : Nat → Nat → Int64} {r : Nat → Nat → Option Nat} {v2 v3 : Int32} (k : Nat) : ∀ (j : Nat) (a : Nat → Nat → Int32), j + k = 64 → (∀ i, i < j → a 138 i = iN (dg 10 1 i)) → ∃ a', Den d 260 3 [.ref 94,.ref 138,.int v2,.int v3,.int (iN j)] [] (zmMk n a b r) = Den d 260 30 [.ref 94,.ref 138,.int v2,.int v3,.int (iN 64)] [] (zmMk n a' b r) ∧ (∀ i, i < 64 → a' 138 i = iN (dg 10 1 i)) ∧ ∀ q, q ≠ 138 → a' q = a q := by
  induction k with
  | zero =>
    intro j a hj ha
    obtain rfl : j = 64 := by omega
    refine ⟨a, ?_, ha, fun _ _ => rfl⟩
    rw [b260b_3, if_neg (by rw [n_lt (by omega) (by omega)]; omega)]
  | succ k ih =>
    intro j a hj ha
    have hin : zmIn (iN j) 64 = true := by rw [n_in (by omega)]; exact decide_eq_true (by omega)
    obtain ⟨a', e1, h1, o1⟩ := ih (j + 1) (uI a 138 j (iN (dg 10 1 j))) (by omega) (fun i hi => by
      rw [uI_at]
      by_cases hij : i = j
      · rw [if_pos ⟨rfl, hij⟩, hij]
      · rw [if_neg (fun z => hij z.2), ha i (by omega)])
    refine ⟨a', ?_, h1, fun q hq => by
      rw [o1 q hq]
      funext z
      rw [uI_at, if_neg (fun e => hq e.1)]⟩
    have hd1 := dg_one (K := 10) (j := j) (by omega)
    rw [b260b_3, if_pos (by rw [n_lt (by omega) (by omega)]; omega), b260b_10]
    by_cases hz : j = 0
    · rw [if_pos hz] at hd1
      rw [if_pos (show iN j = iN 0 by rw [hz]), b260b_18, b260b_23, if_pos hin, n_nat (by omega), b260b_24, n_add]
      rw [hd1] at e1
      exact e1
    · rw [if_neg hz] at hd1
      rw [if_neg (show ¬ iN j = iN 0 by rw [n_eq (by omega) (by omega)]; exact hz), b260b_22, b260b_23, if_pos hin, n_nat (by omega), b260b_24, n_add]
      rw [hd1] at e1
      exact e1
theorem gs_260b {d n s z : Nat} {b : Nat → Nat → Int64} {r : Nat → Nat → Option Nat} {a : Nat → Nat → Int32} {G : Nat → Nat} (hG : G 0 + G 2 ≤ 60 ∧ G 1 ≤ G 0 ∧ G 3 ≤ G 2) (hK : ∀ j, j < 4 → a 136 j = iN (G j)) (hs : s ≤ 10) (hn : z ≤ 10) : ∃ a', Den (d+2) 260 0 [.ref 94, .ref 138, .int (iN s), .int (iN z), zmJ] [] (zmMk n a b r) = some (none, zmMk n a' b r) ∧ (∀ j, j < 64 → a' 138 j = iN (dg 10 (prdV G s z) j)) ∧ ∀ q, q ≠ 138 → a' q = a q := by
  obtain ⟨hb, hb1, hb3⟩ := hG
  obtain ⟨a0, e0, h0, o0⟩ := ini_260b (d := d+2) (n := n) (b := b) (r := r) (v2 := iN s) (v3 := iN z) 64 0 a (by omega) (fun i hi => absurd hi (by omega))
  obtain ⟨a1, e1, h1, o1⟩ := mulT_259b (d := d+1) (T := G 1) (f := s) (n := n) (b := b) (r := r) hs (by omega) (G 1) 0 1 zmJ zmJ zmJ a0 (by omega) h0
  obtain ⟨a2, e2, h2, o2⟩ := mulT_259b (d := d+1) (T := G 0 - G 1) (f := 10 - s) (n := n) (b := b) (r := r) (by omega) (by omega) (G 0 - G 1) 0 _ zmJ zmJ zmJ a1 (by omega) h1
  obtain ⟨a3, e3, h3, o3⟩ := mulT_259b (d := d+1) (T := G 3) (f := z) (n := n) (b := b) (r := r) hn (by omega) (G 3) 0 _ zmJ zmJ zmJ a2 (by omega) h2
  obtain ⟨a4, e4, h4, o4⟩ := mulT_259b (d := d+1) (T := G 2 - G 3) (f := 10 - z) (n := n) (b := b) (r := r) (by omega) (by omega) (G 2 - G 3) 0 _ zmJ zmJ zmJ a3 (by omega) h3
  have K0 : ∀ j, j < 4 → a0 136 j = iN (G j) := fun j hj => by rw [o0 136 (by omega)]; exact hK j hj
  have K1 : ∀ j, j < 4 → a1 136 j = iN (G j) := fun j hj => by rw [o1 136 (by omega)]; exact K0 j hj
  have K2 : ∀ j, j < 4 → a2 136 j = iN (G j) := fun j hj => by rw [o2 136 (by omega)]; exact K1 j hj
  have K3 : ∀ j, j < 4 → a3 136 j = iN (G j) := fun j hj => by rw [o3 136 (by omega)]; exact K2 j hj
  have E1 : Den (d+1) 259 0 [.ref 138, .int (iN s), .int (iN (G 1)), zmJ, zmJ, zmJ, zmJ] [] (zmMk n a0 b r) = some (none, zmMk n a1 b r) := by rw [b259b_0]; exact e1
  have E2 : Den (d+1) 259 0 [.ref 138, .int (iN (10 - s)), .int (iN (G 0 - G 1)), zmJ, zmJ, zmJ, zmJ] [] (zmMk n a1 b r) = some (none, zmMk n a2 b r) := by rw [b259b_0]; exact e2
  have E3 : Den (d+1) 259 0 [.ref 138, .int (iN z), .int (iN (G 3)), zmJ, zmJ, zmJ, zmJ] [] (zmMk n a2 b r) = some (none, zmMk n a3 b r) := by rw [b259b_0]; exact e3
  have E4 : Den (d+1) 259 0 [.ref 138, .int (iN (10 - z)), .int (iN (G 2 - G 3)), zmJ, zmJ, zmJ, zmJ] [] (zmMk n a3 b r) = some (none, zmMk n a4 b r) := by rw [b259b_0]; exact e4
  refine ⟨a4, ?_, h4, fun q hq => (o4 q hq).trans ((o3 q hq).trans ((o2 q hq).trans ((o1 q hq).trans (o0 q hq))))⟩
  rw [b260b_0, e0]
  rw [b260b_30, K0 1 (by omega), E1]
  simp only [Option.bind_some, Option.toList_some, Option.toList_none, List.cons_append, List.nil_append, true_or, or_true, if_true, bI_if]
  rw [b260b_41, K1 0 (by omega), K1 1 (by omega), n_sub hb1, n_sub hs, E2]
  simp only [Option.bind_some, Option.toList_some, Option.toList_none, List.cons_append, List.nil_append, true_or, or_true, if_true, bI_if]
  rw [b260b_62, K2 3 (by omega), E3]
  simp only [Option.bind_some, Option.toList_some, Option.toList_none, List.cons_append, List.nil_append, true_or, or_true, if_true, bI_if]
  rw [b260b_73, K3 2 (by omega), K3 3 (by omega), n_sub hb3, n_sub hn, E4]
  simp only [Option.bind_some, Option.toList_some, Option.toList_none, List.cons_append, List.nil_append, true_or, or_true, if_true, bI_if]
  rw [b260b_94]
theorem n_m1s {j : Nat} : iN (j + 1) - iN 1 = iN j := by rw [n_sub (by omega)]; rfl
theorem n_pm1 (x : Int32) : x + (-1) = x - iN 1 := by rw [Int32.sub_eq_add_neg]; rfl
theorem c_cmpL {d V W : Nat} {n : Nat} {a : Nat → Nat → Int32} {b : Nat → Nat → Int64} {r : Nat → Nat → Option Nat} (hV : ∀ j, j < 16 → a 67 j = iN (dg 10000 V j)) (hW : ∀ j, j < 16 → a 69 j = iN (dg 10000 W j)) (j : Nat) : ∀ (u3 : Value), j ≤ 16 → V / 10000 ^ j = W / 10000 ^ j → Den (d+1) 51 8 [.ref 66,.ref 68,.int (iN j - iN 1),u3] [] (zmMk n a b r) = some (some (.int (ordV V W)), (zmMk n a b r)) := by
  induction j with
  | zero =>
    intro u3 _ he
    rw [Nat.pow_zero, Nat.div_one, Nat.div_one] at he
    rw [b51_8, if_pos (by decide +kernel), b51_42, he]
    unfold ordV
    rw [if_neg (Nat.lt_irrefl _), if_pos rfl]
  | succ j ih =>
    intro u3 hj he
    have hin : zmIn (iN j) 16 = true := by rw [n_in (by omega)]; exact decide_eq_true (by omega)
    have l1 := dg_lt (K := 10000) (V := V) (j := j) (by omega)
    have l2 := dg_lt (K := 10000) (V := W) (j := j) (by omega)
    obtain ⟨c1, c2⟩ := dg_cmp he
    obtain ⟨-, c3⟩ := dg_cmp he.symm
    rw [n_m1s, b51_8, if_neg (show ¬ iN j < iN 0 by rw [n_lt (by omega) (by omega)]; omega), b51_12, if_pos hin, n_nat (by omega), hV j (by omega), b51_18, c_item lay69 (show 69 ≠ 0 by omega) (show 69 < 147 by omega) (show 16 < 2147483648 by omega), itV_n (show j < 16 by omega) (show 16 < 2147483648 by omega), hW j (by omega)]
    simp only [Option.bind_some, Option.toList_some, Option.toList_none, List.cons_append, List.nil_append, true_or, or_true, if_true, bI_if]
    rw [b51_26, c_compare]
    simp only [Option.bind_some, Option.toList_some, Option.toList_none, List.cons_append, List.nil_append, true_or, or_true, if_true, bI_if]
    rw [b51_29]
    by_cases h1 : dg 10000 V j < dg 10000 W j
    · have e : ordV V W = -1 := if_pos (c2 h1)
      rw [if_pos (show iN (dg 10000 V j) < iN (dg 10000 W j) by rw [n_lt (by omega) (by omega)]; exact h1), if_neg (by decide +kernel), b51_34, e]
    · rw [if_neg (show ¬ iN (dg 10000 V j) < iN (dg 10000 W j) by rw [n_lt (by omega) (by omega)]; exact h1)]
      by_cases h2 : dg 10000 V j = dg 10000 W j
      · rw [if_pos (show iN (dg 10000 V j) = iN (dg 10000 W j) by rw [h2]), if_pos rfl, b51_36, n_pm1]
        exact ih _ (by omega) (c1 h2)
      · have h3 : W < V := c3 (by omega)
        have e : ordV V W = iN 1 := by
          unfold ordV
          rw [if_neg (by omega), if_neg (by omega)]
        rw [if_neg (show ¬ iN (dg 10000 V j) = iN (dg 10000 W j) by rw [n_eq (by omega) (by omega)]; exact h2), if_neg (by decide +kernel), b51_34, e]
def fitW (V W : Nat) : Int32 := if V = W then iN 0 else if W < V then iN 1 else iN 2
theorem m_cmpL {d V W : Nat} {n : Nat} {a : Nat → Nat → Int32} {b : Nat → Nat → Int64} {r : Nat → Nat → Option Nat} {v1 v2 v3 v4 : Int32} (hV : ∀ j, j < 64 → a 137 j = iN (dg 10 V j)) (hW : ∀ j, j < 64 → a 138 j = iN (dg 10 W j)) (j : Nat) : j ≤ 64 → V / 10 ^ j = W / 10 ^ j → Den d 261 68 [.ref 94,.int v1,.int v2,.int v3,.int v4,.int (iN j - iN 1)] [] (zmMk n a b r) = some (some (.int (fitW V W)), (zmMk n a b r)) := by
  induction j with
  | zero =>
    intro _ he
    rw [Nat.pow_zero, Nat.div_one, Nat.div_one] at he
    rw [b261_68, if_pos (by decide +kernel), b261_119, he]
    unfold fitW
    rw [if_pos rfl]
  | succ j ih =>
    intro hj he
    have hin : zmIn (iN j) 64 = true := by rw [n_in (by omega)]; exact decide_eq_true (by omega)
    have l1 := dg_lt (K := 10) (V := V) (j := j) (by omega)
    have l2 := dg_lt (K := 10) (V := W) (j := j) (by omega)
    obtain ⟨c1, c2⟩ := dg_cmp he
    obtain ⟨-, c3⟩ := dg_cmp he.symm
    rw [n_m1s, b261_68, if_neg (show ¬ iN j < iN 0 by rw [n_lt (by omega) (by omega)]; omega), b261_73, if_pos hin, n_nat (by omega), hV j (by omega), b261_80, if_pos hin, n_nat (by omega), hW j (by omega), b261_87]
    by_cases h2 : dg 10 V j = dg 10 W j
    · rw [if_pos (show iN (dg 10 V j) = iN (dg 10 W j) by rw [h2]), b261_113, n_pm1]
      exact ih (by omega) (c1 h2)
    · rw [if_neg (show ¬ iN (dg 10 V j) = iN (dg 10 W j) by rw [n_eq (by omega) (by omega)]; exact h2), b261_90, if_pos hin, n_nat (by omega), hV j (by omega), b261_97, if_pos hin, n_nat (by omega), hW j (by omega), b261_104]
      unfold fitW
      by_cases h1 : dg 10 W j < dg 10 V j
      · have h3 : W < V := c3 h1
        rw [if_pos (show iN (dg 10 W j) < iN (dg 10 V j) by rw [n_lt (by omega) (by omega)]; exact h1), b261_107, b261_112, if_neg (by omega), if_pos h3]
      · have h3 : V < W := c2 (by omega)
        rw [if_neg (show ¬ iN (dg 10 W j) < iN (dg 10 V j) by rw [n_lt (by omega) (by omega)]; exact h1), b261_111, b261_112, if_neg (by omega), if_neg (by omega)]
theorem St.cellC {a a' : Nat → Nat → Int32} {b : Nat → Nat → Int64} {r : Nat → Nat → Option Nat} {σ : SV} {cl cl' : List Cls} {R R' : Nat → List Cls} {TL TS A : Nat} {TR : Nat → Nat} (h : (St a b r σ cl cl' R R' TL TS TR A)) (e : ∀ q, q ≠ 67 → q ≠ 69 → a' q = a q) : (St a' b r σ cl cl' R R' TL TS TR A) :=
  h.qc (fun k hk => e k (fun z => by rw [scV_of (by omega)] at hk; cases hk) (fun z => by rw [scV_of (by omega)] at hk; cases hk)) rfl rfl ⟨h.2.2.2.1.ag (e 52 (by omega) (by omega)) (e 29 (by omega) (by omega)) (e 54 (by omega) (by omega)) rfl, h.2.2.2.2.ag (e 55 (by omega) (by omega)) (e 61 (by omega) (by omega)) rfl⟩
def fitsV (σ : SV) (v1 v2 v3 v4 : Int32) : Int32 := if inI v1 (iN 0) (iN 10) = true ∧ inI v2 (iN 0) (iN 10) = true ∧ inI v3 (iN 0) (iN 10) = true ∧ inI v4 (iN 0) (iN 10) = true then fitW (prdV (σ 9) v1.toNatClampNeg v2.toNatClampNeg) (prdV (σ 9) v3.toNatClampNeg v4.toNatClampNeg) else -1
theorem c_fits {d : Nat} {n : Nat} {a : Nat → Nat → Int32} {b : Nat → Nat → Int64} {r : Nat → Nat → Option Nat} {σ : SV} {cl cl' : List Cls} {R R' : Nat → List Cls} {TL TS A : Nat} {TR : Nat → Nat} (h : (St a b r σ cl cl' R R' TL TS TR A)) {v1 v2 v3 v4 : Int32} : ∃ a' b', Den (d+8) 121 0 [.ref 14, .int v1, .int v2, .int v3, .int v4, zmJ] [] (zmMk n a b r) = some (some (.int (fitsV σ v1 v2 v3 v4)), zmMk n a' b' r) ∧ St a' b' r σ cl cl' R R' TL TS TR A := by
  obtain ⟨⟨n1, n8⟩, h16, h94, hs⟩ := h.n8
  unfold fitsV
  by_cases g1 : inI v1 (iN 0) (iN 10) = true
  · by_cases g2 : inI v2 (iN 0) (iN 10) = true
    · by_cases g3 : inI v3 (iN 0) (iN 10) = true
      · by_cases g4 : inI v4 (iN 0) (iN 10) = true
        · obtain ⟨s, -, s1, rfl⟩ := inI_ex (by decide) (by decide) g1
          obtain ⟨z, -, z1, rfl⟩ := inI_ex (by decide) (by decide) g2
          obtain ⟨x, -, x1, rfl⟩ := inI_ex (by decide) (by decide) g3
          obtain ⟨y, -, y1, rfl⟩ := inI_ex (by decide) (by decide) g4
          have hG : σ 9 0 + σ 9 2 ≤ 60 ∧ σ 9 1 ≤ σ 9 0 ∧ σ 9 3 ≤ σ 9 2 := h.1.1.2.2.2.2
          have q1 := prdV_lt hG s1 z1
          have q2 := prdV_lt hG x1 y1
          rw [if_pos ⟨g1, g2, g3, g4⟩, n_nat (show s < 2147483648 by omega), n_nat (show z < 2147483648 by omega), n_nat (show x < 2147483648 by omega), n_nat (show y < 2147483648 by omega)]
          have K0 : ∀ j, j < 4 → a 19 j = iN (σ 9 j) := h.2.1.2.2.1.2.2.2.2
          obtain ⟨a1, e1, w1, o1⟩ := gs_49f (d := d+5) (n := n) (b := b) (r := r) (G := σ 9) hG K0 s1 z1
          obtain ⟨a2, e2, w2, o2⟩ := gs_49s (d := d+5) (n := n) (b := b) (r := r) (a := a1) (G := σ 9) hG (fun j hj => by rw [o1 19 (by omega)]; exact K0 j hj) x1 y1
          have e3 : Den (d+7) 51 0 [.ref 66, .ref 68, zmJ, zmJ] [] (zmMk n a2 b r) = some (some (.int (ordV (prdV (σ 9) s z) (prdV (σ 9) x y))), zmMk n a2 b r) := by
            rw [b51_0]
            exact c_cmpL (d := d+6) (fun j hj => by rw [o2 67 (by omega)]; exact w1 j hj) w2 16 zmJ (Nat.le_refl _) (by rw [Nat.div_eq_of_lt (by rw [show (10000 ^ 16 : Nat) = 10 ^ 64 by decide]; exact q1), Nat.div_eq_of_lt (by rw [show (10000 ^ 16 : Nat) = 10 ^ 64 by decide]; exact q2)])
          refine ⟨a2, b, ?_, h.cellC (fun q hq1 hq2 => (o2 q hq2).trans (o1 q hq1))⟩
          simp only [b121_0, c_within, Option.bind_some, Option.toList_some, Option.toList_none, List.cons_append, List.nil_append, true_or, or_true, if_true, bI_if, b121_7, bI_if, g1, b121_10, b121_17, g2, b121_20, b121_27, g3, b121_30, b121_38, g4, b121_43, e1, b121_59, e2, b121_76, e3, b121_87, if_true, if_false, Bool.false_eq_true, true_and, and_true, false_and, and_false, true_or, or_true, false_or, or_false, and_self, or_self, decide_true, decide_false, Bool.not_true, Bool.not_false, Bool.and_true, Bool.and_false, Bool.true_and, Bool.false_and, ite_self]
          generalize prdV (σ 9) s z = V
          generalize prdV (σ 9) x y = W
          unfold ordV fitW
          by_cases h1 : V < W
          · rw [if_pos h1, if_neg (by decide +kernel), b121_98, if_pos (by decide +kernel), b121_103, b121_108, if_neg (by omega), if_neg (by omega)]
          · rw [if_neg h1]
            by_cases h2 : V = W
            · rw [if_pos h2, if_neg (by decide +kernel), b121_98, if_neg (by decide +kernel), b121_107, b121_108, if_pos h2]
            · rw [if_neg h2, if_pos (by decide +kernel), b121_94, b121_108, if_neg h2, if_pos (by omega)]
        · refine ⟨a, b, ?_, h⟩
          simp only [b121_0, b121_7, b121_10, b121_17, b121_20, b121_27, b121_30, b121_38, b121_41, h16, h94, hs, c_within, Option.bind_some, Option.toList_some, Option.toList_none, List.cons_append, List.nil_append, true_or, or_true, if_true, bI_if, bI_if, g1, g2, g3, g4, if_true, if_false, Bool.false_eq_true, true_and, and_true, false_and, and_false, true_or, or_true, false_or, or_false, and_self, or_self, decide_true, decide_false, Bool.not_true, Bool.not_false, Bool.and_true, Bool.and_false, Bool.true_and, Bool.false_and, ite_self]
      · refine ⟨a, b, ?_, h⟩
        simp only [b121_0, b121_7, b121_10, b121_17, b121_20, b121_27, b121_30, b121_38, b121_41, h16, h94, hs, c_within, Option.bind_some, Option.toList_some, Option.toList_none, List.cons_append, List.nil_append, true_or, or_true, if_true, bI_if, bI_if, g1, g2, g3, if_true, if_false, Bool.false_eq_true, true_and, and_true, false_and, and_false, true_or, or_true, false_or, or_false, and_self, or_self, decide_true, decide_false, Bool.not_true, Bool.not_false, Bool.and_true, Bool.and_false, Bool.true_and, Bool.false_and, ite_self]
    · refine ⟨a, b, ?_, h⟩
      simp only [b121_0, b121_7, b121_10, b121_17, b121_20, b121_27, b121_30, b121_38, b121_41, h16, h94, hs, c_within, Option.bind_some, Option.toList_some, Option.toList_none, List.cons_append, List.nil_append, true_or, or_true, if_true, bI_if, bI_if, g1, g2, if_true, if_false, Bool.false_eq_true, true_and, and_true, false_and, and_false, true_or, or_true, false_or, or_false, and_self, or_self, decide_true, decide_false, Bool.not_true, Bool.not_false, Bool.and_true, Bool.and_false, Bool.true_and, Bool.false_and, ite_self]
  · refine ⟨a, b, ?_, h⟩
    simp only [b121_0, b121_7, b121_10, b121_17, b121_20, b121_27, b121_30, b121_38, b121_41, h16, h94, hs, c_within, Option.bind_some, Option.toList_some, Option.toList_none, List.cons_append, List.nil_append, true_or, or_true, if_true, bI_if, bI_if, g1, if_true, if_false, Bool.false_eq_true, true_and, and_true, false_and, and_false, true_or, or_true, false_or, or_false, and_self, or_self, decide_true, decide_false, Bool.not_true, Bool.not_false, Bool.and_true, Bool.and_false, Bool.true_and, Bool.false_and, ite_self]
theorem m_fits {d : Nat} {n : Nat} {a : Nat → Nat → Int32} {b : Nat → Nat → Int64} {r : Nat → Nat → Option Nat} {σ : SV} {cl cl' : List Cls} {R R' : Nat → List Cls} {TL TS A : Nat} {TR : Nat → Nat} (h : (St a b r σ cl cl' R R' TL TS TR A)) {v1 v2 v3 v4 : Int32} : ∃ a' b', Den (d+8) 261 0 [.ref 94, .int v1, .int v2, .int v3, .int v4, zmJ] [] (zmMk n a b r) = some (some (.int (fitsV σ v1 v2 v3 v4)), zmMk n a' b' r) ∧ St a' b' r σ cl cl' R R' TL TS TR A := by
  obtain ⟨⟨n1, n8⟩, h16, h94, hs⟩ := h.n8
  unfold fitsV
  by_cases g1 : inI v1 (iN 0) (iN 10) = true
  · by_cases g2 : inI v2 (iN 0) (iN 10) = true
    · by_cases g3 : inI v3 (iN 0) (iN 10) = true
      · by_cases g4 : inI v4 (iN 0) (iN 10) = true
        · obtain ⟨s, -, s1, rfl⟩ := inI_ex (by decide) (by decide) g1
          obtain ⟨z, -, z1, rfl⟩ := inI_ex (by decide) (by decide) g2
          obtain ⟨x, -, x1, rfl⟩ := inI_ex (by decide) (by decide) g3
          obtain ⟨y, -, y1, rfl⟩ := inI_ex (by decide) (by decide) g4
          have hG : σ 9 0 + σ 9 2 ≤ 60 ∧ σ 9 1 ≤ σ 9 0 ∧ σ 9 3 ≤ σ 9 2 := h.1.1.2.2.2.2
          have q1 := prdV_lt hG s1 z1
          have q2 := prdV_lt hG x1 y1
          rw [if_pos ⟨g1, g2, g3, g4⟩, n_nat (show s < 2147483648 by omega), n_nat (show z < 2147483648 by omega), n_nat (show x < 2147483648 by omega), n_nat (show y < 2147483648 by omega)]
          have K0 : ∀ j, j < 4 → a 136 j = iN (σ 9 j) := h.2.2.1.1.2.2.2.2.2.2
          obtain ⟨a1, e1, w1, o1⟩ := gs_260a (d := d+5) (n := n) (b := b) (r := r) (G := σ 9) hG K0 s1 z1
          obtain ⟨a2, e2, w2, o2⟩ := gs_260b (d := d+5) (n := n) (b := b) (r := r) (a := a1) (G := σ 9) hG (fun j hj => by rw [o1 136 (by omega)]; exact K0 j hj) x1 y1
          have e3 := m_cmpL (d := d+8) (n := n) (b := b) (r := r) (v1 := iN s) (v2 := iN z) (v3 := iN x) (v4 := iN y) (fun j hj => by rw [o2 137 (by omega)]; exact w1 j hj) w2 64 (Nat.le_refl _) (by rw [Nat.div_eq_of_lt q1, Nat.div_eq_of_lt q2])
          rw [n_m1s] at e3
          refine ⟨a2, b, ?_, h.qm ⟨fun k _ _ h1 h2 => (o2 k h2).trans (o1 k h1), fun j _ => by rw [o2 94 (by omega), o1 94 (by omega)]⟩ (fun _ _ => rfl)⟩
          simp only [b261_0, m_in, Option.bind_some, Option.toList_some, Option.toList_none, List.cons_append, List.nil_append, true_or, or_true, if_true, bI_if, b261_7, bI_if, g1, b261_10, b261_17, g2, b261_20, b261_27, g3, b261_30, b261_38, g4, b261_43, e1, b261_53, e2, b261_64, e3, if_true, if_false, Bool.false_eq_true, true_and, and_true, false_and, and_false, true_or, or_true, false_or, or_false, and_self, or_self, decide_true, decide_false, Bool.not_true, Bool.not_false, Bool.and_true, Bool.and_false, Bool.true_and, Bool.false_and, ite_self]
        · refine ⟨a, b, ?_, h⟩
          simp only [b261_0, b261_7, b261_10, b261_17, b261_20, b261_27, b261_30, b261_38, b261_41, h16, h94, hs, m_in, Option.bind_some, Option.toList_some, Option.toList_none, List.cons_append, List.nil_append, true_or, or_true, if_true, bI_if, bI_if, g1, g2, g3, g4, if_true, if_false, Bool.false_eq_true, true_and, and_true, false_and, and_false, true_or, or_true, false_or, or_false, and_self, or_self, decide_true, decide_false, Bool.not_true, Bool.not_false, Bool.and_true, Bool.and_false, Bool.true_and, Bool.false_and, ite_self]
      · refine ⟨a, b, ?_, h⟩
        simp only [b261_0, b261_7, b261_10, b261_17, b261_20, b261_27, b261_30, b261_38, b261_41, h16, h94, hs, m_in, Option.bind_some, Option.toList_some, Option.toList_none, List.cons_append, List.nil_append, true_or, or_true, if_true, bI_if, bI_if, g1, g2, g3, if_true, if_false, Bool.false_eq_true, true_and, and_true, false_and, and_false, true_or, or_true, false_or, or_false, and_self, or_self, decide_true, decide_false, Bool.not_true, Bool.not_false, Bool.and_true, Bool.and_false, Bool.true_and, Bool.false_and, ite_self]
    · refine ⟨a, b, ?_, h⟩
      simp only [b261_0, b261_7, b261_10, b261_17, b261_20, b261_27, b261_30, b261_38, b261_41, h16, h94, hs, m_in, Option.bind_some, Option.toList_some, Option.toList_none, List.cons_append, List.nil_append, true_or, or_true, if_true, bI_if, bI_if, g1, g2, if_true, if_false, Bool.false_eq_true, true_and, and_true, false_and, and_false, true_or, or_true, false_or, or_false, and_self, or_self, decide_true, decide_false, Bool.not_true, Bool.not_false, Bool.and_true, Bool.and_false, Bool.true_and, Bool.false_and, ite_self]
  · refine ⟨a, b, ?_, h⟩
    simp only [b261_0, b261_7, b261_10, b261_17, b261_20, b261_27, b261_30, b261_38, b261_41, h16, h94, hs, m_in, Option.bind_some, Option.toList_some, Option.toList_none, List.cons_append, List.nil_append, true_or, or_true, if_true, bI_if, bI_if, g1, if_true, if_false, Bool.false_eq_true, true_and, and_true, false_and, and_false, true_or, or_true, false_or, or_false, and_self, or_self, decide_true, decide_false, Bool.not_true, Bool.not_false, Bool.and_true, Bool.and_false, Bool.true_and, Bool.false_and, ite_self]
