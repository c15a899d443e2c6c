/-! ===== the class's parser: a CLAUSE ===== -/
theorem prs_or {P c : Nat} (hc : 97 ≤ c) (h2 : c ≤ 121) : (iN P ||| (((iN 1) : Int32) <<< (((iN c - (iN 97)) : Int32) &&& (iN 31)))) = iN (P ||| 2 ^ (c - 97)) := by
  rw [n_sub hc, n_shl (c - 97) (by omega), n_or, Nat.one_mul]
theorem prs_t {P c : Nat} (hP : P < 67108864) (hc : 97 ≤ c) (h2 : c ≤ 121) (h : P.testBit (c - 97) = true) : ((((iN P) : Int32) >>> (((iN c - (iN 97)) : Int32) &&& (iN 31))) &&& (iN 1)) = (iN 1) := by
  rw [n_sub hc, n_shr (c - 97) (by omega) (by omega), n_and, Nat.and_one_is_mod]
  rw [Nat.testBit_eq_decide_div_mod_eq] at h
  rw [of_decide_eq_true h]
theorem prs_lt {P c : Nat} (hP : P < 67108864) (hc : c ≤ 121) : P ||| 2 ^ (c - 97) < 67108864 := by
  have h1 : 2 ^ (c - 97) < 2 ^ 26 := Nat.pow_lt_pow_right (by omega) (by omega)
  exact Nat.or_lt_two_pow (n := 26) hP h1
theorem c_open {d TT s i c P : Nat} {n : Nat} {a : Nat → Nat → Int32} {b : Nat → Nat → Int64} {r : Nat → Nat → Option Nat} (hX : isTx TT) (h0 : a TT 0 = iN i) (hi : i < 16) (h1 : a TT 1 = iN (2 * s)) (h2 : a TT 2 = iN P) (hc : 97 ≤ c) (hc2 : c ≤ 121) : Den (d+1) 85 0 [.ref TT, .int (iN c)] [] (zmMk n a b r) = some (none, zmMk n (uI (uI (uI a (TT + 2) i (iN c)) (TT + 3) i (iN (2 * s))) TT 2 (iN (P ||| 2 ^ (c - 97)))) b r) := by
  obtain ⟨-, l2, l3, l4, -, l6, -, -⟩ := tx_lay hX
  rw [b85_0 hX, h0, c_put l2 (by omega) (by omega) (by decide), puV_n hi (by decide)]
  simp only [Option.bind_some, Option.toList_none, List.nil_append]
  rw [b85_12 hX, uI_ne (show TT ≠ TT + 2 by omega), h0, h1, c_put l3 (by omega) (by omega) (by decide), puV_n hi (by decide)]
  simp only [Option.bind_some, Option.toList_none, List.nil_append]
  rw [b85_27 hX, uI_ne (show TT ≠ TT + 3 by omega), uI_ne (show TT ≠ TT + 2 by omega), h2, prs_or hc hc2]
theorem adF_0 {TT s j : Nat} {a : Nat → Nat → Int32} {x y : Int32} (hj : j ≠ 1) : adF TT a s x y TT j = a TT j := by
  unfold adF
  rw [uI_nj hj, uI_ne (by omega), uI_ne (by omega)]
theorem c_turn {d TT s i : Nat} {n : Nat} {a : Nat → Nat → Int32} {b : Nat → Nat → Int64} {r : Nat → Nat → Option Nat} (hX : isTx TT) (h0 : a TT 0 = iN i) (hi : i < 16) (h1 : a TT 1 = iN (2 * s)) (hs : s ≤ 239) : Den (d+1) 86 0 [.ref TT] [] (zmMk n a b r) = some (none, zmMk n (uI (adF TT a s (iN 0) (iN 0)) (TT + 4) i (iN (2 * (s + 1)))) b r) := by
  obtain ⟨-, l2, l3, l4, -, l6, -, -⟩ := tx_lay hX
  rw [b86_0 hX, c_add hX h1 hs]
  simp only [Option.bind_some, Option.toList_none, List.nil_append]
  rw [b86_6 hX, adF_0 (by omega), h0, adF_1.2.2.1, c_put l4 (by omega) (by omega) (by decide), puV_n hi (by decide)]
  simp only [Option.bind_some, Option.toList_none, List.nil_append]
  rw [b86_21 hX]
theorem c_close {d TT s i : Nat} {n : Nat} {a : Nat → Nat → Int32} {b : Nat → Nat → Int64} {r : Nat → Nat → Option Nat} (hX : isTx TT) (h0 : a TT 0 = iN i) (h1 : a TT 1 = iN (2 * s)) (hs : s ≤ 239) : Den (d+1) 87 0 [.ref TT] [] (zmMk n a b r) = some (none, zmMk n (uI (adF TT a s (iN 0) (iN 0)) TT 0 (iN (i + 1))) b r) := by
  rw [b87_0 hX, c_add hX h1 hs]
  simp only [Option.bind_some, Option.toList_none, List.nil_append]
  rw [b87_6 hX, adF_0 (by omega), h0, n_add]
theorem BadF.w {TT K : Nat} {a a' : Nat → Nat → Int32} (h : BadF TT K a a') : BadF TT 0 a a' := by
  obtain ⟨h1, h2, ⟨k, h3, h4, h5⟩, h6⟩ := h
  exact ⟨h1, h2, ⟨k, by omega, h4, h5⟩, fun j hj => by omega⟩
theorem bd_turn {d TT K : Nat} {n : Nat} {a : Nat → Nat → Int32} {b : Nat → Nat → Int64} {r : Nat → Nat → Option Nat} (hX : isTx TT) (hK : K ≤ 480) (h1 : a TT 1 = iN K) : ∃ a', Den (d+1) 86 0 [.ref TT] [] (zmMk n a b r) = some (none, zmMk n a' b r) ∧ BadF TT 0 a a' := by
  obtain ⟨-, l2, l3, l4, -, l6, -, -⟩ := tx_lay hX
  obtain ⟨a1, e1, f1⟩ := bd_add (d := d) (n := n) (b := b) (r := r) (x := iN 0) (y := iN 0) hX hK h1
  obtain ⟨k0, k1, ⟨K1, k2, k3, k4⟩, k5⟩ := id f1
  have hne : ∀ k, k ≠ TT + 4 → puV 16 a1 (TT + 4) (a1 TT 0) (a1 TT 1) k = a1 k := fun k hk => by
    funext j
    exact puV_ne hk
  refine ⟨puV 16 a1 (TT + 4) (a1 TT 0) (a1 TT 1), ?_, f1.w.trans (Nat.le_refl _) ⟨?_, ⟨fun k _ _ _ _ _ h => hne k h, ?_⟩, ⟨K1, by omega, k3, ?_⟩, fun j hj => by omega⟩⟩
  · rw [b86_0 hX, e1]
    simp only [Option.bind_some, Option.toList_none, List.nil_append]
    rw [b86_6 hX, c_put l4 (by omega) (by omega) (by decide)]
    simp only [Option.bind_some, Option.toList_none, List.nil_append]
    rw [b86_21 hX]
  · rw [hne 44 (by rcases tx_of hX with h | h | h | h | h | h <;> omega)]
  · rw [hne 44 (by rcases tx_of hX with h | h | h | h | h | h <;> omega)]
  · rw [hne TT (by omega)]
    exact k4
theorem bd_close {d TT K : Nat} {n : Nat} {a : Nat → Nat → Int32} {b : Nat → Nat → Int64} {r : Nat → Nat → Option Nat} (hX : isTx TT) (hK : K ≤ 480) (h1 : a TT 1 = iN K) : ∃ a', Den (d+1) 87 0 [.ref TT] [] (zmMk n a b r) = some (none, zmMk n a' b r) ∧ BadF TT 0 a a' := by
  obtain ⟨a1, e1, f1⟩ := bd_add (d := d) (n := n) (b := b) (r := r) (x := iN 0) (y := iN 0) hX hK h1
  obtain ⟨k0, k1, ⟨K1, k2, k3, k4⟩, k5⟩ := id f1
  refine ⟨uI a1 TT 0 (a1 TT 0 + iN 1), ?_, f1.w.trans (Nat.le_refl _) ⟨?_, ⟨fun k _ h _ _ _ _ => uI_ne h, ?_⟩, ⟨K1, by omega, k3, ?_⟩, fun j hj => by omega⟩⟩
  · rw [b87_0 hX, e1]
    simp only [Option.bind_some, Option.toList_none, List.nil_append]
    rw [b87_6 hX]
  · rw [uI_ne (by rcases tx_of hX with h | h | h | h | h | h <;> omega)]
  · rw [uI_ne (by rcases tx_of hX with h | h | h | h | h | h <;> omega)]
  · rw [uI_nj (by omega)]
    exact k4
theorem bd_cond0 {D TT K : Nat} {n : Nat} {a : Nat → Nat → Int32} {b : Nat → Nat → Int64} {r : Nat → Nat → Option Nat} {v1 : Int32} (h5 : r 44 5 = some TT) (hX : isTx TT) (h3 : a 44 3 ≠ iN 0) (hK : K ≤ 480) (h1 : a TT 1 = iN K) : ∃ a', Den (D+1) 37 0 [.ref 44, .int v1, zmJ, zmJ, zmJ, zmJ] [] (zmMk n a b r) = some (none, zmMk n a' b r) ∧ BadF TT 0 a a' := by
  obtain ⟨a', e, F, hs⟩ := bd_lh (d := D) (n := n) (a := a) (b := b) (r := r) (v := -1) (p0 := 0) (k := 0) (z := 0) hX (Or.inl rfl) (by omega)
  have e86 : Den (D+1) 37 86 [.ref 44,.int v1,.int (-1),.int (-1),.int (iN 0),zmJ] [] (zmMk n a b r) = some (none, zmMk n a' b r) := by
    rw [b37_86 h5 hX, e]
    simp only [Option.bind_some, Option.toList_none, List.nil_append]
    rw [b37_94]
  refine ⟨a', ?_, BadF.lh (p0 := 0) hX (by omega) hK (by omega) h1 F hs⟩
  rw [b37_0, b37_7]
  split
  · exact e86
  · rw [b37_16, if_neg h3]
    exact e86
theorem bd_99 {D TT K : Nat} {n : Nat} {a : Nat → Nat → Int32} {b : Nat → Nat → Int64} {r : Nat → Nat → Option Nat} {v : Int32} (h5 : r 44 5 = some TT) (hX : isTx TT) (hK : K ≤ 480) (h1 : a TT 1 = iN K) : ∃ a', Den (D+2) 36 99 [.ref 44,.int v] [] (zmMk n a b r) = some (none, zmMk n a' b r) ∧ BadF TT 0 a a' := by
  obtain ⟨a1, e1, f1⟩ := bd_close (d := D) (n := n) (b := b) (r := r) hX hK h1
  rw [b36_99 h5 hX, e1]
  simp only [Option.bind_some, Option.toList_none, List.nil_append]
  rw [b36_106]
  exact ⟨_, rfl, f1⟩
theorem bd_93 {D TT K : Nat} {n : Nat} {a : Nat → Nat → Int32} {b : Nat → Nat → Int64} {r : Nat → Nat → Option Nat} {v : Int32} (h0 : r 44 0 = some 15) (h5 : r 44 5 = some TT) (hX : isTx TT) (h3 : a 44 3 ≠ iN 0) (hK : K ≤ 480) (h1 : a TT 1 = iN K) : ∃ a', Den (D+2) 36 93 [.ref 44,.int v] [] (zmMk n a b r) = some (none, zmMk n a' b r) ∧ BadF TT 0 a a' := by
  obtain ⟨a1, e1, f1⟩ := bd_take (d := D) (n := n) (b := b) (v := iN 41) h0 hX h3 hK h1
  obtain ⟨k0, k1, ⟨K1, k2, k3, k4⟩, k5⟩ := id f1
  obtain ⟨a2, e2, f2⟩ := bd_99 (D := D) (n := n) (b := b) (v := v) h5 hX k3 k4
  rw [b36_93, e1]
  simp only [Option.bind_some, Option.toList_none, List.nil_append]
  exact ⟨a2, e2, f1.w.trans (Nat.le_refl _) f2⟩
theorem bd_88 {D TT K : Nat} {n : Nat} {a : Nat → Nat → Int32} {b : Nat → Nat → Int64} {r : Nat → Nat → Option Nat} {v : Int32} (h0 : r 44 0 = some 15) (h5 : r 44 5 = some TT) (hX : isTx TT) (h3 : a 44 3 ≠ iN 0) (hK : K ≤ 480) (h1 : a TT 1 = iN K) : ∃ a', Den (D+2) 36 88 [.ref 44,.int v] [] (zmMk n a b r) = some (none, zmMk n a' b r) ∧ BadF TT 0 a a' := by
  obtain ⟨a1, e1, f1⟩ := bd_cond0 (D := D) (n := n) (b := b) (v1 := iN 1) h5 hX h3 hK h1
  obtain ⟨k0, k1, ⟨K1, k2, k3, k4⟩, k5⟩ := id f1
  obtain ⟨a2, e2, f2⟩ := bd_93 (D := D) (n := n) (b := b) (v := v) h0 h5 hX (by rw [k0]; exact h3) k3 k4
  rw [b36_88, e1]
  simp only [Option.bind_some, Option.toList_none, List.nil_append]
  exact ⟨a2, e2, f1.trans (Nat.le_refl _) f2⟩
theorem bd_81 {D TT K : Nat} {n : Nat} {a : Nat → Nat → Int32} {b : Nat → Nat → Int64} {r : Nat → Nat → Option Nat} {v : Int32} (h0 : r 44 0 = some 15) (h5 : r 44 5 = some TT) (hX : isTx TT) (h3 : a 44 3 ≠ iN 0) (hK : K ≤ 480) (h1 : a TT 1 = iN K) : ∃ a', Den (D+2) 36 81 [.ref 44,.int v] [] (zmMk n a b r) = some (none, zmMk n a' b r) ∧ BadF TT 0 a a' := by
  obtain ⟨a1, e1, f1⟩ := bd_turn (d := D) (n := n) (b := b) (r := r) hX hK h1
  obtain ⟨k0, k1, ⟨K1, k2, k3, k4⟩, k5⟩ := id f1
  obtain ⟨a2, e2, f2⟩ := bd_88 (D := D) (n := n) (b := b) (v := v) h0 h5 hX (by rw [k0]; exact h3) k3 k4
  rw [b36_81 h5 hX, e1]
  simp only [Option.bind_some, Option.toList_none, List.nil_append]
  exact ⟨a2, e2, f1.trans (Nat.le_refl _) f2⟩
theorem bd_75 {D TT K : Nat} {n : Nat} {a : Nat → Nat → Int32} {b : Nat → Nat → Int64} {r : Nat → Nat → Option Nat} {v : Int32} (h0 : r 44 0 = some 15) (h5 : r 44 5 = some TT) (hX : isTx TT) (h3 : a 44 3 ≠ iN 0) (hK : K ≤ 480) (h1 : a TT 1 = iN K) : ∃ a', Den (D+2) 36 75 [.ref 44,.int v] [] (zmMk n a b r) = some (none, zmMk n a' b r) ∧ BadF TT 0 a a' := by
  obtain ⟨a1, e1, f1⟩ := bd_take (d := D) (n := n) (b := b) (v := iN 40) h0 hX h3 hK h1
  obtain ⟨k0, k1, ⟨K1, k2, k3, k4⟩, k5⟩ := id f1
  obtain ⟨a2, e2, f2⟩ := bd_81 (D := D) (n := n) (b := b) (v := v) h0 h5 hX (by rw [k0]; exact h3) k3 k4
  rw [b36_75, e1]
  simp only [Option.bind_some, Option.toList_none, List.nil_append]
  exact ⟨a2, e2, f1.w.trans (Nat.le_refl _) f2⟩
theorem bd_clause {D : Nat} {n : Nat} {a : Nat → Nat → Int32} {b : Nat → Nat → Int64} {r : Nat → Nat → Option Nat} (h0 : r 44 0 = some 15) (h3 : a 44 3 ≠ iN 0) : Den (D+1) 36 0 [.ref 44, zmJ] [] (zmMk n a b r) = some (none, (zmMk n a b r)) := by
  obtain ⟨w, e⟩ := bd_next (d := D) (n := n) (a := a) (b := b) h0
  rw [b36_0, e]
  simp only [Option.bind_some, Option.toList_some, Option.toList_none, List.cons_append, List.nil_append, true_or, or_true, if_true, bI_if]
  rw [b36_4, if_neg h3, b36_28, bd_fail h3]
  simp only [Option.bind_some, Option.toList_none, List.nil_append]
  rw [b36_33]
/-- CLAUSE i as it is noted, all below order s -/
def TxQ (a : Nat → Nat → Int32) (TT s i : Nat) (c : Cls) (h k : Nat) : Prop := a (TT + 2) i = iN c.1 ∧ a (TT + 3) i = iN h ∧ a (TT + 4) i = iN k ∧ LayC (a (TT + 1)) h c.2.1 ∧ a (TT + 1) (h + 2 * c.2.1.length) = iN 0 ∧ h + 2 * c.2.1.length + 2 ≤ 2 * s ∧ LayC (a (TT + 1)) k c.2.2 ∧ a (TT + 1) (k + 2 * c.2.2.length) = iN 0 ∧ k + 2 * c.2.2.length + 2 ≤ 2 * s ∧ gdC c ∧ 97 ≤ c.1 ∧ c.1 ≤ 121
def TxP (TT s : Nat) (cl : List Cls) (a : Nat → Nat → Int32) : Prop := a TT 0 = iN cl.length ∧ cl.length ≤ 16 ∧ s ≤ 240 ∧ (∃ P, P < 67108864 ∧ a TT 2 = iN P ∧ ∀ c, c ∈ cl → P.testBit (c.1 - 97) = true) ∧ ∀ i c, cl[i]? = some c → ∃ h k, TxQ a TT s i c h k
theorem TxP.C {TT s : Nat} {cl : List Cls} {a : Nat → Nat → Int32} (h : TxP TT s cl a) : TxC a TT cl := by
  obtain ⟨h1, h2, h3, ⟨P, h4, h5, h6⟩, h7⟩ := h
  refine ⟨h1, h2, fun i c hc => ?_⟩
  obtain ⟨h, k, t1, t2, t3, t4, t5, t6, t7, t8, t9, t10, t11, t12⟩ := h7 i c hc
  refine ⟨h, k, t1, ?_, t2, t3, t4, t5, by omega, t7, t8, by omega, t10, by omega⟩
  unfold prsC
  rw [h5]
  exact prs_t h4 t11 t12 (h6 c (List.mem_iff_getElem?.mpr ⟨i, hc⟩))
def ClsR (n TT len : Nat) (nx : Nat → Nat) (b : Nat → Nat → Int64) (r : Nat → Nat → Option Nat) (a : Nat → Nat → Int32) (s : Nat) (cl : List Cls) (z : (Nat × Nat) ⊕ (Nat × Cls)) (X : Option (Option Value × zmH)) : Prop := match z with
  | .inl e => ∃ a', X = some (none, zmMk n a' b r) ∧ a' 44 3 = fltI e.1 e.2 ∧ frP TT a a'
  | .inr (q, c) => ∃ a', X = some (none, zmMk n a' b r) ∧ PrS TT len nx (s + c.2.1.length + c.2.2.length + 2) q a' ∧ TxP TT (s + c.2.1.length + c.2.2.length + 2) (cl ++ [c]) a' ∧ frP TT a a'
/-- the letters of a TEXT's CLAUSES, as the string sr has them -/
def LetC (n sr : Nat) (r : Nat → Nat → Option Nat) (isL : Nat → Bool) : Prop := r 44 4 = some sr ∧ (∀ a b r', zmRecv sr 277 (zmMk n a b r') = true) ∧ isL 256 = false ∧ (∀ c, isL c = true → 97 ≤ c ∧ c ≤ 121) ∧ ∀ (d c : Nat) (a : Nat → Nat → Int32) (b : Nat → Nat → Int64), c < 256 → CstC a → ∃ v, Den (d+4) 277 0 [.ref sr, .int (iN c)] [] (zmMk n a b r) = some (some (.int v), (zmMk n a b r)) ∧ ((isL c = true ∧ ¬ v < iN 0) ∨ (isL c = false ∧ v < iN 0))
theorem frP.ad {TT : Nat} (hX : isTx TT) {a : Nat → Nat → Int32} {s : Nat} {x y : Int32} : frP TT a (adF TT a s x y) := (frQ.ad hX).P
theorem frP.p {TT k j : Nat} (hX : isTx TT) {a : Nat → Nat → Int32} {v : Int32} (hk : TT ≤ k) (hk2 : k ≤ TT + 4) : frP TT a (uI a k j v) := by
  refine ⟨fun q h1 h2 h3 h4 h5 h6 => uI_ne (by omega), ?_⟩
  rw [uI_ne (by rcases tx_of hX with h | h | h | h | h | h <;> omega)]
theorem PrS.p {TT len s p k j : Nat} {nx : Nat → Nat} {a : Nat → Nat → Int32} {v : Int32} (hX : isTx TT) (h : PrS TT len nx s p a) (hk : TT ≤ k) (hk2 : k ≤ TT + 4) (hj : k = TT → j ≠ 1) : PrS TT len nx s p (uI a k j v) := by
  obtain ⟨a1, a2, a3, a4, a5, a6⟩ := h
  have h44 : uI a k j v 44 = a 44 := uI_ne (by rcases tx_of hX with h | h | h | h | h | h <;> omega)
  refine ⟨by rw [h44]; exact a1, by rw [h44]; exact a2, by rw [h44]; exact a3, ?_, fun i hi => ?_, a6.ag (fun q hq => uI_ne (by rcases tx_of hX with h | h | h | h | h | h <;> omega))⟩
  · rw [uI_at, if_neg (fun e => hj e.1.symm e.2.symm)]
    exact a4
  · rw [uI_ne (by rcases tx_of hX with h | h | h | h | h | h <;> omega)]
    exact a5 i hi
