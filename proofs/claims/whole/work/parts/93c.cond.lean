/-! ===== the class's parser: leaps, condition, piece ===== -/
theorem lenS_nil : lenS [] = 0 := rfl
theorem lenS_cons (o : Ops) (os : List Ops) : lenS (o :: os) = o.length + 1 + lenS os := rfl
theorem lenS_len (os : List Ops) : os.length ≤ lenS os := by
  induction os with
  | nil => exact Nat.le_refl _
  | cons o os ih =>
    rw [lenS_cons]
    show os.length + 1 ≤ _
    omega
/-- pieces laid (last first), an open leap behind each: it tells the one before -/
def HR (f : Nat → Int32) (w p0 : Nat) : List Ops → Int32 → Prop
  | [], v => v = -1
  | o :: os, v => LayC f (p0 + 2 * lenS os) o ∧ f (p0 + 2 * lenS os + 2 * o.length) = iN (ccO w) ∧ v = iN (p0 + 2 * lenS os + 2 * o.length) ∧ HR f w p0 os (f (p0 + 2 * lenS os + 2 * o.length + 1))
/-- pieces laid, the leaps go to z -/
def HD (f : Nat → Int32) (w z p0 : Nat) : List Ops → Prop
  | [] => True
  | o :: os => LayC f (p0 + 2 * lenS os) o ∧ f (p0 + 2 * lenS os + 2 * o.length) = iN (ccO w) ∧ f (p0 + 2 * lenS os + 2 * o.length + 1) = iN z ∧ HD f w z p0 os
theorem HR.ag {f g : Nat → Int32} {w p0 : Nat} {R : List Ops} : ∀ {v : Int32}, HR f w p0 R v → (∀ j, p0 ≤ j → j < p0 + 2 * lenS R → g j = f j) → HR g w p0 R v := by
  induction R with
  | nil => exact fun h _ => h
  | cons o os ih =>
    intro v h hg
    rw [lenS_cons] at hg
    obtain ⟨h1, h2, h3, h4⟩ := h
    refine ⟨h1.ag (fun j h5 h6 => hg j (by omega) (by omega)), by rw [hg _ (by omega) (by omega)]; exact h2, h3, ?_⟩
    rw [hg _ (by omega) (by omega)]
    exact ih h4 (fun j h5 h6 => hg j h5 (by omega))
theorem HD.ag {f g : Nat → Int32} {w z p0 : Nat} {R : List Ops} : HD f w z p0 R → (∀ j, p0 ≤ j → j < p0 + 2 * lenS R → g j = f j) → HD g w z p0 R := by
  induction R with
  | nil => exact fun h _ => h
  | cons o os ih =>
    intro h hg
    rw [lenS_cons] at hg
    obtain ⟨h1, h2, h3, h4⟩ := h
    exact ⟨h1.ag (fun j h5 h6 => hg j (by omega) (by omega)), by rw [hg _ (by omega) (by omega)]; exact h2, by rw [hg _ (by omega) (by omega)]; exact h3, ih h4 (fun j h5 h6 => hg j h5 (by omega))⟩
theorem HD_jn {f : Nat → Int32} {w z p0 : Nat} (hw : w = 11 ∨ w = 12) {R : List Ops} : ∀ {T : List Ops}, T ≠ [] → HD f w z p0 R → LayC f (p0 + 2 * lenS R) (jn w T) → z = p0 + 2 * lenS R + 2 * (jn w T).length → LayC f p0 (jn w (R.reverse ++ T)) ∧ (jn w (R.reverse ++ T)).length = lenS R + (jn w T).length := by
  induction R with
  | nil =>
    intro T hT h hl hz
    refine ⟨?_, ?_⟩
    · exact hl
    · show (jn w T).length = 0 + (jn w T).length
      omega
  | cons o R ih =>
    intro T hT h hl hz
    rw [lenS_cons] at hl hz
    obtain ⟨h1, h2, h3, h4⟩ := h
    have ej : jn w (o :: T) = o ++ ((w, (jn w T).length) :: jn w T) := by
      cases T with
      | nil => exact absurd rfl hT
      | cons t T => rfl
    have el : (jn w (o :: T)).length = o.length + ((jn w T).length + 1) := by
      rw [ej, List.length_append]
      rfl
    have hl2 : LayC f (p0 + 2 * lenS R) (jn w (o :: T)) := by
      rw [ej, LayC.app]
      refine ⟨h1, h2, fun q => by omega, fun _ => ?_, ?_⟩
      · rw [h3]
        congr 1
        omega
      · rw [show p0 + 2 * lenS R + 2 * o.length + 2 = p0 + 2 * (o.length + 1 + lenS R) by omega]
        exact hl
    obtain ⟨i1, i2⟩ := ih (T := o :: T) (by simp) h4 hl2 (by rw [el]; omega)
    rw [List.reverse_cons, List.append_assoc]
    refine ⟨i1, ?_⟩
    show (jn w (R.reverse ++ (o :: T))).length = _
    rw [i2, el, lenS_cons]
    omega
theorem c_lhL {d n TT w p0 z : Nat} {b : Nat → Nat → Int64} {r : Nat → Nat → Option Nat} {v1 : Int32} (hX : isTx TT) (hz : z ≤ 480) (R : List Ops) : ∀ (v : Int32) (left : Nat) (u4 : Value) (a : Nat → Nat → Int32), HR (a (TT + 1)) w p0 R v → a TT 1 = iN z → p0 + 2 * lenS R ≤ z → R.length < left → left ≤ 480 → ∃ a', Den d 89 6 [.ref TT,.int v1,.int v,.int (iN left),u4] [] (zmMk n a b r) = some (none, zmMk n a' b r) ∧ (∀ k, k ≠ TT + 1 → a' k = a k) ∧ HD (a' (TT + 1)) w z p0 R ∧ ∀ j, (j < p0 ∨ p0 + 2 * lenS R ≤ j) → a' (TT + 1) j = a (TT + 1) j := by
  induction R with
  | nil =>
    intro v left u4 a h h1 hp hl h480
    have hv : v = -1 := h
    refine ⟨a, ?_, fun _ _ => rfl, trivial, fun _ _ => rfl⟩
    rw [b89_6 hX, if_pos (lt_p (by have : ([] : List Ops).length = 0 := rfl; omega) (by omega)), b89_10 hX, hv, if_pos m1_neg, b89_56 hX]
  | cons o R ih =>
    intro v left u4 a h h1 hp hl h480
    rw [lenS_cons] at hp
    have hll : (o :: R).length = R.length + 1 := rfl
    rw [hll] at hl
    obtain ⟨g1, g2, g3, g4⟩ := h
    have hne : ∀ j, j < p0 + 2 * lenS R → uI a (TT + 1) (p0 + 2 * lenS R + 2 * o.length + 1) (iN z) (TT + 1) j = a (TT + 1) j := fun j hj => uI_nj (by omega)
    obtain ⟨a', e, F, hd, hs⟩ := ih (a (TT + 1) (p0 + 2 * lenS R + 2 * o.length + 1)) (left - 1) (.int (a (TT + 1) (p0 + 2 * lenS R + 2 * o.length + 1))) (uI a (TT + 1) (p0 + 2 * lenS R + 2 * o.length + 1) (iN z)) (g4.ag (fun j _ h6 => hne j h6)) (by rw [uI_ne (by omega)]; exact h1) (by omega) (by omega) (by omega)
    refine ⟨a', ?_, fun k hk => by rw [F k hk, uI_ne hk], ⟨?_, ?_, ?_, hd⟩, fun j hj => ?_⟩
    · rw [b89_6 hX, if_pos (lt_p (by omega) (by omega)), b89_10 hX, g3, if_neg (ng (by omega)), b89_14 hX, n_add, if_pos (lt_p (by omega) (by omega)), b89_25 hX, n_add, n_in (by omega), if_pos (decide_eq_true (by omega)), n_nat (by omega), b89_33 hX, n_add, n_in (by omega), if_pos (decide_eq_true (by omega)), n_nat (by omega), h1, b89_47 hX, n_pm (by omega)]
      exact e
    · refine g1.ag (fun j h5 h6 => ?_)
      rw [hs j (by omega), uI_nj (by omega)]
    · rw [hs _ (by omega), uI_nj (by omega)]
      exact g2
    · rw [hs _ (by omega)]
      exact uI_self
    · rw [lenS_cons] at hj
      rw [hs j (by omega), uI_nj (by omega)]
theorem c_lh {d n TT w p0 z : Nat} {a : Nat → Nat → Int32} {b : Nat → Nat → Int64} {r : Nat → Nat → Option Nat} {v : Int32} {R : List Ops} (hX : isTx TT) (hz : z ≤ 480) (h : HR (a (TT + 1)) w p0 R v) (h1 : a TT 1 = iN z) (hp : p0 + 2 * lenS R ≤ z) : ∃ a', Den (d) 89 0 [.ref TT, .int v, zmJ, zmJ, zmJ] [] (zmMk n a b r) = some (none, zmMk n a' b r) ∧ (∀ k, k ≠ TT + 1 → a' k = a k) ∧ HD (a' (TT + 1)) w z p0 R ∧ ∀ j, (j < p0 ∨ p0 + 2 * lenS R ≤ j) → a' (TT + 1) j = a (TT + 1) j := by
  rw [b89_0 hX]
  exact c_lhL hX hz R v 480 zmJ a h h1 hp (by have := lenS_len R; omega) (by omega)
/-- a leap is noted -/
theorem c_leap {d TT len s p : Nat} {n : Nat} {a : Nat → Nat → Int32} {b : Nat → Nat → Int64} {r : Nat → Nat → Option Nat} {nx : Nat → Nat} {x y : Int32} (hH : PrH r TT len nx) (h : PrS TT len nx s p a) (hs : s ≤ 239) : Den (d+1) 38 0 [.ref 44, .int x, .int y, zmJ] [] (zmMk n a b r) = some (some (.int (iN (2 * s))), zmMk n (uI (adF TT a s x y) 44 2 (iN (p + 1))) b r) := by
  obtain ⟨h0, h5, hX, hl240, hn, hb⟩ := id hH
  rw [b38_0 h5 hX, c_add hX h.2.2.2.1 hs]
  simp only [Option.bind_some, Option.toList_none, List.nil_append]
  rw [b38_17, (h.ad hX).at2, h.2.2.2.1]
/-- a chain of leaps, as far as a walk over it needs it -/
def CB (f : Nat → Int32) (p0 : Nat) : Nat → Nat → Int32 → Prop
  | 0, _, v => v = -1 ∨ ∃ h : Nat, v = iN h ∧ 479 ≤ h ∧ h ≤ 480
  | k + 1, z, v => ∃ h : Nat, v = iN h ∧ p0 ≤ h ∧ h + 1 < z ∧ z ≤ 480 ∧ CB f p0 k h (f (h + 1))
theorem CB.ag {f g : Nat → Int32} {p0 : Nat} (k : Nat) : ∀ {z : Nat} {v : Int32}, CB f p0 k z v → (∀ j, j < z → g j = f j) → CB g p0 k z v := by
  induction k with
  | zero => exact fun h _ => h
  | succ k ih =>
    intro z v h hg
    obtain ⟨h1, h2, h3, h4, h5, h6⟩ := h
    refine ⟨h1, h2, h3, h4, h5, ?_⟩
    rw [hg _ h4]
    exact ih h6 (fun j hj => hg j (by omega))
theorem HR.cb {f : Nat → Int32} {w p0 : Nat} {R : List Ops} : ∀ {z : Nat} {v : Int32}, HR f w p0 R v → p0 + 2 * lenS R ≤ z → z ≤ 480 → CB f p0 R.length z v := by
  induction R with
  | nil => exact fun h _ _ => Or.inl h
  | cons o R ih =>
    intro z v h hz h480
    rw [lenS_cons] at hz
    obtain ⟨h1, h2, h3, h4⟩ := h
    exact ⟨p0 + 2 * lenS R + 2 * o.length, h3, by omega, by omega, h480, ih h4 (by omega) (by omega)⟩
theorem bd_lhL {d n TT p0 : Nat} {b : Nat → Nat → Int64} {r : Nat → Nat → Option Nat} {v1 : Int32} (hX : isTx TT) (k : Nat) : ∀ (z : Nat) (v : Int32) (left : Nat) (u4 : Value) (a : Nat → Nat → Int32), CB (a (TT + 1)) p0 k z v → k < left → left ≤ 480 → ∃ a', Den d 89 6 [.ref TT,.int v1,.int v,.int (iN left),u4] [] (zmMk n a b r) = some (none, zmMk n a' b r) ∧ (∀ k, k ≠ TT + 1 → a' k = a k) ∧ ∀ j, j < p0 → a' (TT + 1) j = a (TT + 1) j := by
  induction k with
  | zero =>
    intro z v left u4 a h hl h480
    refine ⟨a, ?_, fun _ _ => rfl, fun _ _ => rfl⟩
    rw [b89_6 hX, if_pos (lt_p (by omega) (by omega)), b89_10 hX]
    rcases h with h | ⟨q, h, h2, h3⟩
    · rw [h, if_pos m1_neg, b89_56 hX]
    · rw [h, if_neg (ng (by omega)), b89_14 hX, n_add, if_neg (lt_n (by omega) (by omega)), b89_56 hX]
  | succ k ih =>
    intro z v left u4 a h hl h480
    obtain ⟨q, h1, h2, h3, h4, h5⟩ := h
    have hne : ∀ j, j < q → uI a (TT + 1) (q + 1) (a TT 1) (TT + 1) j = a (TT + 1) j := fun j hj => uI_nj (by omega)
    obtain ⟨a', e, F, hs⟩ := ih q (a (TT + 1) (q + 1)) (left - 1) (.int (a (TT + 1) (q + 1))) (uI a (TT + 1) (q + 1) (a TT 1)) (h5.ag k hne) (by omega) (by omega)
    refine ⟨a', ?_, fun k hk => by rw [F k hk, uI_ne hk], fun j hj => by rw [hs j hj, uI_nj (by omega)]⟩
    rw [b89_6 hX, if_pos (lt_p (by omega) (by omega)), b89_10 hX, h1, if_neg (ng (by omega)), b89_14 hX, n_add, if_pos (lt_p (by omega) (by omega)), b89_25 hX, n_add, n_in (by omega), if_pos (decide_eq_true (by omega)), n_nat (by omega), b89_33 hX, n_add, n_in (by omega), if_pos (decide_eq_true (by omega)), n_nat (by omega), b89_47 hX, n_pm (by omega)]
    exact e
theorem bd_lh {d n TT p0 k z : Nat} {a : Nat → Nat → Int32} {b : Nat → Nat → Int64} {r : Nat → Nat → Option Nat} {v : Int32} (hX : isTx TT) (h : CB (a (TT + 1)) p0 k z v) (hk : k < 480) : ∃ a', Den (d) 89 0 [.ref TT, .int v, zmJ, zmJ, zmJ] [] (zmMk n a b r) = some (none, zmMk n a' b r) ∧ (∀ k, k ≠ TT + 1 → a' k = a k) ∧ ∀ j, j < p0 → a' (TT + 1) j = a (TT + 1) j := by
  rw [b89_0 hX]
  exact bd_lhL hX k z v 480 zmJ a h hk (by omega)
theorem bd_leap {d TT K : Nat} {n : Nat} {a : Nat → Nat → Int32} {b : Nat → Nat → Int64} {r : Nat → Nat → Option Nat} {x y : Int32} (h5 : r 44 5 = some TT) (hX : isTx TT) (hK : K ≤ 480) (h1 : a TT 1 = iN K) : ∃ a', Den (d+1) 38 0 [.ref 44, .int x, .int y, zmJ] [] (zmMk n a b r) = some (some (.int (iN K)), zmMk n a' b r) ∧ BadF TT K a a' ∧ (K + 1 < 480 → a' (TT + 1) (K + 1) = y ∧ a' TT 1 = iN (K + 2)) := by
  have key : ∃ a1, Den (d) 88 0 [.ref TT, .int x, .int y] [] (zmMk n a b r) = some (none, zmMk n a1 b r) ∧ BadF TT K a a1 ∧ (K + 1 < 480 → a1 (TT + 1) (K + 1) = y ∧ a1 TT 1 = iN (K + 2)) := by
    by_cases h2 : K + 1 < 480
    · refine ⟨uI (uI (uI a (TT + 1) K x) (TT + 1) (K + 1) y) TT 1 (iN (K + 2)), ?_, ⟨?_, ?_, ⟨K + 2, by omega, by omega, uI_self⟩, fun j hj => ?_⟩, fun _ => ⟨?_, uI_self⟩⟩
      · rw [b88_0 hX, h1, if_neg (ng (by omega)), b88_7 hX, h1, n_add, if_pos (lt_p (by omega) (by omega)), b88_21 hX, h1, n_in (by omega), if_pos (decide_eq_true (by omega)), n_nat (by omega), b88_31 hX, uI_ne (show TT ≠ TT + 1 by omega), h1, n_add, n_in (by omega), if_pos (decide_eq_true (by omega)), n_nat (by omega), b88_43 hX, uI_ne (show TT ≠ TT + 1 by omega), uI_ne (show TT ≠ TT + 1 by omega), h1, n_add, b88_53 hX]
      · rw [uI_ne (by rcases tx_of hX with h | h | h | h | h | h <;> omega), uI_ne (by rcases tx_of hX with h | h | h | h | h | h <;> omega), uI_ne (by rcases tx_of hX with h | h | h | h | h | h <;> omega)]
      · refine ⟨fun k g1 g2 g3 _ _ _ => by rw [uI_ne g2, uI_ne g3, uI_ne g3], ?_⟩
        rw [uI_ne (by rcases tx_of hX with h | h | h | h | h | h <;> omega), uI_ne (by rcases tx_of hX with h | h | h | h | h | h <;> omega), uI_ne (by rcases tx_of hX with h | h | h | h | h | h <;> omega)]
      · rw [uI_ne (by omega), uI_nj (by omega), uI_nj (by omega)]
      · rw [uI_ne (by omega), uI_self]
    · refine ⟨a, ?_, BadF.refl hK h1, fun h => absurd h h2⟩
      rw [b88_0 hX, h1, if_neg (ng (by omega)), b88_7 hX, h1, n_add, if_neg (lt_n (by omega) (by omega)), b88_53 hX]
  obtain ⟨a1, e1, f1, g1⟩ := key
  obtain ⟨k0, k1, ⟨K1, k2, k3, k4⟩, k5⟩ := id f1
  refine ⟨uI a1 44 2 (a1 44 2 + iN 1), ?_, f1.trans k2 (BadF.at hX k3 k4), fun h => ?_⟩
  · rw [b38_0 h5 hX, e1]
    simp only [Option.bind_some, Option.toList_none, List.nil_append]
    rw [b38_17, h1]
  · have h6 := g1 h
    rw [uI_ne (by rcases tx_of hX with h | h | h | h | h | h <;> omega), uI_ne (by rcases tx_of hX with h | h | h | h | h | h <;> omega)]
    exact h6
/-- a condition's end -/
theorem c_86 {D n TT p0 z : Nat} {a : Nat → Nat → Int32} {b : Nat → Nat → Int64} {r : Nat → Nat → Option Nat} {v1 v2 v3 v4 : Int32} {u5 : Value} {R : List Ops} (h5 : r 44 5 = some TT) (hX : isTx TT) (hz : z ≤ 480) (h : HR (a (TT + 1)) 12 p0 R v2) (h1 : a TT 1 = iN z) (hp : p0 + 2 * lenS R ≤ z) : ∃ a', Den (D+1) 37 86 [.ref 44,.int v1,.int v2,.int v3,.int v4,u5] [] (zmMk n a b r) = some (none, zmMk n a' b r) ∧ (∀ k, k ≠ TT + 1 → a' k = a k) ∧ HD (a' (TT + 1)) 12 z p0 R ∧ ∀ j, (j < p0 ∨ p0 + 2 * lenS R ≤ j) → a' (TT + 1) j = a (TT + 1) j := by
  obtain ⟨a', e, F, hd, hs⟩ := c_lh (d := D) (n := n) (b := b) (r := r) hX hz h h1 hp
  refine ⟨a', ?_, F, hd, hs⟩
  rw [b37_86 h5 hX, e]
  simp only [Option.bind_some, Option.toList_none, List.nil_append]
  rw [b37_94]
theorem BadF.lh {TT K p0 : Nat} {a a' : Nat → Nat → Int32} (hX : isTx TT) (hK : K ≤ p0) {z : Nat} (hz : z ≤ 480) (hKz : K ≤ z) (h1 : a TT 1 = iN z) (F : ∀ k, k ≠ TT + 1 → a' k = a k) (hs : ∀ j, j < p0 → a' (TT + 1) j = a (TT + 1) j) : BadF TT K a a' := by
  have h44 : a' 44 = a 44 := F 44 (by rcases tx_of hX with h | h | h | h | h | h <;> omega)
  exact ⟨by rw [h44], ⟨fun k _ _ h3 _ _ _ => F k h3, by rw [h44]⟩, ⟨z, hKz, hz, by rw [F TT (by omega)]; exact h1⟩, fun j hj => hs j (by omega)⟩
/-- behind a FAULT a condition goes to its end -/
theorem bd_cnd {D n TT K s0 : Nat} {a : Nat → Nat → Int32} {b : Nat → Nat → Int64} {r : Nat → Nat → Option Nat} {v1 v2 v3 v4 : Int32} {u5 : Value} {RQ RP : List Ops} (h0 : r 44 0 = some 15) (h5 : r 44 5 = some TT) (hX : isTx TT) (h3 : a 44 3 ≠ iN 0) (hK : K ≤ 480) (h1 : a TT 1 = iN K) (hl : 2 * s0 + 2 * lenS RQ + 2 * lenS RP ≤ K) (hQ : HR (a (TT + 1)) 12 (2 * s0) RQ v2) (hP : HR (a (TT + 1)) 11 (2 * s0 + 2 * lenS RQ) RP v3) : ∃ a', Den (D+2) 37 28 [.ref 44,.int v1,.int v2,.int v3,.int v4,u5] [] (zmMk n a b r) = some (none, zmMk n a' b r) ∧ BadF TT (2 * s0) a a' := by
  have hlQ := lenS_len RQ
  have key : ∀ (v2' v3' v4' : Int32) (u5' : Value) (a1 : Nat → Nat → Int32) (K1 k z : Nat), K1 ≤ 480 → 2 * s0 ≤ K1 → a1 TT 1 = iN K1 → CB (a1 (TT + 1)) (2 * s0) k z v2' → k < 480 → ∃ a', Den (D+2) 37 86 [.ref 44,.int v1,.int v2',.int v3',.int v4',u5'] [] (zmMk n a1 b r) = some (none, zmMk n a' b r) ∧ BadF TT (2 * s0) a1 a' := by
    intro v2' v3' v4' u5' a1 K1 k z gK gl g1 gQ gk
    obtain ⟨a', e, F, hs⟩ := bd_lh (d := D+1) (n := n) (b := b) (r := r) hX gQ gk
    refine ⟨a', ?_, BadF.lh hX (Nat.le_refl _) gK gl g1 F hs⟩
    rw [b37_86 h5 hX, e]
    simp only [Option.bind_some, Option.toList_none, List.nil_append]
    rw [b37_94]
  have key2 : ∀ (v2' v3' v4' v5' : Int32) (a1 : Nat → Nat → Int32) (K1 k z : Nat), a1 44 3 ≠ iN 0 → K1 ≤ 480 → 2 * s0 ≤ K1 → a1 TT 1 = iN K1 → CB (a1 (TT + 1)) (2 * s0) k z v2' → k < 480 → ∃ a', Den (D+2) 37 80 [.ref 44,.int v1,.int v2',.int v3',.int v4',.int v5'] [] (zmMk n a1 b r) = some (none, zmMk n a' b r) ∧ BadF TT (2 * s0) a1 a' := by
    intro v2' v3' v4' v5' a1 K1 k z g3 gK gl g1 gQ gk
    obtain ⟨a', e, f⟩ := key v2' v3' (v4' + iN 1) (.int v5') a1 K1 k z gK gl g1 gQ gk
    refine ⟨a', ?_, f⟩
    rw [b37_80, b37_7]
    split
    · exact e
    · rw [b37_16, if_neg g3]
      exact e
  obtain ⟨w, e⟩ := bd_next (d := D+1) (n := n) (a := a) (b := b) h0
  rw [b37_28, e]
  simp only [Option.bind_some, Option.toList_some, Option.toList_none, List.cons_append, List.nil_append, true_or, or_true, if_true, bI_if]
  rw [b37_32]
  by_cases h38 : w = iN 38
  · obtain ⟨a1, e1, f1, -⟩ := bd_leap (d := D) (n := n) (b := b) (x := w) (y := v3) h5 hX hK h1
    obtain ⟨k0, k1, ⟨K1, k2, k3, k4⟩, k5⟩ := id f1
    rw [if_pos h38, b37_41, e1]
    simp only [Option.bind_some, Option.toList_some, Option.toList_none, List.cons_append, List.nil_append, true_or, or_true, if_true, bI_if]
    rw [b37_48]
    have hQ1 : HR (a1 (TT + 1)) 12 (2 * s0) RQ v2 := hQ.ag (fun j _ hj => k5 j (by omega))
    obtain ⟨a', e2, f2⟩ := key2 v2 (iN K) v4 w a1 K1 RQ.length 480 (by rw [k0]; exact h3) k3 (by omega) k4 (hQ1.cb (by omega) (by omega)) (by omega)
    rw [e2]
    refine ⟨_, rfl, ?_⟩
    exact BadF.trans ⟨k0, k1, ⟨K1, by omega, k3, k4⟩, fun j hj => k5 j (by omega)⟩ (Nat.le_refl _) f2
  · obtain ⟨a1, e1, F, hd, hs⟩ := c_lh (d := D+1) (n := n) (b := b) (r := r) hX hK hP h1 (by omega)
    have f1 : BadF TT (2 * s0) a a1 := BadF.lh (p0 := 2 * s0 + 2 * lenS RQ) hX (by omega) hK (by omega) h1 F (fun j hj => hs j (Or.inl hj))
    have g3 : a1 44 3 ≠ iN 0 := by rw [f1.1]; exact h3
    have g1 : a1 TT 1 = iN K := by rw [F TT (by omega)]; exact h1
    have gQ : HR (a1 (TT + 1)) 12 (2 * s0) RQ v2 := hQ.ag (fun j _ hj => hs j (Or.inl (by omega)))
    rw [if_neg h38, b37_52 h5 hX, e1]
    simp only [Option.bind_some, Option.toList_none, List.nil_append]
    rw [b37_60]
    by_cases h124 : w = iN 124
    · obtain ⟨a2, e2, f2, c2⟩ := bd_leap (d := D) (n := n) (b := b) (x := w) (y := v2) h5 hX hK g1
      obtain ⟨k0, k1, ⟨K1, k2, k3, k4⟩, k5⟩ := id f2
      rw [if_pos h124, b37_72, e2]
      simp only [Option.bind_some, Option.toList_some, Option.toList_none, List.cons_append, List.nil_append, true_or, or_true, if_true, bI_if]
      rw [b37_79]
      have f12 : BadF TT (2 * s0) a a2 := f1.trans (Nat.le_refl _) ⟨k0, k1, ⟨K1, by omega, k3, k4⟩, fun j hj => k5 j (by omega)⟩
      have hend : ∃ k z, CB (a2 (TT + 1)) (2 * s0) k z (iN K) ∧ k < 480 := by
        by_cases hKK : K + 1 < 480
        · obtain ⟨q1, q2⟩ := c2 hKK
          have gQ2 : HR (a2 (TT + 1)) 12 (2 * s0) RQ v2 := gQ.ag (fun j _ hj => k5 j (by omega))
          refine ⟨RQ.length + 1, K + 2, ⟨K, rfl, by omega, by omega, by omega, ?_⟩, by omega⟩
          rw [q1]
          exact gQ2.cb (by omega) (by omega)
        · exact ⟨0, 0, Or.inr ⟨K, rfl, by omega, hK⟩, by omega⟩
      obtain ⟨k, z, hc, hk⟩ := hend
      obtain ⟨a', e3, f3⟩ := key2 (iN K) (-1) v4 w a2 K1 k z (by rw [k0]; exact g3) k3 (by omega) k4 hc hk
      rw [e3]
      exact ⟨_, rfl, f12.trans (Nat.le_refl _) f3⟩
    · obtain ⟨a', e3, f3⟩ := key v2 (-1) v4 (.int w) a1 K RQ.length K hK (by omega) g1 (gQ.cb (by omega) hK) (by omega)
      rw [if_neg h124, b37_69, e3]
      exact ⟨_, rfl, f1.trans (Nat.le_refl _) f3⟩
