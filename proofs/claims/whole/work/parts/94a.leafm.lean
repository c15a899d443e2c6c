/-! ===== the reference's parser: leaves ===== -/
def mU (k : Nat) : Nat := 1048576 * k
/-- ahead of byte p, c orders are noted, S waits (top first), o are open -/
def MSt (len : Nat) (nx : Nat → Nat) (p c : Nat) (S : List Nat) (o : Nat) (a : Nat → Nat → Int32) : Prop := a 94 9 = iN p ∧ a 94 10 = iN len ∧ a 94 18 = iN c ∧ a 94 19 = iN S.length ∧ a 94 17 = iN o ∧ StkA (a 101) (S.map iN) ∧ ∀ j, j < len → (a 95 j &&& iN 255) = iN (nx j)
def frN (a a' : Nat → Nat → Int32) : Prop := (∀ k, k ≠ 94 → k ≠ 100 → k ≠ 101 → a' k = a k) ∧ ∀ j, j ≠ 9 → j ≠ 11 → j ≠ 12 → j ≠ 17 → j ≠ 18 → j ≠ 19 → a' 94 j = a 94 j
theorem frN.refl {a : Nat → Nat → Int32} : frN a a := ⟨fun _ _ _ _ => rfl, fun _ _ _ _ _ _ _ => rfl⟩
theorem frN.trans {a a1 a2 : Nat → Nat → Int32} (h : frN a a1) (g : frN a1 a2) : frN a a2 := ⟨fun k h1 h2 h3 => (g.1 k h1 h2 h3).trans (h.1 k h1 h2 h3), fun j h1 h2 h3 h4 h5 h6 => (g.2 j h1 h2 h3 h4 h5 h6).trans (h.2 j h1 h2 h3 h4 h5 h6)⟩
theorem frN.p94 {a : Nat → Nat → Int32} {i : Nat} {v : Int32} (h : i = 9 ∨ i = 11 ∨ i = 12 ∨ i = 17 ∨ i = 18 ∨ i = 19) : frN a (uI a 94 i v) := ⟨fun k h1 _ _ => uI_ne h1, fun j h1 h2 h3 h4 h5 h6 => uI_nj (by omega)⟩
theorem frN.p100 {a : Nat → Nat → Int32} {i : Nat} {v : Int32} : frN a (uI a 100 i v) := ⟨fun k _ h _ => uI_ne h, fun j _ _ _ _ _ _ => by rw [uI_ne (by omega)]⟩
theorem frN.p101 {a : Nat → Nat → Int32} {i : Nat} {v : Int32} : frN a (uI a 101 i v) := ⟨fun k _ _ h => uI_ne h, fun j _ _ _ _ _ _ => by rw [uI_ne (by omega)]⟩
def PrM (len : Nat) (nx : Nat → Nat) : Prop := len ≤ 240 ∧ endN nx len ∧ ∀ j, j < len → nx j < 256
theorem PrM.n256 {len p : Nat} {nx : Nat → Nat} (hH : PrM len nx) (h : ¬ nx p < 256) : nx p = 256 := by
  by_cases hp : p < len
  · exact absurd (hH.2.2 p hp) h
  · exact hH.2.1 p (by omega)
theorem m_look {d len p : Nat} {n : Nat} {a : Nat → Nat → Int32} {b : Nat → Nat → Int64} {r : Nat → Nat → Option Nat} {nx : Nat → Nat} (hH : PrM len nx) (h9 : a 94 9 = iN p) (h10 : a 94 10 = iN len) (hb : ∀ j, j < len → (a 95 j &&& iN 255) = iN (nx j)) (hp : p ≤ len) : Den (d) 167 0 [.ref 94] [] (zmMk n a b r) = some (some (.int (nxV (nx p))), (zmMk n a b r)) := by
  obtain ⟨hl, hn, hx⟩ := hH
  rw [b167_0, h9, h10]
  by_cases hq : p < len
  · rw [if_pos (lt_p hq (by omega)), b167_11, h9, n_in (by omega), if_pos (decide_eq_true (by omega)), n_nat (by omega), b167_20, hb p hq, b167_28, nxV_of (hx p hq)]
  · rw [if_neg (lt_n hq (by omega)), b167_27, b167_28, hn p (by omega), nxV_256]
theorem m_lookS {d len p c o : Nat} {n : Nat} {a : Nat → Nat → Int32} {b : Nat → Nat → Int64} {r : Nat → Nat → Option Nat} {nx : Nat → Nat} {S : List Nat} (hH : PrM len nx) (h : MSt len nx p c S o a) (hp : p ≤ len) : Den (d) 167 0 [.ref 94] [] (zmMk n a b r) = some (some (.int (nxV (nx p))), (zmMk n a b r)) := m_look hH h.1 h.2.1 h.2.2.2.2.2.2 hp
theorem m_isDig {d len p : Nat} {n : Nat} {a : Nat → Nat → Int32} {b : Nat → Nat → Int64} {r : Nat → Nat → Option Nat} {nx : Nat → Nat} (hH : PrM len nx) (h9 : a 94 9 = iN p) (h10 : a 94 10 = iN len) (hb : ∀ j, j < len → (a 95 j &&& iN 255) = iN (nx j)) (hp : p ≤ len) : Den (d+1) 168 0 [.ref 94] [] (zmMk n a b r) = some (some (.int (bI (isDg (nx p)))), (zmMk n a b r)) := by
  have e : Den (d) 167 0 [.ref 94] [] (zmMk n a b r) = _ := m_look hH h9 h10 hb hp
  rw [b168_0, e]
  simp only [Option.bind_some, Option.toList_some, Option.toList_none, List.cons_append, List.nil_append, true_or, or_true, if_true, bI_if]
  rw [b168_4]
  by_cases hc : nx p < 256
  · rw [nxV_of hc]
    rw [nxV_of hc] at e
    by_cases h1 : nx p < 48
    · rw [if_pos (lt_p h1 (by omega)), b168_22, b168_23, if_pos (Or.inl rfl), isDg_no (by omega)]
      rfl
    · rw [if_neg (lt_n h1 (by omega)), b168_9, e]
      simp only [Option.bind_some, Option.toList_some, Option.toList_none, List.cons_append, List.nil_append, true_or, or_true, if_true, bI_if]
      rw [b168_13]
      by_cases h2 : 57 < nx p
      · rw [if_pos (lt_p h2 (by omega)), b168_22, b168_23, if_pos (Or.inl rfl), isDg_no (by omega)]
        rfl
      · rw [if_neg (lt_n h2 (by omega)), b168_18, b168_23, if_pos (Or.inr rfl), isDg_of (by omega) (by omega)]
        rfl
  · rw [nxV_m hc, if_pos (n_neg_lt m1_neg (by omega)), b168_22, b168_23, if_pos (Or.inl rfl), isDg_no (by omega)]
    rfl
theorem m_wrong {d k q : Nat} {n : Nat} {a : Nat → Nat → Int32} {b : Nat → Nat → Int64} {r : Nat → Nat → Option Nat} : Den (d) 169 0 [.ref 94, .int (iN k), .int (iN q)] [] (zmMk n a b r) = some (some (.int (iN 0)), zmMk n (uI a 94 11 (fltI k q)) b r) := b169_0
theorem m_takes {d len p k : Nat} {n : Nat} {a : Nat → Nat → Int32} {b : Nat → Nat → Int64} {r : Nat → Nat → Option Nat} {nx : Nat → Nat} (hH : PrM len nx) (h9 : a 94 9 = iN p) (h10 : a 94 10 = iN len) (hb : ∀ j, j < len → (a 95 j &&& iN 255) = iN (nx j)) (hp : p ≤ len) (hk : k < 256) : Den (d+1) 170 0 [.ref 94, .int (iN k)] [] (zmMk n a b r) = if nx p = k then some (some (.int (iN 1)), zmMk n (uI a 94 9 (iN (p + 1))) b r) else some (some (.int (iN 0)), zmMk n (uI a 94 11 (fltI 1 p)) b r) := by
  have e : Den (d) 167 0 [.ref 94] [] (zmMk n a b r) = _ := m_look hH h9 h10 hb hp
  rw [b170_0, e]
  simp only [Option.bind_some, Option.toList_some, Option.toList_none, List.cons_append, List.nil_append, true_or, or_true, if_true, bI_if]
  rw [b170_4]
  by_cases h : nx p = k
  · rw [if_pos (nxV_y h hk), b170_18, h9, n_add, if_pos h]
  · rw [if_neg (nxV_n h hk), b170_8, h9, m_wrong, if_neg h]
    simp only [Option.bind_some, Option.toList_some, Option.toList_none, List.cons_append, List.nil_append, true_or, or_true, if_true, bI_if]
    rw [b170_17, if_pos (Or.inl rfl)]
/-- number0 behind the digits -/
theorem m_digL {d n len p0 : Nat} {nx : Nat → Nat} {b : Nat → Nat → Int64} {r : Nat → Nat → Option Nat} (hH : PrM len nx) (hp0 : p0 ≤ len) (k : Nat) : ∀ (v p : Nat) (a : Nat → Nat → Int32), p + k = p0 + 5 → v < 10 ^ (p - p0) → p0 ≤ p → a 94 9 = iN p → a 94 12 = iN v → a 94 10 = iN len → (∀ j, j < len → (a 95 j &&& iN 255) = iN (nx j)) → p ≤ len → ∃ a', Den (d+2) 171 10 [.ref 94,.int (iN p0)] [] (zmMk n a b r) = some (some (.int (bI (!isDg (nx (pDig nx k v p).2)))), zmMk n a' b r) ∧ a' 94 9 = iN (pDig nx k v p).2 ∧ (isDg (nx (pDig nx k v p).2) = true → a' 94 11 = fltI 2 (pDig nx k v p).2) ∧ a' 94 12 = iN (pDig nx k v p).1 ∧ (∀ q, q ≠ 94 → a' q = a q) ∧ (∀ j, j ≠ 9 → j ≠ 11 → j ≠ 12 → a' 94 j = a 94 j) ∧ (pDig nx k v p).2 ≤ len := by
  induction k with
  | zero =>
    intro v p a hk hv hpp h9 h12 h10 hb hp
    have e1 : Den (d+1) 168 0 [.ref 94] [] (zmMk n a b r) = _ := m_isDig hH h9 h10 hb hp
    rw [b171_10, e1]
    simp only [Option.bind_some, Option.toList_some, Option.toList_none, List.cons_append, List.nil_append, true_or, or_true, if_true, bI_if]
    rw [b171_14, bI_if]
    have e0 : pDig nx 0 v p = (v, p) := rfl
    rw [e0]
    dsimp only
    by_cases h : isDg (nx p) = true
    · refine ⟨uI a 94 11 (fltI 2 p), ?_, by rw [uI_nj (by omega)]; exact h9, fun _ => uI_self, by rw [uI_nj (by omega)]; exact h12, fun q hq => uI_ne hq, fun j _ h2 _ => uI_nj h2, hp⟩
      rw [if_pos h, b171_17, h9, n_add, if_pos (by rw [show p0 + 5 = p by omega]), b171_27, h9, m_wrong, h]
      simp only [Option.bind_some, Option.toList_some, Option.toList_none, List.cons_append, List.nil_append, true_or, or_true, if_true, bI_if]
      rw [b171_36, if_pos (Or.inl rfl)]
      rfl
    · refine ⟨a, ?_, h9, fun h2 => absurd h2 h, h12, fun _ _ => rfl, fun _ _ _ _ => rfl, hp⟩
      rw [if_neg h, b171_69, Bool.eq_false_iff.mpr h]
      rfl
  | succ k ih =>
    intro v p a hk hv hpp h9 h12 h10 hb hp
    have e1 : Den (d+1) 168 0 [.ref 94] [] (zmMk n a b r) = _ := m_isDig hH h9 h10 hb hp
    have e0 : pDig nx (k + 1) v p = if isDg (nx p) then pDig nx k (10 * v + (nx p - 48)) (p + 1) else (v, p) := rfl
    rw [b171_10, e1]
    simp only [Option.bind_some, Option.toList_some, Option.toList_none, List.cons_append, List.nil_append, true_or, or_true, if_true, bI_if]
    rw [b171_14, bI_if, e0]
    by_cases h : isDg (nx p) = true
    · obtain ⟨d1, d2⟩ := isDg_d h
      have hp1 := nx_le hH.2.1 (p := p) (by omega)
      have hh : Den (d+1) 167 0 [.ref 94] [] (zmMk n a b r) = _ := m_look hH h9 h10 hb hp
      have e10 : 10 ^ (p + 1 - p0) = 10 ^ (p - p0) * 10 := by rw [show p + 1 - p0 = p - p0 + 1 by omega, Nat.pow_succ]
      have hp5 : 10 ^ (p - p0) ≤ 10 ^ 4 := Nat.pow_le_pow_right (by omega) (by omega)
      have hl := hH.1
      obtain ⟨a', i1, i2, i3, i4, i5, i6, i7⟩ := ih (10 * v + (nx p - 48)) (p + 1) (uI (uI a 94 12 (iN (10 * v + (nx p - 48)))) 94 9 (iN (p + 1))) (by omega) (by omega) (by omega) uI_self (by rw [uI_nj (by omega), uI_self]) (by rw [uI_nj (by omega), uI_nj (by omega)]; exact h10) (fun j hj => by rw [uI_ne (by omega), uI_ne (by omega)]; exact hb j hj) hp1
      rw [if_pos h, if_pos h]
      refine ⟨a', ?_, i2, i3, i4, fun q hq => by rw [i5 q hq, uI_ne hq, uI_ne hq], fun j h1 h2 h3 => by rw [i6 j h1 h2 h3, uI_nj h1, uI_nj h3], i7⟩
      rw [b171_17, h9, n_add, if_neg (eq_n (by omega) (by omega) (by omega)), b171_37, hh]
      simp only [Option.bind_some, Option.toList_some, Option.toList_none, List.cons_append, List.nil_append, true_or, or_true, if_true, bI_if]
      rw [b171_49, h12, n_mul, nxV_of (by omega), n_add, n_sub (by omega), uI_nj (show (9 : Nat) ≠ 12 by omega), h9, n_add, show 10 * v + nx p - 48 = 10 * v + (nx p - 48) by omega]
      exact i1
    · rw [if_neg h, if_neg h]
      refine ⟨a, ?_, h9, fun h2 => absurd h2 h, h12, fun _ _ => rfl, fun _ _ _ _ => rfl, hp⟩
      rw [b171_69, Bool.eq_false_iff.mpr h]
      rfl
theorem m_notes {d c : Nat} {n : Nat} {a : Nat → Nat → Int32} {b : Nat → Nat → Int64} {r : Nat → Nat → Option Nat} {x y : Int32} {z : Nat} (h : a 94 18 = iN c) (hc : c < 260) (hz : iN 1048576 * x + y = iN z) : Den (d) 172 0 [.ref 94, .int x, .int y] [] (zmMk n a b r) = some (none, zmMk n (uI (uI a 100 c (iN z)) 94 18 (iN (c + 1))) b r) := by
  rw [b172_0, h, n_in (by omega), if_pos (decide_eq_true hc), n_nat (by omega), hz, b172_15, uI_ne (show (94 : Nat) ≠ 100 by omega), h, n_add]
theorem m_opens0 {d p k : Nat} {n : Nat} {a : Nat → Nat → Int32} {b : Nat → Nat → Int64} {r : Nat → Nat → Option Nat} (h17 : a 94 17 = iN 6) (h9 : a 94 9 = iN p) : Den (d+1) 173 0 [.ref 94, .int (iN k)] [] (zmMk n a b r) = some (some (.int (iN 0)), zmMk n (uI a 94 11 (fltI 5 p)) b r) := by
  rw [b173_0, h17, if_pos rfl, b173_9, h9, m_wrong]
  simp only [Option.bind_some, Option.toList_some, Option.toList_none, List.cons_append, List.nil_append, true_or, or_true, if_true, bI_if]
  rw [b173_18, if_pos (Or.inl rfl)]
/-- the state with one that waits more -/
def psh (a : Nat → Nat → Int32) (l z p o : Nat) : Nat → Nat → Int32 := uI (uI (uI (uI a 94 17 (iN o)) 101 l (iN z)) 94 19 (iN (l + 1))) 94 9 (iN p)
theorem m_opens {d p k o l : Nat} {n : Nat} {a : Nat → Nat → Int32} {b : Nat → Nat → Int64} {r : Nat → Nat → Option Nat} (h17 : a 94 17 = iN o) (ho : o < 6) (h9 : a 94 9 = iN p) (h19 : a 94 19 = iN l) (hl : l < 260) : Den (d+1) 173 0 [.ref 94, .int (iN k)] [] (zmMk n a b r) = some (some (.int (iN 1)), zmMk n (psh a l (mU k) (p + 1) (o + 1)) b r) := by
  rw [b173_0, h17, if_neg (eq_n (by omega) (by omega) (by omega)), b173_19, uI_nj (show (19 : Nat) ≠ 17 by omega), h19, h17, n_add, n_in (by omega), if_pos (decide_eq_true hl), n_nat (by omega), n_mul, b173_42]
  have e19 : ∀ v w, uI (uI a 94 17 v) 101 l w 94 19 = iN l := fun v w => by rw [uI_ne (by omega), uI_nj (by omega)]; exact h19
  have e9 : ∀ v w z, uI (uI (uI a 94 17 v) 101 l w) 94 19 z 94 9 = iN p := fun v w z => by rw [uI_nj (by omega), uI_ne (by omega), uI_nj (by omega)]; exact h9
  rw [e19, e9, n_add, n_add]
  rfl
def wtI : List Nat → Int32
  | [] => -1
  | s :: _ => iN (s / 1048576)
theorem m_top {d len p c o : Nat} {n : Nat} {a : Nat → Nat → Int32} {b : Nat → Nat → Int64} {r : Nat → Nat → Option Nat} {nx : Nat → Nat} {S : List Nat} (h : MSt len nx p c S o a) (hl : S.length ≤ 260) (hs : ∀ s, s ∈ S → s < 100000000) : Den (d) 174 0 [.ref 94] [] (zmMk n a b r) = some (some (.int (wtI S)), (zmMk n a b r)) := by
  obtain ⟨h1, h2, h3, h4, h5, h6, h7⟩ := h
  rw [b174_0, h4]
  cases S with
  | nil =>
    rw [if_pos (show iN ([] : List Nat).length = iN 0 from rfl), b174_7, b174_25]
    rfl
  | cons s S =>
    have hll : (s :: S).length = S.length + 1 := rfl
    have hv : a 101 S.length = iN s := by
      have := h6.1
      rw [List.length_map] at this
      exact this
    have hs1 := hs s (List.mem_cons_self ..)
    rw [hll] at hl h4 ⊢
    rw [if_neg (eq_n (by omega) (by omega) (by omega)), b174_11, h4, n_sub (by omega), n_in (by omega), if_pos (decide_eq_true (by omega)), n_nat (by omega), show S.length + 1 - 1 = S.length by omega, hv, b174_22, b174_25, n_div (by omega) (by omega)]
    rfl
def sgI (c : Nat) : Int32 := if plO c ≠ 0 then iN (plO c) else if tmO c ≠ 0 then iN (tmO c) else -1
theorem sgI_tab : ∀ c < 257, sgI c = if c = 43 then iN 2 else if c = 45 then iN 3 else if c = 42 then iN 4 else if c = 47 then iN 5 else if c = 37 then iN 6 else -1 := by decide +kernel
theorem m_sign {d c : Nat} {n : Nat} {a : Nat → Nat → Int32} {b : Nat → Nat → Int64} {r : Nat → Nat → Option Nat} (hc : c < 257) : Den (d) 176 0 [.int (nxV c)] [] (zmMk n a b r) = some (some (.int (sgI c)), (zmMk n a b r)) := by
  rw [sgI_tab c hc, b176_0]
  by_cases h1 : c = 43
  · rw [if_pos (nxV_y h1 (by omega)), b176_6, b176_52, if_pos h1]
  · rw [if_neg (nxV_n h1 (by omega)), b176_10, if_neg h1]
    by_cases h2 : c = 45
    · rw [if_pos (nxV_y h2 (by omega)), b176_16, b176_52, if_pos h2]
    · rw [if_neg (nxV_n h2 (by omega)), b176_20, if_neg h2]
      by_cases h3 : c = 42
      · rw [if_pos (nxV_y h3 (by omega)), b176_26, b176_52, if_pos h3]
      · rw [if_neg (nxV_n h3 (by omega)), b176_30, if_neg h3]
        by_cases h4 : c = 47
        · rw [if_pos (nxV_y h4 (by omega)), b176_36, b176_52, if_pos h4]
        · rw [if_neg (nxV_n h4 (by omega)), b176_40, if_neg h4]
          by_cases h5 : c = 37
          · rw [if_pos (nxV_y h5 (by omega)), b176_46, b176_52, if_pos h5]
          · rw [if_neg (nxV_n h5 (by omega)), b176_51, b176_52, if_neg h5]
def fcP (c : Nat) : Nat := if c = 116 then 120 else if c = 110 then 122 else if c = 100 then 124 else if c = 101 then 126 else if c = 122 then 128 else if c = 114 then 130 else if c = 112 then 132 else if c = 113 then 135 else if c = 107 then 138 else if c = 97 then 141 else 144
theorem fcP_tab : ∀ c < 257, zmTs 1 143 97 122 #[140, 143, 143, 123, 125, 143, 143, 143, 143, 143, 137, 143, 143, 121, 143, 131, 134, 129, 143, 119, 143, 143, 143, 143, 143, 127] (nxV c) = fcP c := by decide +kernel
theorem m_fact {d c : Nat} {n : Nat} {a : Nat → Nat → Int32} {b : Nat → Nat → Int64} {r : Nat → Nat → Option Nat} (hc : c < 257) : Den (d) 175 0 [.int (nxV c)] [] (zmMk n a b r) = some (some (.int (if ltI c < 10 then iN (ltI c) else -1)), (zmMk n a b r)) := by
  rw [b175_0, fcP_tab c hc]
  unfold fcP ltI
  by_cases h1 : c = 116
  · rw [if_pos h1, if_pos h1, b175_120]; rfl
  rw [if_neg h1, if_neg h1]
  by_cases h2 : c = 110
  · rw [if_pos h2, if_pos h2, b175_122]; rfl
  rw [if_neg h2, if_neg h2]
  by_cases h3 : c = 100
  · rw [if_pos h3, if_pos h3, b175_124]; rfl
  rw [if_neg h3, if_neg h3]
  by_cases h4 : c = 101
  · rw [if_pos h4, if_pos h4, b175_126]; rfl
  rw [if_neg h4, if_neg h4]
  by_cases h5 : c = 122
  · rw [if_pos h5, if_pos h5, b175_128]; rfl
  rw [if_neg h5, if_neg h5]
  by_cases h6 : c = 114
  · rw [if_pos h6, if_pos h6, b175_130]; rfl
  rw [if_neg h6, if_neg h6]
  by_cases h7 : c = 112
  · rw [if_pos h7, if_pos h7, b175_132]; rfl
  rw [if_neg h7, if_neg h7]
  by_cases h8 : c = 113
  · rw [if_pos h8, if_pos h8, b175_135]; rfl
  rw [if_neg h8, if_neg h8]
  by_cases h9 : c = 107
  · rw [if_pos h9, if_pos h9, b175_138]; rfl
  rw [if_neg h9, if_neg h9]
  by_cases h10 : c = 97
  · rw [if_pos h10, if_pos h10, b175_141]; rfl
  rw [if_neg h10, if_neg h10, b175_144]; rfl
theorem nx_257 {len p : Nat} {nx : Nat → Nat} (hH : PrM len nx) : nx p < 257 := by
  by_cases hp : p < len
  · have := hH.2.2 p hp
    omega
  · rw [hH.2.1 p (by omega)]
    omega
