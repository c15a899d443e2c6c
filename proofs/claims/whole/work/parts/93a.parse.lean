/-! ===== the class's parser: its cells, what it reads next, orders added, what comes behind a FAULT ===== -/
theorem ng {i : Nat} (h : i < 2147483648) : ¬ iN i < iN 0 := by rw [n_not_neg h]; exact not_false
theorem lt_p {i j : Nat} (h : i < j) (hj : j < 2147483648) : iN i < iN j := by rw [n_lt (by omega) hj]; exact h
theorem lt_n {i j : Nat} (h : ¬ i < j) (hi : i < 2147483648) : ¬ iN i < iN j := by rw [n_lt hi (by omega)]; exact h
theorem eq_n {i j : Nat} (h : i ≠ j) (hi : i < 2147483648) (hj : j < 2147483648) : ¬ iN i = iN j := by rw [n_eq hi hj]; exact h
theorem m1_neg : (-1 : Int32) < iN 0 := by decide +kernel
theorem m1_ne {k : Nat} (h : k < 2147483648) : ¬ (-1 : Int32) = iN k := by
  intro e
  have h1 : (-1 : Int32) < iN 0 := m1_neg
  rw [e, n_not_neg h] at h1
  exact h1
def nxV (c : Nat) : Int32 := if c < 256 then iN c else -1
theorem nxV_of {c : Nat} (h : c < 256) : nxV c = iN c := if_pos h
theorem nxV_eq {c k : Nat} (hk : k < 256) : (nxV c = iN k) = (c = k) := by
  unfold nxV
  by_cases h : c < 256
  · rw [if_pos h, n_eq (by omega) (by omega)]
  · rw [if_neg h]
    exact propext ⟨fun e => absurd e (m1_ne (by omega)), fun e => by omega⟩
theorem nxV_y {c k : Nat} (h : c = k) (hk : k < 256) : nxV c = iN k := by rw [nxV_eq hk]; exact h
theorem nxV_n {c k : Nat} (h : ¬ c = k) (hk : k < 256) : ¬ nxV c = iN k := by rw [nxV_eq hk]; exact h
theorem nxV_256 : nxV 256 = -1 := rfl
theorem nxV_m {c : Nat} (h : ¬ c < 256) : nxV c = -1 := if_neg h
theorem c_isDg {d c : Nat} {n : Nat} {a : Nat → Nat → Int32} {b : Nat → Nat → Int64} {r : Nat → Nat → Option Nat} : Den (d) 44 0 [.int (nxV c)] [] (zmMk n a b r) = some (some (.int (bI (isDg c))), (zmMk n a b r)) := by
  by_cases h : c < 256
  · rw [nxV_of h, b44_0]
    by_cases h1 : c < 48
    · rw [if_pos (lt_p h1 (by omega)), b44_16, b44_17, if_pos (Or.inl rfl), isDg_no (by omega)]
      rfl
    · rw [if_neg (lt_n h1 (by omega)), b44_6]
      by_cases h2 : 57 < c
      · rw [if_pos (lt_p h2 (by omega)), b44_16, b44_17, if_pos (Or.inl rfl), isDg_no (by omega)]
        rfl
      · rw [if_neg (lt_n h2 (by omega)), b44_12, b44_17, if_pos (Or.inr rfl), isDg_of (by omega) (by omega)]
        rfl
  · rw [nxV_m h, b44_0, if_pos (n_neg_lt m1_neg (by omega)), b44_16, b44_17, if_pos (Or.inl rfl), isDg_no (by omega)]
    rfl
theorem c_isTm {d c : Nat} {n : Nat} {a : Nat → Nat → Int32} {b : Nat → Nat → Int64} {r : Nat → Nat → Option Nat} : Den (d) 43 0 [.int (nxV c)] [] (zmMk n a b r) = some (some (.int (bI (decide (tmO c ≠ 0)))), (zmMk n a b r)) := by
  rw [b43_0]
  by_cases h1 : c = 42
  · rw [if_pos (nxV_y h1 (by omega)), b43_18, b43_23, if_pos (Or.inr rfl), h1]
    rfl
  · rw [if_neg (nxV_n h1 (by omega)), b43_6]
    by_cases h2 : c = 47
    · rw [if_pos (nxV_y h2 (by omega)), b43_18, b43_23, if_pos (Or.inr rfl), h2]
      rfl
    · rw [if_neg (nxV_n h2 (by omega)), b43_12]
      by_cases h3 : c = 37
      · rw [if_pos (nxV_y h3 (by omega)), b43_18, b43_23, if_pos (Or.inr rfl), h3]
        rfl
      · have e : tmO c = 0 := by
          unfold tmO
          rw [if_neg h1, if_neg h2, if_neg h3]
        rw [if_neg (nxV_n h3 (by omega)), b43_22, b43_23, if_pos (Or.inl rfl), e]
        rfl
theorem cc_tm {c : Nat} (h : tmO c ≠ 0) : ccO (tmO c) = c := by
  unfold tmO at h ⊢
  by_cases h1 : c = 42
  · subst h1; rfl
  · by_cases h2 : c = 47
    · subst h2; rfl
    · by_cases h3 : c = 37
      · subst h3; rfl
      · rw [if_neg h1, if_neg h2, if_neg h3] at h
        exact absurd rfl h
theorem cc_pl {c : Nat} (h : plO c ≠ 0) : ccO (plO c) = c := by
  unfold plO at h ⊢
  by_cases h1 : c = 43
  · subst h1; rfl
  · by_cases h2 : c = 45
    · subst h2; rfl
    · rw [if_neg h1, if_neg h2] at h
      exact absurd rfl h
theorem cc_cm {c : Nat} (h : cmO c ≠ 0) : ccO (cmO c) = c := by
  unfold cmO at h ⊢
  by_cases h1 : c = 60
  · subst h1; rfl
  · by_cases h2 : c = 62
    · subst h2; rfl
    · by_cases h3 : c = 61
      · subst h3; rfl
      · rw [if_neg h1, if_neg h2, if_neg h3] at h
        exact absurd rfl h
def fltI (k q : Nat) : Int32 := (-1000) * iN k - iN q
theorem fltI_tab : ∀ k < 10, ∀ q < 301, k ≠ 0 → fltI k q ≠ iN 0 := by decide +kernel
theorem fltI_ne {k q : Nat} (h1 : 1 ≤ k) (h2 : k ≤ 9) (h3 : q ≤ 300) : fltI k q ≠ iN 0 := fltI_tab k (by omega) q (by omega) (by omega)
/-- what stays while a TEXT of len bytes is read into the class's TEXT TT -/
def PrH (r : Nat → Nat → Option Nat) (TT len : Nat) (nx : Nat → Nat) : Prop := r 44 0 = some 15 ∧ r 44 5 = some TT ∧ isTx TT ∧ len ≤ 240 ∧ endN nx len ∧ ∀ j, j < len → nx j < 256
/-- ahead of byte p, s orders are noted, no FAULT yet -/
def PrS (TT len : Nat) (nx : Nat → Nat) (s p : Nat) (a : Nat → Nat → Int32) : Prop := a 44 1 = iN len ∧ a 44 2 = iN p ∧ a 44 3 = iN 0 ∧ a TT 1 = iN (2 * s) ∧ (∀ j, j < len → a 15 j = iN (nx j)) ∧ CstC a
def frP (TT : Nat) (a a' : Nat → Nat → Int32) : Prop := (∀ k, k ≠ 44 → k ≠ TT → k ≠ TT + 1 → k ≠ TT + 2 → k ≠ TT + 3 → k ≠ TT + 4 → a' k = a k) ∧ a' 44 1 = a 44 1
def frQ (TT : Nat) (a a' : Nat → Nat → Int32) : Prop := (∀ k, k ≠ 44 → k ≠ TT → k ≠ TT + 1 → a' k = a k) ∧ a' 44 1 = a 44 1 ∧ ∀ j, j ≠ 1 → a' TT j = a TT j
theorem frP.trans {TT : Nat} {a a1 a2 : Nat → Nat → Int32} (h : frP TT a a1) (g : frP TT a1 a2) : frP TT a a2 := ⟨fun k h1 h2 h3 h4 h5 h6 => (g.1 k h1 h2 h3 h4 h5 h6).trans (h.1 k h1 h2 h3 h4 h5 h6), g.2.trans h.2⟩
theorem frQ.trans {TT : Nat} {a a1 a2 : Nat → Nat → Int32} (h : frQ TT a a1) (g : frQ TT a1 a2) : frQ TT a a2 := ⟨fun k h1 h2 h3 => (g.1 k h1 h2 h3).trans (h.1 k h1 h2 h3), g.2.1.trans h.2.1, fun j hj => (g.2.2 j hj).trans (h.2.2 j hj)⟩
theorem frP.refl {TT : Nat} {a : Nat → Nat → Int32} : frP TT a a := ⟨fun _ _ _ _ _ _ _ => rfl, rfl⟩
theorem frQ.refl {TT : Nat} {a : Nat → Nat → Int32} : frQ TT a a := ⟨fun _ _ _ _ => rfl, rfl, fun _ _ => rfl⟩
theorem frQ.P {TT : Nat} {a a' : Nat → Nat → Int32} (h : frQ TT a a') : frP TT a a' := ⟨fun k h1 h2 h3 _ _ _ => h.1 k h1 h2 h3, h.2.1⟩
theorem frQ.at {TT : Nat} (hX : isTx TT) {a : Nat → Nat → Int32} {j : Nat} {v : Int32} (hj : j ≠ 1) : frQ TT a (uI a 44 j v) := ⟨fun k h1 _ _ => uI_ne h1, uI_nj (by omega), fun i _ => by rw [uI_ne (by rcases tx_of hX with h | h | h | h | h | h <;> omega)]⟩
/-- the class's TEXT with an order more -/
def adF (TT : Nat) (a : Nat → Nat → Int32) (s : Nat) (x y : Int32) : Nat → Nat → Int32 := uI (uI (uI a (TT + 1) (2 * s) x) (TT + 1) (2 * s + 1) y) TT 1 (iN (2 * s + 2))
theorem frQ.ad {TT : Nat} (hX : isTx TT) {a : Nat → Nat → Int32} {s : Nat} {x y : Int32} : frQ TT a (adF TT a s x y) := by
  refine ⟨fun k h1 h2 h3 => ?_, ?_, fun j hj => ?_⟩
  · unfold adF
    rw [uI_ne h2, uI_ne h3, uI_ne h3]
  · unfold adF
    rw [uI_ne (by rcases tx_of hX with h | h | h | h | h | h <;> omega), uI_ne (by rcases tx_of hX with h | h | h | h | h | h <;> omega), uI_ne (by rcases tx_of hX with h | h | h | h | h | h <;> omega)]
  · unfold adF
    rw [uI_nj hj, uI_ne (by omega), uI_ne (by omega)]
theorem adF_1 {TT : Nat} {a : Nat → Nat → Int32} {s : Nat} {x y : Int32} : adF TT a s x y (TT + 1) (2 * s) = x ∧ adF TT a s x y (TT + 1) (2 * s + 1) = y ∧ adF TT a s x y TT 1 = iN (2 * (s + 1)) ∧ ∀ j, j < 2 * s → adF TT a s x y (TT + 1) j = a (TT + 1) j := by
  unfold adF
  refine ⟨?_, ?_, ?_, fun j hj => ?_⟩
  · rw [uI_ne (by omega), uI_nj (by omega), uI_self]
  · rw [uI_ne (by omega), uI_self]
  · rw [uI_self, show 2 * (s + 1) = 2 * s + 2 by omega]
  · rw [uI_ne (by omega), uI_nj (by omega), uI_nj (by omega)]
theorem c_add {d TT s : Nat} {n : Nat} {a : Nat → Nat → Int32} {b : Nat → Nat → Int64} {r : Nat → Nat → Option Nat} {x y : Int32} (hX : isTx TT) (h1 : a TT 1 = iN (2 * s)) (hs : s ≤ 239) : Den (d) 88 0 [.ref TT, .int x, .int y] [] (zmMk n a b r) = some (none, zmMk n (adF TT a s x y) b r) := by
  rw [b88_0 hX, h1, if_neg (ng (by omega)), b88_7 hX, h1, n_add, if_pos (lt_p (by omega) (by omega)), b88_21 hX, h1, n_in (by omega), if_pos (decide_eq_true (by omega)), n_nat (by omega), b88_31 hX, uI_ne (show TT ≠ TT + 1 by omega), h1, n_add, n_in (by omega), if_pos (decide_eq_true (by omega)), n_nat (by omega), b88_43 hX, uI_ne (show TT ≠ TT + 1 by omega), uI_ne (show TT ≠ TT + 1 by omega), h1, n_add, b88_53 hX]
  rfl
theorem c_next {d TT len s p : Nat} {n : Nat} {a : Nat → Nat → Int32} {b : Nat → Nat → Int64} {r : Nat → Nat → Option Nat} {nx : Nat → Nat} (hH : PrH r TT len nx) (h : PrS TT len nx s p a) (hp : p ≤ len) : Den (d) 45 0 [.ref 44] [] (zmMk n a b r) = some (some (.int (nxV (nx p))), (zmMk n a b r)) := by
  obtain ⟨h0, h5, hX, hl, he, hb⟩ := hH
  obtain ⟨a1, a2, a3, a4, a5, a6⟩ := h
  rw [b45_0, a2, if_neg (ng (by omega)), b45_7, a2, a1]
  by_cases hq : p < len
  · rw [if_pos (lt_p hq (by omega)), b45_18 h0, a2, if_pos (lt_p (by omega) (by omega)), b45_30 h0, a2, n_in (by omega), if_pos (decide_eq_true (by omega)), b45_39, b45_43, n_nat (by omega), a5 p hq, nxV_of (hb p hq)]
  · rw [if_neg (lt_n hq (by omega)), b45_42, b45_43, he p (by omega), nxV_256]
theorem nx_le {len p : Nat} {nx : Nat → Nat} (hn : endN nx len) (h : nx p ≠ 256) : p + 1 ≤ len := hn.lt h
theorem nx_256 {r : Nat → Nat → Option Nat} {TT len p : Nat} {nx : Nat → Nat} (hH : PrH r TT len nx) (h : ¬ nx p < 256) : nx p = 256 := by
  obtain ⟨h0, h5, hX, hl, he, hb⟩ := hH
  by_cases hp : p < len
  · exact absurd (hb p hp) h
  · exact he p (by omega)
/-- a byte further -/
theorem PrS.step {TT len s p : Nat} {nx : Nat → Nat} {a : Nat → Nat → Int32} (hX : isTx TT) (h : PrS TT len nx s p a) : PrS TT len nx s (p + 1) (uI a 44 2 (iN (p + 1))) := by
  obtain ⟨a1, a2, a3, a4, a5, a6⟩ := h
  refine ⟨by rw [uI_nj (by omega)]; exact a1, uI_self, by rw [uI_nj (by omega)]; exact a3, ?_, fun j hj => by rw [uI_ne (by omega)]; exact a5 j hj, a6.ag (fun k hk => uI_ne (by omega))⟩
  rw [uI_ne (by rcases tx_of hX with h | h | h | h | h | h <;> omega)]
  exact a4
theorem PrS.at2 {TT len s p : Nat} {nx : Nat → Nat} {a : Nat → Nat → Int32} (h : PrS TT len nx s p a) : a 44 2 + iN 1 = iN (p + 1) := by
  rw [h.2.1, n_add]
/-- it went well: the orders os lie behind the s first ones -/
def OkP (TT len : Nat) (nx : Nat → Nat) (a a' : Nat → Nat → Int32) (s q : Nat) (os : Ops) : Prop := PrS TT len nx (s + os.length) q a' ∧ LayC (a' (TT + 1)) (2 * s) os ∧ (∀ j, j < 2 * s → a' (TT + 1) j = a (TT + 1) j) ∧ frQ TT a a'
/-- a FAULT: s orders stay -/
def BadP (TT s : Nat) (e : Nat × Nat) (a a' : Nat → Nat → Int32) : Prop := a' 44 3 = fltI e.1 e.2 ∧ frP TT a a' ∧ (∃ k, 2 * s ≤ k ∧ k ≤ 480 ∧ a' TT 1 = iN k) ∧ ∀ j, j < 2 * s → a' (TT + 1) j = a (TT + 1) j
/-- what comes behind a FAULT -/
def BadF (TT K : Nat) (a a' : Nat → Nat → Int32) : Prop := a' 44 3 = a 44 3 ∧ frP TT a a' ∧ (∃ k, K ≤ k ∧ k ≤ 480 ∧ a' TT 1 = iN k) ∧ ∀ j, j < K → a' (TT + 1) j = a (TT + 1) j
theorem BadF.refl {TT K : Nat} {a : Nat → Nat → Int32} (hK : K ≤ 480) (h : a TT 1 = iN K) : BadF TT K a a := ⟨rfl, frP.refl, ⟨K, Nat.le_refl _, hK, h⟩, fun _ _ => rfl⟩
theorem BadF.trans {TT K : Nat} {a a1 a2 : Nat → Nat → Int32} (h : BadF TT K a a1) {K2 : Nat} (hK : K ≤ K2) (g : BadF TT K2 a1 a2) : BadF TT K a a2 := by
  obtain ⟨h1, h2, ⟨k, h3, h4, h5⟩, h6⟩ := h
  obtain ⟨g1, g2, ⟨k2, g3, g4, g5⟩, g6⟩ := g
  exact ⟨g1.trans h1, h2.trans g2, ⟨k2, by omega, g4, g5⟩, fun j hj => (g6 j (by omega)).trans (h6 j hj)⟩
theorem BadP.next {TT s : Nat} {e : Nat × Nat} {a a1 a2 : Nat → Nat → Int32} (h : BadP TT s e a a1) {K : Nat} (hK : 2 * s ≤ K) (g : BadF TT K a1 a2) : BadP TT s e a a2 := by
  obtain ⟨h1, h2, ⟨k, h3, h4, h5⟩, h6⟩ := h
  obtain ⟨g1, g2, ⟨k2, g3, g4, g5⟩, g6⟩ := g
  exact ⟨g1.trans h1, h2.trans g2, ⟨k2, by omega, g4, g5⟩, fun j hj => (g6 j (by omega)).trans (h6 j hj)⟩
theorem OkP.trans {TT len s q1 q2 : Nat} {nx : Nat → Nat} {a a1 a2 : Nat → Nat → Int32} {o1 o2 : Ops} (h : OkP TT len nx a a1 s q1 o1) (g : OkP TT len nx a1 a2 (s + o1.length) q2 o2) : OkP TT len nx a a2 s q2 (o1 ++ o2) := by
  obtain ⟨h1, h2, h3, h4⟩ := h
  obtain ⟨g1, g2, g3, g4⟩ := g
  refine ⟨?_, ?_, fun j hj => (g3 j (by omega)).trans (h3 j hj), h4.trans g4⟩
  · rw [List.length_append, ← Nat.add_assoc]
    exact g1
  · rw [LayC.app]
    refine ⟨h2.ag (fun j _ hj => g3 j (by omega)), ?_⟩
    rw [show 2 * s + 2 * o1.length = 2 * (s + o1.length) by omega]
    exact g2
theorem OkP.bad {TT len s q : Nat} {nx : Nat → Nat} {a a1 a2 : Nat → Nat → Int32} {os : Ops} {e : Nat × Nat} (h : OkP TT len nx a a1 s q os) (g : BadP TT (s + os.length) e a1 a2) : BadP TT s e a a2 := by
  obtain ⟨h1, h2, h3, h4⟩ := h
  obtain ⟨g1, g2, ⟨k, g3, g4, g5⟩, g6⟩ := g
  exact ⟨g1, h4.P.trans g2, ⟨k, by omega, g4, g5⟩, fun j hj => (g6 j (by omega)).trans (h3 j hj)⟩
theorem OkP.refl {TT len s p : Nat} {nx : Nat → Nat} {a : Nat → Nat → Int32} (h : PrS TT len nx s p a) : OkP TT len nx a a s p [] := ⟨h, trivial, fun _ _ => rfl, frQ.refl⟩
theorem OkP.step {TT len s p : Nat} {nx : Nat → Nat} {a : Nat → Nat → Int32} (hX : isTx TT) (h : PrS TT len nx s p a) : OkP TT len nx a (uI a 44 2 (iN (p + 1))) s (p + 1) [] := ⟨h.step hX, trivial, fun j _ => by rw [uI_ne (by rcases tx_of hX with h | h | h | h | h | h <;> omega)], frQ.at hX (by omega)⟩
theorem PrS.ad {TT len s p : Nat} {nx : Nat → Nat} {a : Nat → Nat → Int32} {x y : Int32} (hX : isTx TT) (h : PrS TT len nx s p a) : PrS TT len nx (s + 1) p (adF TT a s x y) := by
  obtain ⟨a1, a2, a3, a4, a5, a6⟩ := h
  have hf := frQ.ad (a := a) (s := s) (x := x) (y := y) hX
  have h44 : adF TT a s x y 44 = a 44 := by
    unfold adF
    rw [uI_ne (by rcases tx_of hX with h | h | h | h | h | h <;> omega), uI_ne (by rcases tx_of hX with h | h | h | h | h | h <;> omega), uI_ne (by rcases tx_of hX with h | h | h | h | h | h <;> omega)]
  refine ⟨by rw [h44]; exact a1, by rw [h44]; exact a2, by rw [h44]; exact a3, adF_1.2.2.1, fun j hj => ?_, a6.ag (fun k hk => ?_)⟩
  · rw [hf.1 15 (by omega) (by rcases tx_of hX with h | h | h | h | h | h <;> omega) (by rcases tx_of hX with h | h | h | h | h | h <;> omega)]
    exact a5 j hj
  · exact hf.1 k (by omega) (by rcases tx_of hX with h | h | h | h | h | h <;> omega) (by rcases tx_of hX with h | h | h | h | h | h <;> omega)
theorem OkP.ad {TT len s p o v : Nat} {nx : Nat → Nat} {a : Nat → Nat → Int32} {x y : Int32} (hX : isTx TT) (h : PrS TT len nx s p a) (hx : x = iN (ccO o)) (hy : o ≤ 1 → y = iN v) (ho : o ≤ 10) : OkP TT len nx a (adF TT a s x y) s p [(o, v)] := by
  refine ⟨h.ad hX, ?_, adF_1.2.2.2, frQ.ad hX⟩
  refine ⟨?_, fun h1 => ?_, fun h1 => by omega, trivial⟩
  · rw [adF_1.1]; exact hx
  · rw [adF_1.2.1]; exact hy h1
theorem BadF.ad {TT s : Nat} {a : Nat → Nat → Int32} {x y : Int32} (hX : isTx TT) (hs : s ≤ 239) : BadF TT (2 * s) a (adF TT a s x y) := by
  have h44 : adF TT a s x y 44 = a 44 := by
    unfold adF
    rw [uI_ne (by rcases tx_of hX with h | h | h | h | h | h <;> omega), uI_ne (by rcases tx_of hX with h | h | h | h | h | h <;> omega), uI_ne (by rcases tx_of hX with h | h | h | h | h | h <;> omega)]
  exact ⟨by rw [h44], (frQ.ad hX).P, ⟨2 * (s + 1), by omega, by omega, adF_1.2.2.1⟩, adF_1.2.2.2⟩
/-- an order behind a FAULT -/
theorem bd_add {d TT K : Nat} {n : Nat} {a : Nat → Nat → Int32} {b : Nat → Nat → Int64} {r : Nat → Nat → Option Nat} {x y : Int32} (hX : isTx TT) (hK : K ≤ 480) (h1 : a TT 1 = iN K) : ∃ a', Den (d) 88 0 [.ref TT, .int x, .int y] [] (zmMk n a b r) = some (none, zmMk n a' b r) ∧ BadF TT K a a' := by
  by_cases h2 : K + 1 < 480
  · refine ⟨uI (uI (uI a (TT + 1) K x) (TT + 1) (K + 1) y) TT 1 (iN (K + 2)), ?_, ?_, ?_, ⟨K + 2, by omega, by omega, uI_self⟩, fun j hj => ?_⟩
    · rw [b88_0 hX, h1, if_neg (ng (by omega)), b88_7 hX, h1, n_add, if_pos (lt_p (by omega) (by omega)), b88_21 hX, h1, n_in (by omega), if_pos (decide_eq_true (by omega)), n_nat (by omega), b88_31 hX, uI_ne (show TT ≠ TT + 1 by omega), h1, n_add, n_in (by omega), if_pos (decide_eq_true (by omega)), n_nat (by omega), b88_43 hX, uI_ne (show TT ≠ TT + 1 by omega), uI_ne (show TT ≠ TT + 1 by omega), h1, n_add, b88_53 hX]
    · rw [uI_ne (by rcases tx_of hX with h | h | h | h | h | h <;> omega), uI_ne (by rcases tx_of hX with h | h | h | h | h | h <;> omega), uI_ne (by rcases tx_of hX with h | h | h | h | h | h <;> omega)]
    · refine ⟨fun k g1 g2 g3 _ _ _ => by rw [uI_ne g2, uI_ne g3, uI_ne g3], ?_⟩
      rw [uI_ne (by rcases tx_of hX with h | h | h | h | h | h <;> omega), uI_ne (by rcases tx_of hX with h | h | h | h | h | h <;> omega), uI_ne (by rcases tx_of hX with h | h | h | h | h | h <;> omega)]
    · rw [uI_ne (by omega), uI_nj (by omega), uI_nj (by omega)]
  · refine ⟨a, ?_, BadF.refl hK h1⟩
    rw [b88_0 hX, h1, if_neg (ng (by omega)), b88_7 hX, h1, n_add, if_neg (lt_n (by omega) (by omega)), b88_53 hX]
theorem c_fail {d k p : Nat} {n : Nat} {a : Nat → Nat → Int32} {b : Nat → Nat → Int64} {r : Nat → Nat → Option Nat} (h3 : a 44 3 = iN 0) (h2 : a 44 2 = iN p) : Den (d+1) 47 0 [.ref 44, .int (iN k)] [] (zmMk n a b r) = some (none, zmMk n (uI a 44 3 (fltI k p)) b r) := by
  rw [b47_0, h3, if_pos rfl, b47_7, h2, b144_0]
  simp only [Option.bind_some, Option.toList_some, Option.toList_none, List.cons_append, List.nil_append, true_or, or_true, if_true, bI_if]
  rw [b47_16, b47_19]
  rfl
theorem bd_fail {d : Nat} {n : Nat} {a : Nat → Nat → Int32} {b : Nat → Nat → Int64} {r : Nat → Nat → Option Nat} {v : Int32} (h3 : a 44 3 ≠ iN 0) : Den (d) 47 0 [.ref 44, .int v] [] (zmMk n a b r) = some (none, (zmMk n a b r)) := by
  rw [b47_0, if_neg h3, b47_19]
theorem BadP.fail {TT len s p k : Nat} {nx : Nat → Nat} {a : Nat → Nat → Int32} (hX : isTx TT) (hs : s ≤ 240) (h : PrS TT len nx s p a) : BadP TT s (k, p) a (uI a 44 3 (fltI k p)) := by
  refine ⟨uI_self, (frQ.at hX (by omega)).P, ⟨2 * s, Nat.le_refl _, by omega, ?_⟩, fun j _ => ?_⟩
  · rw [uI_ne (by rcases tx_of hX with h | h | h | h | h | h <;> omega)]
    exact h.2.2.2.1
  · rw [uI_ne (by rcases tx_of hX with h | h | h | h | h | h <;> omega)]
theorem bd_next {d : Nat} {n : Nat} {a : Nat → Nat → Int32} {b : Nat → Nat → Int64} {r : Nat → Nat → Option Nat} (h0 : r 44 0 = some 15) : ∃ v, Den (d) 45 0 [.ref 44] [] (zmMk n a b r) = some (some (.int v), (zmMk n a b r)) := by
  rw [b45_0]
  by_cases h1 : a 44 2 < iN 0
  · rw [if_pos h1, b45_42, b45_43]
    exact ⟨_, rfl⟩
  · rw [if_neg h1, b45_7]
    by_cases h2 : a 44 2 < a 44 1
    · rw [if_pos h2, b45_18 h0]
      by_cases h3 : a 44 2 < iN 260
      · rw [if_pos h3, b45_30 h0, if_pos (zmIn_of (by decide) h1 h3), b45_39, b45_43]
        exact ⟨_, rfl⟩
      · rw [if_neg h3, b45_42, b45_43]
        exact ⟨_, rfl⟩
    · rw [if_neg h2, b45_42, b45_43]
      exact ⟨_, rfl⟩
theorem BadF.at {TT K : Nat} {a : Nat → Nat → Int32} {v : Int32} (hX : isTx TT) (hK : K ≤ 480) (h : a TT 1 = iN K) : BadF TT K a (uI a 44 2 v) := by
  refine ⟨uI_nj (by omega), (frQ.at hX (by omega)).P, ⟨K, Nat.le_refl _, hK, ?_⟩, fun j _ => ?_⟩
  · rw [uI_ne (by rcases tx_of hX with h | h | h | h | h | h <;> omega)]
    exact h
  · rw [uI_ne (by rcases tx_of hX with h | h | h | h | h | h <;> omega)]
theorem bd_take {d TT K : Nat} {n : Nat} {a : Nat → Nat → Int32} {b : Nat → Nat → Int64} {r : Nat → Nat → Option Nat} {v : Int32} (h0 : r 44 0 = some 15) (hX : isTx TT) (h3 : a 44 3 ≠ iN 0) (hK : K ≤ 480) (h1 : a TT 1 = iN K) : ∃ a', Den (d+1) 46 0 [.ref 44, .int v] [] (zmMk n a b r) = some (none, zmMk n a' b r) ∧ BadF TT K a a' := by
  obtain ⟨w, e⟩ := bd_next (d := d) (n := n) (a := a) (b := b) h0
  rw [b46_0, e]
  simp only [Option.bind_some, Option.toList_some, Option.toList_none, List.cons_append, List.nil_append, true_or, or_true, if_true, bI_if]
  rw [b46_4]
  by_cases h : w = v
  · rw [if_pos h, b46_8, b46_26]
    exact ⟨_, rfl, BadF.at hX hK h1⟩
  · rw [if_neg h, b46_21, bd_fail h3]
    simp only [Option.bind_some, Option.toList_none, List.nil_append]
    rw [b46_26]
    exact ⟨_, rfl, BadF.refl hK h1⟩
/-- what must stand next, or FAULT 1 -/
theorem c_take {d TT len s p c : Nat} {n : Nat} {a : Nat → Nat → Int32} {b : Nat → Nat → Int64} {r : Nat → Nat → Option Nat} {nx : Nat → Nat} (hH : PrH r TT len nx) (h : PrS TT len nx s p a) (hp : p ≤ len) (hs : s ≤ 240) (hc : c < 256) : (nx p = c ∧ Den (d+2) 46 0 [.ref 44, .int (iN c)] [] (zmMk n a b r) = some (none, zmMk n (uI a 44 2 (iN (p + 1))) b r)) ∨ (¬ nx p = c ∧ Den (d+2) 46 0 [.ref 44, .int (iN c)] [] (zmMk n a b r) = some (none, zmMk n (uI a 44 3 (fltI 1 p)) b r)) := by
  have e : Den (d+1) 45 0 [.ref 44] [] (zmMk n a b r) = _ := c_next hH h hp
  rw [b46_0, e]
  simp only [Option.bind_some, Option.toList_some, Option.toList_none, List.cons_append, List.nil_append, true_or, or_true, if_true, bI_if]
  rw [b46_4]
  by_cases h1 : nx p = c
  · refine Or.inl ⟨h1, ?_⟩
    rw [if_pos (nxV_y h1 hc), b46_8, h.at2, b46_26]
  · refine Or.inr ⟨h1, ?_⟩
    rw [if_neg (nxV_n h1 hc), b46_21, c_fail h.2.2.1 h.2.1]
    simp only [Option.bind_some, Option.toList_none, List.nil_append]
    rw [b46_26]
/-- what a method of the parser comes to, by what the grammar says -/
def ResP (n TT len : Nat) (nx : Nat → Nat) (b : Nat → Nat → Int64) (r : Nat → Nat → Option Nat) (a : Nat → Nat → Int32) (s : Nat) (z : PR) (D : Option (Option Value × zmH)) : Prop := match z with
  | .inl e => ∃ a', D = some (none, zmMk n a' b r) ∧ BadP TT s e a a'
  | .inr (q, os) => ∃ a', D = some (none, zmMk n a' b r) ∧ OkP TT len nx a a' s q os
