/-! ===== the reference's parser: closing, factors, sums ===== -/
def okZ (all : Bool) (z : Nat) : Prop := (4 ≤ z ∧ z ≤ 6) ∨ (all = true ∧ (z = 2 ∨ z = 3))
def stopA (all : Bool) (S : List Nat) : Prop := ∀ s S', S = s :: S' → ¬ okZ all (s / 1048576)
theorem mU_div (k : Nat) : mU k / 1048576 = k := by unfold mU; omega
def opZ (Z : List Nat) : Ops := Z.map (fun z => (z, 0))
theorem opZ_len (Z : List Nat) : (opZ Z).length = Z.length := List.length_map ..
theorem MSt.pop {len p c o s : Nat} {nx : Nat → Nat} {S : List Nat} {a : Nat → Nat → Int32} (h : MSt len nx p c (s :: S) o a) : MSt len nx p c S o (uI a 94 19 (iN S.length)) := by
  obtain ⟨h1, h2, h3, h4, h5, h6, h7⟩ := h
  refine ⟨by rw [uI_nj (by omega)]; exact h1, by rw [uI_nj (by omega)]; exact h2, by rw [uI_nj (by omega)]; exact h3, uI_self, by rw [uI_nj (by omega)]; exact h5, ?_, fun j hj => by rw [uI_ne (by omega)]; exact h7 j hj⟩
  rw [uI_ne (by omega)]
  exact h6.2
theorem MSt.note {len p c o z : Nat} {nx : Nat → Nat} {S : List Nat} {a : Nat → Nat → Int32} (h : MSt len nx p c S o a) : MSt len nx p (c + 1) S o (uI (uI a 100 c (iN z)) 94 18 (iN (c + 1))) := by
  obtain ⟨h1, h2, h3, h4, h5, h6, h7⟩ := h
  refine ⟨?_, ?_, uI_self, ?_, ?_, ?_, fun j hj => by rw [uI_ne (by omega), uI_ne (by omega)]; exact h7 j hj⟩
  · rw [uI_nj (by omega), uI_ne (by omega)]; exact h1
  · rw [uI_nj (by omega), uI_ne (by omega)]; exact h2
  · rw [uI_nj (by omega), uI_ne (by omega)]; exact h4
  · rw [uI_nj (by omega), uI_ne (by omega)]; exact h5
  · rw [uI_ne (by omega), uI_ne (by omega)]; exact h6
theorem note_at {c z : Nat} {a : Nat → Nat → Int32} : uI (uI a 100 c (iN z)) 94 18 (iN (c + 1)) 100 c = iN z ∧ ∀ j, j ≠ c → uI (uI a 100 c (iN z)) 94 18 (iN (c + 1)) 100 j = a 100 j := by
  refine ⟨?_, fun j hj => ?_⟩
  · rw [uI_ne (by omega), uI_self]
  · rw [uI_ne (by omega), uI_nj hj]
theorem frN.note {c z : Nat} {a : Nat → Nat → Int32} : frN a (uI (uI a 100 c (iN z)) 94 18 (iN (c + 1))) := frN.p100.trans (frN.p94 (by omega))
theorem bI_b0 (all : Bool) : (bI all = iN 0) = (all = false) := bI_0 all
theorem m_top2 {d len p c o s : Nat} {n : Nat} {a : Nat → Nat → Int32} {b : Nat → Nat → Int64} {r : Nat → Nat → Option Nat} {nx : Nat → Nat} {S : List Nat} (h : MSt len nx p c (s :: S) o a) (hl : (s :: S).length ≤ 260) (hs : s < 100000000) : Den (d) 174 0 [.ref 94] [] (zmMk n a b r) = some (some (.int (iN (s / 1048576))), (zmMk n a b r)) := by
  obtain ⟨h1, h2, h3, h4, h5, h6, h7⟩ := h
  have hll : (s :: S).length = S.length + 1 := rfl
  have hv : a 101 S.length = iN s := by
    have := h6.1
    rw [List.length_map] at this
    exact this
  rw [b174_0, h4]
  rw [hll] at hl ⊢
  rw [if_neg (eq_n (by omega) (by omega) (by omega)), b174_11, h4, hll, n_sub (by omega), n_in (by omega), if_pos (decide_eq_true (by omega)), n_nat (by omega), show S.length + 1 - 1 = S.length by omega, hv, b174_22, b174_25, n_div (by omega) (by omega)]
theorem m_closes {d n len p o : Nat} {nx : Nat → Nat} {b : Nat → Nat → Int64} {r : Nat → Nat → Option Nat} {all : Bool} {S : List Nat} (hS : stopA all S) (hSb : ∀ s, s ∈ S → s < 100000000) (Z : List Nat) : ∀ (c : Nat) (a : Nat → Nat → Int32), MSt len nx p c (Z.map mU ++ S) o a → (∀ z, z ∈ Z → okZ all z) → (Z.map mU ++ S).length ≤ 260 → c + Z.length ≤ 260 → ∃ a', Den (d+1) 177 0 [.ref 94, .int (bI all)] [] (zmMk n a b r) = some (none, zmMk n a' b r) ∧ MSt len nx p (c + Z.length) S o a' ∧ LayM (a' 100) 0 c (opZ Z) ∧ (∀ j, j < c → a' 100 j = a 100 j) ∧ frN a a' := by
  induction Z with
  | nil =>
    intro c a h hz hl hc
    have h' : MSt len nx p c S o a := h
    have e1 : Den (d) 174 0 [.ref 94] [] (zmMk n a b r) = _ := m_top h' hl hSb
    refine ⟨a, ?_, h', trivial, fun _ _ => rfl, frN.refl⟩
    have h17 : ∀ k : Int32, wtI S = k → ¬ (all = true ∧ (k = iN 2 ∨ k = iN 3)) → Den (d+1) 177 17 [.ref 94,.int (bI all)] [] (zmMk n a b r) = some (none, (zmMk n a b r)) := by
      intro k hk hn
      rw [hk] at e1
      rw [b177_17]
      cases all with
      | false => rw [if_pos (show bI false = iN 0 from rfl), b177_59]
      | true =>
        rw [if_neg (show ¬ bI true = iN 0 from eq_n (by omega) (by omega) (by omega)), b177_21, e1]
        simp only [Option.bind_some, Option.toList_some, Option.toList_none, List.cons_append, List.nil_append, true_or, or_true, if_true, bI_if]
        rw [b177_25, if_neg (fun q => hn ⟨rfl, Or.inl q⟩), b177_29, e1]
        simp only [Option.bind_some, Option.toList_some, Option.toList_none, List.cons_append, List.nil_append, true_or, or_true, if_true, bI_if]
        rw [b177_33, if_neg (fun q => hn ⟨rfl, Or.inr q⟩), b177_59]
    rw [b177_0, e1]
    simp only [Option.bind_some, Option.toList_some, Option.toList_none, List.cons_append, List.nil_append, true_or, or_true, if_true, bI_if]
    rw [b177_4]
    cases S with
    | nil =>
      rw [show wtI [] = (-1 : Int32) from rfl, if_pos (n_neg_lt m1_neg (by omega))]
      exact h17 (-1) rfl (fun q => q.2.elim (fun h => m1_ne (by omega) h) (fun h => m1_ne (by omega) h))
    | cons s S =>
      have hno := hS s S rfl
      have hs1 := hSb s (List.mem_cons_self ..)
      have e1' : wtI (s :: S) = iN (s / 1048576) := rfl
      have hk : ¬ (all = true ∧ (iN (s / 1048576) = iN 2 ∨ iN (s / 1048576) = iN 3)) := fun q => hno (Or.inr ⟨q.1, q.2.elim (fun h => Or.inl (by rw [n_eq (by omega) (by omega)] at h; exact h)) (fun h => Or.inr (by rw [n_eq (by omega) (by omega)] at h; exact h))⟩)
      rw [e1'] at e1 ⊢
      by_cases h4 : s / 1048576 < 4
      · rw [if_pos (lt_p h4 (by omega))]
        exact h17 _ rfl hk
      · rw [if_neg (lt_n h4 (by omega)), b177_8, e1]
        simp only [Option.bind_some, Option.toList_some, Option.toList_none, List.cons_append, List.nil_append, true_or, or_true, if_true, bI_if]
        have h6 : 6 < s / 1048576 := by
          by_cases h6 : 6 < s / 1048576
          · exact h6
          · exact absurd (Or.inl ⟨by omega, by omega⟩) hno
        rw [b177_12, if_pos (lt_p h6 (by omega))]
        exact h17 _ rfl hk
  | cons z Z ih =>
    intro c a h hz hl hc
    have hok := hz z (List.mem_cons_self ..)
    have hz6 : 2 ≤ z ∧ z ≤ 6 := by
      rcases hok with h | ⟨-, h⟩ <;> omega
    have hll : (List.map mU (z :: Z) ++ S).length = (Z.map mU ++ S).length + 1 := rfl
    have hlZ : (z :: Z).length = Z.length + 1 := rfl
    have e1 : Den (d) 174 0 [.ref 94] [] (zmMk n a b r) = some (some (.int (iN z)), (zmMk n a b r)) := by
      have := m_top2 (d := d) (b := b) (r := r) (n := n) (s := mU z) (S := Z.map mU ++ S) h hl (by unfold mU; omega)
      rw [mU_div] at this
      exact this
    rw [hll] at hl
    rw [hlZ] at hc
    have hto : Den (d+1) 177 0 [.ref 94, .int (bI all)] [] (zmMk n a b r) = Den (d+1) 177 37 [.ref 94,.int (bI all)] [] (zmMk n a b r) := by
      rw [b177_0, e1]
      simp only [Option.bind_some, Option.toList_some, Option.toList_none, List.cons_append, List.nil_append, true_or, or_true, if_true, bI_if]
      rw [b177_4]
      by_cases h4 : z < 4
      · have hall : all = true ∧ (z = 2 ∨ z = 3) := by
          rcases hok with h | h
          · omega
          · exact h
        obtain ⟨rfl, h23⟩ := hall
        rw [if_pos (lt_p h4 (by omega)), b177_17, if_neg (show ¬ bI true = iN 0 from eq_n (by omega) (by omega) (by omega)), b177_21, e1]
        simp only [Option.bind_some, Option.toList_some, Option.toList_none, List.cons_append, List.nil_append, true_or, or_true, if_true, bI_if]
        rw [b177_25]
        by_cases h2 : z = 2
        · rw [if_pos (by rw [h2])]
        · rw [if_neg (eq_n h2 (by omega) (by omega)), b177_29, e1]
          simp only [Option.bind_some, Option.toList_some, Option.toList_none, List.cons_append, List.nil_append, true_or, or_true, if_true, bI_if]
          rw [b177_33, if_pos (by rw [show z = 3 by omega])]
      · rw [if_neg (lt_n h4 (by omega)), b177_8, e1]
        simp only [Option.bind_some, Option.toList_some, Option.toList_none, List.cons_append, List.nil_append, true_or, or_true, if_true, bI_if]
        rw [b177_12, if_neg (lt_n (by omega) (by omega))]
    have h2 := (h.note (z := 1048576 * z)).pop
    have hpop : uI (uI a 100 c (iN (1048576 * z))) 94 18 (iN (c + 1)) 94 19 - iN 1 = iN (Z.map mU ++ S).length := by
      rw [uI_nj (by omega), uI_ne (by omega), h.2.2.2.1, hll, n_sub (by omega)]
      congr 1
    obtain ⟨a', i1, i2, i3, i4, i5⟩ := ih (c + 1) _ h2 (fun z' hz' => hz z' (List.mem_cons_of_mem _ hz')) (by omega) (by omega)
    refine ⟨a', ?_, ?_, ⟨?_, i3⟩, fun j hj => ?_, (frN.note.trans (frN.p94 (by omega))).trans i5⟩
    · rw [hto, b177_37, e1]
      simp only [Option.bind_some, Option.toList_some, Option.toList_none, List.cons_append, List.nil_append, true_or, or_true, if_true, bI_if]
      rw [b177_42, m_notes h.2.2.1 (by omega) (show iN 1048576 * iN z + iN 0 = iN (1048576 * z) by rw [n_mul, n_add, Nat.add_zero])]
      simp only [Option.bind_some, Option.toList_none, List.nil_append]
      rw [b177_46, hpop]
      exact i1
    · rw [hlZ, show c + (Z.length + 1) = c + 1 + Z.length by omega]
      exact i2
    · rw [i4 c (by omega), uI_ne (by omega), note_at.1]
      have : cdM 0 c z 0 = 0 := by
        unfold cdM
        rw [if_neg (by omega), if_neg (by omega)]
      rw [this, Nat.add_zero]
    · rw [i4 j (by omega), uI_ne (by omega), note_at.2 j (by omega)]
theorem stk_mem {f : Nat → Int32} {S : List Nat} (h : StkA f (S.map iN)) : ∀ j, j < S.length → ∃ s, s ∈ S ∧ f j = iN s := by
  induction S with
  | nil => exact fun j hj => absurd hj (Nat.not_lt_zero _)
  | cons s S ih =>
    intro j hj
    have hl : (s :: S).length = S.length + 1 := rfl
    by_cases h2 : j < S.length
    · obtain ⟨s', h3, h4⟩ := ih h.2 j h2
      exact ⟨s', List.mem_cons_of_mem _ h3, h4⟩
    · have h5 := h.1
      rw [List.length_map] at h5
      exact ⟨s, List.mem_cons_self .., by rw [show j = S.length by omega]; exact h5⟩
theorem stk_at {f : Nat → Int32} {Y : List Nat} {s : Nat} (X : List Nat) (h : StkA f ((X ++ s :: Y).map iN)) : f Y.length = iN s := by
  induction X with
  | nil =>
    have h5 := h.1
    rw [List.length_map] at h5
    exact h5
  | cons x X ih => exact ih h.2
theorem stk_app {f : Nat → Int32} {Y : List Nat} (X : List Nat) (h : StkA f ((X ++ Y).map iN)) : StkA f (Y.map iN) := by
  induction X with
  | nil => exact h
  | cons x X ih => exact ih h.2
/-- whether a [ waits from base on -/
theorem m_hasL {d n w base : Nat} {a : Nat → Nat → Int32} {b : Nat → Nat → Int64} {r : Nat → Nat → Option Nat} (h19 : a 94 19 = iN w) (hw : w ≤ 260) (hv : ∀ j, j < w → ∃ v, v < 100000000 ∧ a 101 j = iN v) (k : Nat) : ∀ i, i + k = w → ((∃ j, i ≤ j ∧ j < w ∧ a 101 j = iN (mU 14)) → Den d 179 2 [.ref 94,.int (iN base),.int (iN i)] [] (zmMk n a b r) = some (some (.int (iN 1)), (zmMk n a b r))) ∧ ((∀ j, i ≤ j → j < w → ∃ v, v < 100000000 ∧ v / 1048576 ≠ 14 ∧ a 101 j = iN v) → Den d 179 2 [.ref 94,.int (iN base),.int (iN i)] [] (zmMk n a b r) = some (some (.int (iN 0)), (zmMk n a b r))) := by
  induction k with
  | zero =>
    intro i hi
    refine ⟨fun ⟨j, h1, h2, _⟩ => by omega, fun _ => ?_⟩
    rw [b179_2, h19, if_neg (lt_n (by omega) (by omega)), b179_32]
  | succ k ih =>
    intro i hi
    obtain ⟨v, hv1, hv2⟩ := hv i (by omega)
    have hst : Den d 179 2 [.ref 94,.int (iN base),.int (iN i)] [] (zmMk n a b r) = if v / 1048576 = 14 then some (some (.int (iN 1)), (zmMk n a b r)) else Den d 179 2 [.ref 94,.int (iN base),.int (iN (i + 1))] [] (zmMk n a b r) := by
      rw [b179_2, h19, if_pos (lt_p (by omega) (by omega)), b179_10, n_in (by omega), if_pos (decide_eq_true (by omega)), n_nat (by omega), hv2, b179_16, n_div (by omega) (by omega)]
      by_cases h : v / 1048576 = 14
      · rw [if_pos (by rw [h]), b179_24, if_pos h]
      · rw [if_neg (eq_n h (by omega) (by omega)), b179_26, n_add, if_neg h]
    obtain ⟨i1, i2⟩ := ih (i + 1) (by omega)
    rw [hst]
    refine ⟨fun ⟨j, h1, h2, h3⟩ => ?_, fun h => ?_⟩
    · by_cases h : v / 1048576 = 14
      · rw [if_pos h]
      · rw [if_neg h]
        refine i1 ⟨j, ?_, h2, h3⟩
        by_cases hj : i = j
        · subst hj
          rw [hv2, n_eq (by omega) (by unfold mU; omega)] at h3
          rw [h3, mU_div] at h
          exact absurd rfl h
        · omega
    · obtain ⟨v', w1, w2, w3⟩ := h i (Nat.le_refl _) (by omega)
      rw [hv2, n_eq (by omega) (by omega)] at w3
      rw [if_neg (by rw [w3]; exact w2)]
      exact i2 (fun j h1 h2 => h j (by omega) h2)
theorem m_has1 {d len p c o base : Nat} {n : Nat} {a : Nat → Nat → Int32} {b : Nat → Nat → Int64} {r : Nat → Nat → Option Nat} {nx : Nat → Nat} {X Y : List Nat} (h : MSt len nx p c (X ++ mU 14 :: Y) o a) (hl : (X ++ mU 14 :: Y).length ≤ 260) (hs : ∀ s, s ∈ X ++ mU 14 :: Y → s < 100000000) (hb : base ≤ Y.length) : Den (d) 179 0 [.ref 94, .int (iN base), zmJ] [] (zmMk n a b r) = some (some (.int (iN 1)), (zmMk n a b r)) := by
  have hlen : (X ++ mU 14 :: Y).length = X.length + (Y.length + 1) := List.length_append
  rw [b179_0]
  refine (m_hasL h.2.2.2.1 hl (fun j hj => ?_) ((X ++ mU 14 :: Y).length - base) base (by omega)).1 ⟨Y.length, hb, by omega, stk_at X h.2.2.2.2.2.1⟩
  obtain ⟨s, h1, h2⟩ := stk_mem h.2.2.2.2.2.1 j hj
  exact ⟨s, hs s h1, h2⟩
theorem m_has0 {d len p c o base : Nat} {n : Nat} {a : Nat → Nat → Int32} {b : Nat → Nat → Int64} {r : Nat → Nat → Option Nat} {nx : Nat → Nat} {Z S : List Nat} (h : MSt len nx p c (Z.map mU ++ S) o a) (hl : (Z.map mU ++ S).length ≤ 260) (hs : ∀ s, s ∈ S → s < 100000000) (hz : ∀ z, z ∈ Z → 2 ≤ z ∧ z ≤ 6) (hb : base = S.length) : Den (d) 179 0 [.ref 94, .int (iN base), zmJ] [] (zmMk n a b r) = some (some (.int (iN 0)), (zmMk n a b r)) := by
  have hlen : (Z.map mU ++ S).length = Z.length + S.length := by rw [List.length_append, List.length_map]
  have hall : ∀ s, s ∈ Z.map mU ++ S → s < 100000000 := fun s h => by
    rcases List.mem_append.mp h with h | h
    · obtain ⟨z, h1, rfl⟩ := List.mem_map.mp h
      have := hz z h1
      unfold mU
      omega
    · exact hs s h
  rw [b179_0]
  refine (m_hasL h.2.2.2.1 hl (fun j hj => ?_) ((Z.map mU ++ S).length - base) base (by omega)).2 (fun j h1 h2 => ?_)
  · obtain ⟨s, h3, h4⟩ := stk_mem h.2.2.2.2.2.1 j hj
    exact ⟨s, hall s h3, h4⟩
  · -- an index from base on lies in Z
    have key : ∀ (W : List Nat), (∀ z, z ∈ W → 2 ≤ z ∧ z ≤ 6) → StkA (a 101) ((W.map mU ++ S).map iN) → S.length ≤ j → j < W.length + S.length → ∃ v, v < 100000000 ∧ v / 1048576 ≠ 14 ∧ a 101 j = iN v := by
      intro W
      induction W with
      | nil =>
        intro _ _ g1 g2
        have : ([] : List Nat).length = 0 := rfl
        omega
      | cons w W ih =>
        intro g0 g1 g2 g3
        have hW : (w :: W).length = W.length + 1 := rfl
        have hw := g0 w (List.mem_cons_self ..)
        by_cases g4 : j < W.length + S.length
        · exact ih (fun z hz => g0 z (List.mem_cons_of_mem _ hz)) g1.2 g2 g4
        · refine ⟨mU w, by unfold mU; omega, by rw [mU_div]; omega, ?_⟩
          have g5 : a 101 ((W.map mU ++ S).map iN).length = iN (mU w) := g1.1
          rw [List.length_map, List.length_append, List.length_map] at g5
          rw [show j = W.length + S.length by omega]
          exact g5
    exact key Z hz h.2.2.2.2.2.1 (by omega) (by omega)
