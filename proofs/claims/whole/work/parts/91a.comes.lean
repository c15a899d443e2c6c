/-! ===== TEXTS: the reference's comesTo ===== -/
def cdM (lo pos o v : Nat) : Nat := if o ≤ 1 then v else if o = 11 ∨ o = 12 then pos + 1 + v - lo else 0
def LayM (f : Nat → Int32) (lo : Nat) : Nat → Ops → Prop
  | _, [] => True
  | p, (o, v) :: os => f p = iN (1048576 * o + cdM lo p o v) ∧ LayM f lo (p + 1) os
theorem LayM.app {f : Nat → Int32} {lo : Nat} {x y : Ops} : ∀ {p : Nat}, LayM f lo p (x ++ y) ↔ LayM f lo p x ∧ LayM f lo (p + x.length) y := by
  induction x with
  | nil => exact fun {p} => ⟨fun h => ⟨trivial, h⟩, fun h => h.2⟩
  | cons z x ih =>
    obtain ⟨o, v⟩ := z
    intro p
    show (_ ∧ LayM f lo (p + 1) (x ++ y)) ↔ (_ ∧ LayM f lo (p + 1) x) ∧ LayM f lo (p + (x.length + 1)) y
    rw [ih, show p + (x.length + 1) = p + 1 + x.length by omega]
    exact ⟨fun ⟨h1, h2, h3⟩ => ⟨⟨h1, h2⟩, h3⟩, fun ⟨⟨h1, h2⟩, h3⟩ => ⟨h1, h2, h3⟩⟩
theorem LayM.ag {f g : Nat → Int32} {lo : Nat} {os : Ops} : ∀ {p : Nat}, LayM f lo p os → (∀ j, p ≤ j → j < p + os.length → g j = f j) → LayM g lo p os := by
  induction os with
  | nil => exact fun _ _ => trivial
  | cons z os ih =>
    obtain ⟨o, v⟩ := z
    intro p h hg
    have hl : ((o, v) :: os).length = os.length + 1 := rfl
    rw [hl] at hg
    refine ⟨?_, ih h.2 (fun j h5 h6 => hg j (by omega) (by omega))⟩
    rw [hg p (by omega) (by omega)]; exact h.1
theorem m_rek {d o : Nat} {n : Nat} {a : Nat → Nat → Int32} {b : Nat → Nat → Int64} {r : Nat → Nat → Option Nat} {x y : Int32} (h1 : 2 ≤ o) (h2 : o ≤ 9) (h3 : ¬ ((o = 5 ∨ o = 6) ∧ y = iN 0)) : Den (d) 193 0 [.int (iN o), .int x, .int y] [] (zmMk n a b r) = some (some (.int (rek o x y)), (zmMk n a b r)) := by
  have e : ∀ pc, zmTs 1 85 2 8 #[43, 47, 51, 55, 59, 63, 74] (iN o) = pc → Den (d) 193 0 [.int (iN o), .int x, .int y] [] (zmMk n a b r) = Den d 193 pc [.int (iN o), .int x, .int y] [] (zmMk n a b r) := fun pc h => by rw [← h]; exact b193_0
  obtain rfl | rfl | rfl | rfl | rfl | rfl | rfl | rfl : o = 2 ∨ o = 3 ∨ o = 4 ∨ o = 5 ∨ o = 6 ∨ o = 7 ∨ o = 8 ∨ o = 9 := by omega
  · rw [e 44 (by decide +kernel), b193_44]; rfl
  · rw [e 48 (by decide +kernel), b193_48]; rfl
  · rw [e 52 (by decide +kernel), b193_52]; rfl
  · have h4 : ¬ y = iN 0 := fun h => h3 ⟨Or.inl rfl, h⟩
    rw [e 56 (by decide +kernel), b193_56, if_neg (show ¬ y = 0 from h4), b193_59]; rfl
  · have h4 : ¬ y = iN 0 := fun h => h3 ⟨Or.inr rfl, h⟩
    rw [e 60 (by decide +kernel), b193_60, if_neg (show ¬ y = 0 from h4), b193_63]; rfl
  · rw [e 64 (by decide +kernel), b193_64]
    show _ = some (some (Value.int (if x < y then iN 1 else iN 0)), (zmMk n a b r))
    split
    · rw [b193_69, b193_74]
    · rw [b193_73, b193_74]
  · rw [e 75 (by decide +kernel), b193_75]
    show _ = some (some (Value.int (if y < x then iN 1 else iN 0)), (zmMk n a b r))
    split
    · rw [b193_80, b193_85]
    · rw [b193_84, b193_85]
  · rw [e 86 (by decide +kernel), b193_86]
    show _ = some (some (Value.int (if x = y then iN 1 else iN 0)), (zmMk n a b r))
    split
    · rw [b193_91, b193_96]
    · rw [b193_95, b193_96]
set_option maxHeartbeats 2000000 in
theorem m_comesL {d n lo to : Nat} {b : Nat → Nat → Int64} {r : Nat → Nat → Option Nat} {f : Nat → Int32} {v1 : Int32} (hlo : lo + 260 ≤ 1300) (hto : to ≤ lo + 260) (os : Ops) : ∀ (k p : Nat) (st : List Int32) (res : Option Int32) (u6 u7 : Value) (a : Nat → Nat → Int32), ev f k os st = some res → LayM (a 106) lo p os → to = p + os.length → lo ≤ p → StkA (a 112) st → st.length ≤ 20 → (∀ j, j < 10 → a 113 j = f j) → ∃ a', Den (d+1) 194 16 [.ref 94,.int v1,.int (iN to),.int (iN st.length),.int (iN lo),.int (iN (p + k)),u6,u7] [] (zmMk n a b r) = some (some (.int (rsV res)), zmMk n a' b r) ∧ onlyX 112 a a' := by
  induction os with
  | nil =>
    intro k p st res u6 u7 a he hl ht hlp hs hst hf
    cases k with
    | succ k => cases he
    | zero =>
      match st, he with
      | [v], he =>
        cases he
        have ht' : to = p := ht
        refine ⟨a, ?_, fun _ _ => rfl⟩
        have hs0 : a 112 0 = v := hs.1
        rw [b194_16, if_neg (by rw [n_lt (by omega) (by omega)]; omega), b194_233, hs0]
        rfl
  | cons z os ih =>
    obtain ⟨o, v⟩ := z
    intro k p st res u6 u7 a he hl ht hlp hs hst hf
    have hlen : ((o, v) :: os).length = os.length + 1 := rfl
    rw [hlen] at ht
    obtain ⟨l1, l4⟩ := hl
    cases k with
    | succ k =>
      have he2 : ev f k os st = some res := he
      obtain ⟨a', e, F⟩ := ih k (p + 1) st res u6 u7 a he2 l4 (by omega) (by omega) hs hst hf
      refine ⟨a', ?_, F⟩
      rw [show p + (k + 1) = p + 1 + k by omega]
      exact e
    | zero =>
      have hke : ev f 0 ((o, v) :: os) st = some res := he
      have n01 : ¬ iN 0 = iN 1 := by rw [n_eq (by omega) (by omega)]; omega
      -- what is known of the order
      have hov : o ≤ 12 ∧ (o ≤ 1 → v < 100000) ∧ (o = 11 ∨ o = 12 → v ≤ os.length) := by
        by_cases ho : o = 0
        · subst ho
          have h2 : (if st.length < 20 ∧ v < 100000 then ev f 0 os (iN v :: st) else none) = some res := hke
          by_cases hc : st.length < 20 ∧ v < 100000
          · exact ⟨by omega, fun _ => hc.2, by omega⟩
          · rw [if_neg hc] at h2; cases h2
        · by_cases ho1 : o = 1
          · subst ho1
            have h2 : (if st.length < 20 ∧ v < 10 then ev f 0 os (f v :: st) else none) = some res := hke
            by_cases hc : st.length < 20 ∧ v < 10
            · exact ⟨by omega, fun _ => by omega, by omega⟩
            · rw [if_neg hc] at h2; cases h2
          · match st, hke with
            | [], hke =>
              have h2 : (if o = 0 then _ else if o = 1 then _ else (none : Option (Option Int32))) = some res := hke
              rw [if_neg ho, if_neg ho1] at h2
              cases h2
            | x :: st1, hke =>
              have h2 := (ev_x ho ho1).symm.trans hke
              by_cases h10 : o = 10
              · exact ⟨by omega, by omega, by omega⟩
              · rw [if_neg h10] at h2
                by_cases hj : o = 11 ∨ o = 12
                · rw [if_pos hj] at h2
                  by_cases hx : (x = iN 0 ∨ x = iN 1) ∧ v ≤ os.length
                  · exact ⟨by omega, by omega, fun _ => hx.2⟩
                  · rw [if_neg hx] at h2; cases h2
                · rw [if_neg hj] at h2
                  match st1, h2 with
                  | [], h2 => cases h2
                  | y :: st2, h2 =>
                    have h3 : (if o ≤ 9 then (if (o = 5 ∨ o = 6) ∧ x = iN 0 then some none else ev f 0 os (rek o y x :: st2)) else none) = some res := h2
                    by_cases h9 : o ≤ 9
                    · exact ⟨by omega, by omega, by omega⟩
                    · rw [if_neg h9] at h3; cases h3
      obtain ⟨h12, hv1, hv2⟩ := hov
      have hcd : cdM lo p o v < 100000 := by
        unfold cdM
        repeat' split
        all_goals omega
      have ed : iN (1048576 * o + cdM lo p o v) / iN 1048576 = iN o := by
        rw [n_div (by omega) (by omega)]
        congr 1
        omega
      have er : iN (1048576 * o + cdM lo p o v) - iN o * iN 1048576 = iN (cdM lo p o v) := by
        rw [n_mul, n_sub (by omega)]
        congr 1
        omega
      have eh : Den (d+1) 194 16 [.ref 94,.int v1,.int (iN to),.int (iN st.length),.int (iN lo),.int (iN (p + 0)),u6,u7] [] (zmMk n a b r) = if o = 0 then Den (d+1) 194 63 [.ref 94,.int v1,.int (iN to),.int (iN st.length),.int (iN lo),.int (iN (p + 1)),.int (iN o),.int (iN (cdM lo p o v))] [] (zmMk n a b r) else Den (d+1) 194 57 [.ref 94,.int v1,.int (iN to),.int (iN st.length),.int (iN lo),.int (iN (p + 1)),.int (iN o),.int (iN (cdM lo p o v))] [] (zmMk n a b r) := by
        rw [b194_16, if_pos (by rw [n_lt (by omega) (by omega)]; omega), b194_22, n_in (by omega), if_pos (decide_eq_true (by omega)), n_nat (by omega), b194_29, n_in (by omega), if_pos (decide_eq_true (by omega)), n_nat (by omega), show p + 0 = p by omega, l1, ed, b194_41, ed, er, n_add]
        simp (disch := omega) only [n_eq]
      have push : ∀ w : Int32, st.length < 20 → ev f 0 os (w :: st) = some res → ∀ (v6 v7 : Int32), ∃ a', Den (d+1) 194 85 [.ref 94,.int v1,.int (iN to),.int (iN st.length),.int (iN lo),.int (iN (p + 1)),.int v6,.int v7] [.int w,.int (iN st.length),.ref 112] (zmMk n a b r) = some (some (.int (rsV res)), zmMk n a' b r) ∧ onlyX 112 a a' := by
        intro w hw h2 v6 v7
        have G : onlyX 112 a (uI a 112 st.length w) := onlyX.put
        obtain ⟨a', e, F⟩ := ih 0 (p + 1) (w :: st) res (.int v6) (.int v7) (uI a 112 st.length w) h2 (by rw [G 106 (by omega)]; exact l4) (by omega) (by omega) hs.push (by simp only [List.length_cons]; omega) (fun j hj => by rw [G 113 (by omega)]; exact hf j hj)
        refine ⟨a', ?_, G.trans F⟩
        rw [b194_85, n_in (by omega), if_pos (decide_eq_true (by omega)), n_nat (by omega), b194_86, b194_230, n_add]
        exact e
      rw [eh]
      by_cases ho : o = 0
      · subst ho
        have h2 : (if st.length < 20 ∧ v < 100000 then ev f 0 os (iN v :: st) else none) = some res := hke
        by_cases hc : st.length < 20 ∧ v < 100000
        · rw [if_pos hc] at h2
          obtain ⟨a', e, F⟩ := push (iN v) hc.1 h2 (iN 0) (iN (cdM lo p 0 v))
          refine ⟨a', ?_, F⟩
          rw [if_pos rfl, b194_63, if_pos rfl, b194_73]
          exact e
        · rw [if_neg hc] at h2
          cases h2
      · rw [if_neg ho]
        by_cases ho1 : o = 1
        · subst ho1
          have h2 : (if st.length < 20 ∧ v < 10 then ev f 0 os (f v :: st) else none) = some res := hke
          by_cases hc : st.length < 20 ∧ v < 10
          · rw [if_pos hc] at h2
            obtain ⟨a', e, F⟩ := push (f v) hc.1 h2 (iN 1) (iN (cdM lo p 1 v))
            refine ⟨a', ?_, F⟩
            have e1 : cdM lo p 1 v = v := rfl
            have h63 := b194_78 (d := d+1) (n := n) (a := a) (b := b) (r := r) (v1 := v1) (v2 := iN to) (v3 := iN st.length) (v4 := iN lo) (v5 := iN (p + 1)) (v6 := iN 1) (v7 := iN v) (vs1 := iN st.length)
            rw [b194_57, if_pos rfl, b194_63, if_neg (by rw [n_eq (by omega) (by omega)]; omega), e1, h63, n_in (by omega), if_pos (decide_eq_true hc.2), n_nat (by omega), hf v hc.2]
            exact e
          · rw [if_neg hc] at h2
            cases h2
        · match st, hke, hs, hst with
          | [], hke, _, _ =>
            have h2 : (if o = 0 then _ else if o = 1 then _ else (none : Option (Option Int32))) = some res := hke
            rw [if_neg ho, if_neg ho1] at h2
            cases h2
          | x :: st1, hke, hs, hst =>
            have hl1 : (x :: st1).length = st1.length + 1 := rfl
            rw [hl1] at hst ⊢
            have h2 := (ev_x ho ho1).symm.trans hke
            have htp : a 112 st1.length = x := hs.1
            have e1 : iN (st1.length + 1) - iN 1 = iN st1.length := by rw [n_sub (by omega)]; rfl
            rw [b194_57, if_neg (by rw [n_eq (by omega) (by omega)]; exact ho1), b194_93]
            by_cases ho10 : o = 10
            · subst ho10
              have h3 : ev f 0 os ((iN 1 - x) :: st1) = some res := h2
              have G : onlyX 112 a (uI a 112 st1.length (iN 1 - x)) := onlyX.put
              obtain ⟨a', e, F⟩ := ih 0 (p + 1) ((iN 1 - x) :: st1) res (.int (iN 10)) (.int (iN (cdM lo p 10 v))) (uI a 112 st1.length (iN 1 - x)) h3 (by rw [G 106 (by omega)]; exact l4) (by omega) (by omega) (StkA.push hs.2) (by simp only [List.length_cons]; omega) (fun j hj => by rw [G 113 (by omega)]; exact hf j hj)
              refine ⟨a', ?_, G.trans F⟩
              rw [if_pos rfl, b194_100, e1, n_in (by omega), if_pos (decide_eq_true (by omega)), n_nat (by omega), htp, b194_116, n_in (by omega), if_pos (decide_eq_true (by omega)), n_nat (by omega), b194_118, b194_230]
              exact e
            · rw [if_neg ho10] at h2
              rw [if_neg (by rw [n_eq (by omega) (by omega)]; exact ho10), b194_121]
              by_cases hj : o = 11 ∨ o = 12
              · rw [if_pos hj] at h2
                have hcj : cdM lo p o v = p + 1 + v - lo := by
                  unfold cdM
                  rw [if_neg (by omega), if_pos hj]
                by_cases hx : (x = iN 0 ∨ x = iN 1) ∧ v ≤ os.length
                · rw [if_pos hx] at h2
                  have e155 : (if iN o = iN 11 then Den (d+1) 194 135 [.ref 94,.int v1,.int (iN to),.int (iN (st1.length + 1)),.int (iN lo),.int (iN (p + 1)),.int (iN o),.int (iN (cdM lo p o v))] [] (zmMk n a b r) else Den (d+1) 194 128 [.ref 94,.int v1,.int (iN to),.int (iN (st1.length + 1)),.int (iN lo),.int (iN (p + 1)),.int (iN o),.int (iN (cdM lo p o v))] [] (zmMk n a b r)) = if x = iN (o - 11) then Den (d+1) 194 158 [.ref 94,.int v1,.int (iN to),.int (iN (st1.length + 1)),.int (iN lo),.int (iN (p + 1)),.int (iN o),.int (iN (cdM lo p o v))] [] (zmMk n a b r) else Den (d+1) 194 168 [.ref 94,.int v1,.int (iN to),.int (iN (st1.length + 1)),.int (iN lo),.int (iN (p + 1)),.int (iN o),.int (iN (cdM lo p o v))] [] (zmMk n a b r) := by
                    have e135 : Den (d+1) 194 135 [.ref 94,.int v1,.int (iN to),.int (iN (st1.length + 1)),.int (iN lo),.int (iN (p + 1)),.int (iN o),.int (iN (cdM lo p o v))] [] (zmMk n a b r) = if x = iN (o - 11) then Den (d+1) 194 158 [.ref 94,.int v1,.int (iN to),.int (iN (st1.length + 1)),.int (iN lo),.int (iN (p + 1)),.int (iN o),.int (iN (cdM lo p o v))] [] (zmMk n a b r) else Den (d+1) 194 168 [.ref 94,.int v1,.int (iN to),.int (iN (st1.length + 1)),.int (iN lo),.int (iN (p + 1)),.int (iN o),.int (iN (cdM lo p o v))] [] (zmMk n a b r) := by
                      rw [b194_135, e1, n_in (by omega), if_pos (decide_eq_true (by omega)), n_nat (by omega), htp, b194_143]
                      rcases hj with rfl | rfl
                      · rw [if_neg (by rw [n_eq (by omega) (by omega)]; omega), b194_154, b194_155]
                      · rw [if_pos rfl, b194_150, b194_155]
                    rcases hj with rfl | rfl
                    · rw [if_pos rfl, e135]
                    · rw [if_neg (by rw [n_eq (by omega) (by omega)]; omega), b194_128, if_pos rfl, e135]
                  rw [e155]
                  by_cases hv : x = iN (o - 11)
                  · rw [if_pos hv] at h2 ⊢
                    obtain ⟨a', e, F⟩ := ih v (p + 1) (x :: st1) res (.int (iN o)) (.int (iN (cdM lo p o v))) a h2 l4 (by omega) (by omega) hs (by rw [hl1]; exact hst) hf
                    refine ⟨a', ?_, F⟩
                    rw [b194_158, n_add, b194_230, show lo + cdM lo p o v = p + 1 + v by rw [hcj]; omega]
                    exact e
                  · rw [if_neg hv] at h2 ⊢
                    obtain ⟨a', e, F⟩ := ih 0 (p + 1) st1 res (.int (iN o)) (.int (iN (cdM lo p o v))) a h2 l4 (by omega) (by omega) hs.2 (by omega) hf
                    refine ⟨a', ?_, F⟩
                    rw [b194_168, e1, b194_230]
                    exact e
                · rw [if_neg hx] at h2
                  cases h2
              · rw [if_neg hj] at h2
                rw [if_neg (by rw [n_eq (by omega) (by omega)]; omega), b194_128, if_neg (by rw [n_eq (by omega) (by omega)]; omega), b194_175]
                match st1, h2, hs, hst, htp, e1 with
                | [], h2, _, _, _, _ => cases h2
                | y :: st2, h2, hs, hst, htp, e1 =>
                  have hl2 : (y :: st2).length = st2.length + 1 := rfl
                  rw [hl2] at hst htp e1 ⊢
                  have h3 : (if o ≤ 9 then (if (o = 5 ∨ o = 6) ∧ x = iN 0 then some none else ev f 0 os (rek o y x :: st2)) else none) = some res := h2
                  rw [if_pos (by omega)] at h3
                  have e203 : (if iN o = iN 5 then Den (d+1) 194 192 [.ref 94,.int v1,.int (iN to),.int (iN (st2.length + 1 + 1) - iN 1),.int (iN lo),.int (iN (p + 1)),.int (iN o),.int (iN (cdM lo p o v))] [] (zmMk n a b r) else Den (d+1) 194 185 [.ref 94,.int v1,.int (iN to),.int (iN (st2.length + 1 + 1) - iN 1),.int (iN lo),.int (iN (p + 1)),.int (iN o),.int (iN (cdM lo p o v))] [] (zmMk n a b r)) = if (o = 5 ∨ o = 6) ∧ x = iN 0 then some (some (.int (iN 0)), (zmMk n a b r)) else Den (d+1) 194 203 [.ref 94,.int v1,.int (iN to),.int (iN (st2.length + 1)),.int (iN lo),.int (iN (p + 1)),.int (iN o),.int (iN (cdM lo p o v))] [] (zmMk n a b r) := by
                    rw [e1]
                    have e192 : Den (d+1) 194 192 [.ref 94,.int v1,.int (iN to),.int (iN (st2.length + 1)),.int (iN lo),.int (iN (p + 1)),.int (iN o),.int (iN (cdM lo p o v))] [] (zmMk n a b r) = if x = iN 0 then some (some (.int (iN 0)), (zmMk n a b r)) else Den (d+1) 194 203 [.ref 94,.int v1,.int (iN to),.int (iN (st2.length + 1)),.int (iN lo),.int (iN (p + 1)),.int (iN o),.int (iN (cdM lo p o v))] [] (zmMk n a b r) := by
                      rw [b194_192, n_in (by omega), if_pos (decide_eq_true (by omega)), n_nat (by omega), htp, b194_198]
                      simp only [b194_201]
                    by_cases o5 : o = 5
                    · rw [if_pos (by rw [o5]), e192]
                      by_cases hx0 : x = iN 0
                      · rw [if_pos hx0, if_pos ⟨Or.inl o5, hx0⟩]
                      · rw [if_neg hx0, if_neg (fun z => hx0 z.2)]
                    · rw [if_neg (by rw [n_eq (by omega) (by omega)]; exact o5), b194_185]
                      by_cases o6 : o = 6
                      · rw [if_pos (by rw [o6]), e192]
                        by_cases hx0 : x = iN 0
                        · rw [if_pos hx0, if_pos ⟨Or.inr o6, hx0⟩]
                        · rw [if_neg hx0, if_neg (fun z => hx0 z.2)]
                      · rw [if_neg (by rw [n_eq (by omega) (by omega)]; exact o6), if_neg (fun z => by omega)]
                  rw [e203]
                  by_cases hz : (o = 5 ∨ o = 6) ∧ x = iN 0
                  · rw [if_pos hz] at h3 ⊢
                    cases h3
                    exact ⟨a, rfl, fun _ _ => rfl⟩
                  · rw [if_neg hz] at h3 ⊢
                    have G : onlyX 112 a (uI a 112 st2.length (rek o y x)) := onlyX.put
                    obtain ⟨a', e, F⟩ := ih 0 (p + 1) (rek o y x :: st2) res (.int (iN o)) (.int (iN (cdM lo p o v))) (uI a 112 st2.length (rek o y x)) h3 (by rw [G 106 (by omega)]; exact l4) (by omega) (by omega) (StkA.push hs.2.2) (by simp only [List.length_cons]; omega) (fun j hj => by rw [G 113 (by omega)]; exact hf j hj)
                    refine ⟨a', ?_, G.trans F⟩
                    have hy : a 112 st2.length = y := hs.2.1
                    have hpm : iN (st2.length + 1) - iN 1 = iN st2.length := by rw [n_sub (by omega)]; rfl
                    have er2 : Den (d) 193 0 [.int (iN o), .int y, .int x] [] (zmMk n a b r) = _ := m_rek (by omega) (by omega) hz
                    rw [b194_203, hpm, n_in (by omega), if_pos (decide_eq_true (by omega)), n_nat (by omega), hy, b194_220, n_in (by omega), if_pos (decide_eq_true (by omega)), n_nat (by omega), htp, b194_226, er2]
                    simp only [Option.bind_some, Option.toList_some, Option.toList_none, List.cons_append, List.nil_append, true_or, or_true, if_true, bI_if, b194_229]
                    rw [n_in (by omega), if_pos (decide_eq_true (by omega)), n_nat (by omega), b194_230]
                    exact e
