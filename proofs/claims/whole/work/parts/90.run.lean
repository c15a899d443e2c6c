/-! ===== TEXTS: the class's run ===== -/
theorem tx_of {TT : Nat} (h : isTx TT) : TT = 31 ∨ TT = 38 ∨ TT = 70 ∨ TT = 76 ∨ TT = 82 ∨ TT = 88 := by
  unfold isTx at h
  omega
theorem tx_lay {TT : Nat} (h : isTx TT) : zmLay (TT + 1) = (20, 480) ∧ zmLay (TT + 2) = (20, 16) ∧ zmLay (TT + 3) = (20, 16) ∧ zmLay (TT + 4) = (20, 16) ∧ zmLay (TT + 5) = (20, 32) ∧ TT + 5 < 147 ∧ TT + 5 ≠ 30 ∧ scC (TT + 5) = true := by
  rcases tx_of h with rfl | rfl | rfl | rfl | rfl | rfl <;> decide +kernel
/-- the class's code of an order -/
def ccO (o : Nat) : Nat := if o = 0 then 35 else if o = 1 then 120 else if o = 2 then 43 else if o = 3 then 45 else if o = 4 then 42 else if o = 5 then 47 else if o = 6 then 37 else if o = 7 then 60 else if o = 8 then 62 else if o = 9 then 61 else if o = 10 then 33 else if o = 11 then 38 else 124
/-- orders as they lie in the class from a place on -/
def LayC (f : Nat → Int32) : Nat → Ops → Prop
  | _, [] => True
  | p, (o, v) :: os => f p = iN (ccO o) ∧ (o ≤ 1 → f (p + 1) = iN v) ∧ (o = 11 ∨ o = 12 → f (p + 1) = iN (p + 2 + 2 * v)) ∧ LayC f (p + 2) os
theorem LayC.app {f : Nat → Int32} {x y : Ops} : ∀ {p : Nat}, LayC f p (x ++ y) ↔ LayC f p x ∧ LayC f (p + 2 * x.length) y := by
  induction x with
  | nil => exact fun {p} => ⟨fun h => ⟨trivial, h⟩, fun h => h.2⟩
  | cons z x ih =>
    obtain ⟨o, v⟩ := z
    intro p
    show (_ ∧ _ ∧ _ ∧ LayC f (p + 2) (x ++ y)) ↔ (_ ∧ _ ∧ _ ∧ LayC f (p + 2) x) ∧ LayC f (p + 2 * (x.length + 1)) y
    rw [ih, show p + 2 * (x.length + 1) = p + 2 + 2 * x.length by omega]
    exact ⟨fun ⟨h1, h2, h3, h4, h5⟩ => ⟨⟨h1, h2, h3, h4⟩, h5⟩, fun ⟨⟨h1, h2, h3, h4⟩, h5⟩ => ⟨h1, h2, h3, h4, h5⟩⟩
theorem LayC.ag {f g : Nat → Int32} {os : Ops} : ∀ {p : Nat}, LayC f p os → (∀ j, p ≤ j → j < p + 2 * os.length → g j = f j) → LayC g p os := by
  induction os with
  | nil => exact fun _ _ => trivial
  | cons z os ih =>
    obtain ⟨o, v⟩ := z
    intro p h hg
    obtain ⟨h1, h2, h3, h4⟩ := h
    have hl : ((o, v) :: os).length = os.length + 1 := rfl
    rw [hl] at hg
    refine ⟨?_, fun h => ?_, fun h => ?_, ih h4 (fun j h5 h6 => hg j (by omega) (by omega))⟩
    · rw [hg p (by omega) (by omega)]; exact h1
    · rw [hg (p + 1) (by omega) (by omega)]; exact h2 h
    · rw [hg (p + 1) (by omega) (by omega)]; exact h3 h
/-- the stack, top first -/
def StkA (f : Nat → Int32) : List Int32 → Prop
  | [] => True
  | x :: st => f st.length = x ∧ StkA f st
theorem StkA.ag {f g : Nat → Int32} {st : List Int32} : StkA f st → (∀ j, j < st.length → g j = f j) → StkA g st := by
  induction st with
  | nil => exact fun _ _ => trivial
  | cons x st ih =>
    intro h hg
    have hl : (x :: st).length = st.length + 1 := rfl
    rw [hl] at hg
    exact ⟨by rw [hg _ (by omega)]; exact h.1, ih h.2 (fun j hj => hg j (by omega))⟩
theorem StkA.push {f : Nat → Nat → Int32} {k : Nat} {st : List Int32} {v : Int32} (h : StkA (f k) st) : StkA (uI f k st.length v k) (v :: st) := ⟨uI_self, h.ag (fun j hj => uI_nj (by omega))⟩
def tpN (k : Nat) : Int32 := iN k - iN 1
theorem tpN_1 (k : Nat) : tpN k + iN 1 = iN k := by
  unfold tpN
  rw [Int32.sub_add_cancel]
theorem tpN_s (k : Nat) : tpN (k + 1) = iN k := by
  unfold tpN
  rw [n_sub (by omega)]
  rfl
theorem iN_m1 : (-1 : Int32) = iN 4294967295 := by decide +kernel
theorem tpN_0 : tpN 0 = -1 := by decide +kernel
theorem n_pm {k : Nat} (h : 1 ≤ k) : iN k + (-1) = iN (k - 1) := by
  rw [← Int32.sub_eq_add_neg, show (1 : Int32) = iN 1 from rfl, n_sub h]
theorem tpN_d (k : Nat) : tpN (k + 1) + (-1) = tpN k := by
  rw [tpN_s]
  unfold tpN
  rw [← Int32.sub_eq_add_neg]
  rfl
theorem ccO_ne {o : Nat} (h : o ≤ 12) : ccO o < 128 ∧ ccO o ≠ 0 := by
  revert o
  decide +kernel
theorem ccO_in {o k : Nat} (h : o ≤ 12) (hk : k ≤ 12) : (ccO o = ccO k) = (o = k) := by
  refine propext ⟨fun e => ?_, fun e => by rw [e]⟩
  have h2 : ∀ o ≤ 12, ∀ k ≤ 12, ccO o = ccO k → o = k := by decide +kernel
  exact h2 o h k hk e
theorem n_cc {o k c : Nat} (h : o ≤ 12) (hk : k ≤ 12) (hc : ccO k = c) : (iN (ccO o) = iN c) = (o = k) := by
  rw [← hc, n_eq (by have := ccO_ne h; omega) (by have := ccO_ne hk; omega), ccO_in h hk]
theorem c_rek {d o : Nat} {n : Nat} {a : Nat → Nat → Int32} {b : Nat → Nat → Int64} {r : Nat → Nat → Option Nat} {x y : Int32} (h1 : 2 ≤ o) (h2 : o ≤ 9) (h3 : ¬ ((o = 5 ∨ o = 6) ∧ y = iN 0)) : Den (d) 91 0 [.int (iN (ccO o)), .int x, .int y] [] (zmMk n a b r) = some (some (.int (rek o x y)), (zmMk n a b r)) := by
  have hz : iN 0 = 0 := rfl
  have e : ∀ pc, zmLs 1 125 #[(37, 91), (42, 75), (43, 67), (45, 71), (47, 79), (60, 103), (62, 114)] (iN (ccO o)) = pc → Den (d) 91 0 [.int (iN (ccO o)), .int x, .int y] [] (zmMk n a b r) = Den d 91 pc [.int (iN (ccO o)), .int x, .int y] [] (zmMk n a b r) := fun pc h => by rw [← h]; exact b91_0
  obtain rfl | rfl | rfl | rfl | rfl | rfl | rfl | rfl : o = 2 ∨ o = 3 ∨ o = 4 ∨ o = 5 ∨ o = 6 ∨ o = 7 ∨ o = 8 ∨ o = 9 := by omega
  · rw [e 68 (by decide +kernel), b91_68]; rfl
  · rw [e 72 (by decide +kernel), b91_72]; rfl
  · rw [e 76 (by decide +kernel), b91_76]; rfl
  · have h4 : ¬ y = iN 0 := fun h => h3 ⟨Or.inl rfl, h⟩
    rw [e 80 (by decide +kernel), b91_80, if_neg h4, b91_88, if_neg (show ¬ y = 0 from h4), b91_91]; rfl
  · have h4 : ¬ y = iN 0 := fun h => h3 ⟨Or.inr rfl, h⟩
    rw [e 92 (by decide +kernel), b91_92, if_neg h4, b91_100, if_neg (show ¬ y = 0 from h4), b91_103]; rfl
  · rw [e 104 (by decide +kernel), b91_104]
    show _ = some (some (Value.int (if x < y then iN 1 else iN 0)), (zmMk n a b r))
    split
    · rw [b91_109, b91_114]
    · rw [b91_113, b91_114]
  · rw [e 115 (by decide +kernel), b91_115]
    show _ = some (some (Value.int (if y < x then iN 1 else iN 0)), (zmMk n a b r))
    split
    · rw [b91_120, b91_125]
    · rw [b91_124, b91_125]
  · rw [e 126 (by decide +kernel), b91_126]
    show _ = some (some (Value.int (if x = y then iN 1 else iN 0)), (zmMk n a b r))
    split
    · rw [b91_131, b91_136]
    · rw [b91_135, b91_136]
def rsV (z : Option Int32) : Int32 := match z with
  | some v => v
  | none => iN 0
theorem c_stk {d TT j : Nat} {n : Nat} {a : Nat → Nat → Int32} {b : Nat → Nat → Int64} {r : Nat → Nat → Option Nat} (hX : isTx TT) (hj : j < 32) : Den (d) 145 0 [.ref (TT + 5), .int (iN j)] [] (zmMk n a b r) = some (some (.int (a (TT + 5) j)), (zmMk n a b r)) := by
  obtain ⟨-, -, -, -, h5, h6, -, -⟩ := tx_lay hX
  rw [c_item h5 (by omega) h6 (by decide), itV_n hj (by decide)]
theorem c_pstk {d TT j : Nat} {n : Nat} {a : Nat → Nat → Int32} {b : Nat → Nat → Int64} {r : Nat → Nat → Option Nat} {v : Int32} (hX : isTx TT) (hj : j < 32) : Den (d) 146 0 [.ref (TT + 5), .int (iN j), .int v] [] (zmMk n a b r) = some (none, zmMk n (uI a (TT + 5) j v) b r) := by
  obtain ⟨-, -, -, -, h5, h6, -, -⟩ := tx_lay hX
  rw [c_put h5 (by omega) h6 (by decide), puV_n hj (by decide)]
/-- only one cell is other -/
def onlyX (k : Nat) (a a' : Nat → Nat → Int32) : Prop := ∀ k', k' ≠ k → a' k' = a k'
theorem onlyX.trans {k : Nat} {a a1 a2 : Nat → Nat → Int32} (h : onlyX k a a1) (g : onlyX k a1 a2) : onlyX k a a2 := fun k' hk => (g k' hk).trans (h k' hk)
theorem onlyX.put {k j : Nat} {a : Nat → Nat → Int32} {v : Int32} : onlyX k a (uI a k j v) := fun _ hk => uI_ne hk
def evB (f : Nat → Int32) (o : Nat) (os : Ops) (x : Int32) : List Int32 → Option (Option Int32)
  | [] => none
  | y :: st2 => if o ≤ 9 then (if (o = 5 ∨ o = 6) ∧ x = iN 0 then some none else ev f 0 os (rek o y x :: st2)) else none
theorem ev_x {f : Nat → Int32} {o v : Nat} {os : Ops} {x : Int32} {st1 : List Int32} (h0 : o ≠ 0) (h1 : o ≠ 1) : ev f 0 ((o, v) :: os) (x :: st1) = if o = 10 then ev f 0 os ((iN 1 - x) :: st1) else if o = 11 ∨ o = 12 then (if (x = iN 0 ∨ x = iN 1) ∧ v ≤ os.length then (if x = iN (o - 11) then ev f v os (x :: st1) else ev f 0 os st1) else none) else evB f o os x st1 := by
  cases st1 with
  | nil => exact (if_neg h0).trans ((if_neg h1).trans rfl)
  | cons y st2 => exact (if_neg h0).trans ((if_neg h1).trans rfl)
set_option maxHeartbeats 2000000 in
theorem c_runL {d n TT : Nat} {b : Nat → Nat → Int64} {r : Nat → Nat → Option Nat} {f : Nat → Int32} {v1 : Int32} (hX : isTx TT) (os : Ops) : ∀ (k p left : Nat) (st : List Int32) (res : Option Int32) (u6 u7 u8 : Value) (a : Nat → Nat → Int32), ev f k os st = some res → LayC (a (TT + 1)) p os → a (TT + 1) (p + 2 * os.length) = iN 0 → p + 2 * os.length + 1 < 480 → os.length < left → left ≤ 480 → StkA (a (TT + 5)) st → st.length ≤ 20 → (∀ j, j < 10 → a 30 j = f j) → ∃ a', Den (d+2) 90 10 [.ref TT,.int v1,.ref 30,.int (tpN st.length),.int (iN (p + 2 * k)),.int (iN left),u6,u7,u8] [] (zmMk n a b r) = some (some (.int (rsV res)), zmMk n a' b r) ∧ onlyX (TT + 5) a a' := by
  obtain ⟨-, -, -, -, h5, h6, h30, -⟩ := tx_lay hX
  induction os with
  | nil =>
    intro k p left st res u6 u7 u8 a he hl hend hp hleft h480 hs hst hf
    cases k with
    | succ k => cases he
    | zero =>
      have hlen : ([] : Ops).length = 0 := rfl
      rw [hlen] at hend hp hleft
      match st, he with
      | [v], he =>
        cases he
        refine ⟨a, ?_, fun _ _ => rfl⟩
        have hs0 : a (TT + 5) 0 = v := hs.1
        have ei : Den (d+1) 145 0 [.ref (TT + 5), .int (iN 0)] [] (zmMk n a b r) = _ := c_stk hX (by omega)
        rw [b90_10 hX, if_pos (by rw [n_lt (by omega) (by omega)]; omega), b90_15 hX, if_neg (by rw [n_not_neg (by omega)]; exact not_false), b90_20 hX, n_add, if_pos (by rw [n_lt (by omega) (by omega)]; omega), b90_32 hX, n_in (by omega), if_pos (decide_eq_true (by omega)), n_nat (by omega), b90_39 hX, n_add, n_in (by omega), if_pos (decide_eq_true (by omega)), n_nat (by omega), show p + 2 * 0 = p by omega]
        have hend' : a (TT + 1) p = iN 0 := hend
        rw [hend', b90_50 hX, if_pos rfl, b90_60 hX, b90_258 hX]
        show ((Den (d+1) 145 0 [.ref (TT + 5), .int (tpN 1)] [] (zmMk n a b r)).bind _) = _
        rw [tpN_s 0, ei]
        simp only [Option.bind_some, Option.toList_some, Option.toList_none, List.cons_append, List.nil_append, true_or, or_true, if_true, bI_if, b90_266 hX, hs0]
        rfl
  | cons z os ih =>
    obtain ⟨o, v⟩ := z
    intro k p left st res u6 u7 u8 a he hl hend hp hleft h480 hs hst hf
    have hlen : ((o, v) :: os).length = os.length + 1 := rfl
    rw [hlen] at hend hp hleft
    obtain ⟨l1, l2, l3, l4⟩ := hl
    have hend2 : a (TT + 1) (p + 2 + 2 * os.length) = iN 0 := by rw [show p + 2 + 2 * os.length = p + 2 * (os.length + 1) by omega]; exact hend
    cases k with
    | succ k =>
      have he2 : ev f k os st = some res := he
      obtain ⟨a', e, F⟩ := ih k (p + 2) left st res u6 u7 u8 a he2 l4 hend2 (by omega) (by omega) h480 hs hst hf
      refine ⟨a', ?_, F⟩
      rw [show p + 2 * (k + 1) = p + 2 + 2 * k by omega]
      exact e
    | zero =>
      -- the head: order and what goes with it
      have eh : Den (d+2) 90 10 [.ref TT,.int v1,.ref 30,.int (tpN st.length),.int (iN (p + 2 * 0)),.int (iN left),u6,u7,u8] [] (zmMk n a b r) = if iN (ccO o) = iN 0 then Den (d+2) 90 60 [.ref TT,.int v1,.ref 30,.int (tpN st.length),.int (iN (p + 2)),.int (iN left),.int (iN (ccO o)),.int (a (TT + 1) (p + 1)),u8] [] (zmMk n a b r) else Den (d+2) 90 63 [.ref TT,.int v1,.ref 30,.int (tpN st.length),.int (iN (p + 2)),.int (iN left),.int (iN (ccO o)),.int (a (TT + 1) (p + 1)),u8] [] (zmMk n a b r) := by
        rw [b90_10 hX, if_pos (by rw [n_lt (by omega) (by omega)]; omega), b90_15 hX, if_neg (by rw [n_not_neg (by omega)]; exact not_false), b90_20 hX, n_add, if_pos (by rw [n_lt (by omega) (by omega)]; omega), b90_32 hX, n_in (by omega), if_pos (decide_eq_true (by omega)), n_nat (by omega), b90_39 hX, n_add, n_in (by omega), if_pos (decide_eq_true (by omega)), n_nat (by omega), show p + 2 * 0 = p by omega, l1, b90_50 hX, n_add]
      have e252 : ∀ (a1 : Nat → Nat → Int32) (v3 v4 v6 v7 : Int32) (w8 : Value), Den (d+2) 90 252 [.ref TT,.int v1,.ref 30,.int v3,.int v4,.int (iN left),.int v6,.int v7,w8] [] (zmMk n a1 b r) = Den (d+2) 90 10 [.ref TT,.int v1,.ref 30,.int v3,.int v4,.int (iN (left - 1)),.int v6,.int v7,w8] [] (zmMk n a1 b r) := fun a1 v3 v4 v6 v7 w8 => by rw [b90_252 hX, n_pm (by omega)]
      have hke : ev f 0 ((o, v) :: os) st = some res := he
      -- a number or a letter
      have push : ∀ w : Int32, st.length < 20 → ev f 0 os (w :: st) = some res → ∀ (v6 v7 : Int32) (w8 : Value), ∃ a', Den (d+2) 90 103 [.ref TT,.int v1,.ref 30,.int (iN st.length),.int (iN (p + 2)),.int (iN left),.int v6,.int v7,w8] [.int w,.int (iN st.length),.ref (TT + 5)] (zmMk n a b r) = some (some (.int (rsV res)), zmMk n a' b r) ∧ onlyX (TT + 5) a a' := by
        intro w hw h2 v6 v7 w8
        have G : onlyX (TT + 5) a (uI a (TT + 5) st.length w) := onlyX.put
        obtain ⟨a', e, F⟩ := ih 0 (p + 2) (left - 1) (w :: st) res (.int v6) (.int v7) w8 (uI a (TT + 5) st.length w) h2 (by rw [G (TT + 1) (by omega)]; exact l4) (by rw [G (TT + 1) (by omega)]; exact hend2) (by omega) (by omega) (by omega) hs.push (by simp only [List.length_cons]; omega) (fun j hj => by rw [G 30 (by omega)]; exact hf j hj)
        refine ⟨a', ?_, G.trans F⟩
        have ep : Den (d+1) 146 0 [.ref (TT + 5), .int (iN st.length), .int w] [] (zmMk n a b r) = _ := c_pstk hX (by omega)
        rw [b90_103 hX, ep]
        simp only [Option.bind_some, Option.toList_none, List.nil_append]
        rw [b90_106 hX, e252, ← tpN_s]
        exact e
      by_cases ho : o = 0
      · subst ho
        have h2 : (if st.length < 20 ∧ v < 100000 then ev f 0 os (iN v :: st) else none) = some res := hke
        by_cases hc : st.length < 20 ∧ v < 100000
        · rw [if_pos hc] at h2
          have n0 : ¬ iN (ccO 0) = iN 0 := by rw [n_eq (by decide) (by decide)]; decide
          obtain ⟨a', e, F⟩ := push (iN v) hc.1 h2 (iN (ccO 0)) (iN v) u8
          refine ⟨a', ?_, F⟩
          have hs1 : iN (ccO 0) = iN 35 := rfl
          rw [eh, if_neg n0, l2 (by omega), b90_63 hX, if_pos hs1, b90_77 hX, if_pos hs1, b90_92 hX, tpN_1]
          exact e
        · rw [if_neg hc] at h2
          cases h2
      · by_cases ho1 : o = 1
        · subst ho1
          have h2 : (if st.length < 20 ∧ v < 10 then ev f 0 os (f v :: st) else none) = some res := hke
          by_cases hc : st.length < 20 ∧ v < 10
          · rw [if_pos hc] at h2
            have n0 : ¬ iN (ccO 1) = iN 0 := by rw [n_eq (by decide) (by decide)]; decide
            have n1 : ¬ iN (ccO 1) = iN 35 := by rw [n_eq (by decide) (by decide)]; decide
            obtain ⟨a', e, F⟩ := push (f v) hc.1 h2 (iN (ccO 1)) (iN v) u8
            refine ⟨a', ?_, F⟩
            have hs1 : iN (ccO 1) = iN 120 := rfl
            have ei : Den (d+1) 145 0 [.ref 30, .int (iN v)] [] (zmMk n a b r) = some (some (.int (a 30 v)), (zmMk n a b r)) := by
              rw [c_item (len := 10) (by decide +kernel) (by decide) (by decide) (by decide), itV_n hc.2 (by decide)]
            rw [eh, if_neg n0, l2 (by omega), b90_63 hX, if_neg n1, b90_70 hX, if_pos hs1, b90_77 hX, if_neg n1, b90_97 hX, tpN_1, ei, hf v hc.2]
            simp only [Option.bind_some, Option.toList_some, Option.toList_none, List.cons_append, List.nil_append, true_or, or_true, if_true, bI_if]
            exact e
          · rw [if_neg hc] at h2
            cases h2
        · match st, hke, hs, hst, eh, push with
          | [], hke, _, _, _, _ =>
            have h2 : (if o = 0 then _ else if o = 1 then _ else (none : Option (Option Int32))) = some res := hke
            rw [if_neg ho, if_neg ho1] at h2
            cases h2
          | x :: st1, hke, hs, hst, eh, push =>
            have hl1 : (x :: st1).length = st1.length + 1 := rfl
            rw [hl1] at hst
            have h2 := (ev_x ho ho1).symm.trans hke
            have ht : a (TT + 5) st1.length = x := hs.1
            have ei : ∀ a1 : Nat → Nat → Int32, Den (d+1) 145 0 [.ref (TT + 5), .int (iN st1.length)] [] (zmMk n a1 b r) = some (some (.int (a1 (TT + 5) st1.length)), zmMk n a1 b r) := fun a1 => c_stk hX (by omega)
            -- o ≤ 12, else nothing comes
            have h12 : o ≤ 12 := by
              by_cases h12 : o ≤ 12
              · exact h12
              · rw [if_neg (by omega), if_neg (by omega)] at h2
                match st1, h2 with
                | [], h2 => cases h2
                | y :: st2, h2 =>
                  have h3 : (if o ≤ 9 then _ else (none : Option (Option Int32))) = some res := h2
                  rw [if_neg (by omega)] at h3
                  cases h3
            have n0 : ¬ iN (ccO o) = iN 0 := by have := ccO_ne h12; rw [n_eq (by omega) (by omega)]; omega
            have eg : Den (d+2) 90 10 [.ref TT,.int v1,.ref 30,.int (tpN (x :: st1).length),.int (iN (p + 2 * 0)),.int (iN left),u6,u7,u8] [] (zmMk n a b r) = Den (d+2) 90 109 [.ref TT,.int v1,.ref 30,.int (iN st1.length),.int (iN (p + 2)),.int (iN left),.int (iN (ccO o)),.int (a (TT + 1) (p + 1)),u8] [] (zmMk n a b r) := by
              rw [eh, if_neg n0, b90_63 hX, if_neg (by rw [n_cc h12 (by omega) (show ccO 0 = 35 from rfl)]; exact ho), b90_70 hX, if_neg (by rw [n_cc h12 (by omega) (show ccO 1 = 120 from rfl)]; exact ho1), hl1, tpN_s]
            rw [eg]
            by_cases ho10 : o = 10
            · subst ho10
              have h3 : ev f 0 os ((iN 1 - x) :: st1) = some res := h2
              have G : onlyX (TT + 5) a (uI a (TT + 5) st1.length (iN 1 - x)) := onlyX.put
              obtain ⟨a', e, F⟩ := ih 0 (p + 2) (left - 1) ((iN 1 - x) :: st1) res (.int (iN (ccO 10))) (.int (a (TT + 1) (p + 1))) u8 (uI a (TT + 5) st1.length (iN 1 - x)) h3 (by rw [G (TT + 1) (by omega)]; exact l4) (by rw [G (TT + 1) (by omega)]; exact hend2) (by omega) (by omega) (by omega) (StkA.push hs.2) (by simp only [List.length_cons]; omega) (fun j hj => by rw [G 30 (by omega)]; exact hf j hj)
              refine ⟨a', ?_, G.trans F⟩
              have ep : Den (d+1) 146 0 [.ref (TT + 5), .int (iN st1.length), .int (iN 1 - x)] [] (zmMk n a b r) = _ := c_pstk hX (by omega)
              rw [b90_109 hX, if_pos (show iN (ccO 10) = iN 33 from rfl), b90_116 hX, ei, ht]
              simp only [Option.bind_some, Option.toList_some, Option.toList_none, List.cons_append, List.nil_append, true_or, or_true, if_true, bI_if, b90_130 hX, ep, Option.toList_none]
              rw [b90_134 hX, e252, ← tpN_s]
              exact e
            · rw [if_neg ho10] at h2
              rw [b90_109 hX, if_neg (by rw [n_cc h12 (by omega) (show ccO 10 = 33 from rfl)]; exact ho10)]
              by_cases hj : o = 11 ∨ o = 12
              · rw [if_pos hj] at h2
                by_cases hx : (x = iN 0 ∨ x = iN 1) ∧ v ≤ os.length
                · rw [if_pos hx] at h2
                  have e151 : Den (d+2) 90 137 [.ref TT,.int v1,.ref 30,.int (iN st1.length),.int (iN (p + 2)),.int (iN left),.int (iN (ccO o)),.int (a (TT + 1) (p + 1)),u8] [] (zmMk n a b r) = if x = iN (o - 11) then Den (d+2) 90 182 [.ref TT,.int v1,.ref 30,.int (iN st1.length),.int (iN (p + 2)),.int (iN left),.int (iN (ccO o)),.int (a (TT + 1) (p + 1)),u8] [] (zmMk n a b r) else Den (d+2) 90 189 [.ref TT,.int v1,.ref 30,.int (iN st1.length),.int (iN (p + 2)),.int (iN left),.int (iN (ccO o)),.int (a (TT + 1) (p + 1)),u8] [] (zmMk n a b r) := by
                    have z01 : ¬ iN 0 = iN 1 := by rw [n_eq (by omega) (by omega)]; omega
                    have z10 : ¬ iN 1 = iN 0 := by rw [n_eq (by omega) (by omega)]; omega
                    have e1 : Den (d+2) 90 137 [.ref TT,.int v1,.ref 30,.int (iN st1.length),.int (iN (p + 2)),.int (iN left),.int (iN (ccO o)),.int (a (TT + 1) (p + 1)),u8] [] (zmMk n a b r) = Den (d+2) 90 151 [.ref TT,.int v1,.ref 30,.int (iN st1.length),.int (iN (p + 2)),.int (iN left),.int (iN (ccO o)),.int (a (TT + 1) (p + 1)),u8] [] (zmMk n a b r) := by
                      rw [b90_137 hX]
                      rcases hj with rfl | rfl
                      · rw [if_pos (show iN (ccO 11) = iN 38 from rfl)]
                      · rw [if_neg (by rw [n_cc h12 (by omega) (show ccO 11 = 38 from rfl)]; omega), b90_144 hX, if_pos (show iN (ccO 12) = iN 124 from rfl)]
                    rw [e1, b90_151 hX, ei, ht]
                    simp only [Option.bind_some, Option.toList_some, Option.toList_none, List.cons_append, List.nil_append, true_or, or_true, if_true, bI_if, b90_159 hX]
                    rcases hx.1 with rfl | rfl
                    · rw [if_pos rfl, b90_166 hX, b90_167 hX]
                      rcases hj with rfl | rfl
                      · rw [if_neg (by rw [n_cc h12 (by omega) (show ccO 12 = 124 from rfl)]; omega), b90_178 hX, b90_179 hX]
                      · rw [if_pos (show iN (ccO 12) = iN 124 from rfl), b90_174 hX, b90_179 hX]
                    · rw [if_neg z10, b90_162 hX, b90_167 hX]
                      rcases hj with rfl | rfl
                      · rw [if_neg (by rw [n_cc h12 (by omega) (show ccO 12 = 124 from rfl)]; omega), b90_178 hX, b90_179 hX]
                      · rw [if_pos (show iN (ccO 12) = iN 124 from rfl), b90_174 hX, b90_179 hX]
                  rw [e151]
                  by_cases hv : x = iN (o - 11)
                  · rw [if_pos hv] at h2 ⊢
                    obtain ⟨a', e, F⟩ := ih v (p + 2) (left - 1) (x :: st1) res (.int (iN (ccO o))) (.int (iN (p + 2 + 2 * v))) u8 a h2 l4 hend2 (by omega) (by omega) (by omega) hs (by rw [hl1]; exact hst) hf
                    refine ⟨a', ?_, F⟩
                    rw [b90_182 hX, e252, l3 hj, ← tpN_s]
                    exact e
                  · rw [if_neg hv] at h2 ⊢
                    obtain ⟨a', e, F⟩ := ih 0 (p + 2) (left - 1) st1 res (.int (iN (ccO o))) (.int (a (TT + 1) (p + 1))) u8 a h2 l4 hend2 (by omega) (by omega) (by omega) hs.2 (by omega) hf
                    refine ⟨a', ?_, F⟩
                    rw [b90_189 hX, e252, ← tpN_s, tpN_d]
                    exact e
                · rw [if_neg hx] at h2
                  cases h2
              · rw [if_neg hj] at h2
                rw [b90_137 hX, if_neg (by rw [n_cc h12 (by omega) (show ccO 11 = 38 from rfl)]; omega), b90_144 hX, if_neg (by rw [n_cc h12 (by omega) (show ccO 12 = 124 from rfl)]; omega), b90_195 hX, ei, ht]
                simp only [Option.bind_some, Option.toList_some, Option.toList_none, List.cons_append, List.nil_append, true_or, or_true, if_true, bI_if]
                match st1, h2, hs, hst, ei, ht with
                | [], h2, _, _, _, _ => cases h2
                | y :: st2, h2, hs, hst, ei, ht =>
                  have hl2 : (y :: st2).length = st2.length + 1 := rfl
                  rw [hl2] at hst ei ht
                  have h3 : (if o ≤ 9 then (if (o = 5 ∨ o = 6) ∧ x = iN 0 then some none else ev f 0 os (rek o y x :: st2)) else none) = some res := h2
                  rw [if_pos (by omega)] at h3
                  have e203 : Den (d+2) 90 203 [.ref TT,.int v1,.ref 30,.int (iN (y :: st2).length),.int (iN (p + 2)),.int (iN left),.int (iN (ccO o)),.int (a (TT + 1) (p + 1)),u8] [.int x] (zmMk n a b r) = if (o = 5 ∨ o = 6) ∧ x = iN 0 then some (some (.int (iN 0)), (zmMk n a b r)) else Den (d+2) 90 226 [.ref TT,.int v1,.ref 30,.int (iN (y :: st2).length),.int (iN (p + 2)),.int (iN left),.int (iN (ccO o)),.int (a (TT + 1) (p + 1)),.int x] [] (zmMk n a b r) := by
                    rw [b90_203 hX]
                    by_cases hx0 : x = iN 0
                    · rw [if_pos hx0, b90_210 hX]
                      by_cases o5 : o = 5
                      · rw [if_pos (show iN (ccO o) = iN 47 by rw [o5]; rfl), b90_224 hX, if_pos ⟨Or.inl o5, hx0⟩]
                      · rw [if_neg (by rw [n_cc h12 (by omega) (show ccO 5 = 47 from rfl)]; exact o5), b90_217 hX]
                        by_cases o6 : o = 6
                        · rw [if_pos (show iN (ccO o) = iN 37 by rw [o6]; rfl), b90_224 hX, if_pos ⟨Or.inr o6, hx0⟩]
                        · rw [if_neg (by rw [n_cc h12 (by omega) (show ccO 6 = 37 from rfl)]; exact o6), if_neg (fun z => by omega)]
                    · rw [if_neg hx0, if_neg (fun z => hx0 z.2)]
                  rw [e203]
                  by_cases hz : (o = 5 ∨ o = 6) ∧ x = iN 0
                  · rw [if_pos hz] at h3 ⊢
                    cases h3
                    exact ⟨a, rfl, fun _ _ => rfl⟩
                  · rw [if_neg hz] at h3 ⊢
                    have G : onlyX (TT + 5) a (uI a (TT + 5) st2.length (rek o y x)) := onlyX.put
                    obtain ⟨a', e, F⟩ := ih 0 (p + 2) (left - 1) (rek o y x :: st2) res (.int (iN (ccO o))) (.int (a (TT + 1) (p + 1))) (.int x) (uI a (TT + 5) st2.length (rek o y x)) h3 (by rw [G (TT + 1) (by omega)]; exact l4) (by rw [G (TT + 1) (by omega)]; exact hend2) (by omega) (by omega) (by omega) (StkA.push hs.2.2) (by simp only [List.length_cons]; omega) (fun j hj => by rw [G 30 (by omega)]; exact hf j hj)
                    refine ⟨a', ?_, G.trans F⟩
                    have hy : a (TT + 5) st2.length = y := hs.2.1
                    have ei2 : Den (d+1) 145 0 [.ref (TT + 5), .int (iN st2.length)] [] (zmMk n a b r) = some (some (.int (a (TT + 5) st2.length)), (zmMk n a b r)) := c_stk hX (by omega)
                    have er : Den (d+1) 91 0 [.int (iN (ccO o)), .int y, .int x] [] (zmMk n a b r) = _ := c_rek (by omega) (by omega) hz
                    have ep : Den (d+1) 146 0 [.ref (TT + 5), .int (iN st2.length), .int (rek o y x)] [] (zmMk n a b r) = _ := c_pstk hX (by omega)
                    have hpm : iN (st2.length + 1) + (-1) = iN st2.length := by rw [n_pm (by omega)]; rfl
                    rw [hl2, b90_226 hX, hpm, ei2, hy]
                    simp only [Option.bind_some, Option.toList_some, Option.toList_none, List.cons_append, List.nil_append, true_or, or_true, if_true, bI_if, b90_244 hX, er, b90_249 hX, ep, Option.toList_none]
                    rw [e252, ← tpN_s]
                    exact e
