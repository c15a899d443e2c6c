/-! ===== the class's parser: number, factor, expression ===== -/
theorem ResP.bind {n TT len s : Nat} {nx : Nat → Nat} {b : Nat → Nat → Int64} {r : Nat → Nat → Option Nat} {a : Nat → Nat → Int32} {z : PR} {D : Option (Option Value × zmH)} {f : Option Value × zmH → Option (Option Value × zmH)} (h : ResP n TT len nx b r a s z D) (hf : ∀ a', f (none, zmMk n a' b r) = some (none, zmMk n a' b r)) : ResP n TT len nx b r a s z (D.bind f) := by
  cases z with
  | inl e =>
    obtain ⟨a', e', hb⟩ := h
    exact ⟨a', by rw [e']; exact hf a', hb⟩
  | inr e =>
    obtain ⟨q, os⟩ := e
    obtain ⟨a', e', hb⟩ := h
    exact ⟨a', by rw [e']; exact hf a', hb⟩
theorem c_digL {D n TT len s : Nat} {nx : Nat → Nat} {r : Nat → Nat → Option Nat} {b : Nat → Nat → Int64} (hH : PrH r TT len nx) (k : Nat) : ∀ (i v p : Nat) (a : Nat → Nat → Int32), i + k = 5 → v < 10 ^ i → PrS TT len nx s p a → p ≤ len → ∃ a' i', Den (D+1) 42 20 [.ref 44,.int (iN v),.int (iN i)] [] (zmMk n a b r) = Den (D+1) 42 64 [.ref 44,.int (iN (pDig nx k v p).1),.int i'] [] (zmMk n a' b r) ∧ OkP TT len nx a a' s (pDig nx k v p).2 [] ∧ (pDig nx k v p).1 < 100000 ∧ (pDig nx k v p).2 ≤ len := by
  have hX := hH.2.2.1
  have hn := hH.2.2.2.2.1
  induction k with
  | zero =>
    intro i v p a hi hv h hp
    obtain rfl : i = 5 := by omega
    refine ⟨a, iN 5, ?_, OkP.refl h, hv, hp⟩
    rw [b42_20, if_neg (lt_n (by omega) (by omega))]
    rfl
  | succ k ih =>
    intro i v p a hi hv h hp
    have e0 : pDig nx (k + 1) v p = if isDg (nx p) then pDig nx k (10 * v + (nx p - 48)) (p + 1) else (v, p) := rfl
    have e1 : Den (D) 45 0 [.ref 44] [] (zmMk n a b r) = _ := c_next hH h hp
    have e2 : Den (D) 44 0 [.int (nxV (nx p))] [] (zmMk n a b r) = _ := c_isDg
    have hp5 : 10 ^ i ≤ 10 ^ 4 := Nat.pow_le_pow_right (by omega) (by omega)
    rw [b42_20, if_pos (lt_p (by omega) (by omega)), b42_25, e1]
    simp only [Option.bind_some, Option.toList_some, Option.toList_none, List.cons_append, List.nil_append, true_or, or_true, if_true, bI_if]
    rw [b42_29, e2]
    simp only [Option.bind_some, Option.toList_some, Option.toList_none, List.cons_append, List.nil_append, true_or, or_true, if_true, bI_if]
    rw [b42_32, bI_if, e0]
    by_cases h1 : isDg (nx p) = true
    · obtain ⟨d1, d2⟩ := isDg_d h1
      have hp1 := nx_le hn (p := p) (by omega)
      have e10 : 10 ^ (i + 1) = 10 ^ i * 10 := Nat.pow_succ ..
      obtain ⟨a', i', e3, ok, hv', hq⟩ := ih (i + 1) (10 * v + (nx p - 48)) (p + 1) (uI a 44 2 (iN (p + 1))) (by omega) (by omega) (h.step hX) hp1
      refine ⟨a', i', ?_, ?_, ?_, ?_⟩
      · rw [if_pos h1, if_pos h1, b42_35, e1]
        simp only [Option.bind_some, Option.toList_some, Option.toList_none, List.cons_append, List.nil_append, true_or, or_true, if_true, bI_if]
        rw [b42_43, h.at2, nxV_of (by omega), n_mul, n_add, n_sub (by omega), n_add, show v * 10 + nx p - 48 = 10 * v + (nx p - 48) by omega]
        exact e3
      · rw [if_pos h1]
        exact (OkP.step hX h).trans ok
      · rw [if_pos h1]
        exact hv'
      · rw [if_pos h1]
        exact hq
    · refine ⟨a, iN i, ?_, ?_, ?_, ?_⟩
      · rw [if_neg h1, if_neg h1]
      · rw [if_neg h1]
        exact OkP.refl h
      · rw [if_neg h1]
        show v < 100000
        omega
      · rw [if_neg h1]
        exact hp
theorem c_number {D n TT len s p : Nat} {nx : Nat → Nat} {r : Nat → Nat → Option Nat} {a : Nat → Nat → Int32} {b : Nat → Nat → Int64} (hH : PrH r TT len nx) (h : PrS TT len nx s p a) (hp : p ≤ len) (hs : s ≤ 239) : ResP n TT len nx b r a s (pNum nx p) (Den (D+2) 42 0 [.ref 44, zmJ, zmJ] [] (zmMk n a b r)) := by
  obtain ⟨h0, h5, hX, hl, hn, hb⟩ := id hH
  have e1 : Den (D+1) 45 0 [.ref 44] [] (zmMk n a b r) = _ := c_next hH h hp
  have e2 : Den (D+1) 44 0 [.int (nxV (nx p))] [] (zmMk n a b r) = _ := c_isDg
  rw [b42_0, e1]
  simp only [Option.bind_some, Option.toList_some, Option.toList_none, List.cons_append, List.nil_append, true_or, or_true, if_true, bI_if]
  rw [b42_4, e2]
  simp only [Option.bind_some, Option.toList_some, Option.toList_none, List.cons_append, List.nil_append, true_or, or_true, if_true, bI_if]
  rw [b42_7, bI_if]
  unfold pNum
  by_cases h1 : isDg (nx p) = true
  · rw [if_pos h1, if_pos h1, b42_16]
    obtain ⟨a', i', e3, ok, hv, hq⟩ := c_digL (D := D+1) (n := n) (b := b) hH 5 0 0 p a (by omega) (by omega) h hp
    have h' : PrS TT len nx s (pDig nx 5 0 p).2 a' := ok.1
    have e4 : Den (D+1) 45 0 [.ref 44] [] (zmMk n a' b r) = _ := c_next hH h' hq
    have e5 : Den (D+1) 44 0 [.int (nxV (nx (pDig nx 5 0 p).2))] [] (zmMk n a' b r) = _ := c_isDg
    rw [e3, b42_64, e4]
    simp only [Option.bind_some, Option.toList_some, Option.toList_none, List.cons_append, List.nil_append, true_or, or_true, if_true, bI_if]
    rw [b42_68, e5]
    simp only [Option.bind_some, Option.toList_some, Option.toList_none, List.cons_append, List.nil_append, true_or, or_true, if_true, bI_if]
    rw [b42_71, bI_if]
    by_cases h2 : isDg (nx (pDig nx 5 0 p).2) = true
    · rw [if_pos h2, if_pos h2, b42_74, c_fail h'.2.2.1 h'.2.1]
      simp only [Option.bind_some, Option.toList_none, List.nil_append]
      rw [b42_79]
      exact ⟨_, rfl, ok.bad (BadP.fail hX (by show s + 0 ≤ 240; omega) h')⟩
    · rw [if_neg h2, if_neg h2, b42_80 h5 hX, c_add hX h'.2.2.2.1 hs]
      simp only [Option.bind_some, Option.toList_none, List.nil_append]
      rw [b42_90]
      exact ⟨_, rfl, ok.trans (OkP.ad hX h' rfl (fun _ => rfl) (by omega))⟩
  · rw [if_neg h1, if_neg h1, b42_10, c_fail h.2.2.1 h.2.1]
    simp only [Option.bind_some, Option.toList_none, List.nil_append]
    rw [b42_15]
    exact ⟨_, rfl, BadP.fail hX (by omega) h⟩
def gF (nx : Nat → Nat) (len m : Nat) : Nat → PR := match m with
  | 0 => fun q => .inl (5, q)
  | m + 1 => fun q => pBrk nx 93 (pSum nx len m (q + 1))
theorem pSum_eq (nx : Nat → Nat) (len m p : Nat) : pSum nx len m p = pSms nx len (pFac nx (gF nx len m)) (len + 1) p 0 [] := by
  cases m <;> rfl
theorem gd_gF {nx : Nat → Nat} {len m p : Nat} (hn : endN nx len) (hp : p ≤ len) : gdR len (2 * m + 1) p (pFac nx (gF nx len m) p) := by
  cases m with
  | zero => exact gd_fac (g := fun q => .inl (5, q)) hn (by omega) (fun _ => show gdR len 1 p (.inl (5, p)) from ⟨by omega, by omega, Nat.le_refl _, hp⟩) hp
  | succ m => exact gd_fac hn (by omega) (fun h91 => gd_brk hn (by omega) (gd_sum hn m (p + 1) (by have := hn.lt (p := p) (by omega); omega))) hp
def FacC (n TT len : Nat) (nx : Nat → Nat) (r : Nat → Nat → Option Nat) (fac : Nat → PR) (g D : Nat) : Prop := ∀ (s p : Nat) (a : Nat → Nat → Int32) (b : Nat → Nat → Int64), PrS TT len nx s p a → p ≤ len → s + (len - p) ≤ 239 → ResP n TT len nx b r a s (fac p) (Den (D) 41 0 [.ref 44, .int (iN g), zmJ, zmJ] [] (zmMk n a b r))
def ExpC (n TT len : Nat) (nx : Nat → Nat) (r : Nat → Nat → Option Nat) (m D : Nat) : Prop := ∀ (s p : Nat) (a : Nat → Nat → Int32) (b : Nat → Nat → Int64), PrS TT len nx s p a → p ≤ len → s + (len - p) ≤ 239 → ResP n TT len nx b r a s (pSum nx len m p) (Den (D) 40 0 [.ref 44, .int (iN (6 - m)), zmJ, zmJ, zmJ, zmJ] [] (zmMk n a b r))
theorem BadP.ne {TT s len c p : Nat} {e : Nat × Nat} {a a' : Nat → Nat → Int32} (h : BadP TT s e a a') (h1 : 1 ≤ e.1) (h2 : e.1 ≤ 5) (h3 : e.2 ≤ 240) : a' 44 3 ≠ iN 0 := by
  rw [h.1]
  exact fltI_ne h1 (by omega) (by omega)
theorem c_numF {D n TT len s p : Nat} {nx : Nat → Nat} {r : Nat → Nat → Option Nat} {a : Nat → Nat → Int32} {b : Nat → Nat → Int64} {v1 v2 v3 : Int32} {g : Nat → PR} (hH : PrH r TT len nx) (h : PrS TT len nx s p a) (hp : p ≤ len) (hs : s ≤ 239) (hl : ¬ ltI (nx p) < 10) (h91 : ¬ nx p = 91) : ResP n TT len nx b r a s (pFac nx g p) (Den (D+3) 41 52 [.ref 44,.int v1,.int v2,.int v3] [] (zmMk n a b r)) := by
  unfold pFac
  rw [if_neg hl, if_neg h91, b41_52]
  refine (c_number hH h hp hs).bind (fun a' => ?_)
  simp only [Option.toList_none, List.nil_append]
  rw [b41_56]
theorem c_factor {D n TT len m : Nat} {nx : Nat → Nat} {r : Nat → Nat → Option Nat} (hH : PrH r TT len nx) (hm : m ≤ 6) (hE : ∀ m', m = m' + 1 → ExpC n TT len nx r m' (D+4)) : FacC n TT len nx r (pFac nx (gF nx len m)) (6 - m) (D+5) := by
  intro s p a b h hp hs
  obtain ⟨h0, h5, hX, hl240, hn, hb⟩ := id hH
  have e1 : Den (D+4) 45 0 [.ref 44] [] (zmMk n a b r) = _ := c_next hH h hp
  rw [b41_0, e1]
  simp only [Option.bind_some, Option.toList_some, Option.toList_none, List.cons_append, List.nil_append, true_or, or_true, if_true, bI_if]
  rw [b41_4]
  by_cases hc : nx p < 256
  · have e2 : Den (D+4) 277 0 [.ref 7, .int (iN (nx p))] [] (zmMk n a b r) = _ := c_told10 h.2.2.2.2.2 hc
    rw [nxV_of hc, if_neg (ng (by omega)), b41_13, ch_of (by omega), e2]
    simp only [Option.bind_some, Option.toList_some, Option.toList_none, List.cons_append, List.nil_append, true_or, or_true, if_true, bI_if]
    rw [b41_20]
    by_cases hl : ltI (nx p) < 10
    · have h1 := h.step hX
      rw [if_pos hl, if_neg (ng (by omega)), b41_25 h5 hX, h.at2, c_add hX h1.2.2.2.1 (by omega)]
      simp only [Option.bind_some, Option.toList_none, List.nil_append]
      rw [b41_45]
      unfold pFac
      rw [if_pos hl]
      exact ⟨_, rfl, (OkP.step hX h).trans (OkP.ad hX h1 rfl (fun _ => rfl) (by omega))⟩
    · rw [if_neg hl, if_pos m1_neg, b41_46]
      by_cases h91 : nx p = 91
      · have hp1 := nx_le hn (p := p) (by omega)
        rw [if_pos (by rw [h91]), b41_57]
        unfold pFac
        rw [if_neg hl, if_pos h91]
        cases m with
        | zero =>
          rw [if_neg (lt_n (by omega) (by omega)), b41_63, c_fail h.2.2.1 h.2.1]
          simp only [Option.bind_some, Option.toList_none, List.nil_append]
          rw [b41_68]
          exact ⟨_, rfl, BadP.fail hX (by omega) h⟩
        | succ m =>
          have h1 := h.step hX
          have hS := hE m rfl s (p + 1) (uI a 44 2 (iN (p + 1))) b h1 hp1 (by omega)
          have hg := gd_sum hn m (p + 1) hp1
          rw [if_pos (lt_p (by omega) (by omega)), b41_69, h.at2, n_add, show 6 - (m + 1) + 1 = 6 - m by omega]
          show ResP n TT len nx b r a s (pBrk nx 93 (pSum nx len m (p + 1))) _
          cases hz : pSum nx len m (p + 1) with
          | inl e =>
            rw [hz] at hS hg
            obtain ⟨a', e', bad⟩ := hS
            obtain ⟨g1, g2, g3, g4⟩ := hg
            obtain ⟨-, -, ⟨K, k1, k2, k3⟩, -⟩ := id bad
            obtain ⟨a2, e2, f2⟩ := bd_take (d := D+3) (n := n) (b := b) (v := iN 93) h0 hX (bad.ne (len := len) (c := 0) (p := 0) g1 g2 (by omega)) k2 k3
            have e2' : Den (D+4) 46 0 [.ref 44, .int (iN 93)] [] (zmMk n a' b r) = _ := e2
            rw [e']
            simp only [Option.bind_some, Option.toList_none, List.nil_append]
            rw [b41_86, e2']
            simp only [Option.bind_some, Option.toList_none, List.nil_append]
            rw [b41_92]
            exact ⟨_, rfl, (OkP.bad (OkP.step hX h) bad).next k1 f2⟩
          | inr e =>
            obtain ⟨q, os⟩ := e
            rw [hz] at hS hg
            obtain ⟨a', e', ok⟩ := hS
            obtain ⟨g1, g2, g3, g4⟩ := hg
            have ok2 := (OkP.step hX h).trans ok
            rw [e']
            simp only [Option.bind_some, Option.toList_none, List.nil_append]
            rw [b41_86]
            show ResP n TT len nx b r a s (if nx q = 93 then .inr (q + 1, os) else .inl (1, q)) _
            rcases c_take (d := D+2) (n := n) (b := b) (c := 93) hH ok.1 g2 (by omega) (by omega) with ⟨t1, t2⟩ | ⟨t1, t2⟩
            · have t2' : Den (D+4) 46 0 [.ref 44, .int (iN 93)] [] (zmMk n a' b r) = _ := t2
              rw [t2', if_pos t1]
              simp only [Option.bind_some, Option.toList_none, List.nil_append]
              rw [b41_92]
              have ok3 := ok2.trans (OkP.step hX ok.1)
              rw [List.append_nil] at ok3
              exact ⟨_, rfl, ok3⟩
            · have t2' : Den (D+4) 46 0 [.ref 44, .int (iN 93)] [] (zmMk n a' b r) = _ := t2
              rw [t2', if_neg t1]
              simp only [Option.bind_some, Option.toList_none, List.nil_append]
              rw [b41_92]
              exact ⟨_, rfl, ok2.bad (BadP.fail hX (by show s + os.length ≤ 240; omega) ok.1)⟩
      · rw [if_neg (eq_n h91 (by omega) (by omega))]
        exact c_numF hH h hp (by omega) hl h91
  · have h256 := nx_256 hH hc
    rw [nxV_m hc, if_pos m1_neg, b41_9, b41_20, if_pos m1_neg, b41_46, if_neg (m1_ne (by omega))]
    exact c_numF hH h hp (by omega) (by rw [h256]; decide) (by omega)
/-! behind a FAULT an expression goes to its end -/
theorem bd_121 {D TT K : Nat} {n : Nat} {a : Nat → Nat → Int32} {b : Nat → Nat → Int64} {r : Nat → Nat → Option Nat} {v1 v2 v3 v4 : Int32} {u5 : Value} (hX : isTx TT) (h3 : a 44 3 ≠ iN 0) (hK : K ≤ 480) (h1 : a TT 1 = iN K) : ∃ a', Den D 40 121 [.ref 44,.int v1,.int v2,.int v3,.int v4,u5] [] (zmMk n a b r) = some (none, zmMk n a' b r) ∧ BadF TT K a a' := by
  rw [b40_121, b40_4]
  refine ⟨_, ?_, BadF.at (v := a 44 2 + iN 1) hX hK h1⟩
  split
  · rw [b40_137]
  · rw [b40_12, uI_nj (by omega), if_neg h3, b40_137]
theorem bd_103 {D TT K : Nat} {n : Nat} {a : Nat → Nat → Int32} {b : Nat → Nat → Int64} {r : Nat → Nat → Option Nat} {v1 v2 v3 v4 : Int32} {u5 : Value} (h0 : r 44 0 = some 15) (hX : isTx TT) (h3 : a 44 3 ≠ iN 0) (hK : K ≤ 480) (h1 : a TT 1 = iN K) : ∃ a', Den (D+1) 40 103 [.ref 44,.int v1,.int v2,.int v3,.int v4,u5] [] (zmMk n a b r) = some (none, zmMk n a' b r) ∧ BadF TT K a a' := by
  obtain ⟨w, e⟩ := bd_next (d := D) (n := n) (a := a) (b := b) h0
  rw [b40_103, e]
  simp only [Option.bind_some, Option.toList_some, Option.toList_none, List.cons_append, List.nil_append, true_or, or_true, if_true, bI_if]
  rw [b40_107]
  split
  · exact bd_121 hX h3 hK h1
  · rw [b40_114]
    split
    · exact bd_121 hX h3 hK h1
    · rw [b40_120]
      exact ⟨_, rfl, BadF.refl hK h1⟩
theorem bd_90 {D TT K : Nat} {n : Nat} {a : Nat → Nat → Int32} {b : Nat → Nat → Int64} {r : Nat → Nat → Option Nat} {v1 v2 v3 v4 : Int32} {u5 : Value} (h0 : r 44 0 = some 15) (h5 : r 44 5 = some TT) (hX : isTx TT) (h3 : a 44 3 ≠ iN 0) (hK : K ≤ 480) (h1 : a TT 1 = iN K) : ∃ a', Den (D+1) 40 90 [.ref 44,.int v1,.int v2,.int v3,.int v4,u5] [] (zmMk n a b r) = some (none, zmMk n a' b r) ∧ BadF TT K a a' := by
  rw [b40_90]
  split
  · exact bd_103 h0 hX h3 hK h1
  · obtain ⟨a1, e1, f1⟩ := bd_add (d := D) (n := n) (b := b) (r := r) (x := v2) (y := iN 0) hX hK h1
    obtain ⟨k0, k1, ⟨K1, k2, k3, k4⟩, k5⟩ := id f1
    rw [b40_94 h5 hX, e1]
    simp only [Option.bind_some, Option.toList_none, List.nil_append]
    obtain ⟨a2, e2, f2⟩ := bd_103 (D := D) (n := n) (a := a1) (b := b) (v1 := v1) (v2 := v2) (v3 := v3) (v4 := v4) (u5 := u5) h0 hX (by rw [k0]; exact h3) k3 k4
    exact ⟨a2, e2, f1.trans k2 f2⟩
theorem bd_27 {D TT K : Nat} {n : Nat} {a : Nat → Nat → Int32} {b : Nat → Nat → Int64} {r : Nat → Nat → Option Nat} {v1 v2 v3 v4 : Int32} {u5 : Value} (h0 : r 44 0 = some 15) (h5 : r 44 5 = some TT) (hX : isTx TT) (h3 : a 44 3 ≠ iN 0) (hK : K ≤ 480) (h1 : a TT 1 = iN K) : ∃ a', Den (D+1) 40 27 [.ref 44,.int v1,.int v2,.int v3,.int v4,u5] [] (zmMk n a b r) = some (none, zmMk n a' b r) ∧ BadF TT K a a' := by
  rw [b40_27]
  split
  · exact bd_90 h0 h5 hX h3 hK h1
  · rw [b40_36, if_neg h3]
    exact bd_90 h0 h5 hX h3 hK h1
/-- an expression behind a FAULT -/
theorem bd_expr {D : Nat} {n : Nat} {a : Nat → Nat → Int32} {b : Nat → Nat → Int64} {r : Nat → Nat → Option Nat} {v1 : Int32} (h3 : a 44 3 ≠ iN 0) : Den (D) 40 0 [.ref 44, .int v1, zmJ, zmJ, zmJ, zmJ] [] (zmMk n a b r) = some (none, (zmMk n a b r)) := by
  rw [b40_0, b40_4]
  split
  · rw [b40_137]
  · rw [b40_12, if_neg h3, b40_137]
/-- what the loop over factors comes to -/
def TmsR (n TT len M : Nat) (nx : Nat → Nat) (b : Nat → Nat → Int64) (r : Nat → Nat → Option Nat) (a0 : Nat → Nat → Int32) (s0 D g : Nat) (v2 v3 : Int32) (z : PR) (X : Option (Option Value × zmH)) : Prop := match z with
  | .inl e => (1 ≤ e.1 ∧ e.1 ≤ 5 ∧ e.2 ≤ len) ∧ ∃ a', X = some (none, zmMk n a' b r) ∧ BadP TT s0 e a0 a'
  | .inr (q, os) => q ≤ len ∧ s0 + os.length + (len - q) ≤ M ∧ ∃ a' v4 u5, X = Den (D+1) 40 90 [.ref 44,.int (iN g),.int v2,.int v3,.int v4,u5] [] (zmMk n a' b r) ∧ OkP TT len nx a0 a' s0 q os
theorem c_tmsL {D n TT len M g : Nat} {nx : Nat → Nat} {r : Nat → Nat → Option Nat} {fac : Nat → PR} {c : Nat} (hH : PrH r TT len nx) (hF : FacC n TT len nx r fac g D) (hG : ∀ p, p ≤ len → gdR len c p (fac p)) (hM : M ≤ 239) {v2 v3 : Int32} (f : Nat) : ∀ (i p : Nat) (os : Ops) (s0 : Nat) (u5 : Value) (a0 a : Nat → Nat → Int32) (b : Nat → Nat → Int64), i + f = len + 1 → OkP TT len nx a0 a s0 p os → p ≤ len → s0 + os.length + (len - p) ≤ M → TmsR n TT len M nx b r a0 s0 D g v2 v3 (pTms nx fac f p os) (Den (D+1) 40 27 [.ref 44,.int (iN g),.int v2,.int v3,.int (iN i),u5] [] (zmMk n a b r)) := by
  obtain ⟨h0, h5, hX, hl240, hn, hb⟩ := id hH
  induction f with
  | zero =>
    intro i p os s0 u5 a0 a b hi ok hp hs
    obtain ⟨a1, a2, a3, a4, a5, a6⟩ := id ok.1
    refine ⟨hp, hs, a, iN i, u5, ?_, ok⟩
    rw [b40_27, a1, if_pos (lt_p (by omega) (by omega))]
  | succ f ih =>
    intro i p os s0 u5 a0 a b hi ok hp hs
    obtain ⟨a1, a2, a3, a4, a5, a6⟩ := id ok.1
    have e1 : Den (D) 45 0 [.ref 44] [] (zmMk n a b r) = _ := c_next hH ok.1 hp
    have e2 : Den (D) 43 0 [.int (nxV (nx p))] [] (zmMk n a b r) = _ := c_isTm
    rw [b40_27, a1, if_neg (lt_n (by omega) (by omega)), b40_36, a3, if_pos rfl, b40_43, e1]
    simp only [Option.bind_some, Option.toList_some, Option.toList_none, List.cons_append, List.nil_append, true_or, or_true, if_true, bI_if]
    rw [b40_47, e2]
    simp only [Option.bind_some, Option.toList_some, Option.toList_none, List.cons_append, List.nil_append, true_or, or_true, if_true, bI_if]
    rw [b40_50, bI_if]
    show TmsR n TT len M nx b r a0 s0 D g v2 v3 (if tmO (nx p) = 0 then .inr (p, os) else match fac (p + 1) with
      | .inl e => .inl e
      | .inr (q, o2) => pTms nx fac f q (os ++ (o2 ++ [(tmO (nx p), 0)]))) _
    by_cases ht : tmO (nx p) = 0
    · rw [if_pos ht, if_neg (by rw [ht]; decide)]
      exact ⟨hp, hs, a, iN i, u5, rfl, ok⟩
    · obtain ⟨r1, r2, r3⟩ := tmO_r ht
      have hp1 := nx_le hn (p := p) (by omega)
      have hF1 := hF (s0 + os.length) (p + 1) (uI a 44 2 (iN (p + 1))) b (ok.1.step hX) hp1 (by omega)
      have hg := hG (p + 1) hp1
      rw [if_neg ht, if_pos (decide_eq_true ht), b40_53, e1]
      simp only [Option.bind_some, Option.toList_some, Option.toList_none, List.cons_append, List.nil_append, true_or, or_true, if_true, bI_if]
      rw [b40_57, ok.1.at2]
      have ok1 := ok.trans (OkP.step hX ok.1)
      rw [List.append_nil] at ok1
      cases hz : fac (p + 1) with
      | inl e =>
        rw [hz] at hF1 hg
        obtain ⟨a', e', bad⟩ := hF1
        obtain ⟨g1, g2, g3, g4⟩ := hg
        have bad1 := ok1.bad bad
        have hne := bad1.ne (len := len) (c := 0) (p := 0) g1 g2 (by omega)
        obtain ⟨-, -, ⟨K, k1, k2, k3⟩, -⟩ := id bad1
        obtain ⟨a2', e2', f2⟩ := bd_add (d := D) (n := n) (b := b) (r := r) (x := nxV (nx p)) (y := iN 0) hX k2 k3
        obtain ⟨j0, j1, ⟨K1, j2, j3, j4⟩, j5⟩ := id f2
        obtain ⟨a3', e3', f3⟩ := bd_27 (D := D) (n := n) (a := a2') (b := b) (v1 := iN g) (v2 := v2) (v3 := v3) (v4 := iN i + iN 1) (u5 := .int (nxV (nx p))) h0 h5 hX (by rw [j0]; exact hne) j3 j4
        rw [e']
        simp only [Option.bind_some, Option.toList_none, List.nil_append]
        rw [b40_74 h5 hX, e2']
        simp only [Option.bind_some, Option.toList_none, List.nil_append]
        rw [b40_84, e3']
        exact ⟨⟨g1, g2, g4⟩, _, rfl, bad1.next k1 (f2.trans j2 f3)⟩
      | inr e =>
        obtain ⟨q, o2⟩ := e
        rw [hz] at hF1 hg
        obtain ⟨a', e', ok2⟩ := hF1
        obtain ⟨g1, g2, g3, g4⟩ := hg
        have ok3 := ok1.trans ok2
        have hlen : (os ++ o2).length = os.length + o2.length := List.length_append
        have ok4 := ok3.trans (OkP.ad (o := tmO (nx p)) (v := 0) (x := nxV (nx p)) (y := iN 0) hX ok3.1 (by rw [cc_tm ht, nxV_of (by omega)]) (fun _ => rfl) (by omega))
        rw [List.append_assoc] at ok4
        have hl4 : (os ++ (o2 ++ [(tmO (nx p), 0)])).length = os.length + (o2.length + 1) := by
          rw [List.length_append, List.length_append]
          rfl
        rw [e']
        simp only [Option.bind_some, Option.toList_none, List.nil_append]
        rw [b40_74 h5 hX, c_add hX ok3.1.2.2.2.1 (by omega)]
        simp only [Option.bind_some, Option.toList_none, List.nil_append]
        rw [b40_84, n_add]
        exact ih (i + 1) q _ s0 _ a0 _ b (by omega) ok4 g2 (by omega)
def bfV (bf : Nat) : Int32 := if bf = 0 then iN 0 else iN (ccO bf)
theorem c_smsL {D n TT len g : Nat} {nx : Nat → Nat} {r : Nat → Nat → Option Nat} {fac : Nat → PR} {c : Nat} (hH : PrH r TT len nx) (hF : FacC n TT len nx r fac g D) (hG : ∀ p, p ≤ len → gdR len c p (fac p)) (f : Nat) : ∀ (i p bf : Nat) (os : Ops) (s0 : Nat) (u4 u5 : Value) (a0 a : Nat → Nat → Int32) (b : Nat → Nat → Int64), i + f = len + 1 → (bf = 0 → os = []) → (bf = 0 ∨ (2 ≤ bf ∧ bf ≤ 9)) → OkP TT len nx a0 a s0 p os → p ≤ len → s0 + os.length + (if bf = 0 then 0 else 1) + (len - p) ≤ 239 → ResP n TT len nx b r a0 s0 (pSms nx len fac f p bf os) (Den (D+1) 40 4 [.ref 44,.int (iN g),.int (bfV bf),.int (iN i),u4,u5] [] (zmMk n a b r)) := by
  obtain ⟨h0, h5, hX, hl240, hn, hb⟩ := id hH
  induction f with
  | zero =>
    intro i p bf os s0 u4 u5 a0 a b hi hbo hbf ok hp hs
    refine ⟨a, ?_, ok⟩
    rw [b40_4, ok.1.1, if_pos (lt_p (by omega) (by omega)), b40_137]
  | succ f ih =>
    intro i p bf os s0 u4 u5 a0 a b hi hbo hbf ok hp hs
    obtain ⟨a1, a2, a3, a4, a5, a6⟩ := id ok.1
    have hF1 := hF (s0 + os.length) p a b ok.1 hp (by omega)
    have hg := hG p hp
    rw [b40_4, a1, if_neg (lt_n (by omega) (by omega)), b40_12, a3, if_pos rfl, b40_19]
    show ResP n TT len nx b r a0 s0 (match fac p with
      | .inl e => .inl e
      | .inr (q, o1) => match pTms nx fac (len + 1) q o1 with
        | .inl e => .inl e
        | .inr (q2, o2) => if plO (nx q2) = 0 then .inr (q2, pBf os o2 bf) else pSms nx len fac f (q2 + 1) (plO (nx q2)) (pBf os o2 bf)) _
    cases hz : fac p with
    | inl e =>
      rw [hz] at hF1 hg
      obtain ⟨a', e', bad⟩ := hF1
      obtain ⟨g1, g2, g3, g4⟩ := hg
      have bad1 := ok.bad bad
      have hne := bad1.ne (len := len) (c := 0) (p := 0) g1 g2 (by omega)
      obtain ⟨-, -, ⟨K, k1, k2, k3⟩, -⟩ := id bad1
      obtain ⟨a2', e2', f2⟩ := bd_27 (D := D) (n := n) (a := a') (b := b) (v1 := iN g) (v2 := bfV bf) (v3 := iN i) (v4 := iN 0) (u5 := u5) h0 h5 hX hne k2 k3
      rw [e']
      simp only [Option.bind_some, Option.toList_none, List.nil_append]
      rw [b40_24, e2']
      exact ⟨_, rfl, bad1.next k1 f2⟩
    | inr e =>
      obtain ⟨q, o1⟩ := e
      rw [hz] at hF1 hg
      obtain ⟨a', e', ok1⟩ := hF1
      obtain ⟨g1, g2, g3, g4⟩ := hg
      have hT := c_tmsL (M := 239 - (if bf = 0 then 0 else 1)) hH hF hG (by omega) (v2 := bfV bf) (v3 := iN i) (len + 1) 0 q o1 (s0 + os.length) u5 a a' b (by omega) ok1 g2 (by omega)
      rw [e']
      simp only [Option.bind_some, Option.toList_none, List.nil_append]
      rw [b40_24]
      cases hy : pTms nx fac (len + 1) q o1 with
      | inl e =>
        rw [hy] at hT
        obtain ⟨-, a2', e2', bad⟩ := hT
        rw [e2']
        exact ⟨_, rfl, ok.bad bad⟩
      | inr e =>
        obtain ⟨q2, o2⟩ := e
        rw [hy] at hT
        obtain ⟨t1, t2, a2', v4, u5', e2', ok2⟩ := hT
        have key : ∃ a3, Den (D+1) 40 90 [.ref 44,.int (iN g),.int (bfV bf),.int (iN i),.int v4,u5'] [] (zmMk n a2' b r) = Den (D+1) 40 103 [.ref 44,.int (iN g),.int (bfV bf),.int (iN i),.int v4,u5'] [] (zmMk n a3 b r) ∧ OkP TT len nx a0 a3 s0 q2 (pBf os o2 bf) ∧ (pBf os o2 bf).length = os.length + o2.length + (if bf = 0 then 0 else 1) := by
          by_cases h : bf = 0
          · subst h
            obtain rfl := hbo rfl
            refine ⟨a2', ?_, ?_, ?_⟩
            · rw [b40_90, show bfV 0 = iN 0 from rfl, if_pos rfl]
            · exact ok.trans ok2
            · show o2.length = 0 + o2.length + 0
              omega
          · have hr : 2 ≤ bf ∧ bf ≤ 9 := hbf.resolve_left h
            have hcc := ccO_ne (o := bf) (by omega)
            have ok3 := ok.trans ok2
            have ok4 := ok3.trans (OkP.ad (o := bf) (v := 0) (x := iN (ccO bf)) (y := iN 0) hX ok3.1 rfl (fun _ => rfl) (by omega))
            rw [List.append_assoc] at ok4
            have eP : pBf os o2 bf = os ++ (o2 ++ [(bf, 0)]) := if_neg h
            have hlen : (os ++ o2).length = os.length + o2.length := List.length_append
            rw [if_neg h] at t2 hs
            refine ⟨_, ?_, by rw [eP]; exact ok4, ?_⟩
            · rw [b40_90, show bfV bf = iN (ccO bf) from if_neg h, if_neg (eq_n hcc.2 (by omega) (by omega)), b40_94 h5 hX, c_add hX ok3.1.2.2.2.1 (by omega)]
              simp only [Option.bind_some, Option.toList_none, List.nil_append]
            · rw [eP, if_neg h, List.length_append, List.length_append]
              show os.length + (o2.length + 1) = _
              omega
        obtain ⟨a3', e3', ok3, hlen⟩ := key
        have e1 : Den (D) 45 0 [.ref 44] [] (zmMk n a3' b r) = _ := c_next hH ok3.1 t1
        rw [e2', e3', b40_103, e1]
        simp only [Option.bind_some, Option.toList_some, Option.toList_none, List.cons_append, List.nil_append, true_or, or_true, if_true, bI_if]
        rw [b40_107]
        by_cases hpl : plO (nx q2) = 0
        · have h43 : ¬ nx q2 = 43 := fun h => by rw [h] at hpl; revert hpl; decide
          have h45 : ¬ nx q2 = 45 := fun h => by rw [h] at hpl; revert hpl; decide
          rw [if_neg (nxV_n h43 (by omega)), b40_114, if_neg (nxV_n h45 (by omega)), b40_120, if_pos hpl]
          exact ⟨_, rfl, ok3⟩
        · obtain ⟨r1, r2, r3⟩ := plO_r hpl
          have hp1 := nx_le hn (p := q2) (by omega)
          have ebf : nxV (nx q2) = bfV (plO (nx q2)) := by
            rw [nxV_of r3, show bfV (plO (nx q2)) = iN (ccO (plO (nx q2))) from if_neg hpl, cc_pl hpl]
          have hto : Den (D+1) 40 107 [.ref 44,.int (iN g),.int (bfV bf),.int (iN i),.int v4,u5'] [.int (nxV (nx q2))] (zmMk n a3' b r) = Den (D+1) 40 121 [.ref 44,.int (iN g),.int (nxV (nx q2)),.int (iN i),.int v4,u5'] [] (zmMk n a3' b r) := by
            rw [b40_107]
            by_cases h43 : nx q2 = 43
            · rw [if_pos (nxV_y h43 (by omega))]
            · have h45 : nx q2 = 45 := by
                unfold plO at hpl
                rw [if_neg h43] at hpl
                by_cases h : nx q2 = 45
                · exact h
                · rw [if_neg h] at hpl
                  exact absurd rfl hpl
              rw [if_neg (nxV_n h43 (by omega)), b40_114, if_pos (nxV_y h45 (by omega))]
          rw [b40_107] at hto
          rw [hto, b40_121, ok3.1.at2, n_add, if_neg hpl, ebf]
          have ok4 := ok3.trans (OkP.step hX ok3.1)
          rw [List.append_nil] at ok4
          exact ih (i + 1) (q2 + 1) (plO (nx q2)) _ s0 _ _ a0 _ b (by omega) (fun h => absurd h hpl) (Or.inr ⟨r1, r2⟩) ok4 hp1 (by rw [hlen, if_neg hpl]; omega)
theorem c_expr {n TT len : Nat} {nx : Nat → Nat} {r : Nat → Nat → Option Nat} (hH : PrH r TT len nx) (m : Nat) : ∀ d, m ≤ 6 → ExpC n TT len nx r m (d + 6 + 2 * m) := by
  have key : ∀ m D, m ≤ 6 → (∀ m', m = m' + 1 → ExpC n TT len nx r m' (D+4)) → ExpC n TT len nx r m (D+6) := by
    intro m D hm hE s p a b h hp hs
    rw [pSum_eq, b40_0]
    exact c_smsL (D := D+5) hH (c_factor hH hm hE) (fun p hp => gd_gF hH.2.2.2.2.1 hp) (len + 1) 0 p 0 [] s zmJ zmJ a a b (by omega) (fun _ => rfl) (Or.inl rfl) (OkP.refl h) hp (by show s + 0 + 0 + (len - p) ≤ 239; omega)
  induction m with
  | zero =>
    intro d hm
    exact key 0 d hm (fun m' h => by omega)
  | succ m ih =>
    intro d hm
    have h1 := key (m + 1) (d + 2 + 2 * m) hm (fun m' h => by
      obtain rfl : m' = m := by omega
      have h2 := ih d (by omega)
      rw [show d + 2 + 2 * m' + 4 = d + 6 + 2 * m' by omega]
      exact h2)
    rw [show d + 6 + 2 * (m + 1) = d + 2 + 2 * m + 6 by omega]
    exact h1
