/-! ===== DRAWN: a try, the class's Log ===== -/
theorem uI_self {f : Nat → Nat → Int32} {k j : Nat} {v : Int32} : uI f k j v k j = v := by rw [uI_at, if_pos ⟨rfl, rfl⟩]
theorem uI_ne {f : Nat → Nat → Int32} {k j k' : Nat} {v : Int32} (h : k' ≠ k) : uI f k j v k' = f k' := by
  funext j'
  rw [uI_at, if_neg (fun e => h e.1)]
theorem uI_nj {f : Nat → Nat → Int32} {k j j' : Nat} {v : Int32} (h : j' ≠ j) : uI f k j v k j' = f k j' := by rw [uI_at, if_neg (fun e => h e.2)]
def dxN (x : Nat) : Nat := (25173 * x + 13849) % 65536
theorem dxN_lt (x : Nat) : dxN x < 65536 := Nat.mod_lt _ (by decide)
theorem dx_and {x : Nat} (h : x < 65536) : (25173 * x + 13849) &&& 65535 = dxN x := Nat.and_two_pow_sub_one_eq_mod _ 16
theorem c_draw {d x : Nat} {n : Nat} {a : Nat → Nat → Int32} {b : Nat → Nat → Int64} {r : Nat → Nat → Option Nat} (h : a 16 1 = iN x) (hx : x < 65536) : Den (d) 68 0 [.ref 16] [] (zmMk n a b r) = some (some (.int (iN (dxN x % 10))), zmMk n (uI a 16 1 (iN (dxN x))) b r) := by
  have h2 := dxN_lt x
  simp (disch := omega) only [b68_0, h, n_mul, n_add, n_and, dx_and hx, uI_self, n_rem]
theorem m_draws {d x : Nat} {n : Nat} {a : Nat → Nat → Int32} {b : Nat → Nat → Int64} {r : Nat → Nat → Option Nat} (h : a 94 1 = iN x) (hx : x < 65536) : Den (d) 251 0 [.ref 94] [] (zmMk n a b r) = some (some (.int (iN (dxN x % 10))), zmMk n (uI a 94 1 (iN (dxN x))) b r) := by
  have h2 := dxN_lt x
  have e : iN (25173 * x + 13849) - iN (25173 * x + 13849) / iN 65536 * iN 65536 = iN (dxN x) := n_rem (by omega) (by decide)
  simp (disch := omega) only [b251_0, h, n_mul, n_add, e, uI_self, n_rem]
/-- the place behind an ACTION, SEEN drawn; what is drawn from then on; how it ends -/
def nxL (Q : AQ) (t p x act : Nat) : Nat := if pS p = 0 then asP (behP Q t p act) (if dxN x % 10 < senP Q t p act then 1 else 0) else behP Q t p act
def x1L (p x : Nat) : Nat := if pS p = 0 then dxN x else x
def x2L (Q : AQ) (B t p x act : Nat) : Nat := if pY (nxL Q t p x act) = 0 ∨ t + 1 < B then x1L p x else dxN (x1L p x)
def enL (Q : AQ) (B t p x act : Nat) : Nat := if pY (nxL Q t p x act) = 0 then 1 else if t + 1 < B then 0 else if dxN (x1L p x) % 10 < gonP Q B t (nxL Q t p x act) then 2 else 0
theorem nxL_lt {Q : AQ} {t p x act : Nat} (h : p < 4840) : nxL Q t p x act < 4840 := by
  have := behP_lt (Q := Q) (t := t) (act := act) h
  unfold nxL
  split
  · split
    · exact asP_lt this (by omega)
    · exact asP_lt this (by omega)
  · exact this
theorem x1L_lt {p x : Nat} (hx : x < 65536) : x1L p x < 65536 := by
  unfold x1L
  split
  · exact dxN_lt x
  · exact hx
theorem x2L_lt {Q : AQ} {B t p x act : Nat} (hx : x < 65536) : x2L Q B t p x act < 65536 := by
  unfold x2L
  split
  · exact x1L_lt hx
  · exact dxN_lt _
theorem asP_beh0 {Q : AQ} {t p act : Nat} (h : pS p = 0) : asP (behP Q t p act) 0 = behP Q t p act := by
  have h2 : pS (behP Q t p act) = 0 := by rw [pS_behP]; exact h
  rw [← h2]
  exact asP_self
/-- all as it was but for what is drawn and scratch -/
def drF (a a' : Nat → Nat → Int32) : Prop := (∀ k, scC k = false → k ≠ 16 → a' k = a k) ∧ ∀ j, j ≠ 1 → a' 16 j = a 16 j
theorem drF.of {a a' : Nat → Nat → Int32} (h : frC a a') : drF a a' := ⟨fun k h1 _ => h k h1, fun j _ => by rw [h 16 rfl]⟩
theorem drF.draw {a : Nat → Nat → Int32} {v : Int32} : drF a (uI a 16 1 v) := ⟨fun k _ h2 => uI_ne h2, fun j hj => by rw [uI_at, if_neg (fun e => hj e.2)]⟩
theorem drF.trans {a a1 a2 : Nat → Nat → Int32} (h : drF a a1) (g : drF a1 a2) : drF a a2 := ⟨fun k h1 h2 => (g.1 k h1 h2).trans (h.1 k h1 h2), fun j hj => (g.2 j hj).trans (h.2 j hj)⟩
theorem drF.dpC {a a' : Nat → Nat → Int32} (h : drF a a') : agD dpC a a' := by
  intro k j hp
  by_cases h1 : k = 16
  · subst h1
    exact h.2 j (fun e => by rw [e] at hp; revert hp; decide)
  · rw [h.1 k (dpC_scC k j hp) h1]
set_option maxHeartbeats 1000000 in
theorem c_stepS {d N B t p x act TT : Nat} {n : Nat} {a : Nat → Nat → Int32} {b : Nat → Nat → Int64} {r : Nat → Nat → Option Nat} {Q : AQ} (hX : isTx TT) (hE : EnvC n r a N B Q) (hx : a 16 1 = iN x) (hxl : x < 65536) (ht : t < N) (hp : p < 4840) (hact : act < 8 ∧ act ≠ 4) (hm : mayP Q t p act) : ∃ a', Den (d+14) 25 46 [.ref 62,.ref TT,.int (iN t),.int (iN p),.int (iN act),zmJ] [] (zmMk n a b r) = Den (d+14) 25 93 [.ref 62,.ref TT,.int (iN t),.int (iN p),.int (iN act),.int (iN (nxL Q t p x act))] [] (zmMk n a' b r) ∧ a' 16 1 = iN (x1L p x) ∧ drF a a' := by
  have h8 := hE.n8
  have hpS := pS_le p
  obtain ⟨a1, e1, f1⟩ := c_behind (d := d+1) (b := b) hE (vt := iN t) (vp := iN p) (va := iN act) rfl rfl rfl (by omega) hp hact
  rw [if_pos hm] at e1
  have hq := behP_lt (Q := Q) (t := t) (act := act) hp
  have g1 : a1 16 1 = iN x := by rw [f1 16 rfl]; exact hx
  by_cases hS : pS p = 1
  · refine ⟨a1, ?_, ?_, drF.of f1⟩
    · simp (disch := omega) only [b25_46 hX, e1, Option.bind_some, Option.toList_some, Option.toList_none, List.cons_append, List.nil_append, true_or, or_true, if_true, bI_if, b25_57 hX, c_isSeenAt hp, b25_63 hX, bI_if, hS, decide_true, if_true]
      unfold nxL
      rw [if_neg (by omega)]
    · unfold x1L
      rw [if_neg (by omega)]
      exact g1
  · have hS0 : pS p = 0 := by omega
    have hE1 := hE.fr f1
    have hdr : drF a1 (uI a1 16 1 (iN (dxN x))) := drF.draw
    have hE2 := hE1.ag hdr.dpC
    obtain ⟨a3, e3, f3⟩ := c_tenthsSeen (d := d+3) (b := b) hE2 (vt := iN t) (vp := iN p) (va := iN act) rfl rfl rfl (by omega) hp hact
    have hs := senP_le hE.qb t p act
    refine ⟨a3, ?_, ?_, ((drF.of f1).trans hdr).trans (drF.of f3)⟩
    · have ed : Den (d+13) 68 0 [.ref 16] [] (zmMk n a1 b r) = _ := c_draw g1 hxl
      simp (disch := omega) only [b25_46 hX, e1, Option.bind_some, Option.toList_some, Option.toList_none, List.cons_append, List.nil_append, true_or, or_true, if_true, bI_if, b25_57 hX, c_isSeenAt hp, b25_63 hX, bI_if, hS, decide_false, Bool.false_eq_true, if_false, b25_66 hX, ed, b25_73 hX, e3, b25_84 hX, n_lt]
      unfold nxL
      rw [if_pos hS0]
      by_cases hl : dxN x % 10 < senP Q t p act
      · rw [if_pos hl, if_pos hl, b25_87 hX, n_or2 hq]
      · rw [if_neg hl, if_neg hl, asP_beh0 hS0]
    · rw [f3 16 rfl, uI_self]
      unfold x1L
      rw [if_pos hS0]
theorem c_puts {d t p : Nat} {n : Nat} {a : Nat → Nat → Int32} {b : Nat → Nat → Int64} {r : Nat → Nat → Option Nat} {v : Int32} (ht : t < 9) : Den (d) 146 0 [.ref 64, .int (iN t), .int v] [] (zmMk n a b r) = some (none, zmMk n (uI a 64 t v) b r) := by
  rw [c_put (len := 9) (by decide +kernel) (by decide) (by decide) (by decide), puV_n ht (by decide)]
theorem c_puta {d t p : Nat} {n : Nat} {a : Nat → Nat → Int32} {b : Nat → Nat → Int64} {r : Nat → Nat → Option Nat} {v : Int32} (ht : t < 8) : Den (d) 146 0 [.ref 63, .int (iN t), .int v] [] (zmMk n a b r) = some (none, zmMk n (uI a 63 t v) b r) := by
  rw [c_put (len := 8) (by decide +kernel) (by decide) (by decide) (by decide), puV_n ht (by decide)]
theorem c_placeAt {d t : Nat} {n : Nat} {a : Nat → Nat → Int32} {b : Nat → Nat → Int64} {r : Nat → Nat → Option Nat} (ht : t < 9) : Den (d+1) 22 0 [.ref 62, .int (iN t)] [] (zmMk n a b r) = some (some (.int (a 64 t)), (zmMk n a b r)) := by
  have e : Den (d) 145 0 [.ref 64, .int (iN t)] [] (zmMk n a b r) = _ := c_item (len := 9) (by decide +kernel) (by decide) (by decide) (by decide)
  rw [itV_n ht (by decide)] at e
  simp only [b22_0, e, Option.bind_some, Option.toList_some, Option.toList_none, List.cons_append, List.nil_append, true_or, or_true, if_true, bI_if, b22_8]
theorem c_actionAt {d t : Nat} {n : Nat} {a : Nat → Nat → Int32} {b : Nat → Nat → Int64} {r : Nat → Nat → Option Nat} (ht : t < 8) : Den (d+1) 23 0 [.ref 62, .int (iN t)] [] (zmMk n a b r) = some (some (.int (a 63 t)), (zmMk n a b r)) := by
  have e : Den (d) 145 0 [.ref 63, .int (iN t)] [] (zmMk n a b r) = _ := c_item (len := 8) (by decide +kernel) (by decide) (by decide) (by decide)
  rw [itV_n ht (by decide)] at e
  simp only [b23_0, e, Option.bind_some, Option.toList_some, Option.toList_none, List.cons_append, List.nil_append, true_or, or_true, if_true, bI_if, b23_8]
set_option maxHeartbeats 1000000 in
theorem c_stepG {d N B t p x act TT : Nat} {n : Nat} {a : Nat → Nat → Int32} {b : Nat → Nat → Int64} {r : Nat → Nat → Option Nat} {Q : AQ} (hX : isTx TT) (hE : EnvC n r a N B Q) (hx : a 16 1 = iN (x1L p x)) (hxl : x < 65536) (ht : t < N) (hp : p < 4840) : ∃ a', Den (d+14) 25 93 [.ref 62,.ref TT,.int (iN t),.int (iN p),.int (iN act),.int (iN (nxL Q t p x act))] [] (zmMk n a b r) = some (some (.int (iN (enL Q B t p x act))), zmMk n a' b r) ∧ a' 16 1 = iN (x2L Q B t p x act) ∧ drF (uI a 64 (t + 1) (iN (nxL Q t p x act))) a' := by
  have h8 := hE.n8
  have hq := nxL_lt (Q := Q) (t := t) (x := x) (act := act) hp
  have hyl := pY_le hq
  have g1 : (uI a 64 (t + 1) (iN (nxL Q t p x act))) 16 1 = iN (x1L p x) := by rw [uI_ne (by decide)]; exact hx
  have hE1 : EnvC n r (uI a 64 (t + 1) (iN (nxL Q t p x act))) N B Q := hE.ag (agD.refl.put rfl)
  have ep : Den (d+13) 146 0 [.ref 64, .int (iN (t + 1)), .int (iN (nxL Q t p x act))] [] (zmMk n a b r) = _ := c_puts (p := 0) (by omega)
  have e0 : Den (d+14) 25 93 [.ref 62,.ref TT,.int (iN t),.int (iN p),.int (iN act),.int (iN (nxL Q t p x act))] [] (zmMk n a b r) = if pY (nxL Q t p x act) = 0 then Den (d+14) 25 113 [.ref 62,.ref TT,.int (iN t),.int (iN p),.int (iN act),.int (iN (nxL Q t p x act))] [] (zmMk n (uI a 64 (t + 1) (iN (nxL Q t p x act))) b r) else Den (d+14) 25 115 [.ref 62,.ref TT,.int (iN t),.int (iN p),.int (iN act),.int (iN (nxL Q t p x act))] [] (zmMk n (uI a 64 (t + 1) (iN (nxL Q t p x act))) b r) := by
    simp (disch := omega) only [b25_93 hX, n_add, ep, Option.bind_some, Option.toList_none, List.nil_append, b25_105 hX, c_yardsAt hq, Option.bind_some, Option.toList_some, Option.toList_none, List.cons_append, List.nil_append, true_or, or_true, if_true, bI_if, b25_110 hX, n_eq]
  rw [e0]
  by_cases hy : pY (nxL Q t p x act) = 0
  · refine ⟨_, ?_, ?_, drF.of frS.refl⟩
    · rw [if_pos hy, b25_113 hX]
      unfold enL
      rw [if_pos hy]
    · unfold x2L
      rw [if_pos (Or.inl hy)]
      exact g1
  · rw [if_neg hy, b25_115 hX, c_mayGo hE1 rfl (by omega)]
    simp only [Option.bind_some, Option.toList_some, Option.toList_none, List.cons_append, List.nil_append, true_or, or_true, if_true, bI_if, b25_123 hX, bI_if, decide_eq_true_eq]
    by_cases hB : t + 1 < B
    · refine ⟨_, ?_, ?_, drF.of frS.refl⟩
      · rw [if_neg (by omega), b25_150 hX, b25_151 hX]
        unfold enL
        rw [if_neg hy, if_pos hB]
      · unfold x2L
        rw [if_pos (Or.inr hB)]
        exact g1
    · have hdr : drF (uI a 64 (t + 1) (iN (nxL Q t p x act))) (uI (uI a 64 (t + 1) (iN (nxL Q t p x act))) 16 1 (iN (dxN (x1L p x)))) := drF.draw
      have hE2 := hE1.ag hdr.dpC
      have ed : Den (d+13) 68 0 [.ref 16] [] (zmMk n (uI a 64 (t + 1) (iN (nxL Q t p x act))) b r) = _ := c_draw g1 (x1L_lt hxl)
      obtain ⟨a3, e3, f3⟩ := c_tenthsGone (d := d+3) (b := b) hE2 (vt := iN t) (vp := iN (nxL Q t p x act)) rfl rfl (by omega) hq
      have hg := gonP_le hE.qb B t (nxL Q t p x act)
      refine ⟨a3, ?_, ?_, hdr.trans (drF.of f3)⟩
      · rw [if_pos (by omega)]
        simp (disch := omega) only [b25_126 hX, ed, Option.bind_some, Option.toList_some, Option.toList_none, List.cons_append, List.nil_append, true_or, or_true, if_true, bI_if, b25_133 hX, e3, b25_143 hX, n_lt]
        unfold enL
        rw [if_neg hy, if_neg hB]
        by_cases hl : dxN (x1L p x) % 10 < gonP Q B t (nxL Q t p x act)
        · rw [if_pos hl, if_pos hl, b25_146 hX, b25_151 hX]
        · rw [if_neg hl, if_neg hl, b25_150 hX, b25_151 hX]
      · rw [f3 16 rfl, uI_self]
        unfold x2L
        rw [if_neg (by omega)]
