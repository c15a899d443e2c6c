/-! ===== DRAWN: the reference's tries0 and drawn ===== -/
/-- a RULE's ACTION in the reference, as a premise -/
def RulM (n : Nat) (r : Nat → Nat → Option Nat) (a : Nat → Nat → Int32) (k : Nat) (A : Nat → Nat → Nat) : Prop := ∀ (d : Nat) (a1 : Nat → Nat → Int32) (b : Nat → Nat → Int64) (vk vt vp : Int32) (t p : Nat), agD dpMA a a1 → vk = iN k → vt = iN t → vp = iN p → t ≤ 8 → p < 4840 → ∃ a2, Den (d+12) 224 0 [.ref 94, .int vk, .int vt, .int vp, zmJ, zmJ] [] (zmMk n a1 b r) = some (some (.int (iN (A t p))), zmMk n a2 b r) ∧ frM a1 a2
theorem RulM.ag {n k : Nat} {r : Nat → Nat → Option Nat} {a a' : Nat → Nat → Int32} {A : Nat → Nat → Nat} (h : RulM n r a k A) (ha : agD dpMA a a') : RulM n r a' k A := fun d a1 b vk vt vp t p h0 => h d a1 b vk vt vp t p (ha.trans h0)
/-- all as it was but for the LOG, what is drawn and scratch -/
def lgM (a a' : Nat → Nat → Int32) : Prop := (∀ k, scM k = false → k ≠ 94 → k ≠ 134 → k ≠ 135 → a' k = a k) ∧ ∀ j, j ≠ 1 → j ≠ 73 → j ≠ 74 → a' 94 j = a 94 j
theorem lgM.trans {a a1 a2 : Nat → Nat → Int32} (h : lgM a a1) (g : lgM a1 a2) : lgM a a2 := ⟨fun k h1 h2 h3 h4 => (g.1 k h1 h2 h3 h4).trans (h.1 k h1 h2 h3 h4), fun j h1 h2 h3 => (g.2 j h1 h2 h3).trans (h.2 j h1 h2 h3)⟩
theorem lgM.of {a a' : Nat → Nat → Int32} (h : frM a a') : lgM a a' := ⟨fun k h1 _ _ _ => h k h1, fun j _ _ _ => by rw [h 94 rfl]⟩
theorem lgM.p94 {a : Nat → Nat → Int32} {i : Nat} {v : Int32} (hi : i = 1 ∨ i = 73 ∨ i = 74) : lgM a (uI a 94 i v) := ⟨fun k _ h _ _ => uI_ne h, fun j h1 h2 h3 => uI_nj (by omega)⟩
theorem lgM.p134 {a : Nat → Nat → Int32} {i : Nat} {v : Int32} : lgM a (uI a 134 i v) := ⟨fun k _ _ h _ => uI_ne h, fun j _ _ _ => by rw [uI_ne (by decide)]⟩
theorem lgM.p135 {a : Nat → Nat → Int32} {i : Nat} {v : Int32} : lgM a (uI a 135 i v) := ⟨fun k _ _ _ h => uI_ne h, fun j _ _ _ => by rw [uI_ne (by decide)]⟩
theorem lgM.dp {a a' : Nat → Nat → Int32} (h : lgM a a') : agD dpM a a' := by
  intro k j hp
  have hne : ∀ k0, dpM k0 j = false → k ≠ k0 := fun k0 h0 e => by rw [← e, hp] at h0; cases h0
  by_cases h1 : k = 94
  · rw [h1] at hp ⊢
    exact h.2 j (fun e => by rw [e] at hp; revert hp; decide) (fun e => by rw [e] at hp; revert hp; decide) (fun e => by rw [e] at hp; revert hp; decide)
  · rw [h.1 k (dpM_scM k j hp) h1 (hne 134 rfl) (hne 135 rfl)]
set_option maxHeartbeats 1000000 in
theorem m_tries0 {d N B t p x act : Nat} {n : Nat} {a : Nat → Nat → Int32} {b : Nat → Nat → Int64} {r : Nat → Nat → Option Nat} {Q : AQ} (hE : EnvM n r a N B Q) (hx : a 94 1 = iN x) (hxl : x < 65536) (ht : t < N) (hp : p < 4840) (hact : act < 8 ∧ act ≠ 4) (hm : mayP Q t p act) : ∃ a', Den (d+11) 252 0 [.ref 94, .int (iN t), .int (iN p), .int (iN act), zmJ, zmJ] [] (zmMk n a b r) = some (some (.int (iN (enL Q B t p x act))), zmMk n a' b r) ∧ lgM a a' ∧ a' 94 1 = iN (x2L Q B t p x act) ∧ (∀ j, j ≠ t + 1 → a' 134 j = a 134 j) ∧ a' 134 (t + 1) = iN (nxL Q t p x act) ∧ a' 135 = a 135 ∧ (∀ j, j ≠ 1 → a' 94 j = a 94 j) := by
  have h8 := hE.n8
  have hpS := pS_le p
  have hq := nxL_lt (Q := Q) (t := t) (x := x) (act := act) hp
  have hyl := pY_le hq
  have hb := behP_lt (Q := Q) (t := t) (act := act) hp
  have hs := senP_le hE.qb t p act
  obtain ⟨a1, e1, f1⟩ := m_seenBy (d := d) (b := b) hE (vt := iN t) (vp := iN p) (va := iN act) rfl rfl rfl (by omega) hp hact
  have hE1 := hE.fr f1
  obtain ⟨a2, e2, f2⟩ := m_behind (d := d) (b := b) hE1 (vt := iN t) (vp := iN p) (va := iN act) rfl rfl rfl (by omega) hp hact hm
  have hE2 := hE1.fr f2
  have g2 : a2 94 1 = iN x := by rw [f2 94 rfl, f1 94 rfl]; exact hx
  have h35 : a 94 35 = iN B := hE.2.2.2.2.1
  have h99 : B ≤ 99 := hE.2.2.2.2.2.1
  -- up to 46
  obtain ⟨a3, e3, x3, f3⟩ : ∃ a3, Den (d+11) 252 0 [.ref 94, .int (iN t), .int (iN p), .int (iN act), zmJ, zmJ] [] (zmMk n a b r) = Den (d+11) 252 46 [.ref 94,.int (iN t),.int (iN p),.int (iN act),.int (iN (senP Q t p act)),.int (iN (nxL Q t p x act))] [] (zmMk n a3 b r) ∧ a3 94 1 = iN (x1L p x) ∧ (∀ k, scM k = false → k ≠ 94 → a3 k = a k) ∧ ∀ j, j ≠ 1 → a3 94 j = a 94 j := by
    have e0 : Den (d+11) 252 0 [.ref 94, .int (iN t), .int (iN p), .int (iN act), zmJ, zmJ] [] (zmMk n a b r) = if pS p = 0 then Den (d+11) 252 25 [.ref 94,.int (iN t),.int (iN p),.int (iN act),.int (iN (senP Q t p act)),.int (iN (behP Q t p act))] [] (zmMk n a2 b r) else Den (d+11) 252 46 [.ref 94,.int (iN t),.int (iN p),.int (iN act),.int (iN (senP Q t p act)),.int (iN (behP Q t p act))] [] (zmMk n a2 b r) := by
      simp (disch := omega) only [b252_0, e1, Option.bind_some, Option.toList_some, Option.toList_none, List.cons_append, List.nil_append, true_or, or_true, if_true, bI_if, b252_7, e2, b252_16, m_seenIn hp, b252_22, n_eq]
    rw [e0]
    by_cases hS : pS p = 0
    · refine ⟨uI a2 94 1 (iN (dxN x)), ?_, ?_, fun k h1 h2 => ?_, fun j hj => ?_⟩
      · have ed : Den (d+10) 251 0 [.ref 94] [] (zmMk n a2 b r) = _ := m_draws g2 hxl
        have ea : ∀ s : Nat, Den (d+10) 211 0 [.int (iN (behP Q t p act)), .int (iN s)] [] (zmMk n (uI a2 94 1 (iN (dxN x))) b r) = _ := fun s => m_asSeen hb
        rw [if_pos hS]
        unfold nxL
        rw [if_pos hS]
        simp (disch := omega) only [b252_25, ed, Option.bind_some, Option.toList_some, Option.toList_none, List.cons_append, List.nil_append, true_or, or_true, if_true, bI_if, b252_31, b252_36, b252_40, b252_41, ea, b252_44, n_lt]
        split <;> rfl
      · rw [uI_self]
        unfold x1L
        rw [if_pos hS]
      · rw [uI_ne h2, f2 k h1, f1 k h1]
      · rw [uI_nj hj, f2 94 rfl, f1 94 rfl]
    · refine ⟨a2, ?_, ?_, fun k h1 h2 => ?_, fun j hj => ?_⟩
      · rw [if_neg hS]
        unfold nxL
        rw [if_neg hS]
      · unfold x1L
        rw [if_neg hS]
        exact g2
      · rw [f2 k h1, f1 k h1]
      · rw [f2 94 rfl, f1 94 rfl]
  have F3 : lgM a a3 := ⟨fun k h1 h2 _ _ => f3.1 k h1 h2, fun j hj _ _ => f3.2 j hj⟩
  have F4 : lgM a (uI a3 134 (t + 1) (iN (nxL Q t p x act))) := F3.trans lgM.p134
  have hE4 := hE.ag F4.dp
  have x4 : uI a3 134 (t + 1) (iN (nxL Q t p x act)) 94 1 = iN (x1L p x) := by rw [uI_ne (by decide)]; exact x3
  have h35' : uI a3 134 (t + 1) (iN (nxL Q t p x act)) 94 35 = iN B := by rw [uI_ne (by decide), f3.2 35 (by decide)]; exact h35
  have e4 : Den (d+11) 252 46 [.ref 94,.int (iN t),.int (iN p),.int (iN act),.int (iN (senP Q t p act)),.int (iN (nxL Q t p x act))] [] (zmMk n a3 b r) = if pY (nxL Q t p x act) = 0 then some (some (.int (iN 1)), zmMk n (uI a3 134 (t + 1) (iN (nxL Q t p x act))) b r) else if t + 1 < B then some (some (.int (iN 0)), zmMk n (uI a3 134 (t + 1) (iN (nxL Q t p x act))) b r) else Den (d+11) 252 76 [.ref 94,.int (iN t),.int (iN p),.int (iN act),.int (iN (senP Q t p act)),.int (iN (nxL Q t p x act))] [] (zmMk n (uI a3 134 (t + 1) (iN (nxL Q t p x act))) b r) := by
    rw [b252_46, n_add, n_in (by omega), if_pos (decide_eq_true (by omega)), n_nat (by omega)]
    simp (disch := omega) only [b252_56, m_yardsIn hq, Option.bind_some, Option.toList_some, Option.toList_none, List.cons_append, List.nil_append, true_or, or_true, if_true, bI_if, b252_61, n_eq, b252_64, b252_66, h35', n_lt_pred, b252_94, b252_95]
  rw [e3, e4]
  by_cases hy : pY (nxL Q t p x act) = 0
  · refine ⟨_, ?_, F4, ?_, fun j hj => ?_, uI_self, ?_, fun j hj => ?_⟩
    · rw [if_pos hy]
      unfold enL
      rw [if_pos hy]
    · unfold x2L
      rw [if_pos (Or.inl hy)]
      exact x4
    · rw [uI_nj hj, f3.1 134 rfl (by decide)]
    · rw [uI_ne (by decide), f3.1 135 rfl (by decide)]
    · rw [uI_ne (by decide), f3.2 j hj]
  · by_cases hB : t + 1 < B
    · refine ⟨_, ?_, F4, ?_, fun j hj => ?_, uI_self, ?_, fun j hj => ?_⟩
      · rw [if_neg hy, if_pos hB]
        unfold enL
        rw [if_neg hy, if_pos hB]
      · unfold x2L
        rw [if_pos (Or.inr hB)]
        exact x4
      · rw [uI_nj hj, f3.1 134 rfl (by decide)]
      · rw [uI_ne (by decide), f3.1 135 rfl (by decide)]
      · rw [uI_ne (by decide), f3.2 j hj]
    · have ed : Den (d+10) 251 0 [.ref 94] [] (zmMk n (uI a3 134 (t + 1) (iN (nxL Q t p x act))) b r) = _ := m_draws x4 (x1L_lt hxl)
      have hE5 := hE4.ag (lgM.p94 (i := 1) (v := iN (dxN (x1L p x))) (Or.inl rfl)).dp
      obtain ⟨a6, e6, f6⟩ := m_goesBy (d := d) (b := b) hE5 (vt := iN t) (vp := iN (nxL Q t p x act)) rfl rfl (by omega) hq
      have hg := gonP_le hE.qb B t (nxL Q t p x act)
      refine ⟨a6, ?_, (F4.trans (lgM.p94 (Or.inl rfl))).trans (lgM.of f6), ?_, fun j hj => ?_, ?_, ?_, fun j hj => ?_⟩
      · rw [if_neg hy, if_neg hB]
        simp (disch := omega) only [b252_76, ed, Option.bind_some, Option.toList_some, Option.toList_none, List.cons_append, List.nil_append, true_or, or_true, if_true, bI_if, b252_80, e6, b252_87, n_lt, b252_90, b252_94, b252_95]
        unfold enL
        rw [if_neg hy, if_neg hB]
        split <;> rfl
      · rw [f6 94 rfl, uI_self]
        unfold x2L
        rw [if_neg (by omega)]
      · rw [f6 134 rfl, uI_ne (by decide), uI_nj hj, f3.1 134 rfl (by decide)]
      · rw [f6 134 rfl, uI_ne (by decide), uI_self]
      · rw [f6 135 rfl, uI_ne (by decide), uI_ne (by decide), f3.1 135 rfl (by decide)]
      · rw [f6 94 rfl, uI_nj hj, uI_ne (by decide), f3.2 j hj]
set_option maxHeartbeats 1000000 in
theorem m_drawnL {d N B p x kk : Nat} {n : Nat} {r : Nat → Nat → Option Nat} {Q : AQ} {A : Nat → Nat → Nat} {v2 v3 v4 v5 : Int32} (hA8 : ∀ t p, (A t p < 8 ∧ A t p ≠ 4) ∧ (A t p ≠ 0 → mayP Q t p (A t p))) (hp : p < 4840) (hx : x < 65536) (k : Nat) : ∀ (t : Nat) (u6 u7 : Value) (a : Nat → Nat → Int32) (b : Nat → Nat → Int64), t + k = N → EnvM n r a N B Q → RulM n r a kk A → a 94 1 = iN (trL Q B A p x t).2.1 → a 94 74 = iN (trL Q B A p x t).2.2.1 → a 94 73 = iN (trL Q B A p x t).2.2.2 → LgR Q B A p x t (a 134) (a 135) → ∃ a', Den (d+13) 253 57 [.ref 94,.int (iN kk),.int v2,.int v3,.int v4,.int v5,u6,u7] [] (zmMk n a b r) = some (some (.int (iN (endL Q B A p x N))), zmMk n a' b r) ∧ lgM a a' ∧ a' 94 1 = iN (trL Q B A p x N).2.1 ∧ a' 94 74 = iN (endL Q B A p x N) ∧ a' 94 73 = iN (trL Q B A p x N).2.2.2 ∧ LgR Q B A p x N (a' 134) (a' 135) := by
  induction k with
  | zero =>
    intro t u6 u7 a b htk hE hRu hxa he hl hR
    have h8 := hE.n8
    obtain rfl : t = N := by omega
    obtain ⟨-, -, i3, i4, i5⟩ := trL_ok (Q := Q) (B := B) (A := A) hp hx t
    have hN : a 94 0 = iN t := hE.2.1
    by_cases h0 : (trL Q B A p x t).2.2.1 = 0
    · have h1 := (i5 h0).1
      have eE : endL Q B A p x t = 2 := if_pos h0
      refine ⟨uI a 94 74 (iN 2), ?_, lgM.p94 (by omega), ?_, ?_, ?_, ?_⟩
      · rw [b253_57, he, h0, if_pos rfl, b253_64, hl, hN, h1, if_pos rfl, b253_79, b253_172, uI_self, eE]
      · rw [uI_nj (by decide)]; exact hxa
      · rw [uI_self, eE]
      · rw [uI_nj (by decide)]; exact hl
      · rw [uI_ne (by decide), uI_ne (by decide)]; exact hR
    · have eE : endL Q B A p x t = (trL Q B A p x t).2.2.1 := if_neg h0
      refine ⟨a, ?_, lgM.of frS.refl, hxa, ?_, hl, hR⟩
      · rw [b253_57, he, if_neg (by rw [n_eq (by omega) (by omega)]; exact h0), b253_172, he, eE]
      · rw [he, eE]
  | succ k ih =>
    intro t u6 u7 a b htk hE hRu hxa he hl hR
    have h8 := hE.n8
    obtain ⟨i1, i2, i3, i4, i5⟩ := trL_ok (Q := Q) (B := B) (A := A) hp hx t
    have hN : a 94 0 = iN N := hE.2.1
    by_cases h0 : (trL Q B A p x t).2.2.1 = 0
    · obtain ⟨h1, h1y⟩ := i5 h0
      have h64 : a 134 t = iN (trL Q B A p x t).1 := hR.1 t (by omega)
      obtain ⟨a1, e1, f1⟩ := hRu d a b _ _ _ t (trL Q B A p x t).1 agD.refl rfl rfl rfl (by omega) i1
      obtain ⟨hA, hm⟩ := hA8 t (trL Q B A p x t).1
      -- the state behind the notes of action and length
      have F2 : lgM a (uI (uI a1 135 t (iN (A t (trL Q B A p x t).1))) 94 73 (iN (t + 1))) := ((lgM.of f1).trans lgM.p135).trans (lgM.p94 (Or.inr (Or.inl rfl)))
      have q134 : uI (uI a1 135 t (iN (A t (trL Q B A p x t).1))) 94 73 (iN (t + 1)) 134 = a 134 := by rw [uI_ne (by decide), uI_ne (by decide), f1 134 rfl]
      have q135 : ∀ j, j ≠ t → uI (uI a1 135 t (iN (A t (trL Q B A p x t).1))) 94 73 (iN (t + 1)) 135 j = a 135 j := fun j hj => by rw [uI_ne (by decide), uI_nj hj, f1 135 rfl]
      have q135t : uI (uI a1 135 t (iN (A t (trL Q B A p x t).1))) 94 73 (iN (t + 1)) 135 t = iN (A t (trL Q B A p x t).1) := by rw [uI_ne (by decide), uI_self]
      have qx : uI (uI a1 135 t (iN (A t (trL Q B A p x t).1))) 94 73 (iN (t + 1)) 94 1 = iN (trL Q B A p x t).2.1 := by rw [uI_nj (by decide), uI_ne (by decide), f1 94 rfl]; exact hxa
      have ql : uI (uI a1 135 t (iN (A t (trL Q B A p x t).1))) 94 73 (iN (t + 1)) 94 73 = iN (t + 1) := uI_self
      have qt : uI (uI a1 135 t (iN (A t (trL Q B A p x t).1))) 94 73 (iN (t + 1)) 134 t = iN (trL Q B A p x t).1 := by rw [q134]; exact h64
      have e2 : Den (d+13) 253 57 [.ref 94,.int (iN kk),.int v2,.int v3,.int v4,.int v5,u6,u7] [] (zmMk n a b r) = if A t (trL Q B A p x t).1 = 0 then Den (d+13) 253 125 [.ref 94,.int (iN kk),.int v2,.int v3,.int v4,.int v5,.int (iN t),.int (iN (A t (trL Q B A p x t).1))] [] (zmMk n (uI (uI a1 135 t (iN (A t (trL Q B A p x t).1))) 94 73 (iN (t + 1))) b r) else Den (d+13) 253 141 [.ref 94,.int (iN kk),.int v2,.int v3,.int v4,.int v5,.int (iN t),.int (iN (A t (trL Q B A p x t).1))] [] (zmMk n (uI (uI a1 135 t (iN (A t (trL Q B A p x t).1))) 94 73 (iN (t + 1))) b r) := by
        rw [b253_57, he, h0, if_pos rfl, b253_64, hl, hN, h1, if_neg (by rw [n_eq (by omega) (by omega)]; omega), b253_87, n_in (by omega), if_pos (decide_eq_true (by omega)), n_nat (by omega), h64, b253_98]
        rw [e1]
        simp only [Option.bind_some, Option.toList_some, Option.toList_none, List.cons_append, List.nil_append, true_or, or_true, if_true, bI_if]
        rw [b253_101, n_in (by omega), if_pos (decide_eq_true (by omega)), n_nat (by omega), b253_112, n_add]
        simp (disch := omega) only [n_eq]
      rw [e2]
      by_cases hz : A t (trL Q B A p x t).1 = 0
      · have hst := trL_0 h0 hz
        have F3 : lgM a (uI (uI (uI (uI a1 135 t (iN (A t (trL Q B A p x t).1))) 94 73 (iN (t + 1))) 134 (t + 1) (iN (trL Q B A p x t).1)) 94 74 (iN 3)) := (F2.trans lgM.p134).trans (lgM.p94 (Or.inr (Or.inr rfl)))
        obtain ⟨a4, e4, F4, r1, r2, r3, r4⟩ := ih (t + 1) (.int (iN t)) (.int (iN (A t (trL Q B A p x t).1))) (uI (uI (uI (uI a1 135 t (iN (A t (trL Q B A p x t).1))) 94 73 (iN (t + 1))) 134 (t + 1) (iN (trL Q B A p x t).1)) 94 74 (iN 3)) b (by omega) (hE.ag F3.dp) (hRu.ag F3.dp.toMA) (by rw [hst, uI_nj (by decide), uI_ne (by decide)]; exact qx) (by rw [hst]; exact uI_self) (by rw [hst, uI_nj (by decide), uI_ne (by decide)]; exact ql) (by
          rw [uI_ne (by decide)]
          rw [show ∀ f : Nat → Nat → Int32, uI f 94 74 (iN 3) 135 = f 135 from fun f => uI_ne (by decide)]
          rw [show ∀ (f : Nat → Nat → Int32) v, uI f 134 (t + 1) v 135 = f 135 from fun f v => uI_ne (by decide)]
          refine hR.s h0 h1 (fun j hj => ?_) (by rw [hst]; exact uI_self) q135 q135t
          rw [uI_nj hj, q134])
        refine ⟨a4, ?_, F3.trans F4, r1, r2, r3, r4⟩
        rw [if_pos hz, b253_125, n_in (by omega), if_pos (decide_eq_true (by omega)), n_nat (by omega), n_add, b253_140, n_in (by omega), if_pos (decide_eq_true (by omega)), n_nat (by omega), qt, b253_141, if_pos (by rw [hz]), b253_147, b253_166]
        exact e4
      · have hst := trL_1 h0 hz
        obtain ⟨a3, e3, F3, x3, p3, p3t, s3, g3⟩ := m_tries0 (d := d+1) (b := b) (hE.ag F2.dp) qx i2 (show t < N by omega) i1 hA (hm hz)
        have F4 : lgM a (uI a3 94 74 (iN (enL Q B t (trL Q B A p x t).1 (trL Q B A p x t).2.1 (A t (trL Q B A p x t).1)))) := (F2.trans F3).trans (lgM.p94 (Or.inr (Or.inr rfl)))
        obtain ⟨a4, e4, F5, r1, r2, r3, r4⟩ := ih (t + 1) (.int (iN t)) (.int (iN (A t (trL Q B A p x t).1))) (uI a3 94 74 (iN (enL Q B t (trL Q B A p x t).1 (trL Q B A p x t).2.1 (A t (trL Q B A p x t).1)))) b (by omega) (hE.ag F4.dp) (hRu.ag F4.dp.toMA) (by rw [hst, uI_nj (by decide)]; exact x3) (by rw [hst]; exact uI_self) (by rw [hst, uI_nj (by decide), g3 73 (by decide)]; exact ql) (by
          rw [show ∀ (f : Nat → Nat → Int32) v, uI f 94 74 v 134 = f 134 from fun f v => uI_ne (by decide), show ∀ (f : Nat → Nat → Int32) v, uI f 94 74 v 135 = f 135 from fun f v => uI_ne (by decide)]
          refine hR.s h0 h1 (fun j hj => ?_) (by rw [hst]; exact p3t) (fun j hj => ?_) ?_
          · rw [p3 j hj, q134]
          · rw [s3]; exact q135 j hj
          · rw [s3]; exact q135t)
        refine ⟨a4, ?_, F4.trans F5, r1, r2, r3, r4⟩
        have hA0 : ¬ iN (A t (trL Q B A p x t).1) = iN 0 := by rw [n_eq (by omega) (by omega)]; exact hz
        rw [if_neg hz, b253_141, if_neg hA0, b253_151, n_in (by omega), if_pos (decide_eq_true (by omega)), n_nat (by omega), qt, b253_161, e3]
        simp only [Option.bind_some, Option.toList_some, Option.toList_none, List.cons_append, List.nil_append, true_or, or_true, if_true, bI_if, b253_166]
        exact e4
    · have hst := trL_e h0
      obtain ⟨a2, e2, F2, r1, r2, r3, r4⟩ := ih (t + 1) u6 u7 a b (by omega) hE hRu (by rw [hst]; exact hxa) (by rw [hst]; exact he) (by rw [hst]; exact hl) (hR.e h0)
      exact ⟨a2, e2, F2, r1, r2, r3, r4⟩
