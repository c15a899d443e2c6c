/-! ===== a TEXT asked: the reference's asks ===== -/
theorem segE_ne {c : Nat} {os : Ops} (h : SegE c os) (hc : c ≤ 20) : os ≠ [] := by
  intro e
  subst e
  rcases h (fun _ => 0) with h1 | ⟨v, h1⟩
  · cases h1 [] [] (by show 0 + c ≤ 20; omega)
  · cases h1 [] [] (by show 0 + c ≤ 20; omega)
theorem segB_ne {c : Nat} {os : Ops} (h : SegB c os) (hc : c ≤ 20) : os ≠ [] := by
  intro e
  subst e
  rcases h (fun _ => 0) with h1 | ⟨v, -, h1⟩
  · cases h1 [] [] (by show 0 + c ≤ 20; omega)
  · cases h1 [] [] (by show 0 + c ≤ 20; omega)
theorem len_pos {os : Ops} (h : os ≠ []) : 0 < os.length := by
  cases os with
  | nil => exact absurd rfl h
  | cons z os => exact Nat.succ_pos _
theorem m_comes {d T h e n : Nat} {a : Nat → Nat → Int32} {b : Nat → Nat → Int64} {r : Nat → Nat → Option Nat} {os : Ops} {f : Nat → Int32} {res : Option Int32} (hT : T ≤ 4) (he : ev f 0 os [] = some res) (hl : LayM (a 106) (260 * T) h os) (hb : 260 * T ≤ h) (h2 : e = h + os.length) (h3 : e ≤ 260 * T + 260) (h0 : os ≠ []) (hf : ∀ j, j < 10 → a 113 j = f j) : ∃ a', Den (d+1) 194 0 [.ref 94, .int (iN h), .int (iN e), zmJ, zmJ, zmJ, zmJ, zmJ] [] (zmMk n a b r) = some (some (.int (rsV res)), zmMk n a' b r) ∧ onlyX 112 a a' := by
  have hp := len_pos h0
  obtain ⟨a', e1, F⟩ := m_comesL (d := d) (n := n) (lo := 260 * T) (to := e) (b := b) (r := r) (v1 := iN h) (by omega) (by omega) os 0 h [] res zmJ zmJ a he hl h2 hb trivial (by show 0 ≤ 20; omega) hf
  refine ⟨a', ?_, F⟩
  rw [b194_0, n_div (by omega) (by omega), n_mul, show 260 * (h / 260) = 260 * T by omega]
  exact e1
/-- the reference's TEXT T (0 THE LAW, k + 1 RULE k) holds these CLAUSES -/
def TxJ (a : Nat → Nat → Int32) (T i : Nat) (c : Cls) (h k e : Nat) : Prop := 260 * T ≤ h ∧ k = h + c.2.1.length ∧ e = k + c.2.2.length ∧ e ≤ 260 * T + 260 ∧ a 108 (16 * T + i) = iN c.1 ∧ a 109 (16 * T + i) = iN h ∧ a 110 (16 * T + i) = iN k ∧ a 111 (16 * T + i) = iN e ∧ LayM (a 106) (260 * T) h c.2.1 ∧ LayM (a 106) (260 * T) k c.2.2 ∧ gdC c ∧ c.1 < 128
def TxM (a : Nat → Nat → Int32) (T : Nat) (cl : List Cls) : Prop := a 107 T = iN cl.length ∧ cl.length ≤ 16 ∧ ∀ i c, cl[i]? = some c → ∃ h k e, TxJ a T i c h k e
theorem TxM.ag {a a' : Nat → Nat → Int32} {T : Nat} {cl : List Cls} (h : TxM a T cl) (g : ∀ k, 106 ≤ k → k ≤ 111 → a' k = a k) : TxM a' T cl := by
  obtain ⟨h1, h2, h3⟩ := h
  refine ⟨by rw [g 107 (by omega) (by omega)]; exact h1, h2, fun i c hc => ?_⟩
  obtain ⟨hh, k, e, t⟩ := h3 i c hc
  refine ⟨hh, k, e, ?_⟩
  unfold TxJ at t ⊢
  rw [g 108 (by omega) (by omega), g 109 (by omega) (by omega), g 110 (by omega) (by omega), g 111 (by omega) (by omega), g 106 (by omega) (by omega)]
  exact t
def kyF (Y : Nat) (kb : Nat → Nat) (y : Nat) : Nat := if Y = 0 ∨ Y < y then 0 else if y = 0 then kb (Y - 1) else kb (Y - y)
def wtF (ob : Nat → Nat) (t : Nat) : Nat → Nat
  | 0 => 0
  | P + 1 => wtF ob t P + (if t < ob P then 1 else 0)
theorem wtF_le (ob : Nat → Nat) (t P : Nat) : wtF ob t P ≤ P := by
  induction P with
  | zero => exact Nat.le_refl _
  | succ P ih =>
    show wtF ob t P + (if t < ob P then 1 else 0) ≤ P + 1
    split <;> omega
/-- the reference's side of what asking stands on -/
def StrM (a : Nat → Nat → Int32) (Y : Nat) (kb : Nat → Nat) : Prop := a 94 2 = iN Y ∧ Y ≤ 120 ∧ ∀ j, j < Y → a 96 j = iN (kb j)
def QueM (a : Nat → Nat → Int32) (P : Nat) (ob : Nat → Nat) : Prop := a 94 4 = iN P ∧ P ≤ 16 ∧ ∀ j, j < P → a 98 j = iN (ob j) ∧ ob j < 100
def BasM (a : Nat → Nat → Int32) (N : Nat) (K W : Nat → Nat) : Prop := a 94 0 = iN N ∧ (∃ Y kb, StrM a Y kb ∧ ∀ y, y ≤ 120 → K y = kyF Y kb y) ∧ ∃ P ob, QueM a P ob ∧ ∀ t, t < 100 → W t = wtF ob t P
theorem BasM.ag {a a' : Nat → Nat → Int32} {N : Nat} {K W : Nat → Nat} (h : BasM a N K W) (g : agD dpMA a a') : BasM a' N K W := by
  obtain ⟨h1, ⟨Y, kb, ⟨s1, s2, s3⟩, s4⟩, P, ob, ⟨q1, q2, q3⟩, q4⟩ := h
  refine ⟨by rw [g 94 0 rfl]; exact h1, ⟨Y, kb, ⟨by rw [g 94 2 rfl]; exact s1, s2, fun j hj => by rw [g 96 j rfl]; exact s3 j hj⟩, s4⟩, P, ob, ⟨by rw [g 94 4 rfl]; exact q1, q2, fun j hj => by rw [g 98 j rfl]; exact q3 j hj⟩, q4⟩
theorem m_kindWith {d Y y : Nat} {n : Nat} {a : Nat → Nat → Int32} {b : Nat → Nat → Int64} {r : Nat → Nat → Option Nat} {kb : Nat → Nat} (h : StrM a Y kb) (hy : y ≤ 120) : Den (d) 165 0 [.ref 94, .int (iN y)] [] (zmMk n a b r) = some (some (.int (iN (kyF Y kb y))), (zmMk n a b r)) := by
  obtain ⟨h1, h2, h3⟩ := h
  unfold kyF
  rw [b165_0, h1]
  by_cases h0 : Y = 0
  · rw [if_pos (by rw [h0]), b165_15, b165_48, if_pos (Or.inl h0)]
  · rw [if_neg (by rw [n_eq (by omega) (by omega)]; exact h0), b165_7, h1]
    by_cases h4 : Y < y
    · rw [if_pos (by rw [n_lt (by omega) (by omega)]; exact h4), b165_15, b165_48, if_pos (Or.inr h4)]
    · rw [if_neg (by rw [n_lt (by omega) (by omega)]; exact h4), b165_19, if_neg (show ¬ (Y = 0 ∨ Y < y) by omega)]
      by_cases h5 : y = 0
      · rw [if_pos (by rw [h5]), if_pos h5, b165_23, h1, n_sub (by omega), n_in (by omega), if_pos (decide_eq_true (by omega)), b165_34, b165_48, n_nat (by omega), h3 _ (by omega)]
      · rw [if_neg (by rw [n_eq (by omega) (by omega)]; exact h5), if_neg h5, b165_37, h1, n_sub (by omega), n_in (by omega), if_pos (decide_eq_true (by omega)), b165_48, n_nat (by omega), h3 _ (by omega)]
theorem m_waitL {d n t P : Nat} {a : Nat → Nat → Int32} {b : Nat → Nat → Int64} {r : Nat → Nat → Option Nat} {ob : Nat → Nat} (h : QueM a P ob) (ht : t < 100) (k : Nat) : ∀ i, i + k = P → Den d 166 4 [.ref 94,.int (iN t),.int (iN (wtF ob t i)),.int (iN i)] [] (zmMk n a b r) = some (some (.int (iN (wtF ob t P))), (zmMk n a b r)) := by
  obtain ⟨h1, h2, h3⟩ := h
  induction k with
  | zero =>
    intro i hi
    rw [b166_4, h1, if_neg (by rw [n_lt (by omega) (by omega)]; omega), b166_36, show i = P by omega]
  | succ k ih =>
    intro i hi
    obtain ⟨o1, o2⟩ := h3 i (by omega)
    rw [b166_4, h1, if_pos (by rw [n_lt (by omega) (by omega)]; omega), b166_12, n_in (by omega), if_pos (decide_eq_true (by omega)), n_nat (by omega), o1, b166_19]
    have e1 : wtF ob t (i + 1) = wtF ob t i + (if t < ob i then 1 else 0) := rfl
    by_cases h4 : t < ob i
    · rw [if_pos (by rw [n_lt (by omega) (by omega)]; exact h4), b166_23, b166_28, n_add, n_add, ← ih (i + 1) (by omega), e1, if_pos h4]
    · rw [if_neg (by rw [n_lt (by omega) (by omega)]; exact h4), b166_27, b166_28, n_add, n_add, ← ih (i + 1) (by omega), e1, if_neg h4]
theorem m_waitingAt {d t P : Nat} {n : Nat} {a : Nat → Nat → Int32} {b : Nat → Nat → Int64} {r : Nat → Nat → Option Nat} {ob : Nat → Nat} (h : QueM a P ob) (ht : t < 100) : Den (d) 166 0 [.ref 94, .int (iN t), zmJ, zmJ] [] (zmMk n a b r) = some (some (.int (iN (wtF ob t P))), (zmMk n a b r)) := by
  rw [b166_0]
  exact m_waitL h ht P 0 (by omega)
set_option maxHeartbeats 1000000 in
theorem m_feels {d N t p act : Nat} {n : Nat} {a : Nat → Nat → Int32} {b : Nat → Nat → Int64} {r : Nat → Nat → Option Nat} {K W : Nat → Nat} (hB : BasM a N K W) (ht : t ≤ 8) (hp : p < 4840) (ha : act < 8 ∧ act ≠ 4) : ∃ a', Den (d+1) 204 0 [.ref 94, .int (iN t), .int (iN p), .int (iN act)] [] (zmMk n a b r) = some (none, zmMk n a' b r) ∧ onlyX 113 a a' ∧ ∀ j, j < 10 → a' 113 j = fctN N K W t p act j := by
  obtain ⟨hN, ⟨Y, kb, hS, hK⟩, P, ob, hQ, hW⟩ := hB
  have hy := pY_le hp
  have in10 : ∀ k < 10, zmIn (iN k) 10 = true := fun k hk => by rw [n_in (by omega)]; exact decide_eq_true hk
  have nk : ∀ k < 10, (iN k).toNatClampNeg = k := fun k hk => n_nat (by omega)
  have eK : ∀ a1 : Nat → Nat → Int32, onlyX 113 a a1 → Den (d) 165 0 [.ref 94, .int (iN (pY p))] [] (zmMk n a1 b r) = some (some (.int (iN (K (pY p)))), zmMk n a1 b r) := fun a1 F => by
    rw [hK _ hy]
    exact m_kindWith ⟨by rw [F 94 (by decide)]; exact hS.1, hS.2.1, fun j hj => by rw [F 96 (by decide)]; exact hS.2.2 j hj⟩ hy
  have eW : ∀ a1 : Nat → Nat → Int32, onlyX 113 a a1 → Den (d) 166 0 [.ref 94, .int (iN t), zmJ, zmJ] [] (zmMk n a1 b r) = some (some (.int (iN (W t))), zmMk n a1 b r) := fun a1 F => by
    rw [hW _ (by omega)]
    exact m_waitingAt ⟨by rw [F 94 (by decide)]; exact hQ.1, hQ.2.1, fun j hj => by rw [F 98 (by decide)]; exact hQ.2.2 j hj⟩ (by omega)
  refine ⟨uI (uI (uI (uI (uI (uI (uI (uI (uI (uI a 113 0 (iN t)) 113 1 (iN N)) 113 2 (iN (pY p))) 113 3 (iN (pB p))) 113 4 (iN (pS p))) 113 5 (iN (pR p))) 113 6 (iN (W t))) 113 7 (iN (K (pY p)))) 113 8 (iN (act % 4))) 113 9 (iN (act / 4)), ?_, ?_, ?_⟩
  · have e94 : ∀ v, uI a 113 0 v 94 0 = iN N := fun v => by rw [uI_ne (by decide)]; exact hN
    rw [b204_0, e94, m_yardsIn hp]
    simp only [Option.bind_some, Option.toList_some, Option.toList_none, List.cons_append, List.nil_append, true_or, or_true, if_true, bI_if, b204_26, in10 2 (by omega), nk 2 (by omega), b204_27, m_breathIn hp, b204_36, in10 3 (by omega), nk 3 (by omega), b204_37, m_seenIn hp, b204_46, in10 4 (by omega), nk 4 (by omega), b204_47, m_ranIn hp, b204_56, in10 5 (by omega), nk 5 (by omega), b204_57]
    rw [eW _ (((((onlyX.put.trans onlyX.put).trans onlyX.put).trans onlyX.put).trans onlyX.put).trans onlyX.put)]
    simp only [Option.bind_some, Option.toList_some, Option.toList_none, List.cons_append, List.nil_append, true_or, or_true, if_true, bI_if, b204_68, in10 6 (by omega), nk 6 (by omega), b204_69, m_yardsIn hp, b204_80]
    rw [eK _ ((((((onlyX.put.trans onlyX.put).trans onlyX.put).trans onlyX.put).trans onlyX.put).trans onlyX.put).trans onlyX.put)]
    simp only [Option.bind_some, Option.toList_some, Option.toList_none, List.cons_append, List.nil_append, true_or, or_true, if_true, bI_if, b204_83, in10 7 (by omega), nk 7 (by omega), b204_84]
    rw [n_div (by omega) (by omega), n_mul, n_sub (by omega), show act - act / 4 * 4 = act % 4 by omega]
  · intro k hk
    simp only [uI_ne hk]
  · intro j hj
    rcases (by omega : j = 0 ∨ j = 1 ∨ j = 2 ∨ j = 3 ∨ j = 4 ∨ j = 5 ∨ j = 6 ∨ j = 7 ∨ j = 8 ∨ j = 9) with rfl | rfl | rfl | rfl | rfl | rfl | rfl | rfl | rfl | rfl <;> simp [uI_at, fctN]
theorem clmp_if {h : Nat} {x : Int32} (hh : h ≤ 99) : (if x < iN 0 then iN 0 else if iN h < x then iN h else x) = iN (clmp h x) := by
  unfold clmp
  by_cases h0 : x < iN 0
  · rw [if_pos h0, if_pos h0]
  · obtain ⟨k, hk, e⟩ := n_of x h0
    subst e
    rw [if_neg h0, if_neg h0, n_nat hk]
    split <;> rfl
set_option maxHeartbeats 1000000 in
theorem m_byLawL {d n h : Nat} {b : Nat → Nat → Int64} {r : Nat → Nat → Option Nat} {f : Nat → Int32} {cl : List Cls} {l : Int32} (hh : h ≤ 99) (rest : List Cls) : ∀ (i : Nat) (a : Nat → Nat → Int32), i + rest.length = cl.length → (∀ j, cl[i + j]? = rest[j]?) → TxM a 0 cl → (∀ j, j < 10 → a 113 j = f j) → ∃ a', Den (d+2) 195 2 [.ref 94,.int l,.int (iN h),.int (iN i),zmJ] [] (zmMk n a b r) = some (some (.int (iN (clmp h (askV l f rest)))), zmMk n a' b r) ∧ onlyX 112 a a' := by
  induction rest with
  | nil =>
    intro i a hl hr hT hf
    have hl0 : ([] : List Cls).length = 0 := rfl
    have h16 := hT.2.1
    refine ⟨a, ?_, fun _ _ => rfl⟩
    rw [b195_2, hT.1, if_neg (by rw [n_lt (by omega) (by omega)]; omega), b195_91]
    show _ = some (some (Value.int (iN (clmp h (iN 0)))), (zmMk n a b r))
    rw [clmp_0 hh]
  | cons z rest ih =>
    intro i a hl hr hT hf
    have hl1 : (z :: rest).length = rest.length + 1 := rfl
    rw [hl1] at hl
    have h16 := hT.2.1
    have hz : cl[i]? = some z := hr 0
    obtain ⟨ha, k, e, t1, t2, t3, t4, t5, t6, t7, t8, t9, t10, t11, t12⟩ := hT.2.2 i z hz
    rw [show 16 * 0 + i = i by omega] at t5 t6 t7 t8
    have hr2 : ∀ j, cl[i + 1 + j]? = rest[j]? := fun j => by
      rw [show i + 1 + j = i + (j + 1) by omega]
      exact hr (j + 1)
    have ea : askV l f (z :: rest) = if iN z.1 = l ∧ evV f z.2.2 = iN 1 then evV f z.2.1 else askV l f rest := rfl
    rw [b195_2, hT.1, if_pos (by rw [n_lt (by omega) (by omega)]; omega), b195_12, n_in (by omega), if_pos (decide_eq_true (by omega)), n_nat (by omega), t5, b195_18, ea]
    by_cases hzl : iN z.1 = l
    · obtain ⟨res, e1, e2, e3⟩ := ev_B t11.2 (by omega) f
      obtain ⟨a1, e4, F1⟩ := m_comes (d := d) (b := b) (r := r) (n := n) (T := 0) (e := e) (by omega) e1 t10 (by omega) t3 t4 (segB_ne t11.2 (by omega)) hf
      have hT1 : TxM a1 0 cl := hT.ag (fun k h1 h2 => F1 k (by omega))
      have g1 : ∀ j, j < 10 → a1 113 j = f j := fun j hj => by rw [F1 113 (by decide)]; exact hf j hj
      rw [if_pos hzl, b195_22, n_in (by omega), if_pos (decide_eq_true (by omega)), n_nat (by omega), t7, b195_29, n_in (by omega), if_pos (decide_eq_true (by omega)), n_nat (by omega), t8, b195_35, e4, e2]
      simp only [Option.bind_some, Option.toList_some, Option.toList_none, List.cons_append, List.nil_append, true_or, or_true, if_true, bI_if]
      rw [b195_38]
      by_cases hv : evV f z.2.2 = iN 1
      · obtain ⟨ha', k', e', s1, s2, s3, s4, s5, s6, s7, s8, s9, s10, s11, s12⟩ := hT1.2.2 i z hz
        rw [show 16 * 0 + i = i by omega] at s5 s6 s7 s8
        obtain ⟨res2, e5, e6⟩ := ev_E t11.1 (by omega) f
        obtain ⟨a2, e7, F2⟩ := m_comes (d := d) (b := b) (r := r) (n := n) (T := 0) (e := k') (by omega) e5 s9 (by omega) s2 (by omega) (segE_ne t11.1 (by omega)) g1
        refine ⟨a2, ?_, F1.trans F2⟩
        rw [if_pos hv, b195_45, n_in (by omega), if_pos (decide_eq_true (by omega)), n_nat (by omega), s6, b195_52, n_in (by omega), if_pos (decide_eq_true (by omega)), n_nat (by omega), s7, b195_58, e7, e6]
        simp only [Option.bind_some, Option.toList_some, Option.toList_none, List.cons_append, List.nil_append, true_or, or_true, if_true, bI_if]
        rw [if_pos ⟨hzl, hv⟩, ← clmp_if hh, b195_61, b195_68, b195_72, b195_78, b195_82]
        simp only [b195_84]
        split
        · rfl
        · split <;> rfl
      · obtain ⟨a2, e5, F2⟩ := ih (i + 1) a1 (by omega) hr2 hT1 g1
        refine ⟨a2, ?_, F1.trans F2⟩
        rw [if_neg hv, b195_42, b195_85, n_add, e5, if_neg (fun q => hv q.2)]
    · obtain ⟨a2, e5, F2⟩ := ih (i + 1) a (by omega) hr2 hT hf
      refine ⟨a2, ?_, F2⟩
      rw [if_neg hzl, b195_85, n_add, e5, if_neg (fun q => hzl q.1)]
theorem TxM.agA {a a' : Nat → Nat → Int32} {T : Nat} {cl : List Cls} (h : TxM a T cl) (g : agD dpMA a a') : TxM a' T cl := by
  refine h.ag (fun k h1 h2 => ?_)
  funext j
  refine g k j ?_
  rcases (by omega : k = 106 ∨ k = 107 ∨ k = 108 ∨ k = 109 ∨ k = 110 ∨ k = 111) with rfl | rfl | rfl | rfl | rfl | rfl <;> rfl
theorem onlyX.frM2 {a a' : Nat → Nat → Int32} (h : onlyX 112 a a') : frM a a' := by
  intro k hk
  refine h k (fun e => ?_)
  rw [e] at hk
  cases hk
theorem onlyX.frM3 {a a' : Nat → Nat → Int32} (h : onlyX 113 a a') : frM a a' := by
  intro k hk
  refine h k (fun e => ?_)
  rw [e] at hk
  cases hk
theorem AskM_of {n N : Nat} {r : Nat → Nat → Option Nat} {a : Nat → Nat → Int32} {K W : Nat → Nat} {cl : List Cls} (hT : TxM a 0 cl) (hB : BasM a N K W) : AskM n r a (QF cl N K W) := by
  intro d a1 b l vt vp va vh t p act hag hl et ep ea eh ht hp ha
  subst et ep ea eh
  have hB1 := hB.ag hag
  have hT1 := hT.agA hag
  obtain ⟨a2, e2, F2, g2⟩ := m_feels (d := d+7) (b := b) (r := r) (n := n) hB1 ht hp ha
  have hT2 : TxM a2 0 cl := hT1.ag (fun k h1 h2 => F2 k (by omega))
  obtain ⟨a3, e3, F3⟩ := m_byLawL (d := d+6) (b := b) (r := r) (n := n) (cl := cl) (l := l) (hiQ_lt l) cl 0 a2 (by omega) (fun j => by rw [Nat.zero_add]) hT2 g2
  refine ⟨a3, ?_, F2.frM3.trans F3.frM2⟩
  have e2' : Den (d+8) 204 0 [.ref 94, .int (iN t), .int (iN p), .int (iN act)] [] (zmMk n a1 b r) = _ := e2
  have e3' : Den (d+8) 195 2 [.ref 94,.int l,.int (iN (hiQ l)),.int (iN 0),zmJ] [] (zmMk n a2 b r) = _ := e3
  rw [b205_0, e2']
  simp only [Option.bind_some, Option.toList_none, List.nil_append]
  rw [b205_7, b195_0, e3']
  simp only [Option.bind_some, Option.toList_some, Option.toList_none, List.cons_append, List.nil_append, true_or, or_true, if_true, bI_if]
  rw [b205_15]
  rfl
