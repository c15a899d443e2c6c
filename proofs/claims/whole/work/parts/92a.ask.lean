/-! ===== a TEXT asked: the class's ask, ruled ===== -/
theorem c_has1 {d TT c : Nat} {n : Nat} {a : Nat → Nat → Int32} {b : Nat → Nat → Int64} {r : Nat → Nat → Option Nat} (hX : isTx TT) (h : prsC a TT c) : Den (d) 84 0 [.ref TT, .int (iN c)] [] (zmMk n a b r) = some (some (.int (iN 1)), (zmMk n a b r)) := by
  unfold prsC at h
  rw [b84_0 hX, if_pos h, b84_15 hX, b84_20 hX, if_pos (Or.inr rfl)]
theorem c_has0 {d TT c : Nat} {n : Nat} {a : Nat → Nat → Int32} {b : Nat → Nat → Int64} {r : Nat → Nat → Option Nat} (hX : isTx TT) (h : ¬ prsC a TT c) : Den (d) 84 0 [.ref TT, .int (iN c)] [] (zmMk n a b r) = some (some (.int (iN 0)), (zmMk n a b r)) := by
  unfold prsC at h
  rw [b84_0 hX, if_neg h, b84_19 hX, b84_20 hX, if_pos (Or.inl rfl)]
def bndV (c : Nat) (x : Int32) : Int32 := if lawI c < 8 then iN (clmp (bndS (lawI c)) x) else x
theorem bndS_le : ∀ i < 8, bndS i ≤ 99 := by decide +kernel
theorem n_negI {x : Int32} (h : x < iN 0) : x.toInt < 0 := by
  rw [Int32.lt_iff_toInt_lt, n_toI (by decide)] at h
  exact h
theorem n_neg_lt {x : Int32} {k : Nat} (h : x < iN 0) (hk : k < 2147483648) : x < iN k := by
  have h1 := n_negI h
  rw [Int32.lt_iff_toInt_lt, n_toI hk]
  omega
theorem n_neg_nlt {x : Int32} {k : Nat} (h : x < iN 0) (hk : k < 2147483648) : ¬ iN k < x := by
  have h1 := n_negI h
  rw [Int32.lt_iff_toInt_lt, n_toI hk]
  omega
theorem clmp_eq {h : Nat} {x : Int32} (hh : h ≤ 99) : (if iN 0 < (if x < iN h then x else iN h) then (if x < iN h then x else iN h) else iN 0) = iN (clmp h x) := by
  unfold clmp
  by_cases h0 : x < iN 0
  · rw [if_pos h0, if_pos (n_neg_lt h0 (by omega)), if_neg (n_neg_nlt h0 (by omega))]
  · obtain ⟨k, hk, e⟩ := n_of x h0
    subst e
    rw [if_neg h0, n_nat hk]
    by_cases h1 : k < h
    · have e1 : (if iN k < iN h then iN k else iN h) = iN k := if_pos (by rw [n_lt hk (by omega)]; exact h1)
      rw [e1, if_neg (show ¬ iN h < iN k by rw [n_lt (by omega) hk]; omega)]
      by_cases h2 : 0 < k
      · exact if_pos (by rw [n_lt (by omega) hk]; exact h2)
      · rw [if_neg (show ¬ iN 0 < iN k by rw [n_lt (by omega) hk]; exact h2)]
        congr 1
        omega
    · have e1 : (if iN k < iN h then iN k else iN h) = iN h := if_neg (by rw [n_lt hk (by omega)]; exact h1)
      have e2 : (if iN 0 < iN h then iN h else iN 0) = iN h := by
        by_cases h3 : 0 < h
        · exact if_pos (by rw [n_lt (by omega) (by omega)]; exact h3)
        · rw [if_neg (show ¬ iN 0 < iN h by rw [n_lt (by omega) (by omega)]; exact h3)]
          congr 1
          omega
      rw [e1, e2]
      by_cases h2 : h < k
      · rw [if_pos (show iN h < iN k by rw [n_lt (by omega) hk]; exact h2)]
      · rw [if_neg (show ¬ iN h < iN k by rw [n_lt (by omega) hk]; exact h2)]
        congr 1
        omega
theorem clmp_0 {h : Nat} (hh : h ≤ 99) : clmp h (iN 0) = 0 := by
  unfold clmp
  rw [if_neg (by rw [n_lt (by omega) (by omega)]; omega)]
  split
  · rename_i h1
    by_cases h2 : h = 0
    · exact h2
    · exfalso
      by_cases h3 : h < 2147483648
      · rw [n_lt h3 (by omega)] at h1
        omega
      · omega
  · rw [n_nat (by omega)]
theorem c_itB {d i : Nat} {n : Nat} {a : Nat → Nat → Int32} {b : Nat → Nat → Int64} {r : Nat → Nat → Option Nat} (hi : i < 8) : Den (d) 145 0 [.ref 1, .int (iN i)] [] (zmMk n a b r) = some (some (.int (a 1 i)), (zmMk n a b r)) := by
  have hK : zmKd 1 (zmMk n a b r) = 40 := kd_of (len := 8) (by decide +kernel) (by decide)
  have hL : zmLen 1 (zmMk n a b r) = 8 := len_of (k := 40) (by decide +kernel) (by decide)
  have e0 : Den d 145 0 [.ref 1, .int (iN i)] [] (zmMk n a b r) = if iN i < iN 0 then Den d 145 16 [.ref 1, .int (iN i)] [] (zmMk n a b r) else Den d 145 4 [.ref 1, .int (iN i)] [] (zmMk n a b r) := (Den_blk [zm0 (.iload_n 1) 1, zm0 (.ifCond .lt 15) 3] (pc' := if iN i < iN 0 then 16 else 4) (L' := [.ref 1, .int (iN i)]) (st' := []) (x' := (zmMk n a b r)) (by decide +kernel) rfl).trans (Den_ite _)
  have e4 : Den d 145 4 [.ref 1, .int (iN i)] [] (zmMk n a b r) = Den d 145 7 [.ref 1, .int (iN i)] [.int (iN 8), .int (iN i)] (zmMk n a b r) := by
    refine (Den_blk [zm0 (.iload_n 1) 1, zm0 (.aload_n 0) 1] (pc' := 6) (L' := [.ref 1, .int (iN i)]) (st' := [.ref 1, .int (iN i)]) (x' := (zmMk n a b r)) (by decide +kernel) rfl).trans (Den_next ((zmStep_of (i := zm0 (.arraylength) 1) (by decide +kernel)).trans ?_))
    show (if 20 ≤ zmKd 1 (zmMk n a b r) ∧ zmKd 1 (zmMk n a b r) < 50 ∧ zmKd 1 (zmMk n a b r) ≠ 30 then (some (.inl (7, [.ref 1, .int (iN i)], .int (iN (zmLen 1 (zmMk n a b r))) :: [.int (iN i)], (zmMk n a b r))) : Option zmR) else none) = _
    rw [hK, hL]
    rfl
  have e7 : Den d 145 7 [.ref 1, .int (iN i)] [.int (iN 8), .int (iN i)] (zmMk n a b r) = if iN i < iN 8 then Den d 145 10 [.ref 1, .int (iN i)] [] (zmMk n a b r) else Den d 145 16 [.ref 1, .int (iN i)] [] (zmMk n a b r) := (Den_blk [zm0 (.if_icmp .ge 9) 3] (pc' := if iN i < iN 8 then 10 else 16) (L' := [.ref 1, .int (iN i)]) (st' := []) (x' := (zmMk n a b r)) (by decide +kernel) rfl).trans (Den_ite _)
  rw [e0, if_neg (by rw [n_not_neg (by omega)]; exact not_false), e4, e7, if_pos (by rw [n_lt (by omega) (by omega)]; exact hi)]
  refine (Den_blk [zm0 (.aload_n 0) 1, zm0 (.iload_n 1) 1] (pc' := 12) (L' := [.ref 1, .int (iN i)]) (st' := [.int (iN i), .ref 1]) (x' := (zmMk n a b r)) (by decide +kernel) rfl).trans ((Den_next (pc' := 13) (L' := [.ref 1, .int (iN i)]) (st' := [.int (a 1 i)]) (x' := (zmMk n a b r)) ((zmStep_of (i := zm0 (.iaload) 1) (by decide +kernel)).trans ?_)).trans ?_)
  · show (if zmIn (iN i) (zmLen 1 (zmMk n a b r)) = true then (match zmKd 1 (zmMk n a b r) with
      | 20 => (some (.inl (13, [.ref 1, .int (iN i)], .int (gI (zmMk n a b r) 1 (iN i).toNatClampNeg) :: [], (zmMk n a b r))) : Option zmR)
      | 40 => (some (.inl (13, [.ref 1, .int (iN i)], .int (gI (zmMk n a b r) 1 (iN i).toNatClampNeg) :: [], (zmMk n a b r))) : Option zmR)
      | _ => none) else none) = _
    rw [hK, hL, n_in (by omega), if_pos (decide_eq_true hi), n_nat (by omega)]
    rfl
  · exact (Den_blk [zm0 (.goto 4) 3] (pc' := 17) (L' := [.ref 1, .int (iN i)]) (st' := [.int (a 1 i)]) (x' := (zmMk n a b r)) (by decide +kernel) rfl).trans (Den_retE (zmr (.ireturn) 1 0 0 0 0 0) (by decide +kernel) rfl)
theorem c_bounded {d c : Nat} {n : Nat} {a : Nat → Nat → Int32} {b : Nat → Nat → Int64} {r : Nat → Nat → Option Nat} {x : Int32} (hC : CstC a) (hc : c < 256) : Den (d+5) 59 0 [.int (iN c), .int x, zmJ] [] (zmMk n a b r) = some (some (.int (bndV c x)), (zmMk n a b r)) := by
  have e1 : Den (d+4) 277 0 [.ref 6, .int (iN c)] [] (zmMk n a b r) = _ := c_lawL hC hc
  rw [b59_0, ch_of (by omega), e1]
  unfold bndV
  by_cases h : lawI c < 8
  · have hb := bndS_le _ h
    have e2 : Den (d+4) 145 0 [.ref 1, .int (iN (lawI c))] [] (zmMk n a b r) = some (some (.int (a 1 (lawI c))), (zmMk n a b r)) := c_itB h
    rw [if_pos h, if_pos h]
    simp only [Option.bind_some, Option.toList_some, Option.toList_none, List.cons_append, List.nil_append, true_or, or_true, if_true, bI_if]
    rw [b59_7, if_neg (by rw [n_not_neg (by omega)]; exact not_false), b59_16, e2, hC.1 _ h]
    simp only [Option.bind_some, Option.toList_some, Option.toList_none, List.cons_append, List.nil_append, true_or, or_true, if_true, bI_if, b59_24, c_min, b59_28, c_max, b59_31, clmp_eq hb]
  · rw [if_neg h, if_neg h]
    simp only [Option.bind_some, Option.toList_some, Option.toList_none, List.cons_append, List.nil_append, true_or, or_true, if_true, bI_if]
    rw [b59_7, if_pos (show (-1 : Int32) < iN 0 by decide +kernel), b59_12, b59_31]
theorem c_txi {d TT q i : Nat} {n : Nat} {a : Nat → Nat → Int32} {b : Nat → Nat → Int64} {r : Nat → Nat → Option Nat} (hX : isTx TT) (hq : q = 2 ∨ q = 3 ∨ q = 4) (hi : i < 16) : Den (d) 145 0 [.ref (TT + q), .int (iN i)] [] (zmMk n a b r) = some (some (.int (a (TT + q) i)), (zmMk n a b r)) := by
  obtain ⟨-, h2, h3, h4, -, h6, -, -⟩ := tx_lay hX
  rcases hq with rfl | rfl | rfl
  · rw [c_item h2 (by omega) (by omega) (by decide), itV_n hi (by decide)]
  · rw [c_item h3 (by omega) (by omega) (by decide), itV_n hi (by decide)]
  · rw [c_item h4 (by omega) (by omega) (by decide), itV_n hi (by decide)]
theorem onlyX.fr {TT : Nat} {a a' : Nat → Nat → Int32} (hX : isTx TT) (h : onlyX (TT + 5) a a') : frC a a' := by
  intro k hk
  refine h k (fun e => ?_)
  rw [e, (tx_lay hX).2.2.2.2.2.2.2] at hk
  cases hk
set_option maxHeartbeats 1000000 in
theorem c_askL {d n TT c : Nat} {b : Nat → Nat → Int64} {r : Nat → Nat → Option Nat} {f : Nat → Int32} {cl : List Cls} {v3 v4 v5 : Int32} (hX : isTx TT) (hc : c < 256) (rest : List Cls) : ∀ (i : Nat) (a : Nat → Nat → Int32), i + rest.length = cl.length → (∀ j, cl[i + j]? = rest[j]?) → TxC a TT cl → CstC a → (∀ j, j < 10 → a 30 j = f j) → ∃ a', Den (d+6) 58 22 [.ref 29,.ref TT,.int (iN c),.int v3,.int v4,.int v5,.int (iN i)] [] (zmMk n a b r) = some (some (.int (bndV c (askV (iN c) f rest))), zmMk n a' b r) ∧ onlyX (TT + 5) a a' := by
  obtain ⟨-, -, -, -, -, -, h30, -⟩ := tx_lay hX
  induction rest with
  | nil =>
    intro i a hl hr hT hC hf
    have e0 : bndV c (askV (iN c) f []) = iN 0 := by
      show bndV c (iN 0) = iN 0
      unfold bndV
      split
      · rename_i hq
        rw [clmp_0 (bndS_le _ hq)]
      · rfl
    have hl0 : ([] : List Cls).length = 0 := rfl
    have h16 := hT.2.1
    refine ⟨a, ?_, fun _ _ => rfl⟩
    rw [b58_22 hX, hT.1, if_neg (by rw [n_lt (by omega) (by omega)]; omega), b58_92 hX, e0]
  | cons z rest ih =>
    intro i a hl hr hT hC hf
    have hl1 : (z :: rest).length = rest.length + 1 := rfl
    rw [hl1] at hl
    have h16 := hT.2.1
    have hz : cl[i]? = some z := hr 0
    obtain ⟨hh, k, t1, t2, t3, t4, t5, t6, t7, t8, t9, t10, t11, t12⟩ := hT.2.2 i z hz
    have hr2 : ∀ j, cl[i + 1 + j]? = rest[j]? := fun j => by
      rw [show i + 1 + j = i + (j + 1) by omega]
      exact hr (j + 1)
    have ea : askV (iN c) f (z :: rest) = if iN z.1 = iN c ∧ evV f z.2.2 = iN 1 then evV f z.2.1 else askV (iN c) f rest := rfl
    have i2 : Den (d+5) 145 0 [.ref (TT + 2), .int (iN i)] [] (zmMk n a b r) = _ := c_txi hX (Or.inl rfl) (by omega)
    have i4 : Den (d+5) 145 0 [.ref (TT + 4), .int (iN i)] [] (zmMk n a b r) = _ := c_txi hX (Or.inr (Or.inr rfl)) (by omega)
    rw [b58_22 hX, hT.1, if_pos (by rw [n_lt (by omega) (by omega)]; omega), b58_31 hX, i2, t1, ea]
    simp only [Option.bind_some, Option.toList_some, Option.toList_none, List.cons_append, List.nil_append, true_or, or_true, if_true, bI_if]
    rw [b58_40 hX]
    by_cases hzc : iN z.1 = iN c
    · rw [if_pos hzc, b58_44 hX, i4, t4]
      simp only [Option.bind_some, Option.toList_some, Option.toList_none, List.cons_append, List.nil_append, true_or, or_true, if_true, bI_if]
      obtain ⟨res, e1, e2, e3⟩ := ev_B t11.2 (by omega) f
      obtain ⟨a1, e4, F1⟩ := c_run (d := d+3) (b := b) (r := r) (n := n) hX e1 t8 t9 t10 hf
      have e4' : Den (d+5) 90 0 [.ref TT, .int (iN k), .ref 30, zmJ, zmJ, zmJ, zmJ, zmJ, zmJ] [] (zmMk n a b r) = _ := e4
      have f30 : a1 30 = a 30 := F1 30 (by omega)
      have hT1 : TxC a1 TT cl := hT.ag (fun k h1 h2 => F1 k (by omega))
      have hC1 : CstC a1 := hC.ag (fun k h1 => F1 k (by rcases tx_of hX with h | h | h | h | h | h <;> omega))
      have g1 : ∀ j, j < 10 → a1 30 j = f j := fun j hj => by rw [f30]; exact hf j hj
      rw [b58_54 hX, e4', e2]
      simp only [Option.bind_some, Option.toList_some, Option.toList_none, List.cons_append, List.nil_append, true_or, or_true, if_true, bI_if]
      rw [b58_61 hX]
      by_cases hv : evV f z.2.2 = iN 1
      · have i3 : Den (d+5) 145 0 [.ref (TT + 3), .int (iN i)] [] (zmMk n a1 b r) = _ := c_txi hX (Or.inr (Or.inl rfl)) (by omega)
        obtain ⟨hh', k', s1, s2, s3, s4, s5, s6, s7, s8, s9, s10, s11⟩ := hT1.2.2 i z hz
        obtain ⟨res2, e5, e6⟩ := ev_E t11.1 (by omega) f
        obtain ⟨a2, e7, F2⟩ := c_run (d := d+3) (b := b) (r := r) (n := n) hX e5 s5 s6 s7 g1
        have e7' : Den (d+5) 90 0 [.ref TT, .int (iN hh'), .ref 30, zmJ, zmJ, zmJ, zmJ, zmJ, zmJ] [] (zmMk n a1 b r) = _ := e7
        have hC2 : CstC a2 := hC1.ag (fun k h1 => F2 k (by rcases tx_of hX with h | h | h | h | h | h <;> omega))
        have e8 : Den (d+5) 59 0 [.int (iN c), .int (evV f z.2.1), zmJ] [] (zmMk n a2 b r) = _ := c_bounded (d := d) hC2 hc
        refine ⟨a2, ?_, F1.trans F2⟩
        rw [if_neg (by rw [hv, n_eq (by omega) (by omega)]; omega), b58_64 hX, i3, s3]
        simp only [Option.bind_some, Option.toList_some, Option.toList_none, List.cons_append, List.nil_append, true_or, or_true, if_true, bI_if]
        rw [b58_75 hX, e7', e6]
        simp only [Option.bind_some, Option.toList_some, Option.toList_none, List.cons_append, List.nil_append, true_or, or_true, if_true, bI_if]
        rw [b58_82 hX, e8]
        simp only [Option.bind_some, Option.toList_some, Option.toList_none, List.cons_append, List.nil_append, true_or, or_true, if_true, bI_if]
        rw [b58_85 hX, if_pos ⟨hzc, hv⟩]
      · have hv0 : evV f z.2.2 = iN 0 := e3.resolve_right hv
        obtain ⟨a2, e5, F2⟩ := ih (i + 1) a1 (by omega) hr2 hT1 hC1 g1
        refine ⟨a2, ?_, F1.trans F2⟩
        rw [if_pos hv0, b58_86 hX, n_add, e5, if_neg (fun q => hv q.2)]
    · obtain ⟨a2, e5, F2⟩ := ih (i + 1) a (by omega) hr2 hT hC hf
      refine ⟨a2, ?_, F2⟩
      rw [if_neg hzc, b58_86 hX, n_add, e5, if_neg (fun q => hzc q.1)]
theorem c_ask {d N TT c t p act : Nat} {n : Nat} {a : Nat → Nat → Int32} {b : Nat → Nat → Int64} {r : Nat → Nat → Option Nat} {K W : Nat → Nat} {cl : List Cls} (hX : isTx TT) (hT : TxC a TT cl) (hC : CstC a) (hN : a 16 0 = iN N) (hK : ∀ y, y ≤ 120 → a 25 y = iN (K y)) (hW : ∀ t, t < 100 → a 28 t = iN (W t)) (hc : c < 256) (ht : t ≤ 8) (hp : p < 4840) (ha : act < 8 ∧ act ≠ 4) : ∃ a', Den (d+6) 58 0 [.ref 29, .ref TT, .int (iN c), .int (iN t), .int (iN p), .int (iN act), zmJ] [] (zmMk n a b r) = some (some (.int (bndV c (askV (iN c) (fctN N K W t p act) cl))), zmMk n a' b r) ∧ frC a a' := by
  obtain ⟨-, -, -, -, -, -, h30, -⟩ := tx_lay hX
  by_cases h : prsC a TT c
  · have e1 : Den (d+5) 84 0 [.ref TT, .int (iN c)] [] (zmMk n a b r) = _ := c_has1 hX h
    obtain ⟨a1, e2, F1, g1⟩ := c_tell (d := d+4) (b := b) (r := r) (n := n) hN hK hW ht hp ha
    have e2' : Den (d+5) 60 0 [.ref 29, .int (iN t), .int (iN p), .int (iN act)] [] (zmMk n a b r) = _ := e2
    have hT1 : TxC a1 TT cl := hT.ag (fun k h1 h2 => F1 k (by rcases tx_of hX with h | h | h | h | h | h <;> omega))
    have hC1 : CstC a1 := hC.ag (fun k h1 => F1 k (by omega))
    obtain ⟨a2, e3, F2⟩ := c_askL (d := d) (n := n) (b := b) (r := r) (v3 := iN t) (v4 := iN p) (v5 := iN act) hX hc cl 0 a1 (by omega) (fun j => by rw [Nat.zero_add]) hT1 hC1 g1
    refine ⟨a2, ?_, ?_⟩
    · rw [b58_0 hX, e1]
      simp only [Option.bind_some, Option.toList_some, Option.toList_none, List.cons_append, List.nil_append, true_or, or_true, if_true, bI_if]
      rw [b58_5 hX, if_neg (by rw [n_eq (by omega) (by omega)]; omega), b58_10 hX, e2']
      simp only [Option.bind_some, Option.toList_none, List.nil_append]
      rw [b58_19 hX, e3]
    · exact frS.trans (fun k hk => F1 k (fun e => by rw [e] at hk; cases hk)) (F2.fr hX)
  · have e1 : Den (d+5) 84 0 [.ref TT, .int (iN c)] [] (zmMk n a b r) = _ := c_has0 hX h
    have e0 : askV (iN c) (fctN N K W t p act) cl = iN 0 := by
      refine askV_no (fun z hz => ?_)
      obtain ⟨i, hi⟩ := List.mem_iff_getElem?.mp hz
      obtain ⟨hh, k, t1, t2, t3, t4, t5, t6, t7, t8, t9, t10, t11, t12⟩ := hT.2.2 i z hi
      intro e
      rw [n_eq (by omega) (by omega)] at e
      rw [e] at t2
      exact h t2
    refine ⟨a, ?_, frS.refl⟩
    rw [b58_0 hX, e1]
    simp only [Option.bind_some, Option.toList_some, Option.toList_none, List.cons_append, List.nil_append, true_or, or_true, if_true, bI_if]
    rw [b58_5 hX, if_pos rfl, b58_8 hX, e0]
    unfold bndV
    split
    · rename_i hq
      rw [clmp_0 (bndS_le _ hq)]
    · rfl
theorem isLt_ex {l : Int32} (h : isLt l = true) : ∃ c, c < 256 ∧ l = iN c ∧ lawI c < 8 ∧ bndS (lawI c) = hiQ l := by
  unfold isLt at h
  simp only [Bool.or_eq_true, decide_eq_true_eq] at h
  rcases h with rfl | rfl | rfl | rfl | rfl | rfl | rfl | rfl
  · exact ⟨121, by decide, rfl, by decide, by decide +kernel⟩
  · exact ⟨119, by decide, rfl, by decide, by decide +kernel⟩
  · exact ⟨98, by decide, rfl, by decide, by decide +kernel⟩
  · exact ⟨115, by decide, rfl, by decide, by decide +kernel⟩
  · exact ⟨103, by decide, rfl, by decide, by decide +kernel⟩
  · exact ⟨118, by decide, rfl, by decide, by decide +kernel⟩
  · exact ⟨109, by decide, rfl, by decide, by decide +kernel⟩
  · exact ⟨108, by decide, rfl, by decide, by decide +kernel⟩
/-- the class's side of what asking stands on: STEPS, KINDS, people waiting, constants -/
def BasC (a : Nat → Nat → Int32) (N : Nat) (K W : Nat → Nat) : Prop := CstC a ∧ a 16 0 = iN N ∧ (∀ y, y ≤ 120 → a 25 y = iN (K y)) ∧ ∀ t, t < 100 → a 28 t = iN (W t)
theorem BasC.ag {a a' : Nat → Nat → Int32} {N : Nat} {K W : Nat → Nat} (h : BasC a N K W) (g : agD dpA a a') : BasC a' N K W := by
  obtain ⟨h1, h2, h3, h4⟩ := h
  refine ⟨h1.ag (fun k hk => ?_), by rw [g 16 0 rfl]; exact h2, fun y hy => by rw [g 25 y rfl]; exact h3 y hy, fun t ht => by rw [g 28 t rfl]; exact h4 t ht⟩
  funext j
  refine g k j ?_
  unfold dpA
  rw [show Nat.blt k 14 = true from Nat.blt_eq.mpr hk]
  rfl
theorem TxC.agA {a a' : Nat → Nat → Int32} {TT : Nat} {cl : List Cls} (hX : isTx TT) (h : TxC a TT cl) (g : agD dpA a a') : TxC a' TT cl := by
  refine h.ag (fun k h1 h2 => ?_)
  funext j
  refine g k j ?_
  obtain ⟨i, hi, rfl⟩ : ∃ i, i < 5 ∧ k = TT + i := ⟨k - TT, by omega, by omega⟩
  have hi5 : i = 0 ∨ i = 1 ∨ i = 2 ∨ i = 3 ∨ i = 4 := by omega
  rcases tx_of hX with rfl | rfl | rfl | rfl | rfl | rfl <;> rcases hi5 with rfl | rfl | rfl | rfl | rfl <;> rfl
theorem AskC_of {n N TT : Nat} {r : Nat → Nat → Option Nat} {a : Nat → Nat → Int32} {K W : Nat → Nat} {cl : List Cls} (hX : isTx TT) (hT : TxC a TT cl) (hB : BasC a N K W) : AskC n r TT a (QF cl N K W) := by
  intro d a1 b l vt vp va t p act hag hl et ep ea ht hp ha
  subst et ep ea
  obtain ⟨c, hc, rfl, h8, hb⟩ := isLt_ex hl
  have hB1 := hB.ag hag
  have hT1 := hT.agA hX hag
  obtain ⟨a2, e, F⟩ := c_ask (d := d+3) (b := b) (r := r) (n := n) hX hT1 hB1.1 hB1.2.1 hB1.2.2.1 hB1.2.2.2 hc ht hp ha
  refine ⟨a2, ?_, F⟩
  have e' : Den (d+9) 58 0 [.ref 29, .ref TT, .int (iN c), .int (iN t), .int (iN p), .int (iN act), zmJ] [] (zmMk n a1 b r) = _ := e
  rw [e']
  unfold bndV QF
  rw [if_pos h8, hb]
