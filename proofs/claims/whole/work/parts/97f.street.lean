/-! ===== THE STREET as a text, on both sides ===== -/
theorem fltI_neg : ∀ k < 10, ∀ q < 301, k ≠ 0 → fltI k q < iN 0 := by decide +kernel
theorem fltI_lt {k q : Nat} (h1 : 1 ≤ k) (h2 : k ≤ 9) (h3 : q ≤ 300) : fltI k q < iN 0 := fltI_neg k (by omega) q (by omega) (by omega)
/-- the number that stands at p, and where it ends -/
def numP (nx : Nat → Nat) (p : Nat) : Nat × Nat := if isDg (nx (p + 1)) = true then ((nx p - 48) * 10 + (nx (p + 1) - 48), p + 2) else (nx p - 48, p + 1)
/-- a PIECE at p: its FAULT, or how many YARDS, their KIND, where it ends -/
def pcP (nx : Nat → Nat) (p pc tot : Nat) : (Nat × Nat) ⊕ (Nat × Nat × Nat) :=
  if isDg (nx p) = false then .inl (1, p) else if pc = 12 then .inl (4, p) else if (numP nx p).1 = 0 then .inl (3, p) else if 4 ≤ kdS (nx (numP nx p).2) then .inl (1, (numP nx p).2) else if 120 < tot + (numP nx p).1 then .inl (6, p) else .inr ((numP nx p).1, kdS (nx (numP nx p).2), (numP nx p).2 + 1)
def layK (K : Nat → Nat) (tot num kd : Nat) : Nat → Nat := fun j => if tot ≤ j ∧ j < tot + num then kd else K j
def strF (nx : Nat → Nat) (len : Nat) : Nat → Nat → Nat → Nat → (Nat → Nat) → (Nat × Nat) ⊕ (Nat × (Nat → Nat))
  | 0, p, _, _, _ => .inl (4, p)
  | k + 1, p, pc, tot, K => match pcP nx p pc tot with
    | .inl e => .inl e
    | .inr t => if t.2.2 = len then .inr (tot + t.1, layK K tot t.1 t.2.1) else if nx t.2.2 = 44 then strF nx len k (t.2.2 + 1) (pc + 1) (tot + t.1) (layK K tot t.1 t.2.1) else .inl (1, t.2.2)
theorem kdS_256 : kdS 256 = 4 := by decide
theorem numP_ok {nx : Nat → Nat} {len p : Nat} (hn : endN nx len) (h : isDg (nx p) = true) : p < (numP nx p).2 ∧ (numP nx p).2 ≤ len ∧ (numP nx p).2 ≤ p + 2 ∧ (numP nx p).1 ≤ 99 := by
  have d1 := isDg_d h
  have h1 := hn.lt (p := p) (by omega)
  unfold numP
  split
  · next h2 =>
    have d2 := isDg_d h2
    have h3 := hn.lt (p := p + 1) (by omega)
    refine ⟨?_, ?_, ?_, ?_⟩
    · show p < p + 2; omega
    · show p + 2 ≤ len; omega
    · show p + 2 ≤ p + 2; omega
    · show (nx p - 48) * 10 + (nx (p + 1) - 48) ≤ 99; omega
  · refine ⟨?_, ?_, ?_, ?_⟩
    · show p < p + 1; omega
    · show p + 1 ≤ len; omega
    · show p + 1 ≤ p + 2; omega
    · show nx p - 48 ≤ 99; omega
theorem pcP_r {nx : Nat → Nat} {len p pc tot num kd q : Nat} (hn : endN nx len) (h : pcP nx p pc tot = .inr (num, kd, q)) : isDg (nx p) = true ∧ pc ≠ 12 ∧ num = (numP nx p).1 ∧ num ≠ 0 ∧ kd = kdS (nx (numP nx p).2) ∧ kd < 4 ∧ tot + num ≤ 120 ∧ q = (numP nx p).2 + 1 ∧ q ≤ len := by
  unfold pcP at h
  by_cases h1 : isDg (nx p) = false
  · rw [if_pos h1] at h; cases h
  · rw [if_neg h1] at h
    by_cases h2 : pc = 12
    · rw [if_pos h2] at h; cases h
    · rw [if_neg h2] at h
      by_cases h3 : (numP nx p).1 = 0
      · rw [if_pos h3] at h; cases h
      · rw [if_neg h3] at h
        by_cases h4 : 4 ≤ kdS (nx (numP nx p).2)
        · rw [if_pos h4] at h; cases h
        · rw [if_neg h4] at h
          by_cases h5 : 120 < tot + (numP nx p).1
          · rw [if_pos h5] at h; cases h
          · rw [if_neg h5] at h
            cases h
            have h6 : (numP nx p).2 < len := hn.lt (fun e => by rw [e, kdS_256] at h4; omega)
            exact ⟨by cases hd : isDg (nx p) with
              | true => rfl
              | false => exact absurd hd h1, h2, rfl, h3, rfl, by omega, by omega, rfl, by omega⟩
theorem pcP_l {nx : Nat → Nat} {len p pc tot : Nat} {e : Nat × Nat} (hn : endN nx len) (hp : p ≤ len) (h : pcP nx p pc tot = .inl e) : 1 ≤ e.1 ∧ e.1 ≤ 9 ∧ e.2 ≤ len := by
  unfold pcP at h
  by_cases h1 : isDg (nx p) = false
  · rw [if_pos h1] at h; cases h; exact ⟨Nat.le_of_ble_eq_true rfl, Nat.le_of_ble_eq_true rfl, hp⟩
  · rw [if_neg h1] at h
    have hd : isDg (nx p) = true := by
      cases hd : isDg (nx p) with
      | true => rfl
      | false => exact absurd hd h1
    have ho := numP_ok hn hd
    by_cases h2 : pc = 12
    · rw [if_pos h2] at h; cases h; exact ⟨Nat.le_of_ble_eq_true rfl, Nat.le_of_ble_eq_true rfl, hp⟩
    · rw [if_neg h2] at h
      by_cases h3 : (numP nx p).1 = 0
      · rw [if_pos h3] at h; cases h; exact ⟨Nat.le_of_ble_eq_true rfl, Nat.le_of_ble_eq_true rfl, hp⟩
      · rw [if_neg h3] at h
        by_cases h4 : 4 ≤ kdS (nx (numP nx p).2)
        · rw [if_pos h4] at h; cases h; exact ⟨by show 1 ≤ 1; omega, by show 1 ≤ 9; omega, ho.2.1⟩
        · rw [if_neg h4] at h
          by_cases h5 : 120 < tot + (numP nx p).1
          · rw [if_pos h5] at h; cases h; exact ⟨Nat.le_of_ble_eq_true rfl, Nat.le_of_ble_eq_true rfl, hp⟩
          · rw [if_neg h5] at h
            cases h
theorem strF_l {nx : Nat → Nat} {len : Nat} (hn : endN nx len) (k : Nat) : ∀ (p pc tot : Nat) (K : Nat → Nat) (e : Nat × Nat), p ≤ len → strF nx len k p pc tot K = .inl e → 1 ≤ e.1 ∧ e.1 ≤ 9 ∧ e.2 ≤ len := by
  induction k with
  | zero =>
    intro p pc tot K e hp h
    cases h
    exact ⟨Nat.le_of_ble_eq_true rfl, Nat.le_of_ble_eq_true rfl, hp⟩
  | succ k ih =>
    intro p pc tot K e hp h
    unfold strF at h
    cases hz : pcP nx p pc tot with
    | inl e' =>
      rw [hz] at h
      cases h
      exact pcP_l hn hp hz
    | inr t =>
      obtain ⟨num, kd, q⟩ := t
      rw [hz] at h
      obtain ⟨g1, g2, g3, g4, g5, g6, g7, g8, g9⟩ := pcP_r hn hz
      have h' : (if q = len then (.inr (tot + num, layK K tot num kd) : (Nat × Nat) ⊕ (Nat × (Nat → Nat))) else if nx q = 44 then strF nx len k (q + 1) (pc + 1) (tot + num) (layK K tot num kd) else .inl (1, q)) = .inl e := h
      by_cases h1 : q = len
      · rw [if_pos h1] at h'; cases h'
      · rw [if_neg h1] at h'
        by_cases h2 : nx q = 44
        · rw [if_pos h2] at h'
          exact ih _ _ _ _ _ (by omega) h'
        · rw [if_neg h2] at h'
          cases h'
          exact ⟨by show 1 ≤ 1; omega, by show 1 ≤ 9; omega, g9⟩
theorem strF_r {nx : Nat → Nat} {len : Nat} (hn : endN nx len) (k : Nat) : ∀ (p pc tot : Nat) (K : Nat → Nat) (t : Nat × (Nat → Nat)), p ≤ len → (∀ j, j < tot → K j ≤ 3) → strF nx len k p pc tot K = .inr t → t.1 ≤ 120 ∧ 1 ≤ t.1 ∧ ∀ j, j < t.1 → t.2 j ≤ 3 := by
  induction k with
  | zero =>
    intro p pc tot K t hp hK h
    cases h
  | succ k ih =>
    intro p pc tot K t hp hK h
    unfold strF at h
    cases hz : pcP nx p pc tot with
    | inl e' =>
      rw [hz] at h
      cases h
    | inr t' =>
      obtain ⟨num, kd, q⟩ := t'
      rw [hz] at h
      obtain ⟨g1, g2, g3, g4, g5, g6, g7, g8, g9⟩ := pcP_r hn hz
      have hK2 : ∀ j, j < tot + num → layK K tot num kd j ≤ 3 := fun j hj => by
        unfold layK
        split
        · omega
        · exact hK j (by omega)
      have h' : (if q = len then (.inr (tot + num, layK K tot num kd) : (Nat × Nat) ⊕ (Nat × (Nat → Nat))) else if nx q = 44 then strF nx len k (q + 1) (pc + 1) (tot + num) (layK K tot num kd) else .inl (1, q)) = .inr t := h
      by_cases h1 : q = len
      · rw [if_pos h1] at h'
        cases h'
        exact ⟨g7, by show 1 ≤ tot + num; omega, hK2⟩
      · rw [if_neg h1] at h'
        by_cases h2 : nx q = 44
        · rw [if_pos h2] at h'
          have hq : q < len := hn.lt (by omega)
          exact ih _ _ _ _ _ (by omega) hK2 h'
        · rw [if_neg h2] at h'
          cases h'
/-! the class -/
theorem c_flt {d k q : Nat} {n : Nat} {a : Nat → Nat → Int32} {b : Nat → Nat → Int64} {r : Nat → Nat → Option Nat} : Den (d) 144 0 [.int (iN k), .int (iN q)] [] (zmMk n a b r) = some (some (.int (fltI k q)), (zmMk n a b r)) := b144_0
theorem c_strDg {d p len : Nat} {n : Nat} {a : Nat → Nat → Int32} {b : Nat → Nat → Int64} {r : Nat → Nat → Option Nat} {nx : Nat → Nat} (hn : endN nx len) (hb : ∀ j, j < len → a 15 j = iN (nx j)) (hx : ∀ j, j < len → nx j < 256) (hl : len ≤ 240) (hp : p ≤ len) : Den (d+1) 79 0 [.ref 15, .int (iN p), .int (iN len)] [] (zmMk n a b r) = some (some (.int (bI (isDg (nx p)))), (zmMk n a b r)) := by
  rw [b79_0]
  by_cases h : p < len
  · have h2 := hx p h
    rw [if_pos (lt_p h (by omega)), b79_5, c_item lay15 (show 15 ≠ 0 by omega) (show 15 < 147 by omega) (show 260 < 2147483648 by omega), itV_n (show p < 260 by omega) (show 260 < 2147483648 by omega), hb p h]
    simp only [Option.bind_some, Option.toList_some, Option.toList_none, List.cons_append, List.nil_append, true_or, or_true, if_true, bI_if]
    rw [b79_10, c_within, inI_n (by omega) (by omega) (by omega)]
    simp only [Option.bind_some, Option.toList_some, Option.toList_none, List.cons_append, List.nil_append, true_or, or_true, if_true, bI_if]
    rw [b79_17, bI_if]
    have e : (decide (48 ≤ nx p) && decide (nx p ≤ 57)) = isDg (nx p) := by
      by_cases hd : 48 ≤ nx p ∧ nx p ≤ 57
      · rw [decide_eq_true hd.1, decide_eq_true hd.2, isDg_of hd.1 hd.2]; rfl
      · rw [isDg_no hd]
        by_cases h48 : 48 ≤ nx p
        · rw [decide_eq_true h48, decide_eq_false (show ¬ nx p ≤ 57 by omega)]; rfl
        · rw [decide_eq_false h48]; rfl
    rw [e]
    cases isDg (nx p) with
    | true => rw [if_pos rfl, b79_20, b79_25, if_pos (Or.inr rfl)]; rfl
    | false => rw [if_neg (by decide), b79_24, b79_25, if_pos (Or.inl rfl)]; rfl
  · rw [if_neg (lt_n h (by omega)), b79_24, b79_25, if_pos (Or.inl rfl), hn p (by omega), show isDg 256 = false by decide]
    rfl
theorem lay26 : zmLay 26 = (20, 120) := by decide +kernel
theorem c_lay {d tot num kd : Nat} {n : Nat} {b : Nat → Nat → Int64} {r : Nat → Nat → Option Nat} {K : Nat → Nat} (ht : tot + num ≤ 120) (k : Nat) : ∀ (i : Nat) (a : Nat → Nat → Int32), i + k = num → (∀ j, j < tot + i → a 26 j = iN (layK K tot num kd j)) → ∃ a', Den (d+1) 80 3 [.ref 24,.int (iN tot),.int (iN num),.int (iN kd),.int (iN i)] [] (zmMk n a b r) = some (none, zmMk n a' b r) ∧ (∀ j, j < tot + num → a' 26 j = iN (layK K tot num kd j)) ∧ ∀ q, q ≠ 26 → a' q = a q := by
  induction k with
  | zero =>
    intro i a hi ha
    obtain rfl : i = num := by omega
    refine ⟨a, ?_, ha, fun _ _ => rfl⟩
    rw [b80_3, if_neg (lt_n (by omega) (by omega)), b80_27]
  | succ k ih =>
    intro i a hi ha
    obtain ⟨a', e1, h1, o1⟩ := ih (i + 1) (uI a 26 (tot + i) (iN kd)) (by omega) (fun j hj => by
      rw [uI_at]
      by_cases h : j = tot + i
      · rw [if_pos ⟨rfl, h⟩]
        unfold layK
        rw [if_pos (by omega)]
      · rw [if_neg (fun z => h z.2)]
        exact ha j (by omega))
    refine ⟨a', ?_, h1, fun q hq => by
      rw [o1 q hq, uI_ne hq]⟩
    rw [b80_3, if_pos (lt_p (by omega) (by omega)), b80_9, n_add, c_put lay26 (by decide) (by decide) (by decide), puV_n (show tot + i < 120 by omega) (by decide)]
    simp only [Option.bind_some, Option.toList_some, Option.toList_none, List.cons_append, List.nil_append, true_or, or_true, if_true, bI_if]
    rw [b80_21, n_add]
    exact e1
theorem c_accL {d T : Nat} {n : Nat} {b : Nat → Nat → Int64} {r : Nat → Nat → Option Nat} {K : Nat → Nat} (hT : 1 ≤ T ∧ T ≤ 120) (k : Nat) : ∀ (y : Nat) (u3 : Value) (a : Nat → Nat → Int32), y + k = 121 → (∀ j, j < T → a 26 j = iN (K j)) → (∀ z, z < y → a 25 z = iN (kyF T K z)) → ∃ a', Den (d+1) 81 7 [.ref 24,.int (iN T),.int (iN y),u3] [] (zmMk n a b r) = some (some (.int (iN T)), zmMk n a' b r) ∧ (∀ z, z ≤ 120 → a' 25 z = iN (kyF T K z)) ∧ ∀ q, q ≠ 25 → a' q = a q := by
  induction k with
  | zero =>
    intro y u3 a hy ha hk
    obtain rfl : y = 121 := by omega
    refine ⟨a, ?_, fun z hz => hk z (by omega), fun _ _ => rfl⟩
    rw [b81_7, if_pos (lt_p (by omega) (by omega)), b81_51]
  | succ k ih =>
    intro y u3 a hy ha hk
    have hmx : (if iN y < iN 1 then iN 1 else iN y) = iN (if y = 0 then 1 else y) := by
      by_cases h : y = 0
      · rw [if_pos h, if_pos (lt_p (by omega) (by omega))]
      · rw [if_neg h, if_neg (lt_n (by omega) (by omega))]
    have hky : iN (kyF T K y) = if T < (if y = 0 then 1 else y) then iN 0 else iN (K (T - (if y = 0 then 1 else y))) := by
      by_cases h : y = 0
      · rw [show (if y = 0 then 1 else y) = 1 from if_pos h]
        unfold kyF
        rw [if_neg (show ¬ (T = 0 ∨ T < y) by omega), if_pos h, if_neg (show ¬ T < 1 by omega)]
      · rw [show (if y = 0 then 1 else y) = y from if_neg h]
        unfold kyF
        by_cases h2 : T < y
        · rw [if_pos (Or.inr h2), if_pos h2]
        · rw [if_neg (show ¬ (T = 0 ∨ T < y) by omega), if_neg h, if_neg h2]
    generalize hM : (if y = 0 then 1 else y) = M at hmx hky
    have hM2 : M ≤ 120 := by rw [← hM]; split <;> omega
    obtain ⟨a', e1, h1, o1⟩ := ih (y + 1) (.int (iN T - iN M)) (uI a 25 y (iN (kyF T K y))) (by omega) (fun j hj => by rw [uI_ne (by omega)]; exact ha j hj) (fun z hz => by
      rw [uI_at]
      by_cases h : z = y
      · rw [if_pos ⟨rfl, h⟩, h]
      · rw [if_neg (fun e => h e.2)]
        exact hk z (by omega))
    refine ⟨a', ?_, h1, fun q hq => by rw [o1 q hq, uI_ne hq]⟩
    rw [b81_7, if_neg (lt_n (by omega) (by omega)), b81_13, c_max]
    simp only [Option.bind_some, Option.toList_some, Option.toList_none, List.cons_append, List.nil_append, true_or, or_true, if_true, bI_if]
    rw [hmx, b81_19]
    have hneg := n_sub_neg (i := T) (j := M) (by omega) (by omega)
    by_cases h : T < M
    · rw [if_pos h] at hky
      rw [if_pos (by rw [hneg]; exact h), b81_30, b81_42, c_put lay25 (by decide) (by decide) (by decide), puV_n (show y < 121 by omega) (by decide)]
      simp only [Option.bind_some, Option.toList_some, Option.toList_none, List.cons_append, List.nil_append, true_or, or_true, if_true, bI_if]
      rw [b81_45, n_add, ← hky]
      exact e1
    · rw [if_neg h] at hky
      rw [if_neg (by rw [hneg]; exact h), b81_34, n_sub (by omega), c_item lay26 (show 26 ≠ 0 by omega) (show 26 < 147 by omega) (show 120 < 2147483648 by omega), itV_n (show T - M < 120 by
        have : 1 ≤ M := by rw [← hM]; split <;> omega
        omega) (show 120 < 2147483648 by omega), ha (T - M) (by
        have : 1 ≤ M := by rw [← hM]; split <;> omega
        omega)]
      simp only [Option.bind_some, Option.toList_some, Option.toList_none, List.cons_append, List.nil_append, true_or, or_true, if_true, bI_if]
      rw [b81_42, c_put lay25 (by decide) (by decide) (by decide), puV_n (show y < 121 by omega) (by decide)]
      simp only [Option.bind_some, Option.toList_some, Option.toList_none, List.cons_append, List.nil_append, true_or, or_true, if_true, bI_if]
      rw [b81_45, n_add, ← hky]
      rw [n_sub (by omega)] at e1
      exact e1
def StrR (n : Nat) (b : Nat → Nat → Int64) (r : Nat → Nat → Option Nat) (a : Nat → Nat → Int32) (z : (Nat × Nat) ⊕ (Nat × (Nat → Nat))) (X : Option (Option Value × zmH)) : Prop := match z with
  | .inl e => ∃ a', X = some (some (.int (fltI e.1 e.2)), zmMk n a' b r) ∧ ∀ q, q ≠ 26 → a' q = a q
  | .inr t => ∃ a', X = some (some (.int (iN t.1)), zmMk n a' b r) ∧ a' 24 0 = iN t.1 ∧ (∀ y, y ≤ 120 → a' 25 y = iN (kyF t.1 t.2 y)) ∧ ∀ q, q ≠ 24 → q ≠ 25 → q ≠ 26 → a' q = a q
theorem StrR.fr {n : Nat} {b : Nat → Nat → Int64} {r : Nat → Nat → Option Nat} {a a1 : Nat → Nat → Int32} {z : (Nat × Nat) ⊕ (Nat × (Nat → Nat))} {X : Option (Option Value × zmH)} (h : StrR n b r a1 z X) (o : ∀ q, q ≠ 26 → a1 q = a q) : StrR n b r a z X := by
  cases z with
  | inl e =>
    obtain ⟨a', h1, h2⟩ := h
    exact ⟨a', h1, fun q hq => (h2 q hq).trans (o q hq)⟩
  | inr t =>
    obtain ⟨a', h1, h2, h3, h4⟩ := h
    exact ⟨a', h1, h2, h3, fun q q1 q2 q3 => (h4 q q1 q2 q3).trans (o q q3)⟩
theorem c_strL {d len n : Nat} {b : Nat → Nat → Int64} {r : Nat → Nat → Option Nat} {nx : Nat → Nat} (hn : endN nx len) (hx : ∀ j, j < len → nx j < 256) (hl : len ≤ 240) (k : Nat) : ∀ (p pc tot : Nat) (K : Nat → Nat) (u6 u7 u8 : Value) (a : Nat → Nat → Int32), pc + k = 13 → pc ≤ 12 → p ≤ len → tot ≤ 120 → CstC a → (∀ j, j < len → a 15 j = iN (nx j)) → (∀ j, j < tot → a 26 j = iN (K j)) → StrR n b r a (strF nx len k p pc tot K) (Den (d+7) 78 8 [.ref 24,.ref 15,.int (iN len),.int (iN tot),.int (iN p),.int (iN pc),u6,u7,u8] [] (zmMk n a b r)) := by
  induction k with
  | zero => intro p pc tot K u6 u7 u8 a hk hpc; omega
  | succ k ih =>
    intro p pc tot K u6 u7 u8 a hk hpc hp ht hC hb hK
    have it15 : ∀ (d' q : Nat), q < len → Den (d') 145 0 [.ref 15, .int (iN q)] [] (zmMk n a b r) = some (some (.int (iN (nx q))), (zmMk n a b r)) := fun d' q hq => by
      rw [c_item lay15 (show 15 ≠ 0 by omega) (show 15 < 147 by omega) (show 260 < 2147483648 by omega), itV_n (show q < 260 by omega) (show 260 < 2147483648 by omega), hb q hq]
    have eD : ∀ q, q ≤ len → Den (d+6) 79 0 [.ref 15, .int (iN q), .int (iN len)] [] (zmMk n a b r) = some (some (.int (bI (isDg (nx q)))), (zmMk n a b r)) := fun q hq => c_strDg (d := d+5) hn hb hx hl hq
    rw [b78_8, if_neg (lt_n (by omega) (by omega)), b78_15, eD p hp]
    simp only [Option.bind_some, Option.toList_some, Option.toList_none, List.cons_append, List.nil_append, true_or, or_true, if_true, bI_if]
    rw [b78_26, bI_if]
    unfold strF
    by_cases h1 : isDg (nx p) = true
    · rw [if_pos h1, b78_36]
      have d1 := isDg_d h1
      have hpl := hn.lt (p := p) (by omega)
      obtain ⟨o1, o2, o3, o4⟩ := numP_ok hn h1
      by_cases h2 : pc = 12
      · have hz : pcP nx p pc tot = .inl (4, p) := by unfold pcP; rw [if_neg (by rw [h1]; decide), if_pos h2]
        rw [hz, if_pos (show iN pc = iN 12 by rw [h2]), b78_43, c_flt]
        simp only [Option.bind_some, Option.toList_some, Option.toList_none, List.cons_append, List.nil_append, true_or, or_true, if_true, bI_if]
        rw [b78_49]
        exact ⟨a, rfl, fun _ _ => rfl⟩
      · rw [if_neg (show ¬ iN pc = iN 12 by rw [n_eq (by omega) (by omega)]; exact h2), b78_50, it15 _ p hpl]
        simp only [Option.bind_some, Option.toList_some, Option.toList_none, List.cons_append, List.nil_append, true_or, or_true, if_true, bI_if]
        rw [b78_56, n_add, n_sub d1.1, eD (p + 1) (by omega)]
        simp only [Option.bind_some, Option.toList_some, Option.toList_none, List.cons_append, List.nil_append, true_or, or_true, if_true, bI_if]
        rw [b78_71, bI_if]
        have hnum : (if isDg (nx (p + 1)) = true then Den (d+7) 78 74 [.ref 24,.ref 15,.int (iN len),.int (iN tot),.int (iN (p + 1)),.int (iN pc),.int (iN p),.int (iN (nx p - 48)),u8] [] (zmMk n a b r) else Den (d+7) 78 94 [.ref 24,.ref 15,.int (iN len),.int (iN tot),.int (iN (p + 1)),.int (iN pc),.int (iN p),.int (iN (nx p - 48)),u8] [] (zmMk n a b r)) = Den (d+7) 78 94 [.ref 24,.ref 15,.int (iN len),.int (iN tot),.int (iN (numP nx p).2),.int (iN pc),.int (iN p),.int (iN (numP nx p).1),u8] [] (zmMk n a b r) := by
          unfold numP
          by_cases h3 : isDg (nx (p + 1)) = true
          · have d2 := isDg_d h3
            have hpl2 := hn.lt (p := p + 1) (by omega)
            rw [if_pos h3, if_pos h3, b78_74, it15 _ (p + 1) hpl2]
            simp only [Option.bind_some, Option.toList_some, Option.toList_none, List.cons_append, List.nil_append, true_or, or_true, if_true, bI_if]
            rw [b78_85, n_mul, n_add, n_add, n_sub (by omega), show (nx p - 48) * 10 + nx (p + 1) - 48 = (nx p - 48) * 10 + (nx (p + 1) - 48) by omega]
          · rw [if_neg h3, if_neg h3]
        rw [hnum, b78_94]
        by_cases h3 : (numP nx p).1 = 0
        · have hz : pcP nx p pc tot = .inl (3, p) := by unfold pcP; rw [if_neg (by rw [h1]; decide), if_neg h2, if_pos h3]
          rw [hz, if_pos (show iN (numP nx p).1 = iN 0 by rw [h3]), b78_99, c_flt]
          simp only [Option.bind_some, Option.toList_some, Option.toList_none, List.cons_append, List.nil_append, true_or, or_true, if_true, bI_if]
          rw [b78_105]
          exact ⟨a, rfl, fun _ _ => rfl⟩
        · rw [if_neg (show ¬ iN (numP nx p).1 = iN 0 by rw [n_eq (by omega) (by omega)]; exact h3), b78_106]
          have hkind : (if iN (numP nx p).2 < iN len then Den (d+7) 78 112 [.ref 24,.ref 15,.int (iN len),.int (iN tot),.int (iN (numP nx p).2),.int (iN pc),.int (iN p),.int (iN (numP nx p).1),u8] [] (zmMk n a b r) else Den (d+7) 78 127 [.ref 24,.ref 15,.int (iN len),.int (iN tot),.int (iN (numP nx p).2),.int (iN pc),.int (iN p),.int (iN (numP nx p).1),u8] [] (zmMk n a b r)) = Den (d+7) 78 128 [.ref 24,.ref 15,.int (iN len),.int (iN tot),.int (iN (numP nx p).2),.int (iN pc),.int (iN p),.int (iN (numP nx p).1),u8] [.int (if kdS (nx (numP nx p).2) < 4 then iN (kdS (nx (numP nx p).2)) else -1)] (zmMk n a b r) := by
            by_cases h4 : (numP nx p).2 < len
            · have hc := hx _ h4
              have ek : Den (d+6) 277 0 [.ref 5, .int (iN (nx (numP nx p).2))] [] (zmMk n a b r) = _ := c_kind (d := d+2) hC hc
              rw [if_pos (lt_p h4 (by omega)), b78_112, it15 _ _ h4]
              simp only [Option.bind_some, Option.toList_some, Option.toList_none, List.cons_append, List.nil_append, true_or, or_true, if_true, bI_if]
              rw [b78_120, ch_of (by omega), ek]
              simp only [Option.bind_some, Option.toList_some, Option.toList_none, List.cons_append, List.nil_append, true_or, or_true, if_true, bI_if]
              rw [b78_124]
            · rw [if_neg (lt_n h4 (by omega)), b78_127, hn _ (by omega), kdS_256, if_neg (by omega)]
          rw [hkind, b78_128]
          by_cases h4 : 4 ≤ kdS (nx (numP nx p).2)
          · have hz : pcP nx p pc tot = .inl (1, (numP nx p).2) := by unfold pcP; rw [if_neg (by rw [h1]; decide), if_neg h2, if_neg h3, if_pos h4]
            rw [hz, if_neg (show ¬ kdS (nx (numP nx p).2) < 4 by omega), if_pos (by decide +kernel), b78_135, c_flt]
            simp only [Option.bind_some, Option.toList_some, Option.toList_none, List.cons_append, List.nil_append, true_or, or_true, if_true, bI_if]
            rw [b78_141]
            exact ⟨a, rfl, fun _ _ => rfl⟩
          · rw [if_pos (show kdS (nx (numP nx p).2) < 4 by omega), if_neg (ng (by omega)), b78_142, n_add]
            by_cases h5 : 120 < tot + (numP nx p).1
            · have hz : pcP nx p pc tot = .inl (6, p) := by unfold pcP; rw [if_neg (by rw [h1]; decide), if_neg h2, if_neg h3, if_neg h4, if_pos h5]
              rw [hz, if_pos (lt_p h5 (by omega)), b78_151, c_flt]
              simp only [Option.bind_some, Option.toList_some, Option.toList_none, List.cons_append, List.nil_append, true_or, or_true, if_true, bI_if]
              rw [b78_158]
              exact ⟨a, rfl, fun _ _ => rfl⟩
            · have hz : pcP nx p pc tot = .inr ((numP nx p).1, kdS (nx (numP nx p).2), (numP nx p).2 + 1) := by unfold pcP; rw [if_neg (by rw [h1]; decide), if_neg h2, if_neg h3, if_neg h4, if_neg h5]
              obtain ⟨-, -, -, -, -, g6, g7, -, g9⟩ := pcP_r hn hz
              rw [hz]
              generalize (numP nx p).1 = num at *
              generalize (numP nx p).2 = q at *
              generalize hkd : kdS (nx q) = kd at *
              show StrR n b r a (if q + 1 = len then (.inr (tot + num, layK K tot num kd) : (Nat × Nat) ⊕ (Nat × (Nat → Nat))) else if nx (q + 1) = 44 then strF nx len k (q + 1 + 1) (pc + 1) (tot + num) (layK K tot num kd) else .inl (1, q + 1)) _
              obtain ⟨a1, e1, w1, f1⟩ := c_lay (d := d+5) (n := n) (b := b) (r := r) (K := K) (kd := kd) g7 num 0 a (by omega) (fun j hj => by
                unfold layK
                rw [if_neg (by omega)]
                exact hK j (by omega))
              have e1' : Den (d+6) 80 0 [.ref 24, .int (iN tot), .int (iN num), .int (iN kd), zmJ] [] (zmMk n a b r) = some (none, zmMk n a1 b r) := by rw [b80_0]; exact e1
              have it15' : ∀ (d' q : Nat), q < len → Den (d') 145 0 [.ref 15, .int (iN q)] [] (zmMk n a1 b r) = some (some (.int (iN (nx q))), zmMk n a1 b r) := fun d' q hq => by
                rw [c_item lay15 (show 15 ≠ 0 by omega) (show 15 < 147 by omega) (show 260 < 2147483648 by omega), itV_n (show q < 260 by omega) (show 260 < 2147483648 by omega), f1 15 (by omega), hb q hq]
              rw [if_neg (lt_n h5 (by omega)), b78_159, e1']
              simp only [Option.bind_some, Option.toList_some, Option.toList_none, List.cons_append, List.nil_append, true_or, or_true, if_true, bI_if]
              rw [b78_168, n_add, n_add]
              by_cases h6 : q + 1 = len
              · obtain ⟨a2, e2, w2, f2⟩ := c_accL (d := d+5) (n := n) (b := b) (r := r) (T := tot + num) (K := layK K tot num kd) ⟨by omega, g7⟩ 121 0 zmJ (uI a1 24 0 (iN (tot + num))) (by omega) (fun j hj => by rw [uI_ne (by omega)]; exact w1 j hj) (fun z hz => absurd hz (Nat.not_lt_zero z))
                have e2' : Den (d+6) 81 0 [.ref 24, .int (iN (tot + num)), zmJ, zmJ] [] (zmMk n a1 b r) = some (some (.int (iN (tot + num))), zmMk n a2 b r) := by rw [b81_0]; exact e2
                rw [if_pos h6, if_pos (show iN (q + 1) = iN len by rw [h6]), b78_182, e2']
                simp only [Option.bind_some, Option.toList_some, Option.toList_none, List.cons_append, List.nil_append, true_or, or_true, if_true, bI_if]
                rw [b78_187]
                exact ⟨a2, rfl, by rw [f2 24 (by omega), uI_self], w2, fun q q1 q2 q3 => by rw [f2 q q2, uI_ne q1]; exact f1 q q3⟩
              · have hq : q + 1 < len := by omega
                have hc := hx _ hq
                rw [if_neg h6, if_neg (show ¬ iN (q + 1) = iN len by rw [n_eq (by omega) (by omega)]; exact h6), b78_188, it15' _ _ hq]
                simp only [Option.bind_some, Option.toList_some, Option.toList_none, List.cons_append, List.nil_append, true_or, or_true, if_true, bI_if]
                rw [b78_194]
                by_cases h7 : nx (q + 1) = 44
                · rw [if_pos h7, if_pos (show iN (nx (q + 1)) = iN 44 by rw [h7]), b78_206, n_add, n_add]
                  exact (ih (q + 1 + 1) (pc + 1) (tot + num) (layK K tot num kd) _ _ _ a1 (by omega) (by omega) (by omega) g7 (hC.ag (fun k hk => f1 k (by omega))) (fun j hj => by rw [f1 15 (by omega)]; exact hb j hj) w1).fr f1
                · rw [if_neg h7, if_neg (show ¬ iN (nx (q + 1)) = iN 44 by rw [n_eq (by omega) (by omega)]; exact h7), b78_199, c_flt]
                  simp only [Option.bind_some, Option.toList_some, Option.toList_none, List.cons_append, List.nil_append, true_or, or_true, if_true, bI_if]
                  rw [b78_205]
                  exact ⟨a1, rfl, f1⟩
    · have h1' : isDg (nx p) = false := by
        cases hd : isDg (nx p) with
        | true => exact absurd hd h1
        | false => rfl
      have hz : pcP nx p pc tot = .inl (1, p) := by unfold pcP; rw [if_pos h1']
      rw [hz, if_neg h1, b78_29, c_flt]
      simp only [Option.bind_some, Option.toList_some, Option.toList_none, List.cons_append, List.nil_append, true_or, or_true, if_true, bI_if]
      rw [b78_35]
      exact ⟨a, rfl, fun _ _ => rfl⟩
