/-! ===== keep, undo ===== -/
/-- a row of ints copied -/
def cpY (a : Nat → Nat → Int32) (s t ln : Nat) : Nat → Nat → Int32 := fun k j => if k = t ∧ 0 ≤ j ∧ j < 0 + ln then a s (0 + (j - 0)) else a k j
theorem cpY_at {a : Nat → Nat → Int32} {s t ln j : Nat} (h : j < ln) : cpY a s t ln t j = a s j := by
  unfold cpY
  rw [if_pos ⟨rfl, by omega, by omega⟩, Nat.zero_add, Nat.sub_zero]
theorem cpY_ne {a : Nat → Nat → Int32} {s t ln k : Nat} (h : k ≠ t) : cpY a s t ln k = a k := by
  funext j
  unfold cpY
  rw [if_neg (fun z => h z.1)]
def cpS (a : Nat → Nat → Int32) (s o : Nat) : Nat → Nat → Int32 := cpY (cpY (cpY (uI (uI a s 0 (a o 0)) s 1 ((uI a s 0 (a o 0)) o 1)) (o + 1) (s + 1) 30) (o + 2) (s + 2) 40) (o + 3) (s + 3) 4
theorem cpS_ne {a : Nat → Nat → Int32} {s o k : Nat} (h : ¬ (s ≤ k ∧ k ≤ s + 3)) : cpS a s o k = a k := by
  unfold cpS
  rw [cpY_ne (by omega), cpY_ne (by omega), cpY_ne (by omega), uI_ne (by omega), uI_ne (by omega)]
theorem cpS_sto {a : Nat → Nat → Int32} {s o gs go : Nat} {σ σ' : SV} (hd : s + 3 < o ∨ o + 3 < s) (h : StoC a o go σ) (e0 : σ' gs 0 = σ go 0) (e1 : σ' gs 1 = σ go 1) (er : ∀ i, 1 ≤ i → i ≤ 9 → σ' (gs + i) = σ (go + i)) : StoC (cpS a s o) s gs σ' := by
  obtain ⟨y1, y2, y3, y4, y5⟩ := h
  have b1 : ∀ j, j < 30 → cpS a s o (s + 1) j = a (o + 1) j := fun j hj => by
    unfold cpS
    rw [cpY_ne (by omega), cpY_ne (by omega), cpY_at hj, uI_ne (by omega), uI_ne (by omega)]
  have b2 : ∀ j, j < 40 → cpS a s o (s + 2) j = a (o + 2) j := fun j hj => by
    unfold cpS
    rw [cpY_ne (by omega), cpY_at hj, cpY_ne (by omega), uI_ne (by omega), uI_ne (by omega)]
  have b3 : ∀ j, j < 4 → cpS a s o (s + 3) j = a (o + 3) j := fun j hj => by
    unfold cpS
    rw [cpY_at hj, cpY_ne (by omega), cpY_ne (by omega), uI_ne (by omega), uI_ne (by omega)]
  refine ⟨?_, ?_, fun i hi => ?_, fun i hi => ?_, fun j hj => ?_⟩
  · unfold cpS
    rw [cpY_ne (by omega), cpY_ne (by omega), cpY_ne (by omega), uI_nj (by omega), uI_self, e0]
    exact y1
  · unfold cpS
    rw [cpY_ne (by omega), cpY_ne (by omega), cpY_ne (by omega), uI_self, uI_ne (by omega), e1]
    exact y2
  · rw [b1 i (by omega), b1 (10 + i) (by omega), b1 (20 + i) (by omega), er 1 (by omega) (by omega), er 2 (by omega) (by omega), er 3 (by omega) (by omega)]
    exact y3 i hi
  · rw [b2 (i * 5) (by omega), b2 (i * 5 + 1) (by omega), b2 (i * 5 + 2) (by omega), b2 (i * 5 + 3) (by omega), b2 (i * 5 + 4) (by omega), er 4 (by omega) (by omega), er 5 (by omega) (by omega), er 6 (by omega) (by omega), er 7 (by omega) (by omega), er 8 (by omega) (by omega)]
    exact y4 i hi
  · rw [b3 j hj, er 9 (by omega) (by omega)]
    exact y5 j hj
theorem c_copyK {d : Nat} {n : Nat} {a : Nat → Nat → Int32} {b : Nat → Nat → Int64} {r : Nat → Nat → Option Nat} : Den (d) 67 0 [.ref 20, .ref 16] [] (zmMk n a b r) = some (none, zmMk n (cpS a 20 16) b r) := by
  have e0 : Den (d) 67 0 [.ref 20, .ref 16] [] (zmMk n a b r) = Den d 67 16 [.ref 20,.ref 16] [] (zmMk n (uI (uI a 20 0 (a 16 0)) 20 1 ((uI a 20 0 (a 16 0)) 16 1)) b r) := Den_blk [zm0 (.aload_n 0) 1, zm0 (.aload_n 1) 1, zmr (.getfield 9) 3 8 0 0 127 0, zmr (.putfield 9) 3 8 0 0 127 0, zm0 (.aload_n 0) 1, zm0 (.aload_n 1) 1, zmr (.getfield 15) 3 8 1 0 131 0, zmr (.putfield 15) 3 8 1 0 131 0] (by decide +kernel) rfl
  have e1 : ∀ f : Nat → Nat → Int32, Den d 67 16 [.ref 20,.ref 16] [] (zmMk n f b r) = Den d 67 34 [.ref 20,.ref 16] [] (zmMk n (cpY f 17 21 30) b r) := fun f => (Den_blk [zm0 (.aload_n 1) 1, zmr (.getfield 18) 3 8 2 2 133 0, zmi (.iconst 0) 1 0, zm0 (.aload_n 0) 1, zmr (.getfield 18) 3 8 2 2 133 0, zmi (.iconst 0) 1 0, zm0 (.aload_n 0) 1, zmr (.getfield 18) 3 8 2 2 133 0, zm0 (.arraylength) 1] (pc' := 31) (L' := [.ref 20,.ref 16]) (st' := [.int (iN 30), .int (iN 0), .ref 21, .int (iN 0), .ref 17]) (x' := zmMk n f b r) (by decide +kernel) rfl).trans ((Den_if1 (zmr (.invokestatic 28) 3 4 0 0 1154 0) (c := 14 ≤ 17 ∧ 14 ≤ 21 ∧ zmKd 17 (zmMk n f b r) = 20 ∧ zmKd 21 (zmMk n f b r) = 20 ∧ 17 ≠ 21 ∧ iN 0 = 0 ∧ iN 0 = 0 ∧ iN 30 = Int32.ofNat (zmLay 17).2 ∧ (zmLay 17).2 = (zmLay 21).2 ∧ zmLow [] = true) (pc' := 34) (L' := [.ref 20,.ref 16]) (st' := []) (x' := zmMk n (cpY f 17 21 30) b r) (by decide +kernel) rfl).trans (if_pos ⟨by omega, by omega, rfl, rfl, by omega, rfl, rfl, rfl, rfl, rfl⟩))
  have e2 : ∀ f : Nat → Nat → Int32, Den d 67 34 [.ref 20,.ref 16] [] (zmMk n f b r) = Den d 67 52 [.ref 20,.ref 16] [] (zmMk n (cpY f 18 22 40) b r) := fun f => (Den_blk [zm0 (.aload_n 1) 1, zmr (.getfield 22) 3 8 3 2 134 0, zmi (.iconst 0) 1 0, zm0 (.aload_n 0) 1, zmr (.getfield 22) 3 8 3 2 134 0, zmi (.iconst 0) 1 0, zm0 (.aload_n 0) 1, zmr (.getfield 22) 3 8 3 2 134 0, zm0 (.arraylength) 1] (pc' := 49) (L' := [.ref 20,.ref 16]) (st' := [.int (iN 40), .int (iN 0), .ref 22, .int (iN 0), .ref 18]) (x' := zmMk n f b r) (by decide +kernel) rfl).trans ((Den_if1 (zmr (.invokestatic 28) 3 4 0 0 1154 0) (c := 14 ≤ 18 ∧ 14 ≤ 22 ∧ zmKd 18 (zmMk n f b r) = 20 ∧ zmKd 22 (zmMk n f b r) = 20 ∧ 18 ≠ 22 ∧ iN 0 = 0 ∧ iN 0 = 0 ∧ iN 40 = Int32.ofNat (zmLay 18).2 ∧ (zmLay 18).2 = (zmLay 22).2 ∧ zmLow [] = true) (pc' := 52) (L' := [.ref 20,.ref 16]) (st' := []) (x' := zmMk n (cpY f 18 22 40) b r) (by decide +kernel) rfl).trans (if_pos ⟨by omega, by omega, rfl, rfl, by omega, rfl, rfl, rfl, rfl, rfl⟩))
  have e3 : ∀ f : Nat → Nat → Int32, Den d 67 52 [.ref 20,.ref 16] [] (zmMk n f b r) = Den d 67 70 [.ref 20,.ref 16] [] (zmMk n (cpY f 19 23 4) b r) := fun f => (Den_blk [zm0 (.aload_n 1) 1, zmr (.getfield 25) 3 8 4 2 135 0, zmi (.iconst 0) 1 0, zm0 (.aload_n 0) 1, zmr (.getfield 25) 3 8 4 2 135 0, zmi (.iconst 0) 1 0, zm0 (.aload_n 0) 1, zmr (.getfield 25) 3 8 4 2 135 0, zm0 (.arraylength) 1] (pc' := 67) (L' := [.ref 20,.ref 16]) (st' := [.int (iN 4), .int (iN 0), .ref 23, .int (iN 0), .ref 19]) (x' := zmMk n f b r) (by decide +kernel) rfl).trans ((Den_if1 (zmr (.invokestatic 28) 3 4 0 0 1154 0) (c := 14 ≤ 19 ∧ 14 ≤ 23 ∧ zmKd 19 (zmMk n f b r) = 20 ∧ zmKd 23 (zmMk n f b r) = 20 ∧ 19 ≠ 23 ∧ iN 0 = 0 ∧ iN 0 = 0 ∧ iN 4 = Int32.ofNat (zmLay 19).2 ∧ (zmLay 19).2 = (zmLay 23).2 ∧ zmLow [] = true) (pc' := 70) (L' := [.ref 20,.ref 16]) (st' := []) (x' := zmMk n (cpY f 19 23 4) b r) (by decide +kernel) rfl).trans (if_pos ⟨by omega, by omega, rfl, rfl, by omega, rfl, rfl, rfl, rfl, rfl⟩))
  rw [e0, e1, e2, e3]
  exact Den_retE (zm0 (.return_) 1) (by decide +kernel) rfl
theorem c_copyU {d : Nat} {n : Nat} {a : Nat → Nat → Int32} {b : Nat → Nat → Int64} {r : Nat → Nat → Option Nat} : Den (d) 67 0 [.ref 16, .ref 20] [] (zmMk n a b r) = some (none, zmMk n (cpS a 16 20) b r) := by
  have e0 : Den (d) 67 0 [.ref 16, .ref 20] [] (zmMk n a b r) = Den d 67 16 [.ref 16,.ref 20] [] (zmMk n (uI (uI a 16 0 (a 20 0)) 16 1 ((uI a 16 0 (a 20 0)) 20 1)) b r) := Den_blk [zm0 (.aload_n 0) 1, zm0 (.aload_n 1) 1, zmr (.getfield 9) 3 8 0 0 127 0, zmr (.putfield 9) 3 8 0 0 127 0, zm0 (.aload_n 0) 1, zm0 (.aload_n 1) 1, zmr (.getfield 15) 3 8 1 0 131 0, zmr (.putfield 15) 3 8 1 0 131 0] (by decide +kernel) rfl
  have e1 : ∀ f : Nat → Nat → Int32, Den d 67 16 [.ref 16,.ref 20] [] (zmMk n f b r) = Den d 67 34 [.ref 16,.ref 20] [] (zmMk n (cpY f 21 17 30) b r) := fun f => (Den_blk [zm0 (.aload_n 1) 1, zmr (.getfield 18) 3 8 2 2 133 0, zmi (.iconst 0) 1 0, zm0 (.aload_n 0) 1, zmr (.getfield 18) 3 8 2 2 133 0, zmi (.iconst 0) 1 0, zm0 (.aload_n 0) 1, zmr (.getfield 18) 3 8 2 2 133 0, zm0 (.arraylength) 1] (pc' := 31) (L' := [.ref 16,.ref 20]) (st' := [.int (iN 30), .int (iN 0), .ref 17, .int (iN 0), .ref 21]) (x' := zmMk n f b r) (by decide +kernel) rfl).trans ((Den_if1 (zmr (.invokestatic 28) 3 4 0 0 1154 0) (c := 14 ≤ 21 ∧ 14 ≤ 17 ∧ zmKd 21 (zmMk n f b r) = 20 ∧ zmKd 17 (zmMk n f b r) = 20 ∧ 21 ≠ 17 ∧ iN 0 = 0 ∧ iN 0 = 0 ∧ iN 30 = Int32.ofNat (zmLay 21).2 ∧ (zmLay 21).2 = (zmLay 17).2 ∧ zmLow [] = true) (pc' := 34) (L' := [.ref 16,.ref 20]) (st' := []) (x' := zmMk n (cpY f 21 17 30) b r) (by decide +kernel) rfl).trans (if_pos ⟨by omega, by omega, rfl, rfl, by omega, rfl, rfl, rfl, rfl, rfl⟩))
  have e2 : ∀ f : Nat → Nat → Int32, Den d 67 34 [.ref 16,.ref 20] [] (zmMk n f b r) = Den d 67 52 [.ref 16,.ref 20] [] (zmMk n (cpY f 22 18 40) b r) := fun f => (Den_blk [zm0 (.aload_n 1) 1, zmr (.getfield 22) 3 8 3 2 134 0, zmi (.iconst 0) 1 0, zm0 (.aload_n 0) 1, zmr (.getfield 22) 3 8 3 2 134 0, zmi (.iconst 0) 1 0, zm0 (.aload_n 0) 1, zmr (.getfield 22) 3 8 3 2 134 0, zm0 (.arraylength) 1] (pc' := 49) (L' := [.ref 16,.ref 20]) (st' := [.int (iN 40), .int (iN 0), .ref 18, .int (iN 0), .ref 22]) (x' := zmMk n f b r) (by decide +kernel) rfl).trans ((Den_if1 (zmr (.invokestatic 28) 3 4 0 0 1154 0) (c := 14 ≤ 22 ∧ 14 ≤ 18 ∧ zmKd 22 (zmMk n f b r) = 20 ∧ zmKd 18 (zmMk n f b r) = 20 ∧ 22 ≠ 18 ∧ iN 0 = 0 ∧ iN 0 = 0 ∧ iN 40 = Int32.ofNat (zmLay 22).2 ∧ (zmLay 22).2 = (zmLay 18).2 ∧ zmLow [] = true) (pc' := 52) (L' := [.ref 16,.ref 20]) (st' := []) (x' := zmMk n (cpY f 22 18 40) b r) (by decide +kernel) rfl).trans (if_pos ⟨by omega, by omega, rfl, rfl, by omega, rfl, rfl, rfl, rfl, rfl⟩))
  have e3 : ∀ f : Nat → Nat → Int32, Den d 67 52 [.ref 16,.ref 20] [] (zmMk n f b r) = Den d 67 70 [.ref 16,.ref 20] [] (zmMk n (cpY f 23 19 4) b r) := fun f => (Den_blk [zm0 (.aload_n 1) 1, zmr (.getfield 25) 3 8 4 2 135 0, zmi (.iconst 0) 1 0, zm0 (.aload_n 0) 1, zmr (.getfield 25) 3 8 4 2 135 0, zmi (.iconst 0) 1 0, zm0 (.aload_n 0) 1, zmr (.getfield 25) 3 8 4 2 135 0, zm0 (.arraylength) 1] (pc' := 67) (L' := [.ref 16,.ref 20]) (st' := [.int (iN 4), .int (iN 0), .ref 19, .int (iN 0), .ref 23]) (x' := zmMk n f b r) (by decide +kernel) rfl).trans ((Den_if1 (zmr (.invokestatic 28) 3 4 0 0 1154 0) (c := 14 ≤ 23 ∧ 14 ≤ 19 ∧ zmKd 23 (zmMk n f b r) = 20 ∧ zmKd 19 (zmMk n f b r) = 20 ∧ 23 ≠ 19 ∧ iN 0 = 0 ∧ iN 0 = 0 ∧ iN 4 = Int32.ofNat (zmLay 23).2 ∧ (zmLay 23).2 = (zmLay 19).2 ∧ zmLow [] = true) (pc' := 70) (L' := [.ref 16,.ref 20]) (st' := []) (x' := zmMk n (cpY f 23 19 4) b r) (by decide +kernel) rfl).trans (if_pos ⟨by omega, by omega, rfl, rfl, by omega, rfl, rfl, rfl, rfl, rfl⟩))
  rw [e0, e1, e2, e3]
  exact Den_retE (zm0 (.return_) 1) (by decide +kernel) rfl
theorem cpL_127 {d n : Nat} {b : Nat → Nat → Int64} {r : Nat → Nat → Option Nat} (k : Nat) : ∀ (i : Nat) (a : Nat → Nat → Int32), i + k = 8 → ∃ a', Den d 263 2 [.ref 127,.ref 139,.int (iN 8),.int (iN i)] [] (zmMk n a b r) = some (none, zmMk n a' b r) ∧ (∀ j, i ≤ j → j < 8 → a' 139 j = a 127 j) ∧ (∀ j, j < i → a' 139 j = a 139 j) ∧ ∀ q, q ≠ 139 → a' q = a q := by
  induction k with
  | zero =>
    intro i a hi
    obtain rfl : i = 8 := by omega
    refine ⟨a, ?_, fun j h1 h2 => absurd h1 (by omega), fun _ _ => rfl, fun _ _ => rfl⟩
    rw [b263k127_2, if_neg (lt_n (by omega) (by omega)), b263k127_19]
  | succ k ih =>
    intro i a hi
    have hin : zmIn (iN i) 8 = true := by rw [n_in (by omega)]; exact decide_eq_true (by omega)
    obtain ⟨a', e1, h1, h2, o1⟩ := ih (i + 1) (uI a 139 i (a 127 i)) (by omega)
    refine ⟨a', ?_, fun j j1 j2 => ?_, fun j hj => ?_, fun q hq => by rw [o1 q hq, uI_ne hq]⟩
    · rw [b263k127_2, if_pos (lt_p (by omega) (by omega)), b263k127_7, if_pos hin, n_nat (by omega), b263k127_12, if_pos hin, n_nat (by omega), b263k127_13, n_add]
      exact e1
    · by_cases hj : j = i
      · rw [hj, h2 i (by omega), uI_self]
      · rw [h1 j (by omega) j2, uI_ne (by omega)]
    · rw [h2 j (by omega), uI_nj (by omega)]
theorem cpR_127 {d n : Nat} {b : Nat → Nat → Int64} {r : Nat → Nat → Option Nat} (a : Nat → Nat → Int32) : ∃ a', Den (d) 263 0 [.ref 127, .ref 139, .int (iN 8), zmJ] [] (zmMk n a b r) = some (none, zmMk n a' b r) ∧ (∀ j, j < 8 → a' 139 j = a 127 j) ∧ ∀ q, q ≠ 139 → a' q = a q := by
  obtain ⟨a', e1, h1, -, o1⟩ := cpL_127 (d := d) (n := n) (b := b) (r := r) 8 0 a (by omega)
  exact ⟨a', by rw [b263k127_0]; exact e1, fun j hj => h1 j (Nat.zero_le _) hj, o1⟩
theorem cpL_128 {d n : Nat} {b : Nat → Nat → Int64} {r : Nat → Nat → Option Nat} (k : Nat) : ∀ (i : Nat) (a : Nat → Nat → Int32), i + k = 8 → ∃ a', Den d 263 2 [.ref 128,.ref 140,.int (iN 8),.int (iN i)] [] (zmMk n a b r) = some (none, zmMk n a' b r) ∧ (∀ j, i ≤ j → j < 8 → a' 140 j = a 128 j) ∧ (∀ j, j < i → a' 140 j = a 140 j) ∧ ∀ q, q ≠ 140 → a' q = a q := by
  induction k with
  | zero =>
    intro i a hi
    obtain rfl : i = 8 := by omega
    refine ⟨a, ?_, fun j h1 h2 => absurd h1 (by omega), fun _ _ => rfl, fun _ _ => rfl⟩
    rw [b263k128_2, if_neg (lt_n (by omega) (by omega)), b263k128_19]
  | succ k ih =>
    intro i a hi
    have hin : zmIn (iN i) 8 = true := by rw [n_in (by omega)]; exact decide_eq_true (by omega)
    obtain ⟨a', e1, h1, h2, o1⟩ := ih (i + 1) (uI a 140 i (a 128 i)) (by omega)
    refine ⟨a', ?_, fun j j1 j2 => ?_, fun j hj => ?_, fun q hq => by rw [o1 q hq, uI_ne hq]⟩
    · rw [b263k128_2, if_pos (lt_p (by omega) (by omega)), b263k128_7, if_pos hin, n_nat (by omega), b263k128_12, if_pos hin, n_nat (by omega), b263k128_13, n_add]
      exact e1
    · by_cases hj : j = i
      · rw [hj, h2 i (by omega), uI_self]
      · rw [h1 j (by omega) j2, uI_ne (by omega)]
    · rw [h2 j (by omega), uI_nj (by omega)]
theorem cpR_128 {d n : Nat} {b : Nat → Nat → Int64} {r : Nat → Nat → Option Nat} (a : Nat → Nat → Int32) : ∃ a', Den (d) 263 0 [.ref 128, .ref 140, .int (iN 8), zmJ] [] (zmMk n a b r) = some (none, zmMk n a' b r) ∧ (∀ j, j < 8 → a' 140 j = a 128 j) ∧ ∀ q, q ≠ 140 → a' q = a q := by
  obtain ⟨a', e1, h1, -, o1⟩ := cpL_128 (d := d) (n := n) (b := b) (r := r) 8 0 a (by omega)
  exact ⟨a', by rw [b263k128_0]; exact e1, fun j hj => h1 j (Nat.zero_le _) hj, o1⟩
theorem cpL_129 {d n : Nat} {b : Nat → Nat → Int64} {r : Nat → Nat → Option Nat} (k : Nat) : ∀ (i : Nat) (a : Nat → Nat → Int32), i + k = 8 → ∃ a', Den d 263 2 [.ref 129,.ref 141,.int (iN 8),.int (iN i)] [] (zmMk n a b r) = some (none, zmMk n a' b r) ∧ (∀ j, i ≤ j → j < 8 → a' 141 j = a 129 j) ∧ (∀ j, j < i → a' 141 j = a 141 j) ∧ ∀ q, q ≠ 141 → a' q = a q := by
  induction k with
  | zero =>
    intro i a hi
    obtain rfl : i = 8 := by omega
    refine ⟨a, ?_, fun j h1 h2 => absurd h1 (by omega), fun _ _ => rfl, fun _ _ => rfl⟩
    rw [b263k129_2, if_neg (lt_n (by omega) (by omega)), b263k129_19]
  | succ k ih =>
    intro i a hi
    have hin : zmIn (iN i) 8 = true := by rw [n_in (by omega)]; exact decide_eq_true (by omega)
    obtain ⟨a', e1, h1, h2, o1⟩ := ih (i + 1) (uI a 141 i (a 129 i)) (by omega)
    refine ⟨a', ?_, fun j j1 j2 => ?_, fun j hj => ?_, fun q hq => by rw [o1 q hq, uI_ne hq]⟩
    · rw [b263k129_2, if_pos (lt_p (by omega) (by omega)), b263k129_7, if_pos hin, n_nat (by omega), b263k129_12, if_pos hin, n_nat (by omega), b263k129_13, n_add]
      exact e1
    · by_cases hj : j = i
      · rw [hj, h2 i (by omega), uI_self]
      · rw [h1 j (by omega) j2, uI_ne (by omega)]
    · rw [h2 j (by omega), uI_nj (by omega)]
theorem cpR_129 {d n : Nat} {b : Nat → Nat → Int64} {r : Nat → Nat → Option Nat} (a : Nat → Nat → Int32) : ∃ a', Den (d) 263 0 [.ref 129, .ref 141, .int (iN 8), zmJ] [] (zmMk n a b r) = some (none, zmMk n a' b r) ∧ (∀ j, j < 8 → a' 141 j = a 129 j) ∧ ∀ q, q ≠ 141 → a' q = a q := by
  obtain ⟨a', e1, h1, -, o1⟩ := cpL_129 (d := d) (n := n) (b := b) (r := r) 8 0 a (by omega)
  exact ⟨a', by rw [b263k129_0]; exact e1, fun j hj => h1 j (Nat.zero_le _) hj, o1⟩
theorem cpL_130 {d n : Nat} {b : Nat → Nat → Int64} {r : Nat → Nat → Option Nat} (k : Nat) : ∀ (i : Nat) (a : Nat → Nat → Int32), i + k = 8 → ∃ a', Den d 263 2 [.ref 130,.ref 142,.int (iN 8),.int (iN i)] [] (zmMk n a b r) = some (none, zmMk n a' b r) ∧ (∀ j, i ≤ j → j < 8 → a' 142 j = a 130 j) ∧ (∀ j, j < i → a' 142 j = a 142 j) ∧ ∀ q, q ≠ 142 → a' q = a q := by
  induction k with
  | zero =>
    intro i a hi
    obtain rfl : i = 8 := by omega
    refine ⟨a, ?_, fun j h1 h2 => absurd h1 (by omega), fun _ _ => rfl, fun _ _ => rfl⟩
    rw [b263k130_2, if_neg (lt_n (by omega) (by omega)), b263k130_19]
  | succ k ih =>
    intro i a hi
    have hin : zmIn (iN i) 8 = true := by rw [n_in (by omega)]; exact decide_eq_true (by omega)
    obtain ⟨a', e1, h1, h2, o1⟩ := ih (i + 1) (uI a 142 i (a 130 i)) (by omega)
    refine ⟨a', ?_, fun j j1 j2 => ?_, fun j hj => ?_, fun q hq => by rw [o1 q hq, uI_ne hq]⟩
    · rw [b263k130_2, if_pos (lt_p (by omega) (by omega)), b263k130_7, if_pos hin, n_nat (by omega), b263k130_12, if_pos hin, n_nat (by omega), b263k130_13, n_add]
      exact e1
    · by_cases hj : j = i
      · rw [hj, h2 i (by omega), uI_self]
      · rw [h1 j (by omega) j2, uI_ne (by omega)]
    · rw [h2 j (by omega), uI_nj (by omega)]
theorem cpR_130 {d n : Nat} {b : Nat → Nat → Int64} {r : Nat → Nat → Option Nat} (a : Nat → Nat → Int32) : ∃ a', Den (d) 263 0 [.ref 130, .ref 142, .int (iN 8), zmJ] [] (zmMk n a b r) = some (none, zmMk n a' b r) ∧ (∀ j, j < 8 → a' 142 j = a 130 j) ∧ ∀ q, q ≠ 142 → a' q = a q := by
  obtain ⟨a', e1, h1, -, o1⟩ := cpL_130 (d := d) (n := n) (b := b) (r := r) 8 0 a (by omega)
  exact ⟨a', by rw [b263k130_0]; exact e1, fun j hj => h1 j (Nat.zero_le _) hj, o1⟩
theorem cpL_131 {d n : Nat} {b : Nat → Nat → Int64} {r : Nat → Nat → Option Nat} (k : Nat) : ∀ (i : Nat) (a : Nat → Nat → Int32), i + k = 10 → ∃ a', Den d 263 2 [.ref 131,.ref 143,.int (iN 10),.int (iN i)] [] (zmMk n a b r) = some (none, zmMk n a' b r) ∧ (∀ j, i ≤ j → j < 10 → a' 143 j = a 131 j) ∧ (∀ j, j < i → a' 143 j = a 143 j) ∧ ∀ q, q ≠ 143 → a' q = a q := by
  induction k with
  | zero =>
    intro i a hi
    obtain rfl : i = 10 := by omega
    refine ⟨a, ?_, fun j h1 h2 => absurd h1 (by omega), fun _ _ => rfl, fun _ _ => rfl⟩
    rw [b263k131_2, if_neg (lt_n (by omega) (by omega)), b263k131_19]
  | succ k ih =>
    intro i a hi
    have hin : zmIn (iN i) 10 = true := by rw [n_in (by omega)]; exact decide_eq_true (by omega)
    obtain ⟨a', e1, h1, h2, o1⟩ := ih (i + 1) (uI a 143 i (a 131 i)) (by omega)
    refine ⟨a', ?_, fun j j1 j2 => ?_, fun j hj => ?_, fun q hq => by rw [o1 q hq, uI_ne hq]⟩
    · rw [b263k131_2, if_pos (lt_p (by omega) (by omega)), b263k131_7, if_pos hin, n_nat (by omega), b263k131_12, if_pos hin, n_nat (by omega), b263k131_13, n_add]
      exact e1
    · by_cases hj : j = i
      · rw [hj, h2 i (by omega), uI_self]
      · rw [h1 j (by omega) j2, uI_ne (by omega)]
    · rw [h2 j (by omega), uI_nj (by omega)]
theorem cpR_131 {d n : Nat} {b : Nat → Nat → Int64} {r : Nat → Nat → Option Nat} (a : Nat → Nat → Int32) : ∃ a', Den (d) 263 0 [.ref 131, .ref 143, .int (iN 10), zmJ] [] (zmMk n a b r) = some (none, zmMk n a' b r) ∧ (∀ j, j < 10 → a' 143 j = a 131 j) ∧ ∀ q, q ≠ 143 → a' q = a q := by
  obtain ⟨a', e1, h1, -, o1⟩ := cpL_131 (d := d) (n := n) (b := b) (r := r) 10 0 a (by omega)
  exact ⟨a', by rw [b263k131_0]; exact e1, fun j hj => h1 j (Nat.zero_le _) hj, o1⟩
theorem cpL_132 {d n : Nat} {b : Nat → Nat → Int64} {r : Nat → Nat → Option Nat} (k : Nat) : ∀ (i : Nat) (a : Nat → Nat → Int32), i + k = 10 → ∃ a', Den d 263 2 [.ref 132,.ref 144,.int (iN 10),.int (iN i)] [] (zmMk n a b r) = some (none, zmMk n a' b r) ∧ (∀ j, i ≤ j → j < 10 → a' 144 j = a 132 j) ∧ (∀ j, j < i → a' 144 j = a 144 j) ∧ ∀ q, q ≠ 144 → a' q = a q := by
  induction k with
  | zero =>
    intro i a hi
    obtain rfl : i = 10 := by omega
    refine ⟨a, ?_, fun j h1 h2 => absurd h1 (by omega), fun _ _ => rfl, fun _ _ => rfl⟩
    rw [b263k132_2, if_neg (lt_n (by omega) (by omega)), b263k132_19]
  | succ k ih =>
    intro i a hi
    have hin : zmIn (iN i) 10 = true := by rw [n_in (by omega)]; exact decide_eq_true (by omega)
    obtain ⟨a', e1, h1, h2, o1⟩ := ih (i + 1) (uI a 144 i (a 132 i)) (by omega)
    refine ⟨a', ?_, fun j j1 j2 => ?_, fun j hj => ?_, fun q hq => by rw [o1 q hq, uI_ne hq]⟩
    · rw [b263k132_2, if_pos (lt_p (by omega) (by omega)), b263k132_7, if_pos hin, n_nat (by omega), b263k132_12, if_pos hin, n_nat (by omega), b263k132_13, n_add]
      exact e1
    · by_cases hj : j = i
      · rw [hj, h2 i (by omega), uI_self]
      · rw [h1 j (by omega) j2, uI_ne (by omega)]
    · rw [h2 j (by omega), uI_nj (by omega)]
theorem cpR_132 {d n : Nat} {b : Nat → Nat → Int64} {r : Nat → Nat → Option Nat} (a : Nat → Nat → Int32) : ∃ a', Den (d) 263 0 [.ref 132, .ref 144, .int (iN 10), zmJ] [] (zmMk n a b r) = some (none, zmMk n a' b r) ∧ (∀ j, j < 10 → a' 144 j = a 132 j) ∧ ∀ q, q ≠ 144 → a' q = a q := by
  obtain ⟨a', e1, h1, -, o1⟩ := cpL_132 (d := d) (n := n) (b := b) (r := r) 10 0 a (by omega)
  exact ⟨a', by rw [b263k132_0]; exact e1, fun j hj => h1 j (Nat.zero_le _) hj, o1⟩
theorem cpL_133 {d n : Nat} {b : Nat → Nat → Int64} {r : Nat → Nat → Option Nat} (k : Nat) : ∀ (i : Nat) (a : Nat → Nat → Int32), i + k = 10 → ∃ a', Den d 263 2 [.ref 133,.ref 145,.int (iN 10),.int (iN i)] [] (zmMk n a b r) = some (none, zmMk n a' b r) ∧ (∀ j, i ≤ j → j < 10 → a' 145 j = a 133 j) ∧ (∀ j, j < i → a' 145 j = a 145 j) ∧ ∀ q, q ≠ 145 → a' q = a q := by
  induction k with
  | zero =>
    intro i a hi
    obtain rfl : i = 10 := by omega
    refine ⟨a, ?_, fun j h1 h2 => absurd h1 (by omega), fun _ _ => rfl, fun _ _ => rfl⟩
    rw [b263k133_2, if_neg (lt_n (by omega) (by omega)), b263k133_19]
  | succ k ih =>
    intro i a hi
    have hin : zmIn (iN i) 10 = true := by rw [n_in (by omega)]; exact decide_eq_true (by omega)
    obtain ⟨a', e1, h1, h2, o1⟩ := ih (i + 1) (uI a 145 i (a 133 i)) (by omega)
    refine ⟨a', ?_, fun j j1 j2 => ?_, fun j hj => ?_, fun q hq => by rw [o1 q hq, uI_ne hq]⟩
    · rw [b263k133_2, if_pos (lt_p (by omega) (by omega)), b263k133_7, if_pos hin, n_nat (by omega), b263k133_12, if_pos hin, n_nat (by omega), b263k133_13, n_add]
      exact e1
    · by_cases hj : j = i
      · rw [hj, h2 i (by omega), uI_self]
      · rw [h1 j (by omega) j2, uI_ne (by omega)]
    · rw [h2 j (by omega), uI_nj (by omega)]
theorem cpR_133 {d n : Nat} {b : Nat → Nat → Int64} {r : Nat → Nat → Option Nat} (a : Nat → Nat → Int32) : ∃ a', Den (d) 263 0 [.ref 133, .ref 145, .int (iN 10), zmJ] [] (zmMk n a b r) = some (none, zmMk n a' b r) ∧ (∀ j, j < 10 → a' 145 j = a 133 j) ∧ ∀ q, q ≠ 145 → a' q = a q := by
  obtain ⟨a', e1, h1, -, o1⟩ := cpL_133 (d := d) (n := n) (b := b) (r := r) 10 0 a (by omega)
  exact ⟨a', by rw [b263k133_0]; exact e1, fun j hj => h1 j (Nat.zero_le _) hj, o1⟩
theorem cpL_136 {d n : Nat} {b : Nat → Nat → Int64} {r : Nat → Nat → Option Nat} (k : Nat) : ∀ (i : Nat) (a : Nat → Nat → Int32), i + k = 4 → ∃ a', Den d 263 2 [.ref 136,.ref 146,.int (iN 4),.int (iN i)] [] (zmMk n a b r) = some (none, zmMk n a' b r) ∧ (∀ j, i ≤ j → j < 4 → a' 146 j = a 136 j) ∧ (∀ j, j < i → a' 146 j = a 146 j) ∧ ∀ q, q ≠ 146 → a' q = a q := by
  induction k with
  | zero =>
    intro i a hi
    obtain rfl : i = 4 := by omega
    refine ⟨a, ?_, fun j h1 h2 => absurd h1 (by omega), fun _ _ => rfl, fun _ _ => rfl⟩
    rw [b263k136_2, if_neg (lt_n (by omega) (by omega)), b263k136_19]
  | succ k ih =>
    intro i a hi
    have hin : zmIn (iN i) 4 = true := by rw [n_in (by omega)]; exact decide_eq_true (by omega)
    obtain ⟨a', e1, h1, h2, o1⟩ := ih (i + 1) (uI a 146 i (a 136 i)) (by omega)
    refine ⟨a', ?_, fun j j1 j2 => ?_, fun j hj => ?_, fun q hq => by rw [o1 q hq, uI_ne hq]⟩
    · rw [b263k136_2, if_pos (lt_p (by omega) (by omega)), b263k136_7, if_pos hin, n_nat (by omega), b263k136_12, if_pos hin, n_nat (by omega), b263k136_13, n_add]
      exact e1
    · by_cases hj : j = i
      · rw [hj, h2 i (by omega), uI_self]
      · rw [h1 j (by omega) j2, uI_ne (by omega)]
    · rw [h2 j (by omega), uI_nj (by omega)]
theorem cpR_136 {d n : Nat} {b : Nat → Nat → Int64} {r : Nat → Nat → Option Nat} (a : Nat → Nat → Int32) : ∃ a', Den (d) 263 0 [.ref 136, .ref 146, .int (iN 4), zmJ] [] (zmMk n a b r) = some (none, zmMk n a' b r) ∧ (∀ j, j < 4 → a' 146 j = a 136 j) ∧ ∀ q, q ≠ 146 → a' q = a q := by
  obtain ⟨a', e1, h1, -, o1⟩ := cpL_136 (d := d) (n := n) (b := b) (r := r) 4 0 a (by omega)
  exact ⟨a', by rw [b263k136_0]; exact e1, fun j hj => h1 j (Nat.zero_le _) hj, o1⟩
theorem cpL_139 {d n : Nat} {b : Nat → Nat → Int64} {r : Nat → Nat → Option Nat} (k : Nat) : ∀ (i : Nat) (a : Nat → Nat → Int32), i + k = 8 → ∃ a', Den d 263 2 [.ref 139,.ref 127,.int (iN 8),.int (iN i)] [] (zmMk n a b r) = some (none, zmMk n a' b r) ∧ (∀ j, i ≤ j → j < 8 → a' 127 j = a 139 j) ∧ (∀ j, j < i → a' 127 j = a 127 j) ∧ ∀ q, q ≠ 127 → a' q = a q := by
  induction k with
  | zero =>
    intro i a hi
    obtain rfl : i = 8 := by omega
    refine ⟨a, ?_, fun j h1 h2 => absurd h1 (by omega), fun _ _ => rfl, fun _ _ => rfl⟩
    rw [b263k139_2, if_neg (lt_n (by omega) (by omega)), b263k139_19]
  | succ k ih =>
    intro i a hi
    have hin : zmIn (iN i) 8 = true := by rw [n_in (by omega)]; exact decide_eq_true (by omega)
    obtain ⟨a', e1, h1, h2, o1⟩ := ih (i + 1) (uI a 127 i (a 139 i)) (by omega)
    refine ⟨a', ?_, fun j j1 j2 => ?_, fun j hj => ?_, fun q hq => by rw [o1 q hq, uI_ne hq]⟩
    · rw [b263k139_2, if_pos (lt_p (by omega) (by omega)), b263k139_7, if_pos hin, n_nat (by omega), b263k139_12, if_pos hin, n_nat (by omega), b263k139_13, n_add]
      exact e1
    · by_cases hj : j = i
      · rw [hj, h2 i (by omega), uI_self]
      · rw [h1 j (by omega) j2, uI_ne (by omega)]
    · rw [h2 j (by omega), uI_nj (by omega)]
theorem cpR_139 {d n : Nat} {b : Nat → Nat → Int64} {r : Nat → Nat → Option Nat} (a : Nat → Nat → Int32) : ∃ a', Den (d) 263 0 [.ref 139, .ref 127, .int (iN 8), zmJ] [] (zmMk n a b r) = some (none, zmMk n a' b r) ∧ (∀ j, j < 8 → a' 127 j = a 139 j) ∧ ∀ q, q ≠ 127 → a' q = a q := by
  obtain ⟨a', e1, h1, -, o1⟩ := cpL_139 (d := d) (n := n) (b := b) (r := r) 8 0 a (by omega)
  exact ⟨a', by rw [b263k139_0]; exact e1, fun j hj => h1 j (Nat.zero_le _) hj, o1⟩
theorem cpL_140 {d n : Nat} {b : Nat → Nat → Int64} {r : Nat → Nat → Option Nat} (k : Nat) : ∀ (i : Nat) (a : Nat → Nat → Int32), i + k = 8 → ∃ a', Den d 263 2 [.ref 140,.ref 128,.int (iN 8),.int (iN i)] [] (zmMk n a b r) = some (none, zmMk n a' b r) ∧ (∀ j, i ≤ j → j < 8 → a' 128 j = a 140 j) ∧ (∀ j, j < i → a' 128 j = a 128 j) ∧ ∀ q, q ≠ 128 → a' q = a q := by
  induction k with
  | zero =>
    intro i a hi
    obtain rfl : i = 8 := by omega
    refine ⟨a, ?_, fun j h1 h2 => absurd h1 (by omega), fun _ _ => rfl, fun _ _ => rfl⟩
    rw [b263k140_2, if_neg (lt_n (by omega) (by omega)), b263k140_19]
  | succ k ih =>
    intro i a hi
    have hin : zmIn (iN i) 8 = true := by rw [n_in (by omega)]; exact decide_eq_true (by omega)
    obtain ⟨a', e1, h1, h2, o1⟩ := ih (i + 1) (uI a 128 i (a 140 i)) (by omega)
    refine ⟨a', ?_, fun j j1 j2 => ?_, fun j hj => ?_, fun q hq => by rw [o1 q hq, uI_ne hq]⟩
    · rw [b263k140_2, if_pos (lt_p (by omega) (by omega)), b263k140_7, if_pos hin, n_nat (by omega), b263k140_12, if_pos hin, n_nat (by omega), b263k140_13, n_add]
      exact e1
    · by_cases hj : j = i
      · rw [hj, h2 i (by omega), uI_self]
      · rw [h1 j (by omega) j2, uI_ne (by omega)]
    · rw [h2 j (by omega), uI_nj (by omega)]
theorem cpR_140 {d n : Nat} {b : Nat → Nat → Int64} {r : Nat → Nat → Option Nat} (a : Nat → Nat → Int32) : ∃ a', Den (d) 263 0 [.ref 140, .ref 128, .int (iN 8), zmJ] [] (zmMk n a b r) = some (none, zmMk n a' b r) ∧ (∀ j, j < 8 → a' 128 j = a 140 j) ∧ ∀ q, q ≠ 128 → a' q = a q := by
  obtain ⟨a', e1, h1, -, o1⟩ := cpL_140 (d := d) (n := n) (b := b) (r := r) 8 0 a (by omega)
  exact ⟨a', by rw [b263k140_0]; exact e1, fun j hj => h1 j (Nat.zero_le _) hj, o1⟩
theorem cpL_141 {d n : Nat} {b : Nat → Nat → Int64} {r : Nat → Nat → Option Nat} (k : Nat) : ∀ (i : Nat) (a : Nat → Nat → Int32), i + k = 8 → ∃ a', Den d 263 2 [.ref 141,.ref 129,.int (iN 8),.int (iN i)] [] (zmMk n a b r) = some (none, zmMk n a' b r) ∧ (∀ j, i ≤ j → j < 8 → a' 129 j = a 141 j) ∧ (∀ j, j < i → a' 129 j = a 129 j) ∧ ∀ q, q ≠ 129 → a' q = a q := by
  induction k with
  | zero =>
    intro i a hi
    obtain rfl : i = 8 := by omega
    refine ⟨a, ?_, fun j h1 h2 => absurd h1 (by omega), fun _ _ => rfl, fun _ _ => rfl⟩
    rw [b263k141_2, if_neg (lt_n (by omega) (by omega)), b263k141_19]
  | succ k ih =>
    intro i a hi
    have hin : zmIn (iN i) 8 = true := by rw [n_in (by omega)]; exact decide_eq_true (by omega)
    obtain ⟨a', e1, h1, h2, o1⟩ := ih (i + 1) (uI a 129 i (a 141 i)) (by omega)
    refine ⟨a', ?_, fun j j1 j2 => ?_, fun j hj => ?_, fun q hq => by rw [o1 q hq, uI_ne hq]⟩
    · rw [b263k141_2, if_pos (lt_p (by omega) (by omega)), b263k141_7, if_pos hin, n_nat (by omega), b263k141_12, if_pos hin, n_nat (by omega), b263k141_13, n_add]
      exact e1
    · by_cases hj : j = i
      · rw [hj, h2 i (by omega), uI_self]
      · rw [h1 j (by omega) j2, uI_ne (by omega)]
    · rw [h2 j (by omega), uI_nj (by omega)]
theorem cpR_141 {d n : Nat} {b : Nat → Nat → Int64} {r : Nat → Nat → Option Nat} (a : Nat → Nat → Int32) : ∃ a', Den (d) 263 0 [.ref 141, .ref 129, .int (iN 8), zmJ] [] (zmMk n a b r) = some (none, zmMk n a' b r) ∧ (∀ j, j < 8 → a' 129 j = a 141 j) ∧ ∀ q, q ≠ 129 → a' q = a q := by
  obtain ⟨a', e1, h1, -, o1⟩ := cpL_141 (d := d) (n := n) (b := b) (r := r) 8 0 a (by omega)
  exact ⟨a', by rw [b263k141_0]; exact e1, fun j hj => h1 j (Nat.zero_le _) hj, o1⟩
theorem cpL_142 {d n : Nat} {b : Nat → Nat → Int64} {r : Nat → Nat → Option Nat} (k : Nat) : ∀ (i : Nat) (a : Nat → Nat → Int32), i + k = 8 → ∃ a', Den d 263 2 [.ref 142,.ref 130,.int (iN 8),.int (iN i)] [] (zmMk n a b r) = some (none, zmMk n a' b r) ∧ (∀ j, i ≤ j → j < 8 → a' 130 j = a 142 j) ∧ (∀ j, j < i → a' 130 j = a 130 j) ∧ ∀ q, q ≠ 130 → a' q = a q := by
  induction k with
  | zero =>
    intro i a hi
    obtain rfl : i = 8 := by omega
    refine ⟨a, ?_, fun j h1 h2 => absurd h1 (by omega), fun _ _ => rfl, fun _ _ => rfl⟩
    rw [b263k142_2, if_neg (lt_n (by omega) (by omega)), b263k142_19]
  | succ k ih =>
    intro i a hi
    have hin : zmIn (iN i) 8 = true := by rw [n_in (by omega)]; exact decide_eq_true (by omega)
    obtain ⟨a', e1, h1, h2, o1⟩ := ih (i + 1) (uI a 130 i (a 142 i)) (by omega)
    refine ⟨a', ?_, fun j j1 j2 => ?_, fun j hj => ?_, fun q hq => by rw [o1 q hq, uI_ne hq]⟩
    · rw [b263k142_2, if_pos (lt_p (by omega) (by omega)), b263k142_7, if_pos hin, n_nat (by omega), b263k142_12, if_pos hin, n_nat (by omega), b263k142_13, n_add]
      exact e1
    · by_cases hj : j = i
      · rw [hj, h2 i (by omega), uI_self]
      · rw [h1 j (by omega) j2, uI_ne (by omega)]
    · rw [h2 j (by omega), uI_nj (by omega)]
theorem cpR_142 {d n : Nat} {b : Nat → Nat → Int64} {r : Nat → Nat → Option Nat} (a : Nat → Nat → Int32) : ∃ a', Den (d) 263 0 [.ref 142, .ref 130, .int (iN 8), zmJ] [] (zmMk n a b r) = some (none, zmMk n a' b r) ∧ (∀ j, j < 8 → a' 130 j = a 142 j) ∧ ∀ q, q ≠ 130 → a' q = a q := by
  obtain ⟨a', e1, h1, -, o1⟩ := cpL_142 (d := d) (n := n) (b := b) (r := r) 8 0 a (by omega)
  exact ⟨a', by rw [b263k142_0]; exact e1, fun j hj => h1 j (Nat.zero_le _) hj, o1⟩
theorem cpL_143 {d n : Nat} {b : Nat → Nat → Int64} {r : Nat → Nat → Option Nat} (k : Nat) : ∀ (i : Nat) (a : Nat → Nat → Int32), i + k = 10 → ∃ a', Den d 263 2 [.ref 143,.ref 131,.int (iN 10),.int (iN i)] [] (zmMk n a b r) = some (none, zmMk n a' b r) ∧ (∀ j, i ≤ j → j < 10 → a' 131 j = a 143 j) ∧ (∀ j, j < i → a' 131 j = a 131 j) ∧ ∀ q, q ≠ 131 → a' q = a q := by
  induction k with
  | zero =>
    intro i a hi
    obtain rfl : i = 10 := by omega
    refine ⟨a, ?_, fun j h1 h2 => absurd h1 (by omega), fun _ _ => rfl, fun _ _ => rfl⟩
    rw [b263k143_2, if_neg (lt_n (by omega) (by omega)), b263k143_19]
  | succ k ih =>
    intro i a hi
    have hin : zmIn (iN i) 10 = true := by rw [n_in (by omega)]; exact decide_eq_true (by omega)
    obtain ⟨a', e1, h1, h2, o1⟩ := ih (i + 1) (uI a 131 i (a 143 i)) (by omega)
    refine ⟨a', ?_, fun j j1 j2 => ?_, fun j hj => ?_, fun q hq => by rw [o1 q hq, uI_ne hq]⟩
    · rw [b263k143_2, if_pos (lt_p (by omega) (by omega)), b263k143_7, if_pos hin, n_nat (by omega), b263k143_12, if_pos hin, n_nat (by omega), b263k143_13, n_add]
      exact e1
    · by_cases hj : j = i
      · rw [hj, h2 i (by omega), uI_self]
      · rw [h1 j (by omega) j2, uI_ne (by omega)]
    · rw [h2 j (by omega), uI_nj (by omega)]
theorem cpR_143 {d n : Nat} {b : Nat → Nat → Int64} {r : Nat → Nat → Option Nat} (a : Nat → Nat → Int32) : ∃ a', Den (d) 263 0 [.ref 143, .ref 131, .int (iN 10), zmJ] [] (zmMk n a b r) = some (none, zmMk n a' b r) ∧ (∀ j, j < 10 → a' 131 j = a 143 j) ∧ ∀ q, q ≠ 131 → a' q = a q := by
  obtain ⟨a', e1, h1, -, o1⟩ := cpL_143 (d := d) (n := n) (b := b) (r := r) 10 0 a (by omega)
  exact ⟨a', by rw [b263k143_0]; exact e1, fun j hj => h1 j (Nat.zero_le _) hj, o1⟩
theorem cpL_144 {d n : Nat} {b : Nat → Nat → Int64} {r : Nat → Nat → Option Nat} (k : Nat) : ∀ (i : Nat) (a : Nat → Nat → Int32), i + k = 10 → ∃ a', Den d 263 2 [.ref 144,.ref 132,.int (iN 10),.int (iN i)] [] (zmMk n a b r) = some (none, zmMk n a' b r) ∧ (∀ j, i ≤ j → j < 10 → a' 132 j = a 144 j) ∧ (∀ j, j < i → a' 132 j = a 132 j) ∧ ∀ q, q ≠ 132 → a' q = a q := by
  induction k with
  | zero =>
    intro i a hi
    obtain rfl : i = 10 := by omega
    refine ⟨a, ?_, fun j h1 h2 => absurd h1 (by omega), fun _ _ => rfl, fun _ _ => rfl⟩
    rw [b263k144_2, if_neg (lt_n (by omega) (by omega)), b263k144_19]
  | succ k ih =>
    intro i a hi
    have hin : zmIn (iN i) 10 = true := by rw [n_in (by omega)]; exact decide_eq_true (by omega)
    obtain ⟨a', e1, h1, h2, o1⟩ := ih (i + 1) (uI a 132 i (a 144 i)) (by omega)
    refine ⟨a', ?_, fun j j1 j2 => ?_, fun j hj => ?_, fun q hq => by rw [o1 q hq, uI_ne hq]⟩
    · rw [b263k144_2, if_pos (lt_p (by omega) (by omega)), b263k144_7, if_pos hin, n_nat (by omega), b263k144_12, if_pos hin, n_nat (by omega), b263k144_13, n_add]
      exact e1
    · by_cases hj : j = i
      · rw [hj, h2 i (by omega), uI_self]
      · rw [h1 j (by omega) j2, uI_ne (by omega)]
    · rw [h2 j (by omega), uI_nj (by omega)]
theorem cpR_144 {d n : Nat} {b : Nat → Nat → Int64} {r : Nat → Nat → Option Nat} (a : Nat → Nat → Int32) : ∃ a', Den (d) 263 0 [.ref 144, .ref 132, .int (iN 10), zmJ] [] (zmMk n a b r) = some (none, zmMk n a' b r) ∧ (∀ j, j < 10 → a' 132 j = a 144 j) ∧ ∀ q, q ≠ 132 → a' q = a q := by
  obtain ⟨a', e1, h1, -, o1⟩ := cpL_144 (d := d) (n := n) (b := b) (r := r) 10 0 a (by omega)
  exact ⟨a', by rw [b263k144_0]; exact e1, fun j hj => h1 j (Nat.zero_le _) hj, o1⟩
theorem cpL_145 {d n : Nat} {b : Nat → Nat → Int64} {r : Nat → Nat → Option Nat} (k : Nat) : ∀ (i : Nat) (a : Nat → Nat → Int32), i + k = 10 → ∃ a', Den d 263 2 [.ref 145,.ref 133,.int (iN 10),.int (iN i)] [] (zmMk n a b r) = some (none, zmMk n a' b r) ∧ (∀ j, i ≤ j → j < 10 → a' 133 j = a 145 j) ∧ (∀ j, j < i → a' 133 j = a 133 j) ∧ ∀ q, q ≠ 133 → a' q = a q := by
  induction k with
  | zero =>
    intro i a hi
    obtain rfl : i = 10 := by omega
    refine ⟨a, ?_, fun j h1 h2 => absurd h1 (by omega), fun _ _ => rfl, fun _ _ => rfl⟩
    rw [b263k145_2, if_neg (lt_n (by omega) (by omega)), b263k145_19]
  | succ k ih =>
    intro i a hi
    have hin : zmIn (iN i) 10 = true := by rw [n_in (by omega)]; exact decide_eq_true (by omega)
    obtain ⟨a', e1, h1, h2, o1⟩ := ih (i + 1) (uI a 133 i (a 145 i)) (by omega)
    refine ⟨a', ?_, fun j j1 j2 => ?_, fun j hj => ?_, fun q hq => by rw [o1 q hq, uI_ne hq]⟩
    · rw [b263k145_2, if_pos (lt_p (by omega) (by omega)), b263k145_7, if_pos hin, n_nat (by omega), b263k145_12, if_pos hin, n_nat (by omega), b263k145_13, n_add]
      exact e1
    · by_cases hj : j = i
      · rw [hj, h2 i (by omega), uI_self]
      · rw [h1 j (by omega) j2, uI_ne (by omega)]
    · rw [h2 j (by omega), uI_nj (by omega)]
theorem cpR_145 {d n : Nat} {b : Nat → Nat → Int64} {r : Nat → Nat → Option Nat} (a : Nat → Nat → Int32) : ∃ a', Den (d) 263 0 [.ref 145, .ref 133, .int (iN 10), zmJ] [] (zmMk n a b r) = some (none, zmMk n a' b r) ∧ (∀ j, j < 10 → a' 133 j = a 145 j) ∧ ∀ q, q ≠ 133 → a' q = a q := by
  obtain ⟨a', e1, h1, -, o1⟩ := cpL_145 (d := d) (n := n) (b := b) (r := r) 10 0 a (by omega)
  exact ⟨a', by rw [b263k145_0]; exact e1, fun j hj => h1 j (Nat.zero_le _) hj, o1⟩
theorem cpL_146 {d n : Nat} {b : Nat → Nat → Int64} {r : Nat → Nat → Option Nat} (k : Nat) : ∀ (i : Nat) (a : Nat → Nat → Int32), i + k = 4 → ∃ a', Den d 263 2 [.ref 146,.ref 136,.int (iN 4),.int (iN i)] [] (zmMk n a b r) = some (none, zmMk n a' b r) ∧ (∀ j, i ≤ j → j < 4 → a' 136 j = a 146 j) ∧ (∀ j, j < i → a' 136 j = a 136 j) ∧ ∀ q, q ≠ 136 → a' q = a q := by
  induction k with
  | zero =>
    intro i a hi
    obtain rfl : i = 4 := by omega
    refine ⟨a, ?_, fun j h1 h2 => absurd h1 (by omega), fun _ _ => rfl, fun _ _ => rfl⟩
    rw [b263k146_2, if_neg (lt_n (by omega) (by omega)), b263k146_19]
  | succ k ih =>
    intro i a hi
    have hin : zmIn (iN i) 4 = true := by rw [n_in (by omega)]; exact decide_eq_true (by omega)
    obtain ⟨a', e1, h1, h2, o1⟩ := ih (i + 1) (uI a 136 i (a 146 i)) (by omega)
    refine ⟨a', ?_, fun j j1 j2 => ?_, fun j hj => ?_, fun q hq => by rw [o1 q hq, uI_ne hq]⟩
    · rw [b263k146_2, if_pos (lt_p (by omega) (by omega)), b263k146_7, if_pos hin, n_nat (by omega), b263k146_12, if_pos hin, n_nat (by omega), b263k146_13, n_add]
      exact e1
    · by_cases hj : j = i
      · rw [hj, h2 i (by omega), uI_self]
      · rw [h1 j (by omega) j2, uI_ne (by omega)]
    · rw [h2 j (by omega), uI_nj (by omega)]
theorem cpR_146 {d n : Nat} {b : Nat → Nat → Int64} {r : Nat → Nat → Option Nat} (a : Nat → Nat → Int32) : ∃ a', Den (d) 263 0 [.ref 146, .ref 136, .int (iN 4), zmJ] [] (zmMk n a b r) = some (none, zmMk n a' b r) ∧ (∀ j, j < 4 → a' 136 j = a 146 j) ∧ ∀ q, q ≠ 136 → a' q = a q := by
  obtain ⟨a', e1, h1, -, o1⟩ := cpL_146 (d := d) (n := n) (b := b) (r := r) 4 0 a (by omega)
  exact ⟨a', by rw [b263k146_0]; exact e1, fun j hj => h1 j (Nat.zero_le _) hj, o1⟩
theorem StoM.cp {a a' : Nat → Nat → Int32} {f0 f1 fl fr rb bk g f0' f1' fl' fr' rb' bk' g' : Nat} {σ σ' : SV} (h : StoM a f0 f1 fl fr rb bk g σ) (e0 : a' 94 f0' = a 94 f0) (e1 : a' 94 f1' = a 94 f1) (el : a' 94 fl' = a 94 fl) (er : a' 94 fr' = a 94 fr) (r0 : ∀ j, j < 8 → a' rb' j = a rb j) (r1 : ∀ j, j < 8 → a' (rb' + 1) j = a (rb + 1) j) (r2 : ∀ j, j < 8 → a' (rb' + 2) j = a (rb + 2) j) (r3 : ∀ j, j < 8 → a' (rb' + 3) j = a (rb + 3) j) (r4 : ∀ j, j < 10 → a' (rb' + 4) j = a (rb + 4) j) (r5 : ∀ j, j < 10 → a' (rb' + 5) j = a (rb + 5) j) (r6 : ∀ j, j < 10 → a' (rb' + 6) j = a (rb + 6) j) (rk : ∀ j, j < 4 → a' bk' j = a bk j) (s0 : σ' g' 0 = σ g 0) (s1 : σ' g' 1 = σ g 1) (sr : ∀ i, 1 ≤ i → i ≤ 9 → σ' (g' + i) = σ (g + i)) : StoM a' f0' f1' fl' fr' rb' bk' g' σ' := by
  obtain ⟨y1, y2, ⟨m, m1, m2, m3⟩, ⟨m', m1', m2', m3'⟩, y5, y6, y7⟩ := h
  refine ⟨by rw [e0, s0]; exact y1, by rw [e1, s1]; exact y2, ⟨m, m1, by rw [el]; exact m2, fun i hi => by rw [sr 4 (by omega) (by omega)]; exact m3 i hi⟩, ⟨m', m1', by rw [er]; exact m2', fun i hi => by rw [sr 1 (by omega) (by omega)]; exact m3' i hi⟩, fun i hi hz => ?_, fun i hi hz => ?_, fun j hj => ?_⟩
  · rw [sr 4 (by omega) (by omega)] at hz
    rw [r0 i hi, r1 i hi, r2 i hi, r3 i hi, sr 5 (by omega) (by omega), sr 6 (by omega) (by omega), sr 7 (by omega) (by omega), sr 8 (by omega) (by omega)]
    exact y5 i hi hz
  · rw [sr 1 (by omega) (by omega)] at hz
    rw [r4 i hi, r5 i hi, r6 i hi, sr 1 (by omega) (by omega), sr 2 (by omega) (by omega), sr 3 (by omega) (by omega)]
    exact y6 i hi hz
  · rw [rk j hj, sr 9 (by omega) (by omega)]
    exact y7 j hj
theorem nine {P : Nat → Prop} (h1 : P 1) (h2 : P 2) (h3 : P 3) (h4 : P 4) (h5 : P 5) (h6 : P 6) (h7 : P 7) (h8 : P 8) (h9 : P 9) : ∀ i, 1 ≤ i → i ≤ 9 → P i := fun i a b => by
  rcases (by omega : i = 1 ∨ i = 2 ∨ i = 3 ∨ i = 4 ∨ i = 5 ∨ i = 6 ∨ i = 7 ∨ i = 8 ∨ i = 9) with rfl | rfl | rfl | rfl | rfl | rfl | rfl | rfl | rfl <;> assumption
def kpS (σ : SV) : SV := uRow (uRow (uRow (uRow (uRow (uRow (uRow (uRow (uRow (uRow (uN σ 0 8 1) 20 (σ 0)) 21 (σ 1)) 22 (σ 2)) 23 (σ 3)) 24 (σ 4)) 25 (σ 5)) 26 (σ 6)) 27 (σ 7)) 28 (σ 8)) 29 (σ 9)
def unS (σ : SV) : SV := uRow (uRow (uRow (uRow (uRow (uRow (uRow (uRow (uRow (uN (uN σ 0 0 (σ 20 0)) 0 1 (σ 20 1)) 1 (σ 21)) 2 (σ 22)) 3 (σ 23)) 4 (σ 24)) 5 (σ 25)) 6 (σ 26)) 7 (σ 27)) 8 (σ 28)) 9 (σ 29)
set_option maxHeartbeats 2000000 in
theorem p_keep {d : Nat} {n : Nat} {a : Nat → Nat → Int32} {b : Nat → Nat → Int64} {r : Nat → Nat → Option Nat} {σ : SV} {cl cl' : List Cls} {R R' : Nat → List Cls} {TL TS A : Nat} {TR : Nat → Nat} (h : (St a b r σ cl cl' R R' TL TS TR A)) : ∃ (v : Int32) (a1 : Nat → Nat → Int32) (b1 : Nat → Nat → Int64) (r1 : Nat → Nat → Option Nat) (a2 : Nat → Nat → Int32) (b2 : Nat → Nat → Int64), Den (d+60) 123 0 [.ref 14] [] (zmMk n a b r) = some (some (.int v), zmMk n a1 b1 r1) ∧ Den (d+60) 264 0 [.ref 94] [] (zmMk n a1 b1 r1) = some (some (.int v), zmMk n a2 b2 r1) ∧ InvS a2 b2 r1 (A + 1) := by
  obtain ⟨hB, hC, hM, hK⟩ := id h
  obtain ⟨a1, ha1⟩ : ∃ a1, a1 = uI (cpS a 20 16) 14 4 (iN 1) := ⟨_, rfl⟩
  have ea : ∀ q, q ≠ 14 → ¬ (20 ≤ q ∧ q ≤ 23) → a1 q = a q := fun q q1 q2 => by rw [ha1, uI_ne q1, cpS_ne (by omega)]
  have K0 : a1 19 0 = iN (σ 9 0) := by rw [ea 19 (by omega) (by omega)]; exact hC.2.2.1.2.2.2.2 0 (by omega)
  have K2 : a1 19 2 = iN (σ 9 2) := by rw [ea 19 (by omega) (by omega)]; exact hC.2.2.1.2.2.2.2 2 (by omega)
  have hG : σ 9 0 + σ 9 2 ≤ 60 := hB.1.2.2.2.2.1
  obtain ⟨m0, hm0⟩ : ∃ m0, m0 = (uI (uI (uI (uI (uI a1 94 80 (iN 1)) 94 81 ((uI a1 94 80 (iN 1)) 94 0)) 94 82 ((uI (uI a1 94 80 (iN 1)) 94 81 ((uI a1 94 80 (iN 1)) 94 0)) 94 1)) 94 83 ((uI (uI (uI a1 94 80 (iN 1)) 94 81 ((uI a1 94 80 (iN 1)) 94 0)) 94 82 ((uI (uI a1 94 80 (iN 1)) 94 81 ((uI a1 94 80 (iN 1)) 94 0)) 94 1)) 94 64)) 94 84 ((uI (uI (uI (uI a1 94 80 (iN 1)) 94 81 ((uI a1 94 80 (iN 1)) 94 0)) 94 82 ((uI (uI a1 94 80 (iN 1)) 94 81 ((uI a1 94 80 (iN 1)) 94 0)) 94 1)) 94 83 ((uI (uI (uI a1 94 80 (iN 1)) 94 81 ((uI a1 94 80 (iN 1)) 94 0)) 94 82 ((uI (uI a1 94 80 (iN 1)) 94 81 ((uI a1 94 80 (iN 1)) 94 0)) 94 1)) 94 64)) 94 65)) := ⟨_, rfl⟩
  have f0 : ∀ q, q ≠ 94 → m0 q = a1 q := fun q hq => by rw [hm0]; simp only [uI_ne hq]
  have g0 : ∀ j, ¬ (80 ≤ j ∧ j ≤ 84) → m0 94 j = a1 94 j := fun j hj => by rw [hm0, uI_nj (by omega), uI_nj (by omega), uI_nj (by omega), uI_nj (by omega), uI_nj (by omega)]
  have g80 : m0 94 80 = iN 1 := by rw [hm0, uI_nj (by omega), uI_nj (by omega), uI_nj (by omega), uI_nj (by omega), uI_self]
  have g81 : m0 94 81 = a1 94 0 := by rw [hm0, uI_nj (by omega), uI_nj (by omega), uI_nj (by omega), uI_self, uI_nj (by omega)]
  have g82 : m0 94 82 = a1 94 1 := by rw [hm0, uI_nj (by omega), uI_nj (by omega), uI_self, uI_nj (by omega), uI_nj (by omega)]
  have g83 : m0 94 83 = a1 94 64 := by rw [hm0, uI_nj (by omega), uI_self, uI_nj (by omega), uI_nj (by omega), uI_nj (by omega)]
  have g84 : m0 94 84 = a1 94 65 := by rw [hm0, uI_self, uI_nj (by omega), uI_nj (by omega), uI_nj (by omega), uI_nj (by omega)]
  have main : ∃ m8, Den (d+60) 264 0 [.ref 94] [] (zmMk n a1 b r) = some (some (.int (iN (σ 9 0 + σ 9 2))), zmMk n m8 b r) ∧ (∀ q, q < 139 → q ≠ 94 → m8 q = a1 q) ∧ (∀ j, m8 94 j = m0 94 j) ∧ (∀ j, j < 8 → m8 139 j = a1 127 j) ∧ (∀ j, j < 8 → m8 140 j = a1 128 j) ∧ (∀ j, j < 8 → m8 141 j = a1 129 j) ∧ (∀ j, j < 8 → m8 142 j = a1 130 j) ∧ (∀ j, j < 10 → m8 143 j = a1 131 j) ∧ (∀ j, j < 10 → m8 144 j = a1 132 j) ∧ (∀ j, j < 10 → m8 145 j = a1 133 j) ∧ (∀ j, j < 4 → m8 146 j = a1 136 j) := by
    obtain ⟨m1, e1, w1, o1⟩ := cpR_127 (d := d+59) (n := n) (b := b) (r := r) m0
    obtain ⟨m2, e2, w2, o2⟩ := cpR_128 (d := d+59) (n := n) (b := b) (r := r) m1
    obtain ⟨m3, e3, w3, o3⟩ := cpR_129 (d := d+59) (n := n) (b := b) (r := r) m2
    obtain ⟨m4, e4, w4, o4⟩ := cpR_130 (d := d+59) (n := n) (b := b) (r := r) m3
    obtain ⟨m5, e5, w5, o5⟩ := cpR_131 (d := d+59) (n := n) (b := b) (r := r) m4
    obtain ⟨m6, e6, w6, o6⟩ := cpR_132 (d := d+59) (n := n) (b := b) (r := r) m5
    obtain ⟨m7, e7, w7, o7⟩ := cpR_133 (d := d+59) (n := n) (b := b) (r := r) m6
    obtain ⟨m8, e8, w8, o8⟩ := cpR_136 (d := d+59) (n := n) (b := b) (r := r) m7
    have r0 : ∀ j, j < 8 → m8 139 j = a1 127 j := fun j hj => by rw [o8 139 (by omega), o7 139 (by omega), o6 139 (by omega), o5 139 (by omega), o4 139 (by omega), o3 139 (by omega), o2 139 (by omega), w1 j hj, f0 127 (by omega)]
    have r1 : ∀ j, j < 8 → m8 140 j = a1 128 j := fun j hj => by rw [o8 140 (by omega), o7 140 (by omega), o6 140 (by omega), o5 140 (by omega), o4 140 (by omega), o3 140 (by omega), w2 j hj, o1 128 (by omega), f0 128 (by omega)]
    have r2 : ∀ j, j < 8 → m8 141 j = a1 129 j := fun j hj => by rw [o8 141 (by omega), o7 141 (by omega), o6 141 (by omega), o5 141 (by omega), o4 141 (by omega), w3 j hj, o2 129 (by omega), o1 129 (by omega), f0 129 (by omega)]
    have r3 : ∀ j, j < 8 → m8 142 j = a1 130 j := fun j hj => by rw [o8 142 (by omega), o7 142 (by omega), o6 142 (by omega), o5 142 (by omega), w4 j hj, o3 130 (by omega), o2 130 (by omega), o1 130 (by omega), f0 130 (by omega)]
    have r4 : ∀ j, j < 10 → m8 143 j = a1 131 j := fun j hj => by rw [o8 143 (by omega), o7 143 (by omega), o6 143 (by omega), w5 j hj, o4 131 (by omega), o3 131 (by omega), o2 131 (by omega), o1 131 (by omega), f0 131 (by omega)]
    have r5 : ∀ j, j < 10 → m8 144 j = a1 132 j := fun j hj => by rw [o8 144 (by omega), o7 144 (by omega), w6 j hj, o5 132 (by omega), o4 132 (by omega), o3 132 (by omega), o2 132 (by omega), o1 132 (by omega), f0 132 (by omega)]
    have r6 : ∀ j, j < 10 → m8 145 j = a1 133 j := fun j hj => by rw [o8 145 (by omega), w7 j hj, o6 133 (by omega), o5 133 (by omega), o4 133 (by omega), o3 133 (by omega), o2 133 (by omega), o1 133 (by omega), f0 133 (by omega)]
    have r7 : ∀ j, j < 4 → m8 146 j = a1 136 j := fun j hj => by rw [w8 j hj, o7 136 (by omega), o6 136 (by omega), o5 136 (by omega), o4 136 (by omega), o3 136 (by omega), o2 136 (by omega), o1 136 (by omega), f0 136 (by omega)]
    have L0 : m8 136 0 = iN (σ 9 0) := by
      rw [o8 136 (by omega), o7 136 (by omega), o6 136 (by omega), o5 136 (by omega), o4 136 (by omega), o3 136 (by omega), o2 136 (by omega), o1 136 (by omega), f0 136 (by omega), ea 136 (by omega) (by omega)]
      exact hM.1.2.2.2.2.2.2 0 (by omega)
    have L2 : m8 136 2 = iN (σ 9 2) := by
      rw [o8 136 (by omega), o7 136 (by omega), o6 136 (by omega), o5 136 (by omega), o4 136 (by omega), o3 136 (by omega), o2 136 (by omega), o1 136 (by omega), f0 136 (by omega), ea 136 (by omega) (by omega)]
      exact hM.1.2.2.2.2.2.2 2 (by omega)
    refine ⟨m8, ?_, fun q h1 h2 => by rw [o8 q (by omega), o7 q (by omega), o6 q (by omega), o5 q (by omega), o4 q (by omega), o3 q (by omega), o2 q (by omega), o1 q (by omega), f0 q h2], fun j => by rw [o8 94 (by omega), o7 94 (by omega), o6 94 (by omega), o5 94 (by omega), o4 94 (by omega), o3 94 (by omega), o2 94 (by omega), o1 94 (by omega)], r0, r1, r2, r3, r4, r5, r6, r7⟩
    rw [b264_0, ← hm0, e1]
    simp only [Option.bind_some, Option.toList_some, Option.toList_none, List.cons_append, List.nil_append, true_or, or_true, if_true, bI_if, b264_50, b264_63, b264_76, b264_89, b264_102, b264_115, b264_128, b264_140, e2, e3, e4, e5, e6, e7, e8, L0, L2, n_add]
  obtain ⟨m8, e1, f1, f2, r0, r1, r2, r3, r4, r5, r6, r7⟩ := main
  refine ⟨iN (σ 9 0 + σ 9 2), a1, b, r, m8, b, ?_, e1, ?_⟩
  · have K0' : uI (cpS a 20 16) 14 4 (iN 1) 19 0 = iN (σ 9 0) := by rw [← ha1]; exact K0
    have K2' : uI (cpS a 20 16) 14 4 (iN 1) 19 2 = iN (σ 9 2) := by rw [← ha1]; exact K2
    rw [ha1]
    simp only [b123_0, c_copyK, Option.bind_some, Option.toList_some, Option.toList_none, List.cons_append, List.nil_append, true_or, or_true, if_true, bI_if, b123_11, b75_0, b123_23, K0', K2', n_add]
  · obtain ⟨x1, x2, x3, x4, x5, x6, x7, x8, x9⟩ := hB
    obtain ⟨c1, c2, c3, c4, c5, c6, c7, c8, c9, c10, c11, c12⟩ := id hC
    have hBn : StB (kpS σ) cl cl' R R' := ⟨x1, fun _ => x1, Nat.le_refl _, x4, x5, x6, x7, x8, x9⟩
    have hCn : (StC a1 b r (kpS σ) cl R TL TS TR A ∧ Cac ((kpS σ) 0 0) ((kpS σ) 0 5) (QS (kpS σ) cl) A a1 b) := by
      refine CC.upd0 ⟨hC, hK⟩ (fun q _ h1 _ => ea q (by omega) (by omega)) rfl rfl rfl ?_ ?_ ?_ ?_ ?_ ?_
      · exact c3.ag (fun q h1 h2 => ea q (by omega) (by omega))
      · refine ⟨by rw [ha1, uI_self]; rfl, fun _ => ?_⟩
        have hs : StoC (cpS a 20 16) 20 20 (kpS σ) := cpS_sto (go := 0) (by omega) c3 rfl rfl (nine rfl rfl rfl rfl rfl rfl rfl rfl rfl)
        exact hs.ag (fun q h1 h2 => by rw [ha1, uI_ne (by omega)])
      · rw [ha1, uI_nj (by omega), uI_ne (by omega), cpS_ne (by omega), cpS_ne (by omega)]
        exact c5
      · rw [ea 24 (by omega) (by omega), ea 25 (by omega) (by omega)]
        exact c6
      · rw [ea 27 (by omega) (by omega), ea 28 (by omega) (by omega)]
        exact c7
      · exact c9.ag (fun q h1 h2 => ea q (by omega) (by omega))
    have hMh := hM.hi (a' := a1) (fun q hq => ea q (by omega) (by omega))
    obtain ⟨z1, z2, z3, z4, z5, z6, z7, z8⟩ := hMh
    have g1 : ∀ j, ¬ (80 ≤ j ∧ j ≤ 84) → m8 94 j = a1 94 j := fun j hj => (f2 j).trans (g0 j hj)
    have hMn : StM m8 (kpS σ) cl' R' := by
      refine ⟨z1.ag (fun j hj => g1 j (by omega)) (fun k hk => f1 k (by omega) (by omega)), ⟨by rw [f2, g80]; rfl, fun _ => ?_⟩, ?_, ?_, ?_, z6.ag (g1 73 (by omega)) (g1 74 (by omega)) (f1 134 (by omega) (by omega)) (f1 135 (by omega) (by omega)), z7.ag (fun q h1 h2 => f1 q (by omega) (by omega)), fun j hj => (z8 j hj).ag (fun q h1 h2 => f1 q (by omega) (by omega))⟩
      · exact StoM.cp (g := 0) (g' := 20) (σ' := kpS σ) z1 (by rw [f2, g81]) (by rw [f2, g82]) (by rw [f2, g83]) (by rw [f2, g84]) r0 r1 r2 r3 r4 r5 r6 r7 rfl rfl (nine rfl rfl rfl rfl rfl rfl rfl rfl rfl)
      · rw [g1 8 (by omega), f1 95 (by omega) (by omega)]
        exact z3
      · rw [g1 2 (by omega), f1 96 (by omega) (by omega)]
        exact z4
      · rw [g1 4 (by omega), g1 3 (by omega), f1 98 (by omega) (by omega)]
        exact z5
    exact InvS.of (St.mkJ hBn hCn hMn (fun q hq => f1 q (by omega) (by omega)) (fun _ _ => rfl)) (Nat.le_succ _)
set_option maxHeartbeats 2000000 in
theorem p_undo {d : Nat} {n : Nat} {a : Nat → Nat → Int32} {b : Nat → Nat → Int64} {r : Nat → Nat → Option Nat} {σ : SV} {cl cl' : List Cls} {R R' : Nat → List Cls} {TL TS A : Nat} {TR : Nat → Nat} (h : (St a b r σ cl cl' R R' TL TS TR A)) (hA : A < 90000) : ∃ (v : Int32) (a1 : Nat → Nat → Int32) (b1 : Nat → Nat → Int64) (r1 : Nat → Nat → Option Nat) (a2 : Nat → Nat → Int32) (b2 : Nat → Nat → Int64), Den (d+60) 124 0 [.ref 14] [] (zmMk n a b r) = some (some (.int v), zmMk n a1 b1 r1) ∧ Den (d+60) 265 0 [.ref 94] [] (zmMk n a1 b1 r1) = some (some (.int v), zmMk n a2 b2 r1) ∧ InvS a2 b2 r1 (A + 1) := by
  obtain ⟨hB, hC, hM, hK⟩ := id h
  have c14 : a 14 4 = iN (σ 0 8) := hC.2.2.2.1.1
  have c80 : a 94 80 = iN (σ 0 8) := hM.2.1.1
  have h8 : σ 0 8 ≤ 1 := hB.2.2.1
  by_cases hk : σ 0 8 = 1
  · have n80 : (iN (σ 0 8) = iN 0) = False := by rw [hk]; decide +kernel
    obtain ⟨a1, ha1⟩ : ∃ a1, a1 = fgA (cpS a 16 20) := ⟨_, rfl⟩
    have ea : ∀ q, q ≠ 29 → q ≠ 62 → ¬ (16 ≤ q ∧ q ≤ 19) → a1 q = a q := fun q q1 q3 q2 => by rw [ha1, fgA_ne q1 q3, cpS_ne (by omega)]
    obtain ⟨m0, hm0⟩ : ∃ m0, m0 = (uI (uI (uI (uI a1 94 0 (a1 94 81)) 94 1 ((uI a1 94 0 (a1 94 81)) 94 82)) 94 64 ((uI (uI a1 94 0 (a1 94 81)) 94 1 ((uI a1 94 0 (a1 94 81)) 94 82)) 94 83)) 94 65 ((uI (uI (uI a1 94 0 (a1 94 81)) 94 1 ((uI a1 94 0 (a1 94 81)) 94 82)) 94 64 ((uI (uI a1 94 0 (a1 94 81)) 94 1 ((uI a1 94 0 (a1 94 81)) 94 82)) 94 83)) 94 84)) := ⟨_, rfl⟩
    have f0 : ∀ q, q ≠ 94 → m0 q = a1 q := fun q hq => by rw [hm0]; simp only [uI_ne hq]
    have g0 : ∀ j, j ≠ 0 → j ≠ 1 → j ≠ 64 → j ≠ 65 → m0 94 j = a1 94 j := fun j h1 h2 h3 h4 => by rw [hm0, uI_nj h4, uI_nj h3, uI_nj h2, uI_nj h1]
    have g80 : m0 94 0 = a1 94 81 := by rw [hm0, uI_nj (by omega), uI_nj (by omega), uI_nj (by omega), uI_self]
    have g81 : m0 94 1 = a1 94 82 := by rw [hm0, uI_nj (by omega), uI_nj (by omega), uI_self, uI_nj (by omega)]
    have g82 : m0 94 64 = a1 94 83 := by rw [hm0, uI_nj (by omega), uI_self, uI_nj (by omega), uI_nj (by omega)]
    have g83 : m0 94 65 = a1 94 84 := by rw [hm0, uI_self, uI_nj (by omega), uI_nj (by omega), uI_nj (by omega)]
    have main : ∃ m8, Den (d+60) 265 0 [.ref 94] [] (zmMk n a1 b r) = some (some (.int (iN 1)), zmMk n (uI m8 94 74 (iN 0)) b r) ∧ (∀ q, q ≠ 94 → ¬ (127 ≤ q ∧ q ≤ 133) → q ≠ 136 → m8 q = a1 q) ∧ (∀ j, m8 94 j = m0 94 j) ∧ (∀ j, j < 8 → m8 127 j = a1 139 j) ∧ (∀ j, j < 8 → m8 128 j = a1 140 j) ∧ (∀ j, j < 8 → m8 129 j = a1 141 j) ∧ (∀ j, j < 8 → m8 130 j = a1 142 j) ∧ (∀ j, j < 10 → m8 131 j = a1 143 j) ∧ (∀ j, j < 10 → m8 132 j = a1 144 j) ∧ (∀ j, j < 10 → m8 133 j = a1 145 j) ∧ (∀ j, j < 4 → m8 136 j = a1 146 j) := by
      obtain ⟨m1, e1, w1, o1⟩ := cpR_139 (d := d+59) (n := n) (b := b) (r := r) m0
      obtain ⟨m2, e2, w2, o2⟩ := cpR_140 (d := d+59) (n := n) (b := b) (r := r) m1
      obtain ⟨m3, e3, w3, o3⟩ := cpR_141 (d := d+59) (n := n) (b := b) (r := r) m2
      obtain ⟨m4, e4, w4, o4⟩ := cpR_142 (d := d+59) (n := n) (b := b) (r := r) m3
      obtain ⟨m5, e5, w5, o5⟩ := cpR_143 (d := d+59) (n := n) (b := b) (r := r) m4
      obtain ⟨m6, e6, w6, o6⟩ := cpR_144 (d := d+59) (n := n) (b := b) (r := r) m5
      obtain ⟨m7, e7, w7, o7⟩ := cpR_145 (d := d+59) (n := n) (b := b) (r := r) m6
      obtain ⟨m8, e8, w8, o8⟩ := cpR_146 (d := d+59) (n := n) (b := b) (r := r) m7
      have r0 : ∀ j, j < 8 → m8 127 j = a1 139 j := fun j hj => by rw [o8 127 (by omega), o7 127 (by omega), o6 127 (by omega), o5 127 (by omega), o4 127 (by omega), o3 127 (by omega), o2 127 (by omega), w1 j hj, f0 139 (by omega)]
      have r1 : ∀ j, j < 8 → m8 128 j = a1 140 j := fun j hj => by rw [o8 128 (by omega), o7 128 (by omega), o6 128 (by omega), o5 128 (by omega), o4 128 (by omega), o3 128 (by omega), w2 j hj, o1 140 (by omega), f0 140 (by omega)]
      have r2 : ∀ j, j < 8 → m8 129 j = a1 141 j := fun j hj => by rw [o8 129 (by omega), o7 129 (by omega), o6 129 (by omega), o5 129 (by omega), o4 129 (by omega), w3 j hj, o2 141 (by omega), o1 141 (by omega), f0 141 (by omega)]
      have r3 : ∀ j, j < 8 → m8 130 j = a1 142 j := fun j hj => by rw [o8 130 (by omega), o7 130 (by omega), o6 130 (by omega), o5 130 (by omega), w4 j hj, o3 142 (by omega), o2 142 (by omega), o1 142 (by omega), f0 142 (by omega)]
      have r4 : ∀ j, j < 10 → m8 131 j = a1 143 j := fun j hj => by rw [o8 131 (by omega), o7 131 (by omega), o6 131 (by omega), w5 j hj, o4 143 (by omega), o3 143 (by omega), o2 143 (by omega), o1 143 (by omega), f0 143 (by omega)]
      have r5 : ∀ j, j < 10 → m8 132 j = a1 144 j := fun j hj => by rw [o8 132 (by omega), o7 132 (by omega), w6 j hj, o5 144 (by omega), o4 144 (by omega), o3 144 (by omega), o2 144 (by omega), o1 144 (by omega), f0 144 (by omega)]
      have r6 : ∀ j, j < 10 → m8 133 j = a1 145 j := fun j hj => by rw [o8 133 (by omega), w7 j hj, o6 145 (by omega), o5 145 (by omega), o4 145 (by omega), o3 145 (by omega), o2 145 (by omega), o1 145 (by omega), f0 145 (by omega)]
      have r7 : ∀ j, j < 4 → m8 136 j = a1 146 j := fun j hj => by rw [w8 j hj, o7 146 (by omega), o6 146 (by omega), o5 146 (by omega), o4 146 (by omega), o3 146 (by omega), o2 146 (by omega), o1 146 (by omega), f0 146 (by omega)]
      have l80 : a1 94 80 = iN (σ 0 8) := by rw [ea 94 (by omega) (by omega) (by omega)]; exact c80
      refine ⟨m8, ?_, fun q h1 h2 h3 => by rw [o8 q (by omega), o7 q (by omega), o6 q (by omega), o5 q (by omega), o4 q (by omega), o3 q (by omega), o2 q (by omega), o1 q (by omega), f0 q h1], fun j => by rw [o8 94 (by omega), o7 94 (by omega), o6 94 (by omega), o5 94 (by omega), o4 94 (by omega), o3 94 (by omega), o2 94 (by omega), o1 94 (by omega)], r0, r1, r2, r3, r4, r5, r6, r7⟩
      rw [b265_0, l80]
      simp only [n80, if_false]
      rw [b265_9, ← hm0, e1]
      simp only [Option.bind_some, Option.toList_some, Option.toList_none, List.cons_append, List.nil_append, true_or, or_true, if_true, bI_if, b265_54, b265_67, b265_80, b265_93, b265_106, b265_119, b265_132, b265_144, e2, e3, e4, e5, e6, e7, e8]
    obtain ⟨m8, e1, f1, f2, r0, r1, r2, r3, r4, r5, r6, r7⟩ := main
    refine ⟨iN 1, a1, b, r, uI m8 94 74 (iN 0), b, ?_, e1, ?_⟩
    · rw [ha1]
      simp only [b124_0, c14, n80, if_false, b124_9, c_copyU, Option.bind_some, Option.toList_some, Option.toList_none, List.cons_append, List.nil_append, true_or, or_true, if_true, bI_if, b124_20, c_forget, b124_24]
    · obtain ⟨x1, x2, x3, x4, x5, x6, x7, x8, x9⟩ := hB
      obtain ⟨c1, c2, c3, c4, c5, c6, c7, c8, c9, c10, c11, c12⟩ := id hC
      have e29 : (cpS a 16 20) 29 6 = iN A := by rw [cpS_ne (by omega)]; exact c8.2
      have hBn : StB (fgS (unS σ)) cl cl' R R' := ⟨x2 hk, x2, x3, x4, x5, x6, x7.fall, x8, x9⟩
      have hCn : (StC a1 b r (fgS (unS σ)) cl R TL TS TR (A + 1) ∧ Cac ((fgS (unS σ)) 0 0) ((fgS (unS σ)) 0 5) (QS (fgS (unS σ)) cl) (A + 1) a1 b) := by
        rw [ha1] at ea ⊢
        refine ⟨hC.upd (fun q _ _ h1 h2 => ea q (by omega) (by omega) (by omega)) rfl rfl ?_ ?_ ?_ ?_ ?_ ?_ fgA_log, hK.forget (by omega) c8.2 (ea 52 (by omega) (by omega) (by omega)) (fgA_6 e29) (ea 54 (by omega) (by omega) (by omega)) (ea 55 (by omega) (by omega) (by omega))⟩
        · have hs : StoC (cpS a 16 20) 16 0 (fgS (unS σ)) := cpS_sto (go := 20) (by omega) (c4.2 hk) rfl rfl (nine rfl rfl rfl rfl rfl rfl rfl rfl rfl)
          exact hs.ag (fun q h1 h2 => by rw [fgA_ne (by omega) (by omega)])
        · rw [ea 14 (by omega) (by omega) (by omega)]
          exact ⟨c4.1, fun q => (c4.2 q).ag (fun k h1 h2 => ea k (by omega) (by omega) (by omega))⟩
        · rw [ea 14 (by omega) (by omega) (by omega), ea 15 (by omega) (by omega) (by omega)]
          exact c5
        · rw [ea 24 (by omega) (by omega) (by omega), ea 25 (by omega) (by omega) (by omega)]
          exact c6
        · rw [ea 27 (by omega) (by omega) (by omega), ea 28 (by omega) (by omega) (by omega)]
          exact c7
        · exact ⟨by rw [fgA_5, cpS_ne (by omega)]; exact c8.1, fgA_6 e29⟩
      have hMh := hM.hi (a' := a1) (fun q hq => ea q (by omega) (by omega) (by omega))
      obtain ⟨z1, z2, z3, z4, z5, z6, z7, z8⟩ := hMh
      have f3 : ∀ q, q ≠ 94 → uI m8 94 74 (iN 0) q = m8 q := fun q hq => uI_ne hq
      have f4 : ∀ q, q ≠ 94 → ¬ (127 ≤ q ∧ q ≤ 133) → q ≠ 136 → uI m8 94 74 (iN 0) q = a1 q := fun q h1 h2 h3 => by rw [uI_ne h1]; exact f1 q h1 h2 h3
      have g1 : ∀ j, j ≠ 0 → j ≠ 1 → j ≠ 64 → j ≠ 65 → j ≠ 74 → uI m8 94 74 (iN 0) 94 j = a1 94 j := fun j h1 h2 h3 h4 h5 => by rw [uI_nj h5, f2]; exact g0 j h1 h2 h3 h4
      have hMn : StM (uI m8 94 74 (iN 0)) (fgS (unS σ)) cl' R' := by
        refine ⟨?_, ?_, ?_, ?_, ?_, LogM.fall uI_self, z7.ag (fun q h1 h2 => f4 q (by omega) (by omega) (by omega)), fun j hj => (z8 j hj).ag (fun q h1 h2 => f4 q (by omega) (by omega) (by omega))⟩
        · exact StoM.cp (g := 20) (g' := 0) (σ' := fgS (unS σ)) (z2.2 hk) (by rw [uI_nj (by omega), f2, g80]) (by rw [uI_nj (by omega), f2, g81]) (by rw [uI_nj (by omega), f2, g82]) (by rw [uI_nj (by omega), f2, g83]) (fun j hj => by rw [f3 _ (by omega)]; exact r0 j hj) (fun j hj => by rw [f3 _ (by omega)]; exact r1 j hj) (fun j hj => by rw [f3 _ (by omega)]; exact r2 j hj) (fun j hj => by rw [f3 _ (by omega)]; exact r3 j hj) (fun j hj => by rw [f3 _ (by omega)]; exact r4 j hj) (fun j hj => by rw [f3 _ (by omega)]; exact r5 j hj) (fun j hj => by rw [f3 _ (by omega)]; exact r6 j hj) (fun j hj => by rw [f3 _ (by omega)]; exact r7 j hj) rfl rfl (nine rfl rfl rfl rfl rfl rfl rfl rfl rfl)
        · rw [g1 80 (by omega) (by omega) (by omega) (by omega) (by omega)]
          exact ⟨z2.1, fun q => (z2.2 q).ag (fun j hj => g1 j (by omega) (by omega) (by omega) (by omega) (by omega)) (fun k hk => f4 k (by omega) (by omega) (by omega))⟩
        · rw [g1 8 (by omega) (by omega) (by omega) (by omega) (by omega), f4 95 (by omega) (by omega) (by omega)]
          exact z3
        · rw [g1 2 (by omega) (by omega) (by omega) (by omega) (by omega), f4 96 (by omega) (by omega) (by omega)]
          exact z4
        · rw [g1 4 (by omega) (by omega) (by omega) (by omega) (by omega), g1 3 (by omega) (by omega) (by omega) (by omega) (by omega), f4 98 (by omega) (by omega) (by omega)]
          exact z5
      exact InvS.of (St.mkJ hBn hCn hMn (fun q hq => f4 q (by omega) (by omega) (by omega)) (fun _ _ => rfl)) (Nat.le_refl _)
  · have h0 : σ 0 8 = 0 := by omega
    have n80 : (iN (σ 0 8) = iN 0) = True := by rw [h0]; exact eq_true rfl
    refine ⟨iN 0, a, b, r, a, b, ?_, ?_, InvS.of h (Nat.le_succ _)⟩
    · simp only [b124_0, c14, n80, if_true, b124_7]
    · simp only [b265_0, c80, n80, if_true, b265_7]
