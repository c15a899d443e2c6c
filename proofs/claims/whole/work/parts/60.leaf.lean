/-! ===== small numbers as Nat, truth as Bool; the leaves of both classes ===== -/
theorem iN_0 : (0 : Int32) = iN 0 := rfl
theorem iN_1 : (1 : Int32) = iN 1 := rfl
theorem n_add (i j : Nat) : iN i + iN j = iN (i + j) := (Int32.ofNat_add i j).symm
theorem n_mul (i j : Nat) : iN i * iN j = iN (i * j) := (Int32.ofNat_mul i j).symm
theorem n_sub {i j : Nat} (h : j ≤ i) : iN i - iN j = iN (i - j) := (Int32.ofNat_sub i j h).symm
theorem n_div {i j : Nat} (hi : i < 2147483648) (hj : j < 2147483648) : iN i / iN j = iN (i / j) := (Int32.ofNat_div hi hj).symm
theorem n_rem {i j : Nat} (hi : i < 2147483648) (hj : j < 2147483648) : iN i - iN i / iN j * iN j = iN (i % j) := by
  rw [n_div hi hj, n_mul, n_sub (Nat.div_mul_le_self i j)]
  congr 1
  have := Nat.div_add_mod i j
  rw [Nat.mul_comm] at this
  omega
theorem n_lt {i j : Nat} (hi : i < 2147483648) (hj : j < 2147483648) : (iN i < iN j) = (i < j) := propext (Int32.ofNat_lt_iff_lt hi hj)
theorem n_le {i j : Nat} (hi : i < 2147483648) (hj : j < 2147483648) : (iN i ≤ iN j) = (i ≤ j) := propext (Int32.ofNat_le_iff_le hi hj)
theorem n_toI {i : Nat} (hi : i < 2147483648) : (iN i).toInt = i := Int32.toInt_ofNat_of_lt hi
theorem n_eq {i j : Nat} (hi : i < 2147483648) (hj : j < 2147483648) : (iN i = iN j) = (i = j) := by
  refine propext ⟨fun h => ?_, fun h => by rw [h]⟩
  have h2 := congrArg Int32.toInt h
  rw [n_toI hi, n_toI hj] at h2
  exact Int.ofNat_inj.mp h2
theorem n_nat {i : Nat} (hi : i < 2147483648) : (iN i).toNatClampNeg = i := Int32.toNatClampNeg_ofNat_of_lt hi
theorem n_and (i j : Nat) : iN i &&& iN j = iN (i &&& j) := by
  apply Int32.toBitVec_inj.mp
  show BitVec.ofNat 32 i &&& BitVec.ofNat 32 j = BitVec.ofNat 32 (i &&& j)
  exact (BitVec.ofNat_and ..).symm
theorem n_or (i j : Nat) : iN i ||| iN j = iN (i ||| j) := by
  apply Int32.toBitVec_inj.mp
  show BitVec.ofNat 32 i ||| BitVec.ofNat 32 j = BitVec.ofNat 32 (i ||| j)
  exact (BitVec.ofNat_or ..).symm
theorem n_not_neg {i : Nat} (hi : i < 2147483648) : (iN i < iN 0) = False := by
  rw [n_lt hi (by decide)]
  simp
theorem n_in {i k : Nat} (hi : i < 2147483648) : zmIn (iN i) k = decide (i < k) := by
  unfold zmIn
  rw [n_nat hi, decide_eq_false (by rw [iN_0, n_not_neg hi]; exact not_false)]
  by_cases h : i < k
  · simp [h, Nat.not_le.mpr h]
  · simp [h, Nat.not_lt.mp h]
theorem n_ofI {k : Nat} {x : Int32} (h : x.toInt = k) : x = iN k := by
  have h2 := x.toInt_lt
  apply Int32.toInt_inj.mp
  rw [n_toI (by omega), h]
theorem n_sub_toI {i j : Nat} (hi : i < 2147483648) (hj : j < 2147483648) : (iN i - iN j).toInt = (i : Int) - j := by
  have e : iN i - iN j = Int32.ofInt ((i : Int) - j) := by
    rw [Int32.ofInt_sub, Int32.ofInt_eq_ofNat, Int32.ofInt_eq_ofNat]
    rfl
  rw [e, Int32.toInt_ofInt_of_le (by omega) (by omega)]
theorem n_sub_neg {i j : Nat} (hi : i < 2147483648) (hj : j < 2147483648) : (iN i - iN j < iN 0) = (i < j) := by
  rw [Int32.lt_iff_toInt_lt, n_sub_toI hi hj, n_toI (by decide)]
  exact propext ⟨fun h => by omega, fun h => by omega⟩
theorem n_sub_pos {i j : Nat} (hi : i < 2147483648) (hj : j < 2147483648) : (iN 0 < iN i - iN j) = (j < i) := by
  rw [Int32.lt_iff_toInt_lt, n_sub_toI hi hj, n_toI (by decide)]
  exact propext ⟨fun h => by omega, fun h => by omega⟩
theorem n_lt_sub {i j k : Nat} (hi : i < 2147483648) (hj : j < 2147483648) (hk : k < 2147483648) : (iN k < iN i - iN j) = (k + j < i) := by
  rw [Int32.lt_iff_toInt_lt, n_sub_toI hi hj, n_toI hk]
  exact propext ⟨fun h => by omega, fun h => by omega⟩
/-- an Int32 that is 0 or more is a small number -/
theorem n_of (x : Int32) (h : ¬ x < iN 0) : ∃ k : Nat, k < 2147483648 ∧ x = iN k := ⟨x.toNatClampNeg, x.toNatClampNeg_lt, (Int32.ofNat_toNatClampNeg x (Int32.not_lt.mp h)).symm⟩
theorem n_between {x : Int32} {lo hi : Nat} (hh : hi < 2147483648) (h1 : ¬ x < iN lo) (h2 : ¬ iN hi < x) (hl : lo < 2147483648) : ∃ k : Nat, lo ≤ k ∧ k ≤ hi ∧ x = iN k := by
  have h0 : ¬ x < iN 0 := fun h => h1 (by
    rw [Int32.lt_iff_toInt_lt] at h ⊢
    rw [n_toI hl]
    rw [n_toI (by decide)] at h
    omega)
  obtain ⟨k, hk, rfl⟩ := n_of x h0
  rw [n_lt hk hl] at h1
  rw [n_lt hh hk] at h2
  exact ⟨k, by omega, by omega, rfl⟩
def bI (c : Bool) : Int32 := bif c then iN 1 else iN 0
theorem bI_t : bI true = iN 1 := rfl
theorem bI_f : bI false = iN 0 := rfl
theorem iN_ne : (iN 0 = iN 1) = False := by rw [n_eq (by decide) (by decide)]; simp
theorem iN_en : (iN 1 = iN 0) = False := by rw [n_eq (by decide) (by decide)]; simp
theorem bI_z (c : Bool) : (bI c = iN 0 ∨ bI c = iN 1) = True := by cases c <;> simp [bI]
theorem bI_0 (c : Bool) : (bI c = iN 0) = (c = false) := by cases c <;> simp [bI, iN_en]
theorem bI_1 (c : Bool) : (bI c = iN 1) = (c = true) := by cases c <;> simp [bI, iN_ne]
theorem bI_if {α : Type} (c : Bool) (x y : α) : (if bI c = iN 0 then x else y) = if c = true then y else x := by cases c <;> simp [bI, iN_en]
theorem bI_if1 {α : Type} (c : Bool) (x y : α) : (if bI c = iN 1 then x else y) = if c = true then x else y := by cases c <;> simp [bI, iN_ne]
theorem z0 : (iN 0 = iN 0 ∨ iN 0 = iN 1) = True := by simp
theorem z1 : (iN 1 = iN 0 ∨ iN 1 = iN 1) = True := by simp
theorem bI_ite (p : Prop) [Decidable p] : (if p then iN 1 else iN 0) = bI (decide p) := by by_cases h : p <;> simp [h, bI]
def bN (c : Bool) : Nat := bif c then 1 else 0
theorem bI_N (c : Bool) : bI c = iN (bN c) := by cases c <;> rfl
theorem bN_le (c : Bool) : bN c ≤ 1 := by cases c <;> decide
/-- between two bounds -/
def inI (x lo hi : Int32) : Bool := !decide (x < lo) && !decide (hi < x)
theorem inI_n {i lo hi : Nat} (h1 : i < 2147483648) (h2 : lo < 2147483648) (h3 : hi < 2147483648) : inI (iN i) (iN lo) (iN hi) = (decide (lo ≤ i) && decide (i ≤ hi)) := by
  unfold inI
  rw [Bool.eq_iff_iff]
  simp only [Bool.and_eq_true, Bool.not_eq_true', decide_eq_false_iff_not, decide_eq_true_eq, n_lt h1 h2, n_lt h3 h1]
  omega
theorem inI_ex {x : Int32} {lo hi : Nat} (h2 : lo < 2147483648) (h3 : hi < 2147483648) (h : inI x (iN lo) (iN hi) = true) : ∃ k : Nat, lo ≤ k ∧ k ≤ hi ∧ x = iN k := by
  unfold inI at h
  simp only [Bool.and_eq_true, Bool.not_eq_true', decide_eq_false_iff_not] at h
  exact n_between h3 h.1 h.2 h2
def isSt (y e : Int32) : Bool := inI y (iN 0) (iN 120) && inI e (iN 0) (iN 9)
def isMv (x : Int32) : Bool := inI x (iN 1) (iN 7) && !decide (x = iN 4)
theorem c_within {d : Nat} {n : Nat} {a : Nat → Nat → Int32} {b : Nat → Nat → Int64} {r : Nat → Nat → Option Nat} {x lo hi : Int32} : Den (d) 134 0 [.int x, .int lo, .int hi] [] (zmMk n a b r) = some (some (.int (bI (inI x lo hi))), (zmMk n a b r)) := by
  simp only [b134_0, b134_5, b134_10, b134_14, b134_15, z0, z1, if_true]
  unfold inI
  by_cases h1 : x < lo <;> by_cases h2 : hi < x <;> simp [h1, h2, bI]
theorem m_in {d : Nat} {n : Nat} {a : Nat → Nat → Int32} {b : Nat → Nat → Int64} {r : Nat → Nat → Option Nat} {x lo hi : Int32} : Den (d) 150 0 [.int x, .int lo, .int hi] [] (zmMk n a b r) = some (some (.int (bI (inI x lo hi))), (zmMk n a b r)) := by
  simp only [b150_0, b150_5, b150_10, b150_14, b150_15, z0, z1, if_true]
  unfold inI
  by_cases h1 : x < lo <;> by_cases h2 : hi < x <;> simp [h1, h2, bI]
theorem c_isState {d : Nat} {n : Nat} {a : Nat → Nat → Int32} {b : Nat → Nat → Int64} {r : Nat → Nat → Option Nat} {y e : Int32} : Den (d+1) 135 0 [.int y, .int e] [] (zmMk n a b r) = some (some (.int (bI (isSt y e))), (zmMk n a b r)) := by
  simp only [b135_0, b135_7, b135_10, b135_17, b135_20, b135_24, b135_25, c_within, Option.bind_some, Option.toList_some, List.cons_append, List.nil_append, bI_if, z0, z1, if_true]
  unfold isSt
  cases inI y (iN 0) (iN 120) <;> cases inI e (iN 0) (iN 9) <;> rfl
theorem c_isMove {d : Nat} {n : Nat} {a : Nat → Nat → Int32} {b : Nat → Nat → Int64} {r : Nat → Nat → Option Nat} {x : Int32} : Den (d+1) 136 0 [.int x] [] (zmMk n a b r) = some (some (.int (bI (isMv x))), (zmMk n a b r)) := by
  simp only [b136_0, b136_7, b136_10, b136_15, b136_19, b136_20, c_within, Option.bind_some, Option.toList_some, List.cons_append, List.nil_append, bI_if, z0, z1, if_true]
  unfold isMv
  by_cases h : x = iN 4 <;> cases inI x (iN 1) (iN 7) <;> simp [h, bI]
/-- an element, 0 where there is none -/
def itV {α : Type} (z : α) (len : Nat) (f : Nat → α) (i : Int32) : α := if i < iN 0 then z else if i < iN len then f i.toNatClampNeg else z
theorem itV_n {α : Type} {z : α} {len : Nat} {f : Nat → α} {i : Nat} (h : i < len) (hl : len < 2147483648) : itV z len f (iN i) = f i := by
  have hi : i < 2147483648 := Nat.lt_trans h hl
  unfold itV
  rw [if_neg (by rw [n_not_neg hi]; exact not_false), if_pos (by rw [n_lt hi hl]; exact h), n_nat hi]
theorem itV_o {α : Type} {z : α} {len : Nat} {f : Nat → α} {i : Nat} (h : ¬ i < len) (hi : i < 2147483648) (hl : len < 2147483648) : itV z len f (iN i) = z := by
  unfold itV
  rw [if_neg (by rw [n_not_neg hi]; exact not_false), if_neg (by rw [n_lt hi hl]; exact h)]
theorem itV_neg {α : Type} {z : α} {len : Nat} {f : Nat → α} {i : Int32} (h : i < iN 0) : itV z len f i = z := if_pos h
theorem zmIn_of {i : Int32} {len : Nat} (hl : len < 2147483648) (h1 : ¬ i < iN 0) (h2 : i < iN len) : zmIn i len = true := by
  obtain ⟨k, hk, rfl⟩ := n_of i h1
  rw [n_lt hk hl] at h2
  rw [n_in hk, decide_eq_true h2]
theorem kd_of {p k len n : Nat} {a : Nat → Nat → Int32} {b : Nat → Nat → Int64} {r : Nat → Nat → Option Nat} (hp : zmLay p = (k, len)) (h1 : p < 147) : zmKd p (zmMk n a b r) = k := by
  unfold zmKd
  rw [show Nat.blt p (zmMk n a b r).1.1 = true from Nat.blt_eq.mpr h1, hp]
  rfl
theorem len_of {p k len n : Nat} {a : Nat → Nat → Int32} {b : Nat → Nat → Int64} {r : Nat → Nat → Option Nat} (hp : zmLay p = (k, len)) (h0 : p ≠ 0) : zmLen p (zmMk n a b r) = len := by
  unfold zmLen
  rw [if_neg h0, hp]
theorem c_item {d p len : Nat} {n : Nat} {a : Nat → Nat → Int32} {b : Nat → Nat → Int64} {r : Nat → Nat → Option Nat} {i : Int32} (hp : zmLay p = (20, len)) (h0 : p ≠ 0) (h1 : p < 147) (hl : len < 2147483648) : Den (d) 145 0 [.ref p, .int i] [] (zmMk n a b r) = some (some (.int (itV (iN 0) len (a p) i)), (zmMk n a b r)) := by
  have hK : zmKd p (zmMk n a b r) = 20 := kd_of hp h1
  have hL : zmLen p (zmMk n a b r) = len := len_of hp h0
  have e16 : Den d 145 16 [.ref p, .int i] [] (zmMk n a b r) = some (some (.int (iN 0)), (zmMk n a b r)) := (Den_blk [zmi (.iconst 0) 1 0] (by decide +kernel) rfl).trans (Den_retE (zmr (.ireturn) 1 0 0 0 0 0) (by decide +kernel) rfl)
  have e0 : Den d 145 0 [.ref p, .int i] [] (zmMk n a b r) = if i < iN 0 then Den d 145 16 [.ref p, .int i] [] (zmMk n a b r) else Den d 145 4 [.ref p, .int i] [] (zmMk n a b r) := (Den_blk [zm0 (.iload_n 1) 1, zm0 (.ifCond .lt 15) 3] (pc' := if i < iN 0 then 16 else 4) (L' := [.ref p, .int i]) (st' := []) (x' := (zmMk n a b r)) (by decide +kernel) rfl).trans (Den_ite _)
  have e4 : Den d 145 4 [.ref p, .int i] [] (zmMk n a b r) = Den d 145 7 [.ref p, .int i] [.int (iN len), .int i] (zmMk n a b r) := by
    refine (Den_blk [zm0 (.iload_n 1) 1, zm0 (.aload_n 0) 1] (pc' := 6) (L' := [.ref p, .int i]) (st' := [.ref p, .int i]) (x' := (zmMk n a b r)) (by decide +kernel) rfl).trans (Den_next ((zmStep_of (i := zm0 (.arraylength) 1) (by decide +kernel)).trans ?_))
    show (if 20 ≤ zmKd p (zmMk n a b r) ∧ zmKd p (zmMk n a b r) < 50 ∧ zmKd p (zmMk n a b r) ≠ 30 then (some (.inl (7, [.ref p, .int i], .int (iN (zmLen p (zmMk n a b r))) :: [.int i], (zmMk n a b r))) : Option zmR) else none) = _
    rw [hK, hL]
    rfl
  have e7 : Den d 145 7 [.ref p, .int i] [.int (iN len), .int i] (zmMk n a b r) = if i < iN len then Den d 145 10 [.ref p, .int i] [] (zmMk n a b r) else Den d 145 16 [.ref p, .int i] [] (zmMk n a b r) := (Den_blk [zm0 (.if_icmp .ge 9) 3] (pc' := if i < iN len then 10 else 16) (L' := [.ref p, .int i]) (st' := []) (x' := (zmMk n a b r)) (by decide +kernel) rfl).trans (Den_ite _)
  rw [e0]
  unfold itV
  by_cases hi : i < iN 0
  · rw [if_pos hi, if_pos hi, e16]
  · rw [if_neg hi, if_neg hi, e4, e7]
    by_cases hj : i < iN len
    · rw [if_pos hj, if_pos hj]
      refine (Den_blk [zm0 (.aload_n 0) 1, zm0 (.iload_n 1) 1] (pc' := 12) (L' := [.ref p, .int i]) (st' := [.int i, .ref p]) (x' := (zmMk n a b r)) (by decide +kernel) rfl).trans ((Den_next (pc' := 13) (L' := [.ref p, .int i]) (st' := [.int (a p i.toNatClampNeg)]) (x' := (zmMk n a b r)) ((zmStep_of (i := zm0 (.iaload) 1) (by decide +kernel)).trans ?_)).trans ?_)
      · show (if zmIn i (zmLen p (zmMk n a b r)) = true then (match zmKd p (zmMk n a b r) with
          | 20 => (some (.inl (13, [.ref p, .int i], .int (gI (zmMk n a b r) p i.toNatClampNeg) :: [], (zmMk n a b r))) : Option zmR)
          | 40 => (some (.inl (13, [.ref p, .int i], .int (gI (zmMk n a b r) p i.toNatClampNeg) :: [], (zmMk n a b r))) : Option zmR)
          | _ => none) else none) = _
        rw [hK, hL, if_pos (zmIn_of hl hi hj)]
        rfl
      · exact (Den_blk [zm0 (.goto 4) 3] (pc' := 17) (L' := [.ref p, .int i]) (st' := [.int (a p i.toNatClampNeg)]) (x' := (zmMk n a b r)) (by decide +kernel) rfl).trans (Den_retE (zmr (.ireturn) 1 0 0 0 0 0) (by decide +kernel) rfl)
    · rw [if_neg hj, if_neg hj, e16]
theorem c_longItem {d p len : Nat} {n : Nat} {a : Nat → Nat → Int32} {b : Nat → Nat → Int64} {r : Nat → Nat → Option Nat} {i : Int32} (hp : zmLay p = (21, len)) (h0 : p ≠ 0) (h1 : p < 147) (hl : len < 2147483648) : Den (d) 147 0 [.ref p, .int i] [] (zmMk n a b r) = some (some (.long (itV 0 len (b p) i)), (zmMk n a b r)) := by
  have hK : zmKd p (zmMk n a b r) = 21 := kd_of hp h1
  have hL : zmLen p (zmMk n a b r) = len := len_of hp h0
  have e16 : Den d 147 16 [.ref p, .int i] [] (zmMk n a b r) = some (some (.long 0), (zmMk n a b r)) := (Den_blk [zml (.lconst 0) 1 0] (by decide +kernel) rfl).trans (Den_retE (zm0 (.lreturn) 1) (by decide +kernel) rfl)
  have e0 : Den d 147 0 [.ref p, .int i] [] (zmMk n a b r) = if i < iN 0 then Den d 147 16 [.ref p, .int i] [] (zmMk n a b r) else Den d 147 4 [.ref p, .int i] [] (zmMk n a b r) := (Den_blk [zm0 (.iload_n 1) 1, zm0 (.ifCond .lt 15) 3] (pc' := if i < iN 0 then 16 else 4) (L' := [.ref p, .int i]) (st' := []) (x' := (zmMk n a b r)) (by decide +kernel) rfl).trans (Den_ite _)
  have e4 : Den d 147 4 [.ref p, .int i] [] (zmMk n a b r) = Den d 147 7 [.ref p, .int i] [.int (iN len), .int i] (zmMk n a b r) := by
    refine (Den_blk [zm0 (.iload_n 1) 1, zm0 (.aload_n 0) 1] (pc' := 6) (L' := [.ref p, .int i]) (st' := [.ref p, .int i]) (x' := (zmMk n a b r)) (by decide +kernel) rfl).trans (Den_next ((zmStep_of (i := zm0 (.arraylength) 1) (by decide +kernel)).trans ?_))
    show (if 20 ≤ zmKd p (zmMk n a b r) ∧ zmKd p (zmMk n a b r) < 50 ∧ zmKd p (zmMk n a b r) ≠ 30 then (some (.inl (7, [.ref p, .int i], .int (iN (zmLen p (zmMk n a b r))) :: [.int i], (zmMk n a b r))) : Option zmR) else none) = _
    rw [hK, hL]
    rfl
  have e7 : Den d 147 7 [.ref p, .int i] [.int (iN len), .int i] (zmMk n a b r) = if i < iN len then Den d 147 10 [.ref p, .int i] [] (zmMk n a b r) else Den d 147 16 [.ref p, .int i] [] (zmMk n a b r) := (Den_blk [zm0 (.if_icmp .ge 9) 3] (pc' := if i < iN len then 10 else 16) (L' := [.ref p, .int i]) (st' := []) (x' := (zmMk n a b r)) (by decide +kernel) rfl).trans (Den_ite _)
  rw [e0]
  unfold itV
  by_cases hi : i < iN 0
  · rw [if_pos hi, if_pos hi, e16]
  · rw [if_neg hi, if_neg hi, e4, e7]
    by_cases hj : i < iN len
    · rw [if_pos hj, if_pos hj]
      refine (Den_blk [zm0 (.aload_n 0) 1, zm0 (.iload_n 1) 1] (pc' := 12) (L' := [.ref p, .int i]) (st' := [.int i, .ref p]) (x' := (zmMk n a b r)) (by decide +kernel) rfl).trans ((Den_next (pc' := 13) (L' := [.ref p, .int i]) (st' := [.long (b p i.toNatClampNeg)]) (x' := (zmMk n a b r)) ((zmStep_of (i := zm0 (.laload) 1) (by decide +kernel)).trans ?_)).trans ?_)
      · show (if zmIn i (zmLen p (zmMk n a b r)) = true then (match zmKd p (zmMk n a b r) with
          | 21 => (some (.inl (13, [.ref p, .int i], .long (gL (zmMk n a b r) p i.toNatClampNeg) :: [], (zmMk n a b r))) : Option zmR)
          | 41 => (some (.inl (13, [.ref p, .int i], .long (gL (zmMk n a b r) p i.toNatClampNeg) :: [], (zmMk n a b r))) : Option zmR)
          | _ => none) else none) = _
        rw [hK, hL, if_pos (zmIn_of hl hi hj)]
        rfl
      · exact (Den_blk [zm0 (.goto 4) 3] (pc' := 17) (L' := [.ref p, .int i]) (st' := [.long (b p i.toNatClampNeg)]) (x' := (zmMk n a b r)) (by decide +kernel) rfl).trans (Den_retE (zm0 (.lreturn) 1) (by decide +kernel) rfl)
    · rw [if_neg hj, if_neg hj, e16]
/-- an element is put where there is one -/
def puV {α : Type} (len : Nat) (f : Nat → Nat → α) (p : Nat) (i : Int32) (v : α) : Nat → Nat → α := fun k j => if i < iN 0 then f k j else if i < iN len then (if k = p ∧ j = i.toNatClampNeg then v else f k j) else f k j
theorem puV_n {len : Nat} {f : Nat → Nat → Int32} {p i : Nat} {v : Int32} (h : i < len) (hl : len < 2147483648) : puV len f p (iN i) v = uI f p i v := by
  have hi : i < 2147483648 := Nat.lt_trans h hl
  funext k j
  unfold puV uI
  rw [if_neg (by rw [n_not_neg hi]; exact not_false), if_pos (by rw [n_lt hi hl]; exact h), n_nat hi]
theorem puV_nL {len : Nat} {f : Nat → Nat → Int64} {p i : Nat} {v : Int64} (h : i < len) (hl : len < 2147483648) : puV len f p (iN i) v = uL f p i v := by
  have hi : i < 2147483648 := Nat.lt_trans h hl
  funext k j
  unfold puV uL
  rw [if_neg (by rw [n_not_neg hi]; exact not_false), if_pos (by rw [n_lt hi hl]; exact h), n_nat hi]
theorem puV_neg {α : Type} {len : Nat} {f : Nat → Nat → α} {p : Nat} {i : Int32} {v : α} (h : i < iN 0) : puV len f p i v = f := by
  funext k j
  exact if_pos h
theorem puV_o {α : Type} {len : Nat} {f : Nat → Nat → α} {p i : Nat} {v : α} (h : ¬ i < len) (hi : i < 2147483648) (hl : len < 2147483648) : puV len f p (iN i) v = f := by
  funext k j
  unfold puV
  rw [if_neg (by rw [n_not_neg hi]; exact not_false), if_neg (by rw [n_lt hi hl]; exact h)]
theorem puV_ne {α : Type} {len : Nat} {f : Nat → Nat → α} {p : Nat} {i : Int32} {v : α} {k j : Nat} (h : k ≠ p) : puV len f p i v k j = f k j := by
  unfold puV
  simp [h]
theorem c_put {d p len : Nat} {n : Nat} {a : Nat → Nat → Int32} {b : Nat → Nat → Int64} {r : Nat → Nat → Option Nat} {i v : Int32} (hp : zmLay p = (20, len)) (h0 : p ≠ 0) (h1 : p < 147) (hl : len < 2147483648) : Den (d) 146 0 [.ref p, .int i, .int v] [] (zmMk n a b r) = some (none, zmMk n (puV len a p i v) b r) := by
  have hK : zmKd p (zmMk n a b r) = 20 := kd_of hp h1
  have hL : zmLen p (zmMk n a b r) = len := len_of hp h0
  have e14 : ∀ a, Den d 146 14 [.ref p, .int i, .int v] [] (zmMk n a b r) = some (none, (zmMk n a b r)) := fun a => (Den_retE (zm0 (.return_) 1) (by decide +kernel) rfl)
  have e0 : Den d 146 0 [.ref p, .int i, .int v] [] (zmMk n a b r) = if i < iN 0 then Den d 146 14 [.ref p, .int i, .int v] [] (zmMk n a b r) else Den d 146 4 [.ref p, .int i, .int v] [] (zmMk n a b r) := (Den_blk [zm0 (.iload_n 1) 1, zm0 (.ifCond .lt 13) 3] (pc' := if i < iN 0 then 14 else 4) (L' := [.ref p, .int i, .int v]) (st' := []) (x' := (zmMk n a b r)) (by decide +kernel) rfl).trans (Den_ite _)
  have e4 : Den d 146 4 [.ref p, .int i, .int v] [] (zmMk n a b r) = Den d 146 7 [.ref p, .int i, .int v] [.int (iN len), .int i] (zmMk n a b r) := by
    refine (Den_blk [zm0 (.iload_n 1) 1, zm0 (.aload_n 0) 1] (pc' := 6) (L' := [.ref p, .int i, .int v]) (st' := [.ref p, .int i]) (x' := (zmMk n a b r)) (by decide +kernel) rfl).trans (Den_next ((zmStep_of (i := zm0 (.arraylength) 1) (by decide +kernel)).trans ?_))
    show (if 20 ≤ zmKd p (zmMk n a b r) ∧ zmKd p (zmMk n a b r) < 50 ∧ zmKd p (zmMk n a b r) ≠ 30 then (some (.inl (7, [.ref p, .int i, .int v], .int (iN (zmLen p (zmMk n a b r))) :: [.int i], (zmMk n a b r))) : Option zmR) else none) = _
    rw [hK, hL]
    rfl
  have e7 : Den d 146 7 [.ref p, .int i, .int v] [.int (iN len), .int i] (zmMk n a b r) = if i < iN len then Den d 146 10 [.ref p, .int i, .int v] [] (zmMk n a b r) else Den d 146 14 [.ref p, .int i, .int v] [] (zmMk n a b r) := (Den_blk [zm0 (.if_icmp .ge 7) 3] (pc' := if i < iN len then 10 else 14) (L' := [.ref p, .int i, .int v]) (st' := []) (x' := (zmMk n a b r)) (by decide +kernel) rfl).trans (Den_ite _)
  rw [e0]
  by_cases hi : i < iN 0
  · rw [if_pos hi, e14, puV_neg hi]
  · rw [if_neg hi, e4, e7]
    by_cases hj : i < iN len
    · rw [if_pos hj]
      have e5 : puV len a p i v = uI a p i.toNatClampNeg v := by
        funext k j
        unfold puV uI
        rw [if_neg hi, if_pos hj]
      rw [e5]
      refine (Den_blk [zm0 (.aload_n 0) 1, zm0 (.iload_n 1) 1, zm0 (.iload_n 2) 1] (pc' := 13) (L' := [.ref p, .int i, .int v]) (st' := [.int v, .int i, .ref p]) (x' := (zmMk n a b r)) (by decide +kernel) rfl).trans ((Den_next (pc' := 14) (L' := [.ref p, .int i, .int v]) (st' := []) (x' := zmMk n (uI a p i.toNatClampNeg v) b r) ((zmStep_of (i := zm0 (.iastore) 1) (by decide +kernel)).trans ?_)).trans (e14 _))
      show (if zmIn i (zmLen p (zmMk n a b r)) = true then (match zmKd p (zmMk n a b r) with
          | 20 => (some (.inl (14, [.ref p, .int i, .int v], [], sI (zmMk n a b r) p i.toNatClampNeg v)) : Option zmR)
          | _ => none) else none) = _
      rw [hK, hL, if_pos (zmIn_of hl hi hj)]
      rfl
    · rw [if_neg hj, e14]
      congr 3
      funext k j
      unfold puV
      rw [if_neg hi, if_neg hj]
theorem c_putLong {d p len : Nat} {n : Nat} {a : Nat → Nat → Int32} {b : Nat → Nat → Int64} {r : Nat → Nat → Option Nat} {i : Int32} {v : Int64} (hp : zmLay p = (21, len)) (h0 : p ≠ 0) (h1 : p < 147) (hl : len < 2147483648) : Den (d) 148 0 [.ref p, .int i, .long v, zmJ] [] (zmMk n a b r) = some (none, zmMk n a (puV len b p i v) r) := by
  have hK : zmKd p (zmMk n a b r) = 21 := kd_of hp h1
  have hL : zmLen p (zmMk n a b r) = len := len_of hp h0
  have e14 : ∀ b, Den d 148 14 [.ref p, .int i, .long v, zmJ] [] (zmMk n a b r) = some (none, (zmMk n a b r)) := fun b => (Den_retE (zm0 (.return_) 1) (by decide +kernel) rfl)
  have e0 : Den d 148 0 [.ref p, .int i, .long v, zmJ] [] (zmMk n a b r) = if i < iN 0 then Den d 148 14 [.ref p, .int i, .long v, zmJ] [] (zmMk n a b r) else Den d 148 4 [.ref p, .int i, .long v, zmJ] [] (zmMk n a b r) := (Den_blk [zm0 (.iload_n 1) 1, zm0 (.ifCond .lt 13) 3] (pc' := if i < iN 0 then 14 else 4) (L' := [.ref p, .int i, .long v, zmJ]) (st' := []) (x' := (zmMk n a b r)) (by decide +kernel) rfl).trans (Den_ite _)
  have e4 : Den d 148 4 [.ref p, .int i, .long v, zmJ] [] (zmMk n a b r) = Den d 148 7 [.ref p, .int i, .long v, zmJ] [.int (iN len), .int i] (zmMk n a b r) := by
    refine (Den_blk [zm0 (.iload_n 1) 1, zm0 (.aload_n 0) 1] (pc' := 6) (L' := [.ref p, .int i, .long v, zmJ]) (st' := [.ref p, .int i]) (x' := (zmMk n a b r)) (by decide +kernel) rfl).trans (Den_next ((zmStep_of (i := zm0 (.arraylength) 1) (by decide +kernel)).trans ?_))
    show (if 20 ≤ zmKd p (zmMk n a b r) ∧ zmKd p (zmMk n a b r) < 50 ∧ zmKd p (zmMk n a b r) ≠ 30 then (some (.inl (7, [.ref p, .int i, .long v, zmJ], .int (iN (zmLen p (zmMk n a b r))) :: [.int i], (zmMk n a b r))) : Option zmR) else none) = _
    rw [hK, hL]
    rfl
  have e7 : Den d 148 7 [.ref p, .int i, .long v, zmJ] [.int (iN len), .int i] (zmMk n a b r) = if i < iN len then Den d 148 10 [.ref p, .int i, .long v, zmJ] [] (zmMk n a b r) else Den d 148 14 [.ref p, .int i, .long v, zmJ] [] (zmMk n a b r) := (Den_blk [zm0 (.if_icmp .ge 7) 3] (pc' := if i < iN len then 10 else 14) (L' := [.ref p, .int i, .long v, zmJ]) (st' := []) (x' := (zmMk n a b r)) (by decide +kernel) rfl).trans (Den_ite _)
  rw [e0]
  by_cases hi : i < iN 0
  · rw [if_pos hi, e14, puV_neg hi]
  · rw [if_neg hi, e4, e7]
    by_cases hj : i < iN len
    · rw [if_pos hj]
      have e5 : puV len b p i v = uL b p i.toNatClampNeg v := by
        funext k j
        unfold puV uL
        rw [if_neg hi, if_pos hj]
      rw [e5]
      refine (Den_blk [zm0 (.aload_n 0) 1, zm0 (.iload_n 1) 1, zm0 (.lload_n 2) 1] (pc' := 13) (L' := [.ref p, .int i, .long v, zmJ]) (st' := [.long v, .int i, .ref p]) (x' := (zmMk n a b r)) (by decide +kernel) rfl).trans ((Den_next (pc' := 14) (L' := [.ref p, .int i, .long v, zmJ]) (st' := []) (x' := zmMk n a (uL b p i.toNatClampNeg v) r) ((zmStep_of (i := zm0 (.lastore) 1) (by decide +kernel)).trans ?_)).trans (e14 _))
      show (if zmIn i (zmLen p (zmMk n a b r)) = true then (match zmKd p (zmMk n a b r) with
          | 21 => (some (.inl (14, [.ref p, .int i, .long v, zmJ], [], sL (zmMk n a b r) p i.toNatClampNeg v)) : Option zmR)
          | _ => none) else none) = _
      rw [hK, hL, if_pos (zmIn_of hl hi hj)]
      rfl
    · rw [if_neg hj, e14]
      congr 3
      funext k j
      unfold puV
      rw [if_neg hi, if_neg hj]
