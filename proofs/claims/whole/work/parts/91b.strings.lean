/-! ===== strings: where a byte stands in one ===== -/
def fndS (f : Nat → Nat) (c : Nat) : Nat → Nat → Int32
  | 0, _ => -1
  | k + 1, i => if f i = c then iN i else fndS f c k (i + 1)
theorem byt_tab : ∀ x < 128, ∀ c < 256, (iN x = Int8.toInt32 (Int32.toInt8 (iN c))) ↔ x = c := by
  have h : ∀ c < 256, (c < 128 → Int8.toInt32 (Int32.toInt8 (iN c)) = iN c) ∧ (128 ≤ c → Int8.toInt32 (Int32.toInt8 (iN c)) < iN 0) := by decide +kernel
  intro x hx c hc
  obtain ⟨h1, h2⟩ := h c hc
  by_cases h3 : c < 128
  · rw [h1 h3, n_eq (by omega) (by omega)]
  · refine ⟨fun e => ?_, fun e => by omega⟩
    have h4 := h2 (by omega)
    rw [← e, n_not_neg (by omega)] at h4
    exact h4.elim
theorem byt_eq {x c : Nat} (hx : x < 128) (hc : c < 256) : (iN x = Int8.toInt32 (Int32.toInt8 (iN c))) ↔ x = c := byt_tab x hx c hc
theorem c_fnd5 {d len : Nat} {n : Nat} {a : Nat → Nat → Int32} {b : Nat → Nat → Int64} {r : Nat → Nat → Option Nat} {f : Nat → Nat} {c : Nat} {v1 v2 : Int32} (hs : ∀ i, i < 4 → a 10 i = iN (f i)) (hf : ∀ i, i < 4 → f i < 128) (hc : c < 256) (k : Nat) : ∀ i : Nat, i + k = 4 → Den d 284 7 [.ref 10,.int v1,.int v2,.int (iN 4),.int (Int8.toInt32 (Int32.toInt8 (iN c))),.int (iN i)] [] (zmMk n a b r) = some (some (.int (fndS f c k i)), (zmMk n a b r)) := by
  induction k with
  | zero =>
    intro i hi
    rw [b284z10_7, if_neg (by rw [n_lt (by omega) (by omega)]; omega), b284z10_31]
    rfl
  | succ k ih =>
    intro i hi
    rw [b284z10_7, if_pos (by rw [n_lt (by omega) (by omega)]; omega), b284z10_13, n_in (by omega), if_pos (decide_eq_true (by omega)), n_nat (by omega), hs i (by omega), b284z10_17]
    show _ = some (some (Value.int (if f i = c then iN i else fndS f c k (i + 1))), (zmMk n a b r))
    by_cases h : f i = c
    · rw [if_pos ((byt_eq (hf i (by omega)) hc).mpr h), b284z10_22, if_pos h]
    · rw [if_neg (fun e => h ((byt_eq (hf i (by omega)) hc).mp e)), b284z10_25, n_add, ih (i + 1) (by omega), if_neg h]
theorem c_idx5 {d : Nat} {n : Nat} {a : Nat → Nat → Int32} {b : Nat → Nat → Int64} {r : Nat → Nat → Option Nat} {f : Nat → Nat} {c : Nat} (hs : ∀ i, i < 4 → a 10 i = iN (f i)) (hf : ∀ i, i < 4 → f i < 128) (hc : c < 256) : Den (d+4) 277 0 [.ref 5, .int (iN c)] [] (zmMk n a b r) = some (some (.int (fndS f c 4 0)), (zmMk n a b r)) := by
  have e10 : ¬ iN 1 = iN 0 := by rw [n_eq (by omega) (by omega)]; omega
  have z01 : (iN 0 = iN 0 ∨ iN 0 = iN 1) := Or.inl rfl
  have z11 : (iN 1 = iN 0 ∨ iN 1 = iN 1) := Or.inr rfl
  have e280 : Den (d+2) 280 0 [.ref 5] [] (zmMk n a b r) = some (some (.int (iN 1)), (zmMk n a b r)) := by
    rw [b280z5_0, if_neg e10, b280z5_6, if_pos rfl, b280z5_13, b280z5_18, if_pos z11]
  have e279 : Den (d+1) 279 0 [.ref 5] [] (zmMk n a b r) = some (some (.int (iN 0)), (zmMk n a b r)) := by
    rw [b279z5_0, if_neg e10, b279z5_6, b279z5_14, if_pos z01]
  have esh : (iN 4 : Int32) >>> ((iN 0 : Int32) &&& iN 31) = iN 4 := by decide +kernel
  have e276 : Den (d+2) 276 0 [.ref 5] [] (zmMk n a b r) = some (some (.int (iN 4)), (zmMk n a b r)) := by
    rw [b276z5_0, e279]
    simp only [Option.bind_some, Option.toList_some, Option.toList_none, List.cons_append, List.nil_append, true_or, or_true, if_true, bI_if, b276z5_9, esh]
  have e282 : Den (d+1) 282 0 [.int (iN c)] [] (zmMk n a b r) = some (some (.int (iN 1)), (zmMk n a b r)) := by
    rw [b282_0, if_neg (by rw [n_not_neg (by omega)]; exact not_false), b282_4, if_neg (by rw [n_lt (by omega) (by omega)]; omega), b282_11, b282_16, if_pos z11]
  have e284 : Den (d+1) 284 0 [.ref 10, .int (iN c), .int (iN 0), .int (iN 4), zmJ, zmJ] [] (zmMk n a b r) = some (some (.int (fndS f c 4 0)), (zmMk n a b r)) := by
    rw [b284z10_0]
    exact c_fnd5 (len := 0) hs hf hc 4 0 (by omega)
  have e274 : Den (d+1) 274 0 [.int (iN 0), .int (iN 0)] [] (zmMk n a b r) = some (some (.int (iN 0)), (zmMk n a b r)) := by
    rw [c_max]
    split <;> rfl
  have e275 : Den (d+1) 275 0 [.int (iN 4), .int (iN 4)] [] (zmMk n a b r) = some (some (.int (iN 4)), (zmMk n a b r)) := by
    rw [c_min]
    split <;> rfl
  have e283 : Den (d+2) 283 0 [.ref 10, .int (iN c), .int (iN 0), .int (iN 4)] [] (zmMk n a b r) = some (some (.int (fndS f c 4 0)), (zmMk n a b r)) := by
    rw [b283z10_0, e282]
    simp only [Option.bind_some, Option.toList_some, Option.toList_none, List.cons_append, List.nil_append, true_or, or_true, if_true, bI_if, b283z10_4, e10, if_false, b283z10_9, e274, b283z10_14, e275, b283z10_21]
    rw [if_pos (by rw [n_lt (by omega) (by omega)]; omega), b283z10_29, e284]
    simp only [Option.bind_some, Option.toList_some, Option.toList_none, List.cons_append, List.nil_append, true_or, or_true, if_true, bI_if, b283z10_36]
  rw [b277z5_0]
  have e278 : Den (d+3) 278 0 [.ref 5, .int (iN c), .int (iN 0)] [] (zmMk n a b r) = some (some (.int (fndS f c 4 0)), (zmMk n a b r)) := by
    rw [b278z5_0, e280]
    simp only [Option.bind_some, Option.toList_some, Option.toList_none, List.cons_append, List.nil_append, true_or, or_true, if_true, bI_if, b278z5_4, e10, if_false, b278z5_7, e276, b278z5_17, e283, b278z5_20, b278z5_36]
  rw [e278]
  simp only [Option.bind_some, Option.toList_some, Option.toList_none, List.cons_append, List.nil_append, true_or, or_true, if_true, bI_if, b277z5_6]
theorem c_fnd6 {d len : Nat} {n : Nat} {a : Nat → Nat → Int32} {b : Nat → Nat → Int64} {r : Nat → Nat → Option Nat} {f : Nat → Nat} {c : Nat} {v1 v2 : Int32} (hs : ∀ i, i < 8 → a 11 i = iN (f i)) (hf : ∀ i, i < 8 → f i < 128) (hc : c < 256) (k : Nat) : ∀ i : Nat, i + k = 8 → Den d 284 7 [.ref 11,.int v1,.int v2,.int (iN 8),.int (Int8.toInt32 (Int32.toInt8 (iN c))),.int (iN i)] [] (zmMk n a b r) = some (some (.int (fndS f c k i)), (zmMk n a b r)) := by
  induction k with
  | zero =>
    intro i hi
    rw [b284z11_7, if_neg (by rw [n_lt (by omega) (by omega)]; omega), b284z11_31]
    rfl
  | succ k ih =>
    intro i hi
    rw [b284z11_7, if_pos (by rw [n_lt (by omega) (by omega)]; omega), b284z11_13, n_in (by omega), if_pos (decide_eq_true (by omega)), n_nat (by omega), hs i (by omega), b284z11_17]
    show _ = some (some (Value.int (if f i = c then iN i else fndS f c k (i + 1))), (zmMk n a b r))
    by_cases h : f i = c
    · rw [if_pos ((byt_eq (hf i (by omega)) hc).mpr h), b284z11_22, if_pos h]
    · rw [if_neg (fun e => h ((byt_eq (hf i (by omega)) hc).mp e)), b284z11_25, n_add, ih (i + 1) (by omega), if_neg h]
theorem c_idx6 {d : Nat} {n : Nat} {a : Nat → Nat → Int32} {b : Nat → Nat → Int64} {r : Nat → Nat → Option Nat} {f : Nat → Nat} {c : Nat} (hs : ∀ i, i < 8 → a 11 i = iN (f i)) (hf : ∀ i, i < 8 → f i < 128) (hc : c < 256) : Den (d+4) 277 0 [.ref 6, .int (iN c)] [] (zmMk n a b r) = some (some (.int (fndS f c 8 0)), (zmMk n a b r)) := by
  have e10 : ¬ iN 1 = iN 0 := by rw [n_eq (by omega) (by omega)]; omega
  have z01 : (iN 0 = iN 0 ∨ iN 0 = iN 1) := Or.inl rfl
  have z11 : (iN 1 = iN 0 ∨ iN 1 = iN 1) := Or.inr rfl
  have e280 : Den (d+2) 280 0 [.ref 6] [] (zmMk n a b r) = some (some (.int (iN 1)), (zmMk n a b r)) := by
    rw [b280z6_0, if_neg e10, b280z6_6, if_pos rfl, b280z6_13, b280z6_18, if_pos z11]
  have e279 : Den (d+1) 279 0 [.ref 6] [] (zmMk n a b r) = some (some (.int (iN 0)), (zmMk n a b r)) := by
    rw [b279z6_0, if_neg e10, b279z6_6, b279z6_14, if_pos z01]
  have esh : (iN 8 : Int32) >>> ((iN 0 : Int32) &&& iN 31) = iN 8 := by decide +kernel
  have e276 : Den (d+2) 276 0 [.ref 6] [] (zmMk n a b r) = some (some (.int (iN 8)), (zmMk n a b r)) := by
    rw [b276z6_0, e279]
    simp only [Option.bind_some, Option.toList_some, Option.toList_none, List.cons_append, List.nil_append, true_or, or_true, if_true, bI_if, b276z6_9, esh]
  have e282 : Den (d+1) 282 0 [.int (iN c)] [] (zmMk n a b r) = some (some (.int (iN 1)), (zmMk n a b r)) := by
    rw [b282_0, if_neg (by rw [n_not_neg (by omega)]; exact not_false), b282_4, if_neg (by rw [n_lt (by omega) (by omega)]; omega), b282_11, b282_16, if_pos z11]
  have e284 : Den (d+1) 284 0 [.ref 11, .int (iN c), .int (iN 0), .int (iN 8), zmJ, zmJ] [] (zmMk n a b r) = some (some (.int (fndS f c 8 0)), (zmMk n a b r)) := by
    rw [b284z11_0]
    exact c_fnd6 (len := 0) hs hf hc 8 0 (by omega)
  have e274 : Den (d+1) 274 0 [.int (iN 0), .int (iN 0)] [] (zmMk n a b r) = some (some (.int (iN 0)), (zmMk n a b r)) := by
    rw [c_max]
    split <;> rfl
  have e275 : Den (d+1) 275 0 [.int (iN 8), .int (iN 8)] [] (zmMk n a b r) = some (some (.int (iN 8)), (zmMk n a b r)) := by
    rw [c_min]
    split <;> rfl
  have e283 : Den (d+2) 283 0 [.ref 11, .int (iN c), .int (iN 0), .int (iN 8)] [] (zmMk n a b r) = some (some (.int (fndS f c 8 0)), (zmMk n a b r)) := by
    rw [b283z11_0, e282]
    simp only [Option.bind_some, Option.toList_some, Option.toList_none, List.cons_append, List.nil_append, true_or, or_true, if_true, bI_if, b283z11_4, e10, if_false, b283z11_9, e274, b283z11_14, e275, b283z11_21]
    rw [if_pos (by rw [n_lt (by omega) (by omega)]; omega), b283z11_29, e284]
    simp only [Option.bind_some, Option.toList_some, Option.toList_none, List.cons_append, List.nil_append, true_or, or_true, if_true, bI_if, b283z11_36]
  rw [b277z6_0]
  have e278 : Den (d+3) 278 0 [.ref 6, .int (iN c), .int (iN 0)] [] (zmMk n a b r) = some (some (.int (fndS f c 8 0)), (zmMk n a b r)) := by
    rw [b278z6_0, e280]
    simp only [Option.bind_some, Option.toList_some, Option.toList_none, List.cons_append, List.nil_append, true_or, or_true, if_true, bI_if, b278z6_4, e10, if_false, b278z6_7, e276, b278z6_17, e283, b278z6_20, b278z6_36]
  rw [e278]
  simp only [Option.bind_some, Option.toList_some, Option.toList_none, List.cons_append, List.nil_append, true_or, or_true, if_true, bI_if, b277z6_6]
theorem c_fnd7 {d len : Nat} {n : Nat} {a : Nat → Nat → Int32} {b : Nat → Nat → Int64} {r : Nat → Nat → Option Nat} {f : Nat → Nat} {c : Nat} {v1 v2 : Int32} (hs : ∀ i, i < 10 → a 12 i = iN (f i)) (hf : ∀ i, i < 10 → f i < 128) (hc : c < 256) (k : Nat) : ∀ i : Nat, i + k = 10 → Den d 284 7 [.ref 12,.int v1,.int v2,.int (iN 10),.int (Int8.toInt32 (Int32.toInt8 (iN c))),.int (iN i)] [] (zmMk n a b r) = some (some (.int (fndS f c k i)), (zmMk n a b r)) := by
  induction k with
  | zero =>
    intro i hi
    rw [b284z12_7, if_neg (by rw [n_lt (by omega) (by omega)]; omega), b284z12_31]
    rfl
  | succ k ih =>
    intro i hi
    rw [b284z12_7, if_pos (by rw [n_lt (by omega) (by omega)]; omega), b284z12_13, n_in (by omega), if_pos (decide_eq_true (by omega)), n_nat (by omega), hs i (by omega), b284z12_17]
    show _ = some (some (Value.int (if f i = c then iN i else fndS f c k (i + 1))), (zmMk n a b r))
    by_cases h : f i = c
    · rw [if_pos ((byt_eq (hf i (by omega)) hc).mpr h), b284z12_22, if_pos h]
    · rw [if_neg (fun e => h ((byt_eq (hf i (by omega)) hc).mp e)), b284z12_25, n_add, ih (i + 1) (by omega), if_neg h]
theorem c_idx7 {d : Nat} {n : Nat} {a : Nat → Nat → Int32} {b : Nat → Nat → Int64} {r : Nat → Nat → Option Nat} {f : Nat → Nat} {c : Nat} (hs : ∀ i, i < 10 → a 12 i = iN (f i)) (hf : ∀ i, i < 10 → f i < 128) (hc : c < 256) : Den (d+4) 277 0 [.ref 7, .int (iN c)] [] (zmMk n a b r) = some (some (.int (fndS f c 10 0)), (zmMk n a b r)) := by
  have e10 : ¬ iN 1 = iN 0 := by rw [n_eq (by omega) (by omega)]; omega
  have z01 : (iN 0 = iN 0 ∨ iN 0 = iN 1) := Or.inl rfl
  have z11 : (iN 1 = iN 0 ∨ iN 1 = iN 1) := Or.inr rfl
  have e280 : Den (d+2) 280 0 [.ref 7] [] (zmMk n a b r) = some (some (.int (iN 1)), (zmMk n a b r)) := by
    rw [b280z7_0, if_neg e10, b280z7_6, if_pos rfl, b280z7_13, b280z7_18, if_pos z11]
  have e279 : Den (d+1) 279 0 [.ref 7] [] (zmMk n a b r) = some (some (.int (iN 0)), (zmMk n a b r)) := by
    rw [b279z7_0, if_neg e10, b279z7_6, b279z7_14, if_pos z01]
  have esh : (iN 10 : Int32) >>> ((iN 0 : Int32) &&& iN 31) = iN 10 := by decide +kernel
  have e276 : Den (d+2) 276 0 [.ref 7] [] (zmMk n a b r) = some (some (.int (iN 10)), (zmMk n a b r)) := by
    rw [b276z7_0, e279]
    simp only [Option.bind_some, Option.toList_some, Option.toList_none, List.cons_append, List.nil_append, true_or, or_true, if_true, bI_if, b276z7_9, esh]
  have e282 : Den (d+1) 282 0 [.int (iN c)] [] (zmMk n a b r) = some (some (.int (iN 1)), (zmMk n a b r)) := by
    rw [b282_0, if_neg (by rw [n_not_neg (by omega)]; exact not_false), b282_4, if_neg (by rw [n_lt (by omega) (by omega)]; omega), b282_11, b282_16, if_pos z11]
  have e284 : Den (d+1) 284 0 [.ref 12, .int (iN c), .int (iN 0), .int (iN 10), zmJ, zmJ] [] (zmMk n a b r) = some (some (.int (fndS f c 10 0)), (zmMk n a b r)) := by
    rw [b284z12_0]
    exact c_fnd7 (len := 0) hs hf hc 10 0 (by omega)
  have e274 : Den (d+1) 274 0 [.int (iN 0), .int (iN 0)] [] (zmMk n a b r) = some (some (.int (iN 0)), (zmMk n a b r)) := by
    rw [c_max]
    split <;> rfl
  have e275 : Den (d+1) 275 0 [.int (iN 10), .int (iN 10)] [] (zmMk n a b r) = some (some (.int (iN 10)), (zmMk n a b r)) := by
    rw [c_min]
    split <;> rfl
  have e283 : Den (d+2) 283 0 [.ref 12, .int (iN c), .int (iN 0), .int (iN 10)] [] (zmMk n a b r) = some (some (.int (fndS f c 10 0)), (zmMk n a b r)) := by
    rw [b283z12_0, e282]
    simp only [Option.bind_some, Option.toList_some, Option.toList_none, List.cons_append, List.nil_append, true_or, or_true, if_true, bI_if, b283z12_4, e10, if_false, b283z12_9, e274, b283z12_14, e275, b283z12_21]
    rw [if_pos (by rw [n_lt (by omega) (by omega)]; omega), b283z12_29, e284]
    simp only [Option.bind_some, Option.toList_some, Option.toList_none, List.cons_append, List.nil_append, true_or, or_true, if_true, bI_if, b283z12_36]
  rw [b277z7_0]
  have e278 : Den (d+3) 278 0 [.ref 7, .int (iN c), .int (iN 0)] [] (zmMk n a b r) = some (some (.int (fndS f c 10 0)), (zmMk n a b r)) := by
    rw [b278z7_0, e280]
    simp only [Option.bind_some, Option.toList_some, Option.toList_none, List.cons_append, List.nil_append, true_or, or_true, if_true, bI_if, b278z7_4, e10, if_false, b278z7_7, e276, b278z7_17, e283, b278z7_20, b278z7_36]
  rw [e278]
  simp only [Option.bind_some, Option.toList_some, Option.toList_none, List.cons_append, List.nil_append, true_or, or_true, if_true, bI_if, b277z7_6]
theorem c_fnd8 {d len : Nat} {n : Nat} {a : Nat → Nat → Int32} {b : Nat → Nat → Int64} {r : Nat → Nat → Option Nat} {f : Nat → Nat} {c : Nat} {v1 v2 : Int32} (hs : ∀ i, i < 1 → a 13 i = iN (f i)) (hf : ∀ i, i < 1 → f i < 128) (hc : c < 256) (k : Nat) : ∀ i : Nat, i + k = 1 → Den d 284 7 [.ref 13,.int v1,.int v2,.int (iN 1),.int (Int8.toInt32 (Int32.toInt8 (iN c))),.int (iN i)] [] (zmMk n a b r) = some (some (.int (fndS f c k i)), (zmMk n a b r)) := by
  induction k with
  | zero =>
    intro i hi
    rw [b284z13_7, if_neg (by rw [n_lt (by omega) (by omega)]; omega), b284z13_31]
    rfl
  | succ k ih =>
    intro i hi
    rw [b284z13_7, if_pos (by rw [n_lt (by omega) (by omega)]; omega), b284z13_13, n_in (by omega), if_pos (decide_eq_true (by omega)), n_nat (by omega), hs i (by omega), b284z13_17]
    show _ = some (some (Value.int (if f i = c then iN i else fndS f c k (i + 1))), (zmMk n a b r))
    by_cases h : f i = c
    · rw [if_pos ((byt_eq (hf i (by omega)) hc).mpr h), b284z13_22, if_pos h]
    · rw [if_neg (fun e => h ((byt_eq (hf i (by omega)) hc).mp e)), b284z13_25, n_add, ih (i + 1) (by omega), if_neg h]
theorem c_idx8 {d : Nat} {n : Nat} {a : Nat → Nat → Int32} {b : Nat → Nat → Int64} {r : Nat → Nat → Option Nat} {f : Nat → Nat} {c : Nat} (hs : ∀ i, i < 1 → a 13 i = iN (f i)) (hf : ∀ i, i < 1 → f i < 128) (hc : c < 256) : Den (d+4) 277 0 [.ref 8, .int (iN c)] [] (zmMk n a b r) = some (some (.int (fndS f c 1 0)), (zmMk n a b r)) := by
  have e10 : ¬ iN 1 = iN 0 := by rw [n_eq (by omega) (by omega)]; omega
  have z01 : (iN 0 = iN 0 ∨ iN 0 = iN 1) := Or.inl rfl
  have z11 : (iN 1 = iN 0 ∨ iN 1 = iN 1) := Or.inr rfl
  have e280 : Den (d+2) 280 0 [.ref 8] [] (zmMk n a b r) = some (some (.int (iN 1)), (zmMk n a b r)) := by
    rw [b280z8_0, if_neg e10, b280z8_6, if_pos rfl, b280z8_13, b280z8_18, if_pos z11]
  have e279 : Den (d+1) 279 0 [.ref 8] [] (zmMk n a b r) = some (some (.int (iN 0)), (zmMk n a b r)) := by
    rw [b279z8_0, if_neg e10, b279z8_6, b279z8_14, if_pos z01]
  have esh : (iN 1 : Int32) >>> ((iN 0 : Int32) &&& iN 31) = iN 1 := by decide +kernel
  have e276 : Den (d+2) 276 0 [.ref 8] [] (zmMk n a b r) = some (some (.int (iN 1)), (zmMk n a b r)) := by
    rw [b276z8_0, e279]
    simp only [Option.bind_some, Option.toList_some, Option.toList_none, List.cons_append, List.nil_append, true_or, or_true, if_true, bI_if, b276z8_9, esh]
  have e282 : Den (d+1) 282 0 [.int (iN c)] [] (zmMk n a b r) = some (some (.int (iN 1)), (zmMk n a b r)) := by
    rw [b282_0, if_neg (by rw [n_not_neg (by omega)]; exact not_false), b282_4, if_neg (by rw [n_lt (by omega) (by omega)]; omega), b282_11, b282_16, if_pos z11]
  have e284 : Den (d+1) 284 0 [.ref 13, .int (iN c), .int (iN 0), .int (iN 1), zmJ, zmJ] [] (zmMk n a b r) = some (some (.int (fndS f c 1 0)), (zmMk n a b r)) := by
    rw [b284z13_0]
    exact c_fnd8 (len := 0) hs hf hc 1 0 (by omega)
  have e274 : Den (d+1) 274 0 [.int (iN 0), .int (iN 0)] [] (zmMk n a b r) = some (some (.int (iN 0)), (zmMk n a b r)) := by
    rw [c_max]
    split <;> rfl
  have e275 : Den (d+1) 275 0 [.int (iN 1), .int (iN 1)] [] (zmMk n a b r) = some (some (.int (iN 1)), (zmMk n a b r)) := by
    rw [c_min]
    split <;> rfl
  have e283 : Den (d+2) 283 0 [.ref 13, .int (iN c), .int (iN 0), .int (iN 1)] [] (zmMk n a b r) = some (some (.int (fndS f c 1 0)), (zmMk n a b r)) := by
    rw [b283z13_0, e282]
    simp only [Option.bind_some, Option.toList_some, Option.toList_none, List.cons_append, List.nil_append, true_or, or_true, if_true, bI_if, b283z13_4, e10, if_false, b283z13_9, e274, b283z13_14, e275, b283z13_21]
    rw [if_pos (by rw [n_lt (by omega) (by omega)]; omega), b283z13_29, e284]
    simp only [Option.bind_some, Option.toList_some, Option.toList_none, List.cons_append, List.nil_append, true_or, or_true, if_true, bI_if, b283z13_36]
  rw [b277z8_0]
  have e278 : Den (d+3) 278 0 [.ref 8, .int (iN c), .int (iN 0)] [] (zmMk n a b r) = some (some (.int (fndS f c 1 0)), (zmMk n a b r)) := by
    rw [b278z8_0, e280]
    simp only [Option.bind_some, Option.toList_some, Option.toList_none, List.cons_append, List.nil_append, true_or, or_true, if_true, bI_if, b278z8_4, e10, if_false, b278z8_7, e276, b278z8_17, e283, b278z8_20, b278z8_36]
  rw [e278]
  simp only [Option.bind_some, Option.toList_some, Option.toList_none, List.cons_append, List.nil_append, true_or, or_true, if_true, bI_if, b277z8_6]
def bndS (i : Nat) : Nat := [99, 9, 9, 10, 10, 99, 99, 99].getD i 0
def strS (k i : Nat) : Nat := (if k = 10 then [102, 117, 119, 115] else if k = 11 then [121, 119, 98, 115, 103, 118, 109, 108] else if k = 12 then [116, 110, 100, 101, 122, 114, 112, 113, 107, 97] else [97]).getD i 0
/-- the class's constant ints -/
def CstC (a : Nat → Nat → Int32) : Prop := (∀ i, i < 8 → a 1 i = iN (bndS i)) ∧ (∀ i, i < 4 → a 10 i = iN (strS 10 i)) ∧ (∀ i, i < 8 → a 11 i = iN (strS 11 i)) ∧ (∀ i, i < 10 → a 12 i = iN (strS 12 i)) ∧ ∀ i, i < 1 → a 13 i = iN (strS 13 i)
theorem CstC.ag {a a' : Nat → Nat → Int32} (h : CstC a) (g : ∀ k, k < 14 → a' k = a k) : CstC a' := by
  obtain ⟨h1, h2, h3, h4, h5⟩ := h
  exact ⟨fun i hi => by rw [g 1 (by omega)]; exact h1 i hi, fun i hi => by rw [g 10 (by omega)]; exact h2 i hi, fun i hi => by rw [g 11 (by omega)]; exact h3 i hi, fun i hi => by rw [g 12 (by omega)]; exact h4 i hi, fun i hi => by rw [g 13 (by omega)]; exact h5 i hi⟩
theorem strS_lt : (∀ i, i < 4 → strS 10 i < 128) ∧ (∀ i, i < 8 → strS 11 i < 128) ∧ (∀ i, i < 10 → strS 12 i < 128) ∧ ∀ i, i < 1 → strS 13 i < 128 := by
  refine ⟨?_, ?_, ?_, ?_⟩ <;> decide +kernel
theorem c_told10 {d c : Nat} {n : Nat} {a : Nat → Nat → Int32} {b : Nat → Nat → Int64} {r : Nat → Nat → Option Nat} (hC : CstC a) (hc : c < 256) : Den (d+4) 277 0 [.ref 7, .int (iN c)] [] (zmMk n a b r) = some (some (.int (if ltI c < 10 then iN (ltI c) else -1)), (zmMk n a b r)) := by
  rw [c_idx7 hC.2.2.2.1 strS_lt.2.2.1 hc]
  have h : ∀ c < 256, fndS (strS 12) c 10 0 = if ltI c < 10 then iN (ltI c) else -1 := by decide +kernel
  rw [h c hc]
def kdS (c : Nat) : Nat := if c = 102 then 0 else if c = 117 then 1 else if c = 119 then 2 else if c = 115 then 3 else 4
theorem c_kind {d c : Nat} {n : Nat} {a : Nat → Nat → Int32} {b : Nat → Nat → Int64} {r : Nat → Nat → Option Nat} (hC : CstC a) (hc : c < 256) : Den (d+4) 277 0 [.ref 5, .int (iN c)] [] (zmMk n a b r) = some (some (.int (if kdS c < 4 then iN (kdS c) else -1)), (zmMk n a b r)) := by
  rw [c_idx5 hC.2.1 strS_lt.1 hc]
  have h : ∀ c < 256, fndS (strS 10) c 4 0 = if kdS c < 4 then iN (kdS c) else -1 := by decide +kernel
  rw [h c hc]
def lawI (c : Nat) : Nat := if c = 121 then 0 else if c = 119 then 1 else if c = 98 then 2 else if c = 115 then 3 else if c = 103 then 4 else if c = 118 then 5 else if c = 109 then 6 else if c = 108 then 7 else 8
theorem c_lawL {d c : Nat} {n : Nat} {a : Nat → Nat → Int32} {b : Nat → Nat → Int64} {r : Nat → Nat → Option Nat} (hC : CstC a) (hc : c < 256) : Den (d+4) 277 0 [.ref 6, .int (iN c)] [] (zmMk n a b r) = some (some (.int (if lawI c < 8 then iN (lawI c) else -1)), (zmMk n a b r)) := by
  rw [c_idx6 hC.2.2.1 strS_lt.2.1 hc]
  have h : ∀ c < 256, fndS (strS 11) c 8 0 = if lawI c < 8 then iN (lawI c) else -1 := by decide +kernel
  rw [h c hc]
theorem c_ruleL {d c : Nat} {n : Nat} {a : Nat → Nat → Int32} {b : Nat → Nat → Int64} {r : Nat → Nat → Option Nat} (hC : CstC a) (hc : c < 256) : Den (d+4) 277 0 [.ref 8, .int (iN c)] [] (zmMk n a b r) = some (some (.int (if c = 97 then iN 0 else -1)), (zmMk n a b r)) := by
  rw [c_idx8 hC.2.2.2.2 strS_lt.2.2.2 hc]
  have h : ∀ c < 256, fndS (strS 13) c 1 0 = if c = 97 then iN 0 else -1 := by decide +kernel
  rw [h c hc]
theorem ch_of {c : Nat} (hc : c < 65536) : (Int32.toUInt32 (iN c) % 65536).toInt32 = iN c := by
  have e : Int32.toUInt32 (iN c) = UInt32.ofNat c := rfl
  rw [e]
  have e2 : UInt32.ofNat c % 65536 = UInt32.ofNat c := by
    apply UInt32.toNat_inj.mp
    rw [UInt32.toNat_mod]
    show (UInt32.ofNat c).toNat % 65536 = _
    rw [UInt32.toNat_ofNat_of_lt' (by show c < 4294967296; omega)]
    omega
  rw [e2]
  rfl
