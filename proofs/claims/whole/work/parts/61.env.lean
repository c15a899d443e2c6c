/-! ===== places (a STATE but for its STEP), what a text is asked, both sides' asking as a premise ===== -/
def pY (p : Nat) : Nat := p / 40
def pB (p : Nat) : Nat := p / 4 % 10
def pS (p : Nat) : Nat := p / 2 % 2
def pR (p : Nat) : Nat := p % 2
def plc (y e s r : Nat) : Nat := 40 * y + 4 * e + 2 * s + r
theorem pY_plc {y e s r : Nat} (he : e ≤ 9) (hs : s ≤ 1) (hr : r ≤ 1) : pY (plc y e s r) = y := by unfold pY plc; omega
theorem pB_plc {y e s r : Nat} (he : e ≤ 9) (hs : s ≤ 1) (hr : r ≤ 1) : pB (plc y e s r) = e := by unfold pB plc; omega
theorem pS_plc {y e s r : Nat} (he : e ≤ 9) (hs : s ≤ 1) (hr : r ≤ 1) : pS (plc y e s r) = s := by unfold pS plc; omega
theorem pR_plc {y e s r : Nat} (he : e ≤ 9) (hs : s ≤ 1) (hr : r ≤ 1) : pR (plc y e s r) = r := by unfold pR plc; omega
theorem plc_lt {y e s r : Nat} (hy : y ≤ 120) (he : e ≤ 9) (hs : s ≤ 1) (hr : r ≤ 1) : plc y e s r < 4840 := by unfold plc; omega
theorem pY_le {p : Nat} (h : p < 4840) : pY p ≤ 120 := by unfold pY; omega
theorem pB_le (p : Nat) : pB p ≤ 9 := by unfold pB; omega
theorem pS_le (p : Nat) : pS p ≤ 1 := by unfold pS; omega
theorem pR_le (p : Nat) : pR p ≤ 1 := by unfold pR; omega
/-- the place with another SEEN -/
def asP (p s : Nat) : Nat := p - 2 * pS p + 2 * s
theorem asP_plc (p s : Nat) : asP p s = plc (pY p) (pB p) s (pR p) := by unfold asP plc pY pB pS pR; omega
theorem asP_self {p : Nat} : asP p (pS p) = p := by unfold asP pS; omega
theorem asP_lt {p s : Nat} (h : p < 4840) (hs : s ≤ 1) : asP p s < 4840 := by rw [asP_plc]; exact plc_lt (pY_le h) (pB_le p) hs (pR_le p)
theorem pY_asP {p s : Nat} (hs : s ≤ 1) : pY (asP p s) = pY p := by rw [asP_plc, pY_plc (pB_le p) hs (pR_le p)]
theorem pB_asP {p s : Nat} (hs : s ≤ 1) : pB (asP p s) = pB p := by rw [asP_plc, pB_plc (pB_le p) hs (pR_le p)]
theorem pS_asP {p s : Nat} (hs : s ≤ 1) : pS (asP p s) = s := by rw [asP_plc, pS_plc (pB_le p) hs (pR_le p)]
theorem pR_asP {p s : Nat} (hs : s ≤ 1) : pR (asP p s) = pR p := by rw [asP_plc, pR_plc (pB_le p) hs (pR_le p)]
theorem q_nest {P : Nat → Prop} (h : ∀ i < 70, ∀ j < 70, P (70 * i + j)) : ∀ p < 4840, P p := by
  intro p hp
  have h2 := h (p / 70) (by omega) (p % 70) (by omega)
  rwa [Nat.div_add_mod] at h2
theorem q_and2 : ∀ p < 4840, p &&& 2 = 2 * (p / 2 % 2) := q_nest (by decide +kernel)
theorem q_or2 : ∀ p < 4840, p ||| 2 = p - 2 * (p / 2 % 2) + 2 := q_nest (by decide +kernel)
theorem q_and1 : ∀ p < 4840, p &&& 1 = p % 2 := q_nest (by decide +kernel)
theorem q_andn : ∀ p < 4840, p &&& 4294967293 = p - 2 * (p / 2 % 2) := q_nest (by decide +kernel)
theorem ri {x y : Nat} {z : zmH} (h : x = y) : (some (some (Value.int (iN x)), z) : Option (Option Value × zmH)) = some (some (Value.int (iN y)), z) := by rw [h]
theorem q_and3 : ∀ p < 8, p &&& 3 = p % 4 := by decide +kernel
theorem iN_m3 : (-3 : Int32) = iN 4294967293 := by decide +kernel
theorem n_or2 {p : Nat} (h : p < 4840) : iN p ||| iN 2 = iN (asP p 1) := by rw [n_or, q_or2 p h]; rfl
theorem n_andn {p : Nat} (h : p < 4840) : iN p &&& -3 = iN (asP p 0) := by rw [iN_m3, n_and, q_andn p h]; rfl
theorem mx1 {i j : Nat} (hi : i < 2147483648) (hj : j < 2147483648) : (if iN 0 < iN i - iN j then iN i - iN j else iN 0) = iN (i - j) := by
  simp only [n_sub_pos hi hj]
  split
  · rw [n_sub (by omega)]
  · congr 1; omega
theorem mx2 {i j : Nat} (hi : i < 2147483648) (hj : j < 2147483648) : (if iN i - iN j < iN 0 then iN 0 else iN i - iN j) = iN (i - j) := by
  simp only [n_sub_neg hi hj]
  split
  · congr 1; omega
  · rw [n_sub (by omega)]
theorem mn1 {i j : Nat} (hi : i < 2147483648) (hj : j < 2147483648) : (if iN i < iN j then iN i else iN j) = iN (min i j) := by
  simp only [n_lt hi hj]
  split <;> congr 1 <;> omega
/-! leaves over places -/
theorem c_yardsAt {d p : Nat} {n : Nat} {a : Nat → Nat → Int32} {b : Nat → Nat → Int64} {r : Nat → Nat → Option Nat} (h : p < 4840) : Den (d) 138 0 [.int (iN p)] [] (zmMk n a b r) = some (some (.int (iN (pY p))), (zmMk n a b r)) := by
  rw [b138_0, n_div (by omega) (by omega)]
  rfl
theorem c_breathAt {d p : Nat} {n : Nat} {a : Nat → Nat → Int32} {b : Nat → Nat → Int64} {r : Nat → Nat → Option Nat} (h : p < 4840) : Den (d) 139 0 [.int (iN p)] [] (zmMk n a b r) = some (some (.int (iN (pB p))), (zmMk n a b r)) := by
  rw [b139_0, n_div (i := p) (by omega) (by omega), n_rem (by omega) (by omega)]
  rfl
theorem c_isSeenAt {d p : Nat} {n : Nat} {a : Nat → Nat → Int32} {b : Nat → Nat → Int64} {r : Nat → Nat → Option Nat} (h : p < 4840) : Den (d) 140 0 [.int (iN p)] [] (zmMk n a b r) = some (some (.int (bI (decide (pS p = 1)))), (zmMk n a b r)) := by
  simp (disch := omega) only [b140_0, b140_6, b140_10, b140_11, true_or, or_true, if_true, n_and, q_and2 p h, n_eq]
  by_cases hs : p / 2 % 2 = 1
  · rw [if_neg (by omega), decide_eq_true (show pS p = 1 from hs)]; rfl
  · rw [if_pos (by omega), decide_eq_false (show ¬ pS p = 1 from hs)]; rfl
theorem c_placeOf {d y e : Nat} {n : Nat} {a : Nat → Nat → Int32} {b : Nat → Nat → Int64} {r : Nat → Nat → Option Nat} {s u : Bool} : Den (d) 137 0 [.int (iN y), .int (iN e), .int (bI s), .int (bI u)] [] (zmMk n a b r) = some (some (.int (iN (plc y e (bN s) (bN u)))), (zmMk n a b r)) := by
  simp only [b137_0, b137_12, b137_16, b137_17, b137_22, b137_26, b137_27, bI_if, n_mul, n_add]
  unfold plc
  cases s <;> cases u <;> simp only [bN, cond_true, cond_false, if_true, Bool.false_eq_true, if_false] <;> exact ri (by omega)
theorem c_max {d : Nat} {n : Nat} {a : Nat → Nat → Int32} {b : Nat → Nat → Int64} {r : Nat → Nat → Option Nat} {x y : Int32} : Den (d) 274 0 [.int x, .int y] [] (zmMk n a b r) = some (some (.int (if x < y then y else x)), (zmMk n a b r)) := by
  simp only [b274_0, b274_5, b274_9, b274_10]
  split <;> rfl
theorem c_min {d : Nat} {n : Nat} {a : Nat → Nat → Int32} {b : Nat → Nat → Int64} {r : Nat → Nat → Option Nat} {x y : Int32} : Den (d) 275 0 [.int x, .int y] [] (zmMk n a b r) = some (some (.int (if y < x then y else x)), (zmMk n a b r)) := by
  simp only [b275_0, b275_5, b275_9, b275_10]
  split <;> rfl
theorem m_min {d : Nat} {n : Nat} {a : Nat → Nat → Int32} {b : Nat → Nat → Int64} {r : Nat → Nat → Option Nat} {x y : Int32} : Den (d) 151 0 [.int x, .int y] [] (zmMk n a b r) = some (some (.int (if x < y then x else y)), (zmMk n a b r)) := by
  simp only [b151_0, b151_5, b151_9, b151_10]
  split <;> rfl
theorem m_max {d : Nat} {n : Nat} {a : Nat → Nat → Int32} {b : Nat → Nat → Int64} {r : Nat → Nat → Option Nat} {x y : Int32} : Den (d) 152 0 [.int x, .int y] [] (zmMk n a b r) = some (some (.int (if y < x then x else y)), (zmMk n a b r)) := by
  simp only [b152_0, b152_5, b152_9, b152_10]
  split <;> rfl
theorem m_yardsIn {d p : Nat} {n : Nat} {a : Nat → Nat → Int32} {b : Nat → Nat → Int64} {r : Nat → Nat → Option Nat} (h : p < 4840) : Den (d) 197 0 [.int (iN p)] [] (zmMk n a b r) = some (some (.int (iN (pY p))), (zmMk n a b r)) := by
  rw [b197_0, n_div (by omega) (by omega)]
  rfl
theorem m_breathIn {d p : Nat} {n : Nat} {a : Nat → Nat → Int32} {b : Nat → Nat → Int64} {r : Nat → Nat → Option Nat} (h : p < 4840) : Den (d) 198 0 [.int (iN p)] [] (zmMk n a b r) = some (some (.int (iN (pB p))), (zmMk n a b r)) := by
  rw [b198_0, n_div (i := p) (by omega) (by omega), n_rem (by omega) (by omega)]
  rfl
theorem m_seenIn {d p : Nat} {n : Nat} {a : Nat → Nat → Int32} {b : Nat → Nat → Int64} {r : Nat → Nat → Option Nat} (h : p < 4840) : Den (d) 199 0 [.int (iN p)] [] (zmMk n a b r) = some (some (.int (iN (pS p))), (zmMk n a b r)) := by
  rw [b199_0, n_div (i := p) (by omega) (by omega), n_rem (by omega) (by omega)]
  rfl
theorem m_ranIn {d p : Nat} {n : Nat} {a : Nat → Nat → Int32} {b : Nat → Nat → Int64} {r : Nat → Nat → Option Nat} (h : p < 4840) : Den (d) 200 0 [.int (iN p)] [] (zmMk n a b r) = some (some (.int (iN (pR p))), (zmMk n a b r)) := by
  rw [b200_0, n_rem (by omega) (by omega)]
  rfl
theorem m_stateOf {d y e s u : Nat} {n : Nat} {a : Nat → Nat → Int32} {b : Nat → Nat → Int64} {r : Nat → Nat → Option Nat} : Den (d) 196 0 [.int (iN y), .int (iN e), .int (iN s), .int (iN u)] [] (zmMk n a b r) = some (some (.int (iN (plc y e s u))), (zmMk n a b r)) := by
  simp only [b196_0, n_mul, n_add]
  rfl
theorem m_told {d y e : Nat} {n : Nat} {a : Nat → Nat → Int32} {b : Nat → Nat → Int64} {r : Nat → Nat → Option Nat} {s u : Bool} : Den (d+1) 203 0 [.int (iN y), .int (iN e), .int (bI s), .int (bI u)] [] (zmMk n a b r) = some (some (.int (iN (plc y e (bN s) (bN u)))), (zmMk n a b r)) := by
  simp only [b203_0, b203_6, b203_10, b203_11, b203_15, b203_19, b203_20, b203_23, bI_if]
  cases s <;> cases u <;> simp only [if_true, Bool.false_eq_true, if_false, m_stateOf, Option.bind_some, Option.toList_some, Option.toList_none, List.cons_append, List.nil_append, true_or, or_true, if_true, bI_if, b203_23] <;> rfl
theorem m_asSeen {d p s : Nat} {n : Nat} {a : Nat → Nat → Int32} {b : Nat → Nat → Int64} {r : Nat → Nat → Option Nat} (h : p < 4840) : Den (d+1) 211 0 [.int (iN p), .int (iN s)] [] (zmMk n a b r) = some (some (.int (iN (asP p s))), (zmMk n a b r)) := by
  simp only [b211_0, b211_6, m_seenIn h, Option.bind_some, Option.toList_some, Option.toList_none, List.cons_append, List.nil_append, true_or, or_true, if_true, bI_if, n_mul]
  have h2 : pS p * 2 ≤ p := by unfold pS; omega
  rw [n_sub (by rw [Nat.mul_comm]; exact h2), n_add]
  rfl
def isAc (x : Int32) : Bool := inI x (iN 0) (iN 7) && !decide (x = iN 4)
theorem m_isAction {d : Nat} {n : Nat} {a : Nat → Nat → Int32} {b : Nat → Nat → Int64} {r : Nat → Nat → Option Nat} {x : Int32} : Den (d+1) 202 0 [.int x] [] (zmMk n a b r) = some (some (.int (bI (isAc x))), (zmMk n a b r)) := by
  unfold isAc
  simp only [b202_0, b202_7, b202_10, b202_15, b202_19, b202_20, m_in, Option.bind_some, Option.toList_some, Option.toList_none, List.cons_append, List.nil_append, true_or, or_true, if_true, bI_if]
  by_cases h : x = iN 4 <;> cases inI x (iN 0) (iN 7) <;> simp [h, bI]
/-! ===== what is asked: Q letter t place action ===== -/
abbrev AQ : Type := Int32 → Nat → Nat → Nat → Nat
def isLt (l : Int32) : Bool := decide (l = iN 121) || (decide (l = iN 119) || (decide (l = iN 98) || (decide (l = iN 115) || (decide (l = iN 103) || (decide (l = iN 118) || (decide (l = iN 109) || decide (l = iN 108)))))))
/-- the greatest that a letter's answer may be -/
def hiQ (l : Int32) : Nat := if l = iN 119 ∨ l = iN 98 then 9 else if l = iN 115 ∨ l = iN 103 then 10 else 99
def QB (Q : AQ) : Prop := ∀ l t p act, Q l t p act ≤ hiQ l
theorem QB.y {Q : AQ} (h : QB Q) (t p act : Nat) : Q (iN 121) t p act ≤ 99 := h (iN 121) t p act
theorem QB.w {Q : AQ} (h : QB Q) (t p act : Nat) : Q (iN 119) t p act ≤ 9 := h (iN 119) t p act
theorem QB.b {Q : AQ} (h : QB Q) (t p act : Nat) : Q (iN 98) t p act ≤ 9 := h (iN 98) t p act
theorem QB.s {Q : AQ} (h : QB Q) (t p act : Nat) : Q (iN 115) t p act ≤ 10 := h (iN 115) t p act
theorem QB.g {Q : AQ} (h : QB Q) (t p act : Nat) : Q (iN 103) t p act ≤ 10 := h (iN 103) t p act
theorem QB.v {Q : AQ} (h : QB Q) (t p act : Nat) : Q (iN 118) t p act ≤ 99 := h (iN 118) t p act
theorem QB.m {Q : AQ} (h : QB Q) (t p act : Nat) : Q (iN 109) t p act ≤ 99 := h (iN 109) t p act
theorem QB.l {Q : AQ} (h : QB Q) (t p act : Nat) : Q (iN 108) t p act ≤ 99 := h (iN 108) t p act
/-- an ACTION that is not let go: may it be; the place behind it, SEEN as it was -/
abbrev mayP (Q : AQ) (t p act : Nat) : Prop := Q (iN 119) t p act ≤ pB p
def behP (Q : AQ) (t p act : Nat) : Nat := plc (pY p - Q (iN 121) t p act) (min 9 (pB p - Q (iN 119) t p act + Q (iN 98) t p act)) (pS p) (if act % 4 = 3 then 1 else pR p)
def senP (Q : AQ) (t p act : Nat) : Nat := if pS p = 1 then 10 else Q (iN 115) t p act
def gonP (Q : AQ) (B t p : Nat) : Nat := if t + 1 < B then 0 else Q (iN 103) t p 0
theorem behP_lt {Q : AQ} {t p act : Nat} (h : p < 4840) : behP Q t p act < 4840 := by
  have := pY_le h
  have := pS_le p
  have := pR_le p
  unfold behP
  refine plc_lt (by omega) (by omega) (by omega) ?_
  split <;> omega
theorem pS_behP {Q : AQ} {t p act : Nat} : pS (behP Q t p act) = pS p := by
  have := pS_le p
  have := pR_le p
  unfold behP
  refine pS_plc (by omega) (by omega) ?_
  split <;> omega
theorem pY_behP {Q : AQ} {t p act : Nat} : pY (behP Q t p act) = pY p - Q (iN 121) t p act := by
  have := pS_le p
  have := pR_le p
  unfold behP
  refine pY_plc (by omega) (by omega) ?_
  split <;> omega
theorem senP_le {Q : AQ} (h : QB Q) (t p act : Nat) : senP Q t p act ≤ 10 := by
  have := h.s t p act
  unfold senP
  split <;> omega
theorem gonP_le {Q : AQ} (h : QB Q) (B t p : Nat) : gonP Q B t p ≤ 10 := by
  have := h.g t p 0
  unfold gonP
  split <;> omega
/-- two stores agree where P holds -/
def agD (P : Nat → Nat → Bool) (a a' : Nat → Nat → Int32) : Prop := ∀ k j, P k j = true → a' k j = a k j
theorem agD.refl {P : Nat → Nat → Bool} {a : Nat → Nat → Int32} : agD P a a := fun _ _ _ => rfl
theorem agD.trans {P : Nat → Nat → Bool} {a a1 a2 : Nat → Nat → Int32} (h : agD P a a1) (h2 : agD P a1 a2) : agD P a a2 := fun k j hp => (h2 k j hp).trans (h k j hp)
theorem agD.put {P : Nat → Nat → Bool} {a a1 : Nat → Nat → Int32} (h : agD P a a1) {k j : Nat} {v : Int32} (hp : P k j = false) : agD P a (uI a1 k j v) := by
  intro k' j' h'
  rw [uI_at, if_neg (fun e => by rw [e.1, e.2, hp] at h'; cases h')]
  exact h k' j' h'
/-- two stores agree but for the scratch cells -/
def frS (S : Nat → Bool) (a a' : Nat → Nat → Int32) : Prop := ∀ k, S k = false → a' k = a k
theorem frS.refl {S : Nat → Bool} {a : Nat → Nat → Int32} : frS S a a := fun _ _ => rfl
theorem frS.trans {S : Nat → Bool} {a a1 a2 : Nat → Nat → Int32} (h : frS S a a1) (h2 : frS S a1 a2) : frS S a a2 := fun k hp => (h2 k hp).trans (h k hp)
theorem frS.ag {S : Nat → Bool} {P : Nat → Nat → Bool} (hs : ∀ k j, P k j = true → S k = false) {a a' : Nat → Nat → Int32} (h : frS S a a') : agD P a a' := fun k j hp => by rw [h k (hs k j hp)]
/-- the class: cells that asking reads, cells that it writes -/
def dpA (k j : Nat) : Bool := Nat.blt k 14 || ((Nat.beq k 16 && Nat.beq j 0) || (Nat.beq k 25 || (Nat.beq k 28 || ((Nat.ble 31 k && Nat.ble k 35) || ((Nat.ble 38 k && Nat.ble k 42) || ((Nat.ble 70 k && Nat.ble k 74) || ((Nat.ble 76 k && Nat.ble k 80) || ((Nat.ble 82 k && Nat.ble k 86) || (Nat.ble 88 k && Nat.ble k 92)))))))))
def dpC (k j : Nat) : Bool := dpA k j || ((Nat.beq k 27 && Nat.beq j 1) || (Nat.beq k 29 && Nat.beq j 5))
theorem dpA_C (k j : Nat) (h : dpA k j = true) : dpC k j = true := by unfold dpC; rw [h]; rfl
theorem agD.toA {a a' : Nat → Nat → Int32} (h : agD dpC a a') : agD dpA a a' := fun k j hp => h k j (dpA_C k j hp)
def scC (k : Nat) : Bool := Nat.beq k 30 || (Nat.beq k 36 || (Nat.beq k 43 || (Nat.beq k 75 || (Nat.beq k 81 || (Nat.beq k 87 || Nat.beq k 93)))))
theorem dpC_scC (k j : Nat) (h : dpC k j = true) : scC k = false := by
  cases hs : scC k with
  | false => rfl
  | true =>
    simp only [scC, Bool.or_eq_true, Nat.beq_eq] at hs
    rcases hs with rfl | rfl | rfl | rfl | rfl | rfl | rfl <;> (revert h; cases j <;> simp [dpC, dpA])
abbrev frC (a a' : Nat → Nat → Int32) : Prop := frS scC a a'
theorem frS.dpA {a a' : Nat → Nat → Int32} (h : frC a a') : agD dpA a a' := (frS.ag dpC_scC h : agD dpC a a').toA
theorem frS.dpC {a a' : Nat → Nat → Int32} (h : frC a a') : agD dpC a a' := frS.ag dpC_scC h
/-- the reference: the same -/
def dpMA (k j : Nat) : Bool := (Nat.beq k 94 && (Nat.beq j 0 || (Nat.beq j 2 || Nat.beq j 4))) || (Nat.beq k 96 || (Nat.beq k 98 || (Nat.ble 106 k && Nat.ble k 111)))
def dpM (k j : Nat) : Bool := dpMA k j || (Nat.beq k 94 && Nat.beq j 35)
theorem dpMA_M (k j : Nat) (h : dpMA k j = true) : dpM k j = true := by unfold dpM; rw [h]; rfl
theorem agD.toMA {a a' : Nat → Nat → Int32} (h : agD dpM a a') : agD dpMA a a' := fun k j hp => h k j (dpMA_M k j hp)
def scM (k : Nat) : Bool := Nat.beq k 112 || Nat.beq k 113
theorem dpM_scM (k j : Nat) (h : dpM k j = true) : scM k = false := by
  cases hs : scM k with
  | false => rfl
  | true =>
    simp only [scM, Bool.or_eq_true, Nat.beq_eq] at hs
    rcases hs with rfl | rfl <;> (revert h; simp [dpM, dpMA])
abbrev frM (a a' : Nat → Nat → Int32) : Prop := frS scM a a'
theorem frS.dpMA {a a' : Nat → Nat → Int32} (h : frM a a') : agD dpMA a a' := (frS.ag dpM_scM h : agD dpM a a').toMA
theorem frS.dpM {a a' : Nat → Nat → Int32} (h : frM a a') : agD dpM a a' := frS.ag dpM_scM h
