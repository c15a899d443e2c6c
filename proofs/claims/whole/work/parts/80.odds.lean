/-! ===== OVER in the class; LEAVES in the reference ===== -/
def ovS (Q : AQ) (B p N : Nat) (C : Nat → Bool) : Nat → Nat
  | 0 => 0
  | j + 1 => ovS Q B p N C j + (if C j = true then lvQ Q B p N j else 0)
theorem lvQ_le (Q : AQ) (hB : QB Q) (B p : Nat) {N j : Nat} (h : j ≤ N) : lvQ Q B p N j ≤ 10 ^ N := by
  unfold lvQ
  by_cases hj : j = N
  · rw [if_pos hj]
    exact stQ_le Q B p N
  · rw [if_neg hj]
    have h1 := stQ_le Q B p j
    have h2 := gonP_le hB B j p
    have e2 : 10 ^ N = 10 ^ j * 10 * 10 ^ (N - 1 - j) := by
      rw [← Nat.pow_succ, ← Nat.pow_add]
      congr 1
      omega
    rw [e2]
    exact Nat.mul_le_mul (Nat.mul_le_mul h1 h2) (Nat.le_refl _)
theorem ovS_le (Q : AQ) (hB : QB Q) (B p : Nat) {N j : Nat} (C : Nat → Bool) (h : j ≤ N + 1) : ovS Q B p N C j ≤ j * 10 ^ N := by
  induction j with
  | zero => exact Nat.zero_le _
  | succ j ih =>
    have h1 := ih (by omega)
    have h2 := lvQ_le Q hB B p (N := N) (j := j) (by omega)
    show ovS Q B p N C j + _ ≤ _
    rw [Nat.add_mul, Nat.one_mul]
    split <;> omega
theorem c_overLoop {n N B p d : Nat} {r : Nat → Nat → Option Nat} {Q : AQ} {vf : Int32} (hp : p < 4840) (k : Nat) : ∀ (i : Nat) (u9 : Value) (a : Nat → Nat → Int32) (b : Nat → Nat → Int64), i + k = N → EnvC n r a N B Q → TabC b → ∃ v9 a', Den (d+11) 32 17 [.ref 65,.int vf,.int (iN p),.int (iN N),.long (jN (stQ Q B p i)),zmJ,.long (jN (ovS Q B p N (fun j => !decide (iN j < vf)) i)),zmJ,.int (iN i),u9] [] (zmMk n a b r) = Den (d+11) 32 83 [.ref 65,.int vf,.int (iN p),.int (iN N),.long (jN (stQ Q B p N)),zmJ,.long (jN (ovS Q B p N (fun j => !decide (iN j < vf)) N)),zmJ,.int (iN N),v9] [] (zmMk n a' b r) ∧ frC a a' := by
  induction k with
  | zero =>
    intro i u9 a b hik hE hT
    have h8 := hE.n8
    obtain rfl : i = N := by omega
    refine ⟨u9, a, ?_, frS.refl⟩
    rw [b32_17]
    simp (disch := omega) only [n_add, n_mul, n_in, decide_eq_true_eq, n_nat, n_lt, n_eq, n_sub, if_pos, if_neg, if_true, if_false]
  | succ k ih =>
    intro i u9 a b hik hE hT
    have h8 := hE.n8
    obtain ⟨a1, e1, f1⟩ := c_tenthsGone (d := d) (b := b) hE (vt := iN i) (vp := iN p) rfl rfl (by omega) hp
    have hg := gonP_le hE.qb B i p
    obtain ⟨v9, a2, e2, f2⟩ := ih (i + 1) (.int (iN (gonP Q B i p))) a1 b (by omega) (hE.fr f1) hT
    refine ⟨v9, a2, ?_, f1.trans f2⟩
    rw [← e2, b32_17]
    have es : stQ Q B p (i + 1) = stQ Q B p i * (10 - gonP Q B i p) := rfl
    have eo : ovS Q B p N (fun j => !decide (iN j < vf)) (i + 1) = ovS Q B p N (fun j => !decide (iN j < vf)) i + (if (!decide (iN i < vf)) = true then lvQ Q B p N i else 0) := rfl
    by_cases hc : iN i < vf
    · have hd : (!decide (iN i < vf)) = false := by rw [decide_eq_true hc]; rfl
      rw [es, eo, hd]
      simp (disch := omega) only [n_add, n_mul, n_in, decide_eq_true_eq, n_nat, n_lt, n_eq, n_sub, if_pos, if_neg, if_true, if_false, b32_23, e1, Option.bind_some, Option.toList_some, Option.toList_none, List.cons_append, List.nil_append, true_or, or_true, if_true, bI_if, b32_33, hc, b32_43, b32_63, l_of, l_mul, Bool.false_eq_true, Int64.add_zero, Nat.add_zero]
    · have hd : (!decide (iN i < vf)) = true := by rw [decide_eq_false hc]; rfl
      have hl : lvQ Q B p N i = stQ Q B p i * gonP Q B i p * 10 ^ (N - 1 - i) := by unfold lvQ; rw [if_neg (by omega)]
      rw [es, eo, hd, hl]
      simp (disch := omega) only [n_add, n_mul, n_in, decide_eq_true_eq, n_nat, n_lt, n_eq, n_sub, if_pos, if_neg, if_true, if_false, b32_23, e1, Option.bind_some, Option.toList_some, Option.toList_none, List.cons_append, List.nil_append, true_or, or_true, if_true, bI_if, b32_33, hc, b32_47, c_tens hT, ten_N, b32_62, b32_63, l_of, l_mul, l_add]
theorem c_findOver {n N B p d : Nat} {r : Nat → Nat → Option Nat} {Q : AQ} {a : Nat → Nat → Int32} {b : Nat → Nat → Int64} {vf vp : Int32} (ep : vp = iN p) (hp : p < 4840) (hE : EnvC n r a N B Q) (hT : TabC b) : ∃ a', Den (d+11) 32 0 [.ref 65, .int vf, .int vp, zmJ, zmJ, zmJ, zmJ, zmJ, zmJ, zmJ] [] (zmMk n a b r) = some (none, zmMk n a' (uL (uL b 65 1 (jN (ovS Q B p N (fun j => !decide (iN j < vf)) (N + 1) / Nat.gcd (ovS Q B p N (fun j => !decide (iN j < vf)) (N + 1)) (10 ^ N)))) 65 2 (jN (10 ^ N / Nat.gcd (ovS Q B p N (fun j => !decide (iN j < vf)) (N + 1)) (10 ^ N)))) r) ∧ frC a a' := by
  subst ep
  have h8 := hE.n8
  have h16 : a 16 0 = iN N := hE.2.1
  obtain ⟨v9, a1, e1, f1⟩ := c_overLoop (d := d) (vf := vf) hp N 0 zmJ a b (by omega) hE hT
  have h31 : stQ Q B p 0 = 1 := rfl
  have h32 : ovS Q B p N (fun j => !decide (iN j < vf)) 0 = 0 := rfl
  rw [h31, h32, jN_1, jN_0] at e1
  refine ⟨a1, ?_, f1⟩
  have hb := ovS_le Q hE.qb B p (N := N) (j := N + 1) (fun j => !decide (iN j < vf)) (Nat.le_refl _)
  have hp10 := p10_le (j := N) (by omega)
  have hpp := p10_pos N
  have hb2 : (N + 1) * 10 ^ N ≤ 9 * 1000000000 := Nat.mul_le_mul (by omega) hp10
  have eo : ovS Q B p N (fun j => !decide (iN j < vf)) (N + 1) = ovS Q B p N (fun j => !decide (iN j < vf)) N + (if (!decide (iN N < vf)) = true then lvQ Q B p N N else 0) := rfl
  have el : lvQ Q B p N N = stQ Q B p N := by unfold lvQ; rw [if_pos rfl]
  have e3 : Den (d+11) 32 83 [.ref 65,.int vf,.int (iN p),.int (iN N),.long (jN (stQ Q B p N)),zmJ,.long (jN (ovS Q B p N (fun j => !decide (iN j < vf)) N)),zmJ,.int (iN N),v9] [] (zmMk n a1 b r) = Den (d+11) 32 106 [.ref 65,.int vf,.int (iN p),.int (iN N),.long (jN (stQ Q B p N)),zmJ,.long (jN (ovS Q B p N (fun j => !decide (iN j < vf)) (N + 1))),zmJ,.int (iN N),v9] [.long (jN (10 ^ N)), .long (jN (ovS Q B p N (fun j => !decide (iN j < vf)) (N + 1))), .ref 65] (zmMk n a1 b r) := by
    by_cases hc : iN N < vf
    · have hd : (!decide (iN N < vf)) = false := by rw [decide_eq_true hc]; rfl
      rw [eo, hd]
      simp (disch := omega) only [b32_83, hc, if_true, b32_90, b32_96, c_tens hT, ten_N, Option.bind_some, Option.toList_some, Option.toList_none, List.cons_append, List.nil_append, true_or, or_true, if_true, bI_if, Bool.false_eq_true, if_false, Int64.add_zero, Nat.add_zero]
    · have hd : (!decide (iN N < vf)) = true := by rw [decide_eq_false hc]; rfl
      rw [eo, hd, el]
      simp (disch := omega) only [b32_83, hc, if_false, b32_94, b32_96, c_tens hT, ten_N, Option.bind_some, Option.toList_some, Option.toList_none, List.cons_append, List.nil_append, true_or, or_true, if_true, bI_if, l_add]
  simp (disch := omega) only [b32_0, b57_0, h16, Option.bind_some, Option.toList_some, Option.toList_none, List.cons_append, List.nil_append, true_or, or_true, if_true, bI_if, b32_7, e1, e3, b32_106, c_set, b32_109]
/-- as it is told: BOARDING as it is, with waves -/
def tldM (a : Nat → Nat → Int32) : Nat → Nat → Int32 := uI (uI a 94 35 (a 94 3)) 94 39 (iN 0)
def EnvT (n : Nat) (r : Nat → Nat → Option Nat) (a : Nat → Nat → Int32) (N B : Nat) (Q : AQ) : Prop := AskM n r a Q ∧ a 94 0 = iN N ∧ 1 ≤ N ∧ N ≤ 8 ∧ a 94 3 = iN B ∧ B ≤ 98 ∧ QB Q
theorem EnvT.M {n N B : Nat} {r : Nat → Nat → Option Nat} {a : Nat → Nat → Int32} {Q : AQ} (h : EnvT n r a N B Q) : EnvM n r (tldM a) N B Q := by
  obtain ⟨hA, h1, h2, h3, h4, h5, h6⟩ := h
  refine ⟨fun d a1 b l vt vp va vh t p act h0 => hA d a1 b l vt vp va vh t p act (agD.trans ((agD.refl.put rfl).put rfl) h0), ?_, h2, h3, ?_, by omega, h6⟩
  · unfold tldM
    rw [uI_at, if_neg (by omega), uI_at, if_neg (by omega)]
    exact h1
  · unfold tldM
    rw [uI_at, if_neg (by omega), uI_at, if_pos ⟨rfl, rfl⟩]
    exact h4
theorem tldM_39 (a : Nat → Nat → Int32) : tldM a 94 39 = bI false := by
  unfold tldM
  rw [uI_at, if_pos ⟨rfl, rfl⟩]
  rfl
theorem tldM_at (a : Nat → Nat → Int32) {k j : Nat} (h : ¬ (k = 94 ∧ (j = 35 ∨ j = 39))) : tldM a k j = a k j := by
  unfold tldM
  rw [uI_at, if_neg (by omega), uI_at, if_neg (by omega)]
theorem m_leaveLoop {n N B p d j : Nat} {r : Nat → Nat → Option Nat} {Q : AQ} (hp : p < 4840) (hj : j ≤ N) (k : Nat) : ∀ (i : Nat) (u8 : Value) (a : Nat → Nat → Int32) (b : Nat → Nat → Int64), i + k = N → EnvM n r a N B Q → ∃ v8 a', Den (d+11) 239 17 [.ref 94,.int (iN j),.int (iN p),.long (jN (stQ Q B p i)),zmJ,.long (jN (if j < i then stQ Q B p j * gonP Q B j p * 10 ^ (i - 1 - j) else 0)),zmJ,.int (iN i),u8] [] (zmMk n a (uL b 94 63 (jN (10 ^ i))) r) = Den (d+11) 239 83 [.ref 94,.int (iN j),.int (iN p),.long (jN (stQ Q B p N)),zmJ,.long (jN (if j < N then stQ Q B p j * gonP Q B j p * 10 ^ (N - 1 - j) else 0)),zmJ,.int (iN N),v8] [] (zmMk n a' (uL b 94 63 (jN (10 ^ N))) r) ∧ frM a a' := by
  induction k with
  | zero =>
    intro i u8 a b hik hE
    have h8 := hE.n8
    obtain rfl : i = N := by omega
    refine ⟨u8, a, ?_, frS.refl⟩
    rw [b239_17]
    simp (disch := omega) only [hE.2.1, n_lt]
    rw [if_neg (by omega)]
  | succ k ih =>
    intro i u8 a b hik hE
    have h8 := hE.n8
    obtain ⟨a1, e1, f1⟩ := m_goesBy (d := d) (b := uL b 94 63 (jN (10 ^ i))) hE (vt := iN i) (vp := iN p) rfl rfl (by omega) hp
    have hg := gonP_le hE.qb B i p
    obtain ⟨v9, a2, e2, f2⟩ := ih (i + 1) (.int (iN (gonP Q B i p))) a1 b (by omega) (hE.fr f1)
    refine ⟨v9, a2, ?_, f1.trans f2⟩
    have es : stQ Q B p (i + 1) = stQ Q B p i * (10 - gonP Q B i p) := rfl
    have eb : uL (uL b 94 63 (jN (10 ^ i))) 94 63 (jN (10 ^ i) * 10) = uL b 94 63 (jN (10 ^ (i + 1))) := by
      rw [Nat.pow_succ, ← l_mul]
      funext k j
      simp only [uL_at]
      split <;> rfl
    have eb2 : uL b 94 63 (jN (10 ^ i)) 94 63 = jN (10 ^ i) := by rw [uL_at, if_pos ⟨rfl, rfl⟩]
    rw [← e2, b239_17]
    have h94 : a 94 0 = iN N := hE.2.1
    have hlt : (iN i < iN N) = True := by rw [n_lt (by omega) (by omega)]; exact eq_true (by omega)
    rw [es]
    by_cases hij : i = j
    · subst hij
      have q1 : (if i < i + 1 then stQ Q B p i * gonP Q B i p * 10 ^ (i + 1 - 1 - i) else 0) = stQ Q B p i * gonP Q B i p := by
        rw [if_pos (by omega), show i + 1 - 1 - i = 0 by omega, Nat.pow_zero, Nat.mul_one]
      rw [q1]
      simp (disch := omega) only [h94, hlt, if_true, b239_26, e1, Option.bind_some, Option.toList_some, Option.toList_none, List.cons_append, List.nil_append, true_or, or_true, if_true, bI_if, b239_33, b239_49, b239_56, l_of, l_mul, n_sub, n_add, eb2, eb]
    · have hne : (iN i = iN j) = False := by rw [n_eq (by omega) (by omega)]; exact eq_false hij
      have q1 : jN (if j < i then stQ Q B p j * gonP Q B j p * 10 ^ (i - 1 - j) else 0) * 10 = jN (if j < i + 1 then stQ Q B p j * gonP Q B j p * 10 ^ (i + 1 - 1 - j) else 0) := by
        rw [← jN_10, l_mul]
        congr 1
        by_cases hlt : j < i
        · rw [if_pos hlt, if_pos (by omega), Nat.mul_assoc, ← Nat.pow_succ]
          congr 2
          omega
        · rw [if_neg hlt, if_neg (by omega)]
      simp (disch := omega) only [h94, hlt, if_true, b239_26, e1, Option.bind_some, Option.toList_some, Option.toList_none, List.cons_append, List.nil_append, true_or, or_true, if_true, bI_if, b239_33, hne, if_false, b239_56, l_of, l_mul, n_sub, n_add, eb2, eb, q1]
theorem m_leavesIn {n N B p d j : Nat} {r : Nat → Nat → Option Nat} {Q : AQ} {a : Nat → Nat → Int32} {b : Nat → Nat → Int64} {vj vp : Int32} (ej : vj = iN j) (ep : vp = iN p) (hj : j ≤ N) (hp : p < 4840) (hE : EnvT n r a N B Q) : ∃ a', Den (d+11) 239 0 [.ref 94, .int vj, .int vp, zmJ, zmJ, zmJ, zmJ, zmJ, zmJ] [] (zmMk n a b r) = some (some (.long (jN (lvQ Q B p N j))), zmMk n a' (uL b 94 63 (jN (10 ^ N))) r) ∧ frM (tldM a) a' := by
  subst ej ep
  have hM := hE.M
  have h8 := hM.n8
  obtain ⟨v8, a1, e1, f1⟩ := m_leaveLoop (d := d) hp hj N 0 zmJ (tldM a) b (by omega) hM
  have h31 : stQ Q B p 0 = 1 := rfl
  rw [h31, if_neg (by omega), jN_1, jN_0] at e1
  have h94 : a1 94 0 = iN N := by rw [f1 94 rfl]; exact hM.2.1
  refine ⟨a1, ?_, f1⟩
  have e0 : Den (d+10) 220 0 [.ref 94] [] (zmMk n a b r) = some (none, zmMk n (tldM a) b r) := b220_0
  by_cases hjN : j = N
  · subst hjN
    have hl : lvQ Q B p j j = stQ Q B p j := by unfold lvQ; rw [if_pos rfl]
    rw [hl]
    simp (disch := omega) only [b239_0, e0, Option.bind_some, Option.toList_some, Option.toList_none, List.cons_append, List.nil_append, true_or, or_true, if_true, bI_if, b239_4, e1, b239_83, h94, if_true, b239_91, b239_97]
  · have hl : lvQ Q B p N j = (if j < N then stQ Q B p j * gonP Q B j p * 10 ^ (N - 1 - j) else 0) := by unfold lvQ; rw [if_neg hjN, if_pos (by omega)]
    rw [hl]
    simp (disch := omega) only [b239_0, e0, Option.bind_some, Option.toList_some, Option.toList_none, List.cons_append, List.nil_append, true_or, or_true, if_true, bI_if, b239_4, e1, b239_83, h94, n_eq, hjN, if_false, b239_95, b239_97]
