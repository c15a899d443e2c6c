/-! ===== TEXTS: orders, what they come to, and the language's grammar ===== -/
abbrev Ops : Type := List (Nat × Nat)
def rek (o : Nat) (x y : Int32) : Int32 := if o = 2 then x + y else if o = 3 then x - y else if o = 4 then x * y else if o = 5 then x / y else if o = 6 then x - x / y * y else if o = 7 then (if x < y then iN 1 else iN 0) else if o = 8 then (if y < x then iN 1 else iN 0) else if x = y then iN 1 else iN 0
/-- orders 0 number, 1 letter, 2 to 9 reckoned, 10 not, 11 and, 12 or (so many orders left out); none: what may not come; some none: REFUSED -/
def ev (f : Nat → Int32) : Nat → Ops → List Int32 → Option (Option Int32)
  | 0, [], st => match st with
    | [v] => some (some v)
    | _ => none
  | _ + 1, [], _ => none
  | k + 1, _ :: os, st => ev f k os st
  | 0, (o, v) :: os, st =>
    if o = 0 then (if st.length < 20 ∧ v < 100000 then ev f 0 os (iN v :: st) else none)
    else if o = 1 then (if st.length < 20 ∧ v < 10 then ev f 0 os (f v :: st) else none)
    else match st with
      | [] => none
      | x :: st1 => if o = 10 then ev f 0 os ((iN 1 - x) :: st1)
        else if o = 11 ∨ o = 12 then (if (x = iN 0 ∨ x = iN 1) ∧ v ≤ os.length then (if x = iN (o - 11) then ev f v os (x :: st1) else ev f 0 os st1) else none)
        else match st1 with
          | [] => none
          | y :: st2 => if o ≤ 9 then (if (o = 5 ∨ o = 6) ∧ x = iN 0 then some none else ev f 0 os (rek o y x :: st2)) else none
theorem ev_skip (f : Nat → Int32) (os rest : Ops) (st : List Int32) : ev f os.length (os ++ rest) st = ev f 0 rest st := by
  induction os with
  | nil => rfl
  | cons x os ih => exact ih
/-- orders that put one value on top -/
def SegE (c : Nat) (os : Ops) : Prop := ∀ f : Nat → Int32, (∀ (st : List Int32) (rest : Ops), st.length + c ≤ 20 → ev f 0 (os ++ rest) st = some none) ∨ ∃ v, ∀ (st : List Int32) (rest : Ops), st.length + c ≤ 20 → ev f 0 (os ++ rest) st = ev f 0 rest (v :: st)
/-- orders that put 0 or 1 on top -/
def SegB (c : Nat) (os : Ops) : Prop := ∀ f : Nat → Int32, (∀ (st : List Int32) (rest : Ops), st.length + c ≤ 20 → ev f 0 (os ++ rest) st = some none) ∨ ∃ v, (v = iN 0 ∨ v = iN 1) ∧ ∀ (st : List Int32) (rest : Ops), st.length + c ≤ 20 → ev f 0 (os ++ rest) st = ev f 0 rest (v :: st)
theorem SegE.mono {c c' : Nat} {os : Ops} (h : SegE c os) (hc : c ≤ c') : SegE c' os := fun f => (h f).elim (fun e => Or.inl fun st rest hl => e st rest (by omega)) (fun ⟨v, e⟩ => Or.inr ⟨v, fun st rest hl => e st rest (by omega)⟩)
theorem SegB.mono {c c' : Nat} {os : Ops} (h : SegB c os) (hc : c ≤ c') : SegB c' os := fun f => (h f).elim (fun e => Or.inl fun st rest hl => e st rest (by omega)) (fun ⟨v, hv, e⟩ => Or.inr ⟨v, hv, fun st rest hl => e st rest (by omega)⟩)
theorem seg_num {v : Nat} (hv : v < 100000) : SegE 1 [(0, v)] := by
  intro f
  refine Or.inr ⟨iN v, fun st rest hl => ?_⟩
  show (if (0 : Nat) = 0 then (if st.length < 20 ∧ v < 100000 then ev f 0 ([] ++ rest) (iN v :: st) else none) else _) = _
  rw [if_pos rfl, if_pos ⟨by omega, hv⟩]
  rfl
theorem seg_let {v : Nat} (hv : v < 10) : SegE 1 [(1, v)] := by
  intro f
  refine Or.inr ⟨f v, fun st rest hl => ?_⟩
  show (if (1 : Nat) = 0 then (if st.length < 20 ∧ v < 100000 then ev f 0 ([] ++ rest) (iN v :: st) else none) else if (1 : Nat) = 1 then (if st.length < 20 ∧ v < 10 then ev f 0 ([] ++ rest) (f v :: st) else none) else _) = _
  rw [if_neg (by omega), if_pos rfl, if_pos ⟨by omega, hv⟩]
  rfl
theorem ev_bin {f : Nat → Int32} {o : Nat} {rest : Ops} {x y : Int32} {st : List Int32} (h1 : 2 ≤ o) (h2 : o ≤ 9) : ev f 0 ((o, 0) :: rest) (x :: y :: st) = if (o = 5 ∨ o = 6) ∧ x = iN 0 then some none else ev f 0 rest (rek o y x :: st) := by
  show (if o = 0 then _ else if o = 1 then _ else (if o = 10 then ev f 0 rest ((iN 1 - x) :: y :: st) else if o = 11 ∨ o = 12 then _ else (if o ≤ 9 then (if (o = 5 ∨ o = 6) ∧ x = iN 0 then some none else ev f 0 rest (rek o y x :: st)) else none))) = _
  rw [if_neg (by omega), if_neg (by omega), if_neg (by omega), if_neg (by omega), if_pos h2]
theorem seg_bin {c1 c2 o : Nat} {o1 o2 : Ops} (h1 : 2 ≤ o) (h2 : o ≤ 9) (a1 : SegE c1 o1) (a2 : SegE c2 o2) : SegE (max c1 (c2 + 1)) (o1 ++ (o2 ++ [(o, 0)])) := by
  intro f
  rcases a1 f with e | ⟨v, e⟩
  · refine Or.inl fun st rest hl => ?_
    rw [List.append_assoc, e st _ (by omega)]
  · rcases a2 f with e2 | ⟨w, e2⟩
    · refine Or.inl fun st rest hl => ?_
      rw [List.append_assoc, e st _ (by omega), List.append_assoc, e2 (v :: st) _ (by simp only [List.length_cons]; omega)]
    · have key : ∀ (st : List Int32) (rest : Ops), st.length + max c1 (c2 + 1) ≤ 20 → ev f 0 ((o1 ++ (o2 ++ [(o, 0)])) ++ rest) st = if (o = 5 ∨ o = 6) ∧ w = iN 0 then some none else ev f 0 rest (rek o v w :: st) := by
        intro st rest hl
        rw [List.append_assoc, e st _ (by omega), List.append_assoc, e2 (v :: st) _ (by simp only [List.length_cons]; omega)]
        exact ev_bin h1 h2
      by_cases hd : (o = 5 ∨ o = 6) ∧ w = iN 0
      · exact Or.inl fun st rest hl => (key st rest hl).trans (if_pos hd)
      · exact Or.inr ⟨_, fun st rest hl => (key st rest hl).trans (if_neg hd)⟩
theorem rek_b {o : Nat} {x y : Int32} (h : 7 ≤ o) : rek o x y = iN 0 ∨ rek o x y = iN 1 := by
  unfold rek
  rw [if_neg (by omega), if_neg (by omega), if_neg (by omega), if_neg (by omega), if_neg (by omega)]
  repeat' split
  all_goals first | exact Or.inl rfl | exact Or.inr rfl
theorem seg_cmp {c1 c2 o : Nat} {o1 o2 : Ops} (h1 : 7 ≤ o) (h2 : o ≤ 9) (a1 : SegE c1 o1) (a2 : SegE c2 o2) : SegB (max c1 (c2 + 1)) (o1 ++ (o2 ++ [(o, 0)])) := by
  intro f
  rcases a1 f with e | ⟨v, e⟩
  · refine Or.inl fun st rest hl => ?_
    rw [List.append_assoc, e st _ (by omega)]
  · rcases a2 f with e2 | ⟨w, e2⟩
    · refine Or.inl fun st rest hl => ?_
      rw [List.append_assoc, e st _ (by omega), List.append_assoc, e2 (v :: st) _ (by simp only [List.length_cons]; omega)]
    · refine Or.inr ⟨rek o v w, rek_b h1, fun st rest hl => ?_⟩
      rw [List.append_assoc, e st _ (by omega), List.append_assoc, e2 (v :: st) _ (by simp only [List.length_cons]; omega)]
      exact (ev_bin (by omega) h2).trans (if_neg (by omega))
theorem n_1sub : iN 1 - iN 0 = iN 1 ∧ iN 1 - iN 1 = iN 0 := by decide +kernel
theorem seg_not {c : Nat} {o1 : Ops} (a1 : SegB c o1) : SegB c (o1 ++ [(10, 0)]) := by
  intro f
  rcases a1 f with e | ⟨v, hv, e⟩
  · refine Or.inl fun st rest hl => ?_
    rw [List.append_assoc, e st _ hl]
  · have e2 : ∀ (st : List Int32) (rest : Ops), ev f 0 ([(10, 0)] ++ rest) (v :: st) = ev f 0 rest ((iN 1 - v) :: st) := fun _ _ => rfl
    refine Or.inr ⟨iN 1 - v, ?_, fun st rest hl => ?_⟩
    · rcases hv with rfl | rfl
      · exact Or.inr n_1sub.1
      · exact Or.inl n_1sub.2
    · rw [List.append_assoc, e st _ hl, e2]
/-- pieces with an and, parts with an or between two -/
def jn (w : Nat) : List Ops → Ops
  | [] => []
  | [o] => o
  | o :: p :: os => o ++ ((w, (jn w (p :: os)).length) :: jn w (p :: os))
theorem ev_jmp {f : Nat → Int32} {w L : Nat} {R : Ops} {v : Int32} {st : List Int32} (hw : w = 11 ∨ w = 12) (hv : v = iN 0 ∨ v = iN 1) (hL : L ≤ R.length) : ev f 0 ((w, L) :: R) (v :: st) = if v = iN (w - 11) then ev f L R (v :: st) else ev f 0 R st := by
  show (if w = 0 then _ else if w = 1 then _ else (if w = 10 then _ else if w = 11 ∨ w = 12 then (if (v = iN 0 ∨ v = iN 1) ∧ L ≤ R.length then (if v = iN (w - 11) then ev f L R (v :: st) else ev f 0 R st) else none) else _)) = _
  rw [if_neg (by omega), if_neg (by omega), if_neg (by omega), if_pos hw, if_pos ⟨hv, hL⟩]
theorem seg_jn {c w : Nat} (hw : w = 11 ∨ w = 12) (os : List Ops) (h0 : os ≠ []) (h : ∀ o, o ∈ os → SegB c o) : SegB c (jn w os) := by
  induction os with
  | nil => exact absurd rfl h0
  | cons o os ih =>
    cases os with
    | nil => exact h o (List.mem_cons_self ..)
    | cons p os =>
      have i1 := ih (by simp) (fun q hq => h q (List.mem_cons_of_mem _ hq))
      intro f
      have e0 : ∀ rest : Ops, (o ++ ((w, (jn w (p :: os)).length) :: jn w (p :: os))) ++ rest = o ++ ((w, (jn w (p :: os)).length) :: (jn w (p :: os) ++ rest)) := fun rest => by rw [List.append_assoc]; rfl
      rcases h o (List.mem_cons_self ..) f with e | ⟨v, hv, e⟩
      · refine Or.inl fun st rest hl => ?_
        show ev f 0 ((o ++ ((w, (jn w (p :: os)).length) :: jn w (p :: os))) ++ rest) st = _
        rw [e0, e st _ hl]
      · by_cases hc : v = iN (w - 11)
        · refine Or.inr ⟨v, hv, fun st rest hl => ?_⟩
          show ev f 0 ((o ++ ((w, (jn w (p :: os)).length) :: jn w (p :: os))) ++ rest) st = _
          rw [e0, e st _ hl, ev_jmp hw hv (by rw [List.length_append]; omega), if_pos hc, ev_skip]
        · have e2 : ∀ (st : List Int32) (rest : Ops), st.length + c ≤ 20 → ev f 0 ((o ++ ((w, (jn w (p :: os)).length) :: jn w (p :: os))) ++ rest) st = ev f 0 (jn w (p :: os) ++ rest) st := fun st rest hl => by rw [e0, e st _ hl, ev_jmp hw hv (by rw [List.length_append]; omega), if_neg hc]
          rcases i1 f with e3 | ⟨v2, hv2, e3⟩
          · exact Or.inl fun st rest hl => (e2 st rest hl).trans (e3 st rest hl)
          · exact Or.inr ⟨v2, hv2, fun st rest hl => (e2 st rest hl).trans (e3 st rest hl)⟩
/-! the grammar: bytes by place (256 behind the end); left a FAULT and its place, right the place behind and the orders -/
abbrev PR : Type := (Nat × Nat) ⊕ (Nat × Ops)
def isDg (c : Nat) : Bool := Nat.ble 48 c && Nat.ble c 57
def ltI (c : Nat) : Nat := if c = 116 then 0 else if c = 110 then 1 else if c = 100 then 2 else if c = 101 then 3 else if c = 122 then 4 else if c = 114 then 5 else if c = 112 then 6 else if c = 113 then 7 else if c = 107 then 8 else if c = 97 then 9 else 10
def tmO (c : Nat) : Nat := if c = 42 then 4 else if c = 47 then 5 else if c = 37 then 6 else 0
def plO (c : Nat) : Nat := if c = 43 then 2 else if c = 45 then 3 else 0
def cmO (c : Nat) : Nat := if c = 60 then 7 else if c = 62 then 8 else if c = 61 then 9 else 0
def pDig (nx : Nat → Nat) : Nat → Nat → Nat → Nat × Nat
  | 0, v, p => (v, p)
  | k + 1, v, p => if isDg (nx p) then pDig nx k (10 * v + (nx p - 48)) (p + 1) else (v, p)
def pNum (nx : Nat → Nat) (p : Nat) : PR := if isDg (nx p) then (if isDg (nx (pDig nx 5 0 p).2) then .inl (2, (pDig nx 5 0 p).2) else .inr ((pDig nx 5 0 p).2, [(0, (pDig nx 5 0 p).1)])) else .inl (1, p)
def pBrk (nx : Nat → Nat) (c : Nat) (z : PR) : PR := match z with
  | .inl e => .inl e
  | .inr (q, os) => if nx q = c then .inr (q + 1, os) else .inl (1, q)
def pFac (nx : Nat → Nat) (g : Nat → PR) (p : Nat) : PR := if ltI (nx p) < 10 then .inr (p + 1, [(1, ltI (nx p))]) else if nx p = 91 then g p else pNum nx p
def pTms (nx : Nat → Nat) (fac : Nat → PR) : Nat → Nat → Ops → PR
  | 0, p, os => .inr (p, os)
  | f + 1, p, os => if tmO (nx p) = 0 then .inr (p, os) else match fac (p + 1) with
    | .inl e => .inl e
    | .inr (q, o2) => pTms nx fac f q (os ++ (o2 ++ [(tmO (nx p), 0)]))
def pBf (os o2 : Ops) (bf : Nat) : Ops := if bf = 0 then o2 else os ++ (o2 ++ [(bf, 0)])
def pSms (nx : Nat → Nat) (n : Nat) (fac : Nat → PR) : Nat → Nat → Nat → Ops → PR
  | 0, p, _, os => .inr (p, os)
  | f + 1, p, bf, os => match fac p with
    | .inl e => .inl e
    | .inr (q, o1) => match pTms nx fac (n + 1) q o1 with
      | .inl e => .inl e
      | .inr (q2, o2) => if plO (nx q2) = 0 then .inr (q2, pBf os o2 bf) else pSms nx n fac f (q2 + 1) (plO (nx q2)) (pBf os o2 bf)
def pSum (nx : Nat → Nat) (n : Nat) : Nat → Nat → PR
  | 0, p => pSms nx n (pFac nx (fun q => .inl (5, q))) (n + 1) p 0 []
  | m + 1, p => pSms nx n (pFac nx (fun q => pBrk nx 93 (pSum nx n m (q + 1)))) (n + 1) p 0 []
def pCmp (nx : Nat → Nat) (sm : Nat → PR) (p : Nat) : PR := match sm p with
  | .inl e => .inl e
  | .inr (q, o1) => if cmO (nx q) = 0 then .inl (1, q) else match sm (q + 1) with
    | .inl e => .inl e
    | .inr (q2, o2) => .inr (q2, o1 ++ (o2 ++ [(cmO (nx q), 0)]))
def pCnd (J : Nat → List Ops → Ops) (nx : Nat → Nat) (pc : Nat → PR) : Nat → Nat → List Ops → List Ops → PR
  | 0, p, _, _ => .inl (0, p)
  | f + 1, p, QS, PS => match pc p with
    | .inl e => .inl e
    | .inr (q, o) => if nx q = 38 then pCnd J nx pc f (q + 1) QS (PS ++ [o]) else if nx q = 124 then pCnd J nx pc f (q + 1) (QS ++ [J 11 (PS ++ [o])]) [] else .inr (q, J 12 (QS ++ [J 11 (PS ++ [o])]))
def pNot (z : PR) : PR := match z with
  | .inl e => .inl e
  | .inr (q, os) => .inr (q, os ++ [(10, 0)])
def pPc (J : Nat → List Ops → Ops) (nx : Nat → Nat) (n : Nat) : Nat → Nat → PR
  | 0, p => if nx p = 33 ∨ nx p = 40 then .inl (5, p) else pCmp nx (pSum nx n 0) p
  | m + 1, p => if nx p = 33 then pNot (pPc J nx n m (p + 1)) else if nx p = 40 then pBrk nx 41 (pCnd J nx (pPc J nx n m) (n + 1) (p + 1) [] []) else pCmp nx (pSum nx n (m + 1)) p
abbrev Cls : Type := Nat × Ops × Ops
def pCls (J : Nat → List Ops → Ops) (nx : Nat → Nat) (n : Nat) (isL : Nat → Bool) (many p : Nat) : (Nat × Nat) ⊕ (Nat × Cls) := if isL (nx p) = false then .inl (1, p) else if many = 16 then .inl (4, p) else match pSum nx n 6 (p + 1) with
  | .inl e => .inl e
  | .inr (q, oE) => if nx q ≠ 40 then .inl (1, q) else match pBrk nx 41 (pCnd J nx (pPc J nx n 5) (n + 1) (q + 1) [] []) with
    | .inl e => .inl e
    | .inr (q2, oC) => .inr (q2, (nx p, oE, oC))
def pTxt (J : Nat → List Ops → Ops) (nx : Nat → Nat) (n : Nat) (isL : Nat → Bool) : Nat → Nat → List Cls → (Nat × Nat) ⊕ List Cls
  | 0, _, cl => .inr cl
  | f + 1, p, cl => match pCls J nx n isL cl.length p with
    | .inl e => .inl e
    | .inr (q, c) => if q < n then (if nx q = 59 then pTxt J nx n isL f (q + 1) (cl ++ [c]) else .inl (1, q)) else .inr (cl ++ [c])
