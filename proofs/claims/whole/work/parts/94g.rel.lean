/-! ===== both ways to lay leaps come to the same ===== -/
def EqB (c : Nat) (x y : Ops) : Prop := x.length = y.length ∧ ∀ f : Nat → Int32, (∀ (st : List Int32) (rest : Ops), st.length + c ≤ 20 → ev f 0 (x ++ rest) st = some none ∧ ev f 0 (y ++ rest) st = some none) ∨ ∃ v, (v = iN 0 ∨ v = iN 1) ∧ ∀ (st : List Int32) (rest : Ops), st.length + c ≤ 20 → ev f 0 (x ++ rest) st = ev f 0 rest (v :: st) ∧ ev f 0 (y ++ rest) st = ev f 0 rest (v :: st)
theorem eqB_refl {c : Nat} {x : Ops} (h : SegB c x) : EqB c x x := ⟨rfl, fun f => (h f).elim (fun e => Or.inl fun st rest hl => ⟨e st rest hl, e st rest hl⟩) (fun ⟨v, hv, e⟩ => Or.inr ⟨v, hv, fun st rest hl => ⟨e st rest hl, e st rest hl⟩⟩)⟩
theorem eqB_seg {c : Nat} {x y : Ops} (h : EqB c x y) : SegB c y := fun f => (h.2 f).elim (fun e => Or.inl fun st rest hl => (e st rest hl).2) (fun ⟨v, hv, e⟩ => Or.inr ⟨v, hv, fun st rest hl => (e st rest hl).2⟩)
theorem eqB_mono {c c' : Nat} {x y : Ops} (h : EqB c x y) (hc : c ≤ c') : EqB c' x y := ⟨h.1, fun f => (h.2 f).elim (fun e => Or.inl fun st rest hl => e st rest (by omega)) (fun ⟨v, hv, e⟩ => Or.inr ⟨v, hv, fun st rest hl => e st rest (by omega)⟩)⟩
theorem eqB_not {c : Nat} {x y : Ops} (h : EqB c x y) : EqB c (x ++ [(10, 0)]) (y ++ [(10, 0)]) := by
  refine ⟨by rw [List.length_append, List.length_append, h.1], fun f => ?_⟩
  rcases h.2 f with e | ⟨v, hv, e⟩
  · refine Or.inl fun st rest hl => ?_
    rw [List.append_assoc, List.append_assoc]
    exact ⟨(e st _ hl).1, (e st _ hl).2⟩
  · have e2 : ∀ (st : List Int32) (rest : Ops), ev f 0 ([(10, 0)] ++ rest) (v :: st) = ev f 0 rest ((iN 1 - v) :: st) := fun _ _ => rfl
    refine Or.inr ⟨iN 1 - v, ?_, fun st rest hl => ?_⟩
    · rcases hv with rfl | rfl
      · exact Or.inr n_1sub.1
      · exact Or.inl n_1sub.2
    · rw [List.append_assoc, List.append_assoc, (e st _ hl).1, (e st _ hl).2, e2]
      exact ⟨rfl, rfl⟩
def AllEq (c : Nat) : List Ops → List Ops → Prop
  | [], [] => True
  | x :: X, y :: Y => EqB c x y ∧ AllEq c X Y
  | [], _ :: _ => False
  | _ :: _, [] => False
theorem allEq_snoc {c : Nat} {x y : Ops} (h : EqB c x y) (X : List Ops) : ∀ {Y : List Ops}, AllEq c X Y → AllEq c (X ++ [x]) (Y ++ [y]) := by
  induction X with
  | nil =>
    intro Y hY
    cases Y with
    | nil => exact ⟨h, trivial⟩
    | cons z Y => exact hY.elim
  | cons w X ih =>
    intro Y hY
    cases Y with
    | nil => exact hY.elim
    | cons z Y => exact ⟨hY.1, ih hY.2⟩
theorem jm_le (w : Nat) (y : Ops) (Y : List Ops) : y.length ≤ (jm w (y :: Y)).length := by
  cases Y with
  | nil => exact Nat.le_refl _
  | cons z Y =>
    show y.length ≤ (y ++ ((w, z.length) :: jm w (z :: Y))).length
    rw [List.length_append]
    omega
theorem jm_skip {f : Nat → Int32} {w : Nat} {v : Int32} (hw : w = 11 ∨ w = 12) (hv : v = iN 0 ∨ v = iN 1) (hc : v = iN (w - 11)) (Y : List Ops) : ∀ (y : Ops) (st : List Int32) (rest : Ops), ev f y.length (jm w (y :: Y) ++ rest) (v :: st) = ev f 0 rest (v :: st) := by
  induction Y with
  | nil => exact fun y st rest => ev_skip f y rest (v :: st)
  | cons z Y ih =>
    intro y st rest
    show ev f y.length ((y ++ ((w, z.length) :: jm w (z :: Y))) ++ rest) (v :: st) = _
    rw [List.append_assoc, ev_skip]
    show ev f 0 ((w, z.length) :: (jm w (z :: Y) ++ rest)) (v :: st) = _
    rw [ev_jmp hw hv (by rw [List.length_append]; have := jm_le w z Y; omega), if_pos hc]
    exact ih z st rest
theorem eq_j {c w : Nat} (hw : w = 11 ∨ w = 12) (X : List Ops) : ∀ Y : List Ops, AllEq c X Y → X ≠ [] → EqB c (jn w X) (jm w Y) := by
  induction X with
  | nil => exact fun Y _ h => absurd rfl h
  | cons x X ih =>
    intro Y hY _
    cases Y with
    | nil => exact hY.elim
    | cons y Y =>
      cases X with
      | nil =>
        cases Y with
        | nil => exact hY.1
        | cons z Y => exact hY.2.elim
      | cons x2 X =>
        cases Y with
        | nil => exact hY.2.elim
        | cons y2 Y =>
          have i1 := ih (y2 :: Y) hY.2 (by simp)
          have h1 := hY.1
          refine ⟨?_, fun f => ?_⟩
          · show (x ++ ((w, (jn w (x2 :: X)).length) :: jn w (x2 :: X))).length = (y ++ ((w, y2.length) :: jm w (y2 :: Y))).length
            rw [List.length_append, List.length_append, List.length_cons, List.length_cons, h1.1, i1.1]
          · have ex : ∀ rest : Ops, jn w (x :: x2 :: X) ++ rest = x ++ ((w, (jn w (x2 :: X)).length) :: (jn w (x2 :: X) ++ rest)) := fun rest => by
              show (x ++ ((w, (jn w (x2 :: X)).length) :: jn w (x2 :: X))) ++ rest = _
              rw [List.append_assoc]
              rfl
            have ey : ∀ rest : Ops, jm w (y :: y2 :: Y) ++ rest = y ++ ((w, y2.length) :: (jm w (y2 :: Y) ++ rest)) := fun rest => by
              show (y ++ ((w, y2.length) :: jm w (y2 :: Y))) ++ rest = _
              rw [List.append_assoc]
              rfl
            rcases h1.2 f with e | ⟨v, hv, e⟩
            · refine Or.inl fun st rest hl => ?_
              rw [ex, ey]
              exact ⟨(e st _ hl).1, (e st _ hl).2⟩
            · by_cases hc : v = iN (w - 11)
              · refine Or.inr ⟨v, hv, fun st rest hl => ?_⟩
                rw [ex, ey, (e st _ hl).1, (e st _ hl).2, ev_jmp hw hv (by rw [List.length_append]; omega), if_pos hc, ev_skip, ev_jmp hw hv (by rw [List.length_append]; have := jm_le w y2 Y; omega), if_pos hc, jm_skip hw hv hc]
                exact ⟨rfl, rfl⟩
              · have e2 : ∀ (st : List Int32) (rest : Ops), st.length + c ≤ 20 → ev f 0 (jn w (x :: x2 :: X) ++ rest) st = ev f 0 (jn w (x2 :: X) ++ rest) st ∧ ev f 0 (jm w (y :: y2 :: Y) ++ rest) st = ev f 0 (jm w (y2 :: Y) ++ rest) st := fun st rest hl => by
                  rw [ex, ey, (e st _ hl).1, (e st _ hl).2, ev_jmp hw hv (by rw [List.length_append]; omega), if_neg hc, ev_jmp hw hv (by rw [List.length_append]; have := jm_le w y2 Y; omega), if_neg hc]
                  exact ⟨rfl, rfl⟩
                rcases i1.2 f with e3 | ⟨v2, hv2, e3⟩
                · exact Or.inl fun st rest hl => ⟨(e2 st rest hl).1.trans (e3 st rest hl).1, (e2 st rest hl).2.trans (e3 st rest hl).2⟩
                · exact Or.inr ⟨v2, hv2, fun st rest hl => ⟨(e2 st rest hl).1.trans (e3 st rest hl).1, (e2 st rest hl).2.trans (e3 st rest hl).2⟩⟩
/-- the same place and FAULT, orders that come to the same -/
def rlR (c : Nat) (z z' : PR) : Prop := match z, z' with
  | .inl e, .inl e' => e = e'
  | .inr (q, x), .inr (q', y) => q = q' ∧ EqB c x y
  | .inl _, .inr _ => False
  | .inr _, .inl _ => False
theorem rl_gd {n c p : Nat} {z z' : PR} (h : rlR c z z') (hg : gdB n c p z) : gdB n c p z' := by
  cases z with
  | inl e =>
    cases z' with
    | inl e' =>
      have : e = e' := h
      rw [← this]
      exact hg
    | inr e' => exact h.elim
  | inr e =>
    cases z' with
    | inl e' => exact h.elim
    | inr e' =>
      obtain ⟨q, x⟩ := e
      obtain ⟨q', y⟩ := e'
      obtain ⟨rfl, h2⟩ := h
      obtain ⟨g1, g2, g3, g4⟩ := hg
      exact ⟨g1, g2, by rw [← h2.1]; exact g3, eqB_seg h2⟩
theorem rl_mono {c c' : Nat} {z z' : PR} (h : rlR c z z') (hc : c ≤ c') : rlR c' z z' := by
  cases z with
  | inl e =>
    cases z' with
    | inl e' => exact h
    | inr e' => exact h.elim
  | inr e =>
    cases z' with
    | inl e' => exact h.elim
    | inr e' => exact ⟨h.1, eqB_mono h.2 hc⟩
theorem rl_refl {n c p : Nat} {z : PR} (hg : gdB n c p z) : rlR c z z := by
  cases z with
  | inl e => rfl
  | inr e => exact ⟨rfl, eqB_refl hg.2.2.2⟩
theorem rl_not {c : Nat} {z z' : PR} (h : rlR c z z') : rlR c (pNot z) (pNot z') := by
  cases z with
  | inl e =>
    cases z' with
    | inl e' => exact h
    | inr e' => exact h.elim
  | inr e =>
    cases z' with
    | inl e' => exact h.elim
    | inr e' => exact ⟨h.1, eqB_not h.2⟩
theorem rl_brk {nx : Nat → Nat} {c k : Nat} {z z' : PR} (h : rlR c z z') : rlR c (pBrk nx k z) (pBrk nx k z') := by
  cases z with
  | inl e =>
    cases z' with
    | inl e' => exact h
    | inr e' => exact h.elim
  | inr e =>
    cases z' with
    | inl e' => exact h.elim
    | inr e' =>
      obtain ⟨q, x⟩ := e
      obtain ⟨q', y⟩ := e'
      obtain ⟨rfl, h2⟩ := h
      show rlR c (if nx q = k then .inr (q + 1, x) else .inl (1, q)) (if nx q = k then .inr (q + 1, y) else .inl (1, q))
      by_cases hk : nx q = k
      · rw [if_pos hk, if_pos hk]
        exact ⟨rfl, h2⟩
      · rw [if_neg hk, if_neg hk]
        rfl
theorem rl_cnd {nx : Nat → Nat} {n c : Nat} {pc pc' : Nat → PR} (hn : endN nx n) (hs : ∀ p, p ≤ n → gdB n c p (pc p)) (hr : ∀ p, p ≤ n → rlR c (pc p) (pc' p)) (k : Nat) : ∀ (p : Nat) (QS PS QS' PS' : List Ops), p ≤ n → AllEq c QS QS' → AllEq c PS PS' → rlR c (pCnd jn nx pc k p QS PS) (pCnd jm nx pc' k p QS' PS') := by
  induction k with
  | zero => exact fun p _ _ _ _ _ _ _ => rfl
  | succ k ih =>
    intro p QS PS QS' PS' hp hQ hP
    have hg := hs p hp
    have h := hr p hp
    show rlR c (match pc p with
      | .inl e => .inl e
      | .inr (q, o) => if nx q = 38 then pCnd jn nx pc k (q + 1) QS (PS ++ [o]) else if nx q = 124 then pCnd jn nx pc k (q + 1) (QS ++ [jn 11 (PS ++ [o])]) [] else .inr (q, jn 12 (QS ++ [jn 11 (PS ++ [o])]))) (match pc' p with
      | .inl e => .inl e
      | .inr (q, o) => if nx q = 38 then pCnd jm nx pc' k (q + 1) QS' (PS' ++ [o]) else if nx q = 124 then pCnd jm nx pc' k (q + 1) (QS' ++ [jm 11 (PS' ++ [o])]) [] else .inr (q, jm 12 (QS' ++ [jm 11 (PS' ++ [o])])))
    cases hz : pc p with
    | inl e =>
      rw [hz] at h
      cases hz' : pc' p with
      | inl e' =>
        rw [hz'] at h
        exact h
      | inr e' =>
        rw [hz'] at h
        exact h.elim
    | inr e =>
      rw [hz] at h hg
      cases hz' : pc' p with
      | inl e' =>
        rw [hz'] at h
        exact h.elim
      | inr e' =>
        rw [hz'] at h
        obtain ⟨q, x⟩ := e
        obtain ⟨q', y⟩ := e'
        obtain ⟨rfl, h2⟩ := h
        obtain ⟨g1, g2, g3, g4⟩ := hg
        have hP2 := allEq_snoc h2 PS hP
        have hJ := eq_j (Or.inl rfl) _ _ hP2 (w := 11) (by simp)
        have hQ2 := allEq_snoc hJ QS hQ
        dsimp only
        by_cases h38 : nx q = 38
        · have hq := hn.lt (p := q) (by omega)
          rw [if_pos h38, if_pos h38]
          exact ih (q + 1) _ _ _ _ hq hQ hP2
        · rw [if_neg h38, if_neg h38]
          by_cases h124 : nx q = 124
          · have hq := hn.lt (p := q) (by omega)
            rw [if_pos h124, if_pos h124]
            exact ih (q + 1) _ _ _ _ hq hQ2 trivial
          · rw [if_neg h124, if_neg h124]
            exact ⟨rfl, eq_j (Or.inr rfl) _ _ hQ2 (w := 12) (by simp)⟩
theorem rl_pc {nx : Nat → Nat} {n : Nat} (hn : endN nx n) (m : Nat) : ∀ p, p ≤ n → rlR (2 * m + 4) (pPc jn nx n m p) (pPc jm nx n m p) := by
  induction m with
  | zero => exact fun p hp => rl_refl (gd_pc hn 0 p hp)
  | succ m ih =>
    intro p hp
    show rlR (2 * (m + 1) + 4) (if nx p = 33 then pNot (pPc jn nx n m (p + 1)) else if nx p = 40 then pBrk nx 41 (pCnd jn nx (pPc jn nx n m) (n + 1) (p + 1) [] []) else pCmp nx (pSum nx n (m + 1)) p) (if nx p = 33 then pNot (pPc jm nx n m (p + 1)) else if nx p = 40 then pBrk nx 41 (pCnd jm nx (pPc jm nx n m) (n + 1) (p + 1) [] []) else pCmp nx (pSum nx n (m + 1)) p)
    by_cases h1 : nx p = 33
    · have hq := hn.lt (p := p) (by omega)
      rw [if_pos h1, if_pos h1]
      exact rl_mono (rl_not (ih (p + 1) hq)) (by omega)
    · rw [if_neg h1, if_neg h1]
      by_cases h2 : nx p = 40
      · have hq := hn.lt (p := p) (by omega)
        rw [if_pos h2, if_pos h2]
        exact rl_mono (rl_brk (rl_cnd hn (gd_pc hn m) ih (n + 1) (p + 1) [] [] [] [] hq trivial trivial)) (by omega)
      · rw [if_neg h2, if_neg h2]
        exact rl_refl (gd_cmp hn (gd_sum hn (m + 1)) hp)
theorem gd_pcM {nx : Nat → Nat} {n : Nat} (hn : endN nx n) (m : Nat) : ∀ p, p ≤ n → gdB n (2 * m + 4) p (pPc jm nx n m p) := fun p hp => rl_gd (rl_pc hn m p hp) (gd_pc hn m p hp)
/-- CLAUSES of the same letters and ACTIONS or answers, conditions that come to the same -/
def ceq (c c' : Cls) : Prop := c.1 = c'.1 ∧ c.2.1 = c'.2.1 ∧ EqB 14 c.2.2 c'.2.2
def cleq : List Cls → List Cls → Prop
  | [], [] => True
  | x :: X, y :: Y => ceq x y ∧ cleq X Y
  | [], _ :: _ => False
  | _ :: _, [] => False
theorem cleq_snoc {x y : Cls} (h : ceq x y) (X : List Cls) : ∀ {Y : List Cls}, cleq X Y → cleq (X ++ [x]) (Y ++ [y]) := by
  induction X with
  | nil =>
    intro Y hY
    cases Y with
    | nil => exact ⟨h, trivial⟩
    | cons z Y => exact hY.elim
  | cons w X ih =>
    intro Y hY
    cases Y with
    | nil => exact hY.elim
    | cons z Y => exact ⟨hY.1, ih hY.2⟩
theorem cleq_len (X : List Cls) : ∀ {Y : List Cls}, cleq X Y → X.length = Y.length := by
  induction X with
  | nil =>
    intro Y hY
    cases Y with
    | nil => rfl
    | cons z Y => exact hY.elim
  | cons w X ih =>
    intro Y hY
    cases Y with
    | nil => exact hY.elim
    | cons z Y =>
      show X.length + 1 = Y.length + 1
      rw [ih hY.2]
theorem ceq_ev {c c' : Cls} (h : ceq c c') (f : Nat → Int32) : evV f c.2.2 = evV f c'.2.2 := by
  unfold evV
  rcases h.2.2.2 f with e | ⟨v, hv, e⟩
  · have e2 := e [] [] (by show 0 + 14 ≤ 20; omega)
    rw [List.append_nil, List.append_nil] at e2
    rw [e2.1, e2.2]
  · have e2 := e [] [] (by show 0 + 14 ≤ 20; omega)
    rw [List.append_nil, List.append_nil] at e2
    rw [e2.1, e2.2]
theorem cleq_ask {l : Int32} {f : Nat → Int32} (X : List Cls) : ∀ {Y : List Cls}, cleq X Y → askV l f X = askV l f Y := by
  induction X with
  | nil =>
    intro Y hY
    cases Y with
    | nil => rfl
    | cons z Y => exact hY.elim
  | cons w X ih =>
    intro Y hY
    cases Y with
    | nil => exact hY.elim
    | cons z Y =>
      show (if iN w.1 = l ∧ evV f w.2.2 = iN 1 then evV f w.2.1 else askV l f X) = (if iN z.1 = l ∧ evV f z.2.2 = iN 1 then evV f z.2.1 else askV l f Y)
      rw [ceq_ev hY.1 f, hY.1.1, hY.1.2.1, ih hY.2]
def ccR (z : (Nat × Nat) ⊕ (Nat × Cls)) (z' : (Nat × Nat) ⊕ (Nat × Cls)) : Prop := match z, z' with
  | .inl e, .inl e' => e = e'
  | .inr (q, c), .inr (q', c') => q = q' ∧ ceq c c'
  | .inl _, .inr _ => False
  | .inr _, .inl _ => False
theorem rl_cls {nx : Nat → Nat} {n many p : Nat} {isL : Nat → Bool} (hn : endN nx n) (hL : isL 256 = false) (hp : p ≤ n) : ccR (pCls jn nx n isL many p) (pCls jm nx n isL many p) := by
  unfold pCls
  by_cases h1 : isL (nx p) = false
  · rw [if_pos h1, if_pos h1]
    rfl
  · have hpn := hn.lt (p := p) (fun e => h1 (by rw [e]; exact hL))
    rw [if_neg h1, if_neg h1]
    by_cases h2 : many = 16
    · rw [if_pos h2, if_pos h2]
      rfl
    · rw [if_neg h2, if_neg h2]
      have hg := gd_sum hn 6 (p + 1) hpn
      cases hz : pSum nx n 6 (p + 1) with
      | inl e => rfl
      | inr e =>
        obtain ⟨q, oE⟩ := e
        rw [hz] at hg
        obtain ⟨g1, g2, g3, g4⟩ := hg
        dsimp only
        by_cases h3 : nx q ≠ 40
        · rw [if_pos h3, if_pos h3]
          rfl
        · have hqn := hn.lt (p := q) (by omega)
          rw [if_neg h3, if_neg h3]
          have hr := rl_brk (nx := nx) (k := 41) (rl_cnd hn (gd_pc hn 5) (rl_pc hn 5) (n + 1) (q + 1) [] [] [] [] hqn trivial trivial)
          revert hr
          cases pBrk nx 41 (pCnd jn nx (pPc jn nx n 5) (n + 1) (q + 1) [] []) with
          | inl e =>
            cases pBrk nx 41 (pCnd jm nx (pPc jm nx n 5) (n + 1) (q + 1) [] []) with
            | inl e' => exact fun h => h
            | inr e' => exact fun h => h.elim
          | inr e =>
            cases pBrk nx 41 (pCnd jm nx (pPc jm nx n 5) (n + 1) (q + 1) [] []) with
            | inl e' => exact fun h => h.elim
            | inr e' => exact fun h => ⟨h.1, rfl, rfl, h.2⟩
def ctR (z : (Nat × Nat) ⊕ List Cls) (z' : (Nat × Nat) ⊕ List Cls) : Prop := match z, z' with
  | .inl e, .inl e' => e = e'
  | .inr c, .inr c' => cleq c c'
  | .inl _, .inr _ => False
  | .inr _, .inl _ => False
theorem rl_txt {nx : Nat → Nat} {n : Nat} {isL : Nat → Bool} (hn : endN nx n) (hL : isL 256 = false) (k : Nat) : ∀ (p : Nat) (X Y : List Cls), p ≤ n → cleq X Y → ctR (pTxt jn nx n isL k p X) (pTxt jm nx n isL k p Y) := by
  induction k with
  | zero => exact fun p X Y _ h => h
  | succ k ih =>
    intro p X Y hp h
    have hc := rl_cls (many := Y.length) hn hL hp
    have hg := gd_cls (many := Y.length) hn hL hp
    show ctR (match pCls jn nx n isL X.length p with
      | .inl e => .inl e
      | .inr (q, c) => if q < n then (if nx q = 59 then pTxt jn nx n isL k (q + 1) (X ++ [c]) else .inl (1, q)) else .inr (X ++ [c])) (match pCls jm nx n isL Y.length p with
      | .inl e => .inl e
      | .inr (q, c) => if q < n then (if nx q = 59 then pTxt jm nx n isL k (q + 1) (Y ++ [c]) else .inl (1, q)) else .inr (Y ++ [c]))
    rw [cleq_len X h]
    cases hz : pCls jn nx n isL Y.length p with
    | inl e =>
      rw [hz] at hc
      cases hz' : pCls jm nx n isL Y.length p with
      | inl e' =>
        rw [hz'] at hc
        exact hc
      | inr e' =>
        rw [hz'] at hc
        exact hc.elim
    | inr e =>
      rw [hz] at hc hg
      cases hz' : pCls jm nx n isL Y.length p with
      | inl e' =>
        rw [hz'] at hc
        exact hc.elim
      | inr e' =>
        rw [hz'] at hc
        obtain ⟨q, c⟩ := e
        obtain ⟨q', c'⟩ := e'
        obtain ⟨rfl, h2⟩ := hc
        have hs := cleq_snoc h2 X h
        dsimp only
        by_cases hq : q < n
        · rw [if_pos hq, if_pos hq]
          by_cases h59 : nx q = 59
          · rw [if_pos h59, if_pos h59]
            exact ih (q + 1) _ _ hq hs
          · rw [if_neg h59, if_neg h59]
            rfl
        · rw [if_neg hq, if_neg hq]
          exact hs
