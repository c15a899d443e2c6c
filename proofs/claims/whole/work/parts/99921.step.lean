/-! ===== one instruction of the abstract machine is one of the real one ===== -/
theorem p1i_some {st : List Value} {f : Int32 → List Value → Option zmR} {t : zmR} (h : p1i st f = some t) : ∃ a r, st = .int a :: r ∧ f a r = some t := by
  unfold p1i at h
  split at h
  · exact ⟨_, _, rfl, h⟩
  · cases h
theorem p2i_some {st : List Value} {f : Int32 → Int32 → List Value → Option zmR} {t : zmR} (h : p2i st f = some t) : ∃ a b r, st = .int b :: .int a :: r ∧ f a b r = some t := by
  unfold p2i at h
  split at h
  · exact ⟨_, _, _, rfl, h⟩
  · cases h
theorem p1l_some {st : List Value} {f : Int64 → List Value → Option zmR} {t : zmR} (h : p1l st f = some t) : ∃ a r, st = .long a :: r ∧ f a r = some t := by
  unfold p1l at h
  split at h
  · exact ⟨_, _, rfl, h⟩
  · cases h
theorem p2l_some {st : List Value} {f : Int64 → Int64 → List Value → Option zmR} {t : zmR} (h : p2l st f = some t) : ∃ a b r, st = .long b :: .long a :: r ∧ f a b r = some t := by
  unfold p2l at h
  split at h
  · exact ⟨_, _, _, rfl, h⟩
  · cases h
theorem p1r_some {st : List Value} {f : Nat → List Value → Option zmR} {t : zmR} (h : p1r st f = some t) : ∃ a r, st = .ref a :: r ∧ f a r = some t := by
  unfold p1r at h
  split at h
  · exact ⟨_, _, rfl, h⟩
  · cases h
theorem pix_some {st : List Value} {f : Int32 → Nat → List Value → Option zmR} {t : zmR} (h : pix st f = some t) : ∃ i a r, st = .int i :: .ref a :: r ∧ f i a r = some t := by
  unfold pix at h
  split at h
  · exact ⟨_, _, _, rfl, h⟩
  · cases h
theorem zmLd1_some {L : List Value} {i : Nat} {f : Value → Option zmR} {t : zmR} (h : zmLd1 L i f = some t) : ∃ a, L[i]? = some (.int a) ∧ f (.int a) = some t := by
  unfold zmLd1 at h
  split at h
  · exact ⟨_, by assumption, h⟩
  · cases h
theorem zmLdl_some {L : List Value} {i : Nat} {f : Value → Option zmR} {t : zmR} (h : zmLdl L i f = some t) : ∃ a, L[i]? = some (.long a) ∧ f (.long a) = some t := by
  unfold zmLdl at h
  split at h
  · exact ⟨_, by assumption, h⟩
  · cases h
theorem zmLda_some {L : List Value} {i : Nat} {f : Value → Option zmR} {t : zmR} (h : zmLda L i f = some t) : (∃ a, L[i]? = some (.ref a) ∧ f (.ref a) = some t) ∨ (L[i]? = some .null ∧ f .null = some t) := by
  unfold zmLda at h
  split at h
  · exact Or.inl ⟨_, by assumption, h⟩
  · exact Or.inr ⟨by assumption, h⟩
  · cases h
theorem snJi (a : Int32) : Value.int a ≠ zmJ := by intro h; unfold zmJ at h; cases h
theorem snJl (a : Int64) : Value.long a ≠ zmJ := by intro h; unfold zmJ at h; cases h
theorem snJr (a : Nat) : Value.ref a ≠ zmJ := by intro h; unfold zmJ at h; cases h
theorem snJn : Value.null ≠ zmJ := by intro h; unfold zmJ at h; cases h
def snLoc (od : Nat → Nat) (sz0 : Nat) (ls : Array Slot) (n : Nat) (L : List Value) : Prop := ls.size = n ∧ lv_wf ls ∧ ∀ (i : Nat) (v : Value), L[i]? = some v → v ≠ zmJ → ls[i]? = some (.val (snV od sz0 v))
def snInv (od : Nat → Nat) (sz0 Ls : Nat) (oI : Nat → Nat → Int32) (oL : Nat → Nat → Int64) (D : va_G) (tyc : Nat → ClassId) (s : State) (H : Heap) (locs : List Loc) (ls : Array Slot) (n : Nat) (L : List Value) (x : zmH) : Prop :=
  snLoc od sz0 ls n L ∧ va_P D vwCl (snWs od sz0 tyc x) H ∧ va_S (snA sz0) s.heap H locs ∧ snOld Ls oI oL x
def snSum (n : Nat) : Nat := ((List.range n).map (fun k => (zmLay k).2)).sum
theorem snSum_succ (n : Nat) : snSum (n + 1) = snSum n + (zmLay n).2 := by
  simp [snSum, List.range_succ]
theorem snSum_mono {a b : Nat} (h : a ≤ b) : snSum a ≤ snSum b := by
  induction h with
  | refl => exact Nat.le_refl _
  | step _ ih => rw [snSum_succ]; omega
def snCx (od : Nat → Nat) (sz0 Ls : Nat) (oI : Nat → Nat → Int32) (oL : Nat → Nat → Int64) (D : va_G) (tyc : Nat → ClassId) (p : Program) (s : State) (m : MethodId) (args : Array Value) (meth : Method) (c : Code) (μ n0 : Nat) : Prop :=
  p.tables.exec = Jvm.exec ∧ c.code = snB μ ∧ c.maxLocals = snL μ ∧ s.vm.findClass (snN μ).cls = some m.cls ∧ (∀ w ∈ lw_tbl, (goodWord w || snNest w) = true → w.before args s = true) ∧ snEnv od sz0 Ls oI oL D tyc s ∧ ((snN μ).name = "<init>" → meth.name = "<init>") ∧ s.heap.size = sz0 + (n0 - 14) ∧ 14 ≤ n0 ∧ meth.locks = false
theorem snGo {pc : Nat} {o : Int} (h : decide (0 ≤ (pc : Int) + o) = true) : (pc : Int) + o = (zmGo pc o : Int) := by
  have h := of_decide_eq_true h
  unfold zmGo
  omega
theorem snB2 {a b : Bool} (h : (a && b) = true) : a = true ∧ b = true := by
  cases a <;> cases b <;> simp_all
def snLv (od : Nat → Nat) (sz0 : Nat) (L : List Value) : List (Nat × Value) := (List.range L.length).filterMap (fun i => match L[i]? with
  | some v => if v = zmJ then none else some (i, snV od sz0 v)
  | none => none)
theorem snLv_mem {od : Nat → Nat} {sz0 : Nat} {L : List Value} {q : Nat × Value} : q ∈ snLv od sz0 L ↔ ∃ v, L[q.1]? = some v ∧ v ≠ zmJ ∧ q.2 = snV od sz0 v := by
  unfold snLv
  rw [List.mem_filterMap]
  constructor
  · rintro ⟨i, hi, h⟩
    cases hv : L[i]? with
    | none => rw [hv] at h; cases h
    | some v =>
      rw [hv] at h
      by_cases hj : v = zmJ
      · simp [hj] at h
      · simp [hj] at h
        subst h
        exact ⟨v, hv, hj, rfl⟩
  · rintro ⟨v, hv, hj, hq⟩
    have hl := (List.getElem?_eq_some_iff.mp hv).1
    refine ⟨q.1, List.mem_range.mpr hl, ?_⟩
    rw [hv]
    simp [hj, ← hq]
theorem snLoc_lv {od : Nat → Nat} {sz0 : Nat} {ls : Array Slot} {n : Nat} {L : List Value} (h : snLoc od sz0 ls n L) : lv_has ls n (snLv od sz0 L) := by
  refine ⟨h.1, h.2.1, fun q hq => ?_⟩
  obtain ⟨v, hv, hj, e⟩ := snLv_mem.mp hq
  rw [e]
  exact h.2.2 _ _ hv hj
theorem snV_cat (od : Nat → Nat) (sz0 : Nat) (v : Value) : (snV od sz0 v).category = v.category := by
  cases v <;> rfl
theorem zmCl_get {L : List Value} {i j : Nat} {v : Value} (h : (zmCl L i)[j]? = some v) (hj : v ≠ zmJ) : L[j]? = some v ∧ ¬ (j + 1 = i ∧ v.category = 2) := by
  cases i with
  | zero => exact ⟨h, fun q => by omega⟩
  | succ i =>
    have key : ∀ w : Value, L[i]? = some w → (L.set i zmJ)[j]? = some v → L[j]? = some v ∧ ¬ (j + 1 = i + 1 ∧ v.category = 2) := by
      intro w hw h
      rw [List.getElem?_set] at h
      by_cases e : i = j
      · rw [if_pos e] at h
        split at h
        · cases h; exact absurd rfl hj
        · cases h
      · rw [if_neg e] at h
        exact ⟨h, fun q => e (by omega)⟩
    have h0 : ∀ w : Option Value, L[i]? = w → (match w with
      | some (.long _) => L.set i zmJ
      | some (.double _) => L.set i zmJ
      | _ => L)[j]? = some v := fun w hw => by rw [← hw]; exact h
    cases hw : L[i]? with
    | none =>
      have h1 : L[j]? = some v := h0 _ hw
      refine ⟨h1, fun q => ?_⟩
      have e : j = i := by omega
      rw [e, hw] at h1
      cases h1
    | some w =>
      cases w with
      | long a => exact key _ hw (h0 _ hw)
      | double a => exact key _ hw (h0 _ hw)
      | _ =>
        have h1 : L[j]? = some v := h0 _ hw
        refine ⟨h1, fun q => ?_⟩
        have e : j = i := by omega
        rw [e, hw] at h1
        cases h1
        exact absurd q.2 (by simp [Value.category])
theorem snLoc_st1 {od : Nat → Nat} {sz0 : Nat} {ls : Array Slot} {n i : Nat} {L : List Value} {v : Value} (h : lv_has ls n ((i, snV od sz0 v) :: (snLv od sz0 L).filter (fun q => !(q.1 == i) && !(q.1 + 1 == i && q.2.category == 2)))) : snLoc od sz0 ls n (zmSt1 L i v) := by
  refine ⟨h.1, h.2.1, fun j w hw hj => ?_⟩
  unfold zmSt1 at hw
  rw [List.getElem?_set] at hw
  by_cases e : i = j
  · rw [if_pos e] at hw
    split at hw
    · cases hw
      subst e
      exact h.2.2 (i, snV od sz0 v) List.mem_cons_self
    · cases hw
  · rw [if_neg e] at hw
    obtain ⟨h1, h2⟩ := zmCl_get hw hj
    refine h.2.2 (j, snV od sz0 w) (List.mem_cons_of_mem _ (List.mem_filter.mpr ⟨snLv_mem.mpr ⟨w, h1, hj, rfl⟩, ?_⟩))
    have e' : (j == i) = false := by simp; omega
    by_cases q1 : j + 1 = i
    · have q2 : ¬ w.category = 2 := fun q => h2 ⟨q1, q⟩
      simp [e', snV_cat, q2]
    · simp [e', q1]
theorem snLoc_st2 {od : Nat → Nat} {sz0 : Nat} {ls : Array Slot} {n i : Nat} {L : List Value} {v : Value} (h : lv_has ls n ((i, snV od sz0 v) :: (snLv od sz0 L).filter (fun q => !(q.1 == i) && (!(q.1 == i + 1) && !(q.1 + 1 == i && q.2.category == 2))))) : snLoc od sz0 ls n (zmSt2 L i v) := by
  refine ⟨h.1, h.2.1, fun j w hw hj => ?_⟩
  unfold zmSt2 at hw
  rw [List.getElem?_set] at hw
  by_cases e1 : i + 1 = j
  · rw [if_pos e1] at hw
    split at hw
    · cases hw; exact absurd rfl hj
    · cases hw
  · rw [if_neg e1, List.getElem?_set] at hw
    by_cases e : i = j
    · rw [if_pos e] at hw
      split at hw
      · cases hw
        subst e
        exact h.2.2 (i, snV od sz0 v) List.mem_cons_self
      · cases hw
    · rw [if_neg e] at hw
      obtain ⟨h1, h2⟩ := zmCl_get hw hj
      refine h.2.2 (j, snV od sz0 w) (List.mem_cons_of_mem _ (List.mem_filter.mpr ⟨snLv_mem.mpr ⟨w, h1, hj, rfl⟩, ?_⟩))
      have e' : (j == i) = false := by simp; omega
      have e2 : (j == i + 1) = false := by simp; omega
      by_cases q1 : j + 1 = i
      · have q2 : ¬ w.category = 2 := fun q => h2 ⟨q1, q⟩
        simp [e', e2, snV_cat, q2]
      · simp [e', e2, q1]
theorem snW_spec {od : Nat → Nat} {sz0 Ls : Nat} {oI : Nat → Nat → Int32} {oL : Nat → Nat → Int64} {D : va_G} {tyc : Nat → ClassId} {p : Program} {s : State} {m : MethodId} {args : Array Value} {meth : Method} {c : Code} {μ n0 pos : Nat} {w : Jvm.Cond} (C : snCx od sz0 Ls oI oL D tyc p s m args meth c μ n0) (h : snW pos w = true) : w.before args s = true := by
  obtain ⟨h1, h2⟩ := snB2 h
  exact C.2.2.2.2.1 w (List.mem_of_getElem? (of_decide_eq_true h1)) h2
