/-! ===== runs of the abstract machine, and what a run comes to, without a count ===== -/
def zmStep (μ pc : Nat) (L st : List Value) (x : zmH) : Option zmR := match zmFetch μ pc with
  | none => none
  | some i => zmX i pc L st x
def zmIni (μ : Nat) (as : List Value) : List Value := zmPad (zmAt 0 zmMlT μ) (zmArgs as)
def zmRun : Nat → Nat → Nat → Nat → List Value → List Value → zmH → Option (Option Value × zmH)
  | 0, _, _, _, _, _, _ => none
  | k + 1, d, μ, pc, L, st, x => match zmStep μ pc L st x with
    | none => none
    | some (.inl (pc', L', st', x')) => zmRun k d μ pc' L' st' x'
    | some (.inr (.inl v)) => some (v, x)
    | some (.inr (.inr (ν, as, rest))) => match d with
      | 0 => none
      | d' + 1 => match zmRun k d' ν 0 (zmIni ν as) [] x with
        | none => none
        | some (v, x') => zmRun k (d' + 1) μ (pc + 3) L (v.toList ++ rest) x'
theorem zmRun_succ (k d μ pc : Nat) (L st : List Value) (x : zmH) : zmRun (k + 1) d μ pc L st x = (match zmStep μ pc L st x with
    | none => none
    | some (.inl (pc', L', st', x')) => zmRun k d μ pc' L' st' x'
    | some (.inr (.inl v)) => some (v, x)
    | some (.inr (.inr (ν, as, rest))) => match d with
      | 0 => none
      | d' + 1 => match zmRun k d' ν 0 (zmIni ν as) [] x with
        | none => none
        | some (v, x') => zmRun k (d' + 1) μ (pc + 3) L (v.toList ++ rest) x') := by
  rfl
theorem zmRun_mono1 : ∀ (k d μ pc : Nat) (L st : List Value) (x : zmH) (r : Option Value × zmH), zmRun k d μ pc L st x = some r → zmRun (k + 1) d μ pc L st x = some r := by
  intro k
  induction k with
  | zero => intro d μ pc L st x r h; cases h
  | succ k ih =>
    intro d μ pc L st x r h
    rw [zmRun_succ] at h ⊢
    cases hs : zmStep μ pc L st x with
    | none => rw [hs] at h; cases h
    | some t =>
      rw [hs] at h
      rcases t with ⟨pc', L', st', x'⟩ | v | ⟨ν, as, rest⟩
      · exact ih _ _ _ _ _ _ _ h
      · exact h
      · cases d with
        | zero => cases h
        | succ d =>
          simp only at h ⊢
          cases hc : zmRun k d ν 0 (zmIni ν as) [] x with
          | none => rw [hc] at h; cases h
          | some q =>
            rw [hc] at h
            rw [ih _ _ _ _ _ _ _ hc]
            exact ih _ _ _ _ _ _ _ h
theorem zmRun_mono {k k' d μ pc : Nat} {L st : List Value} {x : zmH} {r : Option Value × zmH} (hk : k ≤ k') (h : zmRun k d μ pc L st x = some r) : zmRun k' d μ pc L st x = some r := by
  induction hk with
  | refl => exact h
  | step _ ih => exact zmRun_mono1 _ _ _ _ _ _ _ _ ih
theorem zmRun_depth : ∀ (k d μ pc : Nat) (L st : List Value) (x : zmH) (r : Option Value × zmH), zmRun k d μ pc L st x = some r → zmRun k (d + 1) μ pc L st x = some r := by
  intro k
  induction k with
  | zero => intro d μ pc L st x r h; cases h
  | succ k ih =>
    intro d μ pc L st x r h
    rw [zmRun_succ] at h ⊢
    cases hs : zmStep μ pc L st x with
    | none => rw [hs] at h; cases h
    | some t =>
      rw [hs] at h
      rcases t with ⟨pc', L', st', x'⟩ | v | ⟨ν, as, rest⟩
      · exact ih _ _ _ _ _ _ _ h
      · exact h
      · cases d with
        | zero => cases h
        | succ d =>
          simp only at h ⊢
          cases hc : zmRun k d ν 0 (zmIni ν as) [] x with
          | none => rw [hc] at h; cases h
          | some q =>
            rw [hc] at h
            rw [ih _ _ _ _ _ _ _ hc]
            exact ih _ _ _ _ _ _ _ h
/-- what a run from here comes to -/
noncomputable def Den (d μ pc : Nat) (L st : List Value) (x : zmH) : Option (Option Value × zmH) :=
  haveI := Classical.propDecidable (∃ (k : Nat) (r : Option Value × zmH), zmRun k d μ pc L st x = some r)
  if h : ∃ (k : Nat) (r : Option Value × zmH), zmRun k d μ pc L st x = some r then some h.choose_spec.choose else none
theorem Den_of {k d μ pc : Nat} {L st : List Value} {x : zmH} {r : Option Value × zmH} (h : zmRun k d μ pc L st x = some r) : Den d μ pc L st x = some r := by
  have hE : ∃ (k : Nat) (r : Option Value × zmH), zmRun k d μ pc L st x = some r := ⟨k, r, h⟩
  unfold Den
  rw [dif_pos hE]
  have h1 := hE.choose_spec.choose_spec
  have h2 := zmRun_mono (Nat.le_max_left hE.choose k) h1
  have h3 := zmRun_mono (Nat.le_max_right hE.choose k) h
  rw [h2] at h3
  exact h3
theorem Den_some {d μ pc : Nat} {L st : List Value} {x : zmH} {r : Option Value × zmH} (h : Den d μ pc L st x = some r) : ∃ k, zmRun k d μ pc L st x = some r := by
  unfold Den at h
  by_cases hE : ∃ (k : Nat) (r : Option Value × zmH), zmRun k d μ pc L st x = some r
  · rw [dif_pos hE] at h
    cases h
    exact ⟨_, hE.choose_spec.choose_spec⟩
  · rw [dif_neg hE] at h
    cases h
theorem Den_iff {d μ pc : Nat} {L st : List Value} {x : zmH} {r : Option Value × zmH} : Den d μ pc L st x = some r ↔ ∃ k, zmRun k d μ pc L st x = some r := ⟨Den_some, fun ⟨_, h⟩ => Den_of h⟩
theorem zm_ext {a b : Option (Option Value × zmH)} (h : ∀ r, a = some r ↔ b = some r) : a = b := by
  cases a with
  | some r => exact ((h r).mp rfl).symm
  | none =>
    cases b with
    | none => rfl
    | some r => exact (h r).mpr rfl
theorem Den_next {d μ pc pc' : Nat} {L st L' st' : List Value} {x x' : zmH} (h : zmStep μ pc L st x = some (.inl (pc', L', st', x'))) : Den d μ pc L st x = Den d μ pc' L' st' x' := by
  apply zm_ext
  intro r
  rw [Den_iff, Den_iff]
  constructor
  · rintro ⟨k, hk⟩
    cases k with
    | zero => cases hk
    | succ k => rw [zmRun_succ, h] at hk; exact ⟨k, hk⟩
  · rintro ⟨k, hk⟩
    refine ⟨k + 1, ?_⟩
    rw [zmRun_succ, h]
    exact hk
theorem Den_ret {d μ pc : Nat} {L st : List Value} {x : zmH} {v : Option Value} (h : zmStep μ pc L st x = some (.inr (.inl v))) : Den d μ pc L st x = some (v, x) := by
  refine Den_of (k := 1) ?_
  rw [zmRun_succ, h]
theorem Den_call {d μ pc ν : Nat} {L st as rest : List Value} {x : zmH} (h : zmStep μ pc L st x = some (.inr (.inr (ν, as, rest)))) : Den (d + 1) μ pc L st x = (Den d ν 0 (zmIni ν as) [] x).bind fun r => Den (d + 1) μ (pc + 3) L (r.1.toList ++ rest) r.2 := by
  apply zm_ext
  intro r
  rw [Den_iff, Option.bind_eq_some_iff]
  constructor
  · rintro ⟨k, hk⟩
    cases k with
    | zero => cases hk
    | succ k =>
      rw [zmRun_succ, h] at hk
      simp only at hk
      cases hc : zmRun k d ν 0 (zmIni ν as) [] x with
      | none => rw [hc] at hk; cases hk
      | some q =>
        rw [hc] at hk
        exact ⟨q, Den_of hc, Den_of hk⟩
  · rintro ⟨q, h1, h2⟩
    obtain ⟨k1, h1⟩ := Den_some h1
    obtain ⟨k2, h2⟩ := Den_some h2
    refine ⟨max k1 k2 + 1, ?_⟩
    rw [zmRun_succ, h]
    simp only
    rw [zmRun_mono (Nat.le_max_left k1 k2) h1]
    exact zmRun_mono (Nat.le_max_right k1 k2) h2
theorem Den_depth1 {d μ pc : Nat} {L st : List Value} {x : zmH} {r : Option Value × zmH} (h : Den d μ pc L st x = some r) : Den (d + 1) μ pc L st x = some r := by
  obtain ⟨k, h⟩ := Den_some h
  exact Den_of (zmRun_depth _ _ _ _ _ _ _ _ h)
theorem Den_depth {d d' μ pc : Nat} {L st : List Value} {x : zmH} {r : Option Value × zmH} (hd : d ≤ d') (h : Den d μ pc L st x = some r) : Den d' μ pc L st x = some r := by
  induction hd with
  | refl => exact h
  | step _ ih => exact Den_depth1 ih
def zmEq (a b : zmI) : Bool := decide (a.1 = b.1) && (decide (a.2.1 = b.2.1) && (decide (a.2.2.1 = b.2.2.1) && (decide (a.2.2.2.1 = b.2.2.2.1) && decide (a.2.2.2.2 = b.2.2.2.2))))
theorem zmEq_eq {a b : zmI} (h : zmEq a b = true) : a = b := by
  obtain ⟨a1, a2, a3, a4, a5⟩ := a
  obtain ⟨b1, b2, b3, b4, b5⟩ := b
  simp only [zmEq, Bool.and_eq_true, decide_eq_true_eq] at h
  obtain ⟨rfl, rfl, rfl, rfl, rfl⟩ := h
  rfl
def zmOne (o : Option zmI) (i : zmI) : Bool := match o with
  | some j => zmEq j i
  | none => false
theorem zmOne_eq {o : Option zmI} {i : zmI} (h : zmOne o i = true) : o = some i := by
  cases o with
  | none => cases h
  | some j => rw [zmEq_eq h]
/-- a stretch of code -/
def zmHas (μ pc : Nat) : List zmI → Bool
  | [] => true
  | i :: l => zmOne (zmFetch μ pc) i && zmHas μ (pc + i.2.1) l
/-- a stretch without calls, done at once; its last instruction may leap -/
def zmBlk : List zmI → Nat → List Value → List Value → zmH → Option (Nat × List Value × List Value × zmH)
  | [], pc, L, st, x => some (pc, L, st, x)
  | i :: l, pc, L, st, x => match zmX i pc L st x with
    | some (.inl (pc', L', st', x')) => bif l.isEmpty then some (pc', L', st', x') else (if pc' = pc + i.2.1 then zmBlk l (pc + i.2.1) L' st' x' else none)
    | _ => none
theorem zmBlk_cons (i : zmI) (l : List zmI) (pc : Nat) (L st : List Value) (x : zmH) : zmBlk (i :: l) pc L st x = (match zmX i pc L st x with
    | some (.inl (pc', L', st', x')) => bif l.isEmpty then some (pc', L', st', x') else (if pc' = pc + i.2.1 then zmBlk l (pc + i.2.1) L' st' x' else none)
    | _ => none) := by
  rfl
theorem Den_blk (l : List zmI) {d μ pc pc' : Nat} {L st L' st' : List Value} {x x' : zmH} (hh : zmHas μ pc l = true) (hr : zmBlk l pc L st x = some (pc', L', st', x')) : Den d μ pc L st x = Den d μ pc' L' st' x' := by
  induction l generalizing pc L st x with
  | nil =>
    cases hr
    rfl
  | cons i l ih =>
    simp only [zmHas, Bool.and_eq_true] at hh
    obtain ⟨h1, h2⟩ := hh
    have h1 := zmOne_eq h1
    rw [zmBlk_cons] at hr
    cases hs : zmX i pc L st x with
    | none => rw [hs] at hr; cases hr
    | some t =>
      rw [hs] at hr
      rcases t with ⟨p1, L1, s1, x1⟩ | v | ⟨ν, as, rest⟩
      · have hst : zmStep μ pc L st x = some (.inl (p1, L1, s1, x1)) := by
          unfold zmStep
          rw [h1]
          exact hs
        rw [Den_next hst]
        cases l with
        | nil =>
          cases hr
          rfl
        | cons j l =>
          simp only [List.isEmpty_cons, cond_false] at hr
          by_cases hp : p1 = pc + i.2.1
          · rw [if_pos hp] at hr
            rw [hp]
            exact ih h2 hr
          · rw [if_neg hp] at hr
            cases hr
      · cases hr
      · cases hr
theorem Den_ite {c : Prop} (hc : Decidable c) {d μ a b : Nat} {L st : List Value} {x : zmH} : Den d μ (if c then a else b) L st x = if c then Den d μ a L st x else Den d μ b L st x := by
  split <;> rfl
