/-! ===== no run writes the script ===== -/
theorem kd0 {x : zmH} (hx : 0 < x.1.1) : zmKd 0 x = 40 := by
  have h : Nat.blt 0 x.1.1 = true := Nat.ble_eq.mpr hx
  unfold zmKd
  rw [h]
  rfl
theorem k0_sI {x : zmH} {a j : Nat} {v : Int32} (hx : 0 < x.1.1) (h : zmKd a x ≠ 40) : (sI x a j v).2.1 0 = x.2.1 0 ∧ 0 < (sI x a j v).1.1 := ⟨uI_ne (fun e => h (by rw [← e]; exact kd0 hx)), hx⟩
theorem k0_new {x : zmH} (hx : 0 < x.1.1) : (zmNew x).2.1 0 = x.2.1 0 ∧ 0 < (zmNew x).1.1 := by
  refine ⟨?_, Nat.succ_pos _⟩
  funext c
  show (if 0 = x.1.1 then _ else _) = _
  rw [if_neg (by omega)]
theorem k0_cpy {x : zmH} {s sp t tp n : Nat} (hx : 0 < x.1.1) (h : 14 ≤ t) : (zmCpy x s sp t tp n).2.1 0 = x.2.1 0 ∧ 0 < (zmCpy x s sp t tp n).1.1 := by
  refine ⟨?_, hx⟩
  funext c
  show (if 0 = t ∧ tp ≤ c ∧ c < tp + n then _ else _) = _
  rw [if_neg (by omega)]
def pf0 : Option zmI → Bool
  | some (.putfield _, _, (c, _), _) => !(Nat.beq c 40)
  | _ => true
theorem pf0_ne {q len ra rb rc rd re : Nat} {iv : Int32} {lv : Int64} (h : pf0 (some (.putfield q, len, (ra, rb, rc, rd, re), iv, lv)) = true) : ra ≠ 40 := by
  intro e
  rw [e] at h
  cases h
theorem pf_tab : (zmCodeT.all fun l => l.all fun t => t.all fun l => l.all pf0) = true := by decide +kernel
theorem zmAt_all {α : Type} (P : α → Bool) (d : α) (t : List (List α)) (hd : P d = true) (ht : (t.all fun l => l.all P) = true) (k : Nat) : P (zmAt d t k) = true := by
  have getP : ∀ (l : List α), l.all P = true → ∀ i, P (l.getD i d) = true := by
    intro l hl i
    rw [List.getD_eq_getElem?_getD]
    cases h : l[i]? with
    | none => exact hd
    | some v => exact List.all_eq_true.mp hl v (List.mem_of_getElem? h)
  unfold zmAt
  apply getP
  rw [List.getD_eq_getElem?_getD]
  cases h : t[k / 16]? with
  | none => rfl
  | some l => exact List.all_eq_true.mp ht l (List.mem_of_getElem? h)
theorem pf_ok (μ pc : Nat) : pf0 (zmFetch μ pc) = true := zmAt_all pf0 none _ rfl (zmAt_all (fun t => t.all fun l => l.all pf0) [] zmCodeT rfl pf_tab μ) pc
set_option maxHeartbeats 2000000 in
theorem zmX_0 {ins : Instr} {len ra rb rc rd re pc pc' : Nat} {iv : Int32} {lv : Int64} {L st L' st' : List Value} {x x' : zmH} (hp : pf0 (some (ins, len, (ra, rb, rc, rd, re), iv, lv)) = true) (h : zmX (ins, len, (ra, rb, rc, rd, re), iv, lv) pc L st x = some (.inl (pc', L', st', x'))) (hx : 0 < x.1.1) : x'.2.1 0 = x.2.1 0 ∧ 0 < x'.1.1 := by
  cases ins <;> simp only [zmX, p1i, p2i, p1l, p2l, p1r, pix, zmLd1, zmLdl, zmLda] at h <;> (repeat' split at h) <;> first | (cases h; exact ⟨rfl, hx⟩) | (cases h; exact k0_new hx) | (cases h; exact k0_sI hx (by omega)) | (cases h; exact k0_sI hx (by have := pf0_ne hp; omega)) | (cases h; exact k0_cpy hx (And.left (And.right (by assumption)))) | (cases h; done) | (simp at h; done)
theorem zmStep_0 {μ pc pc' : Nat} {L st L' st' : List Value} {x x' : zmH} (h : zmStep μ pc L st x = some (.inl (pc', L', st', x'))) (hx : 0 < x.1.1) : x'.2.1 0 = x.2.1 0 ∧ 0 < x'.1.1 := by
  unfold zmStep at h
  have hp := pf_ok μ pc
  cases hf : zmFetch μ pc with
  | none => rw [hf] at h; cases h
  | some i =>
    rw [hf] at h hp
    obtain ⟨ins, len, ⟨ra, rb, rc, rd, re⟩, iv, lv⟩ := i
    exact zmX_0 hp h hx
theorem zmRun_0 : ∀ (k d μ pc : Nat) (L st : List Value) (x : zmH) (v : Option Value) (x' : zmH), zmRun k d μ pc L st x = some (v, x') → 0 < x.1.1 → x'.2.1 0 = x.2.1 0 ∧ 0 < x'.1.1 := by
  intro k
  induction k with
  | zero => intro d μ pc L st x v x' h; cases h
  | succ k ih =>
    intro d μ pc L st x v x' h hx
    rw [zmRun_succ] at h
    cases hs : zmStep μ pc L st x with
    | none => rw [hs] at h; cases h
    | some t =>
      rw [hs] at h
      rcases t with ⟨pc', L', st', x1⟩ | w | ⟨ν, as, rest⟩
      · have h1 := zmStep_0 hs hx
        obtain ⟨e1, e2⟩ := ih _ _ _ _ _ _ _ _ h h1.2
        exact ⟨e1.trans h1.1, e2⟩
      · cases h; exact ⟨rfl, hx⟩
      · cases d with
        | zero => cases h
        | succ d =>
          simp only at h
          cases hc : zmRun k d ν 0 (zmIni ν as) [] x with
          | none => rw [hc] at h; cases h
          | some q =>
            obtain ⟨q1, q2⟩ := q
            rw [hc] at h
            obtain ⟨f1, f2⟩ := ih _ _ _ _ _ _ _ _ hc hx
            obtain ⟨e1, e2⟩ := ih _ _ _ _ _ _ _ _ h f2
            exact ⟨e1.trans f1, e2⟩
theorem Den_0 {d μ pc n : Nat} {L st : List Value} {a a' : Nat → Nat → Int32} {b b' : Nat → Nat → Int64} {r r' : Nat → Nat → Option Nat} {v : Option Value} (h : Den d μ pc L st (zmMk n a b r) = some (v, zmMk n a' b' r')) : a' 0 = a 0 := by
  obtain ⟨k, hk⟩ := Den_some h
  exact (zmRun_0 _ _ _ _ _ _ _ _ _ hk (by show 0 < 147; omega)).1
