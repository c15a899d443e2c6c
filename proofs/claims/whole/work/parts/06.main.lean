/-! ===== states behind both constructors: references that never move stand in a table ===== -/
def zmRefT : List (List (List (Option Nat))) := [[[], [], [], [], [], [], [], [], [], [], [], [], [], [], [some 15, none, some 16, some 20, none, some 24, some 27, some 29, some 37, none, some 44, some 52, some 55, some 62, some 65, some 66, some 68], []],
  [[none, none, some 17, some 18, some 19], [], [], [], [none, none, some 21, some 22, some 23], [], [], [], [none, some 25, some 26], [], [], [none, none, some 28], [], [some 24, some 27, some 16, some 30], [], [none, none, none, some 32, some 33, some 34, some 35, some 36]],
  [[], [], [], [], [], [], [none, none, none, some 39, some 40, some 41, some 42, some 43], [], [], [], [], [], [], [], [none, none, none, some 47, some 48, some 49, some 50, some 51], []],
  [[], [], [], [], [some 29, some 53, some 54], [], [], [some 29, some 56, some 57, some 58, some 59, some 60, some 61], [], [], [], [], [], [], [some 29, some 16, none, none, some 63, some 64], []],
  [[], [some 29], [some 67], [], [some 69], [], [none, none, none, some 71, some 72, some 73, some 74, some 75], [], [], [], [], [], [none, none, none, some 77, some 78, some 79, some 80, some 81], [], [], []],
  [[], [], [none, none, none, some 83, some 84, some 85, some 86, some 87], [], [], [], [], [], [none, none, none, some 89, some 90, some 91, some 92, some 93], [], [], [], [], [], [none, none, none, none, none, none, none, some 95, none, none, none, none, none, some 96, some 97, some 98, some 99, none, none, none, none, some 100, some 101, some 102, some 103, some 104, some 105, some 106, some 107, some 108, some 109, some 110, some 111, some 112, some 113, none, some 114, some 115, some 116, none, none, none, none, some 117, some 118, some 119, some 120, some 121, some 122, none, none, none, none, none, none, none, none, none, some 123, some 124, some 125, some 126, none, none, none, none, some 127, some 128, some 129, some 130, some 131, some 132, some 133, none, none, some 134, some 135, some 136, some 137, some 138, none, none, none, none, none, some 139, some 140, some 141, some 142, some 143, some 144, some 145, some 146], []],
  [[], [], [], [], [], [], [], [], [], [], [], [], [], [], [], []],
  [[], [], [], [], [], [], [], [], [], [], [], [], [], [], [], []],
  [[], [], [], [], [], [], [], [], [], [], [], [], [], [], [], []],
  [[], [], []]]
def zmRt (k j : Nat) : Option Nat := (zmAt [] zmRefT k).getD j none
def zmR0 (r : Nat → Nat → Option Nat) (k j : Nat) : Option Nat := match zmRt k j with
  | some v => some v
  | none => r k j
def zmMk (n : Nat) (a : Nat → Nat → Int32) (b : Nat → Nat → Int64) (r : Nat → Nat → Option Nat) : zmH := ((147, n), a, b, zmR0 r)
def isTx (t : Nat) : Prop := t = 31 ∨ t = 38 ∨ t = 70 ∨ t = 76 ∨ t = 82 ∨ t = 88
theorem zmR0_put (r : Nat → Nat → Option Nat) {k j : Nat} (v : Option Nat) (h : zmRt k j = none) : uR (zmR0 r) k j v = zmR0 (uR r k j v) := by
  funext a c
  show (if a = k ∧ c = j then v else zmR0 r a c) = _
  unfold zmR0 uR
  by_cases hc : a = k ∧ c = j
  · rw [if_pos hc, hc.1, hc.2, h]
    simp
  · rw [if_neg hc]
    cases zmRt a c with
    | some w => rfl
    | none => simp [hc]
theorem Den_none {d μ pc : Nat} {L st : List Value} {x : zmH} (h : zmStep μ pc L st x = none) : Den d μ pc L st x = none := by
  cases hd : Den d μ pc L st x with
  | none => rfl
  | some r =>
    obtain ⟨k, hk⟩ := Den_some hd
    cases k with
    | zero => cases hk
    | succ k => rw [zmRun_succ, h] at hk; cases hk
theorem zmStep_of {i : zmI} {μ pc : Nat} {L st : List Value} {x : zmH} (hh : zmOne (zmFetch μ pc) i = true) : zmStep μ pc L st x = zmX i pc L st x := by
  unfold zmStep
  rw [zmOne_eq hh]
theorem Den_if1 (i : zmI) {c : Prop} [hc : Decidable c] {d μ pc pc' : Nat} {L st L' st' : List Value} {x x' : zmH} (hh : zmOne (zmFetch μ pc) i = true) (hr : zmX i pc L st x = if c then some (.inl (pc', L', st', x')) else none) : Den d μ pc L st x = if c then Den d μ pc' L' st' x' else none := by
  by_cases h : c
  · rw [if_pos h] at hr ⊢
    exact Den_next ((zmStep_of hh).trans hr)
  · rw [if_neg h] at hr ⊢
    exact Den_none ((zmStep_of hh).trans hr)
theorem Den_if0 (i : zmI) {c : Prop} [hc : Decidable c] {d μ pc pc' : Nat} {L st L' st' : List Value} {x x' : zmH} (hh : zmOne (zmFetch μ pc) i = true) (hr : zmX i pc L st x = if c then none else some (.inl (pc', L', st', x'))) : Den d μ pc L st x = if c then none else Den d μ pc' L' st' x' := by
  by_cases h : c
  · rw [if_pos h] at hr ⊢
    exact Den_none ((zmStep_of hh).trans hr)
  · rw [if_neg h] at hr ⊢
    exact Den_next ((zmStep_of hh).trans hr)
theorem Den_retE (i : zmI) {d μ pc : Nat} {L st : List Value} {x : zmH} {v : Option Value} (hh : zmOne (zmFetch μ pc) i = true) (hr : zmX i pc L st x = some (.inr (.inl v))) : Den d μ pc L st x = some (v, x) := Den_ret ((zmStep_of hh).trans hr)
theorem Den_retZ (i : zmI) {d μ pc : Nat} {L st : List Value} {x : zmH} {v : Int32} (hh : zmOne (zmFetch μ pc) i = true) (hr : zmX i pc L st x = if v = 0 ∨ v = 1 then some (.inr (.inl (some (.int v)))) else none) : Den d μ pc L st x = if v = 0 ∨ v = 1 then some (some (.int v), x) else none := by
  by_cases h : v = 0 ∨ v = 1
  · rw [if_pos h] at hr ⊢
    exact Den_ret ((zmStep_of hh).trans hr)
  · rw [if_neg h] at hr ⊢
    exact Den_none ((zmStep_of hh).trans hr)
theorem Den_callE (i : zmI) {d μ pc ν : Nat} {L st as rest l2 : List Value} {x : zmH} (hh : zmOne (zmFetch μ pc) i = true) (hr : zmX i pc L st x = some (.inr (.inr (ν, as, rest)))) (hL : zmIni ν as = l2) : Den (d + 1) μ pc L st x = (Den d ν 0 l2 [] x).bind fun q => Den (d + 1) μ (pc + 3) L (q.1.toList ++ rest) q.2 := by
  rw [← hL]
  exact Den_call ((zmStep_of hh).trans hr)
theorem Den_callV (i : zmI) {d μ pc ν b : Nat} {L st as rest l2 : List Value} {x : zmH} (hv : zmRecv b ν x = true) (hh : zmOne (zmFetch μ pc) i = true) (hr : zmX i pc L st x = if zmRecv b ν x = true then some (.inr (.inr (ν, as, rest))) else none) (hL : zmIni ν as = l2) : Den (d + 1) μ pc L st x = (Den d ν 0 l2 [] x).bind fun q => Den (d + 1) μ (pc + 3) L (q.1.toList ++ rest) q.2 := by
  rw [if_pos hv] at hr
  exact Den_callE i hh hr hL
theorem Den_putr (i : zmI) {d μ pc pc' n k j : Nat} {L st L' st' : List Value} {a : Nat → Nat → Int32} {b : Nat → Nat → Int64} {r : Nat → Nat → Option Nat} {v : Option Nat} {x' : zmH} (hh : zmOne (zmFetch μ pc) i = true) (hr : zmX i pc L st (zmMk n a b r) = some (.inl (pc', L', st', sR (zmMk n a b r) k j v))) (hk : zmRt k j = none) (hx : x' = zmMk n a b (uR r k j v) := by rfl) : Den d μ pc L st (zmMk n a b r) = Den d μ pc' L' st' x' := by
  rw [Den_next ((zmStep_of hh).trans hr), hx]
  show Den d μ pc' L' st' ((147, n), a, b, uR (zmR0 r) k j v) = _
  rw [zmR0_put r v hk]
  rfl
theorem uI_at (f : Nat → Nat → Int32) (k j : Nat) (v : Int32) (a b : Nat) : uI f k j v a b = if a = k ∧ b = j then v else f a b := rfl
theorem uL_at (f : Nat → Nat → Int64) (k j : Nat) (v : Int64) (a b : Nat) : uL f k j v a b = if a = k ∧ b = j then v else f a b := rfl
theorem uR_at (f : Nat → Nat → Option Nat) (k j : Nat) (v : Option Nat) (a b : Nat) : uR f k j v a b = if a = k ∧ b = j then v else f a b := rfl
theorem Den_rw {o : Option Nat} {t : Nat} (h : o = some t) {d μ pc : Nat} {L st : List Value} {x : zmH} : Den d μ pc L (zmRf o :: st) x = Den d μ pc L (.ref t :: st) x := by
  rw [h]
  rfl
