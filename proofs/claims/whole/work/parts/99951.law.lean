/-! ===== the law's loop: the two objects answer alike, call by call ===== -/
def lgL (i : Int32) : List Value := [.ref 0, .ref 14, .ref 94, .int i]
def lgV (s : Nat → Int32) (p : Nat) (q : Nat × Bool) : Value := .int (bif q.2 then bI (!decide (s (p + q.1) = iN 0)) else s (p + q.1))
def lgS (s : Nat → Int32) (p : Nat) : List (Nat × Bool) → List Value → List Value
  | [], st => st
  | q :: as, st => lgS s p as (lgV s p q :: st)
def lwM (pc m : Nat) : Bool := if m ≤ 5 then zmOne (zmFetch 0 pc) (zmi (.iconst m) 1 (iN m)) else zmOne (zmFetch 0 pc) (zmi (.bipush m) 2 (iN m))
def lgW (m : Nat) : Nat := if m ≤ 5 then 1 else 2
def lgOk : Nat → List (Nat × Bool) → Nat → Bool
  | pc, [], e => Nat.beq pc e
  | pc, (m, t) :: r, e => zmOne (zmFetch 0 pc) (zm0 (.aload_n 0) 1) && (zmOne (zmFetch 0 (pc + 1)) (zm0 (.iload_n 3) 1) && (lwM (pc + 2) m && (zmOne (zmFetch 0 (pc + 2 + lgW m)) (zm0 .iadd 1) && (zmOne (zmFetch 0 (pc + 2 + lgW m + 1)) (zm0 .iaload 1) && (bif t then (zmOne (zmFetch 0 (pc + 2 + lgW m + 2)) (zm0 (.ifCond .eq 7) 3) && (zmOne (zmFetch 0 (pc + 2 + lgW m + 2 + 3)) (zmi (.iconst 1) 1 (iN 1)) && (zmOne (zmFetch 0 (pc + 2 + lgW m + 2 + 4)) (zm0 (.goto 4) 3) && (zmOne (zmFetch 0 (pc + 2 + lgW m + 2 + 7)) (zmi (.iconst 0) 1 (iN 0)) && lgOk (pc + 2 + lgW m + 2 + 8) r e)))) else lgOk (pc + 2 + lgW m + 2) r e)))))
theorem lg_a0 {D pc : Nat} {i : Int32} {st : List Value} {x : zmH} (h : zmOne (zmFetch 0 pc) (zm0 (.aload_n 0) 1) = true) : Den D 0 pc (lgL i) st x = Den D 0 (pc + 1) (lgL i) (.ref 0 :: st) x := Den_next ((zmStep_of h).trans rfl)
theorem lg_a1 {D pc : Nat} {i : Int32} {st : List Value} {x : zmH} (h : zmOne (zmFetch 0 pc) (zm0 (.aload_n 1) 1) = true) : Den D 0 pc (lgL i) st x = Den D 0 (pc + 1) (lgL i) (.ref 14 :: st) x := Den_next ((zmStep_of h).trans rfl)
theorem lg_a2 {D pc : Nat} {i : Int32} {st : List Value} {x : zmH} (h : zmOne (zmFetch 0 pc) (zm0 (.aload_n 2) 1) = true) : Den D 0 pc (lgL i) st x = Den D 0 (pc + 1) (lgL i) (.ref 94 :: st) x := Den_next ((zmStep_of h).trans rfl)
theorem lg_i {D pc : Nat} {i : Int32} {st : List Value} {x : zmH} (h : zmOne (zmFetch 0 pc) (zm0 (.iload_n 3) 1) = true) : Den D 0 pc (lgL i) st x = Den D 0 (pc + 1) (lgL i) (.int i :: st) x := Den_next ((zmStep_of h).trans rfl)
theorem lg_m {D pc m : Nat} {L st : List Value} {x : zmH} (h : lwM pc m = true) : Den D 0 pc L st x = Den D 0 (pc + lgW m) L (.int (iN m) :: st) x := by
  unfold lwM at h
  unfold lgW
  by_cases hm : m ≤ 5
  · rw [if_pos hm] at h ⊢
    exact Den_next ((zmStep_of h).trans rfl)
  · rw [if_neg hm] at h ⊢
    exact Den_next ((zmStep_of h).trans rfl)
theorem lg_add {D pc : Nat} {L st : List Value} {x : zmH} {i j : Int32} (h : zmOne (zmFetch 0 pc) (zm0 .iadd 1) = true) : Den D 0 pc L (.int j :: .int i :: st) x = Den D 0 (pc + 1) L (.int (i + j) :: st) x := Den_next ((zmStep_of h).trans rfl)
theorem lg_ld {D pc n : Nat} {L st : List Value} {a : Nat → Nat → Int32} {b : Nat → Nat → Int64} {r : Nat → Nat → Option Nat} {j : Nat} (h : zmOne (zmFetch 0 pc) (zm0 .iaload 1) = true) (hj : j < n) (hn : n ≤ 4608) : Den D 0 pc L (.int (iN j) :: .ref 0 :: st) (zmMk n a b r) = Den D 0 (pc + 1) L (.int (a 0 j) :: st) (zmMk n a b r) := by
  have hz : zmIn (iN j) n = true := by rw [n_in (by omega), decide_eq_true hj]
  apply Den_next
  rw [zmStep_of h]
  have e : zmX (zm0 .iaload 1) pc L (.int (iN j) :: .ref 0 :: st) (zmMk n a b r) = if zmIn (iN j) n = true then some (.inl (pc + 1, L, .int (a 0 (iN j).toNatClampNeg) :: st, zmMk n a b r)) else none := rfl
  rw [e, if_pos hz, n_nat (by omega)]
theorem zmGo_7 (pc : Nat) : zmGo pc 7 = pc + 7 := by
  unfold zmGo
  omega
theorem zmGo_4 (pc : Nat) : zmGo pc 4 = pc + 4 := by
  unfold zmGo
  omega
theorem lg_bool {D pc : Nat} {L st : List Value} {x : zmH} {v : Int32} (h1 : zmOne (zmFetch 0 pc) (zm0 (.ifCond .eq 7) 3) = true) (h2 : zmOne (zmFetch 0 (pc + 3)) (zmi (.iconst 1) 1 (iN 1)) = true) (h3 : zmOne (zmFetch 0 (pc + 4)) (zm0 (.goto 4) 3) = true) (h4 : zmOne (zmFetch 0 (pc + 7)) (zmi (.iconst 0) 1 (iN 0)) = true) : Den D 0 pc L (.int v :: st) x = Den D 0 (pc + 8) L (.int (bI (!decide (v = iN 0))) :: st) x := by
  have e1 : zmX (zm0 (.ifCond .eq 7) 3) pc L (.int v :: st) x = some (.inl (if v = iN 0 then zmGo pc 7 else pc + 3, L, st, x)) := rfl
  by_cases hv : v = iN 0
  · rw [decide_eq_true hv]
    rw [if_pos hv, zmGo_7 pc] at e1
    rw [Den_next ((zmStep_of h1).trans e1), Den_next (L' := L) (st' := .int (iN 0) :: st) (x' := x) (pc' := pc + 7 + 1) ((zmStep_of h4).trans rfl)]
    rfl
  · rw [decide_eq_false hv]
    rw [if_neg hv] at e1
    rw [Den_next ((zmStep_of h1).trans e1), Den_next (L' := L) (st' := .int (iN 1) :: st) (x' := x) (pc' := pc + 3 + 1) ((zmStep_of h2).trans rfl)]
    have e3 : zmX (zm0 (.goto 4) 3) (pc + 4) L (.int (iN 1) :: st) x = some (.inl (zmGo (pc + 4) 4, L, .int (iN 1) :: st, x)) := rfl
    rw [zmGo_4 (pc + 4)] at e3
    exact Den_next ((zmStep_of h3).trans e3)
theorem lg_args {D n p : Nat} {a : Nat → Nat → Int32} {b : Nat → Nat → Int64} {r : Nat → Nat → Option Nat} (hp : p + 9 ≤ n) (hn : n ≤ 4608) : ∀ (as : List (Nat × Bool)) (pc e : Nat) (st : List Value), lgOk pc as e = true → (as.all fun q => Nat.ble q.1 8) = true → Den D 0 pc (lgL (iN p)) st (zmMk n a b r) = Den D 0 e (lgL (iN p)) (lgS (a 0) p as st) (zmMk n a b r) := by
  intro as
  induction as with
  | nil =>
    intro pc e st h _
    rw [Nat.eq_of_beq_eq_true (h : Nat.beq pc e = true)]
    rfl
  | cons q as ih =>
    obtain ⟨m, t⟩ := q
    intro pc e st h h8
    unfold lgOk at h
    simp only [Bool.and_eq_true] at h
    obtain ⟨k1, k2, k3, k4, k5, k6⟩ := h
    rw [List.all_cons, Bool.and_eq_true] at h8
    obtain ⟨m8, h8⟩ := h8
    have m8 : m ≤ 8 := Nat.ble_eq.mp m8
    rw [lg_a0 k1, lg_i k2, lg_m k3, lg_add k4, n_add, lg_ld k5 (by omega) hn]
    cases t with
    | false => exact ih _ _ _ k6 h8
    | true =>
      simp only [cond_true, Bool.and_eq_true] at k6
      obtain ⟨j1, j2, j3, j4, j5⟩ := k6
      rw [lg_bool j1 j2 j3 j4]
      exact ih _ _ _ j5 h8
theorem law_case {n p pc1 pc2 : Nat} (pc0 : Nat) (as : List (Nat × Bool)) (ic im : zmI) {a a1 a2 : Nat → Nat → Int32} {b b1 b2 : Nat → Nat → Int64} {r r1 r2 : Nat → Nat → Option Nat} {w : Value} {μ ν : Nat} {A1 A2 l1 l2 : List Value} (hp : p + 9 ≤ n) (hn : n ≤ 4608) (hc : Den 60 μ 0 l1 [] (zmMk n a b r) = some (some w, zmMk n a1 b1 r1)) (hm : Den 60 ν 0 l2 [] (zmMk n a1 b1 r1) = some (some w, zmMk n a2 b2 r2)) (k : (zmOne (zmFetch 0 pc0) (zm0 (.aload_n 1) 1) && (lgOk (pc0 + 1) as pc1 && (zmOne (zmFetch 0 pc1) ic && (zmOne (zmFetch 0 (pc1 + 3)) (zm0 (.aload_n 2) 1) && (lgOk (pc1 + 3 + 1) as pc2 && zmOne (zmFetch 0 pc2) im))))) = true) (k8 : (as.all fun q => Nat.ble q.1 8) = true) (x1 : zmX ic pc1 (lgL (iN p)) (lgS (a 0) p as [.ref 14]) (zmMk n a b r) = some (.inr (.inr (μ, A1, [])))) (i1 : zmIni μ A1 = l1) (x2 : zmX im pc2 (lgL (iN p)) (lgS (a 0) p as [.ref 94, w]) (zmMk n a1 b1 r1) = some (.inr (.inr (ν, A2, [w])))) (i2 : zmIni ν A2 = l2) : Den 61 0 pc0 (lgL (iN p)) [] (zmMk n a b r) = Den 61 0 (pc2 + 3) (lgL (iN p)) [w, w] (zmMk n a2 b2 r2) := by
  simp only [Bool.and_eq_true] at k
  obtain ⟨k1, k2, k3, k4, k5, k6⟩ := k
  have e0 : a1 0 = a 0 := Den_0 hc
  rw [lg_a1 k1, lg_args hp hn as _ _ _ k2 k8, Den_callE ic (d := 60) k3 x1 i1, hc]
  show Den 61 0 (pc1 + 3) (lgL (iN p)) [w] (zmMk n a1 b1 r1) = _
  rw [lg_a2 k4, lg_args hp hn as _ _ _ k5 k8, e0, Den_callE im (d := 60) k6 x2 i2, hm]
  rfl
theorem law_next {D p : Nat} {x : zmH} : Den D 0 2232 (lgL (iN p)) [] x = Den D 0 18 (lgL (iN (p + 9))) [] x := by
  rw [← n_add]
  exact Den_blk [zmi (.iinc 3 9) 3 9, zm0 (.goto (-2217)) 3] (by decide +kernel) rfl
theorem law_endI {D p pc : Nat} {v : Int32} {x : zmH} (o : Int) (h1 : zmOne (zmFetch 0 pc) (zm0 (.if_icmp .eq o) 3) = true) (h2 : zmGo pc o = 2232) : Den D 0 pc (lgL (iN p)) [.int v, .int v] x = Den D 0 18 (lgL (iN (p + 9))) [] x := by
  have e : zmX (zm0 (.if_icmp .eq o) 3) pc (lgL (iN p)) [.int v, .int v] x = some (.inl (if v = v then zmGo pc o else pc + 3, lgL (iN p), [], x)) := rfl
  rw [if_pos rfl, h2] at e
  rw [Den_next ((zmStep_of h1).trans e), law_next]
theorem law_endL {D p pc : Nat} {v : Int64} {x : zmH} (o : Int) (h0 : zmOne (zmFetch 0 pc) (zm0 .lcmp 1) = true) (h1 : zmOne (zmFetch 0 (pc + 1)) (zm0 (.ifCond .eq o) 3) = true) (h2 : zmGo (pc + 1) o = 2232) : Den D 0 pc (lgL (iN p)) [.long v, .long v] x = Den D 0 18 (lgL (iN (p + 9))) [] x := by
  have e0 : zmX (zm0 .lcmp 1) pc (lgL (iN p)) [.long v, .long v] x = some (.inl (pc + 1, lgL (iN p), [.int (lg_cmp v v)], x)) := rfl
  have ec : lg_cmp v v = iN 0 := by rw [cmp_0]
  rw [ec] at e0
  have e : zmX (zm0 (.ifCond .eq o) 3) (pc + 1) (lgL (iN p)) [.int (iN 0)] x = some (.inl (if iN 0 = iN 0 then zmGo (pc + 1) o else pc + 1 + 3, lgL (iN p), [], x)) := rfl
  rw [if_pos rfl, h2] at e
  rw [Den_next ((zmStep_of h0).trans e0), Den_next ((zmStep_of h1).trans e), law_next]
theorem InvS.mono {a : Nat → Nat → Int32} {b : Nat → Nat → Int64} {r : Nat → Nat → Option Nat} {A B : Nat} (h : InvS a b r A) (hB : A ≤ B) : InvS a b r B := by
  obtain ⟨σ, cl, cl', R, R', TL, TS, A', TR, hS, hA'⟩ := h
  exact ⟨σ, cl, cl', R, R', TL, TS, A', TR, hS, by omega⟩
theorem lw_steps {n p A : Nat} {a : Nat → Nat → Int32} {b : Nat → Nat → Int64} {r : Nat → Nat → Option Nat} (hp : p + 9 ≤ n) (hn : n ≤ 4608) (hA : A ≤ 4608) (h : InvS a b r A) : ∃ (a2 : Nat → Nat → Int32) (b2 : Nat → Nat → Int64) (r2 : Nat → Nat → Option Nat), Den 61 0 184 (lgL (iN p)) [] (zmMk n a b r) = Den 61 0 18 (lgL (iN (p + 9))) [] (zmMk n a2 b2 r2) ∧ InvS a2 b2 r2 (A + 1) := by
  obtain ⟨σ, cl, cl', R, R', TL, TS, A', TR, hS, hA'⟩ := h
  obtain ⟨v, a1, b1, r1, a2, b2, e1, e2, e3⟩ := p_steps (d := 0) (n := n) hS (by omega) (v1 := a 0 (p + 1))
  exact ⟨a2, b2, r1, (law_case (pc1 := 190) (pc2 := 199) (A1 := [.ref 14, .int (a 0 (p + 1))]) (A2 := [.ref 94, .int (a 0 (p + 1))]) 184 [(1, false)] (zmr (.invokevirtual 13) 3 1 93 1 459 0) (zmr (.invokevirtual 17) 3 1 159 1 1470 0) hp hn e1 e2 (by decide +kernel) (by decide +kernel) rfl rfl rfl rfl).trans (law_endI (pc := 202) (2030) (by decide +kernel) (by decide +kernel)), e3.mono (by omega)⟩
theorem lw_feed {n p A : Nat} {a : Nat → Nat → Int32} {b : Nat → Nat → Int64} {r : Nat → Nat → Option Nat} (hp : p + 9 ≤ n) (hn : n ≤ 4608) (hA : A ≤ 4608) (h : InvS a b r A) : ∃ (a2 : Nat → Nat → Int32) (b2 : Nat → Nat → Int64) (r2 : Nat → Nat → Option Nat), Den 61 0 207 (lgL (iN p)) [] (zmMk n a b r) = Den 61 0 18 (lgL (iN (p + 9))) [] (zmMk n a2 b2 r2) ∧ InvS a2 b2 r2 (A + 1) := by
  obtain ⟨σ, cl, cl', R, R', TL, TS, A', TR, hS, hA'⟩ := h
  obtain ⟨v, a1, b1, r1, a2, b2, e1, e2, e3⟩ := p_feed (d := 0) (n := n) hS (v1 := a 0 (p + 1)) (v2 := a 0 (p + 2)) (v3 := a 0 (p + 3)) (v4 := a 0 (p + 4)) (v5 := a 0 (p + 5))
  exact ⟨a2, b2, r1, (law_case (pc1 := 233) (pc2 := 262) (A1 := [.ref 14, .int (a 0 (p + 1)), .int (a 0 (p + 2)), .int (a 0 (p + 3)), .int (a 0 (p + 4)), .int (a 0 (p + 5))]) (A2 := [.ref 94, .int (a 0 (p + 1)), .int (a 0 (p + 2)), .int (a 0 (p + 3)), .int (a 0 (p + 4)), .int (a 0 (p + 5))]) 207 [(1, false), (2, false), (3, false), (4, false), (5, false)] (zmr (.invokevirtual 18) 3 1 94 5 474 0) (zmr (.invokevirtual 22) 3 1 158 5 1462 0) hp hn e1 e2 (by decide +kernel) (by decide +kernel) rfl rfl rfl rfl).trans (law_endI (pc := 265) (1967) (by decide +kernel) (by decide +kernel)), e3.mono (by omega)⟩
theorem lw_street {n p A : Nat} {a : Nat → Nat → Int32} {b : Nat → Nat → Int64} {r : Nat → Nat → Option Nat} (hp : p + 9 ≤ n) (hn : n ≤ 4608) (hA : A ≤ 4608) (h : InvS a b r A) : ∃ (a2 : Nat → Nat → Int32) (b2 : Nat → Nat → Int64) (r2 : Nat → Nat → Option Nat), Den 61 0 270 (lgL (iN p)) [] (zmMk n a b r) = Den 61 0 18 (lgL (iN (p + 9))) [] (zmMk n a2 b2 r2) ∧ InvS a2 b2 r2 (A + 1) := by
  obtain ⟨σ, cl, cl', R, R', TL, TS, A', TR, hS, hA'⟩ := h
  obtain ⟨v, a1, b1, r1, a2, b2, e1, e2, e3⟩ := p_street (d := 0) (n := n) hS (by omega) (v1 := a 0 (p + 1))
  exact ⟨a2, b2, r1, (law_case (pc1 := 276) (pc2 := 285) (A1 := [.ref 14, .int (a 0 (p + 1))]) (A2 := [.ref 94, .int (a 0 (p + 1))]) 270 [(1, false)] (zmr (.invokevirtual 23) 3 1 95 1 485 0) (zmr (.invokevirtual 27) 3 1 162 1 1477 0) hp hn e1 e2 (by decide +kernel) (by decide +kernel) rfl rfl rfl rfl).trans (law_endI (pc := 288) (1944) (by decide +kernel) (by decide +kernel)), e3.mono (by omega)⟩
theorem lw_queue {n p A : Nat} {a : Nat → Nat → Int32} {b : Nat → Nat → Int64} {r : Nat → Nat → Option Nat} (hp : p + 9 ≤ n) (hn : n ≤ 4608) (hA : A ≤ 4608) (h : InvS a b r A) : ∃ (a2 : Nat → Nat → Int32) (b2 : Nat → Nat → Int64) (r2 : Nat → Nat → Option Nat), Den 61 0 293 (lgL (iN p)) [] (zmMk n a b r) = Den 61 0 18 (lgL (iN (p + 9))) [] (zmMk n a2 b2 r2) ∧ InvS a2 b2 r2 (A + 1) := by
  obtain ⟨σ, cl, cl', R, R', TL, TS, A', TR, hS, hA'⟩ := h
  obtain ⟨v, a1, b1, r1, a2, b2, e1, e2, e3⟩ := p_queue (d := 0) (n := n) hS (by omega) (v1 := a 0 (p + 1))
  exact ⟨a2, b2, r1, (law_case (pc1 := 299) (pc2 := 308) (A1 := [.ref 14, .int (a 0 (p + 1))]) (A2 := [.ref 94, .int (a 0 (p + 1))]) 293 [(1, false)] (zmr (.invokevirtual 28) 3 1 96 1 600 0) (zmr (.invokevirtual 31) 3 1 164 1 1504 0) hp hn e1 e2 (by decide +kernel) (by decide +kernel) rfl rfl rfl rfl).trans (law_endI (pc := 311) (1921) (by decide +kernel) (by decide +kernel)), e3.mono (by omega)⟩
theorem lw_law {n p A : Nat} {a : Nat → Nat → Int32} {b : Nat → Nat → Int64} {r : Nat → Nat → Option Nat} (hp : p + 9 ≤ n) (hn : n ≤ 4608) (hA : A ≤ 4608) (h : InvS a b r A) : ∃ (a2 : Nat → Nat → Int32) (b2 : Nat → Nat → Int64) (r2 : Nat → Nat → Option Nat), Den 61 0 316 (lgL (iN p)) [] (zmMk n a b r) = Den 61 0 18 (lgL (iN (p + 9))) [] (zmMk n a2 b2 r2) ∧ InvS a2 b2 r2 (A + 1) := by
  obtain ⟨σ, cl, cl', R, R', TL, TS, A', TR, hS, hA'⟩ := h
  obtain ⟨v, a1, b1, r1, a2, b2, e1, e2, e3⟩ := p_law (d := 0) (n := n) hS (by omega) (v1 := a 0 (p + 1))
  exact ⟨a2, b2, r1, (law_case (pc1 := 322) (pc2 := 331) (A1 := [.ref 14, .int (a 0 (p + 1))]) (A2 := [.ref 94, .int (a 0 (p + 1))]) 316 [(1, false)] (zmr (.invokevirtual 32) 3 1 97 1 617 0) (zmr (.invokevirtual 35) 3 1 189 1 1511 0) hp hn e1 e2 (by decide +kernel) (by decide +kernel) rfl rfl rfl rfl).trans (law_endI (pc := 334) (1898) (by decide +kernel) (by decide +kernel)), e3.mono (by omega)⟩
theorem lw_rule {n p A : Nat} {a : Nat → Nat → Int32} {b : Nat → Nat → Int64} {r : Nat → Nat → Option Nat} (hp : p + 9 ≤ n) (hn : n ≤ 4608) (hA : A ≤ 4608) (h : InvS a b r A) : ∃ (a2 : Nat → Nat → Int32) (b2 : Nat → Nat → Int64) (r2 : Nat → Nat → Option Nat), Den 61 0 339 (lgL (iN p)) [] (zmMk n a b r) = Den 61 0 18 (lgL (iN (p + 9))) [] (zmMk n a2 b2 r2) ∧ InvS a2 b2 r2 (A + 1) := by
  obtain ⟨σ, cl, cl', R, R', TL, TS, A', TR, hS, hA'⟩ := h
  obtain ⟨v, a1, b1, r1, a2, b2, e1, e2, e3⟩ := p_rule (d := 0) (n := n) hS (v1 := a 0 (p + 1)) (v2 := a 0 (p + 2))
  exact ⟨a2, b2, r1, (law_case (pc1 := 350) (pc2 := 364) (A1 := [.ref 14, .int (a 0 (p + 1)), .int (a 0 (p + 2))]) (A2 := [.ref 94, .int (a 0 (p + 1)), .int (a 0 (p + 2))]) 339 [(1, false), (2, false)] (zmr (.invokevirtual 36) 3 1 98 2 701 0) (zmr (.invokevirtual 40) 3 1 192 2 1585 0) hp hn e1 e2 (by decide +kernel) (by decide +kernel) rfl rfl rfl rfl).trans (law_endI (pc := 367) (1865) (by decide +kernel) (by decide +kernel)), e3.mono (by omega)⟩
theorem lw_may {n p A : Nat} {a : Nat → Nat → Int32} {b : Nat → Nat → Int64} {r : Nat → Nat → Option Nat} (hp : p + 9 ≤ n) (hn : n ≤ 4608) (hA : A ≤ 4608) (h : InvS a b r A) : ∃ (a2 : Nat → Nat → Int32) (b2 : Nat → Nat → Int64) (r2 : Nat → Nat → Option Nat), Den 61 0 372 (lgL (iN p)) [] (zmMk n a b r) = Den 61 0 18 (lgL (iN (p + 9))) [] (zmMk n a2 b2 r2) ∧ InvS a2 b2 r2 (A + 1) := by
  obtain ⟨σ, cl, cl', R, R', TL, TS, A', TR, hS, hA'⟩ := h
  obtain ⟨a1, b1, e1, h1⟩ := c_may (d := 46) (n := n) hS (v1 := a 0 (p + 1)) (v2 := a 0 (p + 2)) (v3 := a 0 (p + 3)) (s := (!decide (a 0 (p + 4) = iN 0))) (u := (!decide (a 0 (p + 5) = iN 0))) (v6 := a 0 (p + 6))
  obtain ⟨a2, b2, e2, h2⟩ := m_may (d := 46) (n := n) h1 (v1 := a 0 (p + 1)) (v2 := a 0 (p + 2)) (v3 := a 0 (p + 3)) (s := (!decide (a 0 (p + 4) = iN 0))) (u := (!decide (a 0 (p + 5) = iN 0))) (v6 := a 0 (p + 6))
  exact ⟨a2, b2, r, (law_case (pc1 := 420) (pc2 := 471) (A1 := [.ref 14, .int (a 0 (p + 1)), .int (a 0 (p + 2)), .int (a 0 (p + 3)), .int (bI (!decide (a 0 (p + 4) = iN 0))), .int (bI (!decide (a 0 (p + 5) = iN 0))), .int (a 0 (p + 6))]) (A2 := [.ref 94, .int (a 0 (p + 1)), .int (a 0 (p + 2)), .int (a 0 (p + 3)), .int (bI (!decide (a 0 (p + 4) = iN 0))), .int (bI (!decide (a 0 (p + 5) = iN 0))), .int (a 0 (p + 6))]) 372 [(1, false), (2, false), (3, false), (4, true), (5, true), (6, false)] (zmr (.invokevirtual 41) 3 1 99 6 706 0) (zmr (.invokevirtual 45) 3 1 213 6 1592 0) hp hn e1 e2 (by decide +kernel) (by decide +kernel) rfl rfl rfl rfl).trans (law_endI (pc := 474) (1758) (by decide +kernel) (by decide +kernel)), σ, cl, cl', R, R', TL, TS, A', TR, h2, by omega⟩
theorem lw_after {n p A : Nat} {a : Nat → Nat → Int32} {b : Nat → Nat → Int64} {r : Nat → Nat → Option Nat} (hp : p + 9 ≤ n) (hn : n ≤ 4608) (hA : A ≤ 4608) (h : InvS a b r A) : ∃ (a2 : Nat → Nat → Int32) (b2 : Nat → Nat → Int64) (r2 : Nat → Nat → Option Nat), Den 61 0 479 (lgL (iN p)) [] (zmMk n a b r) = Den 61 0 18 (lgL (iN (p + 9))) [] (zmMk n a2 b2 r2) ∧ InvS a2 b2 r2 (A + 1) := by
  obtain ⟨σ, cl, cl', R, R', TL, TS, A', TR, hS, hA'⟩ := h
  obtain ⟨a1, b1, e1, h1⟩ := c_after (d := 40) (n := n) hS (v1 := a 0 (p + 1)) (v2 := a 0 (p + 2)) (v3 := a 0 (p + 3)) (s := (!decide (a 0 (p + 4) = iN 0))) (u := (!decide (a 0 (p + 5) = iN 0))) (v6 := a 0 (p + 6)) (v7 := a 0 (p + 7))
  obtain ⟨a2, b2, e2, h2⟩ := m_after (d := 40) (n := n) h1 (v1 := a 0 (p + 1)) (v2 := a 0 (p + 2)) (v3 := a 0 (p + 3)) (s := (!decide (a 0 (p + 4) = iN 0))) (u := (!decide (a 0 (p + 5) = iN 0))) (v6 := a 0 (p + 6)) (v7 := a 0 (p + 7))
  exact ⟨a2, b2, r, (law_case (pc1 := 533) (pc2 := 590) (A1 := [.ref 14, .int (a 0 (p + 1)), .int (a 0 (p + 2)), .int (a 0 (p + 3)), .int (bI (!decide (a 0 (p + 4) = iN 0))), .int (bI (!decide (a 0 (p + 5) = iN 0))), .int (a 0 (p + 6)), .int (a 0 (p + 7))]) (A2 := [.ref 94, .int (a 0 (p + 1)), .int (a 0 (p + 2)), .int (a 0 (p + 3)), .int (bI (!decide (a 0 (p + 4) = iN 0))), .int (bI (!decide (a 0 (p + 5) = iN 0))), .int (a 0 (p + 6)), .int (a 0 (p + 7))]) 479 [(1, false), (2, false), (3, false), (4, true), (5, true), (6, false), (7, false)] (zmr (.invokevirtual 46) 3 1 100 7 763 0) (zmr (.invokevirtual 50) 3 1 214 7 1652 0) hp hn e1 e2 (by decide +kernel) (by decide +kernel) rfl rfl rfl rfl).trans (law_endI (pc := 593) (1639) (by decide +kernel) (by decide +kernel)), σ, cl, cl', R, R', TL, TS, A', TR, h2, by omega⟩
theorem lw_best {n p A : Nat} {a : Nat → Nat → Int32} {b : Nat → Nat → Int64} {r : Nat → Nat → Option Nat} (hp : p + 9 ≤ n) (hn : n ≤ 4608) (hA : A ≤ 4608) (h : InvS a b r A) : ∃ (a2 : Nat → Nat → Int32) (b2 : Nat → Nat → Int64) (r2 : Nat → Nat → Option Nat), Den 61 0 598 (lgL (iN p)) [] (zmMk n a b r) = Den 61 0 18 (lgL (iN (p + 9))) [] (zmMk n a2 b2 r2) ∧ InvS a2 b2 r2 (A + 1) := by
  obtain ⟨σ, cl, cl', R, R', TL, TS, A', TR, hS, hA'⟩ := h
  obtain ⟨a1, b1, e1, h1⟩ := c_best (d := 19) (n := n) hS (v1 := a 0 (p + 1)) (v2 := a 0 (p + 2)) (v3 := a 0 (p + 3)) (s := (!decide (a 0 (p + 4) = iN 0))) (u := (!decide (a 0 (p + 5) = iN 0))) (v6 := a 0 (p + 6))
  obtain ⟨a2, b2, e2, h2⟩ := m_best (d := 19) (n := n) h1 (v1 := a 0 (p + 1)) (v2 := a 0 (p + 2)) (v3 := a 0 (p + 3)) (s := (!decide (a 0 (p + 4) = iN 0))) (u := (!decide (a 0 (p + 5) = iN 0))) (v6 := a 0 (p + 6))
  exact ⟨a2, b2, r, (law_case (pc1 := 646) (pc2 := 697) (A1 := [.ref 14, .int (a 0 (p + 1)), .int (a 0 (p + 2)), .int (a 0 (p + 3)), .int (bI (!decide (a 0 (p + 4) = iN 0))), .int (bI (!decide (a 0 (p + 5) = iN 0))), .int (a 0 (p + 6))]) (A2 := [.ref 94, .int (a 0 (p + 1)), .int (a 0 (p + 2)), .int (a 0 (p + 3)), .int (bI (!decide (a 0 (p + 4) = iN 0))), .int (bI (!decide (a 0 (p + 5) = iN 0))), .int (a 0 (p + 6))]) 598 [(1, false), (2, false), (3, false), (4, true), (5, true), (6, false)] (zmr (.invokevirtual 51) 3 1 101 6 781 0) (zmr (.invokevirtual 55) 3 1 221 6 1677 0) hp hn e1 e2 (by decide +kernel) (by decide +kernel) rfl rfl rfl rfl).trans (law_endL (pc := 700) (1531) (by decide +kernel) (by decide +kernel) (by decide +kernel)), σ, cl, cl', R, R', TL, TS, A', TR, h2, by omega⟩
theorem lw_by {n p A : Nat} {a : Nat → Nat → Int32} {b : Nat → Nat → Int64} {r : Nat → Nat → Option Nat} (hp : p + 9 ≤ n) (hn : n ≤ 4608) (hA : A ≤ 4608) (h : InvS a b r A) : ∃ (a2 : Nat → Nat → Int32) (b2 : Nat → Nat → Int64) (r2 : Nat → Nat → Option Nat), Den 61 0 706 (lgL (iN p)) [] (zmMk n a b r) = Den 61 0 18 (lgL (iN (p + 9))) [] (zmMk n a2 b2 r2) ∧ InvS a2 b2 r2 (A + 1) := by
  obtain ⟨σ, cl, cl', R, R', TL, TS, A', TR, hS, hA'⟩ := h
  obtain ⟨a1, b1, e1, h1⟩ := c_by (d := 42) (n := n) hS (v1 := a 0 (p + 1)) (v2 := a 0 (p + 2)) (v3 := a 0 (p + 3)) (v4 := a 0 (p + 4)) (s := (!decide (a 0 (p + 5) = iN 0))) (u := (!decide (a 0 (p + 6) = iN 0))) (v7 := a 0 (p + 7))
  obtain ⟨a2, b2, e2, h2⟩ := m_by (d := 42) (n := n) h1 (v1 := a 0 (p + 1)) (v2 := a 0 (p + 2)) (v3 := a 0 (p + 3)) (v4 := a 0 (p + 4)) (s := (!decide (a 0 (p + 5) = iN 0))) (u := (!decide (a 0 (p + 6) = iN 0))) (v7 := a 0 (p + 7))
  exact ⟨a2, b2, r, (law_case (pc1 := 760) (pc2 := 817) (A1 := [.ref 14, .int (a 0 (p + 1)), .int (a 0 (p + 2)), .int (a 0 (p + 3)), .int (a 0 (p + 4)), .int (bI (!decide (a 0 (p + 5) = iN 0))), .int (bI (!decide (a 0 (p + 6) = iN 0))), .int (a 0 (p + 7))]) (A2 := [.ref 94, .int (a 0 (p + 1)), .int (a 0 (p + 2)), .int (a 0 (p + 3)), .int (a 0 (p + 4)), .int (bI (!decide (a 0 (p + 5) = iN 0))), .int (bI (!decide (a 0 (p + 6) = iN 0))), .int (a 0 (p + 7))]) 706 [(1, false), (2, false), (3, false), (4, false), (5, true), (6, true), (7, false)] (zmr (.invokevirtual 56) 3 1 102 7 825 0) (zmr (.invokevirtual 60) 3 1 230 7 1728 0) hp hn e1 e2 (by decide +kernel) (by decide +kernel) rfl rfl rfl rfl).trans (law_endL (pc := 820) (1411) (by decide +kernel) (by decide +kernel) (by decide +kernel)), σ, cl, cl', R, R', TL, TS, A', TR, h2, by omega⟩
theorem lw_point {n p A : Nat} {a : Nat → Nat → Int32} {b : Nat → Nat → Int64} {r : Nat → Nat → Option Nat} (hp : p + 9 ≤ n) (hn : n ≤ 4608) (hA : A ≤ 4608) (h : InvS a b r A) : ∃ (a2 : Nat → Nat → Int32) (b2 : Nat → Nat → Int64) (r2 : Nat → Nat → Option Nat), Den 61 0 826 (lgL (iN p)) [] (zmMk n a b r) = Den 61 0 18 (lgL (iN (p + 9))) [] (zmMk n a2 b2 r2) ∧ InvS a2 b2 r2 (A + 1) := by
  obtain ⟨σ, cl, cl', R, R', TL, TS, A', TR, hS, hA'⟩ := h
  obtain ⟨a1, b1, e1, h1⟩ := c_point (d := 18) (n := n) hS (v1 := a 0 (p + 1)) (v2 := a 0 (p + 2)) (s := (!decide (a 0 (p + 3) = iN 0))) (u := (!decide (a 0 (p + 4) = iN 0))) (v5 := a 0 (p + 5))
  obtain ⟨a2, b2, e2, h2⟩ := m_point (d := 18) (n := n) h1 (v1 := a 0 (p + 1)) (v2 := a 0 (p + 2)) (s := (!decide (a 0 (p + 3) = iN 0))) (u := (!decide (a 0 (p + 4) = iN 0))) (v5 := a 0 (p + 5))
  exact ⟨a2, b2, r, (law_case (pc1 := 868) (pc2 := 913) (A1 := [.ref 14, .int (a 0 (p + 1)), .int (a 0 (p + 2)), .int (bI (!decide (a 0 (p + 3) = iN 0))), .int (bI (!decide (a 0 (p + 4) = iN 0))), .int (a 0 (p + 5))]) (A2 := [.ref 94, .int (a 0 (p + 1)), .int (a 0 (p + 2)), .int (bI (!decide (a 0 (p + 3) = iN 0))), .int (bI (!decide (a 0 (p + 4) = iN 0))), .int (a 0 (p + 5))]) 826 [(1, false), (2, false), (3, true), (4, true), (5, false)] (zmr (.invokevirtual 61) 3 1 103 5 890 0) (zmr (.invokevirtual 65) 3 1 222 5 1720 0) hp hn e1 e2 (by decide +kernel) (by decide +kernel) rfl rfl rfl rfl).trans (law_endI (pc := 916) (1316) (by decide +kernel) (by decide +kernel)), σ, cl, cl', R, R', TL, TS, A', TR, h2, by omega⟩
theorem lw_more {n p A : Nat} {a : Nat → Nat → Int32} {b : Nat → Nat → Int64} {r : Nat → Nat → Option Nat} (hp : p + 9 ≤ n) (hn : n ≤ 4608) (hA : A ≤ 4608) (h : InvS a b r A) : ∃ (a2 : Nat → Nat → Int32) (b2 : Nat → Nat → Int64) (r2 : Nat → Nat → Option Nat), Den 61 0 921 (lgL (iN p)) [] (zmMk n a b r) = Den 61 0 18 (lgL (iN (p + 9))) [] (zmMk n a2 b2 r2) ∧ InvS a2 b2 r2 (A + 1) := by
  obtain ⟨σ, cl, cl', R, R', TL, TS, A', TR, hS, hA'⟩ := h
  obtain ⟨a1, b1, e1, h1⟩ := c_more (d := 19) (n := n) hS (v1 := a 0 (p + 1)) (v2 := a 0 (p + 2)) (s := (!decide (a 0 (p + 3) = iN 0))) (u := (!decide (a 0 (p + 4) = iN 0))) (v5 := a 0 (p + 5))
  obtain ⟨a2, b2, e2, h2⟩ := m_more (d := 19) (n := n) h1 (v1 := a 0 (p + 1)) (v2 := a 0 (p + 2)) (s := (!decide (a 0 (p + 3) = iN 0))) (u := (!decide (a 0 (p + 4) = iN 0))) (v5 := a 0 (p + 5))
  exact ⟨a2, b2, r, (law_case (pc1 := 963) (pc2 := 1008) (A1 := [.ref 14, .int (a 0 (p + 1)), .int (a 0 (p + 2)), .int (bI (!decide (a 0 (p + 3) = iN 0))), .int (bI (!decide (a 0 (p + 4) = iN 0))), .int (a 0 (p + 5))]) (A2 := [.ref 94, .int (a 0 (p + 1)), .int (a 0 (p + 2)), .int (bI (!decide (a 0 (p + 3) = iN 0))), .int (bI (!decide (a 0 (p + 4) = iN 0))), .int (a 0 (p + 5))]) 921 [(1, false), (2, false), (3, true), (4, true), (5, false)] (zmr (.invokevirtual 66) 3 1 104 5 894 0) (zmr (.invokevirtual 70) 3 1 223 5 1724 0) hp hn e1 e2 (by decide +kernel) (by decide +kernel) rfl rfl rfl rfl).trans (law_endL (pc := 1011) (1220) (by decide +kernel) (by decide +kernel) (by decide +kernel)), σ, cl, cl', R, R', TL, TS, A', TR, h2, by omega⟩
theorem lw_corner {n p A : Nat} {a : Nat → Nat → Int32} {b : Nat → Nat → Int64} {r : Nat → Nat → Option Nat} (hp : p + 9 ≤ n) (hn : n ≤ 4608) (hA : A ≤ 4608) (h : InvS a b r A) : ∃ (a2 : Nat → Nat → Int32) (b2 : Nat → Nat → Int64) (r2 : Nat → Nat → Option Nat), Den 61 0 1017 (lgL (iN p)) [] (zmMk n a b r) = Den 61 0 18 (lgL (iN (p + 9))) [] (zmMk n a2 b2 r2) ∧ InvS a2 b2 r2 (A + 1) := by
  obtain ⟨σ, cl, cl', R, R', TL, TS, A', TR, hS, hA'⟩ := h
  obtain ⟨a1, b1, e1, h1⟩ := c_corner (d := 26) (n := n) hS (v1 := a 0 (p + 1)) (v2 := a 0 (p + 2)) (v3 := a 0 (p + 3)) (v4 := a 0 (p + 4))
  obtain ⟨a2, b2, e2, h2⟩ := m_corner (d := 26) (n := n) h1 (v1 := a 0 (p + 1)) (v2 := a 0 (p + 2)) (v3 := a 0 (p + 3)) (v4 := a 0 (p + 4))
  exact ⟨a2, b2, r, (law_case (pc1 := 1038) (pc2 := 1062) (A1 := [.ref 14, .int (a 0 (p + 1)), .int (a 0 (p + 2)), .int (a 0 (p + 3)), .int (a 0 (p + 4))]) (A2 := [.ref 94, .int (a 0 (p + 1)), .int (a 0 (p + 2)), .int (a 0 (p + 3)), .int (a 0 (p + 4))]) 1017 [(1, false), (2, false), (3, false), (4, false)] (zmr (.invokevirtual 71) 3 1 105 4 906 0) (zmr (.invokevirtual 75) 3 1 238 4 1783 0) hp hn e1 e2 (by decide +kernel) (by decide +kernel) rfl rfl rfl rfl).trans (law_endL (pc := 1065) (1166) (by decide +kernel) (by decide +kernel) (by decide +kernel)), σ, cl, cl', R, R', TL, TS, A', TR, h2, by omega⟩
theorem lw_blind {n p A : Nat} {a : Nat → Nat → Int32} {b : Nat → Nat → Int64} {r : Nat → Nat → Option Nat} (hp : p + 9 ≤ n) (hn : n ≤ 4608) (hA : A ≤ 4608) (h : InvS a b r A) : ∃ (a2 : Nat → Nat → Int32) (b2 : Nat → Nat → Int64) (r2 : Nat → Nat → Option Nat), Den 61 0 1071 (lgL (iN p)) [] (zmMk n a b r) = Den 61 0 18 (lgL (iN (p + 9))) [] (zmMk n a2 b2 r2) ∧ InvS a2 b2 r2 (A + 1) := by
  obtain ⟨σ, cl, cl', R, R', TL, TS, A', TR, hS, hA'⟩ := h
  obtain ⟨a1, b1, e1, h1⟩ := c_blind (d := 19) (n := n) hS (by omega) (v1 := a 0 (p + 1)) (v2 := a 0 (p + 2)) (s := (!decide (a 0 (p + 3) = iN 0))) (u := (!decide (a 0 (p + 4) = iN 0))) (v5 := a 0 (p + 5))
  obtain ⟨a2, b2, e2, h2⟩ := m_blind (d := 19) (n := n) h1 (v1 := a 0 (p + 1)) (v2 := a 0 (p + 2)) (s := (!decide (a 0 (p + 3) = iN 0))) (u := (!decide (a 0 (p + 4) = iN 0))) (v5 := a 0 (p + 5))
  exact ⟨a2, b2, r, (law_case (pc1 := 1113) (pc2 := 1158) (A1 := [.ref 14, .int (a 0 (p + 1)), .int (a 0 (p + 2)), .int (bI (!decide (a 0 (p + 3) = iN 0))), .int (bI (!decide (a 0 (p + 4) = iN 0))), .int (a 0 (p + 5))]) (A2 := [.ref 94, .int (a 0 (p + 1)), .int (a 0 (p + 2)), .int (bI (!decide (a 0 (p + 3) = iN 0))), .int (bI (!decide (a 0 (p + 4) = iN 0))), .int (a 0 (p + 5))]) 1071 [(1, false), (2, false), (3, true), (4, true), (5, false)] (zmr (.invokevirtual 76) 3 1 106 5 916 0) (zmr (.invokevirtual 79) 3 1 234 5 1772 0) hp hn e1 e2 (by decide +kernel) (by decide +kernel) rfl rfl rfl rfl).trans (law_endL (pc := 1161) (1070) (by decide +kernel) (by decide +kernel) (by decide +kernel)), σ, cl, cl', R, R', TL, TS, A', TR, h2, by omega⟩
theorem lw_near {n p A : Nat} {a : Nat → Nat → Int32} {b : Nat → Nat → Int64} {r : Nat → Nat → Option Nat} (hp : p + 9 ≤ n) (hn : n ≤ 4608) (hA : A ≤ 4608) (h : InvS a b r A) : ∃ (a2 : Nat → Nat → Int32) (b2 : Nat → Nat → Int64) (r2 : Nat → Nat → Option Nat), Den 61 0 1167 (lgL (iN p)) [] (zmMk n a b r) = Den 61 0 18 (lgL (iN (p + 9))) [] (zmMk n a2 b2 r2) ∧ InvS a2 b2 r2 (A + 1) := by
  obtain ⟨σ, cl, cl', R, R', TL, TS, A', TR, hS, hA'⟩ := h
  obtain ⟨a1, b1, e1, h1⟩ := c_near (d := 42) (n := n) hS (v1 := a 0 (p + 1)) (v2 := a 0 (p + 2)) (v3 := a 0 (p + 3)) (s := (!decide (a 0 (p + 4) = iN 0))) (u := (!decide (a 0 (p + 5) = iN 0))) (v6 := a 0 (p + 6))
  obtain ⟨a2, b2, e2, h2⟩ := m_near (d := 42) (n := n) h1 (v1 := a 0 (p + 1)) (v2 := a 0 (p + 2)) (v3 := a 0 (p + 3)) (s := (!decide (a 0 (p + 4) = iN 0))) (u := (!decide (a 0 (p + 5) = iN 0))) (v6 := a 0 (p + 6))
  exact ⟨a2, b2, r, (law_case (pc1 := 1215) (pc2 := 1266) (A1 := [.ref 14, .int (a 0 (p + 1)), .int (a 0 (p + 2)), .int (a 0 (p + 3)), .int (bI (!decide (a 0 (p + 4) = iN 0))), .int (bI (!decide (a 0 (p + 5) = iN 0))), .int (a 0 (p + 6))]) (A2 := [.ref 94, .int (a 0 (p + 1)), .int (a 0 (p + 2)), .int (a 0 (p + 3)), .int (bI (!decide (a 0 (p + 4) = iN 0))), .int (bI (!decide (a 0 (p + 5) = iN 0))), .int (a 0 (p + 6))]) 1167 [(1, false), (2, false), (3, false), (4, true), (5, true), (6, false)] (zmr (.invokevirtual 80) 3 1 107 6 931 0) (zmr (.invokevirtual 83) 3 1 231 6 1761 0) hp hn e1 e2 (by decide +kernel) (by decide +kernel) rfl rfl rfl rfl).trans (law_endL (pc := 1269) (962) (by decide +kernel) (by decide +kernel) (by decide +kernel)), σ, cl, cl', R, R', TL, TS, A', TR, h2, by omega⟩
theorem lw_leaves {n p A : Nat} {a : Nat → Nat → Int32} {b : Nat → Nat → Int64} {r : Nat → Nat → Option Nat} (hp : p + 9 ≤ n) (hn : n ≤ 4608) (hA : A ≤ 4608) (h : InvS a b r A) : ∃ (a2 : Nat → Nat → Int32) (b2 : Nat → Nat → Int64) (r2 : Nat → Nat → Option Nat), Den 61 0 1275 (lgL (iN p)) [] (zmMk n a b r) = Den 61 0 18 (lgL (iN (p + 9))) [] (zmMk n a2 b2 r2) ∧ InvS a2 b2 r2 (A + 1) := by
  obtain ⟨σ, cl, cl', R, R', TL, TS, A', TR, hS, hA'⟩ := h
  obtain ⟨a1, b1, e1, h1⟩ := c_leaves (d := 48) (n := n) hS (v1 := a 0 (p + 1)) (v2 := a 0 (p + 2)) (v3 := a 0 (p + 3)) (s := (!decide (a 0 (p + 4) = iN 0))) (u := (!decide (a 0 (p + 5) = iN 0))) (v6 := a 0 (p + 6))
  obtain ⟨a2, b2, e2, h2⟩ := m_leaves (d := 48) (n := n) h1 (v1 := a 0 (p + 1)) (v2 := a 0 (p + 2)) (v3 := a 0 (p + 3)) (s := (!decide (a 0 (p + 4) = iN 0))) (u := (!decide (a 0 (p + 5) = iN 0))) (v6 := a 0 (p + 6))
  exact ⟨a2, b2, r, (law_case (pc1 := 1323) (pc2 := 1374) (A1 := [.ref 14, .int (a 0 (p + 1)), .int (a 0 (p + 2)), .int (a 0 (p + 3)), .int (bI (!decide (a 0 (p + 4) = iN 0))), .int (bI (!decide (a 0 (p + 5) = iN 0))), .int (a 0 (p + 6))]) (A2 := [.ref 94, .int (a 0 (p + 1)), .int (a 0 (p + 2)), .int (a 0 (p + 3)), .int (bI (!decide (a 0 (p + 4) = iN 0))), .int (bI (!decide (a 0 (p + 5) = iN 0))), .int (a 0 (p + 6))]) 1275 [(1, false), (2, false), (3, false), (4, true), (5, true), (6, false)] (zmr (.invokevirtual 84) 3 1 108 6 947 0) (zmr (.invokevirtual 87) 3 1 240 6 1799 0) hp hn e1 e2 (by decide +kernel) (by decide +kernel) rfl rfl rfl rfl).trans (law_endL (pc := 1377) (854) (by decide +kernel) (by decide +kernel) (by decide +kernel)), σ, cl, cl', R, R', TL, TS, A', TR, h2, by omega⟩
theorem lw_over {n p A : Nat} {a : Nat → Nat → Int32} {b : Nat → Nat → Int64} {r : Nat → Nat → Option Nat} (hp : p + 9 ≤ n) (hn : n ≤ 4608) (hA : A ≤ 4608) (h : InvS a b r A) : ∃ (a2 : Nat → Nat → Int32) (b2 : Nat → Nat → Int64) (r2 : Nat → Nat → Option Nat), Den 61 0 1383 (lgL (iN p)) [] (zmMk n a b r) = Den 61 0 18 (lgL (iN (p + 9))) [] (zmMk n a2 b2 r2) ∧ InvS a2 b2 r2 (A + 1) := by
  obtain ⟨σ, cl, cl', R, R', TL, TS, A', TR, hS, hA'⟩ := h
  obtain ⟨a1, b1, e1, h1⟩ := c_over (d := 46) (n := n) hS (v1 := a 0 (p + 1)) (v2 := a 0 (p + 2)) (v3 := a 0 (p + 3)) (v4 := a 0 (p + 4)) (v5 := a 0 (p + 5)) (s := (!decide (a 0 (p + 6) = iN 0))) (u := (!decide (a 0 (p + 7) = iN 0))) (v8 := a 0 (p + 8))
  obtain ⟨a2, b2, e2, h2⟩ := m_over (d := 46) (n := n) h1 (v1 := a 0 (p + 1)) (v2 := a 0 (p + 2)) (v3 := a 0 (p + 3)) (v4 := a 0 (p + 4)) (v5 := a 0 (p + 5)) (s := (!decide (a 0 (p + 6) = iN 0))) (u := (!decide (a 0 (p + 7) = iN 0))) (v8 := a 0 (p + 8))
  exact ⟨a2, b2, r, (law_case (pc1 := 1443) (pc2 := 1506) (A1 := [.ref 14, .int (a 0 (p + 1)), .int (a 0 (p + 2)), .int (a 0 (p + 3)), .int (a 0 (p + 4)), .int (a 0 (p + 5)), .int (bI (!decide (a 0 (p + 6) = iN 0))), .int (bI (!decide (a 0 (p + 7) = iN 0))), .int (a 0 (p + 8))]) (A2 := [.ref 94, .int (a 0 (p + 1)), .int (a 0 (p + 2)), .int (a 0 (p + 3)), .int (a 0 (p + 4)), .int (a 0 (p + 5)), .int (bI (!decide (a 0 (p + 6) = iN 0))), .int (bI (!decide (a 0 (p + 7) = iN 0))), .int (a 0 (p + 8))]) 1383 [(1, false), (2, false), (3, false), (4, false), (5, false), (6, true), (7, true), (8, false)] (zmr (.invokevirtual 88) 3 1 109 8 963 0) (zmr (.invokevirtual 92) 3 1 241 8 1807 0) hp hn e1 e2 (by decide +kernel) (by decide +kernel) rfl rfl rfl rfl).trans (law_endL (pc := 1509) (722) (by decide +kernel) (by decide +kernel) (by decide +kernel)), σ, cl, cl', R, R', TL, TS, A', TR, h2, by omega⟩
theorem lw_had {n p A : Nat} {a : Nat → Nat → Int32} {b : Nat → Nat → Int64} {r : Nat → Nat → Option Nat} (hp : p + 9 ≤ n) (hn : n ≤ 4608) (hA : A ≤ 4608) (h : InvS a b r A) : ∃ (a2 : Nat → Nat → Int32) (b2 : Nat → Nat → Int64) (r2 : Nat → Nat → Option Nat), Den 61 0 1515 (lgL (iN p)) [] (zmMk n a b r) = Den 61 0 18 (lgL (iN (p + 9))) [] (zmMk n a2 b2 r2) ∧ InvS a2 b2 r2 (A + 1) := by
  obtain ⟨σ, cl, cl', R, R', TL, TS, A', TR, hS, hA'⟩ := h
  obtain ⟨a1, b1, e1, h1⟩ := c_had (d := 44) (n := n) hS (v1 := a 0 (p + 1)) (v2 := a 0 (p + 2)) (v3 := a 0 (p + 3)) (v4 := a 0 (p + 4)) (v5 := a 0 (p + 5))
  obtain ⟨a2, b2, e2, h2⟩ := m_had (d := 44) (n := n) h1 (v1 := a 0 (p + 1)) (v2 := a 0 (p + 2)) (v3 := a 0 (p + 3)) (v4 := a 0 (p + 4)) (v5 := a 0 (p + 5))
  exact ⟨a2, b2, r, (law_case (pc1 := 1541) (pc2 := 1570) (A1 := [.ref 14, .int (a 0 (p + 1)), .int (a 0 (p + 2)), .int (a 0 (p + 3)), .int (a 0 (p + 4)), .int (a 0 (p + 5))]) (A2 := [.ref 94, .int (a 0 (p + 1)), .int (a 0 (p + 2)), .int (a 0 (p + 3)), .int (a 0 (p + 4)), .int (a 0 (p + 5))]) 1515 [(1, false), (2, false), (3, false), (4, false), (5, false)] (zmr (.invokevirtual 93) 3 1 110 5 974 0) (zmr (.invokevirtual 97) 3 1 242 5 1811 0) hp hn e1 e2 (by decide +kernel) (by decide +kernel) rfl rfl rfl rfl).trans (law_endL (pc := 1573) (658) (by decide +kernel) (by decide +kernel) (by decide +kernel)), σ, cl, cl', R, R', TL, TS, A', TR, h2, by omega⟩
theorem lw_line {n p A : Nat} {a : Nat → Nat → Int32} {b : Nat → Nat → Int64} {r : Nat → Nat → Option Nat} (hp : p + 9 ≤ n) (hn : n ≤ 4608) (hA : A ≤ 4608) (h : InvS a b r A) : ∃ (a2 : Nat → Nat → Int32) (b2 : Nat → Nat → Int64) (r2 : Nat → Nat → Option Nat), Den 61 0 1579 (lgL (iN p)) [] (zmMk n a b r) = Den 61 0 18 (lgL (iN (p + 9))) [] (zmMk n a2 b2 r2) ∧ InvS a2 b2 r2 (A + 1) := by
  obtain ⟨σ, cl, cl', R, R', TL, TS, A', TR, hS, hA'⟩ := h
  obtain ⟨v, a1, b1, r1, a2, b2, e1, e2, e3⟩ := p_line (d := 0) (n := n) hS (v1 := a 0 (p + 1)) (v2 := a 0 (p + 2)) (v3 := a 0 (p + 3)) (v4 := a 0 (p + 4)) (v5 := a 0 (p + 5))
  exact ⟨a2, b2, r1, (law_case (pc1 := 1605) (pc2 := 1634) (A1 := [.ref 14, .int (a 0 (p + 1)), .int (a 0 (p + 2)), .int (a 0 (p + 3)), .int (a 0 (p + 4)), .int (a 0 (p + 5))]) (A2 := [.ref 94, .int (a 0 (p + 1)), .int (a 0 (p + 2)), .int (a 0 (p + 3)), .int (a 0 (p + 4)), .int (a 0 (p + 5))]) 1579 [(1, false), (2, false), (3, false), (4, false), (5, false)] (zmr (.invokevirtual 98) 3 1 111 5 986 0) (zmr (.invokevirtual 102) 3 1 243 5 1816 0) hp hn e1 e2 (by decide +kernel) (by decide +kernel) rfl rfl rfl rfl).trans (law_endI (pc := 1637) (595) (by decide +kernel) (by decide +kernel)), e3.mono (by omega)⟩
theorem lw_which {n p A : Nat} {a : Nat → Nat → Int32} {b : Nat → Nat → Int64} {r : Nat → Nat → Option Nat} (hp : p + 9 ≤ n) (hn : n ≤ 4608) (hA : A ≤ 4608) (h : InvS a b r A) : ∃ (a2 : Nat → Nat → Int32) (b2 : Nat → Nat → Int64) (r2 : Nat → Nat → Option Nat), Den 61 0 1642 (lgL (iN p)) [] (zmMk n a b r) = Den 61 0 18 (lgL (iN (p + 9))) [] (zmMk n a2 b2 r2) ∧ InvS a2 b2 r2 (A + 1) := by
  obtain ⟨σ, cl, cl', R, R', TL, TS, A', TR, hS, hA'⟩ := h
  obtain ⟨a1, b1, e1, h1⟩ := c_which (d := 54) (n := n) hS (v1 := a 0 (p + 1)) (v2 := a 0 (p + 2)) (v3 := a 0 (p + 3)) (v4 := a 0 (p + 4)) (v5 := a 0 (p + 5))
  obtain ⟨a2, b2, e2, h2⟩ := m_which (d := 54) (n := n) h1 (v1 := a 0 (p + 1)) (v2 := a 0 (p + 2)) (v3 := a 0 (p + 3)) (v4 := a 0 (p + 4)) (v5 := a 0 (p + 5))
  exact ⟨a2, b2, r, (law_case (pc1 := 1668) (pc2 := 1697) (A1 := [.ref 14, .int (a 0 (p + 1)), .int (a 0 (p + 2)), .int (a 0 (p + 3)), .int (a 0 (p + 4)), .int (a 0 (p + 5))]) (A2 := [.ref 94, .int (a 0 (p + 1)), .int (a 0 (p + 2)), .int (a 0 (p + 3)), .int (a 0 (p + 4)), .int (a 0 (p + 5))]) 1642 [(1, false), (2, false), (3, false), (4, false), (5, false)] (zmr (.invokevirtual 103) 3 1 112 5 996 0) (zmr (.invokevirtual 106) 3 1 245 5 1821 0) hp hn e1 e2 (by decide +kernel) (by decide +kernel) rfl rfl rfl rfl).trans (law_endI (pc := 1700) (532) (by decide +kernel) (by decide +kernel)), σ, cl, cl', R, R', TL, TS, A', TR, h2, by omega⟩
theorem lw_runner {n p A : Nat} {a : Nat → Nat → Int32} {b : Nat → Nat → Int64} {r : Nat → Nat → Option Nat} (hp : p + 9 ≤ n) (hn : n ≤ 4608) (hA : A ≤ 4608) (h : InvS a b r A) : ∃ (a2 : Nat → Nat → Int32) (b2 : Nat → Nat → Int64) (r2 : Nat → Nat → Option Nat), Den 61 0 1705 (lgL (iN p)) [] (zmMk n a b r) = Den 61 0 18 (lgL (iN (p + 9))) [] (zmMk n a2 b2 r2) ∧ InvS a2 b2 r2 (A + 1) := by
  obtain ⟨σ, cl, cl', R, R', TL, TS, A', TR, hS, hA'⟩ := h
  obtain ⟨v, a1, b1, r1, a2, b2, e1, e2, e3⟩ := p_runner (d := 0) (n := n) hS (v1 := a 0 (p + 1)) (v2 := a 0 (p + 2)) (v3 := a 0 (p + 3)) (v4 := a 0 (p + 4))
  exact ⟨a2, b2, r1, (law_case (pc1 := 1726) (pc2 := 1750) (A1 := [.ref 14, .int (a 0 (p + 1)), .int (a 0 (p + 2)), .int (a 0 (p + 3)), .int (a 0 (p + 4))]) (A2 := [.ref 94, .int (a 0 (p + 1)), .int (a 0 (p + 2)), .int (a 0 (p + 3)), .int (a 0 (p + 4))]) 1705 [(1, false), (2, false), (3, false), (4, false)] (zmr (.invokevirtual 107) 3 1 113 4 1011 0) (zmr (.invokevirtual 111) 3 1 246 4 1832 0) hp hn e1 e2 (by decide +kernel) (by decide +kernel) rfl rfl rfl rfl).trans (law_endI (pc := 1753) (479) (by decide +kernel) (by decide +kernel)), e3.mono (by omega)⟩
theorem lw_wait {n p A : Nat} {a : Nat → Nat → Int32} {b : Nat → Nat → Int64} {r : Nat → Nat → Option Nat} (hp : p + 9 ≤ n) (hn : n ≤ 4608) (hA : A ≤ 4608) (h : InvS a b r A) : ∃ (a2 : Nat → Nat → Int32) (b2 : Nat → Nat → Int64) (r2 : Nat → Nat → Option Nat), Den 61 0 1758 (lgL (iN p)) [] (zmMk n a b r) = Den 61 0 18 (lgL (iN (p + 9))) [] (zmMk n a2 b2 r2) ∧ InvS a2 b2 r2 (A + 1) := by
  obtain ⟨σ, cl, cl', R, R', TL, TS, A', TR, hS, hA'⟩ := h
  obtain ⟨a1, b1, e1, h1⟩ := c_wait (d := 55) (n := n) hS (v1 := a 0 (p + 1)) (v2 := a 0 (p + 2))
  obtain ⟨a2, b2, e2, h2⟩ := m_wait (d := 55) (n := n) h1 (v1 := a 0 (p + 1)) (v2 := a 0 (p + 2))
  exact ⟨a2, b2, r, (law_case (pc1 := 1769) (pc2 := 1783) (A1 := [.ref 14, .int (a 0 (p + 1)), .int (a 0 (p + 2))]) (A2 := [.ref 94, .int (a 0 (p + 1)), .int (a 0 (p + 2))]) 1758 [(1, false), (2, false)] (zmr (.invokevirtual 112) 3 1 114 2 1019 0) (zmr (.invokevirtual 115) 3 1 248 2 1836 0) hp hn e1 e2 (by decide +kernel) (by decide +kernel) rfl rfl rfl rfl).trans (law_endI (pc := 1786) (446) (by decide +kernel) (by decide +kernel)), σ, cl, cl', R, R', TL, TS, A', TR, h2, by omega⟩
theorem lw_three {n p A : Nat} {a : Nat → Nat → Int32} {b : Nat → Nat → Int64} {r : Nat → Nat → Option Nat} (hp : p + 9 ≤ n) (hn : n ≤ 4608) (hA : A ≤ 4608) (h : InvS a b r A) : ∃ (a2 : Nat → Nat → Int32) (b2 : Nat → Nat → Int64) (r2 : Nat → Nat → Option Nat), Den 61 0 1791 (lgL (iN p)) [] (zmMk n a b r) = Den 61 0 18 (lgL (iN (p + 9))) [] (zmMk n a2 b2 r2) ∧ InvS a2 b2 r2 (A + 1) := by
  obtain ⟨σ, cl, cl', R, R', TL, TS, A', TR, hS, hA'⟩ := h
  obtain ⟨a1, b1, e1, h1⟩ := c_three (d := 55) (n := n) hS (v1 := a 0 (p + 1)) (v2 := a 0 (p + 2)) (v3 := a 0 (p + 3)) (v4 := a 0 (p + 4))
  obtain ⟨a2, b2, e2, h2⟩ := m_three (d := 55) (n := n) h1 (v1 := a 0 (p + 1)) (v2 := a 0 (p + 2)) (v3 := a 0 (p + 3)) (v4 := a 0 (p + 4))
  exact ⟨a2, b2, r, (law_case (pc1 := 1812) (pc2 := 1836) (A1 := [.ref 14, .int (a 0 (p + 1)), .int (a 0 (p + 2)), .int (a 0 (p + 3)), .int (a 0 (p + 4))]) (A2 := [.ref 94, .int (a 0 (p + 1)), .int (a 0 (p + 2)), .int (a 0 (p + 3)), .int (a 0 (p + 4))]) 1791 [(1, false), (2, false), (3, false), (4, false)] (zmr (.invokevirtual 116) 3 1 115 4 1033 0) (zmr (.invokevirtual 120) 3 1 250 4 1845 0) hp hn e1 e2 (by decide +kernel) (by decide +kernel) rfl rfl rfl rfl).trans (law_endI (pc := 1839) (393) (by decide +kernel) (by decide +kernel)), σ, cl, cl', R, R', TL, TS, A', TR, h2, by omega⟩
theorem lw_drawn {n p A : Nat} {a : Nat → Nat → Int32} {b : Nat → Nat → Int64} {r : Nat → Nat → Option Nat} (hp : p + 9 ≤ n) (hn : n ≤ 4608) (hA : A ≤ 4608) (h : InvS a b r A) : ∃ (a2 : Nat → Nat → Int32) (b2 : Nat → Nat → Int64) (r2 : Nat → Nat → Option Nat), Den 61 0 1844 (lgL (iN p)) [] (zmMk n a b r) = Den 61 0 18 (lgL (iN (p + 9))) [] (zmMk n a2 b2 r2) ∧ InvS a2 b2 r2 (A + 1) := by
  obtain ⟨σ, cl, cl', R, R', TL, TS, A', TR, hS, hA'⟩ := h
  obtain ⟨v, a1, b1, r1, a2, b2, e1, e2, e3⟩ := p_drawn (d := 0) (n := n) hS (v1 := a 0 (p + 1)) (v2 := a 0 (p + 2)) (v3 := a 0 (p + 3)) (s := (!decide (a 0 (p + 4) = iN 0))) (u := (!decide (a 0 (p + 5) = iN 0)))
  exact ⟨a2, b2, r1, (law_case (pc1 := 1886) (pc2 := 1931) (A1 := [.ref 14, .int (a 0 (p + 1)), .int (a 0 (p + 2)), .int (a 0 (p + 3)), .int (bI (!decide (a 0 (p + 4) = iN 0))), .int (bI (!decide (a 0 (p + 5) = iN 0)))]) (A2 := [.ref 94, .int (a 0 (p + 1)), .int (a 0 (p + 2)), .int (a 0 (p + 3)), .int (bI (!decide (a 0 (p + 4) = iN 0))), .int (bI (!decide (a 0 (p + 5) = iN 0)))]) 1844 [(1, false), (2, false), (3, false), (4, true), (5, true)] (zmr (.invokevirtual 121) 3 1 116 5 1049 0) (zmr (.invokevirtual 125) 3 1 253 5 1852 0) hp hn e1 e2 (by decide +kernel) (by decide +kernel) rfl rfl rfl rfl).trans (law_endI (pc := 1934) (298) (by decide +kernel) (by decide +kernel)), e3.mono (by omega)⟩
theorem lw_log {n p A : Nat} {a : Nat → Nat → Int32} {b : Nat → Nat → Int64} {r : Nat → Nat → Option Nat} (hp : p + 9 ≤ n) (hn : n ≤ 4608) (hA : A ≤ 4608) (h : InvS a b r A) : ∃ (a2 : Nat → Nat → Int32) (b2 : Nat → Nat → Int64) (r2 : Nat → Nat → Option Nat), Den 61 0 1939 (lgL (iN p)) [] (zmMk n a b r) = Den 61 0 18 (lgL (iN (p + 9))) [] (zmMk n a2 b2 r2) ∧ InvS a2 b2 r2 (A + 1) := by
  obtain ⟨σ, cl, cl', R, R', TL, TS, A', TR, hS, hA'⟩ := h
  exact ⟨a, b, r, (law_case (pc1 := 1945) (pc2 := 1954) (A1 := [.ref 14, .int (a 0 (p + 1))]) (A2 := [.ref 94, .int (a 0 (p + 1))]) 1939 [(1, false)] (zmr (.invokevirtual 126) 3 1 117 1 1080 0) (zmr (.invokevirtual 129) 3 1 254 1 1865 0) hp hn (c_log (d := 57) hS) (m_logS (d := 57) hS) (by decide +kernel) (by decide +kernel) rfl rfl rfl rfl).trans (law_endI (pc := 1957) (275) (by decide +kernel) (by decide +kernel)), σ, cl, cl', R, R', TL, TS, A', TR, hS, by omega⟩
theorem lw_wrongQ {n p A : Nat} {a : Nat → Nat → Int32} {b : Nat → Nat → Int64} {r : Nat → Nat → Option Nat} (hp : p + 9 ≤ n) (hn : n ≤ 4608) (hA : A ≤ 4608) (h : InvS a b r A) : ∃ (a2 : Nat → Nat → Int32) (b2 : Nat → Nat → Int64) (r2 : Nat → Nat → Option Nat), Den 61 0 1962 (lgL (iN p)) [] (zmMk n a b r) = Den 61 0 18 (lgL (iN (p + 9))) [] (zmMk n a2 b2 r2) ∧ InvS a2 b2 r2 (A + 1) := by
  obtain ⟨σ, cl, cl', R, R', TL, TS, A', TR, hS, hA'⟩ := h
  obtain ⟨a1, b1, e1, h1⟩ := c_wrongQ (d := 19) (n := n) hS (v1 := a 0 (p + 1)) (v2 := a 0 (p + 2))
  obtain ⟨a2, b2, e2, h2⟩ := m_wrongQ (d := 19) (n := n) h1 (v1 := a 0 (p + 1)) (v2 := a 0 (p + 2))
  exact ⟨a2, b2, r, (law_case (pc1 := 1973) (pc2 := 1987) (A1 := [.ref 14, .int (a 0 (p + 1)), .int (a 0 (p + 2))]) (A2 := [.ref 94, .int (a 0 (p + 1)), .int (a 0 (p + 2))]) 1962 [(1, false), (2, false)] (zmr (.invokevirtual 130) 3 1 118 2 1093 0) (zmr (.invokevirtual 134) 3 1 256 2 1869 0) hp hn e1 e2 (by decide +kernel) (by decide +kernel) rfl rfl rfl rfl).trans (law_endL (pc := 1990) (241) (by decide +kernel) (by decide +kernel) (by decide +kernel)), σ, cl, cl', R, R', TL, TS, A', TR, h2, by omega⟩
theorem lw_tries {n p A : Nat} {a : Nat → Nat → Int32} {b : Nat → Nat → Int64} {r : Nat → Nat → Option Nat} (hp : p + 9 ≤ n) (hn : n ≤ 4608) (hA : A ≤ 4608) (h : InvS a b r A) : ∃ (a2 : Nat → Nat → Int32) (b2 : Nat → Nat → Int64) (r2 : Nat → Nat → Option Nat), Den 61 0 1996 (lgL (iN p)) [] (zmMk n a b r) = Den 61 0 18 (lgL (iN (p + 9))) [] (zmMk n a2 b2 r2) ∧ InvS a2 b2 r2 (A + 1) := by
  obtain ⟨σ, cl, cl', R, R', TL, TS, A', TR, hS, hA'⟩ := h
  obtain ⟨v, a1, b1, r1, a2, b2, e1, e2, e3⟩ := p_tries (d := 0) (n := n) hS (s := (!decide (a 0 (p + 1) = iN 0))) (u := (!decide (a 0 (p + 2) = iN 0)))
  exact ⟨a2, b2, r1, (law_case (pc1 := 2023) (pc2 := 2053) (A1 := [.ref 14, .int (bI (!decide (a 0 (p + 1) = iN 0))), .int (bI (!decide (a 0 (p + 2) = iN 0)))]) (A2 := [.ref 94, .int (bI (!decide (a 0 (p + 1) = iN 0))), .int (bI (!decide (a 0 (p + 2) = iN 0)))]) 1996 [(1, true), (2, true)] (zmr (.invokevirtual 135) 3 1 119 2 1105 0) (zmr (.invokevirtual 139) 3 1 257 2 1877 0) hp hn e1 e2 (by decide +kernel) (by decide +kernel) rfl rfl rfl rfl).trans (law_endI (pc := 2056) (176) (by decide +kernel) (by decide +kernel)), e3.mono (by omega)⟩
theorem lw_book {n p A : Nat} {a : Nat → Nat → Int32} {b : Nat → Nat → Int64} {r : Nat → Nat → Option Nat} (hp : p + 9 ≤ n) (hn : n ≤ 4608) (hA : A ≤ 4608) (h : InvS a b r A) : ∃ (a2 : Nat → Nat → Int32) (b2 : Nat → Nat → Int64) (r2 : Nat → Nat → Option Nat), Den 61 0 2061 (lgL (iN p)) [] (zmMk n a b r) = Den 61 0 18 (lgL (iN (p + 9))) [] (zmMk n a2 b2 r2) ∧ InvS a2 b2 r2 (A + 1) := by
  obtain ⟨σ, cl, cl', R, R', TL, TS, A', TR, hS, hA'⟩ := h
  obtain ⟨a1, b1, e1, h1⟩ := c_book (d := 57) (n := n) hS (v1 := a 0 (p + 1))
  obtain ⟨a2, b2, e2, h2⟩ := m_book (d := 57) (n := n) h1 (v1 := a 0 (p + 1))
  exact ⟨a2, b2, r, (law_case (pc1 := 2067) (pc2 := 2076) (A1 := [.ref 14, .int (a 0 (p + 1))]) (A2 := [.ref 94, .int (a 0 (p + 1))]) 2061 [(1, false)] (zmr (.invokevirtual 140) 3 1 120 1 1117 0) (zmr (.invokevirtual 143) 3 1 258 1 1881 0) hp hn e1 e2 (by decide +kernel) (by decide +kernel) rfl rfl rfl rfl).trans (law_endI (pc := 2079) (153) (by decide +kernel) (by decide +kernel)), σ, cl, cl', R, R', TL, TS, A', TR, h2, by omega⟩
theorem lw_fits {n p A : Nat} {a : Nat → Nat → Int32} {b : Nat → Nat → Int64} {r : Nat → Nat → Option Nat} (hp : p + 9 ≤ n) (hn : n ≤ 4608) (hA : A ≤ 4608) (h : InvS a b r A) : ∃ (a2 : Nat → Nat → Int32) (b2 : Nat → Nat → Int64) (r2 : Nat → Nat → Option Nat), Den 61 0 2084 (lgL (iN p)) [] (zmMk n a b r) = Den 61 0 18 (lgL (iN (p + 9))) [] (zmMk n a2 b2 r2) ∧ InvS a2 b2 r2 (A + 1) := by
  obtain ⟨σ, cl, cl', R, R', TL, TS, A', TR, hS, hA'⟩ := h
  obtain ⟨a1, b1, e1, h1⟩ := c_fits (d := 52) (n := n) hS (v1 := a 0 (p + 1)) (v2 := a 0 (p + 2)) (v3 := a 0 (p + 3)) (v4 := a 0 (p + 4))
  obtain ⟨a2, b2, e2, h2⟩ := m_fits (d := 52) (n := n) h1 (v1 := a 0 (p + 1)) (v2 := a 0 (p + 2)) (v3 := a 0 (p + 3)) (v4 := a 0 (p + 4))
  exact ⟨a2, b2, r, (law_case (pc1 := 2105) (pc2 := 2129) (A1 := [.ref 14, .int (a 0 (p + 1)), .int (a 0 (p + 2)), .int (a 0 (p + 3)), .int (a 0 (p + 4))]) (A2 := [.ref 94, .int (a 0 (p + 1)), .int (a 0 (p + 2)), .int (a 0 (p + 3)), .int (a 0 (p + 4))]) 2084 [(1, false), (2, false), (3, false), (4, false)] (zmr (.invokevirtual 144) 3 1 121 4 1121 0) (zmr (.invokevirtual 147) 3 1 261 4 1885 0) hp hn e1 e2 (by decide +kernel) (by decide +kernel) rfl rfl rfl rfl).trans (law_endI (pc := 2132) (100) (by decide +kernel) (by decide +kernel)), σ, cl, cl', R, R', TL, TS, A', TR, h2, by omega⟩
theorem lw_seed {n p A : Nat} {a : Nat → Nat → Int32} {b : Nat → Nat → Int64} {r : Nat → Nat → Option Nat} (hp : p + 9 ≤ n) (hn : n ≤ 4608) (hA : A ≤ 4608) (h : InvS a b r A) : ∃ (a2 : Nat → Nat → Int32) (b2 : Nat → Nat → Int64) (r2 : Nat → Nat → Option Nat), Den 61 0 2137 (lgL (iN p)) [] (zmMk n a b r) = Den 61 0 18 (lgL (iN (p + 9))) [] (zmMk n a2 b2 r2) ∧ InvS a2 b2 r2 (A + 1) := by
  obtain ⟨σ, cl, cl', R, R', TL, TS, A', TR, hS, hA'⟩ := h
  obtain ⟨v, a1, b1, r1, a2, b2, e1, e2, e3⟩ := p_seed (d := 0) (n := n) hS (v1 := a 0 (p + 1))
  exact ⟨a2, b2, r1, (law_case (pc1 := 2143) (pc2 := 2152) (A1 := [.ref 14, .int (a 0 (p + 1))]) (A2 := [.ref 94, .int (a 0 (p + 1))]) 2137 [(1, false)] (zmr (.invokevirtual 148) 3 1 122 1 1141 0) (zmr (.invokevirtual 151) 3 1 262 1 1896 0) hp hn e1 e2 (by decide +kernel) (by decide +kernel) rfl rfl rfl rfl).trans (law_endI (pc := 2155) (77) (by decide +kernel) (by decide +kernel)), e3.mono (by omega)⟩
theorem lw_keep {n p A : Nat} {a : Nat → Nat → Int32} {b : Nat → Nat → Int64} {r : Nat → Nat → Option Nat} (hp : p + 9 ≤ n) (hn : n ≤ 4608) (hA : A ≤ 4608) (h : InvS a b r A) : ∃ (a2 : Nat → Nat → Int32) (b2 : Nat → Nat → Int64) (r2 : Nat → Nat → Option Nat), Den 61 0 2160 (lgL (iN p)) [] (zmMk n a b r) = Den 61 0 18 (lgL (iN (p + 9))) [] (zmMk n a2 b2 r2) ∧ InvS a2 b2 r2 (A + 1) := by
  obtain ⟨σ, cl, cl', R, R', TL, TS, A', TR, hS, hA'⟩ := h
  obtain ⟨v, a1, b1, r1, a2, b2, e1, e2, e3⟩ := p_keep (d := 0) (n := n) hS 
  exact ⟨a2, b2, r1, (law_case (pc1 := 2161) (pc2 := 2165) (A1 := [.ref 14]) (A2 := [.ref 94]) 2160 [] (zmr (.invokevirtual 152) 3 1 123 0 1146 0) (zmr (.invokevirtual 156) 3 1 264 0 1901 0) hp hn e1 e2 (by decide +kernel) (by decide +kernel) rfl rfl rfl rfl).trans (law_endI (pc := 2168) (64) (by decide +kernel) (by decide +kernel)), e3.mono (by omega)⟩
theorem lw_undo {n p A : Nat} {a : Nat → Nat → Int32} {b : Nat → Nat → Int64} {r : Nat → Nat → Option Nat} (hp : p + 9 ≤ n) (hn : n ≤ 4608) (hA : A ≤ 4608) (h : InvS a b r A) : ∃ (a2 : Nat → Nat → Int32) (b2 : Nat → Nat → Int64) (r2 : Nat → Nat → Option Nat), Den 61 0 2173 (lgL (iN p)) [] (zmMk n a b r) = Den 61 0 18 (lgL (iN (p + 9))) [] (zmMk n a2 b2 r2) ∧ InvS a2 b2 r2 (A + 1) := by
  obtain ⟨σ, cl, cl', R, R', TL, TS, A', TR, hS, hA'⟩ := h
  obtain ⟨v, a1, b1, r1, a2, b2, e1, e2, e3⟩ := p_undo (d := 0) (n := n) hS (by omega) 
  exact ⟨a2, b2, r1, (law_case (pc1 := 2174) (pc2 := 2178) (A1 := [.ref 14]) (A2 := [.ref 94]) 2173 [] (zmr (.invokevirtual 157) 3 1 124 0 1157 0) (zmr (.invokevirtual 161) 3 1 265 0 1908 0) hp hn e1 e2 (by decide +kernel) (by decide +kernel) rfl rfl rfl rfl).trans (law_endI (pc := 2181) (51) (by decide +kernel) (by decide +kernel)), e3.mono (by omega)⟩
theorem lw_check {n p A : Nat} {a : Nat → Nat → Int32} {b : Nat → Nat → Int64} {r : Nat → Nat → Option Nat} (hp : p + 9 ≤ n) (hn : n ≤ 4608) (hA : A ≤ 4608) (h : InvS a b r A) : ∃ (a2 : Nat → Nat → Int32) (b2 : Nat → Nat → Int64) (r2 : Nat → Nat → Option Nat), Den 61 0 2186 (lgL (iN p)) [] (zmMk n a b r) = Den 61 0 18 (lgL (iN (p + 9))) [] (zmMk n a2 b2 r2) ∧ InvS a2 b2 r2 (A + 1) := by
  obtain ⟨σ, cl, cl', R, R', TL, TS, A', TR, hS, hA'⟩ := h
  obtain ⟨v, a1, b1, r1, a2, b2, e1, e2, e3⟩ := p_check (d := 0) (n := n) hS (v1 := a 0 (p + 1))
  exact ⟨a2, b2, r1, (law_case (pc1 := 2192) (pc2 := 2201) (A1 := [.ref 14, .int (a 0 (p + 1))]) (A2 := [.ref 94, .int (a 0 (p + 1))]) 2186 [(1, false)] (zmr (.invokevirtual 162) 3 1 125 1 1161 0) (zmr (.invokevirtual 165) 3 1 267 1 1912 0) hp hn e1 e2 (by decide +kernel) (by decide +kernel) rfl rfl rfl rfl).trans (law_endI (pc := 2204) (28) (by decide +kernel) (by decide +kernel)), e3.mono (by omega)⟩
theorem lw_count {n p A : Nat} {a : Nat → Nat → Int32} {b : Nat → Nat → Int64} {r : Nat → Nat → Option Nat} (hp : p + 9 ≤ n) (hn : n ≤ 4608) (hA : A ≤ 4608) (h : InvS a b r A) : ∃ (a2 : Nat → Nat → Int32) (b2 : Nat → Nat → Int64) (r2 : Nat → Nat → Option Nat), Den 61 0 2209 (lgL (iN p)) [] (zmMk n a b r) = Den 61 0 18 (lgL (iN (p + 9))) [] (zmMk n a2 b2 r2) ∧ InvS a2 b2 r2 (A + 1) := by
  obtain ⟨σ, cl, cl', R, R', TL, TS, A', TR, hS, hA'⟩ := h
  obtain ⟨a1, b1, e1, h1⟩ := c_count (d := 57) (n := n) hS (v1 := a 0 (p + 1))
  obtain ⟨a2, b2, e2, h2⟩ := m_count (d := 57) (n := n) h1 (v1 := a 0 (p + 1))
  exact ⟨a2, b2, r, (law_case (pc1 := 2215) (pc2 := 2224) (A1 := [.ref 14, .int (a 0 (p + 1))]) (A2 := [.ref 94, .int (a 0 (p + 1))]) 2209 [(1, false)] (zmr (.invokevirtual 166) 3 1 126 1 1170 0) (zmr (.invokevirtual 169) 3 1 268 1 1920 0) hp hn e1 e2 (by decide +kernel) (by decide +kernel) rfl rfl rfl rfl).trans (law_endI (pc := 2227) (5) (by decide +kernel) (by decide +kernel)), σ, cl, cl', R, R', TL, TS, A', TR, h2, by omega⟩
theorem law_sw {n p A : Nat} {a : Nat → Nat → Int32} {b : Nat → Nat → Int64} {r : Nat → Nat → Option Nat} (hp : p + 9 ≤ n) (hn : n ≤ 4608) (hA : A ≤ 4608) (h : InvS a b r A) : ∀ q, q < 64 → ∃ (a2 : Nat → Nat → Int32) (b2 : Nat → Nat → Int64) (r2 : Nat → Nat → Option Nat), Den 61 0 (zmTs 33 2199 0 33 #[151, 174, 237, 260, 283, 306, 339, 446, 565, 673, 793, 888, 984, 1038, 1134, 1242, 1350, 1482, 1546, 1609, 1672, 1725, 1758, 1811, 1906, 1929, 1963, 2028, 2051, 2104, 2127, 2140, 2153, 2176] (iN q)) (lgL (iN p)) [] (zmMk n a b r) = Den 61 0 18 (lgL (iN (p + 9))) [] (zmMk n a2 b2 r2) ∧ InvS a2 b2 r2 (A + 1)
  | 0, _ => by
    rw [show zmTs 33 2199 0 33 #[151, 174, 237, 260, 283, 306, 339, 446, 565, 673, 793, 888, 984, 1038, 1134, 1242, 1350, 1482, 1546, 1609, 1672, 1725, 1758, 1811, 1906, 1929, 1963, 2028, 2051, 2104, 2127, 2140, 2153, 2176] (iN 0) = 184 by decide +kernel]
    exact lw_steps hp hn hA h
  | 1, _ => by
    rw [show zmTs 33 2199 0 33 #[151, 174, 237, 260, 283, 306, 339, 446, 565, 673, 793, 888, 984, 1038, 1134, 1242, 1350, 1482, 1546, 1609, 1672, 1725, 1758, 1811, 1906, 1929, 1963, 2028, 2051, 2104, 2127, 2140, 2153, 2176] (iN 1) = 207 by decide +kernel]
    exact lw_feed hp hn hA h
  | 2, _ => by
    rw [show zmTs 33 2199 0 33 #[151, 174, 237, 260, 283, 306, 339, 446, 565, 673, 793, 888, 984, 1038, 1134, 1242, 1350, 1482, 1546, 1609, 1672, 1725, 1758, 1811, 1906, 1929, 1963, 2028, 2051, 2104, 2127, 2140, 2153, 2176] (iN 2) = 270 by decide +kernel]
    exact lw_street hp hn hA h
  | 3, _ => by
    rw [show zmTs 33 2199 0 33 #[151, 174, 237, 260, 283, 306, 339, 446, 565, 673, 793, 888, 984, 1038, 1134, 1242, 1350, 1482, 1546, 1609, 1672, 1725, 1758, 1811, 1906, 1929, 1963, 2028, 2051, 2104, 2127, 2140, 2153, 2176] (iN 3) = 293 by decide +kernel]
    exact lw_queue hp hn hA h
  | 4, _ => by
    rw [show zmTs 33 2199 0 33 #[151, 174, 237, 260, 283, 306, 339, 446, 565, 673, 793, 888, 984, 1038, 1134, 1242, 1350, 1482, 1546, 1609, 1672, 1725, 1758, 1811, 1906, 1929, 1963, 2028, 2051, 2104, 2127, 2140, 2153, 2176] (iN 4) = 316 by decide +kernel]
    exact lw_law hp hn hA h
  | 5, _ => by
    rw [show zmTs 33 2199 0 33 #[151, 174, 237, 260, 283, 306, 339, 446, 565, 673, 793, 888, 984, 1038, 1134, 1242, 1350, 1482, 1546, 1609, 1672, 1725, 1758, 1811, 1906, 1929, 1963, 2028, 2051, 2104, 2127, 2140, 2153, 2176] (iN 5) = 339 by decide +kernel]
    exact lw_rule hp hn hA h
  | 6, _ => by
    rw [show zmTs 33 2199 0 33 #[151, 174, 237, 260, 283, 306, 339, 446, 565, 673, 793, 888, 984, 1038, 1134, 1242, 1350, 1482, 1546, 1609, 1672, 1725, 1758, 1811, 1906, 1929, 1963, 2028, 2051, 2104, 2127, 2140, 2153, 2176] (iN 6) = 372 by decide +kernel]
    exact lw_may hp hn hA h
  | 7, _ => by
    rw [show zmTs 33 2199 0 33 #[151, 174, 237, 260, 283, 306, 339, 446, 565, 673, 793, 888, 984, 1038, 1134, 1242, 1350, 1482, 1546, 1609, 1672, 1725, 1758, 1811, 1906, 1929, 1963, 2028, 2051, 2104, 2127, 2140, 2153, 2176] (iN 7) = 479 by decide +kernel]
    exact lw_after hp hn hA h
  | 8, _ => by
    rw [show zmTs 33 2199 0 33 #[151, 174, 237, 260, 283, 306, 339, 446, 565, 673, 793, 888, 984, 1038, 1134, 1242, 1350, 1482, 1546, 1609, 1672, 1725, 1758, 1811, 1906, 1929, 1963, 2028, 2051, 2104, 2127, 2140, 2153, 2176] (iN 8) = 598 by decide +kernel]
    exact lw_best hp hn hA h
  | 9, _ => by
    rw [show zmTs 33 2199 0 33 #[151, 174, 237, 260, 283, 306, 339, 446, 565, 673, 793, 888, 984, 1038, 1134, 1242, 1350, 1482, 1546, 1609, 1672, 1725, 1758, 1811, 1906, 1929, 1963, 2028, 2051, 2104, 2127, 2140, 2153, 2176] (iN 9) = 706 by decide +kernel]
    exact lw_by hp hn hA h
  | 10, _ => by
    rw [show zmTs 33 2199 0 33 #[151, 174, 237, 260, 283, 306, 339, 446, 565, 673, 793, 888, 984, 1038, 1134, 1242, 1350, 1482, 1546, 1609, 1672, 1725, 1758, 1811, 1906, 1929, 1963, 2028, 2051, 2104, 2127, 2140, 2153, 2176] (iN 10) = 826 by decide +kernel]
    exact lw_point hp hn hA h
  | 11, _ => by
    rw [show zmTs 33 2199 0 33 #[151, 174, 237, 260, 283, 306, 339, 446, 565, 673, 793, 888, 984, 1038, 1134, 1242, 1350, 1482, 1546, 1609, 1672, 1725, 1758, 1811, 1906, 1929, 1963, 2028, 2051, 2104, 2127, 2140, 2153, 2176] (iN 11) = 921 by decide +kernel]
    exact lw_more hp hn hA h
  | 12, _ => by
    rw [show zmTs 33 2199 0 33 #[151, 174, 237, 260, 283, 306, 339, 446, 565, 673, 793, 888, 984, 1038, 1134, 1242, 1350, 1482, 1546, 1609, 1672, 1725, 1758, 1811, 1906, 1929, 1963, 2028, 2051, 2104, 2127, 2140, 2153, 2176] (iN 12) = 1017 by decide +kernel]
    exact lw_corner hp hn hA h
  | 13, _ => by
    rw [show zmTs 33 2199 0 33 #[151, 174, 237, 260, 283, 306, 339, 446, 565, 673, 793, 888, 984, 1038, 1134, 1242, 1350, 1482, 1546, 1609, 1672, 1725, 1758, 1811, 1906, 1929, 1963, 2028, 2051, 2104, 2127, 2140, 2153, 2176] (iN 13) = 1071 by decide +kernel]
    exact lw_blind hp hn hA h
  | 14, _ => by
    rw [show zmTs 33 2199 0 33 #[151, 174, 237, 260, 283, 306, 339, 446, 565, 673, 793, 888, 984, 1038, 1134, 1242, 1350, 1482, 1546, 1609, 1672, 1725, 1758, 1811, 1906, 1929, 1963, 2028, 2051, 2104, 2127, 2140, 2153, 2176] (iN 14) = 1167 by decide +kernel]
    exact lw_near hp hn hA h
  | 15, _ => by
    rw [show zmTs 33 2199 0 33 #[151, 174, 237, 260, 283, 306, 339, 446, 565, 673, 793, 888, 984, 1038, 1134, 1242, 1350, 1482, 1546, 1609, 1672, 1725, 1758, 1811, 1906, 1929, 1963, 2028, 2051, 2104, 2127, 2140, 2153, 2176] (iN 15) = 1275 by decide +kernel]
    exact lw_leaves hp hn hA h
  | 16, _ => by
    rw [show zmTs 33 2199 0 33 #[151, 174, 237, 260, 283, 306, 339, 446, 565, 673, 793, 888, 984, 1038, 1134, 1242, 1350, 1482, 1546, 1609, 1672, 1725, 1758, 1811, 1906, 1929, 1963, 2028, 2051, 2104, 2127, 2140, 2153, 2176] (iN 16) = 1383 by decide +kernel]
    exact lw_over hp hn hA h
  | 17, _ => by
    rw [show zmTs 33 2199 0 33 #[151, 174, 237, 260, 283, 306, 339, 446, 565, 673, 793, 888, 984, 1038, 1134, 1242, 1350, 1482, 1546, 1609, 1672, 1725, 1758, 1811, 1906, 1929, 1963, 2028, 2051, 2104, 2127, 2140, 2153, 2176] (iN 17) = 1515 by decide +kernel]
    exact lw_had hp hn hA h
  | 18, _ => by
    rw [show zmTs 33 2199 0 33 #[151, 174, 237, 260, 283, 306, 339, 446, 565, 673, 793, 888, 984, 1038, 1134, 1242, 1350, 1482, 1546, 1609, 1672, 1725, 1758, 1811, 1906, 1929, 1963, 2028, 2051, 2104, 2127, 2140, 2153, 2176] (iN 18) = 1579 by decide +kernel]
    exact lw_line hp hn hA h
  | 19, _ => by
    rw [show zmTs 33 2199 0 33 #[151, 174, 237, 260, 283, 306, 339, 446, 565, 673, 793, 888, 984, 1038, 1134, 1242, 1350, 1482, 1546, 1609, 1672, 1725, 1758, 1811, 1906, 1929, 1963, 2028, 2051, 2104, 2127, 2140, 2153, 2176] (iN 19) = 1642 by decide +kernel]
    exact lw_which hp hn hA h
  | 20, _ => by
    rw [show zmTs 33 2199 0 33 #[151, 174, 237, 260, 283, 306, 339, 446, 565, 673, 793, 888, 984, 1038, 1134, 1242, 1350, 1482, 1546, 1609, 1672, 1725, 1758, 1811, 1906, 1929, 1963, 2028, 2051, 2104, 2127, 2140, 2153, 2176] (iN 20) = 1705 by decide +kernel]
    exact lw_runner hp hn hA h
  | 21, _ => by
    rw [show zmTs 33 2199 0 33 #[151, 174, 237, 260, 283, 306, 339, 446, 565, 673, 793, 888, 984, 1038, 1134, 1242, 1350, 1482, 1546, 1609, 1672, 1725, 1758, 1811, 1906, 1929, 1963, 2028, 2051, 2104, 2127, 2140, 2153, 2176] (iN 21) = 1758 by decide +kernel]
    exact lw_wait hp hn hA h
  | 22, _ => by
    rw [show zmTs 33 2199 0 33 #[151, 174, 237, 260, 283, 306, 339, 446, 565, 673, 793, 888, 984, 1038, 1134, 1242, 1350, 1482, 1546, 1609, 1672, 1725, 1758, 1811, 1906, 1929, 1963, 2028, 2051, 2104, 2127, 2140, 2153, 2176] (iN 22) = 1791 by decide +kernel]
    exact lw_three hp hn hA h
  | 23, _ => by
    rw [show zmTs 33 2199 0 33 #[151, 174, 237, 260, 283, 306, 339, 446, 565, 673, 793, 888, 984, 1038, 1134, 1242, 1350, 1482, 1546, 1609, 1672, 1725, 1758, 1811, 1906, 1929, 1963, 2028, 2051, 2104, 2127, 2140, 2153, 2176] (iN 23) = 1844 by decide +kernel]
    exact lw_drawn hp hn hA h
  | 24, _ => by
    rw [show zmTs 33 2199 0 33 #[151, 174, 237, 260, 283, 306, 339, 446, 565, 673, 793, 888, 984, 1038, 1134, 1242, 1350, 1482, 1546, 1609, 1672, 1725, 1758, 1811, 1906, 1929, 1963, 2028, 2051, 2104, 2127, 2140, 2153, 2176] (iN 24) = 1939 by decide +kernel]
    exact lw_log hp hn hA h
  | 25, _ => by
    rw [show zmTs 33 2199 0 33 #[151, 174, 237, 260, 283, 306, 339, 446, 565, 673, 793, 888, 984, 1038, 1134, 1242, 1350, 1482, 1546, 1609, 1672, 1725, 1758, 1811, 1906, 1929, 1963, 2028, 2051, 2104, 2127, 2140, 2153, 2176] (iN 25) = 1962 by decide +kernel]
    exact lw_wrongQ hp hn hA h
  | 26, _ => by
    rw [show zmTs 33 2199 0 33 #[151, 174, 237, 260, 283, 306, 339, 446, 565, 673, 793, 888, 984, 1038, 1134, 1242, 1350, 1482, 1546, 1609, 1672, 1725, 1758, 1811, 1906, 1929, 1963, 2028, 2051, 2104, 2127, 2140, 2153, 2176] (iN 26) = 1996 by decide +kernel]
    exact lw_tries hp hn hA h
  | 27, _ => by
    rw [show zmTs 33 2199 0 33 #[151, 174, 237, 260, 283, 306, 339, 446, 565, 673, 793, 888, 984, 1038, 1134, 1242, 1350, 1482, 1546, 1609, 1672, 1725, 1758, 1811, 1906, 1929, 1963, 2028, 2051, 2104, 2127, 2140, 2153, 2176] (iN 27) = 2061 by decide +kernel]
    exact lw_book hp hn hA h
  | 28, _ => by
    rw [show zmTs 33 2199 0 33 #[151, 174, 237, 260, 283, 306, 339, 446, 565, 673, 793, 888, 984, 1038, 1134, 1242, 1350, 1482, 1546, 1609, 1672, 1725, 1758, 1811, 1906, 1929, 1963, 2028, 2051, 2104, 2127, 2140, 2153, 2176] (iN 28) = 2084 by decide +kernel]
    exact lw_fits hp hn hA h
  | 29, _ => by
    rw [show zmTs 33 2199 0 33 #[151, 174, 237, 260, 283, 306, 339, 446, 565, 673, 793, 888, 984, 1038, 1134, 1242, 1350, 1482, 1546, 1609, 1672, 1725, 1758, 1811, 1906, 1929, 1963, 2028, 2051, 2104, 2127, 2140, 2153, 2176] (iN 29) = 2137 by decide +kernel]
    exact lw_seed hp hn hA h
  | 30, _ => by
    rw [show zmTs 33 2199 0 33 #[151, 174, 237, 260, 283, 306, 339, 446, 565, 673, 793, 888, 984, 1038, 1134, 1242, 1350, 1482, 1546, 1609, 1672, 1725, 1758, 1811, 1906, 1929, 1963, 2028, 2051, 2104, 2127, 2140, 2153, 2176] (iN 30) = 2160 by decide +kernel]
    exact lw_keep hp hn hA h
  | 31, _ => by
    rw [show zmTs 33 2199 0 33 #[151, 174, 237, 260, 283, 306, 339, 446, 565, 673, 793, 888, 984, 1038, 1134, 1242, 1350, 1482, 1546, 1609, 1672, 1725, 1758, 1811, 1906, 1929, 1963, 2028, 2051, 2104, 2127, 2140, 2153, 2176] (iN 31) = 2173 by decide +kernel]
    exact lw_undo hp hn hA h
  | 32, _ => by
    rw [show zmTs 33 2199 0 33 #[151, 174, 237, 260, 283, 306, 339, 446, 565, 673, 793, 888, 984, 1038, 1134, 1242, 1350, 1482, 1546, 1609, 1672, 1725, 1758, 1811, 1906, 1929, 1963, 2028, 2051, 2104, 2127, 2140, 2153, 2176] (iN 32) = 2186 by decide +kernel]
    exact lw_check hp hn hA h
  | 33, _ => by
    rw [show zmTs 33 2199 0 33 #[151, 174, 237, 260, 283, 306, 339, 446, 565, 673, 793, 888, 984, 1038, 1134, 1242, 1350, 1482, 1546, 1609, 1672, 1725, 1758, 1811, 1906, 1929, 1963, 2028, 2051, 2104, 2127, 2140, 2153, 2176] (iN 33) = 2209 by decide +kernel]
    exact lw_count hp hn hA h
  | q + 34, hq => by
    have e : zmTs 33 2199 0 33 #[151, 174, 237, 260, 283, 306, 339, 446, 565, 673, 793, 888, 984, 1038, 1134, 1242, 1350, 1482, 1546, 1609, 1672, 1725, 1758, 1811, 1906, 1929, 1963, 2028, 2051, 2104, 2127, 2140, 2153, 2176] (iN (q + 34)) = 2232 := by
      unfold zmTs
      rw [n_toI (by omega), if_pos (Or.inr (by omega))]
      rfl
    rw [e, law_next]
    exact ⟨a, b, r, rfl, h.mono (by omega)⟩
theorem and63 (x : Int32) : ∃ q : Nat, q < 64 ∧ x &&& iN 63 = iN q := by
  refine ⟨x.toBitVec.toNat % 64, Nat.mod_lt _ (by omega), ?_⟩
  apply Int32.toBitVec_inj.mp
  show x.toBitVec &&& BitVec.ofNat 32 63 = BitVec.ofNat 32 (x.toBitVec.toNat % 64)
  apply BitVec.eq_of_toNat_eq
  rw [BitVec.toNat_and, BitVec.toNat_ofNat, BitVec.toNat_ofNat]
  rw [show 63 % 2 ^ 32 = 2 ^ 6 - 1 by decide, Nat.and_two_pow_sub_one_eq_mod]
  omega
theorem law_step {n p A : Nat} {a : Nat → Nat → Int32} {b : Nat → Nat → Int64} {r : Nat → Nat → Option Nat} (hp : p + 9 ≤ n) (hn : n ≤ 4608) (hA : A ≤ 4608) (h : InvS a b r A) : ∃ (a2 : Nat → Nat → Int32) (b2 : Nat → Nat → Int64) (r2 : Nat → Nat → Option Nat), Den 61 0 18 (lgL (iN p)) [] (zmMk n a b r) = Den 61 0 18 (lgL (iN (p + 9))) [] (zmMk n a2 b2 r2) ∧ InvS a2 b2 r2 (A + 1) := by
  obtain ⟨q, hq, eq⟩ := and63 (a 0 p)
  have e1 : Den 61 0 18 (lgL (iN p)) [] (zmMk n a b r) = if iN n - iN 9 < iN p then Den 61 0 2238 (lgL (iN p)) [] (zmMk n a b r) else Den 61 0 27 (lgL (iN p)) [] (zmMk n a b r) := (Den_blk [zm0 (.iload_n 3) 1, zm0 (.aload_n 0) 1, zm0 (.arraylength) 1, zmi (.bipush 9) 2 9, zm0 (.isub) 1, zm0 (.if_icmp .gt 2214) 3] (pc' := if iN n - iN 9 < iN p then 2238 else 27) (L' := lgL (iN p)) (st' := []) (x' := zmMk n a b r) (by decide +kernel) rfl).trans (Den_ite _)
  have hlt : ¬ (iN n - iN 9 < iN p) := by
    rw [n_sub (by omega), n_lt (by omega) (by omega)]
    omega
  rw [e1, if_neg hlt]
  have e2 : Den 61 0 27 (lgL (iN p)) [] (zmMk n a b r) = Den 61 0 29 (lgL (iN p)) [.int (iN p), .ref 0] (zmMk n a b r) := Den_blk [zm0 (.aload_n 0) 1, zm0 (.iload_n 3) 1] (by decide +kernel) rfl
  have e3 : Den 61 0 30 (lgL (iN p)) [.int (a 0 p)] (zmMk n a b r) = Den 61 0 33 (lgL (iN p)) [.int (a 0 p &&& iN 63)] (zmMk n a b r) := Den_blk [zmi (.bipush 63) 2 63, zm0 (.iand) 1] (by decide +kernel) rfl
  have e4 : Den 61 0 33 (lgL (iN p)) [.int (iN q)] (zmMk n a b r) = Den 61 0 (zmTs 33 2199 0 33 #[151, 174, 237, 260, 283, 306, 339, 446, 565, 673, 793, 888, 984, 1038, 1134, 1242, 1350, 1482, 1546, 1609, 1672, 1725, 1758, 1811, 1906, 1929, 1963, 2028, 2051, 2104, 2127, 2140, 2153, 2176] (iN q)) (lgL (iN p)) [] (zmMk n a b r) := Den_next ((zmStep_of (i := zm0 (.tableswitch 2199 0 33 #[151, 174, 237, 260, 283, 306, 339, 446, 565, 673, 793, 888, 984, 1038, 1134, 1242, 1350, 1482, 1546, 1609, 1672, 1725, 1758, 1811, 1906, 1929, 1963, 2028, 2051, 2104, 2127, 2140, 2153, 2176]) 151) (by decide +kernel)).trans rfl)
  rw [e2, lg_ld (by decide +kernel) (by omega) hn, e3, eq, e4]
  exact law_sw hp hn hA h q hq
theorem law_out2 {n p : Nat} {a : Nat → Nat → Int32} {b : Nat → Nat → Int64} {r : Nat → Nat → Option Nat} (hn : n ≤ 4608) (hp : n < p + 9) (h1 : p ≤ 4617) : ∃ x' : zmH, x'.1.1 ≤ 147 ∧ Den 61 0 18 (lgL (iN p)) [] (zmMk n a b r) = some (some (.int 1), x') := by
  have e1 : Den 61 0 18 (lgL (iN p)) [] (zmMk n a b r) = if iN n - iN 9 < iN p then Den 61 0 2238 (lgL (iN p)) [] (zmMk n a b r) else Den 61 0 27 (lgL (iN p)) [] (zmMk n a b r) := (Den_blk [zm0 (.iload_n 3) 1, zm0 (.aload_n 0) 1, zm0 (.arraylength) 1, zmi (.bipush 9) 2 9, zm0 (.isub) 1, zm0 (.if_icmp .gt 2214) 3] (pc' := if iN n - iN 9 < iN p then 2238 else 27) (L' := lgL (iN p)) (st' := []) (x' := zmMk n a b r) (by decide +kernel) rfl).trans (Den_ite _)
  have hlt : iN n - iN 9 < iN p := by
    rw [Int32.lt_iff_toInt_lt, n_sub_toI (by omega) (by omega), n_toI (by omega)]
    omega
  refine ⟨zmMk n a b r, Nat.le_refl _, ?_⟩
  rw [e1, if_pos hlt]
  have e2 : Den 61 0 2238 (lgL (iN p)) [] (zmMk n a b r) = Den 61 0 2239 (lgL (iN p)) [.int 1] (zmMk n a b r) := Den_blk [zmi (.iconst 1) 1 1] (by decide +kernel) rfl
  rw [e2]
  exact Den_retE (zmr (.ireturn) 1 1 0 0 0 0) (by decide +kernel) rfl
theorem law_out {n p : Nat} {a : Nat → Nat → Int32} {b : Nat → Nat → Int64} {r : Nat → Nat → Option Nat} (hn : n ≤ 4608) (hp : n ≤ p + 0) (h1 : p ≤ 4617) : ∃ x' : zmH, x'.1.1 ≤ 147 ∧ Den 61 0 18 (lgL (iN p)) [] (zmMk n a b r) = some (some (.int 1), x') := law_out2 hn (by omega) h1
theorem law_loop {n : Nat} (hn : n ≤ 4608) : ∀ (k p : Nat) (a : Nat → Nat → Int32) (b : Nat → Nat → Int64) (r : Nat → Nat → Option Nat), n ≤ p + k → p ≤ 4617 → InvS a b r p → ∃ x' : zmH, x'.1.1 ≤ 147 ∧ Den 61 0 18 (lgL (iN p)) [] (zmMk n a b r) = some (some (.int 1), x') := by
  intro k
  induction k with
  | zero =>
    intro p a b r hk h1 h
    exact law_out hn hk h1
  | succ k ih =>
    intro p a b r hk h1 h
    by_cases hp : p + 9 ≤ n
    · obtain ⟨a2, b2, r2, e, h2⟩ := law_step hp hn (by omega) h
      rw [e]
      exact ih (p + 9) a2 b2 r2 (by omega) (by omega) (h2.mono (by omega))
    · exact law_out2 hn (by omega) h1
