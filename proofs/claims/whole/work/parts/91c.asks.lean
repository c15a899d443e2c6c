/-! ===== a TEXT asked: the class ===== -/
def fctN (N : Nat) (K W : Nat → Nat) (t p act j : Nat) : Int32 := iN ([t, N, pY p, pB p, pS p, pR p, W t, K (pY p), act % 4, act / 4].getD j 0)
def evV (f : Nat → Int32) (os : Ops) : Int32 := match ev f 0 os [] with
  | some (some v) => v
  | _ => iN 0
theorem ev_E {c : Nat} {os : Ops} (h : SegE c os) (hc : c ≤ 20) (f : Nat → Int32) : ∃ res, ev f 0 os [] = some res ∧ rsV res = evV f os := by
  have h1 := h f
  unfold evV
  rcases h1 with e | ⟨v, e⟩
  · have e := e [] [] (by show 0 + c ≤ 20; omega)
    rw [List.append_nil] at e
    exact ⟨none, e, by rw [e]; rfl⟩
  · have e := e [] [] (by show 0 + c ≤ 20; omega)
    rw [List.append_nil] at e
    have e2 : ev f 0 os [] = some (some v) := e
    exact ⟨some v, e2, by rw [e2]; rfl⟩
theorem ev_B {c : Nat} {os : Ops} (h : SegB c os) (hc : c ≤ 20) (f : Nat → Int32) : ∃ res, ev f 0 os [] = some res ∧ rsV res = evV f os ∧ (evV f os = iN 0 ∨ evV f os = iN 1) := by
  have h1 := h f
  unfold evV
  rcases h1 with e | ⟨v, hv, e⟩
  · have e := e [] [] (by show 0 + c ≤ 20; omega)
    rw [List.append_nil] at e
    exact ⟨none, e, by rw [e]; rfl, by rw [e]; exact Or.inl rfl⟩
  · have e := e [] [] (by show 0 + c ≤ 20; omega)
    rw [List.append_nil] at e
    have e2 : ev f 0 os [] = some (some v) := e
    exact ⟨some v, e2, by rw [e2]; rfl, by rw [e2]; exact hv⟩
def askV (l : Int32) (f : Nat → Int32) : List Cls → Int32
  | [] => iN 0
  | c :: cl => if iN c.1 = l ∧ evV f c.2.2 = iN 1 then evV f c.2.1 else askV l f cl
theorem askV_no {l : Int32} {f : Nat → Int32} {cl : List Cls} (h : ∀ c, c ∈ cl → iN c.1 ≠ l) : askV l f cl = iN 0 := by
  induction cl with
  | nil => rfl
  | cons c cl ih =>
    show (if iN c.1 = l ∧ evV f c.2.2 = iN 1 then evV f c.2.1 else askV l f cl) = _
    rw [if_neg (fun z => h c (List.mem_cons_self ..) z.1)]
    exact ih (fun c' hc => h c' (List.mem_cons_of_mem _ hc))
def clmp (h : Nat) (x : Int32) : Nat := if x < iN 0 then 0 else if iN h < x then h else x.toNatClampNeg
theorem clmp_le (h : Nat) (x : Int32) (hh : h < 2147483648) : clmp h x ≤ h := by
  unfold clmp
  split
  · omega
  · rename_i h0
    obtain ⟨k, hk, rfl⟩ := n_of x h0
    split
    · omega
    · rename_i h1
      rw [n_lt hh hk] at h1
      rw [n_nat hk]
      omega
def QF (cl : List Cls) (N : Nat) (K W : Nat → Nat) : AQ := fun l t p act => clmp (hiQ l) (askV l (fctN N K W t p act) cl)
theorem hiQ_lt (l : Int32) : hiQ l ≤ 99 := by
  unfold hiQ
  repeat' split
  all_goals omega
theorem QF_B (cl : List Cls) (N : Nat) (K W : Nat → Nat) : QB (QF cl N K W) := fun l t p act => clmp_le _ _ (by have := hiQ_lt l; omega)
def prsC (a : Nat → Nat → Int32) (TT l : Nat) : Prop := ((((a TT 2) : Int32) >>> (((iN l - (iN 97)) : Int32) &&& (iN 31))) &&& (iN 1)) = (iN 1)
def TxI (a : Nat → Nat → Int32) (TT i : Nat) (c : Cls) (h k : Nat) : Prop := a (TT + 2) i = iN c.1 ∧ prsC a TT c.1 ∧ a (TT + 3) i = iN h ∧ a (TT + 4) i = iN k ∧ LayC (a (TT + 1)) h c.2.1 ∧ a (TT + 1) (h + 2 * c.2.1.length) = iN 0 ∧ h + 2 * c.2.1.length + 1 < 480 ∧ LayC (a (TT + 1)) k c.2.2 ∧ a (TT + 1) (k + 2 * c.2.2.length) = iN 0 ∧ k + 2 * c.2.2.length + 1 < 480 ∧ gdC c ∧ c.1 < 128
/-- the class's TEXT at TT holds these CLAUSES -/
def TxC (a : Nat → Nat → Int32) (TT : Nat) (cl : List Cls) : Prop := a TT 0 = iN cl.length ∧ cl.length ≤ 16 ∧ ∀ i c, cl[i]? = some c → ∃ h k, TxI a TT i c h k
theorem TxC.ag {a a' : Nat → Nat → Int32} {TT : Nat} {cl : List Cls} (h : TxC a TT cl) (g : ∀ k, TT ≤ k → k ≤ TT + 4 → a' k = a k) : TxC a' TT cl := by
  obtain ⟨h1, h2, h3⟩ := h
  refine ⟨by rw [g TT (by omega) (by omega)]; exact h1, h2, fun i c hc => ?_⟩
  obtain ⟨hh, k, t1, t2, t3, t4, t5, t6, t7, t8, t9, t10, t11⟩ := h3 i c hc
  refine ⟨hh, k, ?_, ?_, ?_, ?_, ?_, ?_, t7, ?_, ?_, t10, t11⟩
  · rw [g _ (by omega) (by omega)]; exact t1
  · unfold prsC; rw [g _ (by omega) (by omega)]; exact t2
  · rw [g _ (by omega) (by omega)]; exact t3
  · rw [g _ (by omega) (by omega)]; exact t4
  · rw [g _ (by omega) (by omega)]; exact t5
  · rw [g _ (by omega) (by omega)]; exact t6
  · rw [g _ (by omega) (by omega)]; exact t8
  · rw [g _ (by omega) (by omega)]; exact t9
theorem c_run {d TT h : Nat} {n : Nat} {a : Nat → Nat → Int32} {b : Nat → Nat → Int64} {r : Nat → Nat → Option Nat} {os : Ops} {f : Nat → Int32} {res : Option Int32} (hX : isTx TT) (he : ev f 0 os [] = some res) (hl : LayC (a (TT + 1)) h os) (hend : a (TT + 1) (h + 2 * os.length) = iN 0) (hp : h + 2 * os.length + 1 < 480) (hf : ∀ j, j < 10 → a 30 j = f j) : ∃ a', Den (d+2) 90 0 [.ref TT, .int (iN h), .ref 30, zmJ, zmJ, zmJ, zmJ, zmJ, zmJ] [] (zmMk n a b r) = some (some (.int (rsV res)), zmMk n a' b r) ∧ onlyX (TT + 5) a a' := by
  obtain ⟨a', e, F⟩ := c_runL (d := d) (b := b) (r := r) (v1 := iN h) hX os 0 h 480 [] res zmJ zmJ zmJ a he hl hend hp (by omega) (by omega) trivial (by show 0 ≤ 20; omega) hf
  refine ⟨a', ?_, F⟩
  rw [← e, b90_0 hX]
  show _ = Den (d+2) 90 10 [.ref TT,.int (iN h),.ref 30,.int (tpN 0),.int (iN (h + 0)),.int (iN 480),zmJ,zmJ,zmJ] [] (zmMk n a b r)
  rw [tpN_0, show h + 0 = h by omega]
theorem n_ran {p : Nat} (h : p < 4840) : iN p &&& iN 1 = iN (pR p) := by
  rw [n_and, q_and1 p h]
  rfl
theorem n_and3 {x : Nat} (h : x < 8) : iN x &&& iN 3 = iN (x % 4) := by
  rw [n_and, q_and3 x h]
set_option maxHeartbeats 1000000 in
theorem c_tell {d N t p act : Nat} {n : Nat} {a : Nat → Nat → Int32} {b : Nat → Nat → Int64} {r : Nat → Nat → Option Nat} {K W : Nat → Nat} (hN : a 16 0 = iN N) (hK : ∀ y, y ≤ 120 → a 25 y = iN (K y)) (hW : ∀ t, t < 100 → a 28 t = iN (W t)) (ht : t ≤ 8) (hp : p < 4840) (ha : act < 8 ∧ act ≠ 4) : ∃ a', Den (d+1) 60 0 [.ref 29, .int (iN t), .int (iN p), .int (iN act)] [] (zmMk n a b r) = some (none, zmMk n a' b r) ∧ onlyX 30 a a' ∧ ∀ j, j < 10 → a' 30 j = fctN N K W t p act j := by
  have hy := pY_le hp
  have eW : ∀ a1 : Nat → Nat → Int32, Den (d) 145 0 [.ref 28, .int (iN t)] [] (zmMk n a1 b r) = some (some (.int (a1 28 t)), zmMk n a1 b r) := fun a1 => by
    rw [c_item (len := 100) (by decide +kernel) (by decide) (by decide) (by decide), itV_n (by omega) (by decide)]
  have eK : ∀ a1 : Nat → Nat → Int32, Den (d) 145 0 [.ref 25, .int (iN (pY p))] [] (zmMk n a1 b r) = some (some (.int (a1 25 (pY p))), zmMk n a1 b r) := fun a1 => by
    rw [c_item (len := 121) (by decide +kernel) (by decide) (by decide) (by decide), itV_n (by omega) (by decide)]
  have in10 : ∀ k < 10, zmIn (iN k) 10 = true := fun k hk => by rw [n_in (by omega)]; exact decide_eq_true hk
  have nk : ∀ k < 10, (iN k).toNatClampNeg = k := fun k hk => n_nat (by omega)
  refine ⟨uI (uI (uI (uI (uI (uI (uI (uI (uI (uI a 30 0 (iN t)) 30 1 (iN N)) 30 2 (iN (pY p))) 30 3 (iN (pB p))) 30 4 (iN (pS p))) 30 5 (iN (pR p))) 30 6 (iN (W t))) 30 7 (iN (K (pY p)))) 30 8 (iN (act % 4))) 30 9 (iN (act / 4)), ?_, ?_, ?_⟩
  · have e16 : ∀ v, uI a 30 0 v 16 0 = iN N := fun v => by rw [uI_ne (by decide)]; exact hN
    have hS : ∀ (x : zmH) (rest : List Value), (if bI (decide (pS p = 1)) = iN 0 then Den (d+1) 60 56 [.ref 29,.int (iN t),.int (iN p),.int (iN act)] rest x else Den (d+1) 60 52 [.ref 29,.int (iN t),.int (iN p),.int (iN act)] rest x) = (if bI (decide (pS p = 1)) = iN 0 then Den (d+1) 60 56 [.ref 29,.int (iN t),.int (iN p),.int (iN act)] rest x else Den (d+1) 60 52 [.ref 29,.int (iN t),.int (iN p),.int (iN act)] rest x) := fun _ _ => rfl
    have pS2 := pS_le p
    rw [b60_0, e16, c_yardsAt hp]
    simp only [Option.bind_some, Option.toList_some, Option.toList_none, List.cons_append, List.nil_append, true_or, or_true, if_true, bI_if, b60_29, in10 2 (by omega), nk 2 (by omega), b60_30, c_breathAt hp, b60_39, in10 3 (by omega), nk 3 (by omega), b60_40, c_isSeenAt hp, b60_49]
    have e57 : ∀ a1 : Nat → Nat → Int32, (if pS p = 1 then Den (d+1) 60 52 [.ref 29,.int (iN t),.int (iN p),.int (iN act)] [.int (iN 4),.ref 30] (zmMk n a1 b r) else Den (d+1) 60 56 [.ref 29,.int (iN t),.int (iN p),.int (iN act)] [.int (iN 4),.ref 30] (zmMk n a1 b r)) = Den (d+1) 60 58 [.ref 29,.int (iN t),.int (iN p),.int (iN act)] [] (zmMk n (uI a1 30 4 (iN (pS p))) b r) := fun a1 => by
      by_cases h : pS p = 1
      · rw [if_pos h, b60_52, b60_57, in10 4 (by omega), nk 4 (by omega), h]; rfl
      · rw [if_neg h, b60_56, b60_57, in10 4 (by omega), nk 4 (by omega), show pS p = 0 by omega]; rfl
    simp only [decide_eq_true_eq, e57]
    have a28 : ∀ (f : Nat → Nat → Int32) (j : Nat) (v : Int32), uI f 30 j v 28 t = f 28 t := fun f j v => by rw [uI_ne (by decide)]
    have a25 : ∀ (f : Nat → Nat → Int32) (j : Nat) (v : Int32), uI f 30 j v 25 (pY p) = f 25 (pY p) := fun f j v => by rw [uI_ne (by decide)]
    have a302 : ∀ (f : Nat → Nat → Int32) (j : Nat) (v : Int32), 2 ≠ j → uI f 30 j v 30 2 = f 30 2 := fun f j v h => by rw [uI_nj h]
    simp only [b60_58, n_ran hp, eW, Option.bind_some, Option.toList_some, Option.toList_none, List.cons_append, List.nil_append, true_or, or_true, if_true, bI_if, b60_84, in10 6 (by omega), nk 6 (by omega), a28, hW t (by omega), b60_85]
    rw [a302 _ 6 _ (by omega), a302 _ 5 _ (by omega), a302 _ 4 _ (by omega), a302 _ 3 _ (by omega), uI_self]
    simp only [eK, Option.bind_some, Option.toList_some, Option.toList_none, List.cons_append, List.nil_append, true_or, or_true, if_true, bI_if, b60_107, in10 7 (by omega), nk 7 (by omega), a25, hK _ hy, b60_108, n_and3 ha.1]
    by_cases h4 : 4 < act
    · rw [if_pos (by rw [n_lt (by omega) (by omega)]; exact h4), b60_129, b60_134, in10 9 (by omega), nk 9 (by omega), if_pos rfl, b60_135, show act / 4 = 1 by omega]
    · rw [if_neg (by rw [n_lt (by omega) (by omega)]; exact h4), b60_133, b60_134, in10 9 (by omega), nk 9 (by omega), if_pos rfl, b60_135, show act / 4 = 0 by omega]
  · intro k hk
    simp only [uI_ne hk]
  · intro j hj
    rcases (by omega : j = 0 ∨ j = 1 ∨ j = 2 ∨ j = 3 ∨ j = 4 ∨ j = 5 ∨ j = 6 ∨ j = 7 ∨ j = 8 ∨ j = 9) with rfl | rfl | rfl | rfl | rfl | rfl | rfl | rfl | rfl | rfl <;> simp [uI_at, fctN]
