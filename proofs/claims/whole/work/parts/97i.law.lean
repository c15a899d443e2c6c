/-! ===== THE LAW, RULES ===== -/
theorem pTxt_len {J : Nat → List Ops → Ops} {nx : Nat → Nat} {n : Nat} {isL : Nat → Bool} (f : Nat) : ∀ (p : Nat) (X cl : List Cls), pTxt J nx n isL f p X = .inr cl → X.length ≤ cl.length ∧ (1 ≤ f → X.length + 1 ≤ cl.length) := by
  induction f with
  | zero =>
    intro p X cl h
    cases h
    exact ⟨Nat.le_refl _, fun h => absurd h (by omega)⟩
  | succ f ih =>
    intro p X cl h
    have h' : (match pCls J nx n isL X.length p with
      | .inl e => (.inl e : (Nat × Nat) ⊕ List Cls)
      | .inr (q, c) => if q < n then (if nx q = 59 then pTxt J nx n isL f (q + 1) (X ++ [c]) else .inl (1, q)) else .inr (X ++ [c])) = .inr cl := h
    cases hz : pCls J nx n isL X.length p with
    | inl e => rw [hz] at h'; cases h'
    | inr t =>
      obtain ⟨q, c⟩ := t
      rw [hz] at h'
      have hl : (X ++ [c]).length = X.length + 1 := by rw [List.length_append]; rfl
      have h2 : (if q < n then (if nx q = 59 then pTxt J nx n isL f (q + 1) (X ++ [c]) else .inl (1, q)) else (.inr (X ++ [c]) : (Nat × Nat) ⊕ List Cls)) = .inr cl := h'
      by_cases h3 : q < n
      · rw [if_pos h3] at h2
        by_cases h4 : nx q = 59
        · rw [if_pos h4] at h2
          have := (ih _ _ _ h2).1
          exact ⟨by omega, fun _ => by omega⟩
        · rw [if_neg h4] at h2; cases h2
      · rw [if_neg h3] at h2
        cases h2
        exact ⟨by omega, fun _ => by omega⟩
theorem pCls_let {J : Nat → List Ops → Ops} {nx : Nat → Nat} {n many p q : Nat} {isL : Nat → Bool} {c : Cls} (h : pCls J nx n isL many p = .inr (q, c)) : isL c.1 = true := by
  unfold pCls at h
  by_cases h1 : isL (nx p) = false
  · rw [if_pos h1] at h; cases h
  · rw [if_neg h1] at h
    by_cases h2 : many = 16
    · rw [if_pos h2] at h; cases h
    · rw [if_neg h2] at h
      cases hs : pSum nx n 6 (p + 1) with
      | inl e => rw [hs] at h; cases h
      | inr t =>
        obtain ⟨q1, oE⟩ := t
        rw [hs] at h
        have h3 : (if nx q1 ≠ 40 then (.inl (1, q1) : (Nat × Nat) ⊕ (Nat × Cls)) else match pBrk nx 41 (pCnd J nx (pPc J nx n 5) (n + 1) (q1 + 1) [] []) with
          | .inl e => .inl e
          | .inr (q2, oC) => .inr (q2, (nx p, oE, oC))) = .inr (q, c) := h
        by_cases h4 : nx q1 ≠ 40
        · rw [if_pos h4] at h3; cases h3
        · rw [if_neg h4] at h3
          cases hb : pBrk nx 41 (pCnd J nx (pPc J nx n 5) (n + 1) (q1 + 1) [] []) with
          | inl e => rw [hb] at h3; cases h3
          | inr t2 =>
            obtain ⟨q2, oC⟩ := t2
            rw [hb] at h3
            cases h3
            exact Bool.not_eq_false _ ▸ h1
theorem pTxt_let {J : Nat → List Ops → Ops} {nx : Nat → Nat} {n : Nat} {isL : Nat → Bool} (f : Nat) : ∀ (p : Nat) (X cl : List Cls), (∀ c, c ∈ X → isL c.1 = true) → pTxt J nx n isL f p X = .inr cl → ∀ c, c ∈ cl → isL c.1 = true := by
  induction f with
  | zero =>
    intro p X cl hX h
    cases h
    exact hX
  | succ f ih =>
    intro p X cl hX h
    have h' : (match pCls J nx n isL X.length p with
      | .inl e => (.inl e : (Nat × Nat) ⊕ List Cls)
      | .inr (q, c) => if q < n then (if nx q = 59 then pTxt J nx n isL f (q + 1) (X ++ [c]) else .inl (1, q)) else .inr (X ++ [c])) = .inr cl := h
    cases hz : pCls J nx n isL X.length p with
    | inl e => rw [hz] at h'; cases h'
    | inr t =>
      obtain ⟨q, c⟩ := t
      rw [hz] at h'
      have hXc : ∀ c', c' ∈ X ++ [c] → isL c'.1 = true := fun c' hc' => by
        rcases List.mem_append.mp hc' with h5 | h5
        · exact hX c' h5
        · rw [List.mem_singleton.mp h5]
          exact pCls_let hz
      have h2 : (if q < n then (if nx q = 59 then pTxt J nx n isL f (q + 1) (X ++ [c]) else .inl (1, q)) else (.inr (X ++ [c]) : (Nat × Nat) ⊕ List Cls)) = .inr cl := h'
      by_cases h3 : q < n
      · rw [if_pos h3] at h2
        by_cases h4 : nx q = 59
        · rw [if_pos h4] at h2
          exact ih _ _ _ hXc h2
        · rw [if_neg h4] at h2; cases h2
      · rw [if_neg h3] at h2
        cases h2
        exact hXc
theorem TxM.frR {a a' : Nat → Nat → Int32} {T T' : Nat} {cl : List Cls} (h : TxM a T' cl) (f : frR T a a') (hne : T' ≠ T) : TxM a' T' cl := by
  obtain ⟨-, -, f7, f6, f8⟩ := f
  obtain ⟨h1, h2, h3⟩ := h
  have h16 : T' < T ∨ T < T' := by omega
  refine ⟨by rw [f7 T' hne]; exact h1, h2, fun i c hc => ?_⟩
  have hi : i < cl.length := (List.getElem?_eq_some_iff.mp hc).1
  obtain ⟨x, k, e, t1, t2, t3, t4, t5, t6, t7, t8, t9, t10, t11, t12⟩ := h3 i c hc
  have l1 : 2 * 0 ≤ c.2.1.length := by omega
  refine ⟨x, k, e, t1, t2, t3, t4, ?_, ?_, ?_, ?_, t9.ag (fun j j1 j2 => f6 j (by omega)), t10.ag (fun j j1 j2 => f6 j (by omega)), t11, t12⟩
  · rw [f8 108 _ (by omega) (by omega) (by omega)]; exact t5
  · rw [f8 109 _ (by omega) (by omega) (by omega)]; exact t6
  · rw [f8 110 _ (by omega) (by omega) (by omega)]; exact t7
  · rw [f8 111 _ (by omega) (by omega) (by omega)]; exact t8
theorem l_51 {d S T : Nat} {n : Nat} {a : Nat → Nat → Int32} {b : Nat → Nat → Int64} {r : Nat → Nat → Option Nat} {v1 v2 : Int32} (h1 : r 14 9 = some S) (h2 : r 29 4 = some T) : Den (d+1) 97 51 [.ref 14,.int v1,.int v2,zmJ] [] (zmMk n a b r) = (Den d 129 0 [.ref 14] [] (zmMk n a b (uR (uR r 14 9 (some T)) 29 4 (some S)))).bind fun q => Den (d+1) 97 79 [.ref 14,.int v1,.int v2,.ref S] (q.1.toList ++ []) q.2 := (Den_blk [zm0 (.aload_n 0) 1, zmr (.getfield 61) 3 11 9 2 416 0] (pc' := 55) (L' := [.ref 14,.int v1,.int v2,zmJ]) (st' := [zmRf (r 14 9)]) (x' := (zmMk n a b r)) (by decide +kernel) rfl).trans ((Den_rw h1).trans ((Den_blk [zm0 (.astore_n 3) 1, zm0 (.aload_n 0) 1, zm0 (.aload_n 0) 1, zmr (.getfield 50) 3 11 7 2 414 0, zmr (.getfield 139) 3 7 4 2 239 1] (pc' := 64) (L' := [.ref 14,.int v1,.int v2,.ref S]) (st' := [zmRf (r 29 4), .ref 14]) (x' := (zmMk n a b r)) (by decide +kernel) rfl).trans ((Den_rw h2).trans ((Den_putr (zmr (.putfield 61) 3 11 9 2 416 0) (pc' := 67) (L' := [.ref 14,.int v1,.int v2,.ref S]) (st' := []) (x' := zmMk n a b (uR r 14 9 (some T))) (by decide +kernel) rfl rfl).trans ((Den_blk [zm0 (.aload_n 0) 1, zmr (.getfield 50) 3 11 7 2 414 0, zm0 (.aload_n 3) 1] (pc' := 72) (L' := [.ref 14,.int v1,.int v2,.ref S]) (st' := [.ref S, .ref 29]) (x' := zmMk n a b (uR r 14 9 (some T))) (by decide +kernel) rfl).trans ((Den_putr (zmr (.putfield 139) 3 7 4 2 239 1) (pc' := 75) (L' := [.ref 14,.int v1,.int v2,.ref S]) (st' := []) (x' := zmMk n a b (uR (uR r 14 9 (some T)) 29 4 (some S))) (by decide +kernel) rfl rfl).trans ((Den_blk [zm0 (.aload_n 0) 1] (pc' := 76) (L' := [.ref 14,.int v1,.int v2,.ref S]) (st' := [.ref 14]) (x' := zmMk n a b (uR (uR r 14 9 (some T)) 29 4 (some S))) (by decide +kernel) rfl).trans (Den_callE (zmr (.invokevirtual 121) 3 1 129 0 466 0) (by decide +kernel) rfl rfl))))))))
/-- references behind a TEXT that was read -/
def prR (r : Nat → Nat → Option Nat) (s S : Nat) : Nat → Nat → Option Nat := uR (uR (uR r 44 0 (some 15)) 44 4 (some s)) 44 5 (some S)
theorem prR_ne {r : Nat → Nat → Option Nat} {s S k j : Nat} (h : k ≠ 44) : prR r s S k j = r k j := by
  unfold prR
  rw [uR_at, if_neg (fun z => h z.1), uR_at, if_neg (fun z => h z.1), uR_at, if_neg (fun z => h z.1)]
theorem TxS.pr {r : Nat → Nat → Option Nat} {TL TS s S : Nat} {TR : Nat → Nat} (h : TxS r TL TS TR) : TxS (prR r s S) TL TS TR := ⟨h.1, h.2.1, h.2.2.1, h.2.2.2.1, h.2.2.2.2.1, h.2.2.2.2.2.1, by rw [prR_ne (by omega)]; exact h.2.2.2.2.2.2.1, by rw [prR_ne (by omega)]; exact h.2.2.2.2.2.2.2.1, fun k hk => by rw [prR_ne (by omega)]; exact h.2.2.2.2.2.2.2.2 k hk⟩
theorem flt_no {e : Nat × Nat} (h : fltI e.1 e.2 < iN 0) : ¬ iN 0 < fltI e.1 e.2 := fun z => by
  rw [Int32.lt_iff_toInt_lt] at h z
  omega
theorem nxS_and {σ : SV} {len : Nat} {a : Nat → Nat → Int32} (h : TapM a (σ 0 2) (σ 10)) (hb : ∀ j, j < σ 0 2 → σ 10 j < 256) (hl : len ≤ σ 0 2) : ∀ j, j < len → (a 95 j &&& iN 255) = iN (nxS σ len j) := fun j hj => by
  rw [h.2 j (by omega), i8_and _ (hb j (by omega))]
  unfold nxS
  rw [if_pos hj]
theorem m_readsNo {d T : Nat} {n : Nat} {a : Nat → Nat → Int32} {b : Nat → Nat → Int64} {r : Nat → Nat → Option Nat} {v2 : Int32} {s : Nat} (h8 : a 94 8 = iN s) (h : ¬ inI v2 (iN 1) (iN 240) = true ∨ iN s < v2) : Den (d+1) 188 0 [.ref 94, .int (iN T), .int v2, zmJ, zmJ, zmJ] [] (zmMk n a b r) = some (some (.int (-1)), (zmMk n a b r)) := by
  rw [b188_0, m_in]
  simp only [Option.bind_some, Option.toList_some, Option.toList_none, List.cons_append, List.nil_append, true_or, or_true, if_true, bI_if]
  rw [b188_8, bI_if]
  by_cases g : inI v2 (iN 1) (iN 240) = true
  · rw [if_pos g, b188_11, h8, if_pos (h.resolve_left (fun z => z g)), b188_19]
  · rw [if_neg g, b188_19]
set_option maxHeartbeats 2000000 in
theorem p_law {d : Nat} {n : Nat} {a : Nat → Nat → Int32} {b : Nat → Nat → Int64} {r : Nat → Nat → Option Nat} {σ : SV} {cl cl' : List Cls} {R R' : Nat → List Cls} {TL TS A : Nat} {TR : Nat → Nat} (h : (St a b r σ cl cl' R R' TL TS TR A)) (hA : A < 90000) {v1 : Int32} : ∃ (v : Int32) (a1 : Nat → Nat → Int32) (b1 : Nat → Nat → Int64) (r1 : Nat → Nat → Option Nat) (a2 : Nat → Nat → Int32) (b2 : Nat → Nat → Int64), Den (d+60) 97 0 [.ref 14, .int v1, zmJ, zmJ] [] (zmMk n a b r) = some (some (.int v), zmMk n a1 b1 r1) ∧ Den (d+60) 189 0 [.ref 94, .int v1, zmJ] [] (zmMk n a1 b1 r1) = some (some (.int v), zmMk n a2 b2 r1) ∧ InvS a2 b2 r1 (A + 1) := by
  have hT : TapC a (σ 0 2) (σ 10) := h.2.1.2.2.2.2.1
  have hU : TapM a (σ 0 2) (σ 10) := h.2.2.1.2.2.1
  have hs : σ 0 2 ≤ 260 ∧ ∀ j, j < σ 0 2 → σ 10 j < 256 := h.1.2.2.2.1
  have hx := h.2.1.2.2.2.2.2.2.2.2.2.1
  have hr9 : r 14 9 = some TS := hx.2.2.2.2.2.2.2.1
  have hr4 : r 29 4 = some TL := hx.2.2.2.2.2.2.1
  have hS : isTx TS := hx.2.1
  have hL : isTx TL := hx.1
  have kS := tx_of hS
  by_cases g1 : inI v1 (iN 1) (iN 240) = true
  · obtain ⟨len, l1, l8, rfl⟩ := inI_ex (by decide) (by decide) g1
    by_cases g2 : len ≤ σ 0 2
    · have q1 : (iN (σ 0 2) < iN len) = False := by rw [n_lt (by omega) (by omega)]; exact eq_false (by omega)
      have hn := nxS_end σ len
      have hlt := nxS_lt hs.2 g2
      have bC : ∀ j, j < len → a 15 j = iN (nxS σ len j) := fun j hj => by
        unfold nxS
        rw [if_pos hj]
        exact hT.2 j (by omega)
      have z1 : PrR n TS b (prR r 6 TS) a (pTxt jn (nxS σ len) len isLaw (len + 1) 0 []) (Den (d+59) 35 0 [.ref 44, .ref 15, .int (iN len), .ref 6, .ref TS, zmJ] [] (zmMk n a b r)) := c_parsel (d := d+39) (n := n) (b := b) (r := r) hS (by omega) hn hlt bC h.2.1.1 (let_law rfl)
      have key : ∀ (a1 : Nat → Nat → Int32) (r1 : Nat → Nat → Option Nat), (∀ q, 94 ≤ q → a1 q = a q) → RdM n 0 b r1 a1 (pTxt jm (nxS σ len) len isLaw (len + 1) 0 []) (Den (d+59) 188 0 [.ref 94, .int (iN 0), .int (iN len), zmJ, zmJ, zmJ] [] (zmMk n a1 b r1)) := fun a1 r1 h1 => by
        have hU1 : TapM a1 (σ 0 2) (σ 10) := by
          unfold TapM
          rw [h1 94 (by omega), h1 95 (by omega)]
          exact hU
        exact m_reads (d := d+51) (n := n) (b := b) (r := r1) (T := 0) (by omega) l1 (by omega) hU1.1 g2 hs.1 hn hlt (nxS_and hU1 hs.2 g2)
      have hrel : ctR (pTxt jn (nxS σ len) len isLaw (len + 1) 0 []) (pTxt jm (nxS σ len) len isLaw (len + 1) 0 []) := rl_txt hn (by decide) (len + 1) 0 [] [] (Nat.zero_le _) trivial
      cases hz : pTxt jn (nxS σ len) len isLaw (len + 1) 0 [] with
      | inl e =>
        cases hy : pTxt jm (nxS σ len) len isLaw (len + 1) 0 [] with
        | inr c' => rw [hz, hy] at hrel; exact hrel.elim
        | inl e' =>
          rw [hz, hy] at hrel
          have hee : e = e' := hrel
          subst hee
          rw [hz] at z1
          obtain ⟨⟨b1, b2, b3⟩, a1, e1, f1⟩ := z1
          have hneg : fltI e.1 e.2 < iN 0 := fltI_lt b1 (by omega) (by omega)
          have hne : (fltI e.1 e.2 = iN 0) = False := eq_false (fltI_ne b1 (by omega) (by omega))
          have hno : (iN 0 < fltI e.1 e.2) = False := eq_false (flt_no hneg)
          have ea : ∀ q, q ≠ 14 → q ≠ 44 → ¬ (TS ≤ q ∧ q ≤ TS + 4) → uI a1 14 1 (iN 0) q = a q := fun q q1 q2 q3 => by rw [uI_ne q1]; exact f1 q q2 (by omega) (by omega) (by omega) (by omega) (by omega)
          have k2 := key (uI a1 14 1 (iN 0)) (prR r 6 TS) (fun q hq => ea q (by omega) (by omega) (by omega))
          rw [hy] at k2
          obtain ⟨a2, e2, w8, f2, f3⟩ := k2
          refine ⟨fltI e.1 e.2, uI a1 14 1 (iN 0), b, prR r 6 TS, a2, b, ?_, ?_, ?_⟩
          · simp only [b97_0, c_within, Option.bind_some, Option.toList_some, Option.toList_none, List.cons_append, List.nil_append, true_or, or_true, if_true, bI_if, b97_8, bI_if, g1, b97_11, hT.1, q1, b97_21 hr9 hS, e1, b97_39, hne, b97_49, if_true, if_false, Bool.false_eq_true, true_and, and_true, false_and, and_false, true_or, or_true, false_or, or_false, and_self, or_self, decide_true, decide_false, Bool.not_true, Bool.not_false, Bool.and_true, Bool.and_false, Bool.true_and, Bool.false_and, ite_self]
          · simp only [b189_0, e2, Option.bind_some, Option.toList_some, Option.toList_none, List.cons_append, List.nil_append, true_or, or_true, if_true, bI_if, b189_6, hno, b189_16, if_true, if_false, Bool.false_eq_true, true_and, and_true, false_and, and_false, true_or, or_true, false_or, or_false, and_self, or_self, decide_true, decide_false, Bool.not_true, Bool.not_false, Bool.and_true, Bool.and_false, Bool.true_and, Bool.false_and, ite_self]
          · refine InvS.of (St.updT (a1 := uI a1 14 1 (iN 0)) (b1 := b) (s := 0) (G := σ 10) h (by omega) (fun j hj => absurd hj (Nat.not_lt_zero j)) (fun k _ _ h1 _ _ h2 h3 => ea k h1 h2 h3) ⟨ea 52 (by omega) (by omega) (by omega), ea 54 (by omega) (by omega) (by omega), ea 55 (by omega) (by omega) (by omega), ea 61 (by omega) (by omega) (by omega)⟩ (fun j hj => by rw [uI_nj hj, f1 14 (by omega) (by omega) (by omega) (by omega) (by omega) (by omega)]) uI_self (fun j hj => absurd hj (Nat.not_lt_zero j)) hx.pr (fun _ _ => rfl) (fun k hk => ea k (by omega) (by omega) (by omega)) (fun k hk => f2.1 k (by omega) (by omega)) (fun _ _ => rfl) (fun k hk => by
              by_cases hk2 : 106 ≤ k ∧ k ≤ 111
              · exact f3 k hk2.1 hk2.2
              · exact f2.1 k (by omega) (by omega)) (fun j hj => f2.2.1 j (by omega)) w8 (fun j hj => absurd hj (Nat.not_lt_zero j))) (Nat.le_succ _)
      | inr c =>
        cases hy : pTxt jm (nxS σ len) len isLaw (len + 1) 0 [] with
        | inl e' => rw [hz, hy] at hrel; exact hrel.elim
        | inr c' =>
          rw [hz, hy] at hrel
          have hcc : cleq c c' := hrel
          have hlen := cleq_len c hcc
          rw [hz] at z1
          obtain ⟨a1, e1, t1, f1⟩ := z1
          have h1c : 1 ≤ c.length := by
            have := (pTxt_len (len + 1) 0 [] c hz).2 (by omega)
            exact Nat.le_trans (Nat.le_add_left 1 0) this
          have h16 : c.length ≤ 16 := t1.2.1
          have ea : ∀ q, q ≠ 14 → q ≠ 29 → q ≠ 62 → q ≠ 44 → ¬ (TS ≤ q ∧ q ≤ TS + 4) → fgA (uI a1 14 1 (iN 0)) q = a q := fun q q1 q5 q6 q2 q3 => by rw [fgA_ne q5 q6, uI_ne q1]; exact f1 q q2 (by omega) (by omega) (by omega) (by omega) (by omega)
          obtain ⟨r2, hr2⟩ : ∃ r2, r2 = uR (uR (prR r 6 TS) 14 9 (some TL)) 29 4 (some TS) := ⟨_, rfl⟩
          have k2 := key (fgA (uI a1 14 1 (iN 0))) r2 (fun q hq => ea q (by omega) (by omega) (by omega) (by omega) (by omega))
          rw [hy] at k2
          obtain ⟨a2, e2, w8, f2, t2⟩ := k2
          have hpos : (iN 0 < iN c'.length) = True := by rw [n_lt (by omega) (by omega)]; exact eq_true (by omega)
          have h9' : prR r 6 TS 14 9 = some TS := by rw [prR_ne (by omega)]; exact hr9
          have h4' : prR r 6 TS 29 4 = some TL := by rw [prR_ne (by omega)]; exact hr4
          have eS : fgA (uI a1 14 1 (iN 0)) TS 0 = iN c.length := by rw [fgA_ne (by omega) (by omega), uI_ne (by omega)]; exact t1.1
          have ls : ∀ d', Den (d'+1) 97 51 [.ref 14,.int (iN len),.int (iN 0),zmJ] [] (zmMk n (uI a1 14 1 (iN 0)) b (prR r 6 TS)) = _ := fun d' => l_51 (d := d') (n := n) (a := uI a1 14 1 (iN 0)) (b := b) (v1 := iN len) (v2 := iN 0) h9' h4'
          refine ⟨iN c.length, fgA (uI a1 14 1 (iN 0)), b, r2, uI a2 94 74 (iN 0), b, ?_, ?_, ?_⟩
          · rw [hr2]
            simp only [b97_0, c_within, Option.bind_some, Option.toList_some, Option.toList_none, List.cons_append, List.nil_append, true_or, or_true, if_true, bI_if, b97_8, bI_if, g1, b97_11, hT.1, q1, b97_21 hr9 hS, e1, b97_39, ls, c_forget, b97_79 hS, eS, if_true, if_false, Bool.false_eq_true, true_and, and_true, false_and, and_false, true_or, or_true, false_or, or_false, and_self, or_self, decide_true, decide_false, Bool.not_true, Bool.not_false, Bool.and_true, Bool.and_false, Bool.true_and, Bool.false_and, ite_self]
          · simp only [b189_0, e2, Option.bind_some, Option.toList_some, Option.toList_none, List.cons_append, List.nil_append, true_or, or_true, if_true, bI_if, b189_6, hpos, b189_11, b189_16, hlen, if_true, if_false, Bool.false_eq_true, true_and, and_true, false_and, and_false, true_or, or_true, false_or, or_false, and_self, or_self, decide_true, decide_false, Bool.not_true, Bool.not_false, Bool.and_true, Bool.and_false, Bool.true_and, Bool.false_and, ite_self]
          · obtain ⟨hB, hC, hM, hK⟩ := h
            obtain ⟨x1, x2, x3, x4, x5, x6, x7, x8, x9⟩ := hB
            obtain ⟨c1, c2, c3, c4, c5, c6, c7, c8, c9, c10, c11, c12⟩ := id hC
            have e29 : (uI a1 14 1 (iN 0)) 29 6 = iN A := by rw [uI_ne (by omega), f1 29 (by omega) (by omega) (by omega) (by omega) (by omega) (by omega)]; exact c8.2
            have hBn : StB (fgS (uN σ 0 2 0)) c c' R R' := ⟨x1, x2, x3, ⟨Nat.zero_le _, fun j hj => absurd hj (Nat.not_lt_zero j)⟩, x5, x6, x7.fall, hcc, x9⟩
            have hxn : TxS r2 TS TL TR := by
              obtain ⟨s1, s2, s3, s4, s5, s6, s7, s8, s9⟩ := c10
              refine ⟨s2, s1, s3, fun e => s4 e.symm, fun k hk => ⟨(s5 k hk).2, (s5 k hk).1⟩, s6, ?_, ?_, fun k hk => ?_⟩
              · rw [hr2]; exact if_pos ⟨rfl, rfl⟩
              · rw [hr2, uR_at, if_neg (by omega)]; exact if_pos ⟨rfl, rfl⟩
              · rw [hr2, uR_at, if_neg (by omega), uR_at, if_neg (by omega), prR_ne (by omega)]; exact s9 k hk
            have hg : ∀ k, (k < 14 ∨ (15 ≤ k ∧ k ≤ 28) ∨ k = 63 ∨ k = 64 ∨ k = 52 ∨ k = 54 ∨ k = 55 ∨ k = 61) → fgA (uI a1 14 1 (iN 0)) k = a k := fun k hk => ea k (by omega) (by omega) (by omega) (by omega) (by omega)
            have hTx : ∀ T, isTx T → T ≠ TS → ∀ k, T ≤ k → k ≤ T + 4 → fgA (uI a1 14 1 (iN 0)) k = a k := fun T hX hne k h1 h2 => by
              have := tx_k hX h1 h2
              exact ea k (by omega) (by omega) (by omega) (by omega) (tx_dis hX hS hne h1 h2)
            have hCn : (StC (fgA (uI a1 14 1 (iN 0))) b r2 (fgS (uN σ 0 2 0)) c R TS TL TR (A + 1) ∧ Cac ((fgS (uN σ 0 2 0)) 0 0) ((fgS (uN σ 0 2 0)) 0 5) (QS (fgS (uN σ 0 2 0)) c) (A + 1) (fgA (uI a1 14 1 (iN 0))) b) := by
              refine ⟨⟨c1.ag (fun k hk => hg k (by omega)), c2, c3.ag (fun k h1 h2 => hg k (by omega)), ⟨?_, fun q => (c4.2 q).ag (fun k h1 h2 => hg k (by omega))⟩, ⟨?_, fun j hj => absurd hj (Nat.not_lt_zero j)⟩, by rw [hg 24 (by omega), hg 25 (by omega)]; exact c6, by rw [hg 27 (by omega), hg 28 (by omega)]; exact c7, ⟨?_, fgA_6 e29⟩, fgA_log, hxn, t1.ag (fun k h1 h2 => by rw [fgA_ne (by omega) (by omega), uI_ne (by omega)]), fun k hk => (c12 k hk).ag (fun q h1 h2 => hTx _ (c10.2.2.1 k hk) (c10.2.2.2.2.1 k hk).2 q h1 h2)⟩, hK.forget (by omega) c8.2 (hg 52 (by omega)) (fgA_6 e29) (hg 54 (by omega)) (hg 55 (by omega))⟩
              · rw [fgA_ne (by omega) (by omega), uI_nj (by omega), f1 14 (by omega) (by omega) (by omega) (by omega) (by omega) (by omega)]
                exact c4.1
              · rw [fgA_ne (by omega) (by omega), uI_self]
                rfl
              · rw [fgA_5, uI_ne (by omega), f1 29 (by omega) (by omega) (by omega) (by omega) (by omega) (by omega)]
                exact c8.1
            have hMh := hM.hi (a' := fgA (uI a1 14 1 (iN 0))) (fun q hq => ea q (by omega) (by omega) (by omega) (by omega) (by omega))
            obtain ⟨z1, z2, z3, z4, z5, z6, z7, z8⟩ := hMh
            have f4 : ∀ q, q ≠ 94 → (q < 100 ∨ 111 < q) → uI a2 94 74 (iN 0) q = fgA (uI a1 14 1 (iN 0)) q := fun q q1 q2 => by rw [uI_ne q1]; exact f2.1 q q1 q2
            have f5 : ∀ j, (j < 8 ∨ (20 < j ∧ j ≠ 74)) → uI a2 94 74 (iN 0) 94 j = fgA (uI a1 14 1 (iN 0)) 94 j := fun j hj => by rw [uI_nj (by omega)]; exact f2.2.1 j (by omega)
            have hMn : StM (uI a2 94 74 (iN 0)) (fgS (uN σ 0 2 0)) c' R' := by
              refine ⟨?_, ?_, ⟨?_, fun j hj => absurd hj (Nat.not_lt_zero j)⟩, ?_, ?_, LogM.fall uI_self, t2.ag (fun q h1 h2 => uI_ne (by omega)), fun j hj => ((z8 j hj).frR f2 (by omega)).ag (fun q h1 h2 => uI_ne (by omega))⟩
              · exact z1.ag (fun j hj => f5 j (by omega)) (fun k hk => f4 k (by omega) (by omega))
              · rw [f5 80 (by omega)]
                exact ⟨z2.1, fun q => (z2.2 q).ag (fun j hj => f5 j (by omega)) (fun k hk => f4 k (by omega) (by omega))⟩
              · rw [uI_nj (by omega)]
                exact w8
              · rw [f5 2 (by omega), f4 96 (by omega) (by omega)]
                exact z4
              · rw [f5 4 (by omega), f5 3 (by omega), f4 98 (by omega) (by omega)]
                exact z5
            exact ⟨fgS (uN σ 0 2 0), c, c', R, R', TS, TL, A + 1, TR, ⟨hBn, hCn.1.ag (fun k h1 _ => f4 k (by omega) (by omega)) rfl rfl, hMn, hCn.2.1.ag (f4 52 (by omega) (by omega)) (f4 29 (by omega) (by omega)) (f4 54 (by omega) (by omega)) rfl, hCn.2.2.ag (f4 55 (by omega) (by omega)) (f4 61 (by omega) (by omega)) rfl⟩, Nat.le_refl _⟩
    · have q1 : (iN (σ 0 2) < iN len) = True := by rw [n_lt (by omega) (by omega)]; exact eq_true (by omega)
      have hm1 : (iN 0 < (-1 : Int32)) = False := by decide
      refine ⟨-1, a, b, r, a, b, ?_, ?_, InvS.of h (Nat.le_succ _)⟩
      · simp only [b97_0, c_within, Option.bind_some, Option.toList_some, Option.toList_none, List.cons_append, List.nil_append, true_or, or_true, if_true, bI_if, b97_8, bI_if, g1, b97_11, hT.1, q1, b97_19, if_true, if_false, Bool.false_eq_true, true_and, and_true, false_and, and_false, true_or, or_true, false_or, or_false, and_self, or_self, decide_true, decide_false, Bool.not_true, Bool.not_false, Bool.and_true, Bool.and_false, Bool.true_and, Bool.false_and, ite_self]
      · rw [b189_0, m_readsNo (T := 0) hU.1 (Or.inr (by rw [q1]; trivial))]
        simp only [Option.bind_some, Option.toList_some, Option.toList_none, List.cons_append, List.nil_append, true_or, or_true, if_true, bI_if, b189_6, hm1, b189_16, if_true, if_false, Bool.false_eq_true, true_and, and_true, false_and, and_false, true_or, or_true, false_or, or_false, and_self, or_self, decide_true, decide_false, Bool.not_true, Bool.not_false, Bool.and_true, Bool.and_false, Bool.true_and, Bool.false_and, ite_self]
  · have hm1 : (iN 0 < (-1 : Int32)) = False := by decide
    refine ⟨-1, a, b, r, a, b, ?_, ?_, InvS.of h (Nat.le_succ _)⟩
    · rw [Bool.not_eq_true] at g1
      simp only [b97_0, c_within, Option.bind_some, Option.toList_some, Option.toList_none, List.cons_append, List.nil_append, true_or, or_true, if_true, bI_if, b97_8, bI_if, g1, b97_19, if_true, if_false, Bool.false_eq_true, true_and, and_true, false_and, and_false, true_or, or_true, false_or, or_false, and_self, or_self, decide_true, decide_false, Bool.not_true, Bool.not_false, Bool.and_true, Bool.and_false, Bool.true_and, Bool.false_and, ite_self]
    · rw [b189_0, m_readsNo (T := 0) hU.1 (Or.inl g1)]
      simp only [Option.bind_some, Option.toList_some, Option.toList_none, List.cons_append, List.nil_append, true_or, or_true, if_true, bI_if, b189_6, hm1, b189_16, if_true, if_false, Bool.false_eq_true, true_and, and_true, false_and, and_false, true_or, or_true, false_or, or_false, and_self, or_self, decide_true, decide_false, Bool.not_true, Bool.not_false, Bool.and_true, Bool.and_false, Bool.true_and, Bool.false_and, ite_self]
