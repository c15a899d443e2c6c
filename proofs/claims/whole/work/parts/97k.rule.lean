/-! ===== RULES: the call ===== -/
/-- another RULE in a row of RULES -/
def upK {α : Type} (f : Nat → α) (k : Nat) (v : α) : Nat → α := fun j => if j = k then v else f j
theorem upK_at {α : Type} (f : Nat → α) (k : Nat) (v : α) : upK f k v k = v := if_pos rfl
theorem upK_ne {α : Type} {f : Nat → α} {k j : Nat} {v : α} (h : j ≠ k) : upK f k v j = f j := if_neg h
theorem not_rule {v1 : Int32} (h : ¬ inI v1 (iN 0) (iN 3) = true) : v1 < iN 0 ∨ (¬ v1 < iN 0 ∧ ¬ v1 < iN 4) := by
  by_cases h0 : v1 < iN 0
  · exact Or.inl h0
  · refine Or.inr ⟨h0, fun h4 => h ?_⟩
    unfold inI
    rw [decide_eq_false h0, decide_eq_false (show ¬ iN 3 < v1 from fun e => by
      rw [Int32.lt_iff_toInt_lt, n_toI (by omega)] at e
      rw [Int32.lt_iff_toInt_lt, n_toI (by omega)] at h4
      omega)]
    rfl
set_option maxHeartbeats 2000000 in
theorem p_rule {d : Nat} {n : Nat} {a : Nat → Nat → Int32} {b : Nat → Nat → Int64} {r : Nat → Nat → Option Nat} {σ : SV} {cl cl' : List Cls} {R R' : Nat → List Cls} {TL TS A : Nat} {TR : Nat → Nat} (h : (St a b r σ cl cl' R R' TL TS TR A)) {v1 v2 : Int32} : ∃ (v : Int32) (a1 : Nat → Nat → Int32) (b1 : Nat → Nat → Int64) (r1 : Nat → Nat → Option Nat) (a2 : Nat → Nat → Int32) (b2 : Nat → Nat → Int64), Den (d+60) 98 0 [.ref 14, .int v1, .int v2, zmJ, zmJ] [] (zmMk n a b r) = some (some (.int v), zmMk n a1 b1 r1) ∧ Den (d+60) 192 0 [.ref 94, .int v1, .int v2] [] (zmMk n a1 b1 r1) = some (some (.int v), zmMk n a2 b2 r1) ∧ InvS a2 b2 r1 (A + 1) := by
  have hT : TapC a (σ 0 2) (σ 10) := h.2.1.2.2.2.2.1
  have hU : TapM a (σ 0 2) (σ 10) := h.2.2.1.2.2.1
  have hs : σ 0 2 ≤ 260 ∧ ∀ j, j < σ 0 2 → σ 10 j < 256 := h.1.2.2.2.1
  have hx := h.2.1.2.2.2.2.2.2.2.2.2.1
  have hr9 : r 14 9 = some TS := hx.2.2.2.2.2.2.2.1
  have hS : isTx TS := hx.2.1
  have kS := tx_of hS
  by_cases g0 : inI v1 (iN 0) (iN 3) = true
  · obtain ⟨k, -, k3, rfl⟩ := inI_ex (by decide) (by decide) g0
    have hk : k < 4 := by omega
    have u0 : (iN k < iN 0) = False := eq_false (ng (by omega))
    have u4 : (iN k < iN 4) = True := eq_true (lt_p hk (by omega))
    have hrk : r 37 k = some (TR k) := hx.2.2.2.2.2.2.2.2 k hk
    by_cases g1 : inI v2 (iN 1) (iN 240) = true
    · obtain ⟨len, l1, l8, rfl⟩ := inI_ex (by decide) (by decide) g1
      by_cases g2 : len ≤ σ 0 2
      · have q1 : (iN (σ 0 2) < iN len) = False := by rw [n_lt (by omega) (by omega)]; exact eq_false (by omega)
        have hn := nxS_end σ len
        have hlt := nxS_lt hs.2 g2
        have bC : ∀ j, j < len → a 15 j = iN (nxS σ len j) := fun j hj => by
          unfold nxS
          rw [if_pos hj]
          exact hT.2 j (by omega)
        have z1 : PrR n TS b (prR r 8 TS) a (pTxt jn (nxS σ len) len isRul (len + 1) 0 []) (Den (d+59) 35 0 [.ref 44, .ref 15, .int (iN len), .ref 8, .ref TS, zmJ] [] (zmMk n a b r)) := c_parser (d := d+39) (n := n) (b := b) (r := r) hS (by omega) hn hlt bC h.2.1.1 (let_rul rfl)
        have hTL : isTL (k + 1) = isRul := if_neg (by omega)
        have key : ∀ (a1 : Nat → Nat → Int32) (r1 : Nat → Nat → Option Nat), (∀ q, 94 ≤ q → a1 q = a q) → RdM n (k + 1) b r1 a1 (pTxt jm (nxS σ len) len isRul (len + 1) 0 []) (Den (d+59) 188 0 [.ref 94, .int (iN (k + 1)), .int (iN len), zmJ, zmJ, zmJ] [] (zmMk n a1 b r1)) := fun a1 r1 h1 => by
          have hU1 : TapM a1 (σ 0 2) (σ 10) := by
            unfold TapM
            rw [h1 94 (by omega), h1 95 (by omega)]
            exact hU
          have := m_reads (d := d+51) (n := n) (b := b) (r := r1) (T := k + 1) (by omega) l1 (by omega) hU1.1 g2 hs.1 hn hlt (nxS_and hU1 hs.2 g2)
          rw [hTL] at this
          exact this
        have hrel : ctR (pTxt jn (nxS σ len) len isRul (len + 1) 0 []) (pTxt jm (nxS σ len) len isRul (len + 1) 0 []) := rl_txt hn (by decide) (len + 1) 0 [] [] (Nat.zero_le _) trivial
        cases hz : pTxt jn (nxS σ len) len isRul (len + 1) 0 [] with
        | inl e =>
          cases hy : pTxt jm (nxS σ len) len isRul (len + 1) 0 [] with
          | inr c' => rw [hz, hy] at hrel; exact hrel.elim
          | inl e' =>
            rw [hz, hy] at hrel
            have hee : e = e' := hrel
            subst hee
            rw [hz] at z1
            obtain ⟨⟨b1, b2, b3⟩, a1, e1, f1⟩ := z1
            have hne : (fltI e.1 e.2 = iN 0) = False := eq_false (fltI_ne b1 (by omega) (by omega))
            have ea : ∀ q, q ≠ 14 → q ≠ 44 → ¬ (TS ≤ q ∧ q ≤ TS + 4) → uI a1 14 1 (iN 0) q = a q := fun q q1 q2 q3 => by rw [uI_ne q1]; exact f1 q q2 (by omega) (by omega) (by omega) (by omega) (by omega)
            have k2 := key (uI a1 14 1 (iN 0)) (prR r 8 TS) (fun q hq => ea q (by omega) (by omega) (by omega))
            rw [hy] at k2
            obtain ⟨a2, e2, w8, f2, f3⟩ := k2
            refine ⟨fltI e.1 e.2, uI a1 14 1 (iN 0), b, prR r 8 TS, a2, b, ?_, ?_, ?_⟩
            · simp only [rl_0, u0, rl_4, u4, rl_13, c_within, Option.bind_some, Option.toList_some, Option.toList_none, List.cons_append, List.nil_append, true_or, or_true, if_true, bI_if, rl_21, bI_if, g1, rl_24, hT.1, q1, rl_34 hr9, e1, rl_52, hne, rl_62, if_true, if_false, Bool.false_eq_true, true_and, and_true, false_and, and_false, true_or, or_true, false_or, or_false, and_self, or_self, decide_true, decide_false, Bool.not_true, Bool.not_false, Bool.and_true, Bool.and_false, Bool.true_and, Bool.false_and, ite_self]
            · simp only [b192_0, m_isRule, Option.bind_some, Option.toList_some, Option.toList_none, List.cons_append, List.nil_append, true_or, or_true, if_true, bI_if, b192_4, bI_if, g0, b192_7, n_add, e2, b192_15, b192_19, if_true, if_false, Bool.false_eq_true, true_and, and_true, false_and, and_false, true_or, or_true, false_or, or_false, and_self, or_self, decide_true, decide_false, Bool.not_true, Bool.not_false, Bool.and_true, Bool.and_false, Bool.true_and, Bool.false_and, ite_self]
            · refine InvS.of (St.updT (a1 := uI a1 14 1 (iN 0)) (b1 := b) (s := 0) (G := σ 10) h (by omega) (fun j hj => absurd hj (Nat.not_lt_zero j)) (fun k _ _ h1 _ _ h2 h3 => ea k h1 h2 h3) ⟨ea 52 (by omega) (by omega) (by omega), ea 54 (by omega) (by omega) (by omega), ea 55 (by omega) (by omega) (by omega), ea 61 (by omega) (by omega) (by omega)⟩ (fun j hj => by rw [uI_nj hj, f1 14 (by omega) (by omega) (by omega) (by omega) (by omega) (by omega)]) uI_self (fun j hj => absurd hj (Nat.not_lt_zero j)) hx.pr (fun _ _ => rfl) (fun k hk => ea k (by omega) (by omega) (by omega)) (fun k hk => f2.1 k (by omega) (by omega)) (fun _ _ => rfl) (fun k hk => by
                by_cases hk2 : 106 ≤ k ∧ k ≤ 111
                · exact f3 k hk2.1 hk2.2
                · exact f2.1 k (by omega) (by omega)) (fun j hj => f2.2.1 j (by omega)) w8 (fun j hj => absurd hj (Nat.not_lt_zero j))) (Nat.le_succ _)
        | inr c =>
          cases hy : pTxt jm (nxS σ len) len isRul (len + 1) 0 [] with
          | inl e' => rw [hz, hy] at hrel; exact hrel.elim
          | inr c' =>
            rw [hz, hy] at hrel
            have hcc : cleq c c' := hrel
            have hlen := cleq_len c hcc
            have h97 : ∀ x, x ∈ c' → x.1 = 97 := fun x hx => of_decide_eq_true (pTxt_let (len + 1) 0 [] c' (fun c hc => absurd hc (List.not_mem_nil)) hy x hx)
            rw [hz] at z1
            obtain ⟨a1, e1, t1, f1⟩ := z1
            have ea : ∀ q, q ≠ 14 → q ≠ 44 → ¬ (TS ≤ q ∧ q ≤ TS + 4) → uI a1 14 1 (iN 0) q = a q := fun q q1 q2 q3 => by rw [uI_ne q1]; exact f1 q q2 (by omega) (by omega) (by omega) (by omega) (by omega)
            obtain ⟨r2, hr2⟩ : ∃ r2, r2 = uR (uR (prR r 8 TS) 14 9 (some (TR k))) 37 k (some TS) := ⟨_, rfl⟩
            have k2 := key (uI a1 14 1 (iN 0)) r2 (fun q hq => ea q (by omega) (by omega) (by omega))
            rw [hy] at k2
            obtain ⟨a2, e2, w8, f2, t2⟩ := k2
            have h9' : prR r 8 TS 14 9 = some TS := by rw [prR_ne (by omega)]; exact hr9
            have hk' : prR r 8 TS 37 k = some (TR k) := by rw [prR_ne (by omega)]; exact hrk
            have eS : uI a1 14 1 (iN 0) TS 0 = iN c.length := by rw [uI_ne (by omega)]; exact t1.1
            have ls : ∀ d', Den d' 98 64 [.ref 14,.int (iN k),.int (iN len),.int (iN 0),zmJ] [] (zmMk n (uI a1 14 1 (iN 0)) b (prR r 8 TS)) = _ := fun d' => rl_64 (d := d') (n := n) (a := uI a1 14 1 (iN 0)) (b := b) (v2 := iN len) (v3 := iN 0) hk h9' hk' hS
            refine ⟨iN c.length, uI a1 14 1 (iN 0), b, r2, a2, b, ?_, ?_, ?_⟩
            · rw [hr2]
              simp only [rl_0, u0, rl_4, u4, rl_13, c_within, Option.bind_some, Option.toList_some, Option.toList_none, List.cons_append, List.nil_append, true_or, or_true, if_true, bI_if, rl_21, bI_if, g1, rl_24, hT.1, q1, rl_34 hr9, e1, rl_52, ls, eS, if_true, if_false, Bool.false_eq_true, true_and, and_true, false_and, and_false, true_or, or_true, false_or, or_false, and_self, or_self, decide_true, decide_false, Bool.not_true, Bool.not_false, Bool.and_true, Bool.and_false, Bool.true_and, Bool.false_and, ite_self]
            · simp only [b192_0, m_isRule, Option.bind_some, Option.toList_some, Option.toList_none, List.cons_append, List.nil_append, true_or, or_true, if_true, bI_if, b192_4, bI_if, g0, b192_7, n_add, e2, b192_15, b192_19, hlen, if_true, if_false, Bool.false_eq_true, true_and, and_true, false_and, and_false, true_or, or_true, false_or, or_false, and_self, or_self, decide_true, decide_false, Bool.not_true, Bool.not_false, Bool.and_true, Bool.and_false, Bool.true_and, Bool.false_and, ite_self]
            · obtain ⟨hB, hC, hM, hK⟩ := h
              obtain ⟨x1, x2, x3, x4, x5, x6, x7, x8, x9⟩ := hB
              obtain ⟨c1, c2, c3, c4, c5, c6, c7, c8, c9, c10, c11, c12⟩ := id hC
              have hBn : StB (uN σ 0 2 0) cl cl' (upK R k c) (upK R' k c') := ⟨x1, x2, x3, ⟨Nat.zero_le _, fun j hj => absurd hj (Nat.not_lt_zero j)⟩, x5, x6, x7, x8, fun j hj => by
                by_cases hjk : j = k
                · rw [hjk, upK_at, upK_at]
                  exact ⟨hcc, h97⟩
                · rw [upK_ne hjk, upK_ne hjk]
                  exact x9 j hj⟩
              obtain ⟨s1, s2, s3, s4, s5, s6, s7, s8, s9⟩ := id c10
              have hxn : TxS r2 TL (TR k) (upK TR k TS) := by
                refine ⟨s1, s3 k hk, fun j hj => ?_, fun e => (s5 k hk).1 e.symm, fun j hj => ?_, fun i j hi hj hij => ?_, ?_, ?_, fun j hj => ?_⟩
                · by_cases hjk : j = k
                  · rw [hjk, upK_at]; exact s2
                  · rw [upK_ne hjk]; exact s3 j hj
                · by_cases hjk : j = k
                  · rw [hjk, upK_at]; exact ⟨fun e => s4 e.symm, fun e => (s5 k hk).2 e.symm⟩
                  · rw [upK_ne hjk]; exact ⟨(s5 j hj).1, s6 j k hj hk hjk⟩
                · by_cases hik : i = k
                  · rw [hik, upK_at, upK_ne (show j ≠ k by omega)]
                    exact fun e => (s5 j hj).2 e.symm
                  · rw [upK_ne hik]
                    by_cases hjk : j = k
                    · rw [hjk, upK_at]; exact (s5 i hi).2
                    · rw [upK_ne hjk]; exact s6 i j hi hj hij
                · rw [hr2, uR_at, if_neg (by omega), uR_at, if_neg (by omega), prR_ne (by omega)]; exact s7
                · rw [hr2, uR_at, if_neg (by omega)]; exact if_pos ⟨rfl, rfl⟩
                · rw [hr2, uR_at]
                  by_cases hjk : j = k
                  · rw [if_pos ⟨rfl, hjk⟩, hjk, upK_at]
                  · rw [if_neg (fun z => hjk z.2), uR_at, if_neg (by omega), prR_ne (by omega), upK_ne hjk]; exact s9 j hj
              have hg : ∀ k, (k < 14 ∨ (15 ≤ k ∧ k ≤ 29) ∨ (62 ≤ k ∧ k ≤ 64) ∨ k = 52 ∨ k = 54 ∨ k = 55 ∨ k = 61) → uI a1 14 1 (iN 0) k = a k := fun k hk => ea k (by omega) (by omega) (by omega)
              have hTx : ∀ T, isTx T → T ≠ TS → ∀ k, T ≤ k → k ≤ T + 4 → uI a1 14 1 (iN 0) k = a k := fun T hX hne k h1 h2 => by
                have := tx_k hX h1 h2
                exact ea k (by omega) (by omega) (tx_dis hX hS hne h1 h2)
              have hCn : (StC (uI a1 14 1 (iN 0)) b r2 (uN σ 0 2 0) cl (upK R k c) TL (TR k) (upK TR k TS) A ∧ Cac (σ 0 0) (σ 0 5) (QS σ cl) A (uI a1 14 1 (iN 0)) b) := by
                refine ⟨⟨c1.ag (fun k hk => hg k (by omega)), c2, c3.ag (fun k h1 h2 => hg k (by omega)), ⟨?_, fun q => (c4.2 q).ag (fun k h1 h2 => hg k (by omega))⟩, ⟨?_, fun j hj => absurd hj (Nat.not_lt_zero j)⟩, by rw [hg 24 (by omega), hg 25 (by omega)]; exact c6, by rw [hg 27 (by omega), hg 28 (by omega)]; exact c7, by rw [hg 29 (by omega)]; exact c8, c9.ag (fun k h1 h2 => hg k (by omega)), hxn, c11.ag (fun k h1 h2 => hTx _ s1 s4 k h1 h2), fun j hj => ?_⟩, hK.1.ag (hg 52 (by omega)) (hg 29 (by omega)) (hg 54 (by omega)) rfl, hK.2.ag (hg 55 (by omega)) (hg 61 (by omega)) rfl⟩
                · rw [uI_nj (by omega), f1 14 (by omega) (by omega) (by omega) (by omega) (by omega) (by omega)]
                  exact c4.1
                · rw [uI_self]
                  rfl
                · by_cases hjk : j = k
                  · rw [hjk, upK_at, upK_at]
                    exact t1.ag (fun k h1 h2 => by rw [uI_ne (by omega)])
                  · rw [upK_ne hjk, upK_ne hjk]
                    exact (c12 j hj).ag (fun q h1 h2 => hTx _ (s3 j hj) (s5 j hj).2 q h1 h2)
              have hMh := hM.hi (a' := uI a1 14 1 (iN 0)) (fun q hq => ea q (by omega) (by omega) (by omega))
              obtain ⟨z1, z2, z3, z4, z5, z6, z7, z8⟩ := hMh
              have hMn : StM a2 (uN σ 0 2 0) cl' (upK R' k c') := by
                refine ⟨?_, ?_, ⟨w8, fun j hj => absurd hj (Nat.not_lt_zero j)⟩, ?_, ?_, z6.ag (f2.2.1 73 (by omega)) (f2.2.1 74 (by omega)) (f2.1 134 (by omega) (by omega)) (f2.1 135 (by omega) (by omega)), z7.frR f2 (by omega), fun j hj => ?_⟩
                · exact z1.ag (fun j hj => f2.2.1 j (by omega)) (fun k hk => f2.1 k (by omega) (by omega))
                · rw [f2.2.1 80 (by omega)]
                  exact ⟨z2.1, fun q => (z2.2 q).ag (fun j hj => f2.2.1 j (by omega)) (fun k hk => f2.1 k (by omega) (by omega))⟩
                · rw [f2.2.1 2 (by omega), f2.1 96 (by omega) (by omega)]
                  exact z4
                · rw [f2.2.1 4 (by omega), f2.2.1 3 (by omega), f2.1 98 (by omega) (by omega)]
                  exact z5
                · by_cases hjk : j = k
                  · rw [hjk, upK_at]; exact t2
                  · rw [upK_ne hjk]
                    exact (z8 j hj).frR f2 (by omega)
              have f4 : ∀ q, q < 94 → a2 q = uI a1 14 1 (iN 0) q := fun q hq => f2.1 q (by omega) (by omega)
              exact ⟨uN σ 0 2 0, cl, cl', upK R k c, upK R' k c', TL, TR k, A, upK TR k TS, ⟨hBn, hCn.1.ag (fun k h1 _ => f4 k h1) rfl rfl, hMn, hCn.2.1.ag (f4 52 (by omega)) (f4 29 (by omega)) (f4 54 (by omega)) rfl, hCn.2.2.ag (f4 55 (by omega)) (f4 61 (by omega)) rfl⟩, Nat.le_succ _⟩
      · have q1 : (iN (σ 0 2) < iN len) = True := by rw [n_lt (by omega) (by omega)]; exact eq_true (by omega)
        refine ⟨-1, a, b, r, a, b, ?_, ?_, InvS.of h (Nat.le_succ _)⟩
        · simp only [rl_0, u0, rl_4, u4, rl_13, c_within, Option.bind_some, Option.toList_some, Option.toList_none, List.cons_append, List.nil_append, true_or, or_true, if_true, bI_if, rl_21, bI_if, g1, rl_24, hT.1, q1, rl_32, if_true, if_false, Bool.false_eq_true, true_and, and_true, false_and, and_false, true_or, or_true, false_or, or_false, and_self, or_self, decide_true, decide_false, Bool.not_true, Bool.not_false, Bool.and_true, Bool.and_false, Bool.true_and, Bool.false_and, ite_self]
        · simp only [b192_0, m_isRule, Option.bind_some, Option.toList_some, Option.toList_none, List.cons_append, List.nil_append, true_or, or_true, if_true, bI_if, b192_4, bI_if, g0, b192_7, n_add, m_readsNo (T := k + 1) hU.1 (Or.inr (by rw [q1]; trivial)), b192_15, b192_19, if_true, if_false, Bool.false_eq_true, true_and, and_true, false_and, and_false, true_or, or_true, false_or, or_false, and_self, or_self, decide_true, decide_false, Bool.not_true, Bool.not_false, Bool.and_true, Bool.and_false, Bool.true_and, Bool.false_and, ite_self]
    · refine ⟨-1, a, b, r, a, b, ?_, ?_, InvS.of h (Nat.le_succ _)⟩
      · rw [Bool.not_eq_true] at g1
        simp only [rl_0, u0, rl_4, u4, rl_13, c_within, Option.bind_some, Option.toList_some, Option.toList_none, List.cons_append, List.nil_append, true_or, or_true, if_true, bI_if, rl_21, bI_if, g1, rl_32, if_true, if_false, Bool.false_eq_true, true_and, and_true, false_and, and_false, true_or, or_true, false_or, or_false, and_self, or_self, decide_true, decide_false, Bool.not_true, Bool.not_false, Bool.and_true, Bool.and_false, Bool.true_and, Bool.false_and, ite_self]
      · simp only [b192_0, m_isRule, Option.bind_some, Option.toList_some, Option.toList_none, List.cons_append, List.nil_append, true_or, or_true, if_true, bI_if, b192_4, bI_if, g0, b192_7, n_add, m_readsNo (T := k + 1) hU.1 (Or.inl g1), b192_15, b192_19, if_true, if_false, Bool.false_eq_true, true_and, and_true, false_and, and_false, true_or, or_true, false_or, or_false, and_self, or_self, decide_true, decide_false, Bool.not_true, Bool.not_false, Bool.and_true, Bool.and_false, Bool.true_and, Bool.false_and, ite_self]
  · have hq := not_rule g0
    refine ⟨-1, a, b, r, a, b, ?_, ?_, InvS.of h (Nat.le_succ _)⟩
    · rw [rl_0]
      rcases hq with hq | ⟨hq, hq4⟩
      · rw [if_pos hq, rl_32]
      · rw [if_neg hq, rl_4, if_neg hq4, rl_32]
    · rw [Bool.not_eq_true] at g0
      simp only [b192_0, m_isRule, Option.bind_some, Option.toList_some, Option.toList_none, List.cons_append, List.nil_append, true_or, or_true, if_true, bI_if, b192_4, bI_if, g0, b192_18, b192_19, if_true, if_false, Bool.false_eq_true, true_and, and_true, false_and, and_false, true_or, or_true, false_or, or_false, and_self, or_self, decide_true, decide_false, Bool.not_true, Bool.not_false, Bool.and_true, Bool.and_false, Bool.true_and, Bool.false_and, ite_self]
