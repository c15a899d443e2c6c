/-! ===== DRAWN: the call ===== -/
theorem trL_mono {Q : AQ} {B p x t : Nat} {A : Nat → Nat → Nat} (h : (trL Q B A p x t).2.2.1 ≠ 0) (k : Nat) : trL Q B A p x (t + k) = trL Q B A p x t := by
  induction k with
  | zero => rfl
  | succ k ih =>
    show trL Q B A p x (t + k + 1) = _
    rw [trL_e (by rw [ih]; exact h), ih]
theorem endL_le {Q : AQ} {B p x N : Nat} {A : Nat → Nat → Nat} (hp : p < 4840) (hx : x < 65536) : endL Q B A p x N ≤ 3 := by
  have := (trL_ok (Q := Q) (B := B) (A := A) hp hx N).2.2.1
  unfold endL
  split <;> omega
theorem LogV_tr {Q : AQ} {B p x N : Nat} {A : Nat → Nat → Nat} (hA : ∀ t p, (A t p < 8 ∧ A t p ≠ 4) ∧ (A t p ≠ 0 → mayP Q t p (A t p))) (hp : p < 4840) (hx : x < 65536) : LogV Q N (trL Q B A p x N).2.2.2 (endL Q B A p x N) (fun j => (trL Q B A p x j).1) (fun j => A j (trL Q B A p x j).1) := by
  have hN := trL_ok (Q := Q) (B := B) (A := A) hp hx N
  refine ⟨hN.2.2.2.1, endL_le hp hx, fun e => absurd e endL_ne, fun j _ => (trL_ok (Q := Q) (B := B) (A := A) hp hx j).1, fun j hj => ⟨(hA j _).1, (hA j _).2, ?_⟩⟩
  have hj2 := trL_ok (Q := Q) (B := B) (A := A) hp hx j
  have h0 : (trL Q B A p x j).2.2.1 = 0 := Classical.byContradiction (fun e => by
    have h1 := trL_mono e (N - j)
    have hjN : j ≤ N := Nat.le_of_lt (Nat.lt_of_lt_of_le hj hN.2.2.2.1)
    rw [show j + (N - j) = N by omega] at h1
    rw [h1] at hj
    exact absurd hj2.2.2.2.1 (by omega))
  exact (hj2.2.2.2.2 h0).2
theorem dpM_ge {k j : Nat} (h : dpM k j = true) : 94 ≤ k := by
  simp only [dpM, dpMA, Bool.or_eq_true, Bool.and_eq_true, Nat.beq_eq, Nat.ble_eq] at h
  omega
theorem tldM_hi {a a1 : Nat → Nat → Int32} (h : ∀ q, 94 ≤ q → a1 q = a q) : ∀ q, 94 ≤ q → tldM a1 q = tldM a q := fun q hq => by
  unfold tldM
  rw [h 94 (by omega)]
  funext j
  rw [uI_at, uI_at, uI_at, uI_at, h q hq]
theorem agD_hi {a a1 : Nat → Nat → Int32} (h : ∀ q, 94 ≤ q → a1 q = a q) : agD dpM a a1 := fun k j hp => by rw [h k (dpM_ge hp)]
def dLog (σ : SV) (x L E : Nat) (P G : Nat → Nat) : SV := uRow (uRow (uN (uN (uN σ 0 1 x) 0 6 L) 0 7 E) 13 P) 14 G
theorem p_drawn {d : Nat} {n : Nat} {a : Nat → Nat → Int32} {b : Nat → Nat → Int64} {r : Nat → Nat → Option Nat} {σ : SV} {cl cl' : List Cls} {R R' : Nat → List Cls} {TL TS A : Nat} {TR : Nat → Nat} (h : (St a b r σ cl cl' R R' TL TS TR A)) {v1 v2 v3 : Int32} {s u : Bool} : ∃ (v : Int32) (a1 : Nat → Nat → Int32) (b1 : Nat → Nat → Int64) (r1 : Nat → Nat → Option Nat) (a2 : Nat → Nat → Int32) (b2 : Nat → Nat → Int64), Den (d+60) 116 0 [.ref 14, .int v1, .int v2, .int v3, .int (bI s), .int (bI u), zmJ] [] (zmMk n a b r) = some (some (.int v), zmMk n a1 b1 r1) ∧ Den (d+60) 253 0 [.ref 94, .int v1, .int v2, .int v3, .int (bI s), .int (bI u), zmJ, zmJ] [] (zmMk n a1 b1 r1) = some (some (.int v), zmMk n a2 b2 r1) ∧ InvS a2 b2 r1 (A + 1) := by
  obtain ⟨⟨n1, n8⟩, h16, h94, hs⟩ := h.n8
  have g9 : inI (iN 0) (iN 0) (iN (σ 0 0)) = true := (inI_n (by omega) (by omega) (by omega)).trans (by rw [decide_eq_true (by omega), decide_eq_true (by omega)]; rfl)
  have n10 : (iN 1 = iN 0) = False := by decide +kernel
  rcases m_isTold (d := d+58) (v1 := v1) (n := n) h with ⟨g0, e0⟩ | ⟨g0, e0⟩
  · obtain ⟨g1, hR⟩ := g0
    obtain ⟨k, -, k2, rfl⟩ := inI_ex (by decide) (by decide) g1
    have hk : k < 4 := by omega
    rw [n_nat (by omega)] at hR
    have hT : isTx (TR k) := h.2.1.2.2.2.2.2.2.2.2.2.1.2.2.1 k hk
    have c0 := c_tldT (d := d+59) (n := n) (b := b) h hk hR
    by_cases g2 : isSt v2 v3 = true
    · obtain ⟨i, j, i1, j1, rfl, rfl⟩ := isSt_ex g2
      have hp0 := plc_ltB i1 j1 s u
      have hpY := pY_plB i1 j1 s u
      generalize hpp : plc i j (bN s) (bN u) = p at hp0 hpY
      have hx5 : σ 0 1 < 65536 := h.1.1.2.1
      have hxa : a 16 1 = iN (σ 0 1) := h.2.1.2.2.1.2.1
      obtain ⟨a1, e1, f1, w1, w3, w2, lg⟩ := c_play (d := d+44) (n := n) (b := b) (r := r) (p := p) (x := σ 0 1) rfl hT (h.rulC (n := n) hk) (AS_ok σ cl (R k)) (h.envC (n := n)) hp0 hx5 hxa
      have hi1 : ∀ q, 94 ≤ q → a1 q = a q := fun q hq => f1.1 q (scV_C (scV_n (by omega))) (by omega) (by omega) (by omega) (by omega)
      have hz : (iN i = iN 0) = (i = 0) := n_eq (by omega) (by omega)
      obtain ⟨a0, ha0⟩ : ∃ a0, a0 = uI (uI (uI (tldM a1) 134 0 (iN p)) 94 73 (iN 0)) 94 74 (iN (if pY p = 0 then 1 else 0)) := ⟨_, rfl⟩
      have lm0 : lgM (tldM a1) a0 := by
        rw [ha0]
        exact (lgM.p134.trans (lgM.p94 (by omega))).trans (lgM.p94 (by omega))
      have hag : agD dpM (tldM a) a0 := (agD_hi (tldM_hi hi1)).trans lm0.dp
      have hE0 : EnvM n r a0 (σ 0 0) (σ 0 5) (QS σ cl) := ((h.envT (n := n)).M).ag hag
      have hR0 : RulM n r a0 k (AS σ cl (R k)) := (h.tld.rulM (n := n) hk).ag hag.toMA
      have q1 : a0 94 1 = iN (σ 0 1) := by
        rw [ha0, uI_nj (by omega), uI_nj (by omega), uI_ne (by omega), tldM_hi hi1 94 (by omega)]
        exact h.tld.2.2.1.1.2.1
      have q74 : a0 94 74 = iN (if pY p = 0 then 1 else 0) := by rw [ha0, uI_self]
      have q73 : a0 94 73 = iN 0 := by rw [ha0, uI_nj (by omega), uI_self]
      have q134 : a0 134 0 = iN p := by rw [ha0, uI_ne (by omega), uI_ne (by omega), uI_self]
      obtain ⟨a2, e2, f2, y1, y3, y2, lgm⟩ := m_drawnL (d := d+47) (n := n) (r := r) (v2 := iN i) (v3 := iN j) (v4 := bI s) (v5 := bI u) (AS_ok σ cl (R k)) hp0 hx5 (σ 0 0) 0 zmJ zmJ a0 b (by omega) hE0 hR0 q1 q74 q73 ⟨fun z hz => by
        obtain rfl : z = 0 := Nat.le_zero.mp hz
        exact q134, fun z hz => absurd hz (Nat.not_lt_zero z)⟩
      refine ⟨iN (endL (QS σ cl) (σ 0 5) (AS σ cl (R k)) p (σ 0 1) (σ 0 0)), a1, b, r, a2, b, ?_, ?_, ?_⟩
      · simp only [b116t_0, c0, Option.bind_some, Option.toList_some, Option.toList_none, List.cons_append, List.nil_append, true_or, or_true, if_true, bI_if, b116t_5 hT, b116t_12 hT, c_isState, b116t_17 hT, bI_if, g2, b116t_22 hT, c_placeOf, hpp, b116t_37 hT, e1, b116t_40 hT, w3, if_true, if_false, Bool.false_eq_true, true_and, and_true, false_and, and_false, true_or, or_true, false_or, or_false, and_self, or_self, decide_true, decide_false, Bool.not_true, Bool.not_false, Bool.and_true, Bool.and_false, Bool.true_and, Bool.false_and, ite_self]
      · have e0' : Den (d+59) 191 0 [.ref 94, .int (iN k)] [] (zmMk n a1 b r) = some (some (.int (iN 1)), zmMk n a1 b r) := by
          have hl := (h.reqE (k := k) hk)
          have hin : zmIn (iN (k + 1)) 5 = true := by rw [n_in (by omega)]; exact decide_eq_true (by omega)
          have l3 : (iN 0 < iN (R k).length) = True := by rw [n_lt (by omega) (by omega)]; exact eq_true (List.length_pos_iff.mpr hR)
          have l4 : a1 107 (k + 1) = iN (R k).length := by rw [hi1 107 (by omega)]; exact hl.1
          simp only [b191_0, m_isRule, Option.bind_some, Option.toList_some, Option.toList_none, List.cons_append, List.nil_append, true_or, or_true, if_true, bI_if, b191_4, g1, bI_if, b191_7, n_add, hin, n_nat (show k + 1 < 2147483648 by omega), l4, b191_15, l3, b191_18, b191_23, if_true, if_false, Bool.false_eq_true, true_and, and_true, false_and, and_false, true_or, or_true, false_or, or_false, and_self, or_self, decide_true, decide_false, Bool.not_true, Bool.not_false, Bool.and_true, Bool.and_false, Bool.true_and, Bool.false_and, ite_self]
        have h94' : a1 94 0 = iN (σ 0 0) := by rw [hi1 94 (by omega)]; exact h94
        have i9 : zmIn (iN 0) 9 = true := by decide +kernel
        have pre : Den (d+60) 253 39 [.ref 94,.int (iN k),.int (iN i),.int (iN j),.int (bI s),.int (bI u),zmJ,zmJ] [] (zmMk n (uI (tldM a1) 134 0 (iN p)) b r) = Den (d+60) 253 57 [.ref 94,.int (iN k),.int (iN i),.int (iN j),.int (bI s),.int (bI u),zmJ,zmJ] [] (zmMk n a0 b r) := by
          rw [b253_39, ha0, hpY]
          simp only [hz]
          by_cases hi0 : i = 0
          · rw [if_pos hi0, if_pos hi0, b253_49, b253_54]
          · rw [if_neg hi0, if_neg hi0, b253_53, b253_54]
        simp only [b253_0, e0', Option.bind_some, Option.toList_some, Option.toList_none, List.cons_append, List.nil_append, true_or, or_true, if_true, bI_if, b253_5, n10, b253_8, m_isState h94', g9, b253_15, bI_if, g2, b253_20, m_asTold, b253_24, m_told, hpp, b253_38, i9, n_nat (show 0 < 2147483648 by omega), pre, e2, if_true, if_false, Bool.false_eq_true, true_and, and_true, false_and, and_false, true_or, or_true, false_or, or_false, and_self, or_self, decide_true, decide_false, Bool.not_true, Bool.not_false, Bool.and_true, Bool.and_false, Bool.true_and, Bool.false_and, ite_self]
      · obtain ⟨hB, hC, hM, hK⟩ := h
        obtain ⟨x1, x2, x3, x4, x5, x6, x7, x8, x9⟩ := hB
        obtain ⟨c1, c2, c3, c4, c5, c6, c7, c8, c9, c10, c11, c12⟩ := id hC
        have ho := trL_ok (Q := QS σ cl) (B := σ 0 5) (A := AS σ cl (R k)) hp0 hx5 (σ 0 0)
        obtain ⟨τ, hτ⟩ : ∃ τ, τ = dLog σ (trL (QS σ cl) (σ 0 5) (AS σ cl (R k)) p (σ 0 1) (σ 0 0)).2.1 (trL (QS σ cl) (σ 0 5) (AS σ cl (R k)) p (σ 0 1) (σ 0 0)).2.2.2 (endL (QS σ cl) (σ 0 5) (AS σ cl (R k)) p (σ 0 1) (σ 0 0)) (fun j => (trL (QS σ cl) (σ 0 5) (AS σ cl (R k)) p (σ 0 1) j).1) (fun j => AS σ cl (R k) j (trL (QS σ cl) (σ 0 5) (AS σ cl (R k)) p (σ 0 1) j).1) := ⟨_, rfl⟩
        have hlv := LogV_tr (Q := QS σ cl) (B := σ 0 5) (N := σ 0 0) (AS_ok σ cl (R k)) hp0 hx5
        have hBn : StB τ cl cl' R R' := by
          rw [hτ]
          exact ⟨⟨x1.1, ho.2.1, x1.2.2⟩, x2, x3, x4, x5, x6, hlv, x8, x9⟩
        have hu : ∀ q, q < 94 → scV q = false → q ≠ 16 → ¬ (62 ≤ q ∧ q ≤ 64) → a1 q = a q := fun q _ hq h1 h2 => f1.1 q (scV_C hq) h1 (by omega) (by omega) (by omega)
        have hv : ∀ q, scC q = false → q ≠ 16 → ¬ (62 ≤ q ∧ q ≤ 64) → a1 q = a q := fun q hq h1 h2 => f1.1 q hq h1 (by omega) (by omega) (by omega)
        have hCn : (StC a1 b r τ cl R TL TS TR A ∧ Cac (τ 0 0) (τ 0 5) (QS τ cl) A a1 b) := by
          rw [hτ]
          refine ⟨hC.upd (fun q h1 h2 h3 h4 => hu q h1 h2 (by omega) h4) rfl rfl ?_ ?_ ?_ ?_ ?_ ?_ ?_, hK.1.ag (hv 52 rfl (by omega) (by omega)) (hv 29 rfl (by omega) (by omega)) (hv 54 rfl (by omega) (by omega)) rfl, hK.2.ag (hv 55 rfl (by omega) (by omega)) (hv 61 rfl (by omega) (by omega)) rfl⟩
          · obtain ⟨y1, y2, y3, y4, y5⟩ := c3
            refine ⟨?_, w1, ?_, ?_, ?_⟩
            · rw [f1.2.1 0 (by omega)]; exact y1
            · rw [hv 17 rfl (by omega) (by omega)]; exact y3
            · rw [hv 18 rfl (by omega) (by omega)]; exact y4
            · rw [hv 19 rfl (by omega) (by omega)]; exact y5
          · rw [hv 14 rfl (by omega) (by omega)]
            exact ⟨c4.1, fun q => (c4.2 q).ag (fun k h1 h2 => hv k (scV_C (scV_n (by omega))) (by omega) (by omega))⟩
          · rw [hv 14 rfl (by omega) (by omega), hv 15 rfl (by omega) (by omega)]
            exact c5
          · rw [hv 24 rfl (by omega) (by omega), hv 25 rfl (by omega) (by omega)]
            exact c6
          · rw [hv 27 rfl (by omega) (by omega), hv 28 rfl (by omega) (by omega)]
            exact c7
          · rw [hv 29 rfl (by omega) (by omega)]
            exact c8
          · exact ⟨w2, w3, fun _ z hz => lg.1 z hz, fun z hz => lg.2 z hz⟩
        have hMh := hM.hi (a' := a1) hi1
        have hMt : StM (tldM a1) σ cl' R' := hMh.ag (fun k h1 _ _ _ => by
          unfold tldM
          rw [uI_ne (by omega), uI_ne (by omega)]) (fun j hj => tldM_at a1 (by omega))
        have lm : lgM (tldM a1) a2 := lm0.trans f2
        obtain ⟨z1, z2, z3, z4, z5, z6, z7, z8⟩ := hMt
        have f4 : ∀ q, q ≠ 94 → q ≠ 112 → q ≠ 113 → q ≠ 134 → q ≠ 135 → a2 q = tldM a1 q := fun q q1 q2 q3 q4 q5 => lm.1 q (by
          cases hs : scM q with
          | false => rfl
          | true =>
            simp only [scM, Bool.or_eq_true, Nat.beq_eq] at hs
            omega) q1 q4 q5
        have f5 : ∀ j, j ≠ 1 → j ≠ 73 → j ≠ 74 → a2 94 j = tldM a1 94 j := lm.2
        have hMn : StM a2 τ cl' R' := by
          rw [hτ]
          refine ⟨?_, ?_, ?_, ?_, ?_, ⟨y3, fun _ => ⟨y2, fun z hz => lgm.1 z hz, fun z hz => lgm.2 z hz⟩⟩, z7.ag (fun q h1 h2 => f4 q (by omega) (by omega) (by omega) (by omega) (by omega)), fun j hj => (z8 j hj).ag (fun q h1 h2 => f4 q (by omega) (by omega) (by omega) (by omega) (by omega))⟩
          · obtain ⟨y1', y2', y3', y4', y5', y6', y7'⟩ := z1
            refine ⟨?_, y1, ?_, ?_, ?_, ?_, ?_⟩
            · rw [f5 0 (by omega) (by omega) (by omega)]; exact y1'
            · rw [f5 64 (by omega) (by omega) (by omega)]; exact y3'
            · rw [f5 65 (by omega) (by omega) (by omega)]; exact y4'
            · rw [f4 127 (by omega) (by omega) (by omega) (by omega) (by omega), f4 (127 + 1) (by omega) (by omega) (by omega) (by omega) (by omega), f4 (127 + 2) (by omega) (by omega) (by omega) (by omega) (by omega), f4 (127 + 3) (by omega) (by omega) (by omega) (by omega) (by omega)]; exact y5'
            · rw [f4 (127 + 4) (by omega) (by omega) (by omega) (by omega) (by omega), f4 (127 + 5) (by omega) (by omega) (by omega) (by omega) (by omega), f4 (127 + 6) (by omega) (by omega) (by omega) (by omega) (by omega)]; exact y6'
            · rw [f4 136 (by omega) (by omega) (by omega) (by omega) (by omega)]; exact y7'
          · rw [f5 80 (by omega) (by omega) (by omega)]
            exact ⟨z2.1, fun q => (z2.2 q).ag (fun j hj => f5 j (by omega) (by omega) (by omega)) (fun k hk => f4 k (by omega) (by omega) (by omega) (by omega) (by omega))⟩
          · rw [f5 8 (by omega) (by omega) (by omega), f4 95 (by omega) (by omega) (by omega) (by omega) (by omega)]
            exact z3
          · rw [f5 2 (by omega) (by omega) (by omega), f4 96 (by omega) (by omega) (by omega) (by omega) (by omega)]
            exact z4
          · rw [f5 4 (by omega) (by omega) (by omega), f5 3 (by omega) (by omega) (by omega), f4 98 (by omega) (by omega) (by omega) (by omega) (by omega)]
            exact z5
        exact InvS.of (St.mkJ hBn hCn hMn (fun q hq => by
          rw [f4 q (by omega) (by omega) (by omega) (by omega) (by omega)]
          unfold tldM
          rw [uI_ne (by omega), uI_ne (by omega)]) (fun _ _ => rfl)) (Nat.le_succ _)
    · refine ⟨-1, a, b, r, a, b, ?_, ?_, InvS.of h (Nat.le_succ _)⟩
      · rw [Bool.not_eq_true] at g2
        simp only [b116t_0, c0, Option.bind_some, Option.toList_some, Option.toList_none, List.cons_append, List.nil_append, true_or, or_true, if_true, bI_if, b116t_5 hT, b116t_12 hT, c_isState, b116t_17 hT, bI_if, g2, b116t_20 hT, if_true, if_false, Bool.false_eq_true, true_and, and_true, false_and, and_false, true_or, or_true, false_or, or_false, and_self, or_self, decide_true, decide_false, Bool.not_true, Bool.not_false, Bool.and_true, Bool.and_false, Bool.true_and, Bool.false_and, ite_self]
      · rw [Bool.not_eq_true] at g2
        simp only [b253_0, e0, Option.bind_some, Option.toList_some, Option.toList_none, List.cons_append, List.nil_append, true_or, or_true, if_true, bI_if, b253_5, n10, b253_8, m_isState h94, g9, b253_15, bI_if, g2, b253_18, if_true, if_false, Bool.false_eq_true, true_and, and_true, false_and, and_false, true_or, or_true, false_or, or_false, and_self, or_self, decide_true, decide_false, Bool.not_true, Bool.not_false, Bool.and_true, Bool.and_false, Bool.true_and, Bool.false_and, ite_self]
  · refine ⟨-1, a, b, r, a, b, ?_, ?_, InvS.of h (Nat.le_succ _)⟩
    · rw [b116n_0, c_tldN h g0]
      simp only [Option.bind_some, Option.toList_some, Option.toList_none, List.cons_append, List.nil_append, true_or, or_true, if_true, bI_if, b116n_5, b116n_20]
    · rw [b253_0, e0]
      simp only [Option.bind_some, Option.toList_some, Option.toList_none, List.cons_append, List.nil_append, true_or, or_true, if_true, bI_if, b253_5, b253_18, if_true, if_false, Bool.false_eq_true, true_and, and_true, false_and, and_false, true_or, or_true, false_or, or_false, and_self, or_self, decide_true, decide_false, Bool.not_true, Bool.not_false, Bool.and_true, Bool.and_false, Bool.true_and, Bool.false_and, ite_self]
