/-! ===== questions: blind (the class) ===== -/
theorem lay61' : zmLay 61 = (20, 4) := by decide +kernel
def bldF (σ : SV) (cl : List Cls) (p : Nat) : Int64 × Nat := fldO (valR (QS σ cl) (σ 0 5) (σ 0 0) p) (-2000000000000000000) (7 ^ (σ 0 0))
def bldW (σ : SV) (cl : List Cls) (p : Nat) (v5 : Int32) : Int64 := if v5 = iN 20 then (bldF σ cl p).1 else if v5 = iN 21 then VB (QS σ cl) (σ 0 5) false (σ 0 0) 0 p - (bldF σ cl p).1 else Int32.toInt64 (iN (rowOf (σ 0 0) (bldF σ cl p).2 v5.toNatClampNeg))
def blindV (σ : SV) (cl : List Cls) (v1 v2 : Int32) (s u : Bool) (v5 : Int32) : Int64 := if σ 0 0 ≤ 4 ∧ isSt v1 v2 = true ∧ (inI v5 (iN 20) (iN 21) = true ∨ inI v5 (iN 0) (iN (σ 0 0 - 1)) = true) then bldW σ cl (plI v1 v2 s u) v5 else -2000000000000000000
theorem p7_le {j : Nat} (h : j ≤ 4) : 7 ^ j ≤ 2401 := by
  rcases (by omega : j = 0 ∨ j = 1 ∨ j = 2 ∨ j = 3 ∨ j = 4) with rfl | rfl | rfl | rfl | rfl <;> decide
/-- the search, if it was not done for this place -/
theorem c_srow {d p : Nat} {v1 v2 v3 v4 v5 v6 : Int32} {n : Nat} {a : Nat → Nat → Int32} {b : Nat → Nat → Int64} {r : Nat → Nat → Option Nat} {σ : SV} {cl cl' : List Cls} {R R' : Nat → List Cls} {TL TS A : Nat} {TR : Nat → Nat} (h : (St a b r σ cl cl' R R' TL TS TR A)) (hA : A ≤ 90000) (hN : σ 0 0 ≤ 4) (hp : p < 4840) : ∃ a' b', Den (d+22) 106 60 [.ref 14,.int v1,.int v2,.int v3,.int v4,.int v5,.int v6,zmJ] [.int (iN p)] (zmMk n a b r) = Den (d+22) 106 82 [.ref 14,.int v1,.int v2,.int v3,.int v4,.int v5,.int v6,.int (iN p)] [] (zmMk n a' b' r) ∧ (St a' b' r σ cl cl' R R' TL TS TR A) ∧ BR (σ 0 0) (valR (QS σ cl) (σ 0 5) (σ 0 0) p) (-2000000000000000000) a' b' (7 ^ (σ 0 0)) := by
  obtain ⟨c8, c6⟩ := h.2.1.2.2.2.2.2.2.2.1
  have hbl := h.2.2.2.2
  have miss : a 55 8 ≠ iN A ∨ a 55 9 ≠ iN p → ∃ a' b', Den (d+22) 106 60 [.ref 14,.int v1,.int v2,.int v3,.int v4,.int v5,.int v6,zmJ] [.int (iN p)] (zmMk n a b r) = Den (d+22) 106 82 [.ref 14,.int v1,.int v2,.int v3,.int v4,.int v5,.int v6,.int (iN p)] [] (zmMk n a' b' r) ∧ (St a' b' r σ cl cl' R R' TL TS TR A) ∧ BR (σ 0 0) (valR (QS σ cl) (σ 0 5) (σ 0 0) p) (-2000000000000000000) a' b' (7 ^ (σ 0 0)) := fun hm => by
    obtain ⟨a0, ha0⟩ : ∃ a0, a0 = uI (uI a 55 8 (iN A)) 55 9 (iN p) := ⟨_, rfl⟩
    obtain ⟨b0, hb0⟩ : ∃ b0, b0 = uL b 55 7 (-2000000000000000000) := ⟨_, rfl⟩
    have hE0 : EnvC n r a0 (σ 0 0) (σ 0 5) (QS σ cl) := by
      rw [ha0]
      exact h.envC.ag ((agD.refl.put rfl).put rfl)
    have hb2 : ∀ k, k ≠ 55 → b0 k = b k := fun k hk => by
      rw [hb0]
      funext j
      rw [uL_at, if_neg (by omega)]
    have hT0 : TabC b0 := h.2.1.2.1.fr (hb2 2 (by omega)) (hb2 3 (by omega))
    obtain ⟨a1, b1, c1, e1, R1, k1, o1⟩ := c_begin (d := d+8) (n := n) (r := r) (A := arow (QS σ cl) (rowOf (σ 0 0) 0)) (vt := iN 0) (vp := iN p) rfl rfl (Nat.zero_le _) hp hE0 hT0
    have hall : ∀ x, 0 * 7 ^ (σ 0 0) ≤ x → x < (0 + 1) * 7 ^ (σ 0 0) → RowI (σ 0 0) (σ 0 5) (QS σ cl) (arow (QS σ cl) (rowOf (σ 0 0) x)) a1 b1 0 c1 1 (fun w => FF (QS σ cl) (σ 0 5) (arow (QS σ cl) (rowOf (σ 0 0) x)) (σ 0 0) 0 p w) := fun x _ _ => by
      obtain ⟨a2, b2, c2, e2, R2, k2, -⟩ := c_begin (d := d+8) (n := n) (r := r) (A := arow (QS σ cl) (rowOf (σ 0 0) x)) (vt := iN 0) (vp := iN p) rfl rfl (Nat.zero_le _) hp hE0 hT0
      obtain ⟨rfl, rfl⟩ := zmk_inj (e1.symm.trans e2)
      obtain ⟨-, -, r1, -⟩ := R1
      obtain ⟨-, -, r2, -⟩ := id R2
      have : c2 = c1 := by
        have e := r2.symm.trans r1
        rw [n_eq (by omega) (by omega)] at e
        exact e
      rw [this] at R2
      exact R2
    have hini := (val_big (QF_B cl (σ 0 0) (sK σ) (sW σ)) (B := σ 0 5) (p := p) (x := 0) hN)
    have hb57 : b1 55 7 = -2000000000000000000 := by
      rw [o1.2.2.2.1 55 (by omega) (by omega), hb0, uL_at, if_pos ⟨rfl, rfl⟩]
    obtain ⟨a2, b2, e2, B2, o2⟩ := c_search (n := n) (N := σ 0 0) (B := σ 0 5) (p := p) (r := r) (Q := QS σ cl) hN hini (σ 0 0) (d + 2) 0 0 c1 (iN 0) a1 b1 (by omega) rfl (hE0.ag o1.ag) (o1.tab hT0) (by omega) hall (fun j hj => absurd hj (by omega)) ⟨by rw [hb57, Nat.zero_mul]; rfl, fun hz => absurd hz (by omega)⟩
    rw [Nat.zero_add, Nat.one_mul] at B2
    have e2' : Den (d+21) 12 0 [.ref 55, .int (iN 0), zmJ] [] (zmMk n a1 b1 r) = some (none, zmMk n a2 b2 r) := Den_depth (by omega) e2
    have hq : fqC a a2 := fun k hk => by
      have h1 : scC k = false := scV_C hk
      have hx : ¬ ((52 ≤ k ∧ k ≤ 61)) := fun z => by rw [scV_of (Or.inr (Or.inr (Or.inr (Or.inr (Or.inr (Or.inr (Or.inr (Or.inl z)))))))) ] at hk; cases hk
      rw [o2.1 k h1 (by omega) (by omega) (by omega) (by omega), o1.1 k h1 (by omega) (by omega), ha0]
      funext j
      rw [uI_at, if_neg (by omega), uI_at, if_neg (by omega)]
    have hbk : ∀ k, k ≠ 55 → k ≠ 58 → k ≠ 59 → b2 k = b k := fun k x y z => by rw [o2.2.2.2.1 k y z x, o1.2.2.2.1 k y z, hb2 k x]
    have h55 : ∀ j, a2 55 j = a0 55 j := fun j => by rw [o2.1 55 rfl (by omega) (by omega) (by omega) (by omega), o1.1 55 rfl (by omega) (by omega)]
    have hBest : BestOk (σ 0 0) (σ 0 5) (QS σ cl) 0 a2 b2 := h.2.2.2.1.ag (by
      rw [o2.1 52 rfl (by omega) (by omega) (by omega) (by omega), o1.1 52 rfl (by omega) (by omega), ha0]
      funext j
      rw [uI_at, if_neg (by omega), uI_at, if_neg (by omega)]) (hq 29 rfl) (by
      rw [o2.1 54 rfl (by omega) (by omega) (by omega) (by omega), o1.1 54 rfl (by omega) (by omega), ha0]
      funext j
      rw [uI_at, if_neg (by omega), uI_at, if_neg (by omega)]) (hbk 53 (by omega) (by omega) (by omega))
    have h558 : a2 55 8 = iN A := by rw [h55, ha0, uI_at, if_neg (by omega), uI_at, if_pos ⟨rfl, rfl⟩]
    have h559 : a2 55 9 = iN p := by rw [h55, ha0, uI_at, if_pos ⟨rfl, rfl⟩]
    have hBld : BldOk (σ 0 0) (σ 0 5) (QS σ cl) A a2 b2 := ⟨fun hh h1 h2 => by
      rw [h558]
      exact eq_n (by omega) (by omega) (by omega), fun _ => ⟨p, hp, h559, hN, B2⟩⟩
    refine ⟨a2, b2, ?_, h.qc hq (hbk 2 (by omega) (by omega) (by omega)) (hbk 3 (by omega) (by omega) (by omega)) ⟨hBest, hBld⟩, B2⟩
    have e0 : Den (d+21) 11 0 [.ref 55, .int (iN p)] [] (zmMk n a b r) = some (some (.int (iN 1)), zmMk n a1 b1 r) := by
      rw [b11_0, c6]
      have e24 : Den (d+21) 11 24 [.ref 55,.int (iN p)] [] (zmMk n a b r) = some (some (.int (iN 1)), zmMk n a1 b1 r) := by
        rw [b11_24, c6, ← ha0, ← hb0, e1]
        simp only [Option.bind_some, Option.toList_some, Option.toList_none, List.cons_append, List.nil_append, true_or, or_true, if_true, bI_if, b11_53]
      by_cases hx : a 55 8 = iN A
      · have hy := hm.resolve_left (fun z => z hx)
        rw [if_pos hx, b11_14, if_neg hy, e24]
      · rw [if_neg hx, e24]
    rw [b106_60, e0]
    simp only [Option.bind_some, Option.toList_some, Option.toList_none, List.cons_append, List.nil_append, true_or, or_true, if_true, bI_if]
    rw [b106_71, if_neg (by decide +kernel), b106_74, e2']
    simp only [Option.bind_some, Option.toList_some, Option.toList_none, List.cons_append, List.nil_append, true_or, or_true, if_true, bI_if]
  by_cases hx : a 55 8 = iN A
  · obtain ⟨p', q1, q2, q3, q4⟩ := hbl.2 hx
    by_cases hy : a 55 9 = iN p
    · have : p' = p := by
        have e := q2.symm.trans hy
        rw [n_eq (by omega) (by omega)] at e
        exact e
      rw [this] at q4
      refine ⟨a, b, ?_, h, q4⟩
      have e0 : Den (d+21) 11 0 [.ref 55, .int (iN p)] [] (zmMk n a b r) = some (some (.int (iN 0)), (zmMk n a b r)) := by rw [b11_0, c6, if_pos hx, b11_14, if_pos hy, b11_22]
      rw [b106_60, e0]
      simp only [Option.bind_some, Option.toList_some, Option.toList_none, List.cons_append, List.nil_append, true_or, or_true, if_true, bI_if]
      rw [b106_71, if_pos rfl]
    · exact miss (Or.inr hy)
  · exact miss (Or.inl hx)
theorem c_blind {d : Nat} {n : Nat} {a : Nat → Nat → Int32} {b : Nat → Nat → Int64} {r : Nat → Nat → Option Nat} {σ : SV} {cl cl' : List Cls} {R R' : Nat → List Cls} {TL TS A : Nat} {TR : Nat → Nat} (h : (St a b r σ cl cl' R R' TL TS TR A)) (hA : A ≤ 90000) {v1 v2 v5 : Int32} {s u : Bool} : ∃ a' b', Den (d+41) 106 0 [.ref 14, .int v1, .int v2, .int (bI s), .int (bI u), .int v5, zmJ, zmJ] [] (zmMk n a b r) = some (some (.long (blindV σ cl v1 v2 s u v5)), zmMk n a' b' r) ∧ St a' b' r σ cl cl' R R' TL TS TR A := by
  obtain ⟨⟨n1, n8⟩, h16, h94, hs⟩ := h.n8
  unfold blindV
  rw [b106_0, h16]
  by_cases gN : σ 0 0 ≤ 4
  · rw [if_neg (show ¬ iN 4 < iN (σ 0 0) by rw [n_lt (by omega) (by omega)]; omega), b106_15, c_isState]
    simp only [Option.bind_some, Option.toList_some, Option.toList_none, List.cons_append, List.nil_append, true_or, or_true, if_true, bI_if]
    rw [b106_20, bI_if]
    by_cases g1 : isSt v1 v2 = true
    · rw [if_pos g1]
      obtain ⟨i, j, i1, j1, rfl, rfl⟩ := isSt_ex g1
      have hp := plc_ltB i1 j1 s u
      by_cases g2 : inI v5 (iN 20) (iN 21) = true ∨ inI v5 (iN 0) (iN (σ 0 0 - 1)) = true
      · rw [if_pos ⟨gN, g1, g2⟩, plI_n i1 j1]
        have hst : Den (d+41) 106 23 [.ref 14,.int (iN i),.int (iN j),.int (bI s),.int (bI u),.int v5,.int (iN (σ 0 0)),zmJ] [] (zmMk n a b r) = Den (d+41) 106 60 [.ref 14,.int (iN i),.int (iN j),.int (bI s),.int (bI u),.int v5,.int (iN (σ 0 0)),zmJ] [.int (iN (plc i j (bN s) (bN u)))] (zmMk n a b r) := by
          rw [b106_23, c_within]
          simp only [Option.bind_some, Option.toList_some, Option.toList_none, List.cons_append, List.nil_append, true_or, or_true, if_true, bI_if]
          rw [b106_32, bI_if]
          by_cases g3 : inI v5 (iN 20) (iN 21) = true
          · rw [if_pos g3, b106_52, c_placeOf]
            simp only [Option.bind_some, Option.toList_some, Option.toList_none, List.cons_append, List.nil_append, true_or, or_true, if_true, bI_if]
          · rw [if_neg g3, b106_35, hs, c_within]
            simp only [Option.bind_some, Option.toList_some, Option.toList_none, List.cons_append, List.nil_append, true_or, or_true, if_true, bI_if]
            rw [b106_45, bI_if, if_pos (g2.resolve_left g3), b106_52, c_placeOf]
            simp only [Option.bind_some, Option.toList_some, Option.toList_none, List.cons_append, List.nil_append, true_or, or_true, if_true, bI_if]
        obtain ⟨a1, b1, e1, h1, B1⟩ := c_srow (d := d+19) (v1 := iN i) (v2 := iN j) (v3 := bI s) (v4 := bI u) (v5 := v5) (v6 := iN (σ 0 0)) (n := n) h hA gN hp
        rw [hst, e1, b106_82]
        have h7 : 0 < 7 ^ (σ 0 0) := Nat.pow_pos (by omega)
        have hb : b1 55 7 = (bldF σ cl (plc i j (bN s) (bN u))).1 := B1.1
        unfold bldW
        by_cases g4 : v5 = iN 20
        · rw [if_pos g4, if_pos g4]
          exact ⟨a1, b1, by rw [b106_89, hb], h1⟩
        · rw [if_neg g4, if_neg g4, b106_97]
          by_cases g5 : v5 = iN 21
          · rw [if_pos g5, if_pos g5]
            obtain ⟨a2, b2, e2, f2, l2⟩ : ∃ a2 b2, Den (d+40) 2 0 [.ref 52, .int (iN 0), .int (iN (plc i j (bN s) (bN u))), zmJ, zmJ, zmJ, zmJ, zmJ, zmJ, zmJ, zmJ, zmJ, zmJ] [] (zmMk n a1 b1 r) = some (some (.long (VB (QS σ cl) (σ 0 5) false (σ 0 0) 0 (plc i j (bN s) (bN u)))), zmMk n a2 b2 r) ∧ (St a2 b2 r σ cl cl' R R' TL TS TR A) ∧ b2 55 = b1 55 := by
              obtain ⟨a2, b2, e2, k2, f2, l2, -⟩ := c_value (n := n) (N := σ 0 0) (B := σ 0 5) (r := r) (Q := QS σ cl) (mn := 0) (by omega) (σ 0 0) (by omega) 0 0 (plc i j (bN s) (bN u)) _ _ a1 b1 (by omega) rfl rfl hp h1.envC h1.2.2.2.1 h1.2.1.2.1
              exact ⟨a2, b2, Den_depth (by omega) e2, h1.qB k2 f2 l2, l2 55 rfl⟩
            refine ⟨a2, b2, ?_, f2⟩
            rw [b106_104, e2]
            simp only [Option.bind_some, Option.toList_some, Option.toList_none, List.cons_append, List.nil_append, true_or, or_true, if_true, bI_if]
            rw [b106_114, b106_138, l2, hb]
          · rw [if_neg g5, if_neg g5]
            have g6 : inI v5 (iN 0) (iN (σ 0 0 - 1)) = true := g2.resolve_left (fun z => by
              obtain ⟨k, k1, k2, rfl⟩ := inI_ex (by decide) (by decide) z
              rcases (by omega : k = 20 ∨ k = 21) with rfl | rfl
              · exact g4 rfl
              · exact g5 rfl)
            obtain ⟨k, -, k2, rfl⟩ := inI_ex (by decide) (by omega) g6
            have hk := B1.2 h7 k (by omega)
            refine ⟨a1, b1, ?_, h1⟩
            rw [b106_125, c_item lay61' (by omega) (by omega) (by omega), itV_n (by omega) (by omega), hk]
            simp only [Option.bind_some, Option.toList_some, Option.toList_none, List.cons_append, List.nil_append, true_or, or_true, if_true, bI_if]
            rw [b106_137, b106_138, n_nat (by omega)]
            rfl
      · rw [if_neg (fun z => g2 z.2.2)]
        refine ⟨a, b, ?_, h⟩
        rw [b106_23, c_within]
        simp only [Option.bind_some, Option.toList_some, Option.toList_none, List.cons_append, List.nil_append, true_or, or_true, if_true, bI_if]
        rw [b106_32, bI_if, if_neg (fun z => g2 (Or.inl z)), b106_35, hs, c_within]
        simp only [Option.bind_some, Option.toList_some, Option.toList_none, List.cons_append, List.nil_append, true_or, or_true, if_true, bI_if]
        rw [b106_45, bI_if, if_neg (fun z => g2 (Or.inr z)), b106_48]
    · rw [if_neg g1, if_neg (fun z => g1 z.2.1), b106_48]
      exact ⟨a, b, rfl, h⟩
  · rw [if_pos (show iN 4 < iN (σ 0 0) by rw [n_lt (by omega) (by omega)]; omega), if_neg (fun z => gN z.1), b106_48]
    exact ⟨a, b, rfl, h⟩
