/-! ===== tries ===== -/
theorem try_1_1 {d : Nat} {n : Nat} {a : Nat → Nat → Int32} {b : Nat → Nat → Int64} {r : Nat → Nat → Option Nat} {σ : SV} {cl cl' : List Cls} {R R' : Nat → List Cls} {TL TS A : Nat} {TR : Nat → Nat} (h : (St a b r σ cl cl' R R' TL TS TR A)) (hl : σ 9 0 + σ 9 2 < 60) : ∃ (v : Int32) (a1 : Nat → Nat → Int32) (b1 : Nat → Nat → Int64) (r1 : Nat → Nat → Option Nat) (a2 : Nat → Nat → Int32) (b2 : Nat → Nat → Int64), Den (d+60) 119 0 [.ref 14, .int (iN 1), .int (iN 1)] [] (zmMk n a b r) = some (some (.int v), zmMk n a1 b1 r1) ∧ Den (d+60) 257 0 [.ref 94, .int (iN 1), .int (iN 1), zmJ] [] (zmMk n a1 b1 r1) = some (some (.int v), zmMk n a2 b2 r1) ∧ InvS a2 b2 r1 (A + 1) := by
  obtain ⟨hB, hC, hM, hK⟩ := id h
  have q10 : (iN 1 = iN 0) = False := by decide +kernel
  have K : ∀ j, j < 4 → a 19 j = iN (σ 9 j) := hC.2.2.1.2.2.2.2
  have L : ∀ j, j < 4 → a 136 j = iN (σ 9 j) := hM.1.2.2.2.2.2.2
  have K0 := K 0 (by omega)
  have K1 := K 1 (by omega)
  have K2 := K 2 (by omega)
  have K3 := K 3 (by omega)
  have L0 := L 0 (by omega)
  have L1 := L 1 (by omega)
  have L2 := L 2 (by omega)
  have L3 := L 3 (by omega)
  have hlt : (iN (σ 9 0 + σ 9 2) < iN 60) = True := by rw [n_lt (by omega) (by omega)]; exact eq_true hl
  have hne : (iN (σ 9 0 + σ 9 2) = iN 60) = False := by rw [n_eq (by omega) (by omega)]; exact eq_false (by omega)
  have i0 : zmIn (iN 0) 4 = true := by decide +kernel
  have i1 : zmIn (iN 1) 4 = true := by decide +kernel
  have t0 : (iN 0).toNatClampNeg = 0 := by decide +kernel
  have t1 : (iN 1).toNatClampNeg = 1 := by decide +kernel
  have t2 : iN 0 + iN 1 = iN 1 := by decide +kernel
  refine ⟨iN (σ 9 0 + 1 + σ 9 2), uI (uI a 19 0 (iN (σ 9 0 + 1))) 19 1 (iN (σ 9 1 + 1)), b, r, uI (uI (uI (uI a 19 0 (iN (σ 9 0 + 1))) 19 1 (iN (σ 9 1 + 1))) 136 0 (iN (σ 9 0 + 1))) 136 1 (iN (σ 9 1 + 1)), b, ?_, ?_, ?_⟩
  · simp only [b119_0, b75_0, Option.bind_some, Option.toList_some, Option.toList_none, List.cons_append, List.nil_append, true_or, or_true, if_true, bI_if, b119_7, K0, K1, K2, K3, n_add, hlt, b119_14, b76_0, q10, b76_4, b76_8, b76_9, i0, t0, b76_17, b76_20, b76_24, t2, i1, t1, b76_33, b76_36, b119_23, b119_30, uI_at, if_true, if_false, Bool.false_eq_true, true_and, and_true, false_and, and_false, true_or, or_true, false_or, or_false, and_self, or_self, decide_true, decide_false, Bool.not_true, Bool.not_false, Bool.and_true, Bool.and_false, Bool.true_and, Bool.false_and, ite_self, show (19 = 19) = True from eq_true rfl, show (0 = 1) = False from by decide, show (1 = 0) = False from by decide, show (2 = 3) = False from by decide, show (3 = 2) = False from by decide, show (0 = 2) = False from by decide, show (0 = 3) = False from by decide, show (2 = 0) = False from by decide, show (2 = 1) = False from by decide, show (1 = 2) = False from by decide]
  · simp only [b257_0, Option.bind_some, Option.toList_some, Option.toList_none, List.cons_append, List.nil_append, true_or, or_true, if_true, bI_if, K0, L0, L1, L2, L3, n_add, hne, b257_20, q10, b257_24, b257_28, b257_29, i0, t0, b257_41, b257_44, b257_48, t2, i1, t1, b257_63, b257_66, uI_at, if_true, if_false, Bool.false_eq_true, true_and, and_true, false_and, and_false, true_or, or_true, false_or, or_false, and_self, or_self, decide_true, decide_false, Bool.not_true, Bool.not_false, Bool.and_true, Bool.and_false, Bool.true_and, Bool.false_and, ite_self, show (136 = 136) = True from eq_true rfl, show (136 = 19) = False from by decide, show (0 = 1) = False from by decide, show (1 = 0) = False from by decide, show (2 = 3) = False from by decide, show (3 = 2) = False from by decide, show (0 = 2) = False from by decide, show (0 = 3) = False from by decide, show (2 = 0) = False from by decide, show (2 = 1) = False from by decide, show (1 = 2) = False from by decide]
  · obtain ⟨x1, x2, x3, x4, x5, x6, x7, x8, x10⟩ := hB
    obtain ⟨c1, c2, c3, c4, c5, c6, c7, c8, c9, c10, c11, c12⟩ := id hC
    have hG : σ 9 0 + σ 9 2 ≤ 60 ∧ σ 9 1 ≤ σ 9 0 ∧ σ 9 3 ≤ σ 9 2 := x1.2.2.2.2
    have ea : ∀ q, q ≠ 19 → (uI (uI a 19 0 (iN (σ 9 0 + 1))) 19 1 (iN (σ 9 1 + 1))) q = a q := fun q h1 => by rw [uI_ne h1, uI_ne h1]
    have hBn : StB (uN (uN σ 9 0 (σ 9 0 + 1)) 9 1 (σ 9 1 + 1)) cl cl' R R' := ⟨⟨x1.1, x1.2.1, x1.2.2.1, x1.2.2.2.1, by show σ 9 0 + 1 + σ 9 2 ≤ 60; omega, by show σ 9 1 + 1 ≤ σ 9 0 + 1; omega, by show σ 9 3 ≤ σ 9 2; omega⟩, x2, x3, x4, x5, x6, x7, x8, x10⟩
    have hCn : (StC (uI (uI a 19 0 (iN (σ 9 0 + 1))) 19 1 (iN (σ 9 1 + 1))) b r (uN (uN σ 9 0 (σ 9 0 + 1)) 9 1 (σ 9 1 + 1)) cl R TL TS TR A ∧ Cac ((uN (uN σ 9 0 (σ 9 0 + 1)) 9 1 (σ 9 1 + 1)) 0 0) ((uN (uN σ 9 0 (σ 9 0 + 1)) 9 1 (σ 9 1 + 1)) 0 5) (QS (uN (uN σ 9 0 (σ 9 0 + 1)) 9 1 (σ 9 1 + 1)) cl) A (uI (uI a 19 0 (iN (σ 9 0 + 1))) 19 1 (iN (σ 9 1 + 1))) b) := by
      refine CC.upd0 ⟨hC, hK⟩ (fun q _ h1 _ => ea q (by omega)) rfl rfl rfl ?_ ?_ ?_ ?_ ?_ ?_
      · obtain ⟨y1, y2, y3, y4, y5⟩ := c3
        refine ⟨?_, ?_, ?_, ?_, ?_⟩
        · rw [ea 16 (by omega)]; exact y1
        · rw [ea 16 (by omega)]; exact y2
        · rw [ea 17 (by omega)]; exact y3
        · rw [ea 18 (by omega)]; exact y4
        · intro j hj
          rcases (by omega : j = 0 ∨ j = 1 ∨ j = 2 ∨ j = 3) with rfl | rfl | rfl | rfl
          · exact rfl
          · exact rfl
          · exact K 2 (by omega)
          · exact K 3 (by omega)
      · rw [ea 14 (by omega)]
        exact ⟨c4.1, fun q => (c4.2 q).ag (fun k h1 h2 => ea k (by omega))⟩
      · rw [ea 14 (by omega), ea 15 (by omega)]
        exact c5
      · rw [ea 24 (by omega), ea 25 (by omega)]
        exact c6
      · rw [ea 27 (by omega), ea 28 (by omega)]
        exact c7
      · exact c9.ag (fun q h1 h2 => ea q (by omega))
    have hMh := hM.hi (a' := uI (uI a 19 0 (iN (σ 9 0 + 1))) 19 1 (iN (σ 9 1 + 1))) (fun q hq => ea q (by omega))
    obtain ⟨z1, z2, z3, z4, z5, z6, z7, z8⟩ := hMh
    have eb : ∀ q, q ≠ 136 → q ≠ 136 → (uI (uI (uI (uI a 19 0 (iN (σ 9 0 + 1))) 19 1 (iN (σ 9 1 + 1))) 136 0 (iN (σ 9 0 + 1))) 136 1 (iN (σ 9 1 + 1))) q = (uI (uI a 19 0 (iN (σ 9 0 + 1))) 19 1 (iN (σ 9 1 + 1))) q := fun q h1 _ => by rw [uI_ne h1, uI_ne h1]
    have ec : ∀ j, j ≠ 1000 → (uI (uI (uI (uI a 19 0 (iN (σ 9 0 + 1))) 19 1 (iN (σ 9 1 + 1))) 136 0 (iN (σ 9 0 + 1))) 136 1 (iN (σ 9 1 + 1))) 94 j = (uI (uI a 19 0 (iN (σ 9 0 + 1))) 19 1 (iN (σ 9 1 + 1))) 94 j := fun j h1 => by rw [eb 94 (by omega) (by omega)]
    have hMn : StM (uI (uI (uI (uI a 19 0 (iN (σ 9 0 + 1))) 19 1 (iN (σ 9 1 + 1))) 136 0 (iN (σ 9 0 + 1))) 136 1 (iN (σ 9 1 + 1))) (uN (uN σ 9 0 (σ 9 0 + 1)) 9 1 (σ 9 1 + 1)) cl' R' := by
      refine ⟨?_, ?_, ?_, ?_, ?_, z6.ag (ec 73 (by omega)) (ec 74 (by omega)) (eb 134 (by omega) (by omega)) (eb 135 (by omega) (by omega)), z7.ag (fun q h1 h2 => eb q (by omega) (by omega)), fun j hj => (z8 j hj).ag (fun q h1 h2 => eb q (by omega) (by omega))⟩
      · obtain ⟨y1, y2, y3, y4, y5, y6, y7⟩ := z1
        refine ⟨?_, ?_, ?_, ?_, ?_, ?_, ?_⟩
        · rw [ec 0 (by omega)]; exact y1
        · rw [ec 1 (by omega)]; exact y2
        · rw [ec 64 (by omega)]; exact y3
        · rw [ec 65 (by omega)]; exact y4
        · rw [eb 127 (by omega) (by omega), eb (127 + 1) (by omega) (by omega), eb (127 + 2) (by omega) (by omega), eb (127 + 3) (by omega) (by omega)]; exact y5
        · rw [eb (127 + 4) (by omega) (by omega), eb (127 + 5) (by omega) (by omega), eb (127 + 6) (by omega) (by omega)]; exact y6
        · intro j hj
          rcases (by omega : j = 0 ∨ j = 1 ∨ j = 2 ∨ j = 3) with rfl | rfl | rfl | rfl
          · exact rfl
          · exact rfl
          · exact L 2 (by omega)
          · exact L 3 (by omega)
      · rw [ec 80 (by omega)]
        exact ⟨z2.1, fun q => (z2.2 q).ag (fun j hj => ec j (by omega)) (fun k h => eb k (by omega) (by omega))⟩
      · rw [ec 8 (by omega), eb 95 (by omega) (by omega)]
        exact z3
      · rw [ec 2 (by omega), eb 96 (by omega) (by omega)]
        exact z4
      · rw [ec 4 (by omega), ec 3 (by omega), eb 98 (by omega) (by omega)]
        exact z5
    exact InvS.of (St.mkJ hBn hCn hMn (fun q hq => eb q (by omega) (by omega)) (fun _ _ => rfl)) (Nat.le_succ _)
theorem try_1_0 {d : Nat} {n : Nat} {a : Nat → Nat → Int32} {b : Nat → Nat → Int64} {r : Nat → Nat → Option Nat} {σ : SV} {cl cl' : List Cls} {R R' : Nat → List Cls} {TL TS A : Nat} {TR : Nat → Nat} (h : (St a b r σ cl cl' R R' TL TS TR A)) (hl : σ 9 0 + σ 9 2 < 60) : ∃ (v : Int32) (a1 : Nat → Nat → Int32) (b1 : Nat → Nat → Int64) (r1 : Nat → Nat → Option Nat) (a2 : Nat → Nat → Int32) (b2 : Nat → Nat → Int64), Den (d+60) 119 0 [.ref 14, .int (iN 1), .int (iN 0)] [] (zmMk n a b r) = some (some (.int v), zmMk n a1 b1 r1) ∧ Den (d+60) 257 0 [.ref 94, .int (iN 1), .int (iN 0), zmJ] [] (zmMk n a1 b1 r1) = some (some (.int v), zmMk n a2 b2 r1) ∧ InvS a2 b2 r1 (A + 1) := by
  obtain ⟨hB, hC, hM, hK⟩ := id h
  have q10 : (iN 1 = iN 0) = False := by decide +kernel
  have K : ∀ j, j < 4 → a 19 j = iN (σ 9 j) := hC.2.2.1.2.2.2.2
  have L : ∀ j, j < 4 → a 136 j = iN (σ 9 j) := hM.1.2.2.2.2.2.2
  have K0 := K 0 (by omega)
  have K1 := K 1 (by omega)
  have K2 := K 2 (by omega)
  have K3 := K 3 (by omega)
  have L0 := L 0 (by omega)
  have L1 := L 1 (by omega)
  have L2 := L 2 (by omega)
  have L3 := L 3 (by omega)
  have hlt : (iN (σ 9 0 + σ 9 2) < iN 60) = True := by rw [n_lt (by omega) (by omega)]; exact eq_true hl
  have hne : (iN (σ 9 0 + σ 9 2) = iN 60) = False := by rw [n_eq (by omega) (by omega)]; exact eq_false (by omega)
  have i0 : zmIn (iN 0) 4 = true := by decide +kernel
  have i1 : zmIn (iN 1) 4 = true := by decide +kernel
  have t0 : (iN 0).toNatClampNeg = 0 := by decide +kernel
  have t1 : (iN 1).toNatClampNeg = 1 := by decide +kernel
  have t2 : iN 0 + iN 1 = iN 1 := by decide +kernel
  refine ⟨iN (σ 9 0 + 1 + σ 9 2), uI a 19 0 (iN (σ 9 0 + 1)), b, r, uI (uI a 19 0 (iN (σ 9 0 + 1))) 136 0 (iN (σ 9 0 + 1)), b, ?_, ?_, ?_⟩
  · simp only [b119_0, b75_0, Option.bind_some, Option.toList_some, Option.toList_none, List.cons_append, List.nil_append, true_or, or_true, if_true, bI_if, b119_7, K0, K1, K2, K3, n_add, hlt, b119_14, b76_0, q10, b76_4, b76_8, b76_9, i0, t0, b76_17, b76_20, b76_24, t2, i1, t1, b76_33, b76_36, b119_23, b119_30, uI_at, if_true, if_false, Bool.false_eq_true, true_and, and_true, false_and, and_false, true_or, or_true, false_or, or_false, and_self, or_self, decide_true, decide_false, Bool.not_true, Bool.not_false, Bool.and_true, Bool.and_false, Bool.true_and, Bool.false_and, ite_self, show (19 = 19) = True from eq_true rfl, show (0 = 1) = False from by decide, show (1 = 0) = False from by decide, show (2 = 3) = False from by decide, show (3 = 2) = False from by decide, show (0 = 2) = False from by decide, show (0 = 3) = False from by decide, show (2 = 0) = False from by decide, show (2 = 1) = False from by decide, show (1 = 2) = False from by decide]
  · simp only [b257_0, Option.bind_some, Option.toList_some, Option.toList_none, List.cons_append, List.nil_append, true_or, or_true, if_true, bI_if, K0, L0, L1, L2, L3, n_add, hne, b257_20, q10, b257_24, b257_28, b257_29, i0, t0, b257_41, b257_44, b257_48, t2, i1, t1, b257_63, b257_66, uI_at, if_true, if_false, Bool.false_eq_true, true_and, and_true, false_and, and_false, true_or, or_true, false_or, or_false, and_self, or_self, decide_true, decide_false, Bool.not_true, Bool.not_false, Bool.and_true, Bool.and_false, Bool.true_and, Bool.false_and, ite_self, show (136 = 136) = True from eq_true rfl, show (136 = 19) = False from by decide, show (0 = 1) = False from by decide, show (1 = 0) = False from by decide, show (2 = 3) = False from by decide, show (3 = 2) = False from by decide, show (0 = 2) = False from by decide, show (0 = 3) = False from by decide, show (2 = 0) = False from by decide, show (2 = 1) = False from by decide, show (1 = 2) = False from by decide]
  · obtain ⟨x1, x2, x3, x4, x5, x6, x7, x8, x10⟩ := hB
    obtain ⟨c1, c2, c3, c4, c5, c6, c7, c8, c9, c10, c11, c12⟩ := id hC
    have hG : σ 9 0 + σ 9 2 ≤ 60 ∧ σ 9 1 ≤ σ 9 0 ∧ σ 9 3 ≤ σ 9 2 := x1.2.2.2.2
    have ea : ∀ q, q ≠ 19 → (uI a 19 0 (iN (σ 9 0 + 1))) q = a q := fun q h1 => by rw [uI_ne h1]
    have hBn : StB (uN σ 9 0 (σ 9 0 + 1)) cl cl' R R' := ⟨⟨x1.1, x1.2.1, x1.2.2.1, x1.2.2.2.1, by show σ 9 0 + 1 + σ 9 2 ≤ 60; omega, by show σ 9 1 ≤ σ 9 0 + 1; omega, by show σ 9 3 ≤ σ 9 2; omega⟩, x2, x3, x4, x5, x6, x7, x8, x10⟩
    have hCn : (StC (uI a 19 0 (iN (σ 9 0 + 1))) b r (uN σ 9 0 (σ 9 0 + 1)) cl R TL TS TR A ∧ Cac ((uN σ 9 0 (σ 9 0 + 1)) 0 0) ((uN σ 9 0 (σ 9 0 + 1)) 0 5) (QS (uN σ 9 0 (σ 9 0 + 1)) cl) A (uI a 19 0 (iN (σ 9 0 + 1))) b) := by
      refine CC.upd0 ⟨hC, hK⟩ (fun q _ h1 _ => ea q (by omega)) rfl rfl rfl ?_ ?_ ?_ ?_ ?_ ?_
      · obtain ⟨y1, y2, y3, y4, y5⟩ := c3
        refine ⟨?_, ?_, ?_, ?_, ?_⟩
        · rw [ea 16 (by omega)]; exact y1
        · rw [ea 16 (by omega)]; exact y2
        · rw [ea 17 (by omega)]; exact y3
        · rw [ea 18 (by omega)]; exact y4
        · intro j hj
          rcases (by omega : j = 0 ∨ j = 1 ∨ j = 2 ∨ j = 3) with rfl | rfl | rfl | rfl
          · exact rfl
          · exact K 1 (by omega)
          · exact K 2 (by omega)
          · exact K 3 (by omega)
      · rw [ea 14 (by omega)]
        exact ⟨c4.1, fun q => (c4.2 q).ag (fun k h1 h2 => ea k (by omega))⟩
      · rw [ea 14 (by omega), ea 15 (by omega)]
        exact c5
      · rw [ea 24 (by omega), ea 25 (by omega)]
        exact c6
      · rw [ea 27 (by omega), ea 28 (by omega)]
        exact c7
      · exact c9.ag (fun q h1 h2 => ea q (by omega))
    have hMh := hM.hi (a' := uI a 19 0 (iN (σ 9 0 + 1))) (fun q hq => ea q (by omega))
    obtain ⟨z1, z2, z3, z4, z5, z6, z7, z8⟩ := hMh
    have eb : ∀ q, q ≠ 136 → q ≠ 136 → (uI (uI a 19 0 (iN (σ 9 0 + 1))) 136 0 (iN (σ 9 0 + 1))) q = (uI a 19 0 (iN (σ 9 0 + 1))) q := fun q h1 _ => by rw [uI_ne h1]
    have ec : ∀ j, j ≠ 1000 → (uI (uI a 19 0 (iN (σ 9 0 + 1))) 136 0 (iN (σ 9 0 + 1))) 94 j = (uI a 19 0 (iN (σ 9 0 + 1))) 94 j := fun j h1 => by rw [eb 94 (by omega) (by omega)]
    have hMn : StM (uI (uI a 19 0 (iN (σ 9 0 + 1))) 136 0 (iN (σ 9 0 + 1))) (uN σ 9 0 (σ 9 0 + 1)) cl' R' := by
      refine ⟨?_, ?_, ?_, ?_, ?_, z6.ag (ec 73 (by omega)) (ec 74 (by omega)) (eb 134 (by omega) (by omega)) (eb 135 (by omega) (by omega)), z7.ag (fun q h1 h2 => eb q (by omega) (by omega)), fun j hj => (z8 j hj).ag (fun q h1 h2 => eb q (by omega) (by omega))⟩
      · obtain ⟨y1, y2, y3, y4, y5, y6, y7⟩ := z1
        refine ⟨?_, ?_, ?_, ?_, ?_, ?_, ?_⟩
        · rw [ec 0 (by omega)]; exact y1
        · rw [ec 1 (by omega)]; exact y2
        · rw [ec 64 (by omega)]; exact y3
        · rw [ec 65 (by omega)]; exact y4
        · rw [eb 127 (by omega) (by omega), eb (127 + 1) (by omega) (by omega), eb (127 + 2) (by omega) (by omega), eb (127 + 3) (by omega) (by omega)]; exact y5
        · rw [eb (127 + 4) (by omega) (by omega), eb (127 + 5) (by omega) (by omega), eb (127 + 6) (by omega) (by omega)]; exact y6
        · intro j hj
          rcases (by omega : j = 0 ∨ j = 1 ∨ j = 2 ∨ j = 3) with rfl | rfl | rfl | rfl
          · exact rfl
          · exact L 1 (by omega)
          · exact L 2 (by omega)
          · exact L 3 (by omega)
      · rw [ec 80 (by omega)]
        exact ⟨z2.1, fun q => (z2.2 q).ag (fun j hj => ec j (by omega)) (fun k h => eb k (by omega) (by omega))⟩
      · rw [ec 8 (by omega), eb 95 (by omega) (by omega)]
        exact z3
      · rw [ec 2 (by omega), eb 96 (by omega) (by omega)]
        exact z4
      · rw [ec 4 (by omega), ec 3 (by omega), eb 98 (by omega) (by omega)]
        exact z5
    exact InvS.of (St.mkJ hBn hCn hMn (fun q hq => eb q (by omega) (by omega)) (fun _ _ => rfl)) (Nat.le_succ _)
theorem try_0_1 {d : Nat} {n : Nat} {a : Nat → Nat → Int32} {b : Nat → Nat → Int64} {r : Nat → Nat → Option Nat} {σ : SV} {cl cl' : List Cls} {R R' : Nat → List Cls} {TL TS A : Nat} {TR : Nat → Nat} (h : (St a b r σ cl cl' R R' TL TS TR A)) (hl : σ 9 0 + σ 9 2 < 60) : ∃ (v : Int32) (a1 : Nat → Nat → Int32) (b1 : Nat → Nat → Int64) (r1 : Nat → Nat → Option Nat) (a2 : Nat → Nat → Int32) (b2 : Nat → Nat → Int64), Den (d+60) 119 0 [.ref 14, .int (iN 0), .int (iN 1)] [] (zmMk n a b r) = some (some (.int v), zmMk n a1 b1 r1) ∧ Den (d+60) 257 0 [.ref 94, .int (iN 0), .int (iN 1), zmJ] [] (zmMk n a1 b1 r1) = some (some (.int v), zmMk n a2 b2 r1) ∧ InvS a2 b2 r1 (A + 1) := by
  obtain ⟨hB, hC, hM, hK⟩ := id h
  have q10 : (iN 1 = iN 0) = False := by decide +kernel
  have K : ∀ j, j < 4 → a 19 j = iN (σ 9 j) := hC.2.2.1.2.2.2.2
  have L : ∀ j, j < 4 → a 136 j = iN (σ 9 j) := hM.1.2.2.2.2.2.2
  have K0 := K 0 (by omega)
  have K1 := K 1 (by omega)
  have K2 := K 2 (by omega)
  have K3 := K 3 (by omega)
  have L0 := L 0 (by omega)
  have L1 := L 1 (by omega)
  have L2 := L 2 (by omega)
  have L3 := L 3 (by omega)
  have hlt : (iN (σ 9 0 + σ 9 2) < iN 60) = True := by rw [n_lt (by omega) (by omega)]; exact eq_true hl
  have hne : (iN (σ 9 0 + σ 9 2) = iN 60) = False := by rw [n_eq (by omega) (by omega)]; exact eq_false (by omega)
  have i0 : zmIn (iN 2) 4 = true := by decide +kernel
  have i1 : zmIn (iN 3) 4 = true := by decide +kernel
  have t0 : (iN 2).toNatClampNeg = 2 := by decide +kernel
  have t1 : (iN 3).toNatClampNeg = 3 := by decide +kernel
  have t2 : iN 2 + iN 1 = iN 3 := by decide +kernel
  refine ⟨iN (σ 9 0 + (σ 9 2 + 1)), uI (uI a 19 2 (iN (σ 9 2 + 1))) 19 3 (iN (σ 9 3 + 1)), b, r, uI (uI (uI (uI a 19 2 (iN (σ 9 2 + 1))) 19 3 (iN (σ 9 3 + 1))) 136 2 (iN (σ 9 2 + 1))) 136 3 (iN (σ 9 3 + 1)), b, ?_, ?_, ?_⟩
  · simp only [b119_0, b75_0, Option.bind_some, Option.toList_some, Option.toList_none, List.cons_append, List.nil_append, true_or, or_true, if_true, bI_if, b119_7, K0, K1, K2, K3, n_add, hlt, b119_14, b76_0, q10, b76_4, b76_8, b76_9, i0, t0, b76_17, b76_20, b76_24, t2, i1, t1, b76_33, b76_36, b119_23, b119_30, uI_at, if_true, if_false, Bool.false_eq_true, true_and, and_true, false_and, and_false, true_or, or_true, false_or, or_false, and_self, or_self, decide_true, decide_false, Bool.not_true, Bool.not_false, Bool.and_true, Bool.and_false, Bool.true_and, Bool.false_and, ite_self, show (19 = 19) = True from eq_true rfl, show (0 = 1) = False from by decide, show (1 = 0) = False from by decide, show (2 = 3) = False from by decide, show (3 = 2) = False from by decide, show (0 = 2) = False from by decide, show (0 = 3) = False from by decide, show (2 = 0) = False from by decide, show (2 = 1) = False from by decide, show (1 = 2) = False from by decide]
  · simp only [b257_0, Option.bind_some, Option.toList_some, Option.toList_none, List.cons_append, List.nil_append, true_or, or_true, if_true, bI_if, K0, L0, L1, L2, L3, n_add, hne, b257_20, q10, b257_24, b257_28, b257_29, i0, t0, b257_41, b257_44, b257_48, t2, i1, t1, b257_63, b257_66, uI_at, if_true, if_false, Bool.false_eq_true, true_and, and_true, false_and, and_false, true_or, or_true, false_or, or_false, and_self, or_self, decide_true, decide_false, Bool.not_true, Bool.not_false, Bool.and_true, Bool.and_false, Bool.true_and, Bool.false_and, ite_self, show (136 = 136) = True from eq_true rfl, show (136 = 19) = False from by decide, show (0 = 1) = False from by decide, show (1 = 0) = False from by decide, show (2 = 3) = False from by decide, show (3 = 2) = False from by decide, show (0 = 2) = False from by decide, show (0 = 3) = False from by decide, show (2 = 0) = False from by decide, show (2 = 1) = False from by decide, show (1 = 2) = False from by decide]
  · obtain ⟨x1, x2, x3, x4, x5, x6, x7, x8, x10⟩ := hB
    obtain ⟨c1, c2, c3, c4, c5, c6, c7, c8, c9, c10, c11, c12⟩ := id hC
    have hG : σ 9 0 + σ 9 2 ≤ 60 ∧ σ 9 1 ≤ σ 9 0 ∧ σ 9 3 ≤ σ 9 2 := x1.2.2.2.2
    have ea : ∀ q, q ≠ 19 → (uI (uI a 19 2 (iN (σ 9 2 + 1))) 19 3 (iN (σ 9 3 + 1))) q = a q := fun q h1 => by rw [uI_ne h1, uI_ne h1]
    have hBn : StB (uN (uN σ 9 2 (σ 9 2 + 1)) 9 3 (σ 9 3 + 1)) cl cl' R R' := ⟨⟨x1.1, x1.2.1, x1.2.2.1, x1.2.2.2.1, by show σ 9 0 + (σ 9 2 + 1) ≤ 60; omega, by show σ 9 1 ≤ σ 9 0; omega, by show σ 9 3 + 1 ≤ σ 9 2 + 1; omega⟩, x2, x3, x4, x5, x6, x7, x8, x10⟩
    have hCn : (StC (uI (uI a 19 2 (iN (σ 9 2 + 1))) 19 3 (iN (σ 9 3 + 1))) b r (uN (uN σ 9 2 (σ 9 2 + 1)) 9 3 (σ 9 3 + 1)) cl R TL TS TR A ∧ Cac ((uN (uN σ 9 2 (σ 9 2 + 1)) 9 3 (σ 9 3 + 1)) 0 0) ((uN (uN σ 9 2 (σ 9 2 + 1)) 9 3 (σ 9 3 + 1)) 0 5) (QS (uN (uN σ 9 2 (σ 9 2 + 1)) 9 3 (σ 9 3 + 1)) cl) A (uI (uI a 19 2 (iN (σ 9 2 + 1))) 19 3 (iN (σ 9 3 + 1))) b) := by
      refine CC.upd0 ⟨hC, hK⟩ (fun q _ h1 _ => ea q (by omega)) rfl rfl rfl ?_ ?_ ?_ ?_ ?_ ?_
      · obtain ⟨y1, y2, y3, y4, y5⟩ := c3
        refine ⟨?_, ?_, ?_, ?_, ?_⟩
        · rw [ea 16 (by omega)]; exact y1
        · rw [ea 16 (by omega)]; exact y2
        · rw [ea 17 (by omega)]; exact y3
        · rw [ea 18 (by omega)]; exact y4
        · intro j hj
          rcases (by omega : j = 0 ∨ j = 1 ∨ j = 2 ∨ j = 3) with rfl | rfl | rfl | rfl
          · exact K 0 (by omega)
          · exact K 1 (by omega)
          · exact rfl
          · exact rfl
      · rw [ea 14 (by omega)]
        exact ⟨c4.1, fun q => (c4.2 q).ag (fun k h1 h2 => ea k (by omega))⟩
      · rw [ea 14 (by omega), ea 15 (by omega)]
        exact c5
      · rw [ea 24 (by omega), ea 25 (by omega)]
        exact c6
      · rw [ea 27 (by omega), ea 28 (by omega)]
        exact c7
      · exact c9.ag (fun q h1 h2 => ea q (by omega))
    have hMh := hM.hi (a' := uI (uI a 19 2 (iN (σ 9 2 + 1))) 19 3 (iN (σ 9 3 + 1))) (fun q hq => ea q (by omega))
    obtain ⟨z1, z2, z3, z4, z5, z6, z7, z8⟩ := hMh
    have eb : ∀ q, q ≠ 136 → q ≠ 136 → (uI (uI (uI (uI a 19 2 (iN (σ 9 2 + 1))) 19 3 (iN (σ 9 3 + 1))) 136 2 (iN (σ 9 2 + 1))) 136 3 (iN (σ 9 3 + 1))) q = (uI (uI a 19 2 (iN (σ 9 2 + 1))) 19 3 (iN (σ 9 3 + 1))) q := fun q h1 _ => by rw [uI_ne h1, uI_ne h1]
    have ec : ∀ j, j ≠ 1000 → (uI (uI (uI (uI a 19 2 (iN (σ 9 2 + 1))) 19 3 (iN (σ 9 3 + 1))) 136 2 (iN (σ 9 2 + 1))) 136 3 (iN (σ 9 3 + 1))) 94 j = (uI (uI a 19 2 (iN (σ 9 2 + 1))) 19 3 (iN (σ 9 3 + 1))) 94 j := fun j h1 => by rw [eb 94 (by omega) (by omega)]
    have hMn : StM (uI (uI (uI (uI a 19 2 (iN (σ 9 2 + 1))) 19 3 (iN (σ 9 3 + 1))) 136 2 (iN (σ 9 2 + 1))) 136 3 (iN (σ 9 3 + 1))) (uN (uN σ 9 2 (σ 9 2 + 1)) 9 3 (σ 9 3 + 1)) cl' R' := by
      refine ⟨?_, ?_, ?_, ?_, ?_, z6.ag (ec 73 (by omega)) (ec 74 (by omega)) (eb 134 (by omega) (by omega)) (eb 135 (by omega) (by omega)), z7.ag (fun q h1 h2 => eb q (by omega) (by omega)), fun j hj => (z8 j hj).ag (fun q h1 h2 => eb q (by omega) (by omega))⟩
      · obtain ⟨y1, y2, y3, y4, y5, y6, y7⟩ := z1
        refine ⟨?_, ?_, ?_, ?_, ?_, ?_, ?_⟩
        · rw [ec 0 (by omega)]; exact y1
        · rw [ec 1 (by omega)]; exact y2
        · rw [ec 64 (by omega)]; exact y3
        · rw [ec 65 (by omega)]; exact y4
        · rw [eb 127 (by omega) (by omega), eb (127 + 1) (by omega) (by omega), eb (127 + 2) (by omega) (by omega), eb (127 + 3) (by omega) (by omega)]; exact y5
        · rw [eb (127 + 4) (by omega) (by omega), eb (127 + 5) (by omega) (by omega), eb (127 + 6) (by omega) (by omega)]; exact y6
        · intro j hj
          rcases (by omega : j = 0 ∨ j = 1 ∨ j = 2 ∨ j = 3) with rfl | rfl | rfl | rfl
          · exact L 0 (by omega)
          · exact L 1 (by omega)
          · exact rfl
          · exact rfl
      · rw [ec 80 (by omega)]
        exact ⟨z2.1, fun q => (z2.2 q).ag (fun j hj => ec j (by omega)) (fun k h => eb k (by omega) (by omega))⟩
      · rw [ec 8 (by omega), eb 95 (by omega) (by omega)]
        exact z3
      · rw [ec 2 (by omega), eb 96 (by omega) (by omega)]
        exact z4
      · rw [ec 4 (by omega), ec 3 (by omega), eb 98 (by omega) (by omega)]
        exact z5
    exact InvS.of (St.mkJ hBn hCn hMn (fun q hq => eb q (by omega) (by omega)) (fun _ _ => rfl)) (Nat.le_succ _)
theorem try_0_0 {d : Nat} {n : Nat} {a : Nat → Nat → Int32} {b : Nat → Nat → Int64} {r : Nat → Nat → Option Nat} {σ : SV} {cl cl' : List Cls} {R R' : Nat → List Cls} {TL TS A : Nat} {TR : Nat → Nat} (h : (St a b r σ cl cl' R R' TL TS TR A)) (hl : σ 9 0 + σ 9 2 < 60) : ∃ (v : Int32) (a1 : Nat → Nat → Int32) (b1 : Nat → Nat → Int64) (r1 : Nat → Nat → Option Nat) (a2 : Nat → Nat → Int32) (b2 : Nat → Nat → Int64), Den (d+60) 119 0 [.ref 14, .int (iN 0), .int (iN 0)] [] (zmMk n a b r) = some (some (.int v), zmMk n a1 b1 r1) ∧ Den (d+60) 257 0 [.ref 94, .int (iN 0), .int (iN 0), zmJ] [] (zmMk n a1 b1 r1) = some (some (.int v), zmMk n a2 b2 r1) ∧ InvS a2 b2 r1 (A + 1) := by
  obtain ⟨hB, hC, hM, hK⟩ := id h
  have q10 : (iN 1 = iN 0) = False := by decide +kernel
  have K : ∀ j, j < 4 → a 19 j = iN (σ 9 j) := hC.2.2.1.2.2.2.2
  have L : ∀ j, j < 4 → a 136 j = iN (σ 9 j) := hM.1.2.2.2.2.2.2
  have K0 := K 0 (by omega)
  have K1 := K 1 (by omega)
  have K2 := K 2 (by omega)
  have K3 := K 3 (by omega)
  have L0 := L 0 (by omega)
  have L1 := L 1 (by omega)
  have L2 := L 2 (by omega)
  have L3 := L 3 (by omega)
  have hlt : (iN (σ 9 0 + σ 9 2) < iN 60) = True := by rw [n_lt (by omega) (by omega)]; exact eq_true hl
  have hne : (iN (σ 9 0 + σ 9 2) = iN 60) = False := by rw [n_eq (by omega) (by omega)]; exact eq_false (by omega)
  have i0 : zmIn (iN 2) 4 = true := by decide +kernel
  have i1 : zmIn (iN 3) 4 = true := by decide +kernel
  have t0 : (iN 2).toNatClampNeg = 2 := by decide +kernel
  have t1 : (iN 3).toNatClampNeg = 3 := by decide +kernel
  have t2 : iN 2 + iN 1 = iN 3 := by decide +kernel
  refine ⟨iN (σ 9 0 + (σ 9 2 + 1)), uI a 19 2 (iN (σ 9 2 + 1)), b, r, uI (uI a 19 2 (iN (σ 9 2 + 1))) 136 2 (iN (σ 9 2 + 1)), b, ?_, ?_, ?_⟩
  · simp only [b119_0, b75_0, Option.bind_some, Option.toList_some, Option.toList_none, List.cons_append, List.nil_append, true_or, or_true, if_true, bI_if, b119_7, K0, K1, K2, K3, n_add, hlt, b119_14, b76_0, q10, b76_4, b76_8, b76_9, i0, t0, b76_17, b76_20, b76_24, t2, i1, t1, b76_33, b76_36, b119_23, b119_30, uI_at, if_true, if_false, Bool.false_eq_true, true_and, and_true, false_and, and_false, true_or, or_true, false_or, or_false, and_self, or_self, decide_true, decide_false, Bool.not_true, Bool.not_false, Bool.and_true, Bool.and_false, Bool.true_and, Bool.false_and, ite_self, show (19 = 19) = True from eq_true rfl, show (0 = 1) = False from by decide, show (1 = 0) = False from by decide, show (2 = 3) = False from by decide, show (3 = 2) = False from by decide, show (0 = 2) = False from by decide, show (0 = 3) = False from by decide, show (2 = 0) = False from by decide, show (2 = 1) = False from by decide, show (1 = 2) = False from by decide]
  · simp only [b257_0, Option.bind_some, Option.toList_some, Option.toList_none, List.cons_append, List.nil_append, true_or, or_true, if_true, bI_if, K0, L0, L1, L2, L3, n_add, hne, b257_20, q10, b257_24, b257_28, b257_29, i0, t0, b257_41, b257_44, b257_48, t2, i1, t1, b257_63, b257_66, uI_at, if_true, if_false, Bool.false_eq_true, true_and, and_true, false_and, and_false, true_or, or_true, false_or, or_false, and_self, or_self, decide_true, decide_false, Bool.not_true, Bool.not_false, Bool.and_true, Bool.and_false, Bool.true_and, Bool.false_and, ite_self, show (136 = 136) = True from eq_true rfl, show (136 = 19) = False from by decide, show (0 = 1) = False from by decide, show (1 = 0) = False from by decide, show (2 = 3) = False from by decide, show (3 = 2) = False from by decide, show (0 = 2) = False from by decide, show (0 = 3) = False from by decide, show (2 = 0) = False from by decide, show (2 = 1) = False from by decide, show (1 = 2) = False from by decide]
  · obtain ⟨x1, x2, x3, x4, x5, x6, x7, x8, x10⟩ := hB
    obtain ⟨c1, c2, c3, c4, c5, c6, c7, c8, c9, c10, c11, c12⟩ := id hC
    have hG : σ 9 0 + σ 9 2 ≤ 60 ∧ σ 9 1 ≤ σ 9 0 ∧ σ 9 3 ≤ σ 9 2 := x1.2.2.2.2
    have ea : ∀ q, q ≠ 19 → (uI a 19 2 (iN (σ 9 2 + 1))) q = a q := fun q h1 => by rw [uI_ne h1]
    have hBn : StB (uN σ 9 2 (σ 9 2 + 1)) cl cl' R R' := ⟨⟨x1.1, x1.2.1, x1.2.2.1, x1.2.2.2.1, by show σ 9 0 + (σ 9 2 + 1) ≤ 60; omega, by show σ 9 1 ≤ σ 9 0; omega, by show σ 9 3 ≤ σ 9 2 + 1; omega⟩, x2, x3, x4, x5, x6, x7, x8, x10⟩
    have hCn : (StC (uI a 19 2 (iN (σ 9 2 + 1))) b r (uN σ 9 2 (σ 9 2 + 1)) cl R TL TS TR A ∧ Cac ((uN σ 9 2 (σ 9 2 + 1)) 0 0) ((uN σ 9 2 (σ 9 2 + 1)) 0 5) (QS (uN σ 9 2 (σ 9 2 + 1)) cl) A (uI a 19 2 (iN (σ 9 2 + 1))) b) := by
      refine CC.upd0 ⟨hC, hK⟩ (fun q _ h1 _ => ea q (by omega)) rfl rfl rfl ?_ ?_ ?_ ?_ ?_ ?_
      · obtain ⟨y1, y2, y3, y4, y5⟩ := c3
        refine ⟨?_, ?_, ?_, ?_, ?_⟩
        · rw [ea 16 (by omega)]; exact y1
        · rw [ea 16 (by omega)]; exact y2
        · rw [ea 17 (by omega)]; exact y3
        · rw [ea 18 (by omega)]; exact y4
        · intro j hj
          rcases (by omega : j = 0 ∨ j = 1 ∨ j = 2 ∨ j = 3) with rfl | rfl | rfl | rfl
          · exact K 0 (by omega)
          · exact K 1 (by omega)
          · exact rfl
          · exact K 3 (by omega)
      · rw [ea 14 (by omega)]
        exact ⟨c4.1, fun q => (c4.2 q).ag (fun k h1 h2 => ea k (by omega))⟩
      · rw [ea 14 (by omega), ea 15 (by omega)]
        exact c5
      · rw [ea 24 (by omega), ea 25 (by omega)]
        exact c6
      · rw [ea 27 (by omega), ea 28 (by omega)]
        exact c7
      · exact c9.ag (fun q h1 h2 => ea q (by omega))
    have hMh := hM.hi (a' := uI a 19 2 (iN (σ 9 2 + 1))) (fun q hq => ea q (by omega))
    obtain ⟨z1, z2, z3, z4, z5, z6, z7, z8⟩ := hMh
    have eb : ∀ q, q ≠ 136 → q ≠ 136 → (uI (uI a 19 2 (iN (σ 9 2 + 1))) 136 2 (iN (σ 9 2 + 1))) q = (uI a 19 2 (iN (σ 9 2 + 1))) q := fun q h1 _ => by rw [uI_ne h1]
    have ec : ∀ j, j ≠ 1000 → (uI (uI a 19 2 (iN (σ 9 2 + 1))) 136 2 (iN (σ 9 2 + 1))) 94 j = (uI a 19 2 (iN (σ 9 2 + 1))) 94 j := fun j h1 => by rw [eb 94 (by omega) (by omega)]
    have hMn : StM (uI (uI a 19 2 (iN (σ 9 2 + 1))) 136 2 (iN (σ 9 2 + 1))) (uN σ 9 2 (σ 9 2 + 1)) cl' R' := by
      refine ⟨?_, ?_, ?_, ?_, ?_, z6.ag (ec 73 (by omega)) (ec 74 (by omega)) (eb 134 (by omega) (by omega)) (eb 135 (by omega) (by omega)), z7.ag (fun q h1 h2 => eb q (by omega) (by omega)), fun j hj => (z8 j hj).ag (fun q h1 h2 => eb q (by omega) (by omega))⟩
      · obtain ⟨y1, y2, y3, y4, y5, y6, y7⟩ := z1
        refine ⟨?_, ?_, ?_, ?_, ?_, ?_, ?_⟩
        · rw [ec 0 (by omega)]; exact y1
        · rw [ec 1 (by omega)]; exact y2
        · rw [ec 64 (by omega)]; exact y3
        · rw [ec 65 (by omega)]; exact y4
        · rw [eb 127 (by omega) (by omega), eb (127 + 1) (by omega) (by omega), eb (127 + 2) (by omega) (by omega), eb (127 + 3) (by omega) (by omega)]; exact y5
        · rw [eb (127 + 4) (by omega) (by omega), eb (127 + 5) (by omega) (by omega), eb (127 + 6) (by omega) (by omega)]; exact y6
        · intro j hj
          rcases (by omega : j = 0 ∨ j = 1 ∨ j = 2 ∨ j = 3) with rfl | rfl | rfl | rfl
          · exact L 0 (by omega)
          · exact L 1 (by omega)
          · exact rfl
          · exact L 3 (by omega)
      · rw [ec 80 (by omega)]
        exact ⟨z2.1, fun q => (z2.2 q).ag (fun j hj => ec j (by omega)) (fun k h => eb k (by omega) (by omega))⟩
      · rw [ec 8 (by omega), eb 95 (by omega) (by omega)]
        exact z3
      · rw [ec 2 (by omega), eb 96 (by omega) (by omega)]
        exact z4
      · rw [ec 4 (by omega), ec 3 (by omega), eb 98 (by omega) (by omega)]
        exact z5
    exact InvS.of (St.mkJ hBn hCn hMn (fun q hq => eb q (by omega) (by omega)) (fun _ _ => rfl)) (Nat.le_succ _)
theorem p_tries {d : Nat} {n : Nat} {a : Nat → Nat → Int32} {b : Nat → Nat → Int64} {r : Nat → Nat → Option Nat} {σ : SV} {cl cl' : List Cls} {R R' : Nat → List Cls} {TL TS A : Nat} {TR : Nat → Nat} (h : (St a b r σ cl cl' R R' TL TS TR A)) {s u : Bool} : ∃ (v : Int32) (a1 : Nat → Nat → Int32) (b1 : Nat → Nat → Int64) (r1 : Nat → Nat → Option Nat) (a2 : Nat → Nat → Int32) (b2 : Nat → Nat → Int64), Den (d+60) 119 0 [.ref 14, .int (bI s), .int (bI u)] [] (zmMk n a b r) = some (some (.int v), zmMk n a1 b1 r1) ∧ Den (d+60) 257 0 [.ref 94, .int (bI s), .int (bI u), zmJ] [] (zmMk n a1 b1 r1) = some (some (.int v), zmMk n a2 b2 r1) ∧ InvS a2 b2 r1 (A + 1) := by
  by_cases hl : σ 9 0 + σ 9 2 < 60
  · cases s <;> cases u
    · exact try_0_0 h hl
    · exact try_0_1 h hl
    · exact try_1_0 h hl
    · exact try_1_1 h hl
  · have hG : σ 9 0 + σ 9 2 ≤ 60 := h.1.1.2.2.2.2.1
    have K : ∀ j, j < 4 → a 19 j = iN (σ 9 j) := h.2.1.2.2.1.2.2.2.2
    have L : ∀ j, j < 4 → a 136 j = iN (σ 9 j) := h.2.2.1.1.2.2.2.2.2.2
    have K0 := K 0 (by omega)
    have K2 := K 2 (by omega)
    have L0 := L 0 (by omega)
    have L2 := L 2 (by omega)
    have hlt : (iN (σ 9 0 + σ 9 2) < iN 60) = False := by rw [n_lt (by omega) (by omega)]; exact eq_false hl
    have hne : (iN (σ 9 0 + σ 9 2) = iN 60) = True := by rw [n_eq (by omega) (by omega)]; exact eq_true (by omega)
    refine ⟨-1, a, b, r, a, b, ?_, ?_, InvS.of h (Nat.le_succ _)⟩
    · simp only [b119_0, b75_0, Option.bind_some, Option.toList_some, Option.toList_none, List.cons_append, List.nil_append, true_or, or_true, if_true, bI_if, b119_7, K0, K2, n_add, hlt, b119_12, if_true, if_false, Bool.false_eq_true, true_and, and_true, false_and, and_false, true_or, or_true, false_or, or_false, and_self, or_self, decide_true, decide_false, Bool.not_true, Bool.not_false, Bool.and_true, Bool.and_false, Bool.true_and, Bool.false_and, ite_self]
    · simp only [b257_0, Option.bind_some, Option.toList_some, Option.toList_none, List.cons_append, List.nil_append, true_or, or_true, if_true, bI_if, L0, L2, n_add, hne, b257_18, if_true, if_false, Bool.false_eq_true, true_and, and_true, false_and, and_false, true_or, or_true, false_or, or_false, and_self, or_self, decide_true, decide_false, Bool.not_true, Bool.not_false, Bool.and_true, Bool.and_false, Bool.true_and, Bool.false_and, ite_self]
