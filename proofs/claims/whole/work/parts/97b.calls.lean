/-! ===== seed, LINES, RUNNERS, tries ===== -/
theorem cond_at {i j x y : Nat} : cond (Nat.beq j i) x y = if j = i then x else y := by
  rw [beq_at]
  by_cases h : j = i
  · rw [decide_eq_true h, if_pos h]; rfl
  · rw [decide_eq_false h, if_neg h]; rfl
/-- the class's part where nothing that VALUES stand on has changed -/
theorem CC.upd0 {a a' : Nat → Nat → Int32} {b : Nat → Nat → Int64} {r : Nat → Nat → Option Nat} {σ σ' : SV} {cl : List Cls} {R : Nat → List Cls} {TL TS A : Nat} {TR : Nat → Nat} (h : (StC a b r σ cl R TL TS TR A ∧ Cac (σ 0 0) (σ 0 5) (QS σ cl) A a b)) (hf : ∀ k, k < 94 → ¬ (14 ≤ k ∧ k ≤ 28) → ¬ (62 ≤ k ∧ k ≤ 64) → a' k = a k) (eN : σ' 0 0 = σ 0 0) (eB : σ' 0 5 = σ 0 5) (eQ : QS σ' cl = QS σ cl) (k3 : StoC a' 16 0 σ') (k4 : a' 14 4 = iN (σ' 0 8) ∧ (σ' 0 8 = 1 → StoC a' 20 20 σ')) (k5 : a' 14 1 = iN (σ' 0 2) ∧ ∀ j, j < σ' 0 2 → a' 15 j = iN (σ' 10 j)) (k6 : a' 24 0 = iN (σ' 0 3) ∧ ∀ y, y ≤ 120 → a' 25 y = iN (sK σ' y)) (k7 : a' 27 0 = iN (σ' 0 4) ∧ a' 27 1 = iN (σ' 0 5) ∧ ∀ t, t < 100 → a' 28 t = iN (sW σ' t)) (k9 : LogC a' (σ' 0 6) (σ' 0 7) (σ' 13) (σ' 14)) : (StC a' b r σ' cl R TL TS TR A ∧ Cac (σ' 0 0) (σ' 0 5) (QS σ' cl) A a' b) := by
  obtain ⟨hC, hK⟩ := h
  refine ⟨hC.upd (fun k h1 _ h3 h4 => hf k h1 (by omega) h4) rfl rfl k3 k4 k5 k6 k7 ?_ k9, ?_⟩
  · rw [hf 29 (by omega) (by omega) (by omega)]
    exact hC.2.2.2.2.2.2.2.1
  · rw [eN, eB, eQ]
    exact ⟨hK.1.ag (hf 52 (by omega) (by omega) (by omega)) (hf 29 (by omega) (by omega) (by omega)) (hf 54 (by omega) (by omega) (by omega)) rfl, hK.2.ag (hf 55 (by omega) (by omega) (by omega)) (hf 61 (by omega) (by omega) (by omega)) rfl⟩
theorem p_seed {d : Nat} {n : Nat} {a : Nat → Nat → Int32} {b : Nat → Nat → Int64} {r : Nat → Nat → Option Nat} {σ : SV} {cl cl' : List Cls} {R R' : Nat → List Cls} {TL TS A : Nat} {TR : Nat → Nat} (h : (St a b r σ cl cl' R R' TL TS TR A)) {v1 : Int32} : ∃ (v : Int32) (a1 : Nat → Nat → Int32) (b1 : Nat → Nat → Int64) (r1 : Nat → Nat → Option Nat) (a2 : Nat → Nat → Int32) (b2 : Nat → Nat → Int64), Den (d+60) 122 0 [.ref 14, .int v1] [] (zmMk n a b r) = some (some (.int v), zmMk n a1 b1 r1) ∧ Den (d+60) 262 0 [.ref 94, .int v1] [] (zmMk n a1 b1 r1) = some (some (.int v), zmMk n a2 b2 r1) ∧ InvS a2 b2 r1 (A + 1) := by
  obtain ⟨hB, hC, hM, hK⟩ := id h
  by_cases g1 : inI v1 (iN 0) (iN 65535) = true
  · obtain ⟨k, -, k2, rfl⟩ := inI_ex (by decide) (by decide) g1
    refine ⟨iN 1, uI a 16 1 (iN k), b, r, uI (uI a 16 1 (iN k)) 94 1 (iN k), b, ?_, ?_, ?_⟩
    · simp only [b122_0, c_within, Option.bind_some, Option.toList_some, Option.toList_none, List.cons_append, List.nil_append, true_or, or_true, if_true, bI_if, b122_8, g1, bI_if, b122_13, if_true, if_false, Bool.false_eq_true, true_and, and_true, false_and, and_false, true_or, or_true, false_or, or_false, and_self, or_self, decide_true, decide_false, Bool.not_true, Bool.not_false, Bool.and_true, Bool.and_false, Bool.true_and, Bool.false_and, ite_self]
    · simp only [b262_0, m_in, Option.bind_some, Option.toList_some, Option.toList_none, List.cons_append, List.nil_append, true_or, or_true, if_true, bI_if, b262_8, g1, bI_if, b262_13, if_true, if_false, Bool.false_eq_true, true_and, and_true, false_and, and_false, true_or, or_true, false_or, or_false, and_self, or_self, decide_true, decide_false, Bool.not_true, Bool.not_false, Bool.and_true, Bool.and_false, Bool.true_and, Bool.false_and, ite_self]
    · obtain ⟨x1, x2, x3, x4, x5, x6, x7, x8, x9⟩ := hB
      obtain ⟨c1, c2, c3, c4, c5, c6, c7, c8, c9, c10, c11, c12⟩ := id hC
      have ea : ∀ q, q ≠ 16 → uI a 16 1 (iN k) q = a q := fun q h1 => uI_ne h1
      have hBn : StB (uN σ 0 1 k) cl cl' R R' := ⟨⟨x1.1, show k < 65536 by omega, x1.2.2⟩, x2, x3, x4, x5, x6, x7, x8, x9⟩
      have hCn : (StC (uI a 16 1 (iN k)) b r (uN σ 0 1 k) cl R TL TS TR A ∧ Cac ((uN σ 0 1 k) 0 0) ((uN σ 0 1 k) 0 5) (QS (uN σ 0 1 k) cl) A (uI a 16 1 (iN k)) b) := by
        refine CC.upd0 ⟨hC, hK⟩ (fun q _ h1 _ => ea q (by omega)) rfl rfl rfl ?_ ?_ ?_ ?_ ?_ ?_
        · obtain ⟨y1, y2, y3, y4, y5⟩ := c3
          refine ⟨?_, ?_, ?_, ?_, ?_⟩
          · rw [uI_at, if_neg (by omega)]; exact y1
          · rw [uI_at, if_pos ⟨rfl, rfl⟩]; rfl
          · rw [ea 17 (by omega)]; exact y3
          · rw [ea 18 (by omega)]; exact y4
          · rw [ea 19 (by omega)]; exact y5
        · rw [ea 14 (by omega)]
          exact ⟨c4.1, fun q => (c4.2 q).ag (fun k h1 h2 => ea k (by omega))⟩
        · rw [ea 14 (by omega), ea 15 (by omega)]
          exact c5
        · rw [ea 24 (by omega), ea 25 (by omega)]
          exact c6
        · rw [ea 27 (by omega), ea 28 (by omega)]
          exact c7
        · exact c9.ag (fun q h1 h2 => ea q (by omega))
      have hMh := hM.hi (a' := uI a 16 1 (iN k)) (fun q hq => ea q (by omega))
      obtain ⟨z1, z2, z3, z4, z5, z6, z7, z8⟩ := hMh
      have eb : ∀ q, q ≠ 94 → uI (uI a 16 1 (iN k)) 94 1 (iN k) q = uI a 16 1 (iN k) q := fun q hq => by rw [uI_ne hq]
      have ec : ∀ j, j ≠ 1 → uI (uI a 16 1 (iN k)) 94 1 (iN k) 94 j = uI a 16 1 (iN k) 94 j := fun j h1 => by rw [uI_at, if_neg (by omega)]
      have hMn : StM (uI (uI a 16 1 (iN k)) 94 1 (iN k)) (uN σ 0 1 k) cl' R' := by
        refine ⟨?_, ?_, ?_, ?_, ?_, z6.ag (ec 73 (by omega)) (ec 74 (by omega)) (eb 134 (by omega)) (eb 135 (by omega)), z7.ag (fun q h1 h2 => eb q (by omega)), fun j hj => (z8 j hj).ag (fun q h1 h2 => eb q (by omega))⟩
        · obtain ⟨y1, y2, y3, y4, y5, y6, y7⟩ := z1
          refine ⟨?_, ?_, ?_, ?_, ?_, ?_, ?_⟩
          · rw [ec 0 (by omega)]; exact y1
          · rw [uI_at, if_pos ⟨rfl, rfl⟩]; rfl
          · rw [ec 64 (by omega)]; exact y3
          · rw [ec 65 (by omega)]; exact y4
          · rw [eb 127 (by omega), eb (127 + 1) (by omega), eb (127 + 2) (by omega), eb (127 + 3) (by omega)]; exact y5
          · rw [eb (127 + 4) (by omega), eb (127 + 5) (by omega), eb (127 + 6) (by omega)]; exact y6
          · rw [eb 136 (by omega)]; exact y7
        · rw [ec 80 (by omega)]
          exact ⟨z2.1, fun q => (z2.2 q).ag (fun j hj => ec j (by omega)) (fun k h => eb k (by omega))⟩
        · rw [ec 8 (by omega), eb 95 (by omega)]
          exact z3
        · rw [ec 2 (by omega), eb 96 (by omega)]
          exact z4
        · rw [ec 4 (by omega), ec 3 (by omega), eb 98 (by omega)]
          exact z5
      exact InvS.of (St.mkJ hBn hCn hMn (fun q hq => eb q (by omega)) (fun _ _ => rfl)) (Nat.le_succ _)
  · refine ⟨iN 0, a, b, r, a, b, ?_, ?_, InvS.of h (Nat.le_succ _)⟩
    · rw [Bool.not_eq_true] at g1
      simp only [b122_0, c_within, Option.bind_some, Option.toList_some, Option.toList_none, List.cons_append, List.nil_append, true_or, or_true, if_true, bI_if, b122_8, g1, bI_if, b122_11, if_true, if_false, Bool.false_eq_true, true_and, and_true, false_and, and_false, true_or, or_true, false_or, or_false, and_self, or_self, decide_true, decide_false, Bool.not_true, Bool.not_false, Bool.and_true, Bool.and_false, Bool.true_and, Bool.false_and, ite_self]
    · rw [Bool.not_eq_true] at g1
      simp only [b262_0, m_in, Option.bind_some, Option.toList_some, Option.toList_none, List.cons_append, List.nil_append, true_or, or_true, if_true, bI_if, b262_8, g1, bI_if, b262_11, if_true, if_false, Bool.false_eq_true, true_and, and_true, false_and, and_false, true_or, or_true, false_or, or_false, and_self, or_self, decide_true, decide_false, Bool.not_true, Bool.not_false, Bool.and_true, Bool.and_false, Bool.true_and, Bool.false_and, ite_self]
theorem bits_set {m i N : Nat} (hm : m < 2 ^ N) (hi : i < N) : m ||| 2 ^ i < 2 ^ N ∧ ∀ j, (m ||| 2 ^ i).testBit j = (m.testBit j || decide (i = j)) := by
  refine ⟨Nat.or_lt_two_pow hm (Nat.pow_lt_pow_right (by omega) hi), fun j => ?_⟩
  rw [Nat.testBit_or, Nat.testBit_two_pow]
theorem c_setR {d i x y z : Nat} {n : Nat} {a : Nat → Nat → Int32} {b : Nat → Nat → Int64} {r : Nat → Nat → Option Nat} (hi : i < 10) : Den (d+1) 72 0 [.ref 16, .int (iN i), .int (iN x), .int (iN y), .int (iN z)] [] (zmMk n a b r) = some (none, zmMk n (uI (uI (uI a 17 i (iN x)) 17 (10 + i) (iN y)) 17 (20 + i) (iN z)) b r) := by
  rw [b72_0, c_put lay17 (by decide) (by decide) (by decide), puV_n (show i < 30 by omega) (by decide)]
  simp only [Option.bind_some, Option.toList_some, Option.toList_none, List.cons_append, List.nil_append, true_or, or_true, if_true, bI_if]
  rw [b72_9, n_add, c_put lay17 (by decide) (by decide) (by decide), puV_n (show 10 + i < 30 by omega) (by decide)]
  simp only [Option.bind_some, Option.toList_some, Option.toList_none, List.cons_append, List.nil_append, true_or, or_true, if_true, bI_if]
  rw [b72_21, n_add, c_put lay17 (by decide) (by decide) (by decide), puV_n (show 20 + i < 30 by omega) (by decide)]
  simp only [Option.bind_some, Option.toList_some, Option.toList_none, List.cons_append, List.nil_append, true_or, or_true, if_true, bI_if]
  rw [b72_34]
theorem p_runner {d : Nat} {n : Nat} {a : Nat → Nat → Int32} {b : Nat → Nat → Int64} {r : Nat → Nat → Option Nat} {σ : SV} {cl cl' : List Cls} {R R' : Nat → List Cls} {TL TS A : Nat} {TR : Nat → Nat} (h : (St a b r σ cl cl' R R' TL TS TR A)) {v1 v2 v3 v4 : Int32} : ∃ (v : Int32) (a1 : Nat → Nat → Int32) (b1 : Nat → Nat → Int64) (r1 : Nat → Nat → Option Nat) (a2 : Nat → Nat → Int32) (b2 : Nat → Nat → Int64), Den (d+60) 113 0 [.ref 14, .int v1, .int v2, .int v3, .int v4] [] (zmMk n a b r) = some (some (.int v), zmMk n a1 b1 r1) ∧ Den (d+60) 246 0 [.ref 94, .int v1, .int v2, .int v3, .int v4] [] (zmMk n a1 b1 r1) = some (some (.int v), zmMk n a2 b2 r1) ∧ InvS a2 b2 r1 (A + 1) := by
  obtain ⟨hB, hC, hM, hK⟩ := id h
  by_cases g1 : inI v1 (iN 0) (iN 9) = true
  · by_cases g2 : inI v2 (iN 1) (iN 120) = true
    · by_cases g3 : inI v3 (iN 1) (iN 40) = true
      · by_cases g4 : inI v4 (iN 0) (iN 999) = true
        · obtain ⟨i, -, i9, rfl⟩ := inI_ex (by decide) (by decide) g1
          obtain ⟨x, x0, x9, rfl⟩ := inI_ex (by decide) (by decide) g2
          obtain ⟨y, y0, y9, rfl⟩ := inI_ex (by decide) (by decide) g3
          obtain ⟨z, -, z9, rfl⟩ := inI_ex (by decide) (by decide) g4
          obtain ⟨m, m1, m2, m3⟩ := hM.1.2.2.2.1
          obtain ⟨m4, m5⟩ := bits_set (N := 10) m1 (show i < 10 by omega)
          have hin : zmIn (iN i) 10 = true := by rw [n_in (by omega)]; exact decide_eq_true (by omega)
          have eor : (iN m ||| (((iN 1) : Int32) <<< ((iN i : Int32) &&& (iN 31)))) = iN (m ||| 2 ^ i) := by rw [n_shl i (by omega), Nat.one_mul, n_or]
          have e65 : (uI (uI (uI a 17 i (iN x)) 17 (10 + i) (iN y)) 17 (20 + i) (iN z)) 94 65 = iN m := by rw [uI_ne (by omega), uI_ne (by omega), uI_ne (by omega)]; exact m2
          refine ⟨iN 1, uI (uI (uI a 17 i (iN x)) 17 (10 + i) (iN y)) 17 (20 + i) (iN z), b, r, uI (uI (uI (uI (uI (uI (uI a 17 i (iN x)) 17 (10 + i) (iN y)) 17 (20 + i) (iN z)) 94 65 (iN (m ||| 2 ^ i))) 131 i (iN x)) 132 i (iN y)) 133 i (iN z), b, ?_, ?_, ?_⟩
          · simp only [b113_0, c_within, Option.bind_some, Option.toList_some, Option.toList_none, List.cons_append, List.nil_append, true_or, or_true, if_true, bI_if, b113_7, g1, bI_if, b113_10, b113_17, g2, b113_20, b113_27, g3, b113_30, b113_39, g4, b113_44, c_setR (show i < 10 by omega), b113_56, if_true, if_false, Bool.false_eq_true, true_and, and_true, false_and, and_false, true_or, or_true, false_or, or_false, and_self, or_self, decide_true, decide_false, Bool.not_true, Bool.not_false, Bool.and_true, Bool.and_false, Bool.true_and, Bool.false_and, ite_self]
          · simp only [b246_0, m_in, Option.bind_some, Option.toList_some, Option.toList_none, List.cons_append, List.nil_append, true_or, or_true, if_true, bI_if, b246_7, g1, bI_if, b246_10, b246_17, g2, b246_20, b246_27, g3, b246_30, b246_39, g4, b246_44, hin, e65, eor, n_nat (show i < 2147483648 by omega), b246_63, b246_70, b246_78, if_true, if_false, Bool.false_eq_true, true_and, and_true, false_and, and_false, true_or, or_true, false_or, or_false, and_self, or_self, decide_true, decide_false, Bool.not_true, Bool.not_false, Bool.and_true, Bool.and_false, Bool.true_and, Bool.false_and, ite_self]
          · obtain ⟨x1, x2, x3, x4, x5, x6, x7, x8, x10⟩ := hB
            obtain ⟨c1, c2, c3, c4, c5, c6, c7, c8, c9, c10, c11, c12⟩ := id hC
            have s1 : ∀ j, (uN (uN (uN σ 1 i x) 2 i y) 3 i z) 1 j = if j = i then x else σ 1 j := fun j => cond_at (i := i) (j := j) (x := x) (y := σ 1 j)
            have s2 : ∀ j, (uN (uN (uN σ 1 i x) 2 i y) 3 i z) 2 j = if j = i then y else σ 2 j := fun j => cond_at (i := i) (j := j) (x := y) (y := σ 2 j)
            have s3 : ∀ j, (uN (uN (uN σ 1 i x) 2 i y) 3 i z) 3 j = if j = i then z else σ 3 j := fun j => cond_at (i := i) (j := j) (x := z) (y := σ 3 j)
            have ea : ∀ q, q ≠ 17 → (uI (uI (uI a 17 i (iN x)) 17 (10 + i) (iN y)) 17 (20 + i) (iN z)) q = a q := fun q h1 => by rw [uI_ne h1, uI_ne h1, uI_ne h1]
            have ea17 : ∀ q, (uI (uI (uI a 17 i (iN x)) 17 (10 + i) (iN y)) 17 (20 + i) (iN z)) 17 q = if q = 20 + i then iN z else if q = 10 + i then iN y else if q = i then iN x else a 17 q := fun q => by
              simp only [uI_at, true_and]
            have hBn : StB (uN (uN (uN σ 1 i x) 2 i y) 3 i z) cl cl' R R' := ⟨⟨x1.1, x1.2.1, fun j hj => (by
              show (uN (uN (uN σ 1 i x) 2 i y) 3 i z) 1 j ≤ 120 ∧ ((uN (uN (uN σ 1 i x) 2 i y) 3 i z) 1 j ≠ 0 → (1 ≤ (uN (uN (uN σ 1 i x) 2 i y) 3 i z) 2 j ∧ (uN (uN (uN σ 1 i x) 2 i y) 3 i z) 2 j ≤ 40) ∧ (uN (uN (uN σ 1 i x) 2 i y) 3 i z) 3 j ≤ 999)
              rw [s1, s2, s3]
              have h9 : σ 1 j ≤ 120 ∧ (σ 1 j ≠ 0 → (1 ≤ σ 2 j ∧ σ 2 j ≤ 40) ∧ σ 3 j ≤ 999) := x1.2.2.1 j hj
              by_cases hji : j = i
              · rw [if_pos hji, if_pos hji, if_pos hji]
                exact ⟨x9, fun _ => ⟨⟨y0, y9⟩, z9⟩⟩
              · rw [if_neg hji, if_neg hji, if_neg hji]
                exact h9), x1.2.2.2⟩, x2, x3, x4, x5, x6, x7, x8, x10⟩
            have hCn : (StC (uI (uI (uI a 17 i (iN x)) 17 (10 + i) (iN y)) 17 (20 + i) (iN z)) b r (uN (uN (uN σ 1 i x) 2 i y) 3 i z) cl R TL TS TR A ∧ Cac ((uN (uN (uN σ 1 i x) 2 i y) 3 i z) 0 0) ((uN (uN (uN σ 1 i x) 2 i y) 3 i z) 0 5) (QS (uN (uN (uN σ 1 i x) 2 i y) 3 i z) cl) A (uI (uI (uI a 17 i (iN x)) 17 (10 + i) (iN y)) 17 (20 + i) (iN z)) b) := by
              refine CC.upd0 ⟨hC, hK⟩ (fun q _ h1 _ => ea q (by omega)) rfl rfl rfl ?_ ?_ ?_ ?_ ?_ ?_
              · obtain ⟨y1, y2, y3, y4, y5⟩ := c3
                refine ⟨?_, ?_, ?_, ?_, ?_⟩
                · rw [ea 16 (by omega)]; exact y1
                · rw [ea 16 (by omega)]; exact y2
                · intro j hj
                  obtain ⟨w1, w2, w3⟩ : a 17 j = iN (σ 1 j) ∧ a 17 (10 + j) = iN (σ 2 j) ∧ a 17 (20 + j) = iN (σ 3 j) := y3 j hj
                  show (uI (uI (uI a 17 i (iN x)) 17 (10 + i) (iN y)) 17 (20 + i) (iN z)) 17 j = iN ((uN (uN (uN σ 1 i x) 2 i y) 3 i z) 1 j) ∧ (uI (uI (uI a 17 i (iN x)) 17 (10 + i) (iN y)) 17 (20 + i) (iN z)) 17 (10 + j) = iN ((uN (uN (uN σ 1 i x) 2 i y) 3 i z) 2 j) ∧ (uI (uI (uI a 17 i (iN x)) 17 (10 + i) (iN y)) 17 (20 + i) (iN z)) 17 (20 + j) = iN ((uN (uN (uN σ 1 i x) 2 i y) 3 i z) 3 j)
                  rw [s1, s2, s3, ea17, ea17, ea17]
                  by_cases hji : j = i
                  · rw [if_pos hji, if_pos hji, if_pos hji, if_neg (by omega), if_neg (by omega), if_pos hji, if_neg (by omega), if_pos (by omega), if_pos (by omega)]
                    exact ⟨rfl, rfl, rfl⟩
                  · rw [if_neg hji, if_neg hji, if_neg hji, if_neg (by omega), if_neg (by omega), if_neg hji, if_neg (by omega), if_neg (by omega), if_neg (by omega), if_neg (by omega), if_neg (by omega), if_neg (by omega)]
                    exact ⟨w1, w2, w3⟩
                · rw [ea 18 (by omega)]; exact y4
                · rw [ea 19 (by omega)]; exact y5
              · rw [ea 14 (by omega)]
                exact ⟨c4.1, fun q => (c4.2 q).ag (fun k h1 h2 => ea k (by omega))⟩
              · rw [ea 14 (by omega), ea 15 (by omega)]
                exact c5
              · rw [ea 24 (by omega), ea 25 (by omega)]
                exact c6
              · rw [ea 27 (by omega), ea 28 (by omega)]
                exact c7
              · exact c9.ag (fun q h1 h2 => ea q (by omega))
            have hMh := hM.hi (a' := uI (uI (uI a 17 i (iN x)) 17 (10 + i) (iN y)) 17 (20 + i) (iN z)) (fun q hq => ea q (by omega))
            obtain ⟨z1, z2, z3, z4, z5, z6, z7, z8⟩ := hMh
            have eb : ∀ q, q ≠ 94 → ¬ (131 ≤ q ∧ q ≤ 133) → (uI (uI (uI (uI (uI (uI (uI a 17 i (iN x)) 17 (10 + i) (iN y)) 17 (20 + i) (iN z)) 94 65 (iN (m ||| 2 ^ i))) 131 i (iN x)) 132 i (iN y)) 133 i (iN z)) q = (uI (uI (uI a 17 i (iN x)) 17 (10 + i) (iN y)) 17 (20 + i) (iN z)) q := fun q hq h2 => by rw [uI_ne (by omega), uI_ne (by omega), uI_ne (by omega), uI_ne hq]
            have ec : ∀ j, j ≠ 65 → (uI (uI (uI (uI (uI (uI (uI a 17 i (iN x)) 17 (10 + i) (iN y)) 17 (20 + i) (iN z)) 94 65 (iN (m ||| 2 ^ i))) 131 i (iN x)) 132 i (iN y)) 133 i (iN z)) 94 j = (uI (uI (uI a 17 i (iN x)) 17 (10 + i) (iN y)) 17 (20 + i) (iN z)) 94 j := fun j h1 => by rw [uI_ne (by omega), uI_ne (by omega), uI_ne (by omega), uI_at, if_neg (by omega)]
            have hMn : StM (uI (uI (uI (uI (uI (uI (uI a 17 i (iN x)) 17 (10 + i) (iN y)) 17 (20 + i) (iN z)) 94 65 (iN (m ||| 2 ^ i))) 131 i (iN x)) 132 i (iN y)) 133 i (iN z)) (uN (uN (uN σ 1 i x) 2 i y) 3 i z) cl' R' := by
              refine ⟨?_, ?_, ?_, ?_, ?_, z6.ag (ec 73 (by omega)) (ec 74 (by omega)) (eb 134 (by omega) (by omega)) (eb 135 (by omega) (by omega)), z7.ag (fun q h1 h2 => eb q (by omega) (by omega)), fun j hj => (z8 j hj).ag (fun q h1 h2 => eb q (by omega) (by omega))⟩
              · obtain ⟨y1, y2, y3, y4, y5, y6, y7⟩ := z1
                refine ⟨?_, ?_, ?_, ?_, ?_, ?_, ?_⟩
                · rw [ec 0 (by omega)]; exact y1
                · rw [ec 1 (by omega)]; exact y2
                · rw [ec 64 (by omega)]; exact y3
                · refine ⟨m ||| 2 ^ i, m4, ?_, fun j hj => ?_⟩
                  · rw [uI_ne (by omega), uI_ne (by omega), uI_ne (by omega), uI_at, if_pos ⟨rfl, rfl⟩]
                  · show _ = decide ((uN (uN (uN σ 1 i x) 2 i y) 3 i z) 1 j ≠ 0)
                    rw [m5, s1]
                    have h9 : m.testBit j = decide (σ 1 j ≠ 0) := m3 j hj
                    rw [h9]
                    by_cases hji : j = i
                    · rw [if_pos hji, decide_eq_true (show i = j from hji.symm), decide_eq_true (show x ≠ 0 by omega), Bool.or_true]
                    · rw [if_neg hji, decide_eq_false (show ¬ i = j from fun e => hji e.symm), Bool.or_false]
                · rw [eb 127 (by omega) (by omega), eb (127 + 1) (by omega) (by omega), eb (127 + 2) (by omega) (by omega), eb (127 + 3) (by omega) (by omega)]; exact y5
                · intro j hj hne
                  have hne' : (uN (uN (uN σ 1 i x) 2 i y) 3 i z) 1 j ≠ 0 := hne
                  rw [s1] at hne'
                  show (uI (uI (uI (uI (uI (uI (uI a 17 i (iN x)) 17 (10 + i) (iN y)) 17 (20 + i) (iN z)) 94 65 (iN (m ||| 2 ^ i))) 131 i (iN x)) 132 i (iN y)) 133 i (iN z)) 131 j = iN ((uN (uN (uN σ 1 i x) 2 i y) 3 i z) 1 j) ∧ (uI (uI (uI (uI (uI (uI (uI a 17 i (iN x)) 17 (10 + i) (iN y)) 17 (20 + i) (iN z)) 94 65 (iN (m ||| 2 ^ i))) 131 i (iN x)) 132 i (iN y)) 133 i (iN z)) 132 j = iN ((uN (uN (uN σ 1 i x) 2 i y) 3 i z) 2 j) ∧ (uI (uI (uI (uI (uI (uI (uI a 17 i (iN x)) 17 (10 + i) (iN y)) 17 (20 + i) (iN z)) 94 65 (iN (m ||| 2 ^ i))) 131 i (iN x)) 132 i (iN y)) 133 i (iN z)) 133 j = iN ((uN (uN (uN σ 1 i x) 2 i y) 3 i z) 3 j)
                  rw [s1, s2, s3]
                  have f1 : (uI (uI (uI (uI (uI (uI (uI a 17 i (iN x)) 17 (10 + i) (iN y)) 17 (20 + i) (iN z)) 94 65 (iN (m ||| 2 ^ i))) 131 i (iN x)) 132 i (iN y)) 133 i (iN z)) 131 j = if j = i then iN x else (uI (uI (uI a 17 i (iN x)) 17 (10 + i) (iN y)) 17 (20 + i) (iN z)) 131 j := by rw [uI_ne (by omega), uI_ne (by omega), uI_at]; simp only [true_and, uI_ne (show 131 ≠ 94 by omega)]
                  have f2 : (uI (uI (uI (uI (uI (uI (uI a 17 i (iN x)) 17 (10 + i) (iN y)) 17 (20 + i) (iN z)) 94 65 (iN (m ||| 2 ^ i))) 131 i (iN x)) 132 i (iN y)) 133 i (iN z)) 132 j = if j = i then iN y else (uI (uI (uI a 17 i (iN x)) 17 (10 + i) (iN y)) 17 (20 + i) (iN z)) 132 j := by rw [uI_ne (by omega), uI_at]; simp only [true_and, uI_ne (show 132 ≠ 94 by omega), uI_ne (show 132 ≠ 131 by omega)]
                  have f3 : (uI (uI (uI (uI (uI (uI (uI a 17 i (iN x)) 17 (10 + i) (iN y)) 17 (20 + i) (iN z)) 94 65 (iN (m ||| 2 ^ i))) 131 i (iN x)) 132 i (iN y)) 133 i (iN z)) 133 j = if j = i then iN z else (uI (uI (uI a 17 i (iN x)) 17 (10 + i) (iN y)) 17 (20 + i) (iN z)) 133 j := by rw [uI_at]; simp only [true_and, uI_ne (show 133 ≠ 94 by omega), uI_ne (show 133 ≠ 131 by omega), uI_ne (show 133 ≠ 132 by omega)]
                  rw [f1, f2, f3]
                  by_cases hji : j = i
                  · rw [if_pos hji, if_pos hji, if_pos hji, if_pos hji, if_pos hji, if_pos hji]
                    exact ⟨rfl, rfl, rfl⟩
                  · rw [if_neg hji] at hne'
                    rw [if_neg hji, if_neg hji, if_neg hji, if_neg hji, if_neg hji, if_neg hji]
                    exact y6 j hj hne'
                · rw [eb 136 (by omega) (by omega)]; exact y7
              · rw [ec 80 (by omega)]
                exact ⟨z2.1, fun q => (z2.2 q).ag (fun j hj => ec j (by omega)) (fun k h => eb k (by omega) (by omega))⟩
              · rw [ec 8 (by omega), eb 95 (by omega) (by omega)]
                exact z3
              · rw [ec 2 (by omega), eb 96 (by omega) (by omega)]
                exact z4
              · rw [ec 4 (by omega), ec 3 (by omega), eb 98 (by omega) (by omega)]
                exact z5
            exact InvS.of (St.mkJ hBn hCn hMn (fun q hq => eb q (by omega) (by omega)) (fun _ _ => rfl)) (Nat.le_succ _)
        · refine ⟨iN 0, a, b, r, a, b, ?_, ?_, InvS.of h (Nat.le_succ _)⟩
          · rw [Bool.not_eq_true] at g4
            simp only [b113_0, c_within, Option.bind_some, Option.toList_some, Option.toList_none, List.cons_append, List.nil_append, true_or, or_true, if_true, bI_if, b113_7, g1, bI_if, b113_10, b113_17, g2, b113_20, b113_27, g3, b113_30, b113_39, g4, b113_42, if_true, if_false, Bool.false_eq_true, true_and, and_true, false_and, and_false, true_or, or_true, false_or, or_false, and_self, or_self, decide_true, decide_false, Bool.not_true, Bool.not_false, Bool.and_true, Bool.and_false, Bool.true_and, Bool.false_and, ite_self]
          · rw [Bool.not_eq_true] at g4
            simp only [b246_0, m_in, Option.bind_some, Option.toList_some, Option.toList_none, List.cons_append, List.nil_append, true_or, or_true, if_true, bI_if, b246_7, g1, bI_if, b246_10, b246_17, g2, b246_20, b246_27, g3, b246_30, b246_39, g4, b246_42, if_true, if_false, Bool.false_eq_true, true_and, and_true, false_and, and_false, true_or, or_true, false_or, or_false, and_self, or_self, decide_true, decide_false, Bool.not_true, Bool.not_false, Bool.and_true, Bool.and_false, Bool.true_and, Bool.false_and, ite_self]
      · refine ⟨iN 0, a, b, r, a, b, ?_, ?_, InvS.of h (Nat.le_succ _)⟩
        · rw [Bool.not_eq_true] at g3
          simp only [b113_0, c_within, Option.bind_some, Option.toList_some, Option.toList_none, List.cons_append, List.nil_append, true_or, or_true, if_true, bI_if, b113_7, g1, bI_if, b113_10, b113_17, g2, b113_20, b113_27, g3, b113_42, if_true, if_false, Bool.false_eq_true, true_and, and_true, false_and, and_false, true_or, or_true, false_or, or_false, and_self, or_self, decide_true, decide_false, Bool.not_true, Bool.not_false, Bool.and_true, Bool.and_false, Bool.true_and, Bool.false_and, ite_self]
        · rw [Bool.not_eq_true] at g3
          simp only [b246_0, m_in, Option.bind_some, Option.toList_some, Option.toList_none, List.cons_append, List.nil_append, true_or, or_true, if_true, bI_if, b246_7, g1, bI_if, b246_10, b246_17, g2, b246_20, b246_27, g3, b246_42, if_true, if_false, Bool.false_eq_true, true_and, and_true, false_and, and_false, true_or, or_true, false_or, or_false, and_self, or_self, decide_true, decide_false, Bool.not_true, Bool.not_false, Bool.and_true, Bool.and_false, Bool.true_and, Bool.false_and, ite_self]
    · refine ⟨iN 0, a, b, r, a, b, ?_, ?_, InvS.of h (Nat.le_succ _)⟩
      · rw [Bool.not_eq_true] at g2
        simp only [b113_0, c_within, Option.bind_some, Option.toList_some, Option.toList_none, List.cons_append, List.nil_append, true_or, or_true, if_true, bI_if, b113_7, g1, bI_if, b113_10, b113_17, g2, b113_42, if_true, if_false, Bool.false_eq_true, true_and, and_true, false_and, and_false, true_or, or_true, false_or, or_false, and_self, or_self, decide_true, decide_false, Bool.not_true, Bool.not_false, Bool.and_true, Bool.and_false, Bool.true_and, Bool.false_and, ite_self]
      · rw [Bool.not_eq_true] at g2
        simp only [b246_0, m_in, Option.bind_some, Option.toList_some, Option.toList_none, List.cons_append, List.nil_append, true_or, or_true, if_true, bI_if, b246_7, g1, bI_if, b246_10, b246_17, g2, b246_42, if_true, if_false, Bool.false_eq_true, true_and, and_true, false_and, and_false, true_or, or_true, false_or, or_false, and_self, or_self, decide_true, decide_false, Bool.not_true, Bool.not_false, Bool.and_true, Bool.and_false, Bool.true_and, Bool.false_and, ite_self]
  · refine ⟨iN 0, a, b, r, a, b, ?_, ?_, InvS.of h (Nat.le_succ _)⟩
    · rw [Bool.not_eq_true] at g1
      simp only [b113_0, c_within, Option.bind_some, Option.toList_some, Option.toList_none, List.cons_append, List.nil_append, true_or, or_true, if_true, bI_if, b113_7, g1, bI_if, b113_42, if_true, if_false, Bool.false_eq_true, true_and, and_true, false_and, and_false, true_or, or_true, false_or, or_false, and_self, or_self, decide_true, decide_false, Bool.not_true, Bool.not_false, Bool.and_true, Bool.and_false, Bool.true_and, Bool.false_and, ite_self]
    · rw [Bool.not_eq_true] at g1
      simp only [b246_0, m_in, Option.bind_some, Option.toList_some, Option.toList_none, List.cons_append, List.nil_append, true_or, or_true, if_true, bI_if, b246_7, g1, bI_if, b246_42, if_true, if_false, Bool.false_eq_true, true_and, and_true, false_and, and_false, true_or, or_true, false_or, or_false, and_self, or_self, decide_true, decide_false, Bool.not_true, Bool.not_false, Bool.and_true, Bool.and_false, Bool.true_and, Bool.false_and, ite_self]
