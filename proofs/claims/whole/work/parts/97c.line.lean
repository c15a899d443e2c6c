/-! ===== LINES, tries ===== -/
theorem c_setL {d i x y z w : Nat} {n : Nat} {a : Nat → Nat → Int32} {b : Nat → Nat → Int64} {r : Nat → Nat → Option Nat} (hi : i < 8) : Den (d+1) 69 0 [.ref 16, .int (iN i), .int (iN x), .int (iN y), .int (iN z), .int (iN w)] [] (zmMk n a b r) = some (none, zmMk n (uI (uI (uI (uI (uI a 18 (i * 5) (iN 1)) 18 (i * 5 + 1) (iN x)) 18 (i * 5 + 2) (iN y)) 18 (i * 5 + 3) (iN z)) 18 (i * 5 + 4) (iN w)) b r) := by
  rw [b69_0, n_mul, c_put lay18 (by decide) (by decide) (by decide), puV_n (show i * 5 < 40 by omega) (by decide)]
  simp only [Option.bind_some, Option.toList_some, Option.toList_none, List.cons_append, List.nil_append, true_or, or_true, if_true, bI_if]
  rw [b69_11, n_mul, n_add, c_put lay18 (by decide) (by decide) (by decide), puV_n (show i * 5 + 1 < 40 by omega) (by decide)]
  simp only [Option.bind_some, Option.toList_some, Option.toList_none, List.cons_append, List.nil_append, true_or, or_true, if_true, bI_if]
  rw [b69_24, n_mul, n_add, c_put lay18 (by decide) (by decide) (by decide), puV_n (show i * 5 + 2 < 40 by omega) (by decide)]
  simp only [Option.bind_some, Option.toList_some, Option.toList_none, List.cons_append, List.nil_append, true_or, or_true, if_true, bI_if]
  rw [b69_37, n_mul, n_add, c_put lay18 (by decide) (by decide) (by decide), puV_n (show i * 5 + 3 < 40 by omega) (by decide)]
  simp only [Option.bind_some, Option.toList_some, Option.toList_none, List.cons_append, List.nil_append, true_or, or_true, if_true, bI_if]
  rw [b69_51, n_mul, n_add, c_put lay18 (by decide) (by decide) (by decide), puV_n (show i * 5 + 4 < 40 by omega) (by decide)]
  simp only [Option.bind_some, Option.toList_some, Option.toList_none, List.cons_append, List.nil_append, true_or, or_true, if_true, bI_if]
  rw [b69_65]
theorem p_line {d : Nat} {n : Nat} {a : Nat → Nat → Int32} {b : Nat → Nat → Int64} {r : Nat → Nat → Option Nat} {σ : SV} {cl cl' : List Cls} {R R' : Nat → List Cls} {TL TS A : Nat} {TR : Nat → Nat} (h : (St a b r σ cl cl' R R' TL TS TR A)) {v1 v2 v3 v4 v5 : Int32} : ∃ (v : Int32) (a1 : Nat → Nat → Int32) (b1 : Nat → Nat → Int64) (r1 : Nat → Nat → Option Nat) (a2 : Nat → Nat → Int32) (b2 : Nat → Nat → Int64), Den (d+60) 111 0 [.ref 14, .int v1, .int v2, .int v3, .int v4, .int v5] [] (zmMk n a b r) = some (some (.int v), zmMk n a1 b1 r1) ∧ Den (d+60) 243 0 [.ref 94, .int v1, .int v2, .int v3, .int v4, .int v5] [] (zmMk n a1 b1 r1) = some (some (.int v), zmMk n a2 b2 r1) ∧ InvS a2 b2 r1 (A + 1) := by
  obtain ⟨hB, hC, hM, hK⟩ := id h
  by_cases g1 : inI v1 (iN 0) (iN 7) = true
  · by_cases g2 : inI v2 (iN 0) (iN 3) = true
    · by_cases g3 : inI v3 (iN 0) (iN 16777215) = true
      · by_cases g4 : inI v4 (iN 0) (iN 99) = true
        · by_cases g5 : inI v5 (iN 0) (iN 99) = true
          · obtain ⟨i, -, i9, rfl⟩ := inI_ex (by decide) (by decide) g1
            obtain ⟨x, -, x9, rfl⟩ := inI_ex (by decide) (by decide) g2
            obtain ⟨y, -, y9, rfl⟩ := inI_ex (by decide) (by decide) g3
            obtain ⟨z, -, z9, rfl⟩ := inI_ex (by decide) (by decide) g4
            obtain ⟨w, -, w9, rfl⟩ := inI_ex (by decide) (by decide) g5
            obtain ⟨m, m1, m2, m3⟩ := hM.1.2.2.1
            obtain ⟨m4, m5⟩ := bits_set (N := 8) m1 (show i < 8 by omega)
            have hin : zmIn (iN i) 8 = true := by rw [n_in (by omega)]; exact decide_eq_true (by omega)
            have eor : (iN m ||| (((iN 1) : Int32) <<< ((iN i : Int32) &&& (iN 31)))) = iN (m ||| 2 ^ i) := by rw [n_shl i (by omega), Nat.one_mul, n_or]
            have e64 : (uI (uI (uI (uI (uI a 18 (i * 5) (iN 1)) 18 (i * 5 + 1) (iN x)) 18 (i * 5 + 2) (iN y)) 18 (i * 5 + 3) (iN z)) 18 (i * 5 + 4) (iN w)) 94 64 = iN m := by rw [uI_ne (by omega), uI_ne (by omega), uI_ne (by omega), uI_ne (by omega), uI_ne (by omega)]; exact m2
            refine ⟨iN 1, uI (uI (uI (uI (uI a 18 (i * 5) (iN 1)) 18 (i * 5 + 1) (iN x)) 18 (i * 5 + 2) (iN y)) 18 (i * 5 + 3) (iN z)) 18 (i * 5 + 4) (iN w), b, r, uI (uI (uI (uI (uI (uI (uI (uI (uI (uI a 18 (i * 5) (iN 1)) 18 (i * 5 + 1) (iN x)) 18 (i * 5 + 2) (iN y)) 18 (i * 5 + 3) (iN z)) 18 (i * 5 + 4) (iN w)) 94 64 (iN (m ||| 2 ^ i))) 127 i (iN x)) 128 i (iN y)) 129 i (iN z)) 130 i (iN w), b, ?_, ?_, ?_⟩
            · simp only [b111_0, b111_7, b111_10, b111_16, b111_19, b111_26, b111_29, b111_37, b111_40, b111_48, c_within, Option.bind_some, Option.toList_some, Option.toList_none, List.cons_append, List.nil_append, true_or, or_true, if_true, bI_if, g1, bI_if, g2, g3, g4, g5, b111_53, c_setL (show i < 8 by omega), b111_67, if_true, if_false, Bool.false_eq_true, true_and, and_true, false_and, and_false, true_or, or_true, false_or, or_false, and_self, or_self, decide_true, decide_false, Bool.not_true, Bool.not_false, Bool.and_true, Bool.and_false, Bool.true_and, Bool.false_and, ite_self]
            · simp only [b243_0, b243_7, b243_10, b243_16, b243_19, b243_27, b243_30, b243_38, b243_41, b243_49, m_in, Option.bind_some, Option.toList_some, Option.toList_none, List.cons_append, List.nil_append, true_or, or_true, if_true, bI_if, g1, bI_if, g2, g3, g4, g5, b243_54, hin, e64, eor, n_nat (show i < 2147483648 by omega), b243_73, b243_80, b243_88, b243_96, if_true, if_false, Bool.false_eq_true, true_and, and_true, false_and, and_false, true_or, or_true, false_or, or_false, and_self, or_self, decide_true, decide_false, Bool.not_true, Bool.not_false, Bool.and_true, Bool.and_false, Bool.true_and, Bool.false_and, ite_self]
            · obtain ⟨x1, x2, x3, x4, x5, x6, x7, x8, x10⟩ := hB
              obtain ⟨c1, c2, c3, c4, c5, c6, c7, c8, c9, c10, c11, c12⟩ := id hC
              have s4 : ∀ j, (uN (uN (uN (uN (uN σ 4 i 1) 5 i x) 6 i y) 7 i z) 8 i w) 4 j = if j = i then 1 else σ 4 j := fun j => cond_at (i := i) (j := j) (x := 1) (y := σ 4 j)
              have s5 : ∀ j, (uN (uN (uN (uN (uN σ 4 i 1) 5 i x) 6 i y) 7 i z) 8 i w) 5 j = if j = i then x else σ 5 j := fun j => cond_at (i := i) (j := j) (x := x) (y := σ 5 j)
              have s6 : ∀ j, (uN (uN (uN (uN (uN σ 4 i 1) 5 i x) 6 i y) 7 i z) 8 i w) 6 j = if j = i then y else σ 6 j := fun j => cond_at (i := i) (j := j) (x := y) (y := σ 6 j)
              have s7 : ∀ j, (uN (uN (uN (uN (uN σ 4 i 1) 5 i x) 6 i y) 7 i z) 8 i w) 7 j = if j = i then z else σ 7 j := fun j => cond_at (i := i) (j := j) (x := z) (y := σ 7 j)
              have s8 : ∀ j, (uN (uN (uN (uN (uN σ 4 i 1) 5 i x) 6 i y) 7 i z) 8 i w) 8 j = if j = i then w else σ 8 j := fun j => cond_at (i := i) (j := j) (x := w) (y := σ 8 j)
              have ea : ∀ q, q ≠ 18 → (uI (uI (uI (uI (uI a 18 (i * 5) (iN 1)) 18 (i * 5 + 1) (iN x)) 18 (i * 5 + 2) (iN y)) 18 (i * 5 + 3) (iN z)) 18 (i * 5 + 4) (iN w)) q = a q := fun q h1 => by rw [uI_ne h1, uI_ne h1, uI_ne h1, uI_ne h1, uI_ne h1]
              have ea18 : ∀ q, (uI (uI (uI (uI (uI a 18 (i * 5) (iN 1)) 18 (i * 5 + 1) (iN x)) 18 (i * 5 + 2) (iN y)) 18 (i * 5 + 3) (iN z)) 18 (i * 5 + 4) (iN w)) 18 q = if q = i * 5 + 4 then iN w else if q = i * 5 + 3 then iN z else if q = i * 5 + 2 then iN y else if q = i * 5 + 1 then iN x else if q = i * 5 then iN 1 else a 18 q := fun q => by
                simp only [uI_at, true_and]
              have hBn : StB (uN (uN (uN (uN (uN σ 4 i 1) 5 i x) 6 i y) 7 i z) 8 i w) cl cl' R R' := ⟨⟨x1.1, x1.2.1, x1.2.2.1, fun j hj => (by
                show (uN (uN (uN (uN (uN σ 4 i 1) 5 i x) 6 i y) 7 i z) 8 i w) 4 j ≤ 1 ∧ (uN (uN (uN (uN (uN σ 4 i 1) 5 i x) 6 i y) 7 i z) 8 i w) 5 j ≤ 3 ∧ (uN (uN (uN (uN (uN σ 4 i 1) 5 i x) 6 i y) 7 i z) 8 i w) 6 j < 16777216 ∧ (uN (uN (uN (uN (uN σ 4 i 1) 5 i x) 6 i y) 7 i z) 8 i w) 7 j ≤ 99 ∧ (uN (uN (uN (uN (uN σ 4 i 1) 5 i x) 6 i y) 7 i z) 8 i w) 8 j ≤ 99
                rw [s4, s5, s6, s7, s8]
                have h9 : σ 4 j ≤ 1 ∧ σ 5 j ≤ 3 ∧ σ 6 j < 16777216 ∧ σ 7 j ≤ 99 ∧ σ 8 j ≤ 99 := x1.2.2.2.1 j hj
                by_cases hji : j = i
                · rw [if_pos hji, if_pos hji, if_pos hji, if_pos hji, if_pos hji]
                  omega
                · rw [if_neg hji, if_neg hji, if_neg hji, if_neg hji, if_neg hji]
                  exact h9), x1.2.2.2.2⟩, x2, x3, x4, x5, x6, x7, x8, x10⟩
              have hCn : (StC (uI (uI (uI (uI (uI a 18 (i * 5) (iN 1)) 18 (i * 5 + 1) (iN x)) 18 (i * 5 + 2) (iN y)) 18 (i * 5 + 3) (iN z)) 18 (i * 5 + 4) (iN w)) b r (uN (uN (uN (uN (uN σ 4 i 1) 5 i x) 6 i y) 7 i z) 8 i w) cl R TL TS TR A ∧ Cac ((uN (uN (uN (uN (uN σ 4 i 1) 5 i x) 6 i y) 7 i z) 8 i w) 0 0) ((uN (uN (uN (uN (uN σ 4 i 1) 5 i x) 6 i y) 7 i z) 8 i w) 0 5) (QS (uN (uN (uN (uN (uN σ 4 i 1) 5 i x) 6 i y) 7 i z) 8 i w) cl) A (uI (uI (uI (uI (uI a 18 (i * 5) (iN 1)) 18 (i * 5 + 1) (iN x)) 18 (i * 5 + 2) (iN y)) 18 (i * 5 + 3) (iN z)) 18 (i * 5 + 4) (iN w)) b) := by
                refine CC.upd0 ⟨hC, hK⟩ (fun q _ h1 _ => ea q (by omega)) rfl rfl rfl ?_ ?_ ?_ ?_ ?_ ?_
                · obtain ⟨y1, y2, y3, y4, y5⟩ := c3
                  refine ⟨?_, ?_, ?_, ?_, ?_⟩
                  · rw [ea 16 (by omega)]; exact y1
                  · rw [ea 16 (by omega)]; exact y2
                  · rw [ea 17 (by omega)]; exact y3
                  · intro j hj
                    obtain ⟨w1, w2, w3, w4, w5⟩ : a 18 (j * 5) = iN (σ 4 j) ∧ a 18 (j * 5 + 1) = iN (σ 5 j) ∧ a 18 (j * 5 + 2) = iN (σ 6 j) ∧ a 18 (j * 5 + 3) = iN (σ 7 j) ∧ a 18 (j * 5 + 4) = iN (σ 8 j) := y4 j hj
                    show (uI (uI (uI (uI (uI a 18 (i * 5) (iN 1)) 18 (i * 5 + 1) (iN x)) 18 (i * 5 + 2) (iN y)) 18 (i * 5 + 3) (iN z)) 18 (i * 5 + 4) (iN w)) 18 (j * 5) = iN ((uN (uN (uN (uN (uN σ 4 i 1) 5 i x) 6 i y) 7 i z) 8 i w) 4 j) ∧ (uI (uI (uI (uI (uI a 18 (i * 5) (iN 1)) 18 (i * 5 + 1) (iN x)) 18 (i * 5 + 2) (iN y)) 18 (i * 5 + 3) (iN z)) 18 (i * 5 + 4) (iN w)) 18 (j * 5 + 1) = iN ((uN (uN (uN (uN (uN σ 4 i 1) 5 i x) 6 i y) 7 i z) 8 i w) 5 j) ∧ (uI (uI (uI (uI (uI a 18 (i * 5) (iN 1)) 18 (i * 5 + 1) (iN x)) 18 (i * 5 + 2) (iN y)) 18 (i * 5 + 3) (iN z)) 18 (i * 5 + 4) (iN w)) 18 (j * 5 + 2) = iN ((uN (uN (uN (uN (uN σ 4 i 1) 5 i x) 6 i y) 7 i z) 8 i w) 6 j) ∧ (uI (uI (uI (uI (uI a 18 (i * 5) (iN 1)) 18 (i * 5 + 1) (iN x)) 18 (i * 5 + 2) (iN y)) 18 (i * 5 + 3) (iN z)) 18 (i * 5 + 4) (iN w)) 18 (j * 5 + 3) = iN ((uN (uN (uN (uN (uN σ 4 i 1) 5 i x) 6 i y) 7 i z) 8 i w) 7 j) ∧ (uI (uI (uI (uI (uI a 18 (i * 5) (iN 1)) 18 (i * 5 + 1) (iN x)) 18 (i * 5 + 2) (iN y)) 18 (i * 5 + 3) (iN z)) 18 (i * 5 + 4) (iN w)) 18 (j * 5 + 4) = iN ((uN (uN (uN (uN (uN σ 4 i 1) 5 i x) 6 i y) 7 i z) 8 i w) 8 j)
                    rw [s4, s5, s6, s7, s8, ea18, ea18, ea18, ea18, ea18]
                    by_cases hji : j = i
                    · subst hji
                      refine ⟨?_, ?_, ?_, ?_, ?_⟩
                      · rw [if_neg (by omega), if_neg (by omega), if_neg (by omega), if_neg (by omega), if_pos rfl, if_pos rfl]
                      · rw [if_neg (by omega), if_neg (by omega), if_neg (by omega), if_pos rfl, if_pos rfl]
                      · rw [if_neg (by omega), if_neg (by omega), if_pos rfl, if_pos rfl]
                      · rw [if_neg (by omega), if_pos rfl, if_pos rfl]
                      · rw [if_pos rfl, if_pos rfl]
                    · refine ⟨?_, ?_, ?_, ?_, ?_⟩ <;> rw [if_neg (by omega), if_neg (by omega), if_neg (by omega), if_neg (by omega), if_neg (by omega), if_neg hji] <;> assumption
                  · rw [ea 19 (by omega)]; exact y5
                · rw [ea 14 (by omega)]
                  exact ⟨c4.1, fun q => (c4.2 q).ag (fun k h1 h2 => ea k (by omega))⟩
                · rw [ea 14 (by omega), ea 15 (by omega)]
                  exact c5
                · rw [ea 24 (by omega), ea 25 (by omega)]
                  exact c6
                · rw [ea 27 (by omega), ea 28 (by omega)]
                  exact c7
                · exact c9.ag (fun q h1 h2 => ea q (by omega))
              have hMh := hM.hi (a' := uI (uI (uI (uI (uI a 18 (i * 5) (iN 1)) 18 (i * 5 + 1) (iN x)) 18 (i * 5 + 2) (iN y)) 18 (i * 5 + 3) (iN z)) 18 (i * 5 + 4) (iN w)) (fun q hq => ea q (by omega))
              obtain ⟨z1, z2, z3, z4, z5, z6, z7, z8⟩ := hMh
              have eb : ∀ q, q ≠ 94 → ¬ (127 ≤ q ∧ q ≤ 130) → (uI (uI (uI (uI (uI (uI (uI (uI (uI (uI a 18 (i * 5) (iN 1)) 18 (i * 5 + 1) (iN x)) 18 (i * 5 + 2) (iN y)) 18 (i * 5 + 3) (iN z)) 18 (i * 5 + 4) (iN w)) 94 64 (iN (m ||| 2 ^ i))) 127 i (iN x)) 128 i (iN y)) 129 i (iN z)) 130 i (iN w)) q = (uI (uI (uI (uI (uI a 18 (i * 5) (iN 1)) 18 (i * 5 + 1) (iN x)) 18 (i * 5 + 2) (iN y)) 18 (i * 5 + 3) (iN z)) 18 (i * 5 + 4) (iN w)) q := fun q hq h2 => by rw [uI_ne (by omega), uI_ne (by omega), uI_ne (by omega), uI_ne (by omega), uI_ne hq]
              have ec : ∀ j, j ≠ 64 → (uI (uI (uI (uI (uI (uI (uI (uI (uI (uI a 18 (i * 5) (iN 1)) 18 (i * 5 + 1) (iN x)) 18 (i * 5 + 2) (iN y)) 18 (i * 5 + 3) (iN z)) 18 (i * 5 + 4) (iN w)) 94 64 (iN (m ||| 2 ^ i))) 127 i (iN x)) 128 i (iN y)) 129 i (iN z)) 130 i (iN w)) 94 j = (uI (uI (uI (uI (uI a 18 (i * 5) (iN 1)) 18 (i * 5 + 1) (iN x)) 18 (i * 5 + 2) (iN y)) 18 (i * 5 + 3) (iN z)) 18 (i * 5 + 4) (iN w)) 94 j := fun j h1 => by rw [uI_ne (by omega), uI_ne (by omega), uI_ne (by omega), uI_ne (by omega), uI_at, if_neg (by omega)]
              have hMn : StM (uI (uI (uI (uI (uI (uI (uI (uI (uI (uI a 18 (i * 5) (iN 1)) 18 (i * 5 + 1) (iN x)) 18 (i * 5 + 2) (iN y)) 18 (i * 5 + 3) (iN z)) 18 (i * 5 + 4) (iN w)) 94 64 (iN (m ||| 2 ^ i))) 127 i (iN x)) 128 i (iN y)) 129 i (iN z)) 130 i (iN w)) (uN (uN (uN (uN (uN σ 4 i 1) 5 i x) 6 i y) 7 i z) 8 i w) cl' R' := by
                refine ⟨?_, ?_, ?_, ?_, ?_, z6.ag (ec 73 (by omega)) (ec 74 (by omega)) (eb 134 (by omega) (by omega)) (eb 135 (by omega) (by omega)), z7.ag (fun q h1 h2 => eb q (by omega) (by omega)), fun j hj => (z8 j hj).ag (fun q h1 h2 => eb q (by omega) (by omega))⟩
                · obtain ⟨y1, y2, y3, y4, y5, y6, y7⟩ := z1
                  refine ⟨?_, ?_, ?_, ?_, ?_, ?_, ?_⟩
                  · rw [ec 0 (by omega)]; exact y1
                  · rw [ec 1 (by omega)]; exact y2
                  · refine ⟨m ||| 2 ^ i, m4, ?_, fun j hj => ?_⟩
                    · rw [uI_ne (by omega), uI_ne (by omega), uI_ne (by omega), uI_ne (by omega), uI_at, if_pos ⟨rfl, rfl⟩]
                    · show _ = decide ((uN (uN (uN (uN (uN σ 4 i 1) 5 i x) 6 i y) 7 i z) 8 i w) 4 j = 1)
                      rw [m5, s4]
                      have h9 : m.testBit j = decide (σ 4 j = 1) := m3 j hj
                      rw [h9]
                      by_cases hji : j = i
                      · rw [if_pos hji, decide_eq_true (show i = j from hji.symm), Bool.or_true]
                        rfl
                      · rw [if_neg hji, decide_eq_false (show ¬ i = j from fun e => hji e.symm), Bool.or_false]
                  · rw [ec 65 (by omega)]; exact y4
                  · intro j hj hne
                    have hne' : (uN (uN (uN (uN (uN σ 4 i 1) 5 i x) 6 i y) 7 i z) 8 i w) 4 j = 1 := hne
                    rw [s4] at hne'
                    show (uI (uI (uI (uI (uI (uI (uI (uI (uI (uI a 18 (i * 5) (iN 1)) 18 (i * 5 + 1) (iN x)) 18 (i * 5 + 2) (iN y)) 18 (i * 5 + 3) (iN z)) 18 (i * 5 + 4) (iN w)) 94 64 (iN (m ||| 2 ^ i))) 127 i (iN x)) 128 i (iN y)) 129 i (iN z)) 130 i (iN w)) 127 j = iN ((uN (uN (uN (uN (uN σ 4 i 1) 5 i x) 6 i y) 7 i z) 8 i w) 5 j) ∧ (uI (uI (uI (uI (uI (uI (uI (uI (uI (uI a 18 (i * 5) (iN 1)) 18 (i * 5 + 1) (iN x)) 18 (i * 5 + 2) (iN y)) 18 (i * 5 + 3) (iN z)) 18 (i * 5 + 4) (iN w)) 94 64 (iN (m ||| 2 ^ i))) 127 i (iN x)) 128 i (iN y)) 129 i (iN z)) 130 i (iN w)) 128 j = iN ((uN (uN (uN (uN (uN σ 4 i 1) 5 i x) 6 i y) 7 i z) 8 i w) 6 j) ∧ (uI (uI (uI (uI (uI (uI (uI (uI (uI (uI a 18 (i * 5) (iN 1)) 18 (i * 5 + 1) (iN x)) 18 (i * 5 + 2) (iN y)) 18 (i * 5 + 3) (iN z)) 18 (i * 5 + 4) (iN w)) 94 64 (iN (m ||| 2 ^ i))) 127 i (iN x)) 128 i (iN y)) 129 i (iN z)) 130 i (iN w)) 129 j = iN ((uN (uN (uN (uN (uN σ 4 i 1) 5 i x) 6 i y) 7 i z) 8 i w) 7 j) ∧ (uI (uI (uI (uI (uI (uI (uI (uI (uI (uI a 18 (i * 5) (iN 1)) 18 (i * 5 + 1) (iN x)) 18 (i * 5 + 2) (iN y)) 18 (i * 5 + 3) (iN z)) 18 (i * 5 + 4) (iN w)) 94 64 (iN (m ||| 2 ^ i))) 127 i (iN x)) 128 i (iN y)) 129 i (iN z)) 130 i (iN w)) 130 j = iN ((uN (uN (uN (uN (uN σ 4 i 1) 5 i x) 6 i y) 7 i z) 8 i w) 8 j)
                    rw [s5, s6, s7, s8]
                    have f1 : (uI (uI (uI (uI (uI (uI (uI (uI (uI (uI a 18 (i * 5) (iN 1)) 18 (i * 5 + 1) (iN x)) 18 (i * 5 + 2) (iN y)) 18 (i * 5 + 3) (iN z)) 18 (i * 5 + 4) (iN w)) 94 64 (iN (m ||| 2 ^ i))) 127 i (iN x)) 128 i (iN y)) 129 i (iN z)) 130 i (iN w)) 127 j = if j = i then iN x else (uI (uI (uI (uI (uI a 18 (i * 5) (iN 1)) 18 (i * 5 + 1) (iN x)) 18 (i * 5 + 2) (iN y)) 18 (i * 5 + 3) (iN z)) 18 (i * 5 + 4) (iN w)) 127 j := by rw [uI_ne (by omega), uI_ne (by omega), uI_ne (by omega), uI_at]; simp only [true_and, uI_ne (show 127 ≠ 94 by omega)]
                    have f2 : (uI (uI (uI (uI (uI (uI (uI (uI (uI (uI a 18 (i * 5) (iN 1)) 18 (i * 5 + 1) (iN x)) 18 (i * 5 + 2) (iN y)) 18 (i * 5 + 3) (iN z)) 18 (i * 5 + 4) (iN w)) 94 64 (iN (m ||| 2 ^ i))) 127 i (iN x)) 128 i (iN y)) 129 i (iN z)) 130 i (iN w)) 128 j = if j = i then iN y else (uI (uI (uI (uI (uI a 18 (i * 5) (iN 1)) 18 (i * 5 + 1) (iN x)) 18 (i * 5 + 2) (iN y)) 18 (i * 5 + 3) (iN z)) 18 (i * 5 + 4) (iN w)) 128 j := by rw [uI_ne (by omega), uI_ne (by omega), uI_at]; simp only [true_and, uI_ne (show 128 ≠ 94 by omega), uI_ne (show 128 ≠ 127 by omega)]
                    have f3 : (uI (uI (uI (uI (uI (uI (uI (uI (uI (uI a 18 (i * 5) (iN 1)) 18 (i * 5 + 1) (iN x)) 18 (i * 5 + 2) (iN y)) 18 (i * 5 + 3) (iN z)) 18 (i * 5 + 4) (iN w)) 94 64 (iN (m ||| 2 ^ i))) 127 i (iN x)) 128 i (iN y)) 129 i (iN z)) 130 i (iN w)) 129 j = if j = i then iN z else (uI (uI (uI (uI (uI a 18 (i * 5) (iN 1)) 18 (i * 5 + 1) (iN x)) 18 (i * 5 + 2) (iN y)) 18 (i * 5 + 3) (iN z)) 18 (i * 5 + 4) (iN w)) 129 j := by rw [uI_ne (by omega), uI_at]; simp only [true_and, uI_ne (show 129 ≠ 94 by omega), uI_ne (show 129 ≠ 127 by omega), uI_ne (show 129 ≠ 128 by omega)]
                    have f4 : (uI (uI (uI (uI (uI (uI (uI (uI (uI (uI a 18 (i * 5) (iN 1)) 18 (i * 5 + 1) (iN x)) 18 (i * 5 + 2) (iN y)) 18 (i * 5 + 3) (iN z)) 18 (i * 5 + 4) (iN w)) 94 64 (iN (m ||| 2 ^ i))) 127 i (iN x)) 128 i (iN y)) 129 i (iN z)) 130 i (iN w)) 130 j = if j = i then iN w else (uI (uI (uI (uI (uI a 18 (i * 5) (iN 1)) 18 (i * 5 + 1) (iN x)) 18 (i * 5 + 2) (iN y)) 18 (i * 5 + 3) (iN z)) 18 (i * 5 + 4) (iN w)) 130 j := by rw [uI_at]; simp only [true_and, uI_ne (show 130 ≠ 94 by omega), uI_ne (show 130 ≠ 127 by omega), uI_ne (show 130 ≠ 128 by omega), uI_ne (show 130 ≠ 129 by omega)]
                    rw [f1, f2, f3, f4]
                    by_cases hji : j = i
                    · rw [if_pos hji, if_pos hji, if_pos hji, if_pos hji, if_pos hji, if_pos hji, if_pos hji, if_pos hji]
                      exact ⟨rfl, rfl, rfl, rfl⟩
                    · rw [if_neg hji] at hne'
                      rw [if_neg hji, if_neg hji, if_neg hji, if_neg hji, if_neg hji, if_neg hji, if_neg hji, if_neg hji]
                      exact y5 j hj hne'
                  · rw [eb (127 + 4) (by omega) (by omega), eb (127 + 5) (by omega) (by omega), eb (127 + 6) (by omega) (by omega)]; exact y6
                  · rw [eb 136 (by omega) (by omega)]; exact y7
                · rw [ec 80 (by omega)]
                  exact ⟨z2.1, fun q => (z2.2 q).ag (fun j hj => ec j (by omega)) (fun k h => eb k (by omega) (by omega))⟩
                · rw [ec 8 (by omega), eb 95 (by omega) (by omega)]
                  exact z3
                · rw [ec 2 (by omega), eb 96 (by omega) (by omega)]
                  exact z4
                · rw [ec 4 (by omega), ec 3 (by omega), eb 98 (by omega) (by omega)]
                  exact z5
              exact InvS.of (St.mkJ hBn hCn hMn (fun q hq => eb q (by omega) (by omega)) (fun _ _ => rfl)) (Nat.le_succ _)
          · refine ⟨iN 0, a, b, r, a, b, ?_, ?_, InvS.of h (Nat.le_succ _)⟩
            · rw [Bool.not_eq_true] at g5
              simp only [b111_0, b111_7, b111_10, b111_16, b111_19, b111_26, b111_29, b111_37, b111_40, b111_48, b111_51, c_within, Option.bind_some, Option.toList_some, Option.toList_none, List.cons_append, List.nil_append, true_or, or_true, if_true, bI_if, bI_if, g1, g2, g3, g4, g5, if_true, if_false, Bool.false_eq_true, true_and, and_true, false_and, and_false, true_or, or_true, false_or, or_false, and_self, or_self, decide_true, decide_false, Bool.not_true, Bool.not_false, Bool.and_true, Bool.and_false, Bool.true_and, Bool.false_and, ite_self]
            · rw [Bool.not_eq_true] at g5
              simp only [b243_0, b243_7, b243_10, b243_16, b243_19, b243_27, b243_30, b243_38, b243_41, b243_49, b243_52, m_in, Option.bind_some, Option.toList_some, Option.toList_none, List.cons_append, List.nil_append, true_or, or_true, if_true, bI_if, bI_if, g1, g2, g3, g4, g5, if_true, if_false, Bool.false_eq_true, true_and, and_true, false_and, and_false, true_or, or_true, false_or, or_false, and_self, or_self, decide_true, decide_false, Bool.not_true, Bool.not_false, Bool.and_true, Bool.and_false, Bool.true_and, Bool.false_and, ite_self]
        · refine ⟨iN 0, a, b, r, a, b, ?_, ?_, InvS.of h (Nat.le_succ _)⟩
          · rw [Bool.not_eq_true] at g4
            simp only [b111_0, b111_7, b111_10, b111_16, b111_19, b111_26, b111_29, b111_37, b111_51, c_within, Option.bind_some, Option.toList_some, Option.toList_none, List.cons_append, List.nil_append, true_or, or_true, if_true, bI_if, bI_if, g1, g2, g3, g4, if_true, if_false, Bool.false_eq_true, true_and, and_true, false_and, and_false, true_or, or_true, false_or, or_false, and_self, or_self, decide_true, decide_false, Bool.not_true, Bool.not_false, Bool.and_true, Bool.and_false, Bool.true_and, Bool.false_and, ite_self]
          · rw [Bool.not_eq_true] at g4
            simp only [b243_0, b243_7, b243_10, b243_16, b243_19, b243_27, b243_30, b243_38, b243_52, m_in, Option.bind_some, Option.toList_some, Option.toList_none, List.cons_append, List.nil_append, true_or, or_true, if_true, bI_if, bI_if, g1, g2, g3, g4, if_true, if_false, Bool.false_eq_true, true_and, and_true, false_and, and_false, true_or, or_true, false_or, or_false, and_self, or_self, decide_true, decide_false, Bool.not_true, Bool.not_false, Bool.and_true, Bool.and_false, Bool.true_and, Bool.false_and, ite_self]
      · refine ⟨iN 0, a, b, r, a, b, ?_, ?_, InvS.of h (Nat.le_succ _)⟩
        · rw [Bool.not_eq_true] at g3
          simp only [b111_0, b111_7, b111_10, b111_16, b111_19, b111_26, b111_51, c_within, Option.bind_some, Option.toList_some, Option.toList_none, List.cons_append, List.nil_append, true_or, or_true, if_true, bI_if, bI_if, g1, g2, g3, if_true, if_false, Bool.false_eq_true, true_and, and_true, false_and, and_false, true_or, or_true, false_or, or_false, and_self, or_self, decide_true, decide_false, Bool.not_true, Bool.not_false, Bool.and_true, Bool.and_false, Bool.true_and, Bool.false_and, ite_self]
        · rw [Bool.not_eq_true] at g3
          simp only [b243_0, b243_7, b243_10, b243_16, b243_19, b243_27, b243_52, m_in, Option.bind_some, Option.toList_some, Option.toList_none, List.cons_append, List.nil_append, true_or, or_true, if_true, bI_if, bI_if, g1, g2, g3, if_true, if_false, Bool.false_eq_true, true_and, and_true, false_and, and_false, true_or, or_true, false_or, or_false, and_self, or_self, decide_true, decide_false, Bool.not_true, Bool.not_false, Bool.and_true, Bool.and_false, Bool.true_and, Bool.false_and, ite_self]
    · refine ⟨iN 0, a, b, r, a, b, ?_, ?_, InvS.of h (Nat.le_succ _)⟩
      · rw [Bool.not_eq_true] at g2
        simp only [b111_0, b111_7, b111_10, b111_16, b111_51, c_within, Option.bind_some, Option.toList_some, Option.toList_none, List.cons_append, List.nil_append, true_or, or_true, if_true, bI_if, bI_if, g1, g2, if_true, if_false, Bool.false_eq_true, true_and, and_true, false_and, and_false, true_or, or_true, false_or, or_false, and_self, or_self, decide_true, decide_false, Bool.not_true, Bool.not_false, Bool.and_true, Bool.and_false, Bool.true_and, Bool.false_and, ite_self]
      · rw [Bool.not_eq_true] at g2
        simp only [b243_0, b243_7, b243_10, b243_16, b243_52, m_in, Option.bind_some, Option.toList_some, Option.toList_none, List.cons_append, List.nil_append, true_or, or_true, if_true, bI_if, bI_if, g1, g2, if_true, if_false, Bool.false_eq_true, true_and, and_true, false_and, and_false, true_or, or_true, false_or, or_false, and_self, or_self, decide_true, decide_false, Bool.not_true, Bool.not_false, Bool.and_true, Bool.and_false, Bool.true_and, Bool.false_and, ite_self]
  · refine ⟨iN 0, a, b, r, a, b, ?_, ?_, InvS.of h (Nat.le_succ _)⟩
    · rw [Bool.not_eq_true] at g1
      simp only [b111_0, b111_7, b111_51, c_within, Option.bind_some, Option.toList_some, Option.toList_none, List.cons_append, List.nil_append, true_or, or_true, if_true, bI_if, bI_if, g1, if_true, if_false, Bool.false_eq_true, true_and, and_true, false_and, and_false, true_or, or_true, false_or, or_false, and_self, or_self, decide_true, decide_false, Bool.not_true, Bool.not_false, Bool.and_true, Bool.and_false, Bool.true_and, Bool.false_and, ite_self]
    · rw [Bool.not_eq_true] at g1
      simp only [b243_0, b243_7, b243_52, m_in, Option.bind_some, Option.toList_some, Option.toList_none, List.cons_append, List.nil_append, true_or, or_true, if_true, bI_if, bI_if, g1, if_true, if_false, Bool.false_eq_true, true_and, and_true, false_and, and_false, true_or, or_true, false_or, or_false, and_self, or_self, decide_true, decide_false, Bool.not_true, Bool.not_false, Bool.and_true, Bool.and_false, Bool.true_and, Bool.false_and, ite_self]
