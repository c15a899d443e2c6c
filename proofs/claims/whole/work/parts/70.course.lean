/-! ===== the class's Course: arrive, advance, follow ===== -/
theorem b16t_180L {d n : Nat} {a : Nat → Nat → Int32} {b : Nat → Nat → Int64} {r : Nat → Nat → Option Nat} {v1 : Int32} {v2 : Int32} {TT TL : Nat} {v4 : Int32} {v5 : Int32} {w6 : Int64} {v8 : Int32} {v9 : Int32} {w10 : Int64} (h29_4 : r 29 4 = some TL) : Den (d + 1) 16 180 [.ref 55, .int v1, .int v2, .ref TT, .int v4, .int v5, .long w6, zmJ, .int v8, .int v9, .long w10, zmJ] [] (zmMk n a b r) = (Den d 58 0 [.ref 29, .ref TL, .int (iN 108), .int v1, .int v5, .int (iN 0), zmJ] [] (zmMk n a b r)).bind fun q => Den (d + 1) 16 208 [.ref 55, .int v1, .int v2, .ref TT, .int v4, .int v5, .long w6, zmJ, .int v8, .int v9, .long w10, zmJ] (q.1.toList ++ [.long (-w10), .int (iN 0), .int (v1 + (iN 1)), .ref 55]) q.2 := (Den_blk [zm0 (.aload_n 0) 1, zm0 (.iload_n 1) 1, zmi (.iconst 1) 1 1, zm0 (.iadd) 1, zmi (.iconst 0) 1 0, zm0 (.lload 10) 2, zm0 (.lneg) 1, zm0 (.aload_n 0) 1, zmr (.getfield 42) 3 1 0 2 321 0, zm0 (.aload_n 0) 1, zmr (.getfield 42) 3 1 0 2 321 0, zmr (.getfield 107) 3 7 4 2 240 1] (pc' := 199) (L' := [.ref 55, .int v1, .int v2, .ref TT, .int v4, .int v5, .long w6, zmJ, .int v8, .int v9, .long w10, zmJ]) (st' := [zmRf (r 29 4), .ref 29, .long (-w10), .int (iN 0), .int (v1 + (iN 1)), .ref 55]) (x' := zmMk n a b r) (by decide +kernel) rfl).trans ((Den_rw h29_4).trans ((Den_blk [zmi (.bipush 108) 2 108, zm0 (.iload_n 1) 1, zm0 (.iload 5) 2, zmi (.iconst 0) 1 0] (pc' := 205) (L' := [.ref 55, .int v1, .int v2, .ref TT, .int v4, .int v5, .long w6, zmJ, .int v8, .int v9, .long w10, zmJ]) (st' := [.int (iN 0), .int v5, .int v1, .int (iN 108), .ref TL, .ref 29, .long (-w10), .int (iN 0), .int (v1 + (iN 1)), .ref 55]) (x' := zmMk n a b r) (by decide +kernel) rfl).trans ((Den_callE (zmr (.invokevirtual 111) 3 1 58 5 867 0) (by decide +kernel) rfl rfl))))
theorem b97_51L {d n : Nat} {a : Nat → Nat → Int32} {b : Nat → Nat → Int64} {r : Nat → Nat → Option Nat} {v1 : Int32} {v2 : Int32} {TT TL : Nat} (h14_9 : r 14 9 = some TT) (h29_4 : r 29 4 = some TL) : Den (d + 1) 97 51 [.ref 14, .int v1, .int v2, zmJ] [] (zmMk n a b r) = (Den d 129 0 [.ref 14] [] (zmMk n a b (uR (uR r 14 9 (some TL)) 29 4 (some TT)))).bind fun q => Den (d + 1) 97 79 [.ref 14, .int v1, .int v2, .ref TT] (q.1.toList ++ []) q.2 := (Den_blk [zm0 (.aload_n 0) 1, zmr (.getfield 61) 3 11 9 2 416 0] (pc' := 55) (L' := [.ref 14, .int v1, .int v2, zmJ]) (st' := [zmRf (r 14 9)]) (x' := zmMk n a b r) (by decide +kernel) rfl).trans ((Den_rw h14_9).trans ((Den_blk [zm0 (.astore_n 3) 1, zm0 (.aload_n 0) 1, zm0 (.aload_n 0) 1, zmr (.getfield 50) 3 11 7 2 414 0, zmr (.getfield 139) 3 7 4 2 239 1] (pc' := 64) (L' := [.ref 14, .int v1, .int v2, .ref TT]) (st' := [zmRf (r 29 4), .ref 14]) (x' := zmMk n a b r) (by decide +kernel) rfl).trans ((Den_rw h29_4).trans ((Den_putr (zmr (.putfield 61) 3 11 9 2 416 0) (pc' := 67) (L' := [.ref 14, .int v1, .int v2, .ref TT]) (st' := []) (x' := zmMk n a b (uR r 14 9 (some TL))) (by decide +kernel) rfl rfl).trans ((Den_blk [zm0 (.aload_n 0) 1, zmr (.getfield 50) 3 11 7 2 414 0, zm0 (.aload_n 3) 1] (pc' := 72) (L' := [.ref 14, .int v1, .int v2, .ref TT]) (st' := [.ref TT, .ref 29]) (x' := zmMk n a b (uR r 14 9 (some TL))) (by decide +kernel) rfl).trans ((Den_putr (zmr (.putfield 139) 3 7 4 2 239 1) (pc' := 75) (L' := [.ref 14, .int v1, .int v2, .ref TT]) (st' := []) (x' := zmMk n a b (uR (uR r 14 9 (some TL)) 29 4 (some TT))) (by decide +kernel) rfl rfl).trans ((Den_blk [zm0 (.aload_n 0) 1] (pc' := 76) (L' := [.ref 14, .int v1, .int v2, .ref TT]) (st' := [.ref 14]) (x' := zmMk n a b (uR (uR r 14 9 (some TL)) 29 4 (some TT))) (by decide +kernel) rfl).trans ((Den_callE (zmr (.invokevirtual 121) 3 1 129 0 466 0) (by decide +kernel) rfl rfl)))))))))
theorem RowI.le {N B T c u u' : Nat} {Q : AQ} {A : Nat → Nat → Nat} {a : Nat → Nat → Int32} {b : Nat → Nat → Int64} {Φ : Nat → Int64} (h : RowI N B Q A a b T c u Φ) (hu : u ≤ u') : RowI N B Q A a b T c u' Φ := by
  obtain ⟨P, W, h1, h2, h3, h4⟩ := h
  exact ⟨P, W, h1, h2, Nat.le_trans h3 hu, h4⟩
theorem RowI.eq {N B T c u : Nat} {Q : AQ} {A : Nat → Nat → Nat} {a : Nat → Nat → Int32} {b : Nat → Nat → Int64} {Φ Ψ : Nat → Int64} (h : RowI N B Q A a b T c u Φ) (hu : ∀ w, w < 5 → Φ w = Ψ w) : RowI N B Q A a b T c u Ψ := by
  obtain ⟨P, W, h1, h2, h3, h4⟩ := h
  exact ⟨P, W, h1, h2, h3, fun w hw => (h4 w hw).trans (hu w hw)⟩
theorem l_all (x p : Int64) : 10 * (x * p) = x * (10 * p) := by grind
set_option maxHeartbeats 1000000 in
theorem c_arrive {n N B t m c u th d : Nat} {r : Nat → Nat → Option Nat} {Q : AQ} {A : Nat → Nat → Nat} {a : Nat → Nat → Int32} {b : Nat → Nat → Int64} {Φ : Nat → Int64} {vt vp : Int32} {x : Int64} (et : vt = iN t) (ep : vp = iN th) (ht : t + m + 1 = N) (hth : th < 4840) (hE : EnvC n r a N B Q) (hT : TabC b) (hc : c < 10) (hR : RowI N B Q A a b (t + 1) c u Φ) : ∃ a' b' c', Den (d+11) 17 0 [.ref 55, .int vt, .int vp, .long x, zmJ, zmJ, zmJ, zmJ] [] (zmMk n a b r) = some (none, zmMk n a' b' r) ∧ RowI N B Q A a' b' (t + 1) c' (u + (if pS th = 0 then 1 else 0)) (fun w => Φ w + x * arrF Q B (hun m) (FF Q B A m (t + 1)) t th w) ∧ c' ≤ c + 1 ∧ onlyR a a' b b' (t + 1) ∧ (x = 0 → a' = a ∧ b' = b ∧ c' = c) := by
  subst et ep
  have h8 := hE.n8
  have hyl := pY_le hth
  obtain ⟨⟨TT, hTT, h29, hA⟩, h16, -, -, -, -, hB⟩ := id hE
  have em : N - t - 1 = m := by omega
  have em2 : N - (t + 1) = m := by omega
  by_cases hx : x = 0
  · refine ⟨a, b, c, ?_, (hR.le (Nat.le_add_right _ _)).eq (fun w hw => by rw [hx, Int64.zero_mul, Int64.add_zero]), by omega, onlyR.refl, fun _ => ⟨rfl, rfl, rfl⟩⟩
    simp only [b17_0, cmp_0, hx, if_true, b17_6]
  · have pre : Den (d+11) 17 0 [.ref 55, .int (iN t), .int (iN th), .long x, zmJ, zmJ, zmJ, zmJ] [] (zmMk n a b r) = Den (d+11) 17 29 [.ref 55,.int (iN t),.int (iN th),.long x,zmJ,.long (x * hun m),zmJ,zmJ] [.int (iN (pY th))] (zmMk n a b r) := by
      simp (disch := omega) only [b17_0, cmp_0, hx, if_false, b17_7, b57_0, h16, Option.bind_some, Option.toList_some, Option.toList_none, List.cons_append, List.nil_append, true_or, or_true, if_true, bI_if, b17_15, n_add, n_mul, n_in, decide_eq_true_eq, n_nat, n_lt, n_eq, n_sub, if_pos, if_neg, if_true, if_false, em, c_hundreds hT, b17_22, c_yardsAt hth]
    rw [pre]
    by_cases hy : pY th = 0
    · obtain ⟨a1, e1, f1⟩ := hA (d+1) a (addS b (t + 1) (fun q => if q = 1 then 10 * (x * hun m) else 0)) (iN 118) _ _ _ t th 0 agD.refl rfl rfl rfl rfl (by omega) hth (by omega)
      have hv := hB.v t th 0
      refine ⟨a1, addS (addS b (t + 1) (fun q => if q = 1 then 10 * (x * hun m) else 0)) (t + 1) (fun q => if q = 0 then 10 * (x * hun m) * jN (Q (iN 118) t th 0) else 0), c, ?_, ?_, by omega, (onlyR.fr f1).trans (onlyR.sums.trans onlyR.sums), fun q => absurd q hx⟩
      · simp (disch := omega) only [b17_29, hy, if_true, b17_32, n_add, c_gather rfl rfl, Option.bind_some, Option.toList_some, Option.toList_none, List.cons_append, List.nil_append, true_or, or_true, if_true, bI_if, b17_46 h29 hTT, e1, b17_76, l_of, b17_81]
      · refine ((((hR.fr f1).add _).add _).le (Nat.le_add_right _ _)).eq (fun w hw => ?_)
        unfold arrF
        rw [if_pos hy, cV_mul, l_all]
        unfold cV
        rcases (by omega : w = 0 ∨ w = 1 ∨ w = 2 ∨ w = 3 ∨ w = 4) with rfl | rfl | rfl | rfl | rfl <;> simp
    · obtain ⟨a1, e1, f1⟩ := c_tenthsGone (d := d) (b := b) hE (vt := iN t) (vp := iN th) rfl rfl (by omega) hth
      have hg := gonP_le hB B t th
      have hm := hB.m t th 0
      have e2 : ∃ a2 b2, Den (d+11) 17 91 [.ref 55,.int (iN t),.int (iN th),.long x,zmJ,.long (x * hun m),zmJ,zmJ] [.int (iN (gonP Q B t th))] (zmMk n a1 b r) = Den (d+11) 17 131 [.ref 55,.int (iN t),.int (iN th),.long x,zmJ,.long (x * hun m),zmJ,.int (iN (gonP Q B t th))] [] (zmMk n a2 b2 r) ∧ RowI N B Q A a2 b2 (t + 1) c u (fun w => Φ w + mV (x * hun m * jN (gonP Q B t th)) (jN (Q (iN 109) t th 0)) (jN (pY th)) w) ∧ onlyR a1 a2 b b2 (t + 1) := by
        by_cases hg0 : gonP Q B t th = 0
        · refine ⟨a1, b, ?_, (hR.fr f1).eq (fun w hw => ?_), onlyR.refl⟩
          · rw [hg0]
            simp (disch := omega) only [b17_91, n_add, n_mul, n_in, decide_eq_true_eq, n_nat, n_lt, n_eq, n_sub, if_pos, if_neg, if_true, if_false]
          · rw [hg0, jN_0, Int64.mul_zero]
            unfold mV
            rcases (by omega : w = 0 ∨ w = 1 ∨ w = 2 ∨ w = 3 ∨ w = 4) with rfl | rfl | rfl | rfl | rfl <;> simp
        · obtain ⟨a2, e3, f2⟩ := hA (d+1) a1 b (iN 109) _ _ _ t th 0 f1.dpA rfl rfl rfl rfl (by omega) hth (by omega)
          refine ⟨a2, addS b (t + 1) (mV (x * hun m * jN (gonP Q B t th)) (jN (Q (iN 109) t th 0)) (jN (pY th))), ?_, ((hR.fr f1).fr f2).add _, (onlyR.fr f2).trans onlyR.sums⟩
          simp (disch := omega) only [b17_91, n_add, n_mul, n_in, decide_eq_true_eq, n_nat, n_lt, n_eq, n_sub, if_pos, if_neg, if_true, if_false, b17_98 h29 hTT, e3, Option.bind_some, Option.toList_some, Option.toList_none, List.cons_append, List.nil_append, true_or, or_true, if_true, bI_if, b17_128, l_of, c_miss (t := t + 1) (p := th) (c := Q (iN 109) t th 0) rfl rfl rfl (by omega) hth hm]
      obtain ⟨a2, b2, e2, R2, o2⟩ := e2
      have o12 := (onlyR.fr (b := b) (T := t + 1) f1).trans o2
      have eA : ∀ w, x * arrF Q B (hun m) (FF Q B A m (t + 1)) t th w = mV (x * hun m * jN (gonP Q B t th)) (jN (Q (iN 109) t th 0)) (jN (pY th)) w + x * jN (10 - gonP Q B t th) * FF Q B A m (t + 1) th w := by
        intro w
        unfold arrF
        rw [if_neg hy, Int64.mul_add, mV_mul, show x * (jN (gonP Q B t th) * hun m) = x * hun m * jN (gonP Q B t th) by grind, ← Int64.mul_assoc]
      by_cases hg1 : gonP Q B t th = 10
      · refine ⟨a2, b2, c, ?_, (R2.le (Nat.le_add_right _ _)).eq (fun w hw => ?_), by omega, o12, fun q => absurd q hx⟩
        · simp (disch := omega) only [b17_29, n_add, n_mul, n_in, decide_eq_true_eq, n_nat, n_lt, n_eq, n_sub, if_pos, if_neg, if_true, if_false, hy, b17_82, e1, Option.bind_some, Option.toList_some, Option.toList_none, List.cons_append, List.nil_append, true_or, or_true, if_true, bI_if, e2, b17_131, b17_154]
        · rw [eA w, hg1, show jN (10 - 10) = 0 from rfl, Int64.mul_zero, Int64.zero_mul, Int64.add_zero]
      · obtain ⟨P, W, h56, -⟩ := id R2
        refine ⟨_, _, c + 1, ?_, (R2.branch (x * jN (10 - gonP Q B t th)) hth hy).eq (fun w hw => ?_), Nat.le_refl _, o12.trans (onlyR.branch hc), fun q => absurd q hx⟩
        · simp (disch := omega) only [b17_29, n_add, n_mul, n_in, decide_eq_true_eq, n_nat, n_lt, n_eq, n_sub, if_pos, if_neg, if_true, if_false, hy, b17_82, e1, Option.bind_some, Option.toList_some, Option.toList_none, List.cons_append, List.nil_append, true_or, or_true, if_true, bI_if, e2, b17_131, b17_138, l_of, c_branch (t := t + 1) (c := c) (p := th) rfl rfl (by omega) hc h56, b17_154]
        · rw [eA w, em2, Int64.add_assoc]
