/-! ===== the class's Course: advance, by a RULE and by a row ===== -/
/-- what a RULE's text says, as a premise -/
def RulC (n : Nat) (r : Nat → Nat → Option Nat) (TT : Nat) (a : Nat → Nat → Int32) (A : Nat → Nat → Nat) : Prop := ∀ (d : Nat) (a1 : Nat → Nat → Int32) (b : Nat → Nat → Int64) (vt vp : Int32) (t p : Nat), agD dpA a a1 → vt = iN t → vp = iN p → t ≤ 8 → p < 4840 → ∃ a2, Den (d+13) 61 0 [.ref 29, .ref TT, .int vt, .int vp, zmJ] [] (zmMk n a1 b r) = some (some (.int (iN (A t p))), zmMk n a2 b r) ∧ frC a1 a2
theorem c_pret {n N B t m c0 i d : Nat} {r : Nat → Nat → Option Nat} {Q : AQ} {A : Nat → Nat → Nat} {a : Nat → Nat → Int32} {b : Nat → Nat → Int64} {P : Nat → Nat} {W : Nat → Int64} {TT : Nat} {va : Int32} (hX : isTx TT) (hRu : RulC n r TT a A) (ht : t + m + 1 = N) (hE : EnvC n r a N B Q) (hA8 : ∀ t p, (A t p < 8 ∧ A t p ≠ 4) ∧ (A t p ≠ 0 → mayP Q t p (A t p))) (h56 : a 56 t = iN c0) (hsrc : a 57 (t * 10 + i) = iN (P i) ∧ b 58 (t * 10 + i) = W i ∧ P i < 4840 ∧ pY (P i) ≠ 0) (hi : i < c0) (hc0 : c0 ≤ 9) (u5 u6 u8 u9 u10 : Value) : ∃ a1 z8, Den (d+14) 16 51 [.ref 55,.int (iN t),.int va,.ref TT,.int (iN i),u5,u6,zmJ,u8,u9,u10,zmJ] [] (zmMk n a b r) = Den (d+14) 16 146 [.ref 55,.int (iN t),.int va,.ref TT,.int (iN i),.int (iN (P i)),.long (W i),zmJ,.int z8,u9,u10,zmJ] [.int (if A t (P i) = 0 then -2 else iN (behP Q t (P i) (A t (P i))))] (zmMk n a1 b r) ∧ frC a a1 ∧ (A t (P i) ≠ 0 → z8 = iN (A t (P i))) := by
  have h8 := hE.n8
  obtain ⟨q1, q2, q3, q4⟩ := hsrc
  have ei : itV (iN 0) 9 (a 56) (iN t) = iN c0 := by rw [itV_n (by omega) (by decide), h56]
  have ep : itV (iN 0) 90 (a 57) (iN (t * 10 + i)) = iN (P i) := by rw [itV_n (by omega) (by decide), q1]
  have ew : itV 0 90 (b 58) (iN (t * 10 + i)) = W i := by rw [itV_n (by omega) (by decide), q2]
  obtain ⟨a1, e1, f1⟩ := hRu d a b (iN t) (iN (P i)) t (P i) agD.refl rfl rfl (by omega) q3
  have hz8 := (hA8 t (P i)).1
  by_cases hz : A t (P i) = 0
  · refine ⟨a1, iN (A t (P i)), ?_, f1, fun _ => rfl⟩
    simp (disch := first | assumption | omega) only [b16t_51 hX, c_item lay56, ei, Option.bind_some, Option.toList_some, Option.toList_none, List.cons_append, List.nil_append, true_or, or_true, if_true, bI_if, b16t_61 hX, n_add, n_mul, n_in, decide_eq_true_eq, n_nat, n_lt, n_eq, n_sub, if_pos, if_neg, if_true, if_false, b16t_64 hX, b16t_71 hX, c_item lay57, ep, b16t_85 hX, c_longItem lay58, ew, b16t_101 hX, b16t_111 hX, e1, b16t_122 hX, hz, b16t_129 hX]
  · have hm := (hA8 t (P i)).2 hz
    obtain ⟨a2, e2, f2⟩ := c_behind (d := d+1) (b := b) (hE.fr f1) (vt := iN t) (vp := iN (P i)) (va := iN (A t (P i))) rfl rfl rfl (by omega) q3 hz8
    rw [if_pos hm] at e2
    refine ⟨a2, iN (A t (P i)), ?_, f1.trans f2, fun _ => rfl⟩
    simp (disch := first | assumption | omega) only [b16t_51 hX, c_item lay56, ei, Option.bind_some, Option.toList_some, Option.toList_none, List.cons_append, List.nil_append, true_or, or_true, if_true, bI_if, b16t_61 hX, n_add, n_mul, n_in, decide_eq_true_eq, n_nat, n_lt, n_eq, n_sub, if_pos, if_neg, if_true, if_false, b16t_64 hX, b16t_71 hX, c_item lay57, ep, b16t_85 hX, c_longItem lay58, ew, b16t_101 hX, b16t_111 hX, e1, b16t_122 hX, hz, b16t_134 hX, e2]
set_option maxHeartbeats 1000000 in
theorem c_advt {n N B t m c0 d : Nat} {r : Nat → Nat → Option Nat} {Q : AQ} {A : Nat → Nat → Nat} {P : Nat → Nat} {W S : Nat → Int64} {TT : Nat} {va : Int32} (hX : isTx TT) (ht : t + m + 1 = N) (hA8 : ∀ t p, (A t p < 8 ∧ A t p ≠ 4) ∧ (A t p ≠ 0 → mayP Q t p (A t p))) (hc0 : c0 ≤ 9) (hu1 : usum P c0 ≤ 1) (k : Nat) : ∀ (i c : Nat) (u5 u6 u8 u9 u10 : Value) (a : Nat → Nat → Int32) (b : Nat → Nat → Int64), i + k = c0 → EnvC n r a N B Q → TabC b → RulC n r TT a A → a 56 t = iN c0 → (∀ i, i < c0 → a 57 (t * 10 + i) = iN (P i) ∧ b 58 (t * 10 + i) = W i ∧ P i < 4840 ∧ pY (P i) ≠ 0) → RowI N B Q A a b (t + 1) c (usum P i) (fun w => S w + psum (fun j => W j * FF Q B A (m + 1) t (P j) w) i) → c ≤ i + usum P i → ∃ a' b' c', Den (d+14) 16 51 [.ref 55,.int (iN t),.int va,.ref TT,.int (iN i),u5,u6,zmJ,u8,u9,u10,zmJ] [] (zmMk n a b r) = some (none, zmMk n a' b' r) ∧ RowI N B Q A a' b' (t + 1) c' (usum P c0) (fun w => S w + psum (fun j => W j * FF Q B A (m + 1) t (P j) w) c0) ∧ c' ≤ c0 + usum P c0 ∧ onlyR a a' b b' (t + 1) := by
  induction k with
  | zero =>
    intro i c u5 u6 u8 u9 u10 a b hik hE hT hRu h56 hsrc hR hc
    have h8 := hE.n8
    obtain rfl : i = c0 := by omega
    refine ⟨a, b, c, ?_, hR, hc, onlyR.refl⟩
    have ei : itV (iN 0) 9 (a 56) (iN t) = iN i := by rw [itV_n (by omega) (by decide), h56]
    simp (disch := first | assumption | omega) only [b16t_51 hX, c_item lay56, ei, Option.bind_some, Option.toList_some, Option.toList_none, List.cons_append, List.nil_append, true_or, or_true, if_true, bI_if, b16t_61 hX, n_add, n_mul, n_in, decide_eq_true_eq, n_nat, n_lt, n_eq, n_sub, if_pos, if_neg, if_true, if_false, b16t_267 hX]
  | succ k ih =>
    intro i c u5 u6 u8 u9 u10 a b hik hE hT hRu h56 hsrc hR hc
    have h8 := hE.n8
    have hB := hE.qb
    have hi : i < c0 := by omega
    obtain ⟨q1, q2, q3, q4⟩ := hsrc i hi
    have hui : usum P (i + 1) ≤ 1 := Nat.le_trans (usum_le hi) hu1
    have hus : usum P (i + 1) = usum P i + (if pS (P i) = 0 then 1 else 0) := rfl
    obtain ⟨a1, z8, e1, f1, hz8⟩ := c_pret (d := d) (b := b) (va := va) hX hRu ht hE hA8 h56 (hsrc i hi) hi hc0 u5 u6 u8 u9 u10
    have hE1 := hE.fr f1
    -- the rest behind one place
    have fin : ∀ (v5 v6 v8 v9 v10 : Value) (a2 : Nat → Nat → Int32) (b2 : Nat → Nat → Int64) (c2 : Nat), Den (d+14) 16 51 [.ref 55,.int (iN t),.int va,.ref TT,.int (iN i),u5,u6,zmJ,u8,u9,u10,zmJ] [] (zmMk n a b r) = Den (d+14) 16 51 [.ref 55,.int (iN t),.int va,.ref TT,.int (iN (i + 1)),v5,v6,zmJ,v8,v9,v10,zmJ] [] (zmMk n a2 b2 r) → onlyR a a2 b b2 (t + 1) → RowI N B Q A a2 b2 (t + 1) c2 (usum P (i + 1)) (fun w => S w + psum (fun j => W j * FF Q B A (m + 1) t (P j) w) i + W i * FF Q B A (m + 1) t (P i) w) → c2 ≤ (i + 1) + usum P (i + 1) → ∃ a' b' c', Den (d+14) 16 51 [.ref 55,.int (iN t),.int va,.ref TT,.int (iN i),u5,u6,zmJ,u8,u9,u10,zmJ] [] (zmMk n a b r) = some (none, zmMk n a' b' r) ∧ RowI N B Q A a' b' (t + 1) c' (usum P c0) (fun w => S w + psum (fun j => W j * FF Q B A (m + 1) t (P j) w) c0) ∧ c' ≤ c0 + usum P c0 ∧ onlyR a a' b b' (t + 1) := by
      intro v5 v6 v8 v9 v10 a2 b2 c2 g1 g2 g3 g4
      obtain ⟨a3, b3, c3, e3, R3, k3, o3⟩ := ih (i + 1) c2 v5 v6 v8 v9 v10 a2 b2 (by omega) (hE.ag g2.ag) (g2.tab hT) (fun d a1 b vt vp t p h0 => hRu d a1 b vt vp t p (g2.ag.toA.trans h0)) (by rw [g2.2.1 t (by omega)]; exact h56) (fun j hj => by
        rw [g2.2.2.1 (t * 10 + j) (by omega), g2.2.2.2.2.1 (t * 10 + j) (by omega)]
        exact hsrc j hj) (g3.eq (fun w hw => Int64.add_assoc ..)) g4
      exact ⟨a3, b3, c3, g1.trans e3, R3, k3, g2.trans o3⟩
    by_cases hz : A t (P i) = 0
    · rw [if_pos hz] at e1
      obtain ⟨⟨TL, hTL, h29, hAsk⟩, h16, -⟩ := id hE1
      have em : N - t = m + 1 := by omega
      obtain ⟨a2, e2, f2⟩ := hAsk (d+4) a1 (addS b (t + 1) (fun q => if q = 3 then W i * hun (m + 1) else 0)) (iN 108) _ _ _ t (P i) 0 agD.refl rfl rfl rfl rfl (by omega) q3 (by omega)
      have hl := hB.l t (P i) 0
      have h2 : ((-2 : Int32) < iN 0) = True := eq_true (by decide)
      refine fin (.int (iN (P i))) (.long (W i)) (.int z8) (.int (-2)) (.long (W i * hun (m + 1))) a2 (addS (addS b (t + 1) (fun q => if q = 3 then W i * hun (m + 1) else 0)) (t + 1) (fun q => if q = 0 then -(W i * hun (m + 1)) * jN (Q (iN 108) t (P i) 0) else 0)) c ?_ ((onlyR.fr (f1.trans f2)).trans (onlyR.sums.trans onlyR.sums)) ?_ (by omega)
      · rw [e1]
        simp (disch := first | assumption | omega) only [b16t_146 hX, h2, if_true, b16t_153 hX, b57_0, h16, Option.bind_some, Option.toList_some, Option.toList_none, List.cons_append, List.nil_append, true_or, or_true, if_true, bI_if, b16t_162 hX, n_add, n_mul, n_in, decide_eq_true_eq, n_nat, n_lt, n_eq, n_sub, if_pos, if_neg, if_true, if_false, em, c_hundreds hT, b16t_167 hX, c_gather rfl rfl, b16t_180L h29, e2, b16t_208 hX, l_of, b16t_213 hX, b16t_261 hX]
      · refine ((((hR.fr (f1.trans f2)).add _).add _).le (by omega)).eq (fun w hw => ?_)
        have eF : W i * FF Q B A (m + 1) t (P i) w = lV (W i * hun (m + 1)) (jN (Q (iN 108) t (P i) 0)) w := by
          rw [← lV_mul]
          congr 1
          conv => lhs; unfold FF
          rw [if_neg q4, if_pos hz]
        rw [eF, Int64.add_assoc]
        congr 1
        unfold lV
        rcases (by omega : w = 0 ∨ w = 1 ∨ w = 2 ∨ w = 3 ∨ w = 4) with rfl | rfl | rfl | rfl | rfl <;> simp [Int64.neg_mul]
    · rw [if_neg hz] at e1
      have hz8 := hz8 hz
      subst hz8
      have hz7 := (hA8 t (P i)).1
      obtain ⟨a2, e2, f2⟩ := c_tenthsSeen (d := d+3) (b := b) hE1 (vt := iN t) (vp := iN (P i)) (va := iN (A t (P i))) rfl rfl rfl (by omega) q3 hz7
      have hE2 := hE1.fr f2
      have f12 := f1.trans f2
      have hs := senP_le hB t (P i) (A t (P i))
      have hnx := behP_lt (Q := Q) (t := t) (act := A t (P i)) q3
      have hn1 := asP_lt (s := 1) hnx (by omega)
      have hpS := pS_le (P i)
      obtain ⟨a3, b3, c3, e3, R3, k3, o3, -⟩ := c_arrive (d := d+2) (x := W i * jN (senP Q t (P i) (A t (P i)))) (vt := iN t) (vp := iN (asP (behP Q t (P i) (A t (P i))) 1)) rfl rfl ht hn1 hE2 hT (by omega) (hR.fr f12)
      rw [pS_asP (by omega), if_neg (by omega)] at R3
      have o123 := (onlyR.fr (b := b) (T := t + 1) f12).trans o3
      have hpre : Den (d+14) 16 146 [.ref 55,.int (iN t),.int va,.ref TT,.int (iN i),.int (iN (P i)),.long (W i),zmJ,.int (iN (A t (P i))),u9,u10,zmJ] [.int (iN (behP Q t (P i) (A t (P i))))] (zmMk n a1 b r) = Den (d+14) 16 245 [.ref 55,.int (iN t),.int va,.ref TT,.int (iN i),.int (iN (P i)),.long (W i),zmJ,.int (iN (A t (P i))),.int (iN (behP Q t (P i) (A t (P i)))),.int (iN (senP Q t (P i) (A t (P i)))),zmJ] [] (zmMk n a3 b3 r) := by
        simp (disch := first | assumption | omega) only [b16t_146 hX, n_not_neg, if_false, b16t_216 hX, e2, Option.bind_some, Option.toList_some, Option.toList_none, List.cons_append, List.nil_append, true_or, or_true, if_true, bI_if, b16t_228 hX, n_or2 hnx, l_of, e3]
      have eF : ∀ w, W i * FF Q B A (m + 1) t (P i) w = W i * jN (senP Q t (P i) (A t (P i))) * arrF Q B (hun m) (FF Q B A m (t + 1)) t (asP (behP Q t (P i) (A t (P i))) 1) w + W i * jN (10 - senP Q t (P i) (A t (P i))) * arrF Q B (hun m) (FF Q B A m (t + 1)) t (asP (behP Q t (P i) (A t (P i))) 0) w := by
        intro w
        conv => lhs; unfold FF
        rw [if_neg q4, if_neg hz, Int64.mul_add, ← Int64.mul_assoc, ← Int64.mul_assoc]
      by_cases hs10 : senP Q t (P i) (A t (P i)) = 10
      · refine fin (.int (iN (P i))) (.long (W i)) (.int (iN (A t (P i)))) (.int (iN (behP Q t (P i) (A t (P i))))) (.int (iN (senP Q t (P i) (A t (P i))))) a3 b3 c3 ?_ o123 ((R3.le (by omega)).eq (fun w hw => ?_)) (by omega)
        · rw [e1, hpre]
          have hx0 : W i * jN (10 - senP Q t (P i) (A t (P i))) = 0 := by rw [hs10]; exact Int64.mul_zero
          simp (disch := first | assumption | omega) only [b16t_245 hX, n_add, n_mul, n_in, decide_eq_true_eq, n_nat, n_lt, n_eq, n_sub, if_pos, if_neg, if_true, if_false, l_of, hx0, b17_0, cmp_0, b17_6, Option.bind_some, Option.toList_some, Option.toList_none, List.cons_append, List.nil_append, true_or, or_true, if_true, bI_if, b16t_261 hX]
        · rw [eF w, hs10, show jN (10 - 10) = 0 from rfl, Int64.mul_zero, Int64.zero_mul, Int64.add_zero]
      · have hp0 : pS (P i) = 0 := by
          unfold senP at hs10
          split at hs10
          · exact absurd rfl hs10
          · omega
        have hus1 : usum P (i + 1) = usum P i + 1 := by rw [hus, if_pos hp0]
        have hnS : pS (behP Q t (P i) (A t (P i))) = 0 := by rw [pS_behP]; exact hp0
        have hth : asP (behP Q t (P i) (A t (P i))) 0 = behP Q t (P i) (A t (P i)) := by
          have h3 := asP_self (p := behP Q t (P i) (A t (P i)))
          rw [hnS] at h3
          exact h3
        obtain ⟨a4, b4, c4, e4, R4, k4, o4, -⟩ := c_arrive (d := d+2) (x := W i * jN (10 - senP Q t (P i) (A t (P i)))) (vt := iN t) (vp := iN (behP Q t (P i) (A t (P i)))) rfl rfl ht hnx (hE.ag o123.ag) (o123.tab hT) (by omega) R3
        rw [if_pos hnS] at R4
        refine fin (.int (iN (P i))) (.long (W i)) (.int (iN (A t (P i)))) (.int (iN (behP Q t (P i) (A t (P i))))) (.int (iN (senP Q t (P i) (A t (P i))))) a4 b4 c4 ?_ (o123.trans o4) ((R4.le (by omega)).eq (fun w hw => ?_)) (by omega)
        · rw [e1, hpre]
          simp (disch := first | assumption | omega) only [b16t_245 hX, n_add, n_mul, n_in, decide_eq_true_eq, n_nat, n_lt, n_eq, n_sub, if_pos, if_neg, if_true, if_false, l_of, e4, Option.bind_some, Option.toList_some, Option.toList_none, List.cons_append, List.nil_append, true_or, or_true, if_true, bI_if, b16t_261 hX]
        · rw [eF w, hth, Int64.add_assoc, Int64.add_assoc]
theorem c_pren {n N B t m c0 i d : Nat} {r : Nat → Nat → Option Nat} {Q : AQ} {A : Nat → Nat → Nat} {a : Nat → Nat → Int32} {b : Nat → Nat → Int64} {P : Nat → Nat} {W : Nat → Int64} {act : Nat} (hact : act < 8 ∧ act ≠ 4) (hAt : ∀ p, A t p = if act ≠ 0 ∧ mayP Q t p act then act else 0) (ht : t + m + 1 = N) (hE : EnvC n r a N B Q) (hA8 : ∀ t p, (A t p < 8 ∧ A t p ≠ 4) ∧ (A t p ≠ 0 → mayP Q t p (A t p))) (h56 : a 56 t = iN c0) (hsrc : a 57 (t * 10 + i) = iN (P i) ∧ b 58 (t * 10 + i) = W i ∧ P i < 4840 ∧ pY (P i) ≠ 0) (hi : i < c0) (hc0 : c0 ≤ 9) (u5 u6 u8 u9 u10 : Value) : ∃ a1 z8, Den (d+14) 16 51 [.ref 55,.int (iN t),.int (iN act),.null,.int (iN i),u5,u6,zmJ,u8,u9,u10,zmJ] [] (zmMk n a b r) = Den (d+14) 16 146 [.ref 55,.int (iN t),.int (iN act),.null,.int (iN i),.int (iN (P i)),.long (W i),zmJ,.int z8,u9,u10,zmJ] [.int (if A t (P i) = 0 then -2 else iN (behP Q t (P i) (A t (P i))))] (zmMk n a1 b r) ∧ frC a a1 ∧ (A t (P i) ≠ 0 → z8 = iN (A t (P i))) := by
  have h8 := hE.n8
  obtain ⟨q1, q2, q3, q4⟩ := hsrc
  have ei : itV (iN 0) 9 (a 56) (iN t) = iN c0 := by rw [itV_n (by omega) (by decide), h56]
  have ep : itV (iN 0) 90 (a 57) (iN (t * 10 + i)) = iN (P i) := by rw [itV_n (by omega) (by decide), q1]
  have ew : itV 0 90 (b 58) (iN (t * 10 + i)) = W i := by rw [itV_n (by omega) (by decide), q2]
  by_cases h0 : act = 0
  · have hz : A t (P i) = 0 := by rw [hAt (P i), if_neg (fun q => q.1 h0)]
    refine ⟨a, iN act, ?_, frS.refl, fun q => absurd hz q⟩
    simp (disch := first | assumption | omega) only [b16n_51, c_item lay56, ei, Option.bind_some, Option.toList_some, Option.toList_none, List.cons_append, List.nil_append, true_or, or_true, if_true, bI_if, b16n_61, n_add, n_mul, n_in, decide_eq_true_eq, n_nat, n_lt, n_eq, n_sub, if_pos, if_neg, if_true, if_false, b16n_64, b16n_71, c_item lay57, ep, b16n_85, c_longItem lay58, ew, b16n_101, b16n_107, b16n_122, h0, b16n_129, hz]
  · obtain ⟨a2, e2, f2⟩ := c_behind (d := d+1) (b := b) hE (vt := iN t) (vp := iN (P i)) (va := iN act) rfl rfl rfl (by omega) q3 hact
    refine ⟨a2, iN act, ?_, f2, fun q => ?_⟩
    · have e3 : (if mayP Q t (P i) act then iN (behP Q t (P i) act) else -2) = (if A t (P i) = 0 then -2 else iN (behP Q t (P i) (A t (P i)))) := by
        by_cases hm : mayP Q t (P i) act
        · have hz : A t (P i) = act := by rw [hAt (P i), if_pos ⟨h0, hm⟩]
          rw [if_pos hm, hz, if_neg h0]
        · have hz : A t (P i) = 0 := by rw [hAt (P i), if_neg (fun q => hm q.2)]
          rw [if_neg hm, if_pos hz]
      rw [e3] at e2
      simp (disch := first | assumption | omega) only [b16n_51, c_item lay56, ei, Option.bind_some, Option.toList_some, Option.toList_none, List.cons_append, List.nil_append, true_or, or_true, if_true, bI_if, b16n_61, n_add, n_mul, n_in, decide_eq_true_eq, n_nat, n_lt, n_eq, n_sub, if_pos, if_neg, if_true, if_false, b16n_64, b16n_71, c_item lay57, ep, b16n_85, c_longItem lay58, ew, b16n_101, b16n_107, b16n_122, b16n_134, e2]
    · have hz := hAt (P i)
      split at hz
      · rw [hz]
      · exact absurd hz q
set_option maxHeartbeats 1000000 in
theorem c_advn {n N B t m c0 d : Nat} {r : Nat → Nat → Option Nat} {Q : AQ} {A : Nat → Nat → Nat} {P : Nat → Nat} {W S : Nat → Int64} {act : Nat} (hact : act < 8 ∧ act ≠ 4) (hAt : ∀ p, A t p = if act ≠ 0 ∧ mayP Q t p act then act else 0) (ht : t + m + 1 = N) (hA8 : ∀ t p, (A t p < 8 ∧ A t p ≠ 4) ∧ (A t p ≠ 0 → mayP Q t p (A t p))) (hc0 : c0 ≤ 9) (hu1 : usum P c0 ≤ 1) (k : Nat) : ∀ (i c : Nat) (u5 u6 u8 u9 u10 : Value) (a : Nat → Nat → Int32) (b : Nat → Nat → Int64), i + k = c0 → EnvC n r a N B Q → TabC b →  a 56 t = iN c0 → (∀ i, i < c0 → a 57 (t * 10 + i) = iN (P i) ∧ b 58 (t * 10 + i) = W i ∧ P i < 4840 ∧ pY (P i) ≠ 0) → RowI N B Q A a b (t + 1) c (usum P i) (fun w => S w + psum (fun j => W j * FF Q B A (m + 1) t (P j) w) i) → c ≤ i + usum P i → ∃ a' b' c', Den (d+14) 16 51 [.ref 55,.int (iN t),.int (iN act),.null,.int (iN i),u5,u6,zmJ,u8,u9,u10,zmJ] [] (zmMk n a b r) = some (none, zmMk n a' b' r) ∧ RowI N B Q A a' b' (t + 1) c' (usum P c0) (fun w => S w + psum (fun j => W j * FF Q B A (m + 1) t (P j) w) c0) ∧ c' ≤ c0 + usum P c0 ∧ onlyR a a' b b' (t + 1) := by
  induction k with
  | zero =>
    intro i c u5 u6 u8 u9 u10 a b hik hE hT  h56 hsrc hR hc
    have h8 := hE.n8
    obtain rfl : i = c0 := by omega
    refine ⟨a, b, c, ?_, hR, hc, onlyR.refl⟩
    have ei : itV (iN 0) 9 (a 56) (iN t) = iN i := by rw [itV_n (by omega) (by decide), h56]
    simp (disch := first | assumption | omega) only [b16n_51, c_item lay56, ei, Option.bind_some, Option.toList_some, Option.toList_none, List.cons_append, List.nil_append, true_or, or_true, if_true, bI_if, b16n_61, n_add, n_mul, n_in, decide_eq_true_eq, n_nat, n_lt, n_eq, n_sub, if_pos, if_neg, if_true, if_false, b16n_267]
  | succ k ih =>
    intro i c u5 u6 u8 u9 u10 a b hik hE hT  h56 hsrc hR hc
    have h8 := hE.n8
    have hB := hE.qb
    have hi : i < c0 := by omega
    obtain ⟨q1, q2, q3, q4⟩ := hsrc i hi
    have hui : usum P (i + 1) ≤ 1 := Nat.le_trans (usum_le hi) hu1
    have hus : usum P (i + 1) = usum P i + (if pS (P i) = 0 then 1 else 0) := rfl
    obtain ⟨a1, z8, e1, f1, hz8⟩ := c_pren (d := d) (b := b) hact hAt ht hE hA8 h56 (hsrc i hi) hi hc0 u5 u6 u8 u9 u10
    have hE1 := hE.fr f1
    -- the rest behind one place
    have fin : ∀ (v5 v6 v8 v9 v10 : Value) (a2 : Nat → Nat → Int32) (b2 : Nat → Nat → Int64) (c2 : Nat), Den (d+14) 16 51 [.ref 55,.int (iN t),.int (iN act),.null,.int (iN i),u5,u6,zmJ,u8,u9,u10,zmJ] [] (zmMk n a b r) = Den (d+14) 16 51 [.ref 55,.int (iN t),.int (iN act),.null,.int (iN (i + 1)),v5,v6,zmJ,v8,v9,v10,zmJ] [] (zmMk n a2 b2 r) → onlyR a a2 b b2 (t + 1) → RowI N B Q A a2 b2 (t + 1) c2 (usum P (i + 1)) (fun w => S w + psum (fun j => W j * FF Q B A (m + 1) t (P j) w) i + W i * FF Q B A (m + 1) t (P i) w) → c2 ≤ (i + 1) + usum P (i + 1) → ∃ a' b' c', Den (d+14) 16 51 [.ref 55,.int (iN t),.int (iN act),.null,.int (iN i),u5,u6,zmJ,u8,u9,u10,zmJ] [] (zmMk n a b r) = some (none, zmMk n a' b' r) ∧ RowI N B Q A a' b' (t + 1) c' (usum P c0) (fun w => S w + psum (fun j => W j * FF Q B A (m + 1) t (P j) w) c0) ∧ c' ≤ c0 + usum P c0 ∧ onlyR a a' b b' (t + 1) := by
      intro v5 v6 v8 v9 v10 a2 b2 c2 g1 g2 g3 g4
      obtain ⟨a3, b3, c3, e3, R3, k3, o3⟩ := ih (i + 1) c2 v5 v6 v8 v9 v10 a2 b2 (by omega) (hE.ag g2.ag) (g2.tab hT)  (by rw [g2.2.1 t (by omega)]; exact h56) (fun j hj => by
        rw [g2.2.2.1 (t * 10 + j) (by omega), g2.2.2.2.2.1 (t * 10 + j) (by omega)]
        exact hsrc j hj) (g3.eq (fun w hw => Int64.add_assoc ..)) g4
      exact ⟨a3, b3, c3, g1.trans e3, R3, k3, g2.trans o3⟩
    by_cases hz : A t (P i) = 0
    · rw [if_pos hz] at e1
      obtain ⟨⟨TL, hTL, h29, hAsk⟩, h16, -⟩ := id hE1
      have em : N - t = m + 1 := by omega
      obtain ⟨a2, e2, f2⟩ := hAsk (d+4) a1 (addS b (t + 1) (fun q => if q = 3 then W i * hun (m + 1) else 0)) (iN 108) _ _ _ t (P i) 0 agD.refl rfl rfl rfl rfl (by omega) q3 (by omega)
      have hl := hB.l t (P i) 0
      have h2 : ((-2 : Int32) < iN 0) = True := eq_true (by decide)
      refine fin (.int (iN (P i))) (.long (W i)) (.int z8) (.int (-2)) (.long (W i * hun (m + 1))) a2 (addS (addS b (t + 1) (fun q => if q = 3 then W i * hun (m + 1) else 0)) (t + 1) (fun q => if q = 0 then -(W i * hun (m + 1)) * jN (Q (iN 108) t (P i) 0) else 0)) c ?_ ((onlyR.fr (f1.trans f2)).trans (onlyR.sums.trans onlyR.sums)) ?_ (by omega)
      · rw [e1]
        simp (disch := first | assumption | omega) only [b16n_146, h2, if_true, b16n_153, b57_0, h16, Option.bind_some, Option.toList_some, Option.toList_none, List.cons_append, List.nil_append, true_or, or_true, if_true, bI_if, b16n_162, n_add, n_mul, n_in, decide_eq_true_eq, n_nat, n_lt, n_eq, n_sub, if_pos, if_neg, if_true, if_false, em, c_hundreds hT, b16n_167, c_gather rfl rfl, b16n_180 h29 hTL, e2, b16n_208, l_of, b16n_213, b16n_261]
      · refine ((((hR.fr (f1.trans f2)).add _).add _).le (by omega)).eq (fun w hw => ?_)
        have eF : W i * FF Q B A (m + 1) t (P i) w = lV (W i * hun (m + 1)) (jN (Q (iN 108) t (P i) 0)) w := by
          rw [← lV_mul]
          congr 1
          conv => lhs; unfold FF
          rw [if_neg q4, if_pos hz]
        rw [eF, Int64.add_assoc]
        congr 1
        unfold lV
        rcases (by omega : w = 0 ∨ w = 1 ∨ w = 2 ∨ w = 3 ∨ w = 4) with rfl | rfl | rfl | rfl | rfl <;> simp [Int64.neg_mul]
    · rw [if_neg hz] at e1
      have hz8 := hz8 hz
      subst hz8
      have hz7 := (hA8 t (P i)).1
      obtain ⟨a2, e2, f2⟩ := c_tenthsSeen (d := d+3) (b := b) hE1 (vt := iN t) (vp := iN (P i)) (va := iN (A t (P i))) rfl rfl rfl (by omega) q3 hz7
      have hE2 := hE1.fr f2
      have f12 := f1.trans f2
      have hs := senP_le hB t (P i) (A t (P i))
      have hnx := behP_lt (Q := Q) (t := t) (act := A t (P i)) q3
      have hn1 := asP_lt (s := 1) hnx (by omega)
      have hpS := pS_le (P i)
      obtain ⟨a3, b3, c3, e3, R3, k3, o3, -⟩ := c_arrive (d := d+2) (x := W i * jN (senP Q t (P i) (A t (P i)))) (vt := iN t) (vp := iN (asP (behP Q t (P i) (A t (P i))) 1)) rfl rfl ht hn1 hE2 hT (by omega) (hR.fr f12)
      rw [pS_asP (by omega), if_neg (by omega)] at R3
      have o123 := (onlyR.fr (b := b) (T := t + 1) f12).trans o3
      have hpre : Den (d+14) 16 146 [.ref 55,.int (iN t),.int (iN act),.null,.int (iN i),.int (iN (P i)),.long (W i),zmJ,.int (iN (A t (P i))),u9,u10,zmJ] [.int (iN (behP Q t (P i) (A t (P i))))] (zmMk n a1 b r) = Den (d+14) 16 245 [.ref 55,.int (iN t),.int (iN act),.null,.int (iN i),.int (iN (P i)),.long (W i),zmJ,.int (iN (A t (P i))),.int (iN (behP Q t (P i) (A t (P i)))),.int (iN (senP Q t (P i) (A t (P i)))),zmJ] [] (zmMk n a3 b3 r) := by
        simp (disch := first | assumption | omega) only [b16n_146, n_not_neg, if_false, b16n_216, e2, Option.bind_some, Option.toList_some, Option.toList_none, List.cons_append, List.nil_append, true_or, or_true, if_true, bI_if, b16n_228, n_or2 hnx, l_of, e3]
      have eF : ∀ w, W i * FF Q B A (m + 1) t (P i) w = W i * jN (senP Q t (P i) (A t (P i))) * arrF Q B (hun m) (FF Q B A m (t + 1)) t (asP (behP Q t (P i) (A t (P i))) 1) w + W i * jN (10 - senP Q t (P i) (A t (P i))) * arrF Q B (hun m) (FF Q B A m (t + 1)) t (asP (behP Q t (P i) (A t (P i))) 0) w := by
        intro w
        conv => lhs; unfold FF
        rw [if_neg q4, if_neg hz, Int64.mul_add, ← Int64.mul_assoc, ← Int64.mul_assoc]
      by_cases hs10 : senP Q t (P i) (A t (P i)) = 10
      · refine fin (.int (iN (P i))) (.long (W i)) (.int (iN (A t (P i)))) (.int (iN (behP Q t (P i) (A t (P i))))) (.int (iN (senP Q t (P i) (A t (P i))))) a3 b3 c3 ?_ o123 ((R3.le (by omega)).eq (fun w hw => ?_)) (by omega)
        · rw [e1, hpre]
          have hx0 : W i * jN (10 - senP Q t (P i) (A t (P i))) = 0 := by rw [hs10]; exact Int64.mul_zero
          simp (disch := first | assumption | omega) only [b16n_245, n_add, n_mul, n_in, decide_eq_true_eq, n_nat, n_lt, n_eq, n_sub, if_pos, if_neg, if_true, if_false, l_of, hx0, b17_0, cmp_0, b17_6, Option.bind_some, Option.toList_some, Option.toList_none, List.cons_append, List.nil_append, true_or, or_true, if_true, bI_if, b16n_261]
        · rw [eF w, hs10, show jN (10 - 10) = 0 from rfl, Int64.mul_zero, Int64.zero_mul, Int64.add_zero]
      · have hp0 : pS (P i) = 0 := by
          unfold senP at hs10
          split at hs10
          · exact absurd rfl hs10
          · omega
        have hus1 : usum P (i + 1) = usum P i + 1 := by rw [hus, if_pos hp0]
        have hnS : pS (behP Q t (P i) (A t (P i))) = 0 := by rw [pS_behP]; exact hp0
        have hth : asP (behP Q t (P i) (A t (P i))) 0 = behP Q t (P i) (A t (P i)) := by
          have h3 := asP_self (p := behP Q t (P i) (A t (P i)))
          rw [hnS] at h3
          exact h3
        obtain ⟨a4, b4, c4, e4, R4, k4, o4, -⟩ := c_arrive (d := d+2) (x := W i * jN (10 - senP Q t (P i) (A t (P i)))) (vt := iN t) (vp := iN (behP Q t (P i) (A t (P i)))) rfl rfl ht hnx (hE.ag o123.ag) (o123.tab hT) (by omega) R3
        rw [if_pos hnS] at R4
        refine fin (.int (iN (P i))) (.long (W i)) (.int (iN (A t (P i)))) (.int (iN (behP Q t (P i) (A t (P i))))) (.int (iN (senP Q t (P i) (A t (P i))))) a4 b4 c4 ?_ (o123.trans o4) ((R4.le (by omega)).eq (fun w hw => ?_)) (by omega)
        · rw [e1, hpre]
          simp (disch := first | assumption | omega) only [b16n_245, n_add, n_mul, n_in, decide_eq_true_eq, n_nat, n_lt, n_eq, n_sub, if_pos, if_neg, if_true, if_false, l_of, e4, Option.bind_some, Option.toList_some, Option.toList_none, List.cons_append, List.nil_append, true_or, or_true, if_true, bI_if, b16n_261]
        · rw [eF w, hth, Int64.add_assoc, Int64.add_assoc]
