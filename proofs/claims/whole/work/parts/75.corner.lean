/-! ===== THE CORNER: what it is, and the class's unseeing ===== -/
/-- gone already, not known -/
def UG (Q : AQ) (cr act : Nat) : Nat → Nat → Nat → Int64
  | 0, t, p => -(jN (Q (iN 109) t p 0)) * hun 0
  | m + 1, t, p => if pY p ≤ cr then -(jN (Q (iN 109) t p 0)) * hun (m + 1) else if mayP Q t p act then 100 * UG Q cr act m (t + 1) (behP Q t p act) else -(jN (Q (iN 108) t p 0)) * hun (m + 1)
theorem UG_s (Q : AQ) (cr act m t p : Nat) : UG Q cr act (m + 1) t p = if pY p ≤ cr then -(jN (Q (iN 109) t p 0)) * hun (m + 1) else if mayP Q t p act then 100 * UG Q cr act m (t + 1) (behP Q t p act) else -(jN (Q (iN 108) t p 0)) * hun (m + 1) := rfl
def crnV (Q : AQ) (B : Nat) (pw : Int64) (G F : Nat → Int64) (t nx s sn : Nat) : Int64 :=
  if (if sn = 1 then s else 10 - s) = 0 then 0
  else if pY (asP nx sn) = 0 then 10 * jN (if sn = 1 then s else 10 - s) * jN (Q (iN 118) t (asP nx sn) 0) * pw
  else jN (if sn = 1 then s else 10 - s) * jN (gonP Q B t (asP nx sn)) * G (asP nx sn) + jN (if sn = 1 then s else 10 - s) * jN (10 - gonP Q B t (asP nx sn)) * F (asP nx sn)
/-- not gone yet -/
def UU (Q : AQ) (B cr act : Nat) : Nat → Nat → Nat → Int64
  | 0, t, p => VB Q B false 0 t p
  | m + 1, t, p => if pY p ≤ cr then VB Q B false (m + 1) t p else if mayP Q t p act then 0 + crnV Q B (hun m) (UG Q cr act m (t + 1)) (UU Q B cr act m (t + 1)) t (behP Q t p act) (senP Q t p act) 0 + crnV Q B (hun m) (UG Q cr act m (t + 1)) (UU Q B cr act m (t + 1)) t (behP Q t p act) (senP Q t p act) 1 else -(jN (Q (iN 108) t p 0)) * hun (m + 1)
def UnsC (n : Nat) (r : Nat → Nat → Option Nat) (N B cr act : Nat) (Q : AQ) (m : Nat) : Prop := ∀ (d t p : Nat) (vt vp vg va vc : Int32) (g : Bool) (a : Nat → Nat → Int32) (b : Nat → Nat → Int64), t + m = N → vt = iN t → vp = iN p → vg = bI g → va = iN act → vc = iN cr → p < 4840 → EnvC n r a N B Q → BestOk N B Q 0 a b → TabC b → ∃ a' b', Den (d+2*m+15) 7 0 [.ref 52, .int vt, .int vp, .int vg, .int va, .int vc, zmJ, zmJ, zmJ, zmJ, zmJ, zmJ, zmJ, zmJ, zmJ, zmJ] [] (zmMk n a b r) = some (some (.long (if g = true then UG Q cr act m t p else UU Q B cr act m t p)), zmMk n a' b' r) ∧ BestOk N B Q 0 a' b' ∧ frS scB a a' ∧ frL scBL b b'
theorem l_cr (w x y : Int64) : w + x + y = w + (x + y) := Int64.add_assoc ..
set_option maxHeartbeats 1000000 in
theorem c_unseePart {n N B cr act m : Nat} {r : Nat → Nat → Option Nat} {Q : AQ} (hU : UnsC n r N B cr act Q m) {d t p nx s sn : Nat} {a : Nat → Nat → Int32} {b : Nat → Nat → Int64} (ht : t + m + 1 = N) (hsn : sn ≤ 1) (hs : s ≤ 10) (hnx : nx < 4840) (hc : sn = 0 → s < 10 → pS nx = 0) (hE : EnvC n r a N B Q) (hK : BestOk N B Q 0 a b) (hT : TabC b) (u12 u14 u15 : Value) (w : Int64) : ∃ u12' u14' u15' a' b', Den (d+2*m+16) 7 157 [.ref 52,.int (iN t),.int (iN p),.int (iN 0),.int (iN act),.int (iN cr),.int (iN N),.int (iN nx),.int (iN s),.long w,zmJ,.int (iN sn),u12,zmJ,u14,u15] [] (zmMk n a b r) = Den (d+2*m+16) 7 157 [.ref 52,.int (iN t),.int (iN p),.int (iN 0),.int (iN act),.int (iN cr),.int (iN N),.int (iN nx),.int (iN s),.long (w + crnV Q B (hun m) (UG Q cr act m (t + 1)) (UU Q B cr act m (t + 1)) t nx s sn),zmJ,.int (iN (sn + 1)),u12',zmJ,u14',u15'] [] (zmMk n a' b' r) ∧ BestOk N B Q 0 a' b' ∧ frS scB a a' ∧ frL scBL b b' := by
  have h8 := hE.n8
  have em : N - t - 1 = m := by omega
  have e1 : ∃ c th, c = (if sn = 1 then s else 10 - s) ∧ (¬ c = 0 → th = asP nx sn) ∧ Den (d+2*m+16) 7 157 [.ref 52,.int (iN t),.int (iN p),.int (iN 0),.int (iN act),.int (iN cr),.int (iN N),.int (iN nx),.int (iN s),.long w,zmJ,.int (iN sn),u12,zmJ,u14,u15] [] (zmMk n a b r) = Den (d+2*m+16) 7 198 [.ref 52,.int (iN t),.int (iN p),.int (iN 0),.int (iN act),.int (iN cr),.int (iN N),.int (iN nx),.int (iN s),.long w,zmJ,.int (iN sn),(.long (jN c)),zmJ,u14,u15] [.int (iN th)] (zmMk n a b r) := by
    rcases (by omega : sn = 0 ∨ sn = 1) with rfl | rfl
    · refine ⟨10 - s, nx, rfl, fun h => ?_, ?_⟩
      · have h2 := hc rfl (by omega)
        have h3 := asP_self (p := nx)
        rw [h2] at h3
        exact h3.symm
      · rw [b7_157]
        simp (disch := omega) only [n_add, n_mul, n_in, decide_eq_true_eq, n_nat, n_lt, n_eq, n_sub, if_pos, if_neg, if_true, if_false, b7_163, b7_175, b7_181, b7_196, l_of]
    · refine ⟨s, asP nx 1, rfl, fun _ => rfl, ?_⟩
      rw [b7_157]
      simp (disch := omega) only [n_add, n_mul, n_in, decide_eq_true_eq, n_nat, n_lt, n_eq, n_sub, if_pos, if_neg, if_true, if_false, b7_163, b7_169, b7_181, b7_189, n_or2 hnx, l_of]
  obtain ⟨c, th, hc1, hth, e1⟩ := e1
  have hcb : c ≤ 10 := by rw [hc1]; split <;> omega
  rw [e1]
  unfold crnV
  rw [← hc1]
  by_cases h0 : c = 0
  · refine ⟨.long (jN c), .int (iN th), u15, a, b, ?_, hK, frS.refl, frL.refl⟩
    simp (disch := omega) only [b7_198, cmp_pos, l_pos, b7_261, b7_355, n_add]
    rw [if_neg (by omega), if_neg (by omega), if_pos h0]
    rw [Int64.add_zero]
  · have hth := hth h0
    subst hth
    rw [if_neg h0]
    have hthl : asP nx sn < 4840 := asP_lt hnx hsn
    have hyl := pY_le hthl
    obtain ⟨⟨TT, hTT, h29, hA⟩, -, -, -, -, -, hB⟩ := id hE
    by_cases hy : pY (asP nx sn) = 0
    · obtain ⟨a1, e2, f1⟩ := hA (d+2*m+6) a b (iN 118) _ _ _ t (asP nx sn) 0 agD.refl rfl rfl rfl rfl (by omega) hthl (by omega)
      refine ⟨.long (jN c), .int (iN (asP nx sn)), u15, a1, b, ?_, hK.fr f1, f1.toB, frL.refl⟩
      rw [if_pos hy]
      have hv := hB.v t (asP nx sn) 0
      simp (disch := omega) only [b7_198, cmp_pos, l_pos, b7_207, c_yardsAt hthl, Option.bind_some, Option.toList_some, Option.toList_none, List.cons_append, List.nil_append, true_or, or_true, if_true, bI_if, b7_212, hy, b7_215 h29 hTT, e2, b7_243, n_add, n_mul, n_in, decide_eq_true_eq, n_nat, n_lt, n_eq, n_sub, if_pos, if_neg, if_true, if_false, em, c_hundreds hT, b7_254, b7_355, l_of, Nat.pos_of_ne_zero h0]
    · obtain ⟨a1, e2, f1⟩ := c_tenthsGone (d := d+2*m+5) (b := b) hE (vt := iN t) (vp := iN (asP nx sn)) rfl rfl (by omega) hthl
      have hg := gonP_le hB B t (asP nx sn)
      have hE1 := hE.fr f1
      have hK1 := hK.fr f1
      have e3 : ∃ a2 b2, Den (d+2*m+16) 7 278 [.ref 52,.int (iN t),.int (iN p),.int (iN 0),.int (iN act),.int (iN cr),.int (iN N),.int (iN nx),.int (iN s),.long w,zmJ,.int (iN sn),(.long (jN c)),zmJ,(.int (iN (asP nx sn))),u15] [.int (iN (gonP Q B t (asP nx sn)))] (zmMk n a1 b r) = Den (d+2*m+16) 7 312 [.ref 52,.int (iN t),.int (iN p),.int (iN 0),.int (iN act),.int (iN cr),.int (iN N),.int (iN nx),.int (iN s),.long w,zmJ,.int (iN sn),(.long (jN c)),zmJ,(.int (iN (asP nx sn))),(.int (iN (gonP Q B t (asP nx sn))))] [.long (jN c * jN (gonP Q B t (asP nx sn)) * UG Q cr act m (t + 1) (asP nx sn)), .long w] (zmMk n a2 b2 r) ∧ BestOk N B Q 0 a2 b2 ∧ frS scB a1 a2 ∧ frL scBL b b2 := by
        by_cases hg0 : gonP Q B t (asP nx sn) = 0
        · refine ⟨a1, b, ?_, hK1, frS.refl, frL.refl⟩
          rw [hg0]
          simp only [b7_278, if_true, b7_287]
          rw [jN_0, Int64.mul_zero, Int64.zero_mul]
        · obtain ⟨a2, b2, e4, k4, f4, l4⟩ := hU d (t + 1) (asP nx sn) _ _ (iN 1) _ _ true a1 b (by omega) rfl rfl rfl rfl rfl hthl hE1 hK1 hT
          rw [if_pos rfl] at e4
          refine ⟨a2, b2, ?_, k4, f4, l4⟩
          simp (disch := omega) only [b7_278, n_eq, hg0, if_false, b7_291, n_add, e4, Option.bind_some, Option.toList_some, Option.toList_none, List.cons_append, List.nil_append, true_or, or_true, if_true, bI_if, b7_311, l_of]
      obtain ⟨a2, b2, e3, k2, f2, l2⟩ := e3
      have hE2 := hE1.ag (f2.ag dpC_scB)
      have e5 : ∃ a3 b3, Den (d+2*m+16) 7 312 [.ref 52,.int (iN t),.int (iN p),.int (iN 0),.int (iN act),.int (iN cr),.int (iN N),.int (iN nx),.int (iN s),.long w,zmJ,.int (iN sn),(.long (jN c)),zmJ,(.int (iN (asP nx sn))),(.int (iN (gonP Q B t (asP nx sn))))] [.long (jN c * jN (gonP Q B t (asP nx sn)) * UG Q cr act m (t + 1) (asP nx sn)), .long w] (zmMk n a2 b2 r) = Den (d+2*m+16) 7 352 [.ref 52,.int (iN t),.int (iN p),.int (iN 0),.int (iN act),.int (iN cr),.int (iN N),.int (iN nx),.int (iN s),.long (w + jN c * jN (gonP Q B t (asP nx sn)) * UG Q cr act m (t + 1) (asP nx sn)),zmJ,.int (iN sn),(.long (jN c)),zmJ,(.int (iN (asP nx sn))),(.int (iN (gonP Q B t (asP nx sn))))] [.long (jN c * jN (10 - gonP Q B t (asP nx sn)) * UU Q B cr act m (t + 1) (asP nx sn)), .long (w + jN c * jN (gonP Q B t (asP nx sn)) * UG Q cr act m (t + 1) (asP nx sn))] (zmMk n a3 b3 r) ∧ BestOk N B Q 0 a3 b3 ∧ frS scB a2 a3 ∧ frL scBL b2 b3 := by
        by_cases hg0 : gonP Q B t (asP nx sn) = 10
        · refine ⟨a2, b2, ?_, k2, frS.refl, frL.refl⟩
          rw [hg0]
          simp only [b7_312, if_true, b7_324]
          rw [show jN (10 - 10) = 0 from rfl, Int64.mul_zero, Int64.zero_mul]
        · obtain ⟨a3, b3, e4, k3, f3, l3⟩ := hU d (t + 1) (asP nx sn) _ _ (iN 0) _ _ false a2 b2 (by omega) rfl rfl rfl rfl rfl hthl hE2 k2 (hT.frB l2)
          rw [if_neg (by decide)] at e4
          refine ⟨a3, b3, ?_, k3, f3, l3⟩
          simp (disch := omega) only [b7_312, n_eq, hg0, if_false, b7_328, n_add, e4, Option.bind_some, Option.toList_some, Option.toList_none, List.cons_append, List.nil_append, true_or, or_true, if_true, bI_if, b7_351, n_sub, l_of]
      obtain ⟨a3, b3, e5, k3, f3, l3⟩ := e5
      refine ⟨.long (jN c), .int (iN (asP nx sn)), .int (iN (gonP Q B t (asP nx sn))), a3, b3, ?_, k3, (f1.toB.trans f2).trans f3, l2.trans l3⟩
      rw [if_neg hy]
      simp (disch := omega) only [b7_198, cmp_pos, l_pos, b7_207, c_yardsAt hthl, Option.bind_some, Option.toList_some, Option.toList_none, List.cons_append, List.nil_append, true_or, or_true, if_true, bI_if, b7_212, n_eq, hy, if_false, b7_261, b7_268, e2, e3, e5, b7_352, b7_355, n_add, Nat.pos_of_ne_zero h0]
      rw [l_cr]
set_option maxHeartbeats 1000000 in
theorem c_unsee {n N B cr act : Nat} {r : Nat → Nat → Option Nat} {Q : AQ} (hact : act < 8 ∧ act ≠ 4) (hcr : cr < 120) : ∀ m, m ≤ 8 → UnsC n r N B cr act Q m := by
  intro m
  induction m with
  | zero =>
    intro _ d t p vt vp vg va vc g a b ht et ep eg ea ec hp hE hK hT
    subst et ep eg ea ec
    have h8 := hE.n8
    have hyl := pY_le hp
    obtain ⟨⟨TT, hTT, h29, hA⟩, h16, -, -, -, -, hB⟩ := id hE
    have hpre : Den (d+2*0+15) 7 0 [.ref 52, .int (iN t), .int (iN p), .int (bI g), .int (iN act), .int (iN cr), zmJ, zmJ, zmJ, zmJ, zmJ, zmJ, zmJ, zmJ, zmJ, zmJ] [] (zmMk n a b r) = Den (d+2*0+15) 7 24 [.ref 52,.int (iN t),.int (iN p),.int (bI g),.int (iN act),.int (iN cr),.int (iN N),zmJ,zmJ,zmJ,zmJ,zmJ,zmJ,zmJ,zmJ,zmJ] [] (zmMk n a b r) := by
      by_cases hy : cr < pY p
      · simp (disch := omega) only [b7_0, b57_0, h16, Option.bind_some, Option.toList_some, Option.toList_none, List.cons_append, List.nil_append, true_or, or_true, if_true, bI_if, b7_7, c_yardsAt hp, b7_13, n_add, n_mul, n_in, decide_eq_true_eq, n_nat, n_lt, n_eq, n_sub, if_pos, if_neg, if_true, if_false, b7_18]
      · simp (disch := omega) only [b7_0, b57_0, h16, Option.bind_some, Option.toList_some, Option.toList_none, List.cons_append, List.nil_append, true_or, or_true, if_true, bI_if, b7_7, c_yardsAt hp, b7_13, n_add, n_mul, n_in, decide_eq_true_eq, n_nat, n_lt, n_eq, n_sub, if_pos, if_neg, if_true, if_false]
    rw [hpre]
    cases g with
    | true =>
      obtain ⟨a1, e2, f1⟩ := hA (d+2*0+5) a b (iN 109) _ _ _ t p 0 agD.refl rfl rfl rfl rfl (by omega) hp (by omega)
      refine ⟨a1, b, ?_, hK.fr f1, f1.toB, frL.refl⟩
      have hm := hB.m t p 0
      have em : N - t = 0 := by omega
      simp (disch := omega) only [b7_24, Option.bind_some, Option.toList_some, Option.toList_none, List.cons_append, List.nil_append, true_or, or_true, if_true, bI_if, b7_28 h29 hTT, e2, b7_47, n_add, n_mul, n_in, decide_eq_true_eq, n_nat, n_lt, n_eq, n_sub, if_pos, if_neg, if_true, if_false, em, c_hundreds hT, b7_56, b7_66, l_ofn]
      rfl
    | false =>
      obtain ⟨a1, b1, e2, k2, f2, l2, -⟩ := c_value (B := B) (mn := 0) (by decide) 0 (by omega) d t p _ _ a b ht rfl rfl hp hE hK hT
      refine ⟨a1, b1, ?_, k2, f2, l2⟩
      simp (disch := omega) only [b7_24, Option.bind_some, Option.toList_some, Option.toList_none, List.cons_append, List.nil_append, true_or, or_true, if_true, bI_if, Bool.false_eq_true, if_false, b7_60, e2, b7_66]
      rfl
  | succ m ih =>
    intro hm8 d t p vt vp vg va vc g a b ht et ep eg ea ec hp hE hK hT
    subst et ep eg ea ec
    have hU := ih (by omega)
    have h8 := hE.n8
    have hyl := pY_le hp
    obtain ⟨⟨TT, hTT, h29, hA⟩, h16, -, -, -, -, hB⟩ := id hE
    have em : N - t = m + 1 := by omega
    by_cases hy : pY p ≤ cr
    · cases g with
      | true =>
        obtain ⟨a1, e2, f1⟩ := hA (d+2*(m+1)+5) a b (iN 109) _ _ _ t p 0 agD.refl rfl rfl rfl rfl (by omega) hp (by omega)
        refine ⟨a1, b, ?_, hK.fr f1, f1.toB, frL.refl⟩
        have hm := hB.m t p 0
        simp (disch := omega) only [b7_0, b57_0, h16, Option.bind_some, Option.toList_some, Option.toList_none, List.cons_append, List.nil_append, true_or, or_true, if_true, bI_if, b7_7, c_yardsAt hp, b7_13, n_add, n_mul, n_in, decide_eq_true_eq, n_nat, n_lt, n_eq, n_sub, if_pos, if_neg, if_true, if_false, b7_24, b7_28 h29 hTT, e2, b7_47, em, c_hundreds hT, b7_56, b7_66, l_ofn]
        unfold UG
        rw [if_pos hy]
      | false =>
        obtain ⟨a1, b1, e2, k2, f2, l2, -⟩ := c_value (B := B) (mn := 0) (by decide) (m + 1) (by omega) d t p _ _ a b ht rfl rfl hp hE hK hT
        refine ⟨a1, b1, ?_, k2, f2, l2⟩
        simp (disch := omega) only [b7_0, b57_0, h16, Option.bind_some, Option.toList_some, Option.toList_none, List.cons_append, List.nil_append, true_or, or_true, if_true, bI_if, b7_7, c_yardsAt hp, b7_13, n_add, n_mul, n_in, decide_eq_true_eq, n_nat, n_lt, n_eq, n_sub, if_pos, if_neg, if_true, if_false, b7_24, Bool.false_eq_true, b7_60, e2, b7_66]
        unfold UU
        rw [if_pos hy]
        rfl
    · obtain ⟨a1, e1, f1⟩ := c_behind (d := d+2*m+4) (b := b) hE (vt := iN t) (vp := iN p) (va := iN act) rfl rfl rfl (by omega) hp hact
      have hE1 := hE.fr f1
      by_cases hm : mayP Q t p act
      · rw [if_pos hm] at e1
        have hnx := behP_lt (Q := Q) (t := t) (act := act) hp
        cases g with
        | true =>
          obtain ⟨a2, b2, e2, k2, f2, l2⟩ := hU (d+1) (t + 1) (behP Q t p act) _ _ (iN 1) _ _ true a1 b (by omega) rfl rfl rfl rfl rfl hnx hE1 (hK.fr f1) hT
          rw [if_pos rfl] at e2
          have e2' : Den (d+2*m+16) 7 0 [.ref 52, .int (iN (t + 1)), .int (iN (behP Q t p act)), .int (iN 1), .int (iN act), .int (iN cr), zmJ, zmJ, zmJ, zmJ, zmJ, zmJ, zmJ, zmJ, zmJ, zmJ] [] (zmMk n a1 b r) = some (some (.long (UG Q cr act m (t + 1) (behP Q t p act))), zmMk n a2 b2 r) := by
            rw [← e2, show d + 2 * m + 16 = d + 1 + 2 * m + 15 by omega]
          refine ⟨a2, b2, ?_, k2, f1.toB.trans f2, l2⟩
          have hdd : d + 2 * (m + 1) + 15 = d + 2 * m + 17 := by omega
          rw [hdd]
          simp (disch := omega) only [b7_0, b57_0, h16, Option.bind_some, Option.toList_some, Option.toList_none, List.cons_append, List.nil_append, true_or, or_true, if_true, bI_if, b7_7, c_yardsAt hp, b7_13, n_add, n_mul, n_in, decide_eq_true_eq, n_nat, n_lt, n_eq, n_sub, if_pos, if_neg, if_true, if_false, b7_18, b7_67, e1, b7_78, n_not_neg, b7_115, b7_119, e2', b7_136]
          rw [UG_s, if_neg hy, if_pos hm]
        | false =>
          obtain ⟨a2, e2, f2⟩ := c_tenthsSeen (d := d+2*m+6) (b := b) hE1 (vt := iN t) (vp := iN p) (va := iN act) rfl rfl rfl (by omega) hp hact
          have hE2 := hE1.fr f2
          have hs := senP_le hB t p act
          have hcc : (0 : Nat) = 0 → senP Q t p act < 10 → pS (behP Q t p act) = 0 := fun _ h => by
            rw [pS_behP]
            unfold senP at h
            split at h
            · omega
            · have := pS_le p; omega
          obtain ⟨u1, u2, u3, a3, b3, e3, k3, f3, l3⟩ := c_unseePart (d := d+1) (p := p) hU (by omega) (sn := 0) (by omega) hs hnx hcc hE2 ((hK.fr f1).fr f2) hT zmJ zmJ zmJ 0
          obtain ⟨u4, u5, u6, a4, b4, e4, k4, f4, l4⟩ := c_unseePart (d := d+1) (p := p) hU (by omega) (sn := 1) (by omega) hs hnx (fun h => absurd h (by omega)) (hE2.ag (f3.ag dpC_scB)) k3 (hT.frB l3) u1 u2 u3 (0 + crnV Q B (hun m) (UG Q cr act m (t + 1)) (UU Q B cr act m (t + 1)) t (behP Q t p act) (senP Q t p act) 0)
          rw [show d + 1 + 2 * m + 16 = d + 2 * m + 17 by omega] at e3 e4
          refine ⟨a4, b4, ?_, k4, (f1.toB.trans f2.toB).trans (f3.trans f4), l3.trans l4⟩
          have hdd : d + 2 * (m + 1) + 15 = d + 2 * m + 17 := by omega
          rw [hdd]
          simp (disch := omega) only [b7_0, b57_0, h16, Option.bind_some, Option.toList_some, Option.toList_none, List.cons_append, List.nil_append, true_or, or_true, if_true, bI_if, b7_7, c_yardsAt hp, b7_13, n_add, n_mul, n_in, decide_eq_true_eq, n_nat, n_lt, n_eq, n_sub, if_pos, if_neg, if_true, if_false, b7_18, b7_67, e1, b7_78, n_not_neg, b7_115, Bool.false_eq_true, b7_138, e2, b7_149]
          have hz : bI false = iN 0 := rfl
          rw [hz, e3, e4, b7_157]
          simp (disch := omega) only [n_add, n_mul, n_in, decide_eq_true_eq, n_nat, n_lt, n_eq, n_sub, if_pos, if_neg, if_true, if_false, b7_361]
          unfold UU
          rw [if_neg hy, if_pos hm]
      · rw [if_neg hm] at e1
        obtain ⟨a2, e2, f2⟩ := hA (d+2*m+7) a1 b (iN 108) _ _ _ t p 0 f1.dpA rfl rfl rfl rfl (by omega) hp (by omega)
        have hl := hB.l t p 0
        have h2 : ((-2 : Int32) < iN 0) = True := eq_true (by decide)
        refine ⟨a2, b, ?_, (hK.fr f1).fr f2, (f1.trans f2).toB, frL.refl⟩
        have hdd : d + 2 * (m + 1) + 15 = d + 2 * m + 17 := by omega
        rw [hdd]
        simp (disch := omega) only [b7_0, b57_0, h16, Option.bind_some, Option.toList_some, Option.toList_none, List.cons_append, List.nil_append, true_or, or_true, if_true, bI_if, b7_7, c_yardsAt hp, b7_13, n_add, n_mul, n_in, decide_eq_true_eq, n_nat, n_lt, n_eq, n_sub, if_pos, if_neg, if_true, if_false, b7_18, b7_67, e1, b7_78, h2, b7_85 h29 hTT, e2, b7_104, em, c_hundreds hT, b7_113, l_ofn]
        cases g with
        | true =>
          unfold UG
          rw [if_neg hy, if_neg hm]
          rfl
        | false =>
          unfold UU
          rw [if_neg hy, if_neg hm]
          rfl
