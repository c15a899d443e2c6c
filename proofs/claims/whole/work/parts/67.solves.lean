/-! ===== what is marked; the reference's solves ===== -/
def scS (k : Nat) : Bool := scM k || (Nat.beq k 114 || Nat.beq k 116)
def scSL (k : Nat) : Bool := Nat.beq k 115
theorem frS.toS {a a' : Nat → Nat → Int32} (h : frM a a') : frS scS a a' := fun k hk => h k (by unfold scS at hk; exact (Bool.or_eq_false_iff.mp hk).1)
theorem dpM_scS (k j : Nat) (h : dpM k j = true) : scS k = false := by
  unfold scS
  rw [dpM_scM k j h]
  cases h2 : Nat.beq k 114 with
  | true => rw [Nat.eq_of_beq_eq_true h2] at h; simp [dpM, dpMA] at h
  | false =>
    cases h3 : Nat.beq k 116 with
    | true => rw [Nat.eq_of_beq_eq_true h3] at h; simp [dpM, dpMA] at h
    | false => rfl
theorem frS.put {S : Nat → Bool} {a a' : Nat → Nat → Int32} (h : frS S a a') {k j : Nat} {v : Int32} (hk : S k = true) : frS S a (uI a' k j v) := by
  intro k' h'
  funext j'
  rw [uI_at, if_neg (fun q => by rw [q.1, hk] at h'; cases h'), h k' h']
theorem frL.put {S : Nat → Bool} {a a' : Nat → Nat → Int64} (h : frL S a a') {k j : Nat} {v : Int64} (hk : S k = true) : frL S a (uL a' k j v) := by
  intro k' h'
  funext j'
  rw [uL_at, if_neg (fun q => by rw [q.1, hk] at h'; cases h'), h k' h']
/-- marks come, none goes -/
def MonM (a a' : Nat → Nat → Int32) (t : Nat) : Prop := ∀ j, a' 114 j = a 114 j ∨ (4840 * t ≤ j ∧ j < 4840 * (t + 1) ∧ a' 114 j = iN 1)
theorem MonM.refl {a a' : Nat → Nat → Int32} {t : Nat} (h : a' 114 = a 114) : MonM a a' t := fun j => Or.inl (by rw [h])
theorem MonM.trans {a a1 a2 : Nat → Nat → Int32} {t : Nat} (h : MonM a a1 t) (h2 : MonM a1 a2 t) : MonM a a2 t := by
  intro j
  rcases h2 j with q | q
  · rcases h j with q2 | q2
    · exact Or.inl (q.trans q2)
    · exact Or.inr ⟨q2.1, q2.2.1, q.trans q2.2.2⟩
  · exact Or.inr q
theorem MonM.mk {a a' : Nat → Nat → Int32} {t : Nat} (h : MonM a a' t) {j : Nat} (hj : a 114 j ≠ iN 0) : a' 114 j ≠ iN 0 := by
  rcases h j with q | q
  · rw [q]; exact hj
  · rw [q.2.2]; decide
theorem MonM.put {a a' : Nat → Nat → Int32} {t th : Nat} (h : MonM a a' t) (hth : th < 4840) : MonM a (uI a' 114 (4840 * t + th) (iN 1)) t := by
  intro j
  rw [uI_at]
  by_cases hj : j = 4840 * t + th
  · rw [if_pos ⟨rfl, hj⟩]
    exact Or.inr ⟨by omega, by omega, rfl⟩
  · rw [if_neg (fun q => hj q.2)]
    exact h j
/-- what can come by one ACTION -/
def sucA (Q : AQ) (nw : Bool) (t p act th : Nat) : Prop := act ≠ 4 ∧ (nw = true → act ≤ 3) ∧ mayP Q t p act ∧ ∃ sn, sn ≤ 1 ∧ (if sn = 1 then senP Q t p act else 10 - senP Q t p act) ≠ 0 ∧ pY (asP (behP Q t p act) sn) ≠ 0 ∧ th = asP (behP Q t p act) sn
theorem m_marks {d t p : Nat} {n : Nat} {a : Nat → Nat → Int32} {b : Nat → Nat → Int64} {r : Nat → Nat → Option Nat} {vt vp : Int32} (et : vt = iN t) (ep : vp = iN p) (ht : t ≤ 8) (hp : p < 4840) : Den (d) 215 0 [.ref 94, .int vt, .int vp] [] (zmMk n a b r) = some (none, zmMk n (uI a 114 (4840 * t + p) (iN 1)) b r) := by
  subst et ep
  simp (disch := omega) only [b215_0, b215_13, n_add, n_mul, n_in, decide_eq_true_eq, n_nat, n_lt, n_eq, n_sub, if_pos, if_neg, if_true, if_false]
set_option maxHeartbeats 1000000 in
theorem m_spread1 {n N B : Nat} {r : Nat → Nat → Option Nat} {Q : AQ} {nw : Bool} {d t p j : Nat} {a : Nat → Nat → Int32} {b : Nat → Nat → Int64} (ht : t < N) (hp : p < 4840) (hj1 : 1 ≤ j) (hj : j ≤ 7) (hE : EnvM n r a N B Q) (hnw : a 94 39 = bI nw) (u4 u5 : Value) : ∃ u4' u5' a', Den (d+12) 216 10 [.ref 94,.int (iN t),.int (iN p),.int (iN j),u4,u5] [] (zmMk n a b r) = Den (d+12) 216 10 [.ref 94,.int (iN t),.int (iN p),.int (iN (j + 1)),u4',u5'] [] (zmMk n a' b r) ∧ frS scS a a' ∧ MonM a a' (t + 1) ∧ ∀ th, sucA Q nw t p j th → a' 114 (4840 * (t + 1) + th) ≠ iN 0 := by
  have h8 := hE.n8
  have hB := hE.qb
  rw [b216_10]
  by_cases h4 : j = 4
  · refine ⟨u4, u5, a, ?_, frS.refl, MonM.refl rfl, fun th q => absurd h4 q.1⟩
    subst h4
    have hM : isAc (iN 4) = false := by decide
    simp (disch := omega) only [n_add, n_mul, n_in, decide_eq_true_eq, n_nat, n_lt, n_eq, n_sub, if_pos, if_neg, if_true, if_false, Option.bind_some, Option.toList_some, Option.toList_none, List.cons_append, List.nil_append, true_or, or_true, if_true, bI_if, b216_16, m_isAction, hM, b216_20, b216_115, Bool.false_eq_true]
  have hM : isAc (iN j) = true := by
    rcases (by omega : j = 1 ∨ j = 2 ∨ j = 3 ∨ j = 5 ∨ j = 6 ∨ j = 7) with rfl | rfl | rfl | rfl | rfl | rfl <;> decide
  by_cases hw : nw = true → j ≤ 3
  rotate_left
  · refine ⟨u4, u5, a, ?_, frS.refl, MonM.refl rfl, fun th q => absurd q.2.1 hw⟩
    have hw1 : nw = true := Decidable.byContradiction (fun q => hw (fun q2 => absurd q2 q))
    have hw2 : ¬ j ≤ 3 := fun q => hw (fun _ => q)
    subst hw1
    simp (disch := omega) only [n_add, n_mul, n_in, decide_eq_true_eq, n_nat, n_lt, n_eq, n_sub, if_pos, if_neg, if_true, if_false, Option.bind_some, Option.toList_some, Option.toList_none, List.cons_append, List.nil_append, true_or, or_true, if_true, bI_if, b216_16, m_isAction, hM, b216_20, b216_23, hnw, b216_30, b216_115]
  have hgo : Den (d+12) 216 23 [.ref 94,.int (iN t),.int (iN p),.int (iN j),u4,u5] [] (zmMk n a b r) = Den (d+12) 216 35 [.ref 94,.int (iN t),.int (iN p),.int (iN j),u4,u5] [] (zmMk n a b r) := by
    cases hq : nw with
    | false => simp (disch := omega) only [b216_23, hnw, Option.bind_some, Option.toList_some, Option.toList_none, List.cons_append, List.nil_append, true_or, or_true, if_true, bI_if, hq, Bool.false_eq_true, if_false]
    | true =>
      have := hw hq
      simp (disch := omega) only [b216_23, hnw, Option.bind_some, Option.toList_some, Option.toList_none, List.cons_append, List.nil_append, true_or, or_true, if_true, bI_if, hq, b216_30, n_add, n_mul, n_in, decide_eq_true_eq, n_nat, n_lt, n_eq, n_sub, if_pos, if_neg, if_true, if_false]
  obtain ⟨a1, e1, f1⟩ := m_mayBe (d := d+1) (b := b) hE (vt := iN t) (vp := iN p) (va := iN j) rfl rfl rfl (by omega) hp (by omega)
  by_cases hm : mayP Q t p j
  rotate_left
  · refine ⟨u4, u5, a1, ?_, f1.toS, MonM.refl (f1 114 rfl), fun th q => absurd q.2.2.1 hm⟩
    have hd : decide (j = 0 ∨ Q (iN 119) t p j ≤ pB p) = false := decide_eq_false (fun q => q.elim (by omega) hm)
    rw [hd] at e1
    simp (disch := omega) only [n_add, n_mul, n_in, decide_eq_true_eq, n_nat, n_lt, n_eq, n_sub, if_pos, if_neg, if_true, if_false, Option.bind_some, Option.toList_some, Option.toList_none, List.cons_append, List.nil_append, true_or, or_true, if_true, bI_if, b216_16, m_isAction, hM, b216_20, hgo, b216_35, e1, b216_42, b216_45, b216_115, Bool.false_eq_true]
  have hd : decide (j = 0 ∨ Q (iN 119) t p j ≤ pB p) = true := decide_eq_true (Or.inr hm)
  rw [hd] at e1
  have hE1 := hE.fr f1
  obtain ⟨a2, e2, f2⟩ := m_behind (d := d+1) (b := b) hE1 (vt := iN t) (vp := iN p) (va := iN j) rfl rfl rfl (by omega) hp (by omega) hm
  have hnx := behP_lt (Q := Q) (t := t) (act := j) hp
  have hyl := pY_le hnx
  by_cases hy : pY (behP Q t p j) = 0
  · refine ⟨.int (iN (behP Q t p j)), u5, a2, ?_, (f1.trans f2).toS, MonM.refl ((f1.trans f2) 114 rfl), fun th q => ?_⟩
    · simp (disch := omega) only [n_add, n_mul, n_in, decide_eq_true_eq, n_nat, n_lt, n_eq, n_sub, if_pos, if_neg, if_true, if_false, Option.bind_some, Option.toList_some, Option.toList_none, List.cons_append, List.nil_append, true_or, or_true, if_true, bI_if, b216_16, m_isAction, hM, b216_20, hgo, b216_35, e1, b216_42, b216_48, e2, b216_55, m_yardsIn hnx, b216_62, hy, b216_65, b216_115]
    · obtain ⟨-, -, -, sn, q1, -, q2, -⟩ := q
      rw [pY_asP q1] at q2
      exact absurd hy q2
  obtain ⟨a3, e3, f3⟩ := m_seenBy (d := d+1) (b := b) (hE1.fr f2) (vt := iN t) (vp := iN p) (va := iN j) rfl rfl rfl (by omega) hp (by omega)
  have hs := senP_le hB t p j
  have f13 := (f1.trans f2).trans f3
  have head : (if iN j < iN 8 then Den (d+12) 216 16 [.ref 94,.int (iN t),.int (iN p),.int (iN j),u4,u5] [] (zmMk n a b r) else Den (d+12) 216 121 [.ref 94,.int (iN t),.int (iN p),.int (iN j),u4,u5] [] (zmMk n a b r)) = Den (d+12) 216 75 [.ref 94,.int (iN t),.int (iN p),.int (iN j),.int (iN (behP Q t p j)),u5] [.int (iN (senP Q t p j))] (zmMk n a3 b r) := by
    simp (disch := omega) only [n_add, n_mul, n_in, decide_eq_true_eq, n_nat, n_lt, n_eq, n_sub, if_pos, if_neg, if_true, if_false, Option.bind_some, Option.toList_some, Option.toList_none, List.cons_append, List.nil_append, true_or, or_true, if_true, bI_if, b216_16, m_isAction, hM, b216_20, hgo, b216_35, e1, b216_42, b216_48, e2, b216_55, m_yardsIn hnx, b216_62, hy, b216_68, e3]
  rw [head]
  have h0l := asP_lt (s := 0) hnx (by omega)
  have h1l := asP_lt (s := 1) hnx (by omega)
  by_cases hs10 : senP Q t p j = 10
  · refine ⟨.int (iN (behP Q t p j)), .int (iN (senP Q t p j)), uI a3 114 (4840 * (t + 1) + asP (behP Q t p j) 1) (iN 1), ?_, f13.toS.put rfl, (MonM.refl (f13 114 rfl)).put h1l, fun th q => ?_⟩
    · simp (disch := omega) only [n_add, n_mul, n_in, decide_eq_true_eq, n_nat, n_lt, n_eq, n_sub, if_pos, if_neg, if_true, if_false, Option.bind_some, Option.toList_some, Option.toList_none, List.cons_append, List.nil_append, true_or, or_true, if_true, bI_if, b216_75, hs10, b216_97, b216_102, m_asSeen hnx, b216_112, m_marks rfl rfl _ h1l, b216_115]
    · obtain ⟨-, -, -, sn, q1, q2, -, q3⟩ := q
      rcases (by omega : sn = 0 ∨ sn = 1) with rfl | rfl
      · rw [hs10] at q2; exact absurd rfl q2
      · rw [q3, uI_at, if_pos ⟨rfl, rfl⟩]; decide
  · by_cases hs0 : senP Q t p j = 0
    · refine ⟨.int (iN (behP Q t p j)), .int (iN (senP Q t p j)), uI a3 114 (4840 * (t + 1) + asP (behP Q t p j) 0) (iN 1), ?_, f13.toS.put rfl, (MonM.refl (f13 114 rfl)).put h0l, fun th q => ?_⟩
      · simp (disch := omega) only [n_add, n_mul, n_in, decide_eq_true_eq, n_nat, n_lt, n_eq, n_sub, if_pos, if_neg, if_true, if_false, Option.bind_some, Option.toList_some, Option.toList_none, List.cons_append, List.nil_append, true_or, or_true, if_true, bI_if, b216_75, hs0, b216_84, b216_97, m_asSeen hnx, b216_94, m_marks rfl rfl _ h0l, b216_115]
      · obtain ⟨-, -, -, sn, q1, q2, -, q3⟩ := q
        rcases (by omega : sn = 0 ∨ sn = 1) with rfl | rfl
        · rw [q3, uI_at, if_pos ⟨rfl, rfl⟩]; decide
        · rw [hs0] at q2; exact absurd rfl q2
    · refine ⟨.int (iN (behP Q t p j)), .int (iN (senP Q t p j)), uI (uI a3 114 (4840 * (t + 1) + asP (behP Q t p j) 0) (iN 1)) 114 (4840 * (t + 1) + asP (behP Q t p j) 1) (iN 1), ?_, (f13.toS.put rfl).put rfl, ((MonM.refl (f13 114 rfl)).put h0l).put h1l, fun th q => ?_⟩
      · simp (disch := omega) only [n_add, n_mul, n_in, decide_eq_true_eq, n_nat, n_lt, n_eq, n_sub, if_pos, if_neg, if_true, if_false, Option.bind_some, Option.toList_some, Option.toList_none, List.cons_append, List.nil_append, true_or, or_true, if_true, bI_if, b216_75, b216_84, b216_97, m_asSeen hnx, b216_94, m_marks rfl rfl _ h0l, b216_102, b216_112, m_marks rfl rfl _ h1l, b216_115]
      · obtain ⟨-, -, -, sn, q1, q2, -, q3⟩ := q
        rcases (by omega : sn = 0 ∨ sn = 1) with rfl | rfl
        · rw [q3, uI_at]
          split
          · decide
          · rw [uI_at, if_pos ⟨rfl, rfl⟩]; decide
        · rw [q3, uI_at, if_pos ⟨rfl, rfl⟩]; decide
