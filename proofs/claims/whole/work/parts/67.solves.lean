/-! ===== what is marked; the reference's solves ===== -/
def scS (k : Nat) : Bool := scM k || (Nat.beq k 114 || Nat.beq k 116)
def scSL (k : Nat) : Bool := Nat.beq k 115
theorem frS.toS {a a' : Nat → Nat → Int32} (h : frM a a') : frS scS a a' := fun k hk => h k (by unfold scS at hk; exact (Bool.or_eq_false_iff.mp hk).1)
theorem dpM_scS (k j : Nat) (h : dpM k j = true) : scS k = false := by
  unfold scS
  rw [dpM_scM k j h]
  cases h2 : Nat.beq k 114 with
  | true => rw [Nat.eq_of_beq_eq_true h2] at h; simp [dpM, dpMA] at h
  | false =>
    cases h3 : Nat.beq k 116 with
    | true => rw [Nat.eq_of_beq_eq_true h3] at h; simp [dpM, dpMA] at h
    | false => rfl
theorem frS.put {S : Nat → Bool} {a a' : Nat → Nat → Int32} (h : frS S a a') {k j : Nat} {v : Int32} (hk : S k = true) : frS S a (uI a' k j v) := by
  intro k' h'
  funext j'
  rw [uI_at, if_neg (fun q => by rw [q.1, hk] at h'; cases h'), h k' h']
theorem frL.put {S : Nat → Bool} {a a' : Nat → Nat → Int64} (h : frL S a a') {k j : Nat} {v : Int64} (hk : S k = true) : frL S a (uL a' k j v) := by
  intro k' h'
  funext j'
  rw [uL_at, if_neg (fun q => by rw [q.1, hk] at h'; cases h'), h k' h']
/-- marks come, none goes -/
def MonM (a a' : Nat → Nat → Int32) (t : Nat) : Prop := ∀ j, a' 114 j = a 114 j ∨ (4840 * t ≤ j ∧ j < 4840 * (t + 1) ∧ a' 114 j = iN 1)
theorem MonM.refl {a a' : Nat → Nat → Int32} {t : Nat} (h : a' 114 = a 114) : MonM a a' t := fun j => Or.inl (by rw [h])
theorem MonM.trans {a a1 a2 : Nat → Nat → Int32} {t : Nat} (h : MonM a a1 t) (h2 : MonM a1 a2 t) : MonM a a2 t := by
  intro j
  rcases h2 j with q | q
  · rcases h j with q2 | q2
    · exact Or.inl (q.trans q2)
    · exact Or.inr ⟨q2.1, q2.2.1, q.trans q2.2.2⟩
  · exact Or.inr q
theorem MonM.mk {a a' : Nat → Nat → Int32} {t : Nat} (h : MonM a a' t) {j : Nat} (hj : a 114 j ≠ iN 0) : a' 114 j ≠ iN 0 := by
  rcases h j with q | q
  · rw [q]; exact hj
  · rw [q.2.2]; decide
theorem MonM.put {a a' : Nat → Nat → Int32} {t th : Nat} (h : MonM a a' t) (hth : th < 4840) : MonM a (uI a' 114 (4840 * t + th) (iN 1)) t := by
  intro j
  rw [uI_at]
  by_cases hj : j = 4840 * t + th
  · rw [if_pos ⟨rfl, hj⟩]
    exact Or.inr ⟨by omega, by omega, rfl⟩
  · rw [if_neg (fun q => hj q.2)]
    exact h j
/-- what can come by one ACTION -/
def sucA (Q : AQ) (nw : Bool) (t p act th : Nat) : Prop := act ≠ 4 ∧ (nw = true → act ≤ 3) ∧ mayP Q t p act ∧ ∃ sn, sn ≤ 1 ∧ (if sn = 1 then senP Q t p act else 10 - senP Q t p act) ≠ 0 ∧ pY (asP (behP Q t p act) sn) ≠ 0 ∧ th = asP (behP Q t p act) sn
theorem m_marks {d t p : Nat} {n : Nat} {a : Nat → Nat → Int32} {b : Nat → Nat → Int64} {r : Nat → Nat → Option Nat} {vt vp : Int32} (et : vt = iN t) (ep : vp = iN p) (ht : t ≤ 8) (hp : p < 4840) : Den (d) 215 0 [.ref 94, .int vt, .int vp] [] (zmMk n a b r) = some (none, zmMk n (uI a 114 (4840 * t + p) (iN 1)) b r) := by
  subst et ep
  simp (disch := omega) only [b215_0, b215_13, n_add, n_mul, n_in, decide_eq_true_eq, n_nat, n_lt, n_eq, n_sub, if_pos, if_neg, if_true, if_false]
set_option maxHeartbeats 1000000 in
theorem m_spread1 {n N B : Nat} {r : Nat → Nat → Option Nat} {Q : AQ} {nw : Bool} {d t p j : Nat} {a : Nat → Nat → Int32} {b : Nat → Nat → Int64} (ht : t < N) (hp : p < 4840) (hj1 : 1 ≤ j) (hj : j ≤ 7) (hE : EnvM n r a N B Q) (hnw : a 94 39 = bI nw) (u4 u5 : Value) : ∃ u4' u5' a', Den (d+12) 216 10 [.ref 94,.int (iN t),.int (iN p),.int (iN j),u4,u5] [] (zmMk n a b r) = Den (d+12) 216 10 [.ref 94,.int (iN t),.int (iN p),.int (iN (j + 1)),u4',u5'] [] (zmMk n a' b r) ∧ frS scS a a' ∧ MonM a a' (t + 1) ∧ ∀ th, sucA Q nw t p j th → a' 114 (4840 * (t + 1) + th) ≠ iN 0 := by
  have h8 := hE.n8
  have hB := hE.qb
  rw [b216_10]
  by_cases h4 : j = 4
  · refine ⟨u4, u5, a, ?_, frS.refl, MonM.refl rfl, fun th q => absurd h4 q.1⟩
    subst h4
    have hM : isAc (iN 4) = false := by decide
    simp (disch := omega) only [n_add, n_mul, n_in, decide_eq_true_eq, n_nat, n_lt, n_eq, n_sub, if_pos, if_neg, if_true, if_false, Option.bind_some, Option.toList_some, Option.toList_none, List.cons_append, List.nil_append, true_or, or_true, if_true, bI_if, b216_16, m_isAction, hM, b216_20, b216_115, Bool.false_eq_true]
  have hM : isAc (iN j) = true := by
    rcases (by omega : j = 1 ∨ j = 2 ∨ j = 3 ∨ j = 5 ∨ j = 6 ∨ j = 7) with rfl | rfl | rfl | rfl | rfl | rfl <;> decide
  by_cases hw : nw = true → j ≤ 3
  rotate_left
  · refine ⟨u4, u5, a, ?_, frS.refl, MonM.refl rfl, fun th q => absurd q.2.1 hw⟩
    have hw1 : nw = true := Decidable.byContradiction (fun q => hw (fun q2 => absurd q2 q))
    have hw2 : ¬ j ≤ 3 := fun q => hw (fun _ => q)
    subst hw1
    simp (disch := omega) only [n_add, n_mul, n_in, decide_eq_true_eq, n_nat, n_lt, n_eq, n_sub, if_pos, if_neg, if_true, if_false, Option.bind_some, Option.toList_some, Option.toList_none, List.cons_append, List.nil_append, true_or, or_true, if_true, bI_if, b216_16, m_isAction, hM, b216_20, b216_23, hnw, b216_30, b216_115]
  have hgo : Den (d+12) 216 23 [.ref 94,.int (iN t),.int (iN p),.int (iN j),u4,u5] [] (zmMk n a b r) = Den (d+12) 216 35 [.ref 94,.int (iN t),.int (iN p),.int (iN j),u4,u5] [] (zmMk n a b r) := by
    cases hq : nw with
    | false => simp (disch := omega) only [b216_23, hnw, Option.bind_some, Option.toList_some, Option.toList_none, List.cons_append, List.nil_append, true_or, or_true, if_true, bI_if, hq, Bool.false_eq_true, if_false]
    | true =>
      have := hw hq
      simp (disch := omega) only [b216_23, hnw, Option.bind_some, Option.toList_some, Option.toList_none, List.cons_append, List.nil_append, true_or, or_true, if_true, bI_if, hq, b216_30, n_add, n_mul, n_in, decide_eq_true_eq, n_nat, n_lt, n_eq, n_sub, if_pos, if_neg, if_true, if_false]
  obtain ⟨a1, e1, f1⟩ := m_mayBe (d := d+1) (b := b) hE (vt := iN t) (vp := iN p) (va := iN j) rfl rfl rfl (by omega) hp (by omega)
  by_cases hm : mayP Q t p j
  rotate_left
  · refine ⟨u4, u5, a1, ?_, f1.toS, MonM.refl (f1 114 rfl), fun th q => absurd q.2.2.1 hm⟩
    have hd : decide (j = 0 ∨ Q (iN 119) t p j ≤ pB p) = false := decide_eq_false (fun q => q.elim (by omega) hm)
    rw [hd] at e1
    simp (disch := omega) only [n_add, n_mul, n_in, decide_eq_true_eq, n_nat, n_lt, n_eq, n_sub, if_pos, if_neg, if_true, if_false, Option.bind_some, Option.toList_some, Option.toList_none, List.cons_append, List.nil_append, true_or, or_true, if_true, bI_if, b216_16, m_isAction, hM, b216_20, hgo, b216_35, e1, b216_42, b216_45, b216_115, Bool.false_eq_true]
  have hd : decide (j = 0 ∨ Q (iN 119) t p j ≤ pB p) = true := decide_eq_true (Or.inr hm)
  rw [hd] at e1
  have hE1 := hE.fr f1
  obtain ⟨a2, e2, f2⟩ := m_behind (d := d+1) (b := b) hE1 (vt := iN t) (vp := iN p) (va := iN j) rfl rfl rfl (by omega) hp (by omega) hm
  have hnx := behP_lt (Q := Q) (t := t) (act := j) hp
  have hyl := pY_le hnx
  by_cases hy : pY (behP Q t p j) = 0
  · refine ⟨.int (iN (behP Q t p j)), u5, a2, ?_, (f1.trans f2).toS, MonM.refl ((f1.trans f2) 114 rfl), fun th q => ?_⟩
    · simp (disch := omega) only [n_add, n_mul, n_in, decide_eq_true_eq, n_nat, n_lt, n_eq, n_sub, if_pos, if_neg, if_true, if_false, Option.bind_some, Option.toList_some, Option.toList_none, List.cons_append, List.nil_append, true_or, or_true, if_true, bI_if, b216_16, m_isAction, hM, b216_20, hgo, b216_35, e1, b216_42, b216_48, e2, b216_55, m_yardsIn hnx, b216_62, hy, b216_65, b216_115]
    · obtain ⟨-, -, -, sn, q1, -, q2, -⟩ := q
      rw [pY_asP q1] at q2
      exact absurd hy q2
  obtain ⟨a3, e3, f3⟩ := m_seenBy (d := d+1) (b := b) (hE1.fr f2) (vt := iN t) (vp := iN p) (va := iN j) rfl rfl rfl (by omega) hp (by omega)
  have hs := senP_le hB t p j
  have f13 := (f1.trans f2).trans f3
  have head : (if iN j < iN 8 then Den (d+12) 216 16 [.ref 94,.int (iN t),.int (iN p),.int (iN j),u4,u5] [] (zmMk n a b r) else Den (d+12) 216 121 [.ref 94,.int (iN t),.int (iN p),.int (iN j),u4,u5] [] (zmMk n a b r)) = Den (d+12) 216 75 [.ref 94,.int (iN t),.int (iN p),.int (iN j),.int (iN (behP Q t p j)),u5] [.int (iN (senP Q t p j))] (zmMk n a3 b r) := by
    simp (disch := omega) only [n_add, n_mul, n_in, decide_eq_true_eq, n_nat, n_lt, n_eq, n_sub, if_pos, if_neg, if_true, if_false, Option.bind_some, Option.toList_some, Option.toList_none, List.cons_append, List.nil_append, true_or, or_true, if_true, bI_if, b216_16, m_isAction, hM, b216_20, hgo, b216_35, e1, b216_42, b216_48, e2, b216_55, m_yardsIn hnx, b216_62, hy, b216_68, e3]
  rw [head]
  have h0l := asP_lt (s := 0) hnx (by omega)
  have h1l := asP_lt (s := 1) hnx (by omega)
  by_cases hs10 : senP Q t p j = 10
  · refine ⟨.int (iN (behP Q t p j)), .int (iN (senP Q t p j)), uI a3 114 (4840 * (t + 1) + asP (behP Q t p j) 1) (iN 1), ?_, f13.toS.put rfl, (MonM.refl (f13 114 rfl)).put h1l, fun th q => ?_⟩
    · simp (disch := omega) only [n_add, n_mul, n_in, decide_eq_true_eq, n_nat, n_lt, n_eq, n_sub, if_pos, if_neg, if_true, if_false, Option.bind_some, Option.toList_some, Option.toList_none, List.cons_append, List.nil_append, true_or, or_true, if_true, bI_if, b216_75, hs10, b216_97, b216_102, m_asSeen hnx, b216_112, m_marks rfl rfl _ h1l, b216_115]
    · obtain ⟨-, -, -, sn, q1, q2, -, q3⟩ := q
      rcases (by omega : sn = 0 ∨ sn = 1) with rfl | rfl
      · rw [hs10] at q2; exact absurd rfl q2
      · rw [q3, uI_at, if_pos ⟨rfl, rfl⟩]; decide
  · by_cases hs0 : senP Q t p j = 0
    · refine ⟨.int (iN (behP Q t p j)), .int (iN (senP Q t p j)), uI a3 114 (4840 * (t + 1) + asP (behP Q t p j) 0) (iN 1), ?_, f13.toS.put rfl, (MonM.refl (f13 114 rfl)).put h0l, fun th q => ?_⟩
      · simp (disch := omega) only [n_add, n_mul, n_in, decide_eq_true_eq, n_nat, n_lt, n_eq, n_sub, if_pos, if_neg, if_true, if_false, Option.bind_some, Option.toList_some, Option.toList_none, List.cons_append, List.nil_append, true_or, or_true, if_true, bI_if, b216_75, hs0, b216_84, b216_97, m_asSeen hnx, b216_94, m_marks rfl rfl _ h0l, b216_115]
      · obtain ⟨-, -, -, sn, q1, q2, -, q3⟩ := q
        rcases (by omega : sn = 0 ∨ sn = 1) with rfl | rfl
        · rw [q3, uI_at, if_pos ⟨rfl, rfl⟩]; decide
        · rw [hs0] at q2; exact absurd rfl q2
    · refine ⟨.int (iN (behP Q t p j)), .int (iN (senP Q t p j)), uI (uI a3 114 (4840 * (t + 1) + asP (behP Q t p j) 0) (iN 1)) 114 (4840 * (t + 1) + asP (behP Q t p j) 1) (iN 1), ?_, (f13.toS.put rfl).put rfl, ((MonM.refl (f13 114 rfl)).put h0l).put h1l, fun th q => ?_⟩
      · simp (disch := omega) only [n_add, n_mul, n_in, decide_eq_true_eq, n_nat, n_lt, n_eq, n_sub, if_pos, if_neg, if_true, if_false, Option.bind_some, Option.toList_some, Option.toList_none, List.cons_append, List.nil_append, true_or, or_true, if_true, bI_if, b216_75, b216_84, b216_97, m_asSeen hnx, b216_94, m_marks rfl rfl _ h0l, b216_102, b216_112, m_marks rfl rfl _ h1l, b216_115]
      · obtain ⟨-, -, -, sn, q1, q2, -, q3⟩ := q
        rcases (by omega : sn = 0 ∨ sn = 1) with rfl | rfl
        · rw [q3, uI_at]
          split
          · decide
          · rw [uI_at, if_pos ⟨rfl, rfl⟩]; decide
        · rw [q3, uI_at, if_pos ⟨rfl, rfl⟩]; decide
/-- what has to be marked behind a marked place -/
def clsM (Q : AQ) (nw : Bool) (a : Nat → Nat → Int32) (s q : Nat) : Prop := pY q ≠ 0 → ∀ act, 1 ≤ act → act ≤ 7 → ∀ th, sucA Q nw s q act th → a 114 (4840 * (s + 1) + th) ≠ iN 0
theorem m_spreads {n N B : Nat} {r : Nat → Nat → Option Nat} {Q : AQ} {nw : Bool} {d t p : Nat} {vt vp : Int32} {a : Nat → Nat → Int32} {b : Nat → Nat → Int64} (et : vt = iN t) (ep : vp = iN p) (ht : t < N) (hp : p < 4840) (hE : EnvM n r a N B Q) (hnw : a 94 39 = bI nw) : ∃ a', Den (d+12) 216 0 [.ref 94, .int vt, .int vp, zmJ, zmJ, zmJ] [] (zmMk n a b r) = some (none, zmMk n a' b r) ∧ frS scS a a' ∧ MonM a a' (t + 1) ∧ clsM Q nw a' t p := by
  subst et ep
  have hyl := pY_le hp
  have h8 := hE.n8
  by_cases hy : pY p = 0
  · refine ⟨a, ?_, frS.refl, MonM.refl rfl, fun q => absurd hy q⟩
    simp (disch := omega) only [b216_0, m_yardsIn hp, Option.bind_some, Option.toList_some, Option.toList_none, List.cons_append, List.nil_append, true_or, or_true, if_true, bI_if, b216_4, hy, b216_7]
  · have key : ∀ k j (u4 u5 : Value) (a : Nat → Nat → Int32), 1 ≤ j → j + k = 8 → EnvM n r a N B Q → a 94 39 = bI nw → ∃ a', Den (d+12) 216 10 [.ref 94,.int (iN t),.int (iN p),.int (iN j),u4,u5] [] (zmMk n a b r) = some (none, zmMk n a' b r) ∧ frS scS a a' ∧ MonM a a' (t + 1) ∧ ∀ act, j ≤ act → act ≤ 7 → ∀ th, sucA Q nw t p act th → a' 114 (4840 * (t + 1) + th) ≠ iN 0 := by
      intro k
      induction k with
      | zero =>
        intro j u4 u5 a h1 hj hE hnw
        refine ⟨a, ?_, frS.refl, MonM.refl rfl, fun act q1 q2 => absurd q1 (by omega)⟩
        rw [b216_10]
        simp (disch := omega) only [n_add, n_mul, n_in, decide_eq_true_eq, n_nat, n_lt, n_eq, n_sub, if_pos, if_neg, if_true, if_false, b216_121]
      | succ k ih =>
        intro j u4 u5 a h1 hj hE hnw
        obtain ⟨v4, v5, a1, e1, f1, m1, c1⟩ := m_spread1 (d := d) (b := b) ht hp h1 (by omega) hE hnw u4 u5
        obtain ⟨a2, e2, f2, m2, c2⟩ := ih (j + 1) v4 v5 a1 (by omega) (by omega) (hE.ag (f1.ag dpM_scS)) (by rw [f1 94 rfl]; exact hnw)
        refine ⟨a2, e1.trans e2, f1.trans f2, m1.trans m2, fun act q1 q2 th hs => ?_⟩
        rcases Nat.lt_or_ge j act with q | q
        · exact c2 act (by omega) q2 th hs
        · have : act = j := by omega
          rw [this] at hs
          exact m2.mk (c1 th hs)
    obtain ⟨a1, e1, f1, m1, c1⟩ := key 7 1 zmJ zmJ a (by omega) (by omega) hE hnw
    refine ⟨a1, ?_, f1, m1, fun _ act q1 q2 th hs => c1 act q1 q2 th hs⟩
    simp (disch := omega) only [b216_0, m_yardsIn hp, Option.bind_some, Option.toList_some, Option.toList_none, List.cons_append, List.nil_append, true_or, or_true, if_true, bI_if, b216_4, n_add, n_mul, n_in, decide_eq_true_eq, n_nat, n_lt, n_eq, n_sub, if_pos, if_neg, if_true, if_false, hy, b216_8, e1]
/-- the ACTION of BEST as the reference tells it -/
def actI (Q : AQ) (N B : Nat) (nw : Bool) (s q : Nat) : Int32 := if pY q = 0 ∨ s = N then -1 else iN (AB Q B nw (N - s - 1) s q)
def scA (k : Nat) : Bool := scM k || Nat.beq k 116
theorem dpM_scA (k j : Nat) (h : dpM k j = true) : scA k = false := by
  unfold scA
  rw [dpM_scM k j h]
  cases h3 : Nat.beq k 116 with
  | true => rw [Nat.eq_of_beq_eq_true h3] at h; simp [dpM, dpMA] at h
  | false => rfl
theorem frS.toSA {a a' : Nat → Nat → Int32} (h : frM a a') : frS scA a a' := fun k hk => h k (by unfold scA at hk; exact (Bool.or_eq_false_iff.mp hk).1)
theorem frS.SAtoS {a a' : Nat → Nat → Int32} (h : frS scA a a') : frS scS a a' := fun k hk => h k (by
  unfold scS at hk
  unfold scA
  rw [(Bool.or_eq_false_iff.mp hk).1, (Bool.or_eq_false_iff.mp (Bool.or_eq_false_iff.mp hk).2).2]
  rfl)
theorem i8n {k : Nat} (h : k < 8) : Int8.toInt32 (Int32.toInt8 (iN k)) = iN k := by
  rcases (by omega : k = 0 ∨ k = 1 ∨ k = 2 ∨ k = 3 ∨ k = 4 ∨ k = 5 ∨ k = 6 ∨ k = 7) with rfl | rfl | rfl | rfl | rfl | rfl | rfl | rfl <;> decide
theorem i8m : Int8.toInt32 (Int32.toInt8 (-1)) = -1 := by decide
set_option maxHeartbeats 1000000 in
theorem m_solvesLoop {n N B m : Nat} {r : Nat → Nat → Option Nat} {Q : AQ} {nw : Bool} {d t p : Nat} (ht : t + m + 1 = N) (hp : p < 4840) (k : Nat) : ∀ (j : Nat) (u5 : Value) {a : Nat → Nat → Int32} {b : Nat → Nat → Int64} (_ : j + k = 7) (_ : EnvM n r a N B Q) (_ : a 94 39 = bI nw) (_ : ∀ act, act < 8 → act ≠ 4 → (nw = true → act ≤ 3) → act ≠ 0 → mayP Q t p act → ∀ sn, sn ≤ 1 → needM b Q B (VB Q B nw m (t + 1)) t (behP Q t p act) (senP Q t p act) sn) (_ : b 115 (4840 * t + p) = ((foldB Q B nw (hun m) (VB Q B nw m (t + 1)) t p j)).1) (_ : a 116 (4840 * t + p) = iN ((foldB Q B nw (hun m) (VB Q B nw m (t + 1)) t p j)).2), ∃ a' b', Den (d+14) 218 92 [.ref 94,.int (iN t),.int (iN p),.int (iN (4840 * t + p)),.int (iN (j + 1)),u5,zmJ] [] (zmMk n a b r) = some (none, zmMk n a' b' r) ∧ frS scA a a' ∧ frL scSL b b' ∧ (∀ i, i ≠ 4840 * t + p → a' 116 i = a 116 i ∧ b' 115 i = b 115 i) ∧ b' 115 (4840 * t + p) = ((foldB Q B nw (hun m) (VB Q B nw m (t + 1)) t p 7)).1 ∧ a' 116 (4840 * t + p) = iN ((foldB Q B nw (hun m) (VB Q B nw m (t + 1)) t p 7)).2 := by
  induction k with
  | zero =>
    intro j u5 a b hj hE hnw hN h1 h2
    have h8 := hE.n8
    obtain rfl : j = 7 := by omega
    refine ⟨a, b, ?_, frS.refl, frL.refl, fun i _ => ⟨rfl, rfl⟩, h1, h2⟩
    rw [b218_92]
    simp (disch := omega) only [n_add, n_mul, n_in, decide_eq_true_eq, n_nat, n_lt, n_eq, n_sub, if_pos, if_neg, if_true, if_false, b218_182]
  | succ k ih =>
    intro j u5 a b hj hE hnw hN h1 h2
    have h8 := hE.n8
    have hi : 4840 * t + p < 43560 := by omega
    have key : ∃ u' a' b', Den (d+14) 218 92 [.ref 94,.int (iN t),.int (iN p),.int (iN (4840 * t + p)),.int (iN (j + 1)),u5,zmJ] [] (zmMk n a b r) = Den (d+14) 218 92 [.ref 94,.int (iN t),.int (iN p),.int (iN (4840 * t + p)),.int (iN (j + 1 + 1)),u',zmJ] [] (zmMk n a' b' r) ∧ frS scA a a' ∧ frL scSL b b' ∧ (∀ i, i ≠ 4840 * t + p → a' 116 i = a 116 i ∧ b' 115 i = b 115 i) ∧ b' 115 (4840 * t + p) = (stepB Q B nw (hun m) (VB Q B nw m (t + 1)) t p (foldB Q B nw (hun m) (VB Q B nw m (t + 1)) t p j) (j + 1)).1 ∧ a' 116 (4840 * t + p) = iN (stepB Q B nw (hun m) (VB Q B nw m (t + 1)) t p (foldB Q B nw (hun m) (VB Q B nw m (t + 1)) t p j) (j + 1)).2 := by
      generalize (foldB Q B nw (hun m) (VB Q B nw m (t + 1)) t p j) = x at h1 h2 ⊢
      rw [b218_92]
      by_cases h4 : j + 1 = 4
      · refine ⟨u5, a, b, ?_, frS.refl, frL.refl, fun i _ => ⟨rfl, rfl⟩, ?_⟩
        · have hM : isAc (iN (j + 1)) = false := by rw [h4]; decide
          simp (disch := omega) only [n_add, n_mul, n_in, decide_eq_true_eq, n_nat, n_lt, n_eq, n_sub, if_pos, if_neg, if_true, if_false, Option.bind_some, Option.toList_some, Option.toList_none, List.cons_append, List.nil_append, true_or, or_true, if_true, bI_if, b218_99, m_isAction, hM, b218_104, b218_176, Bool.false_eq_true]
        · unfold stepB
          rw [if_neg (fun q => q.1 h4)]
          exact ⟨h1, h2⟩
      have hM : isAc (iN (j + 1)) = true := by
        rcases (by omega : j = 0 ∨ j = 1 ∨ j = 2 ∨ j = 4 ∨ j = 5 ∨ j = 6) with rfl | rfl | rfl | rfl | rfl | rfl <;> decide
      by_cases hw : nw = true → j + 1 ≤ 3
      rotate_left
      · have hw1 : nw = true := Decidable.byContradiction (fun q => hw (fun q2 => absurd q2 q))
        have hw2 : ¬ j + 1 ≤ 3 := fun q => hw (fun _ => q)
        refine ⟨u5, a, b, ?_, frS.refl, frL.refl, fun i _ => ⟨rfl, rfl⟩, ?_⟩
        · subst hw1
          simp (disch := omega) only [n_add, n_mul, n_in, decide_eq_true_eq, n_nat, n_lt, n_eq, n_sub, if_pos, if_neg, if_true, if_false, Option.bind_some, Option.toList_some, Option.toList_none, List.cons_append, List.nil_append, true_or, or_true, if_true, bI_if, b218_99, m_isAction, hM, b218_104, b218_107, hnw, b218_114, b218_176]
        · unfold stepB
          rw [if_neg (fun q => hw q.2.1)]
          exact ⟨h1, h2⟩
      have hgo : Den (d+14) 218 107 [.ref 94,.int (iN t),.int (iN p),.int (iN (4840 * t + p)),.int (iN (j + 1)),u5,zmJ] [] (zmMk n a b r) = Den (d+14) 218 120 [.ref 94,.int (iN t),.int (iN p),.int (iN (4840 * t + p)),.int (iN (j + 1)),u5,zmJ] [] (zmMk n a b r) := by
        cases hq : nw with
        | false => simp (disch := omega) only [b218_107, hnw, Option.bind_some, Option.toList_some, Option.toList_none, List.cons_append, List.nil_append, true_or, or_true, if_true, bI_if, hq, Bool.false_eq_true, if_false]
        | true =>
          have := hw hq
          simp (disch := omega) only [b218_107, hnw, Option.bind_some, Option.toList_some, Option.toList_none, List.cons_append, List.nil_append, true_or, or_true, if_true, bI_if, hq, b218_114, n_add, n_mul, n_in, decide_eq_true_eq, n_nat, n_lt, n_eq, n_sub, if_pos, if_neg, if_true, if_false]
      obtain ⟨a1, e1, f1⟩ := m_mayBe (d := d+3) (b := b) hE (vt := iN t) (vp := iN p) (va := iN (j + 1)) rfl rfl rfl (by omega) hp (by omega)
      by_cases hm : mayP Q t p (j + 1)
      rotate_left
      · have hd : decide (j + 1 = 0 ∨ Q (iN 119) t p (j + 1) ≤ pB p) = false := decide_eq_false (fun q => q.elim (by omega) hm)
        rw [hd] at e1
        refine ⟨u5, a1, b, ?_, f1.toSA, frL.refl, fun i _ => ⟨by rw [f1 116 rfl], rfl⟩, ?_⟩
        · simp (disch := omega) only [n_add, n_mul, n_in, decide_eq_true_eq, n_nat, n_lt, n_eq, n_sub, if_pos, if_neg, if_true, if_false, Option.bind_some, Option.toList_some, Option.toList_none, List.cons_append, List.nil_append, true_or, or_true, if_true, bI_if, b218_99, m_isAction, hM, b218_104, hgo, b218_120, e1, b218_128, b218_131, b218_176, Bool.false_eq_true]
        · unfold stepB
          rw [if_neg (fun q => hm q.2.2.1), f1 116 rfl]
          exact ⟨h1, h2⟩
      have hd : decide (j + 1 = 0 ∨ Q (iN 119) t p (j + 1) ≤ pB p) = true := decide_eq_true (Or.inr hm)
      rw [hd] at e1
      obtain ⟨a2, e2, f2⟩ := m_valueBy (d := d+1) (vt := iN t) (vp := iN p) (va := iN (j + 1)) ht rfl rfl rfl hp (by omega) (hE.fr f1) (Or.inr hm) (hN (j + 1) (by omega) h4 hw · hm)
      have f12 := f1.trans f2
      by_cases hv : x.1 < worthV Q B (hun m) (VB Q B nw m (t + 1)) t p (j + 1)
      · refine ⟨.long (worthV Q B (hun m) (VB Q B nw m (t + 1)) t p (j + 1)), uI a2 116 (4840 * t + p) (iN (j + 1)), uL b 115 (4840 * t + p) (worthV Q B (hun m) (VB Q B nw m (t + 1)) t p (j + 1)), ?_, f12.toSA.put rfl, frL.refl.put rfl, fun i hne => ⟨?_, ?_⟩, ?_⟩
        · simp (disch := omega) only [n_add, n_mul, n_in, decide_eq_true_eq, n_nat, n_lt, n_eq, n_sub, if_pos, if_neg, if_true, if_false, Option.bind_some, Option.toList_some, Option.toList_none, List.cons_append, List.nil_append, true_or, or_true, if_true, bI_if, b218_99, m_isAction, hM, b218_104, hgo, b218_120, e1, b218_128, b218_134, e2, b218_142, b218_152, h1, cmp_pos, hv, b218_159, b218_167, i8n, b218_176]
        · rw [uI_at, if_neg (fun q => hne q.2), f12 116 rfl]
        · rw [uL_at, if_neg (fun q => hne q.2)]
        · unfold stepB
          rw [if_pos ⟨h4, hw, hm, hv⟩, uI_at, if_pos ⟨rfl, rfl⟩, uL_at, if_pos ⟨rfl, rfl⟩]
          exact ⟨rfl, rfl⟩
      · refine ⟨.long (worthV Q B (hun m) (VB Q B nw m (t + 1)) t p (j + 1)), a2, b, ?_, f12.toSA, frL.refl, fun i hne => ⟨by rw [f12 116 rfl], rfl⟩, ?_⟩
        · simp (disch := omega) only [n_add, n_mul, n_in, decide_eq_true_eq, n_nat, n_lt, n_eq, n_sub, if_pos, if_neg, if_true, if_false, Option.bind_some, Option.toList_some, Option.toList_none, List.cons_append, List.nil_append, true_or, or_true, if_true, bI_if, b218_99, m_isAction, hM, b218_104, hgo, b218_120, e1, b218_128, b218_134, e2, b218_142, b218_152, h1, cmp_pos, hv, b218_156, b218_176]
        · unfold stepB
          rw [if_neg (fun q => hv q.2.2.2), f12 116 rfl]
          exact ⟨h1, h2⟩
    obtain ⟨u1, a1, b1, e1, f1, l1, o1, v1, w1⟩ := key
    obtain ⟨a2, b2, e2, f2, l2, o2, v2, w2⟩ := ih (j + 1) u1 (by omega) (hE.ag (f1.ag dpM_scA)) (by rw [f1 94 rfl]; exact hnw) (fun act q1 q2 q3 q4 q5 sn q6 => by
      have h := hN act q1 q2 q3 q4 q5 sn q6
      unfold needM at h ⊢
      have hb := behP_lt (Q := Q) (t := t) (act := act) hp
      have hb2 := asP_lt hb q6
      rw [(o1 (4840 * (t + 1) + asP (behP Q t p act) sn) (by omega)).2]
      exact h) v1 w1
    exact ⟨a2, b2, e1.trans e2, f1.trans f2, l1.trans l2, fun i hne => ⟨(o2 i hne).1.trans (o1 i hne).1, (o2 i hne).2.trans (o1 i hne).2⟩, v2, w2⟩
