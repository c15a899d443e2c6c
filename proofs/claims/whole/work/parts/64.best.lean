/-! ===== BEST: what it is, and the class's BEST with its table ===== -/
def partV (Q : AQ) (B : Nat) (pw : Int64) (F : Nat → Int64) (t nx s sn : Nat) : Int64 :=
  if (if sn = 1 then s else 10 - s) = 0 then 0
  else if pY (asP nx sn) = 0 then 10 * jN (if sn = 1 then s else 10 - s) * jN (Q (iN 118) t (asP nx sn) 0) * pw
  else -(jN (if sn = 1 then s else 10 - s) * jN (gonP Q B t (asP nx sn)) * jN (Q (iN 109) t (asP nx sn) 0) * pw) + jN (if sn = 1 then s else 10 - s) * jN (10 - gonP Q B t (asP nx sn)) * F (asP nx sn)
/-- the VALUE of an ACTION, what comes behind it being F -/
def worthV (Q : AQ) (B : Nat) (pw : Int64) (F : Nat → Int64) (t p act : Nat) : Int64 :=
  if act = 0 then -100 * jN (Q (iN 108) t p 0) * pw
  else 0 + partV Q B pw F t (behP Q t p act) (senP Q t p act) 0 + partV Q B pw F t (behP Q t p act) (senP Q t p act) 1
def stepB (Q : AQ) (B : Nat) (nw : Bool) (pw : Int64) (F : Nat → Int64) (t p : Nat) (x : Int64 × Nat) (act : Nat) : Int64 × Nat :=
  if act ≠ 4 ∧ (nw = true → act ≤ 3) ∧ mayP Q t p act ∧ x.1 < worthV Q B pw F t p act then (worthV Q B pw F t p act, act) else x
/-- the best of the ACTIONS up to j -/
def foldB (Q : AQ) (B : Nat) (nw : Bool) (pw : Int64) (F : Nat → Int64) (t p : Nat) : Nat → Int64 × Nat
  | 0 => (worthV Q B pw F t p 0, 0)
  | j + 1 => stepB Q B nw pw F t p (foldB Q B nw pw F t p j) (j + 1)
/-- BEST with m STEPS left -/
def VB (Q : AQ) (B : Nat) (nw : Bool) : Nat → Nat → Nat → Int64
  | 0, t, p => if pY p = 0 then jN (Q (iN 118) t p 0) else -(jN (Q (iN 109) t p 0))
  | m + 1, t, p => if pY p = 0 then jN (Q (iN 118) t p 0) * hun (m + 1) else (foldB Q B nw (hun m) (VB Q B nw m (t + 1)) t p 7).1
def AB (Q : AQ) (B : Nat) (nw : Bool) (m t p : Nat) : Nat := (foldB Q B nw (hun m) (VB Q B nw m (t + 1)) t p 7).2
theorem foldB_nw {Q : AQ} {B : Nat} {pw : Int64} {F : Nat → Int64} {t p j : Nat} (h : 3 ≤ j) : foldB Q B true pw F t p j = foldB Q B true pw F t p 3 := by
  induction j with
  | zero => omega
  | succ j ih =>
    rcases Nat.lt_or_ge j 3 with h2 | h2
    · rw [show j + 1 = 3 by omega]
    · show stepB Q B true pw F t p _ (j + 1) = _
      unfold stepB
      rw [if_neg (fun q => absurd (q.2.1 rfl) (by omega)), ih h2]
theorem foldB_le {Q : AQ} {B : Nat} {nw : Bool} {pw : Int64} {F : Nat → Int64} {t p j : Nat} : (foldB Q B nw pw F t p j).2 ≤ j := by
  induction j with
  | zero => exact Nat.le_refl _
  | succ j ih =>
    show (stepB Q B nw pw F t p _ (j + 1)).2 ≤ _
    unfold stepB
    split
    · exact Nat.le_refl _
    · exact Nat.le_succ_of_le ih
def bB (B mn : Nat) : Nat := if mn = 2 then B + 1 else B
def nW (mn : Nat) : Bool := decide (mn = 1)
/-- the table of BEST: what is marked by what holds now is right -/
def BestOk (N B : Nat) (Q : AQ) (mn : Nat) (a : Nat → Nat → Int32) (b : Nat → Nat → Int64) : Prop := a 52 3 = iN mn ∧ ∃ A, a 29 6 = iN A ∧ A ≤ 100000 ∧ ∀ t p, t < 8 → p < 4840 → ∃ m c, c < 8 ∧ m ≤ 3 * A + 3 ∧ a 54 (t * 4840 + p) = iN (8 * m + c) ∧ ∀ k, k < 3 → m = 3 * A + k + 1 → b 53 (t * 4840 + p) = VB Q (bB B k) (nW k) (N - t) t p ∧ c = AB Q (bB B k) (nW k) (N - t - 1) t p
def scB (k : Nat) : Bool := scC k || Nat.beq k 54
theorem frS.toB {a a' : Nat → Nat → Int32} (h : frC a a') : frS scB a a' := fun k hk => h k (by unfold scB at hk; exact (Bool.or_eq_false_iff.mp hk).1)
theorem dpC_scB (k j : Nat) (h : dpC k j = true) : scB k = false := by
  unfold scB
  rw [dpC_scC k j h]
  cases h2 : Nat.beq k 54 with
  | false => rfl
  | true => rw [Nat.eq_of_beq_eq_true h2] at h; cases j <;> simp [dpC, dpA] at h
theorem BestOk.fr {N B mn : Nat} {Q : AQ} {a a' : Nat → Nat → Int32} {b : Nat → Nat → Int64} (h : BestOk N B Q mn a b) (hf : frC a a') : BestOk N B Q mn a' b := by
  unfold BestOk
  rw [hf 52 rfl, hf 29 rfl, hf 54 rfl]
  exact h
def frL (S : Nat → Bool) (b b' : Nat → Nat → Int64) : Prop := ∀ k, S k = false → b' k = b k
theorem frL.refl {S : Nat → Bool} {b : Nat → Nat → Int64} : frL S b b := fun _ _ => rfl
theorem frL.trans {S : Nat → Bool} {a a1 a2 : Nat → Nat → Int64} (h : frL S a a1) (h2 : frL S a1 a2) : frL S a a2 := fun k hp => (h2 k hp).trans (h k hp)
def scBL (k : Nat) : Bool := Nat.beq k 53
theorem TabC.frB {b b' : Nat → Nat → Int64} (h : TabC b) (hf : frL scBL b b') : TabC b' := h.fr (hf 2 rfl) (hf 3 rfl)
/-- BEST of the class with m STEPS left, as a premise -/
def ValC (n : Nat) (r : Nat → Nat → Option Nat) (N B : Nat) (Q : AQ) (mn m : Nat) : Prop := ∀ (d t p : Nat) (vt vp : Int32) (a : Nat → Nat → Int32) (b : Nat → Nat → Int64), t + m = N → vt = iN t → vp = iN p → p < 4840 → EnvC n r a N (bB B mn) Q → BestOk N B Q mn a b → TabC b → ∃ a' b', Den (d+2*m+14) 2 0 [.ref 52, .int vt, .int vp, zmJ, zmJ, zmJ, zmJ, zmJ, zmJ, zmJ, zmJ, zmJ, zmJ] [] (zmMk n a b r) = some (some (.long (VB Q (bB B mn) (nW mn) m t p)), zmMk n a' b' r) ∧ BestOk N B Q mn a' b' ∧ frS scB a a' ∧ frL scBL b b' ∧ (0 < m → pY p ≠ 0 → ∃ A, a' 29 6 = iN A ∧ A ≤ 100000 ∧ a' 54 (t * 4840 + p) = iN (8 * (A * 3 + mn + 1) + AB Q (bB B mn) (nW mn) (m - 1) t p))
set_option maxHeartbeats 1000000 in
theorem c_worthPart {n N B mn m : Nat} {r : Nat → Nat → Option Nat} {Q : AQ} (hV : ValC n r N B Q mn m) {d t p act nx s sn : Nat} {a : Nat → Nat → Int32} {b : Nat → Nat → Int64} (ht : t + m + 1 = N) (hsn : sn ≤ 1) (hs : s ≤ 10) (hnx : nx < 4840) (hc : sn = 0 → s < 10 → pS nx = 0) (hE : EnvC n r a N (bB B mn) Q) (hK : BestOk N B Q mn a b) (hT : TabC b) (u11 u13 u14 : Value) (w : Int64) : ∃ u11' u13' u14' a' b', Den (d+2*m+15) 4 87 [.ref 52,.int (iN t),.int (iN p),.int (iN act),.long (hun m),zmJ,.int (iN nx),.int (iN s),.long w,zmJ,.int (iN sn),u11,zmJ,u13,u14] [] (zmMk n a b r) = Den (d+2*m+15) 4 87 [.ref 52,.int (iN t),.int (iN p),.int (iN act),.long (hun m),zmJ,.int (iN nx),.int (iN s),.long (w + partV Q (bB B mn) (hun m) (VB Q (bB B mn) (nW mn) m (t + 1)) t nx s sn),zmJ,.int (iN (sn + 1)),u11',zmJ,u13',u14'] [] (zmMk n a' b' r) ∧ BestOk N B Q mn a' b' ∧ frS scB a a' ∧ frL scBL b b' := by
  have h8 := hE.n8
  have e1 : ∃ c th, c = (if sn = 1 then s else 10 - s) ∧ (¬ c = 0 → th = asP nx sn) ∧ Den (d+2*m+15) 4 87 [.ref 52,.int (iN t),.int (iN p),.int (iN act),.long (hun m),zmJ,.int (iN nx),.int (iN s),.long w,zmJ,.int (iN sn),u11,zmJ,u13,u14] [] (zmMk n a b r) = Den (d+2*m+15) 4 128 [.ref 52,.int (iN t),.int (iN p),.int (iN act),.long (hun m),zmJ,.int (iN nx),.int (iN s),.long w,zmJ,.int (iN sn),(.long (jN c)),zmJ,u13,u14] [.int (iN th)] (zmMk n a b r) := by
    rcases (by omega : sn = 0 ∨ sn = 1) with rfl | rfl
    · refine ⟨10 - s, nx, rfl, fun h => ?_, ?_⟩
      · have h2 := hc rfl (by omega)
        have h3 := asP_self (p := nx)
        rw [h2] at h3
        exact h3.symm
      · rw [b4_87]
        simp (disch := omega) only [n_lt, n_eq, if_true, if_false, b4_93, b4_105, b4_111, b4_126, n_sub, l_of, Nat.zero_lt_succ, Nat.zero_ne_one]
    · refine ⟨s, asP nx 1, rfl, fun _ => rfl, ?_⟩
      rw [b4_87]
      simp (disch := omega) only [n_lt, n_eq, if_true, if_false, b4_93, b4_99, b4_111, b4_119, n_or2 hnx, l_of, if_pos]
  obtain ⟨c, th, hc1, hth, e1⟩ := e1
  have hcb : c ≤ 10 := by rw [hc1]; split <;> omega
  rw [e1]
  unfold partV
  rw [← hc1]
  by_cases h0 : c = 0
  · refine ⟨.long (jN c), .int (iN th), u14, a, b, ?_, hK, frS.refl, frL.refl⟩
    simp (disch := omega) only [b4_128, cmp_pos, l_pos, b4_184, b4_283, n_add]
    rw [if_neg (by omega), if_neg (by omega), if_pos h0]
    simp
  · have hth := hth h0
    subst hth
    rw [if_neg h0]
    have hthl : asP nx sn < 4840 := asP_lt hnx hsn
    obtain ⟨⟨TT, hTT, h29, hA⟩, -, -, -, -, -, hB⟩ := id hE
    by_cases hy : pY (asP nx sn) = 0
    · obtain ⟨a1, e2, f1⟩ := hA (d+2*m+5) a b (iN 118) _ _ _ t (asP nx sn) 0 agD.refl rfl rfl rfl rfl (by omega) hthl (by omega)
      refine ⟨.long (jN c), .int (iN (asP nx sn)), u14, a1, b, ?_, hK.fr f1, f1.toB, frL.refl⟩
      rw [if_pos hy]
      have hv := hB.v t (asP nx sn) 0
      simp (disch := omega) only [b4_128, cmp_pos, l_pos, b4_137, c_yardsAt hthl, Option.bind_some, Option.toList_some, Option.toList_none, List.cons_append, List.nil_append, true_or, or_true, if_true, bI_if, b4_142, hy, b4_145 h29 hTT, e2, b4_173, b4_283, n_add, l_of, Nat.pos_of_ne_zero h0]
    · have hyl := pY_le hthl
      obtain ⟨a1, e2, f1⟩ := c_tenthsGone (d := d+2*m+4) (b := b) hE (vt := iN t) (vp := iN (asP nx sn)) rfl rfl (by omega) hthl
      have hg := gonP_le hB (bB B mn) t (asP nx sn)
      have hE1 := hE.fr f1
      have hK1 := hK.fr f1
      have e3 : ∃ a2, Den (d+2*m+15) 4 201 [.ref 52,.int (iN t),.int (iN p),.int (iN act),.long (hun m),zmJ,.int (iN nx),.int (iN s),.long w,zmJ,.int (iN sn),(.long (jN c)),zmJ,(.int (iN (asP nx sn))),u14] [.int (iN (gonP Q (bB B mn) t (asP nx sn)))] (zmMk n a1 b r) = Den (d+2*m+15) 4 245 [.ref 52,.int (iN t),.int (iN p),.int (iN act),.long (hun m),zmJ,.int (iN nx),.int (iN s),.long w,zmJ,.int (iN sn),(.long (jN c)),zmJ,(.int (iN (asP nx sn))),(.int (iN (gonP Q (bB B mn) t (asP nx sn))))] [.long (jN c * jN (gonP Q (bB B mn) t (asP nx sn)) * jN (Q (iN 109) t (asP nx sn) 0) * hun m), .long w] (zmMk n a2 b r) ∧ frC a1 a2 := by
        by_cases hg0 : gonP Q (bB B mn) t (asP nx sn) = 0
        · refine ⟨a1, ?_, frS.refl⟩
          rw [hg0]
          simp only [b4_201, if_true, b4_210]
          rw [jN_0]
          simp
        · obtain ⟨a2, e4, f2⟩ := hA (d+2*m+5) a1 b (iN 109) _ _ _ t (asP nx sn) 0 f1.dpA rfl rfl rfl rfl (by omega) hthl (by omega)
          have hv := hB.m t (asP nx sn) 0
          refine ⟨a2, ?_, f2⟩
          simp (disch := omega) only [b4_201, n_eq, hg0, if_false, b4_214 h29 hTT, e4, Option.bind_some, Option.toList_some, Option.toList_none, List.cons_append, List.nil_append, true_or, or_true, if_true, bI_if, b4_240, l_of]
      obtain ⟨a2, e3, f2⟩ := e3
      have hE2 := hE1.fr f2
      have hK2 := hK1.fr f2
      have e5 : ∃ a3 b3, Den (d+2*m+15) 4 245 [.ref 52,.int (iN t),.int (iN p),.int (iN act),.long (hun m),zmJ,.int (iN nx),.int (iN s),.long w,zmJ,.int (iN sn),(.long (jN c)),zmJ,(.int (iN (asP nx sn))),(.int (iN (gonP Q (bB B mn) t (asP nx sn))))] [.long (jN c * jN (gonP Q (bB B mn) t (asP nx sn)) * jN (Q (iN 109) t (asP nx sn) 0) * hun m), .long w] (zmMk n a2 b r) = Den (d+2*m+15) 4 280 [.ref 52,.int (iN t),.int (iN p),.int (iN act),.long (hun m),zmJ,.int (iN nx),.int (iN s),.long (w - jN c * jN (gonP Q (bB B mn) t (asP nx sn)) * jN (Q (iN 109) t (asP nx sn) 0) * hun m),zmJ,.int (iN sn),(.long (jN c)),zmJ,(.int (iN (asP nx sn))),(.int (iN (gonP Q (bB B mn) t (asP nx sn))))] [.long (jN c * jN (10 - gonP Q (bB B mn) t (asP nx sn)) * VB Q (bB B mn) (nW mn) m (t + 1) (asP nx sn)), .long (w - jN c * jN (gonP Q (bB B mn) t (asP nx sn)) * jN (Q (iN 109) t (asP nx sn) 0) * hun m)] (zmMk n a3 b3 r) ∧ BestOk N B Q mn a3 b3 ∧ frS scB a2 a3 ∧ frL scBL b b3 := by
        by_cases hg0 : gonP Q (bB B mn) t (asP nx sn) = 10
        · refine ⟨a2, b, ?_, hK2, frS.refl, frL.refl⟩
          rw [hg0]
          simp only [b4_245, if_true, b4_257]
          rw [show jN (10 - 10) = 0 from rfl]
          simp
        · obtain ⟨a3, b3, e4, k3, f3, l3, -⟩ := hV d (t + 1) (asP nx sn) _ _ a2 b (by omega) rfl rfl hthl hE2 hK2 hT
          refine ⟨a3, b3, ?_, k3, f3, l3⟩
          simp (disch := omega) only [b4_245, n_eq, hg0, if_false, b4_261, n_add, e4, Option.bind_some, Option.toList_some, Option.toList_none, List.cons_append, List.nil_append, true_or, or_true, if_true, bI_if, b4_279, n_sub, l_of]
      obtain ⟨a3, b3, e5, k3, f3, l3⟩ := e5
      refine ⟨.long (jN c), .int (iN (asP nx sn)), .int (iN (gonP Q (bB B mn) t (asP nx sn))), a3, b3, ?_, k3, (f1.toB.trans f2.toB).trans f3, l3⟩
      rw [if_neg hy]
      simp (disch := omega) only [b4_128, cmp_pos, l_pos, b4_137, c_yardsAt hthl, Option.bind_some, Option.toList_some, Option.toList_none, List.cons_append, List.nil_append, true_or, or_true, if_true, bI_if, b4_142, n_eq, hy, if_false, b4_184, b4_191, e2, e3, e5, b4_280, b4_283, n_add, Nat.pos_of_ne_zero h0]
      rw [l_rea]
