/-! ===== the reference's goes and goesThrough ===== -/
set_option maxHeartbeats 1000000 in
theorem m_goes {n N B t c u p d : Nat} {r : Nat → Nat → Option Nat} {Q : AQ} {A : Nat → Nat → Nat} {a : Nat → Nat → Int32} {b : Nat → Nat → Int64} {Φ : Nat → Int64} {x : Int64} {vt vp : Int32} (et : vt = iN t) (ep : vp = iN p) (ht : t ≤ N) (hp : p < 4840) (hA8 : ∀ t p, (A t p < 8 ∧ A t p ≠ 4) ∧ (A t p ≠ 0 → mayP Q t p (A t p))) (hE : EnvM n r a N B Q) (hAct : ActM n r a N A) (hc : c ≤ 18) (hR : RowM N B Q A a b (t + 1) c u Φ) : ∃ a' b' c', Den (d+14) 228 0 [.ref 94, .int vt, .int vp, .long x, zmJ, zmJ, zmJ, zmJ, zmJ, zmJ, zmJ, zmJ, zmJ, zmJ, zmJ] [] (zmMk n a b r) = some (none, zmMk n a' b' r) ∧ RowM N B Q A a' b' (t + 1) c' (u + (if pS p = 0 then 1 else 0)) (fun w => Φ w + x * FF Q B A (N - t) t p w) ∧ c' ≤ c + 1 + (if pS p = 0 then 1 else 0) ∧ (t = N → c' = c) ∧ onlyM a a' b b' := by
  subst et ep
  have h8 := hE.n8
  have hB := hE.qb
  have hyl := pY_le hp
  have h94 : a 94 0 = iN N := hE.2.1
  by_cases hy : pY p = 0
  · obtain ⟨a1, e1, f1⟩ := m_catches (d := d+2) (b := b) (x := x * hun (N - t)) (vt := iN t) (vp := iN p) rfl rfl (by omega) hp hE
    refine ⟨a1, _, c, ?_, (((hR.fr f1).add (cV (x * hun (N - t)) (jN (Q (iN 118) t p 0)))).le (by omega)).eq (fun w hw => ?_), by omega, fun _ => rfl, (onlyM.fr f1).trans onlyM.sums⟩
    · simp (disch := omega) only [b228_0, h94, n_add, n_mul, n_in, decide_eq_true_eq, n_nat, n_lt, n_eq, n_sub, if_pos, if_neg, if_true, if_false, m_hundreds, Option.bind_some, Option.toList_some, Option.toList_none, List.cons_append, List.nil_append, true_or, or_true, if_true, bI_if, b228_9, m_yardsIn hp, b228_15, hy, b228_18, e1, b228_28]
    · rw [← cV_mul]
      congr 2
      cases N - t with
      | zero => unfold FF; rw [if_pos hy]; rfl
      | succ m => unfold FF; rw [if_pos hy]
  · by_cases htN : t = N
    · obtain ⟨a1, e1, f1⟩ := m_misses (d := d+2) (b := b) (x := x) (vt := iN t) (vp := iN p) rfl rfl (by omega) hp hE
      refine ⟨a1, _, c, ?_, (((hR.fr f1).add (mV x (jN (Q (iN 109) t p 0)) (jN (pY p)))).le (by omega)).eq (fun w hw => ?_), by omega, fun _ => rfl, (onlyM.fr f1).trans onlyM.sums⟩
      · simp (disch := omega) only [b228_0, h94, n_add, n_mul, n_in, decide_eq_true_eq, n_nat, n_lt, n_eq, n_sub, if_pos, if_neg, if_true, if_false, m_hundreds, Option.bind_some, Option.toList_some, Option.toList_none, List.cons_append, List.nil_append, true_or, or_true, if_true, bI_if, b228_9, m_yardsIn hp, b228_15, hy, b228_29, b228_37, e1, b228_44]
      · rw [show N - t = 0 by omega]
        unfold FF
        rw [if_neg hy, mV_mul, Int64.mul_one]
    · obtain ⟨m, hm⟩ : ∃ m, t + m + 1 = N := ⟨N - t - 1, by omega⟩
      have em : N - t = m + 1 := by omega
      obtain ⟨a1, e1, f1⟩ := hAct d a b (iN t) (iN p) t p agD.refl rfl rfl rfl rfl (by omega) hp
      have hE1 := hE.fr f1
      have hz7 := (hA8 t p).1
      by_cases hz : A t p = 0
      · obtain ⟨hAsk, -⟩ := id hE1
        obtain ⟨a2, e2, f2⟩ := hAsk (d+4) a1 (uL b 94 52 (b 94 52 + x * hun (m + 1))) (iN 108) _ _ _ _ t p 0 agD.refl rfl rfl rfl rfl rfl (by omega) hp (by omega)
        have e2' : Den (d+4+9) 205 0 [.ref 94, .int (iN t), .int (iN p), .int (iN 0), .int (iN 108), .int (iN 99)] [] (zmMk n a1 (uL b 94 52 (b 94 52 + x * hun (m + 1))) r) = some (some (.int (iN (Q (iN 108) t p 0))), zmMk n a2 (uL b 94 52 (b 94 52 + x * hun (m + 1))) r) := e2
        have hl := hB.l t p 0
        have eb : uL (uL b 94 52 (b 94 52 + x * hun (m + 1))) 94 49 (uL b 94 52 (b 94 52 + x * hun (m + 1)) 94 49 - x * hun (m + 1) * jN (Q (iN 108) t p 0)) = addM b (lV (x * hun (m + 1)) (jN (Q (iN 108) t p 0))) := by
          refine addM_ext (fun w hw => ?_) (fun k j h => ?_)
          · unfold lV
            simp only [uL_at]
            rcases (by omega : w = 0 ∨ w = 1 ∨ w = 2 ∨ w = 3 ∨ w = 4) with rfl | rfl | rfl | rfl | rfl <;> simp [Int64.sub_eq_add_neg]
          · simp only [uL_at]
            rw [if_neg (by omega), if_neg (by omega)]
        refine ⟨a2, addM b (lV (x * hun (m + 1)) (jN (Q (iN 108) t p 0))), c, ?_, (((hR.fr (f1.trans f2)).add _).le (by omega)).eq (fun w hw => ?_), by omega, fun _ => rfl, (onlyM.fr (f1.trans f2)).trans onlyM.sums⟩
        · rw [← eb]
          simp (disch := omega) only [b228_0, h94, n_add, n_mul, n_in, decide_eq_true_eq, n_nat, n_lt, n_eq, n_sub, if_pos, if_neg, if_true, if_false, m_hundreds, Option.bind_some, Option.toList_some, Option.toList_none, List.cons_append, List.nil_append, true_or, or_true, if_true, bI_if, b228_9, m_yardsIn hp, b228_15, hy, b228_29, b228_45, e1, b228_51, hz, b228_58, em, e2', b228_91, l_of]
        · rw [em]
          conv => rhs; unfold FF
          rw [if_neg hy, if_pos hz, lV_mul]
      · have hmay := (hA8 t p).2 hz
        obtain ⟨a2, e2, f2⟩ := m_behind (d := d+3) (b := b) hE1 (vt := iN t) (vp := iN p) (va := iN (A t p)) rfl rfl rfl (by omega) hp hz7 hmay
        have hE2 := hE1.fr f2
        obtain ⟨a3, e3, f3⟩ := m_seenBy (d := d+3) (b := b) hE2 (vt := iN t) (vp := iN p) (va := iN (A t p)) rfl rfl rfl (by omega) hp hz7
        have hE3 := hE2.fr f3
        have f123 := (f1.trans f2).trans f3
        have hs := senP_le hB t p (A t p)
        have hnx := behP_lt (Q := Q) (t := t) (act := A t p) hp
        have hpS := pS_le p
        have hs10 : senP Q t p (A t p) < 10 → pS p = 0 := fun h => by
          unfold senP at h
          split at h
          · omega
          · omega
        obtain ⟨v1, v2, v3, a4, b4, c4, e4, R4, k4, o4⟩ := m_goesPart (d := d+2) (p := p) (act := A t p) (sn := 0) (x := x) hm (by omega) hs hnx hE3 (by omega) (hR.fr f123) zmJ zmJ zmJ
        have hc4 : c4 ≤ c + 1 := by
          split at k4 <;> omega
        obtain ⟨v4, v5, v6, a5, b5, c5, e5, R5, k5, o5⟩ := m_goesPart (d := d+2) (p := p) (act := A t p) (sn := 1) (x := x) hm (by omega) hs hnx (hE3.ag o4.ag) (by omega) R4 v1 v2 v3
        refine ⟨a5, b5, c5, ?_, (R5.le ?_).eq (fun w hw => ?_), ?_, fun q => absurd q htN, ((onlyM.fr f123).trans o4).trans o5⟩
        · simp (disch := omega) only [b228_0, h94, n_add, n_mul, n_in, decide_eq_true_eq, n_nat, n_lt, n_eq, n_sub, if_pos, if_neg, if_true, if_false, m_hundreds, Option.bind_some, Option.toList_some, Option.toList_none, List.cons_append, List.nil_append, true_or, or_true, if_true, bI_if, b228_9, m_yardsIn hp, b228_15, hy, b228_29, b228_45, e1, b228_51, hz, b228_98, e2, b228_106, e3, b228_116, em, e4, e5]
          rw [b228_121]
          simp (disch := omega) only [n_add, n_mul, n_in, decide_eq_true_eq, n_nat, n_lt, n_eq, n_sub, if_pos, if_neg, if_true, if_false, b228_283]
        · by_cases h : senP Q t p (A t p) < 10
          · rw [if_pos ⟨rfl, h⟩, if_neg (by omega), if_pos (hs10 h)]
            exact Nat.le_refl _
          · rw [if_neg (fun q => h q.2), if_neg (by omega)]
            omega
        · rw [em]
          conv => rhs; unfold FF
          rw [if_neg hy, if_neg hz]
          rw [if_neg (by decide), if_pos rfl]
          generalize arrF Q B (hun m) (FF Q B A m (t + 1)) t (asP (behP Q t p (A t p)) 1) w = y1
          generalize arrF Q B (hun m) (FF Q B A m (t + 1)) t (asP (behP Q t p (A t p)) 0) w = y0
          generalize jN (senP Q t p (A t p)) = z1
          generalize jN (10 - senP Q t p (A t p)) = z0
          generalize Φ w = z
          grind
        · rw [if_neg (by omega)] at k5
          by_cases h : senP Q t p (A t p) < 10
          · rw [if_pos (hs10 h)]
            omega
          · rw [if_pos ⟨rfl, by omega⟩] at k4
            omega
theorem m_rowLoop {n N B t c0 d : Nat} {r : Nat → Nat → Option Nat} {Q : AQ} {A : Nat → Nat → Nat} {P : Nat → Nat} {W S : Nat → Int64} {v1 v2 : Int32} (ht : t ≤ N) (hA8 : ∀ t p, (A t p < 8 ∧ A t p ≠ 4) ∧ (A t p ≠ 0 → mayP Q t p (A t p))) (hc0 : c0 ≤ 10) (hu1 : usum P c0 ≤ 1) (k : Nat) : ∀ (i c : Nat) (a : Nat → Nat → Int32) (b : Nat → Nat → Int64), i + k = c0 → EnvM n r a N B Q → ActM n r a N A → a 94 40 = iN c0 → (∀ i, i < c0 → a 117 i = iN (P i) ∧ b 121 i = W i ∧ P i < 4840) → RowM N B Q A a b (t + 1) c (usum P i) (fun w => S w + psum (fun j => W j * FF Q B A (N - t) t (P j) w) i) → c ≤ i + usum P i → (t = N → c = 0) → ∃ a' b' c', Den (d+15) 229 62 [.ref 94,.int v1,.int v2,.int (iN t),.int (iN i)] [] (zmMk n a b r) = Den (d+15) 229 96 [.ref 94,.int v1,.int v2,.int (iN t),.int (iN c0)] [] (zmMk n a' b' r) ∧ RowM N B Q A a' b' (t + 1) c' (usum P c0) (fun w => S w + psum (fun j => W j * FF Q B A (N - t) t (P j) w) c0) ∧ c' ≤ c0 + usum P c0 ∧ (t = N → c' = 0) ∧ onlyM a a' b b' := by
  induction k with
  | zero =>
    intro i c a b hik hE hAct h40 hsrc hR hc hcN
    obtain rfl : i = c0 := by omega
    refine ⟨a, b, c, ?_, hR, hc, hcN, onlyM.refl⟩
    rw [b229_62]
    simp (disch := omega) only [h40, n_add, n_mul, n_in, decide_eq_true_eq, n_nat, n_lt, n_eq, n_sub, if_pos, if_neg, if_true, if_false]
  | succ k ih =>
    intro i c a b hik hE hAct h40 hsrc hR hc hcN
    have h8 := hE.n8
    have hi : i < c0 := by omega
    obtain ⟨q1, q2, q3⟩ := hsrc i hi
    have hui : usum P (i + 1) ≤ 1 := Nat.le_trans (usum_le hi) hu1
    have hui0 : usum P i ≤ 1 := Nat.le_trans (usum_le (Nat.le_of_lt hi)) hu1
    have hus : usum P (i + 1) = usum P i + (if pS (P i) = 0 then 1 else 0) := rfl
    obtain ⟨a1, b1, c1, e1, R1, k1, z1, o1⟩ := m_goes (d := d) (x := W i) (vt := iN t) (vp := iN (P i)) rfl rfl ht q3 hA8 hE hAct (by omega) hR
    obtain ⟨a2, b2, c2, e2, R2, k2, z2, o2⟩ := ih (i + 1) c1 a1 b1 (by omega) (hE.ag o1.ag) (hAct.ag o1.ag (o1.2.1 42 (by omega)) (o1.1 119 rfl (by omega) (by omega))) (by rw [o1.2.1 40 (by omega)]; exact h40) (fun j hj => by
      rw [o1.1 117 rfl (by omega) (by omega), o1.2.2.1 121 (by omega) (by omega)]
      exact hsrc j hj) (R1.eq (fun w hw => Int64.add_assoc ..)) (by omega) (fun q => by rw [z1 q]; exact hcN q)
    refine ⟨a2, b2, c2, ?_, R2, k2, z2, o1.trans o2⟩
    rw [← e2, b229_62]
    simp (disch := omega) only [h40, n_add, n_mul, n_in, decide_eq_true_eq, n_nat, n_lt, n_eq, n_sub, if_pos, if_neg, if_true, if_false, b229_71, q1, b229_80, q2, b229_87, e1, Option.bind_some, Option.toList_some, Option.toList_none, List.cons_append, List.nil_append, true_or, or_true, if_true, bI_if, b229_90]
def cpI (a : Nat → Nat → Int32) (k : Nat) : Nat → Nat → Int32 := fun q j => if q = 117 ∧ j < k then a 118 j else a q j
def cpL (b : Nat → Nat → Int64) (k : Nat) : Nat → Nat → Int64 := fun q j => if q = 121 ∧ j < k then b 122 j else b q j
theorem cpI_step (a : Nat → Nat → Int32) (k : Nat) : uI (cpI a k) 117 k (a 118 k) = cpI a (k + 1) := by
  funext q j
  rw [uI_at]
  unfold cpI
  by_cases h : q = 117 ∧ j = k
  · rw [if_pos h, if_pos (by omega), h.2]
  · rw [if_neg h]
    by_cases h2 : q = 117 ∧ j < k
    · rw [if_pos h2, if_pos (by omega)]
    · rw [if_neg h2, if_neg (by omega)]
theorem cpL_step (b : Nat → Nat → Int64) (k : Nat) : uL (cpL b k) 121 k (b 122 k) = cpL b (k + 1) := by
  funext q j
  rw [uL_at]
  unfold cpL
  by_cases h : q = 121 ∧ j = k
  · rw [if_pos h, if_pos (by omega), h.2]
  · rw [if_neg h]
    by_cases h2 : q = 121 ∧ j < k
    · rw [if_pos h2, if_pos (by omega)]
    · rw [if_neg h2, if_neg (by omega)]
theorem cpI_0 (a : Nat → Nat → Int32) : cpI a 0 = a := by
  funext q j
  exact if_neg (by omega)
theorem cpL_0 (b : Nat → Nat → Int64) : cpL b 0 = b := by
  funext q j
  exact if_neg (by omega)
theorem m_copy {n c0 d : Nat} {r : Nat → Nat → Option Nat} {v1 v2 v3 : Int32} (hc0 : c0 ≤ 20) (k : Nat) : ∀ (i : Nat) (a : Nat → Nat → Int32) (b : Nat → Nat → Int64), i + k = c0 → a 94 41 = iN c0 → Den d 229 99 [.ref 94,.int v1,.int v2,.int v3,.int (iN i)] [] (zmMk n (cpI a i) (cpL b i) r) = Den d 229 142 [.ref 94,.int v1,.int v2,.int v3,.int (iN c0)] [] (zmMk n (cpI a c0) (cpL b c0) r) := by
  induction k with
  | zero =>
    intro i a b hik h41
    obtain rfl : i = c0 := by omega
    have h : cpI a i 94 41 = iN i := by unfold cpI; rw [if_neg (by omega)]; exact h41
    rw [b229_99]
    simp (disch := omega) only [h, n_add, n_mul, n_in, decide_eq_true_eq, n_nat, n_lt, n_eq, n_sub, if_pos, if_neg, if_true, if_false]
  | succ k ih =>
    intro i a b hik h41
    rw [← ih (i + 1) a b (by omega) h41]
    have h : cpI a i 94 41 = iN c0 := by unfold cpI; rw [if_neg (by omega)]; exact h41
    have h2 : cpI a i 118 i = a 118 i := by unfold cpI; rw [if_neg (by omega)]
    have h3 : cpL b i 122 i = b 122 i := by unfold cpL; rw [if_neg (by omega)]
    rw [b229_99]
    simp (disch := omega) only [h, n_add, n_mul, n_in, decide_eq_true_eq, n_nat, n_lt, n_eq, n_sub, if_pos, if_neg, if_true, if_false, b229_108, h2, b229_121, cpI_step, b229_122, h3, b229_135, cpL_step, b229_136]
/-- what the way forward changes -/
def onlyG (a a' : Nat → Nat → Int32) (b b' : Nat → Nat → Int64) : Prop := (∀ k, scM k = false → k ≠ 117 → k ≠ 118 → k ≠ 94 → a' k = a k) ∧ (∀ j, j ≠ 40 → j ≠ 41 → a' 94 j = a 94 j) ∧ (∀ k, k ≠ 121 → k ≠ 122 → k ≠ 94 → b' k = b k) ∧ (∀ j, (j < 49 ∨ 53 < j) → b' 94 j = b 94 j)
theorem onlyG.trans {a a1 a2 : Nat → Nat → Int32} {b b1 b2 : Nat → Nat → Int64} (h : onlyG a a1 b b1) (h2 : onlyG a1 a2 b1 b2) : onlyG a a2 b b2 := ⟨fun k p q s t => (h2.1 k p q s t).trans (h.1 k p q s t), fun j p q => (h2.2.1 j p q).trans (h.2.1 j p q), fun k p q s => (h2.2.2.1 k p q s).trans (h.2.2.1 k p q s), fun j p => (h2.2.2.2 j p).trans (h.2.2.2 j p)⟩
theorem onlyM.toG {a a' : Nat → Nat → Int32} {b b' : Nat → Nat → Int64} (h : onlyM a a' b b') : onlyG a a' b b' := ⟨fun k p _ q s => h.1 k p q s, fun j _ p => h.2.1 j p, fun k _ p q => h.2.2.1 k p q, h.2.2.2⟩
theorem onlyG.ag {a a' : Nat → Nat → Int32} {b b' : Nat → Nat → Int64} (h : onlyG a a' b b') : agD dpM a a' := fun k j hp => by
  obtain ⟨h1, h2, h3⟩ := dpM_94 k j hp
  by_cases hk : k = 94
  · rw [hk]
    exact h.2.1 j (fun q => h3 ⟨hk, Or.inr q⟩) (fun q => h3 ⟨hk, Or.inl q⟩)
  · rw [h.1 k (dpM_scM k j hp) h2 h1 hk]
theorem onlyG.act {n N : Nat} {r : Nat → Nat → Option Nat} {A : Nat → Nat → Nat} {a a' : Nat → Nat → Int32} {b b' : Nat → Nat → Int64} (h : onlyG a a' b b') (hA : ActM n r a N A) : ActM n r a' N A := hA.ag h.ag (h.2.1 42 (by omega) (by omega)) (h.1 119 rfl (by omega) (by omega) (by omega))
theorem m_throughLoop {n N B d : Nat} {r : Nat → Nat → Option Nat} {Q : AQ} {A : Nat → Nat → Nat} {Φ : Nat → Int64} {v1 v2 : Int32} (hA8 : ∀ t p, (A t p < 8 ∧ A t p ≠ 4) ∧ (A t p ≠ 0 → mayP Q t p (A t p))) (k : Nat) : ∀ (t c : Nat) (P : Nat → Nat) (W : Nat → Int64) (u4 : Value) (a : Nat → Nat → Int32) (b : Nat → Nat → Int64), t + k = N → EnvM n r a N B Q → ActM n r a N A → c ≤ t + 1 → usum P c ≤ 1 → a 94 40 = iN c → (∀ i, i < c → a 117 i = iN (P i) ∧ b 121 i = W i ∧ P i < 4840) → (∀ w, w < 5 → b 94 (49 + w) + psum (fun i => W i * FF Q B A (N - t) t (P i) w) c = Φ w) → ∃ a' b', Den (d+15) 229 46 [.ref 94,.int v1,.int v2,.int (iN t),u4] [] (zmMk n a b r) = some (none, zmMk n a' b' r) ∧ (∀ w, w < 5 → b' 94 (49 + w) = Φ w) ∧ onlyG a a' b b' := by
  induction k with
  | zero =>
    intro t c P W u4 a b htk hE hAct hc hu h40 hsrc hsum
    have h8 := hE.n8
    have h94 : a 94 0 = iN N := hE.2.1
    have htN : t = N := by omega
    have o0 : onlyG a (uI a 94 41 (iN 0)) b b := ⟨fun k _ _ _ h => by funext j; rw [uI_at, if_neg (by omega)], fun j _ h => by rw [uI_at, if_neg (by omega)], fun _ _ _ _ => rfl, fun _ _ => rfl⟩
    have R0 : RowM N B Q A (uI a 94 41 (iN 0)) b (t + 1) 0 (usum P 0) (fun w => b 94 (49 + w) + psum (fun j => W j * FF Q B A (N - t) t (P j) w) 0) := ⟨fun _ => 0, fun _ => 0, by rw [uI_at, if_pos ⟨rfl, rfl⟩], fun i hi => absurd hi (by omega), Nat.le_refl _, fun w _ => rfl⟩
    obtain ⟨a1, b1, c1, e1, R1, k1, z1, o1⟩ := m_rowLoop (d := d) (v1 := v1) (v2 := v2) (by omega) hA8 (by omega) hu c 0 0 (uI a 94 41 (iN 0)) b (by omega) (hE.ag o0.ag) (o0.act hAct) (by rw [uI_at, if_neg (by omega)]; exact h40) (fun i hi => by
      have h := hsrc i hi
      rw [uI_at, if_neg (by omega)]
      exact h) R0 (by omega) (fun _ => rfl)
    have hc1 := z1 htN
    subst hc1
    obtain ⟨P1, W1, h41, -, -, hs1⟩ := R1
    have hcp := m_copy (n := n) (d := d+15) (r := r) (v1 := v1) (v2 := v2) (v3 := iN t) (show 0 ≤ 20 by omega) 0 0 a1 b1 (by omega) h41
    rw [cpI_0, cpL_0] at hcp
    have o2 : onlyG a1 (uI a1 94 40 (a1 94 41)) b1 b1 := ⟨fun k _ _ _ h => by funext j; rw [uI_at, if_neg (by omega)], fun j h _ => by rw [uI_at, if_neg (by omega)], fun _ _ _ _ => rfl, fun _ _ => rfl⟩
    have o012 := (o0.trans o1.toG).trans o2
    have h94' : (uI a1 94 40 (a1 94 41)) 94 0 = iN N := by rw [o012.2.1 0 (by omega) (by omega)]; exact h94
    refine ⟨_, b1, ?_, fun w hw => ?_, o012⟩
    · rw [b229_46]
      simp (disch := omega) only [h94, n_add, n_mul, n_in, decide_eq_true_eq, n_nat, n_lt, n_eq, n_sub, if_pos, if_neg, if_true, if_false, b229_54, e1, b229_96, hcp, b229_142]
      rw [b229_46]
      simp (disch := omega) only [h94', n_add, n_mul, n_in, decide_eq_true_eq, n_nat, n_lt, n_eq, n_sub, if_pos, if_neg, if_true, if_false, b229_156]
    · have h1 := hs1 w hw
      simp only [psum, Int64.add_zero] at h1
      rw [h1]
      exact hsum w hw
  | succ k ih =>
    intro t c P W u4 a b htk hE hAct hc hu h40 hsrc hsum
    have h8 := hE.n8
    have h94 : a 94 0 = iN N := hE.2.1
    have o0 : onlyG a (uI a 94 41 (iN 0)) b b := ⟨fun k _ _ _ h => by funext j; rw [uI_at, if_neg (by omega)], fun j _ h => by rw [uI_at, if_neg (by omega)], fun _ _ _ _ => rfl, fun _ _ => rfl⟩
    have R0 : RowM N B Q A (uI a 94 41 (iN 0)) b (t + 1) 0 (usum P 0) (fun w => b 94 (49 + w) + psum (fun j => W j * FF Q B A (N - t) t (P j) w) 0) := ⟨fun _ => 0, fun _ => 0, by rw [uI_at, if_pos ⟨rfl, rfl⟩], fun i hi => absurd hi (by omega), Nat.le_refl _, fun w _ => rfl⟩
    obtain ⟨a1, b1, c1, e1, R1, k1, z1, o1⟩ := m_rowLoop (d := d) (v1 := v1) (v2 := v2) (by omega) hA8 (by omega) hu c 0 0 (uI a 94 41 (iN 0)) b (by omega) (hE.ag o0.ag) (o0.act hAct) (by rw [uI_at, if_neg (by omega)]; exact h40) (fun i hi => by
      have h := hsrc i hi
      rw [uI_at, if_neg (by omega)]
      exact h) R0 (by omega) (fun q => absurd q (by omega))
    obtain ⟨P1, W1, h41, hsrc1, hu1, hs1⟩ := R1
    have hcp := m_copy (n := n) (d := d+15) (r := r) (v1 := v1) (v2 := v2) (v3 := iN t) (show c1 ≤ 20 by omega) c1 0 a1 b1 (by omega) h41
    rw [cpI_0, cpL_0] at hcp
    have h41' : cpI a1 c1 94 41 = iN c1 := by unfold cpI; rw [if_neg (by omega)]; exact h41
    have o2 : onlyG a1 (uI (cpI a1 c1) 94 40 (iN c1)) b1 (cpL b1 c1) := ⟨fun k _ h1 _ h => by funext j; rw [uI_at, if_neg (by omega)]; unfold cpI; rw [if_neg (by omega)], fun j h _ => by rw [uI_at, if_neg (by omega)]; unfold cpI; rw [if_neg (by omega)], fun k h _ _ => by funext j; unfold cpL; rw [if_neg (by omega)], fun j h => by unfold cpL; rw [if_neg (by omega)]⟩
    have o012 := (o0.trans o1.toG).trans o2
    obtain ⟨a3, b3, e3, S3, o3⟩ := ih (t + 1) c1 P1 W1 (.int (iN c1)) (uI (cpI a1 c1) 94 40 (iN c1)) (cpL b1 c1) (by omega) (hE.ag o012.ag) (o012.act hAct) (by omega) (by omega) (by rw [uI_at, if_pos ⟨rfl, rfl⟩]) (fun i hi => by
      have h := hsrc1 i hi
      rw [uI_at, if_neg (by omega)]
      unfold cpI cpL
      rw [if_pos ⟨rfl, hi⟩, if_pos ⟨rfl, hi⟩]
      exact h) (fun w hw => by
      unfold cpL
      rw [if_neg (by omega), hs1 w hw]
      exact hsum w hw)
    refine ⟨a3, b3, ?_, S3, o012.trans o3⟩
    rw [← e3, b229_46]
    simp (disch := omega) only [h94, n_add, n_mul, n_in, decide_eq_true_eq, n_nat, n_lt, n_eq, n_sub, if_pos, if_neg, if_true, if_false, b229_54, e1, b229_96, hcp, b229_142, h41']
theorem m_through {n N B t p d : Nat} {r : Nat → Nat → Option Nat} {Q : AQ} {A : Nat → Nat → Nat} {a : Nat → Nat → Int32} {b : Nat → Nat → Int64} {vt vp : Int32} (et : vt = iN t) (ep : vp = iN p) (ht : t ≤ N) (hp : p < 4840) (hA8 : ∀ t p, (A t p < 8 ∧ A t p ≠ 4) ∧ (A t p ≠ 0 → mayP Q t p (A t p))) (hE : EnvM n r a N B Q) (hAct : ActM n r a N A) : ∃ a' b', Den (d+15) 229 0 [.ref 94, .int vt, .int vp, zmJ, zmJ] [] (zmMk n a b r) = some (none, zmMk n a' b' r) ∧ (∀ w, w < 5 → b' 94 (49 + w) = FF Q B A (N - t) t p w) ∧ onlyG a a' b b' := by
  subst et ep
  have o0 : onlyG a (uI (uI a 94 40 (iN 1)) 117 0 (iN p)) b (uL (uL (uL (uL (uL (uL b 94 49 0) 94 50 0) 94 51 0) 94 52 0) 94 53 0) 121 0 1) := ⟨fun k _ h1 _ h => by funext j; rw [uI_at, if_neg (by omega), uI_at, if_neg (by omega)], fun j h _ => by rw [uI_at, if_neg (by omega), uI_at, if_neg (by omega)], fun k h1 _ h => by funext j; simp only [uL_at]; rw [if_neg (by omega), if_neg (by omega), if_neg (by omega), if_neg (by omega), if_neg (by omega), if_neg (by omega)], fun j h => by simp only [uL_at]; rw [if_neg (by omega), if_neg (by omega), if_neg (by omega), if_neg (by omega), if_neg (by omega), if_neg (by omega)]⟩
  obtain ⟨a1, b1, e1, S1, o1⟩ := m_throughLoop (d := d) (v1 := iN t) (v2 := iN p) (Φ := fun w => FF Q B A (N - t) t p w) hA8 (N - t) t 1 (fun _ => p) (fun _ => 1) zmJ (uI (uI a 94 40 (iN 1)) 117 0 (iN p)) (uL (uL (uL (uL (uL (uL b 94 49 0) 94 50 0) 94 51 0) 94 52 0) 94 53 0) 121 0 1) (by omega) (hE.ag o0.ag) (o0.act hAct) (by omega) (by simp only [usum]; split <;> omega) (by rw [uI_at, if_neg (by omega), uI_at, if_pos ⟨rfl, rfl⟩]) (fun i hi => by
    obtain rfl : i = 0 := by omega
    refine ⟨by rw [uI_at, if_pos ⟨rfl, rfl⟩], by rw [uL_at, if_pos ⟨rfl, rfl⟩], hp⟩) (fun w hw => by
    simp only [psum, uL_at]
    rcases (by omega : w = 0 ∨ w = 1 ∨ w = 2 ∨ w = 3 ∨ w = 4) with rfl | rfl | rfl | rfl | rfl <;> simp)
  exact ⟨a1, b1, by rw [b229_0]; exact e1, S1, o0.trans o1⟩
