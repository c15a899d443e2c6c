/-! ===== the reference's way forward: goes, goesThrough ===== -/
/-- the reference's sums, more by f -/
def addM (b : Nat → Nat → Int64) (f : Nat → Int64) : Nat → Nat → Int64 := fun k j => if k = 94 ∧ 49 ≤ j ∧ j ≤ 53 then b k j + f (j - 49) else b k j
theorem addM_at {b : Nat → Nat → Int64} {w : Nat} {f : Nat → Int64} (h : w < 5) : addM b f 94 (49 + w) = b 94 (49 + w) + f w := by
  unfold addM
  rw [if_pos (by omega), show 49 + w - 49 = w by omega]
theorem addM_ne {b : Nat → Nat → Int64} {k j : Nat} {f : Nat → Int64} (h : ¬ (k = 94 ∧ 49 ≤ j ∧ j ≤ 53)) : addM b f k j = b k j := if_neg h
theorem addM_ext {b b' : Nat → Nat → Int64} {f : Nat → Int64} (h1 : ∀ w, w < 5 → b' 94 (49 + w) = b 94 (49 + w) + f w) (h2 : ∀ k j, ¬ (k = 94 ∧ 49 ≤ j ∧ j ≤ 53) → b' k j = b k j) : b' = addM b f := by
  funext k j
  by_cases h : k = 94 ∧ 49 ≤ j ∧ j ≤ 53
  · obtain ⟨rfl, h3, h4⟩ := h
    have h5 := h1 (j - 49) (by omega)
    rw [show 49 + (j - 49) = j by omega] at h5
    rw [h5]
    unfold addM
    rw [if_pos (by omega)]
  · rw [h2 k j h, addM_ne h]
theorem m_misses {d N B t p : Nat} {n : Nat} {a : Nat → Nat → Int32} {b : Nat → Nat → Int64} {r : Nat → Nat → Option Nat} {Q : AQ} {x : Int64} {vt vp : Int32} (et : vt = iN t) (ep : vp = iN p) (ht : t ≤ 8) (hp : p < 4840) (hE : EnvM n r a N B Q) : ∃ a', Den (d+11) 226 0 [.ref 94, .long x, zmJ, .int vt, .int vp] [] (zmMk n a b r) = some (none, zmMk n a' (addM b (mV x (jN (Q (iN 109) t p 0)) (jN (pY p)))) r) ∧ frM a a' := by
  subst et ep
  have hm := hE.qb.m t p 0
  have hy := pY_le hp
  obtain ⟨a1, e1, f1⟩ := m_costs (d := d) (b := uL (uL b 94 51 (b 94 51 + x)) 94 53 ((uL b 94 51 (b 94 51 + x)) 94 53 + x * jN (pY p))) hE (vt := iN t) (vp := iN p) rfl rfl ht hp
  refine ⟨a1, ?_, f1⟩
  simp (disch := omega) only [b226_0, b226_21, b226_40, m_yardsIn hp, Option.bind_some, Option.toList_some, Option.toList_none, List.cons_append, List.nil_append, true_or, or_true, if_true, bI_if, e1, l_of]
  congr 3
  refine addM_ext (fun w hw => ?_) (fun k j h => ?_)
  · unfold mV
    simp only [uL_at]
    rcases (by omega : w = 0 ∨ w = 1 ∨ w = 2 ∨ w = 3 ∨ w = 4) with rfl | rfl | rfl | rfl | rfl <;> simp [Int64.sub_eq_add_neg]
  · simp only [uL_at]
    rw [if_neg (by omega), if_neg (by omega), if_neg (by omega)]
theorem m_catches {d N B t p : Nat} {n : Nat} {a : Nat → Nat → Int32} {b : Nat → Nat → Int64} {r : Nat → Nat → Option Nat} {Q : AQ} {x : Int64} {vt vp : Int32} (et : vt = iN t) (ep : vp = iN p) (ht : t ≤ 8) (hp : p < 4840) (hE : EnvM n r a N B Q) : ∃ a', Den (d+11) 227 0 [.ref 94, .long x, zmJ, .int vt, .int vp] [] (zmMk n a b r) = some (none, zmMk n a' (addM b (cV x (jN (Q (iN 118) t p 0)))) r) ∧ frM a a' := by
  subst et ep
  have hm := hE.qb.v t p 0
  obtain ⟨a1, e1, f1⟩ := m_worth (d := d) (b := uL b 94 50 (b 94 50 + x)) hE (vt := iN t) (vp := iN p) rfl rfl ht hp
  refine ⟨a1, ?_, f1⟩
  simp (disch := omega) only [b227_0, b227_23, Option.bind_some, Option.toList_some, Option.toList_none, List.cons_append, List.nil_append, true_or, or_true, if_true, bI_if, e1, l_of]
  congr 3
  refine addM_ext (fun w hw => ?_) (fun k j h => ?_)
  · unfold cV
    simp only [uL_at]
    rcases (by omega : w = 0 ∨ w = 1 ∨ w = 2 ∨ w = 3 ∨ w = 4) with rfl | rfl | rfl | rfl | rfl <;> simp
  · simp only [uL_at]
    rw [if_neg (by omega), if_neg (by omega)]
theorem hun10 {m : Nat} (h : m < 8) : hun (m + 1) / 10 = 10 * hun m := by
  rcases (by omega : m = 0 ∨ m = 1 ∨ m = 2 ∨ m = 3 ∨ m = 4 ∨ m = 5 ∨ m = 6 ∨ m = 7) with rfl | rfl | rfl | rfl | rfl | rfl | rfl | rfl <;> decide +kernel
theorem hun100 {m : Nat} (h : m < 8) : hun (m + 1) / 100 = hun m := by
  rcases (by omega : m = 0 ∨ m = 1 ∨ m = 2 ∨ m = 3 ∨ m = 4 ∨ m = 5 ∨ m = 6 ∨ m = 7) with rfl | rfl | rfl | rfl | rfl | rfl | rfl | rfl <;> decide +kernel
/-- the reference's row of what comes, as it is built, and its sums -/
def RowM (N B : Nat) (Q : AQ) (A : Nat → Nat → Nat) (a : Nat → Nat → Int32) (b : Nat → Nat → Int64) (T c u : Nat) (Φ : Nat → Int64) : Prop := ∃ (P : Nat → Nat) (W : Nat → Int64), a 94 41 = iN c ∧ (∀ i, i < c → a 118 i = iN (P i) ∧ b 122 i = W i ∧ P i < 4840) ∧ usum P c ≤ u ∧ ∀ w, w < 5 → b 94 (49 + w) + psum (fun i => W i * FF Q B A (N - T) T (P i) w) c = Φ w
theorem RowM.le {N B T c u u' : Nat} {Q : AQ} {A : Nat → Nat → Nat} {a : Nat → Nat → Int32} {b : Nat → Nat → Int64} {Φ : Nat → Int64} (h : RowM N B Q A a b T c u Φ) (hu : u ≤ u') : RowM N B Q A a b T c u' Φ := by
  obtain ⟨P, W, h1, h2, h3, h4⟩ := h
  exact ⟨P, W, h1, h2, Nat.le_trans h3 hu, h4⟩
theorem RowM.eq {N B T c u : Nat} {Q : AQ} {A : Nat → Nat → Nat} {a : Nat → Nat → Int32} {b : Nat → Nat → Int64} {Φ Ψ : Nat → Int64} (h : RowM N B Q A a b T c u Φ) (hu : ∀ w, w < 5 → Φ w = Ψ w) : RowM N B Q A a b T c u Ψ := by
  obtain ⟨P, W, h1, h2, h3, h4⟩ := h
  exact ⟨P, W, h1, h2, h3, fun w hw => (h4 w hw).trans (hu w hw)⟩
theorem RowM.fr {N B T c u : Nat} {Q : AQ} {A : Nat → Nat → Nat} {a a' : Nat → Nat → Int32} {b : Nat → Nat → Int64} {Φ : Nat → Int64} (h : RowM N B Q A a b T c u Φ) (hf : frM a a') : RowM N B Q A a' b T c u Φ := by
  unfold RowM
  rw [hf 94 rfl, hf 118 rfl]
  exact h
theorem RowM.add {N B T c u : Nat} {Q : AQ} {A : Nat → Nat → Nat} {a : Nat → Nat → Int32} {b : Nat → Nat → Int64} {Φ : Nat → Int64} (h : RowM N B Q A a b T c u Φ) (f : Nat → Int64) : RowM N B Q A a (addM b f) T c u (fun w => Φ w + f w) := by
  obtain ⟨P, W, h1, h2, h3, h4⟩ := h
  refine ⟨P, W, h1, fun i hi => ?_, h3, fun w hw => ?_⟩
  · rw [addM_ne (fun q => absurd q.1 (by decide))]
    exact h2 i hi
  · dsimp only
    rw [addM_at hw, ← h4 w hw]
    generalize b 94 (49 + w) = y
    generalize psum _ c = z
    generalize f w = v
    grind
theorem RowM.branch {N B T c u p : Nat} {Q : AQ} {A : Nat → Nat → Nat} {a : Nat → Nat → Int32} {b : Nat → Nat → Int64} {Φ : Nat → Int64} (h : RowM N B Q A a b T c u Φ) (x : Int64) (hp : p < 4840) : RowM N B Q A (uI (uI a 118 c (iN p)) 94 41 (iN (c + 1))) (uL b 122 c x) T (c + 1) (u + (if pS p = 0 then 1 else 0)) (fun w => Φ w + x * FF Q B A (N - T) T p w) := by
  obtain ⟨P, W, h1, h2, h3, h4⟩ := h
  refine ⟨fun i => if i = c then p else P i, fun i => if i = c then x else W i, by rw [uI_at, if_pos ⟨rfl, rfl⟩], fun i hi => ?_, ?_, fun w hw => ?_⟩
  · dsimp only
    by_cases hc : i = c
    · refine ⟨by rw [uI_at, if_neg (by omega), uI_at, if_pos ⟨rfl, hc⟩, if_pos hc], by rw [uL_at, if_pos ⟨rfl, hc⟩, if_pos hc], by rw [if_pos hc]; exact hp⟩
    · obtain ⟨q1, q2, q3⟩ := h2 i (by omega)
      refine ⟨by rw [uI_at, if_neg (by omega), uI_at, if_neg (by omega), if_neg hc]; exact q1, by rw [uL_at, if_neg (by omega), if_neg hc]; exact q2, by rw [if_neg hc]; exact q3⟩
  · simp only [usum]
    rw [usum_congr (g := P) (fun i hi => if_neg (Nat.ne_of_lt hi))]
    simp only [if_true]
    omega
  · simp only [psum]
    rw [psum_congr (g := fun i => W i * FF Q B A (N - T) T (P i) w) (fun i hi => by simp only [if_neg (Nat.ne_of_lt hi)])]
    simp only [if_true]
    rw [uL_at, if_neg (by omega), ← h4 w hw]
    exact (Int64.add_assoc ..).symm
/-- only what belongs to what comes next and to the sums is changed -/
def onlyM (a a' : Nat → Nat → Int32) (b b' : Nat → Nat → Int64) : Prop := (∀ k, scM k = false → k ≠ 118 → k ≠ 94 → a' k = a k) ∧ (∀ j, j ≠ 41 → a' 94 j = a 94 j) ∧ (∀ k, k ≠ 122 → k ≠ 94 → b' k = b k) ∧ (∀ j, (j < 49 ∨ 53 < j) → b' 94 j = b 94 j)
theorem onlyM.refl {a : Nat → Nat → Int32} {b : Nat → Nat → Int64} : onlyM a a b b := ⟨fun _ _ _ _ => rfl, fun _ _ => rfl, fun _ _ _ => rfl, fun _ _ => rfl⟩
theorem onlyM.trans {a a1 a2 : Nat → Nat → Int32} {b b1 b2 : Nat → Nat → Int64} (h : onlyM a a1 b b1) (h2 : onlyM a1 a2 b1 b2) : onlyM a a2 b b2 := ⟨fun k p q s => (h2.1 k p q s).trans (h.1 k p q s), fun j p => (h2.2.1 j p).trans (h.2.1 j p), fun k p q => (h2.2.2.1 k p q).trans (h.2.2.1 k p q), fun j p => (h2.2.2.2 j p).trans (h.2.2.2 j p)⟩
theorem onlyM.fr {a a' : Nat → Nat → Int32} {b : Nat → Nat → Int64} (h : frM a a') : onlyM a a' b b := ⟨fun k p _ _ => h k p, fun j _ => by rw [h 94 rfl], fun _ _ _ => rfl, fun _ _ => rfl⟩
theorem onlyM.sums {a : Nat → Nat → Int32} {b : Nat → Nat → Int64} {f : Nat → Int64} : onlyM a a b (addM b f) := ⟨fun _ _ _ _ => rfl, fun _ _ => rfl, fun k _ h => by funext j; exact addM_ne (fun q => h q.1), fun j h => addM_ne (by omega)⟩
theorem onlyM.branch {a : Nat → Nat → Int32} {b : Nat → Nat → Int64} {c : Nat} {v w : Int32} {x : Int64} : onlyM a (uI (uI a 118 c v) 94 41 w) b (uL b 122 c x) := ⟨fun k _ h1 h2 => by funext j; rw [uI_at, if_neg (by omega), uI_at, if_neg (by omega)], fun j h => by rw [uI_at, if_neg (by omega), uI_at, if_neg (by omega)], fun k h _ => by funext j; rw [uL_at, if_neg (by omega)], fun j h => by rw [uL_at, if_neg (by omega)]⟩
theorem dpM_94 (k j : Nat) (h : dpM k j = true) : k ≠ 118 ∧ k ≠ 117 ∧ ¬ (k = 94 ∧ (j = 41 ∨ j = 40)) := ⟨fun q => by rw [q] at h; simp [dpM, dpMA] at h, fun q => by rw [q] at h; simp [dpM, dpMA] at h, fun q => by obtain ⟨q1, q2⟩ := q; rcases q2 with q2 | q2 <;> rw [q1, q2] at h <;> simp [dpM, dpMA] at h⟩
theorem onlyM.ag {a a' : Nat → Nat → Int32} {b b' : Nat → Nat → Int64} (h : onlyM a a' b b') : agD dpM a a' := fun k j hp => by
  obtain ⟨h1, h2, h3⟩ := dpM_94 k j hp
  by_cases hk : k = 94
  · rw [hk]
    exact h.2.1 j (fun q => h3 ⟨hk, Or.inl q⟩)
  · rw [h.1 k (dpM_scM k j hp) h1 hk]
/-- what is done, as a premise -/
def ActM (n : Nat) (r : Nat → Nat → Option Nat) (a : Nat → Nat → Int32) (N : Nat) (A : Nat → Nat → Nat) : Prop := ∀ (d : Nat) (a1 : Nat → Nat → Int32) (b : Nat → Nat → Int64) (vt vp : Int32) (t p : Nat), agD dpM a a1 → a1 94 42 = a 94 42 → a1 119 = a 119 → vt = iN t → vp = iN p → t < N → p < 4840 → ∃ a2, Den (d+13) 225 0 [.ref 94, .int vt, .int vp] [] (zmMk n a1 b r) = some (some (.int (iN (A t p))), zmMk n a2 b r) ∧ frM a1 a2
theorem ActM.ag {n N : Nat} {r : Nat → Nat → Option Nat} {a a' : Nat → Nat → Int32} {A : Nat → Nat → Nat} (h : ActM n r a N A) (ha : agD dpM a a') (h1 : a' 94 42 = a 94 42) (h2 : a' 119 = a 119) : ActM n r a' N A := fun d a1 b vt vp t p h0 h3 h4 => h d a1 b vt vp t p (ha.trans h0) (h3.trans h1) (h4.trans h2)
set_option maxHeartbeats 1000000 in
theorem m_goesPart {n N B t m c u p act nx s sn d : Nat} {r : Nat → Nat → Option Nat} {Q : AQ} {A : Nat → Nat → Nat} {a : Nat → Nat → Int32} {b : Nat → Nat → Int64} {Φ : Nat → Int64} {x : Int64} (ht : t + m + 1 = N) (hsn : sn ≤ 1) (hs : s ≤ 10) (hnx : nx < 4840) (hE : EnvM n r a N B Q) (hc : c < 20) (hR : RowM N B Q A a b (t + 1) c u Φ) (u11 u13 u14 : Value) : ∃ v11 v13 v14 a' b' c', Den (d+12) 228 121 [.ref 94,.int (iN t),.int (iN p),.long x,zmJ,.long (hun (m + 1)),zmJ,.int (iN act),.int (iN nx),.int (iN s),.int (iN sn),u11,zmJ,u13,u14] [] (zmMk n a b r) = Den (d+12) 228 121 [.ref 94,.int (iN t),.int (iN p),.long x,zmJ,.long (hun (m + 1)),zmJ,.int (iN act),.int (iN nx),.int (iN s),.int (iN (sn + 1)),v11,zmJ,v13,v14] [] (zmMk n a' b' r) ∧ RowM N B Q A a' b' (t + 1) c' (u + (if sn = 0 ∧ s < 10 then 1 else 0)) (fun w => Φ w + x * jN (if sn = 1 then s else 10 - s) * arrF Q B (hun m) (FF Q B A m (t + 1)) t (asP nx sn) w) ∧ c' ≤ c + (if sn = 0 ∧ s = 10 then 0 else 1) ∧ onlyM a a' b b' := by
  have h8 := hE.n8
  have hB := hE.qb
  have em2 : N - (t + 1) = m := by omega
  obtain ⟨o, ho, e1⟩ : ∃ o, o = (if sn = 1 then s else 10 - s) ∧ Den (d+12) 228 121 [.ref 94,.int (iN t),.int (iN p),.long x,zmJ,.long (hun (m + 1)),zmJ,.int (iN act),.int (iN nx),.int (iN s),.int (iN sn),u11,zmJ,u13,u14] [] (zmMk n a b r) = Den (d+12) 228 144 [.ref 94,.int (iN t),.int (iN p),.long x,zmJ,.long (hun (m + 1)),zmJ,.int (iN act),.int (iN nx),.int (iN s),.int (iN sn),u11,zmJ,u13,u14] [.int (iN o), .long x] (zmMk n a b r) := by
    rcases (by omega : sn = 0 ∨ sn = 1) with rfl | rfl
    · refine ⟨10 - s, rfl, ?_⟩
      rw [b228_121]
      simp (disch := omega) only [n_add, n_mul, n_in, decide_eq_true_eq, n_nat, n_lt, n_eq, n_sub, if_pos, if_neg, if_true, if_false, b228_127, b228_139]
    · refine ⟨s, rfl, ?_⟩
      rw [b228_121]
      simp (disch := omega) only [n_add, n_mul, n_in, decide_eq_true_eq, n_nat, n_lt, n_eq, n_sub, if_pos, if_neg, if_true, if_false, b228_127, b228_134]
  have hob : o ≤ 10 := by rw [ho]; split <;> omega
  rw [e1, ← ho]
  by_cases hy0 : x * jN o = 0
  · refine ⟨.long (x * jN o), u13, u14, a, b, c, ?_, (hR.le (by omega)).eq (fun w hw => by rw [hy0, Int64.zero_mul, Int64.add_zero]), by omega, onlyM.refl⟩
    simp (disch := omega) only [b228_144, l_of, cmp_0, hy0, if_true, b228_155, b228_277, n_add]
  · have hn10 : ¬ (sn = 0 ∧ s = 10) := fun q => hy0 (by
      obtain ⟨rfl, rfl⟩ := q
      rw [ho]
      exact Int64.mul_zero)
    rw [if_neg hn10]
    have hthl : asP nx sn < 4840 := asP_lt hnx hsn
    have hyl := pY_le hthl
    by_cases hy : pY (asP nx sn) = 0
    · obtain ⟨a1, e2, f1⟩ := m_catches (d := d) (b := b) (x := x * jN o * (10 * hun m)) (vt := iN t) (vp := iN (asP nx sn)) rfl rfl (by omega) hthl hE
      refine ⟨.long (x * jN o), .int (iN (asP nx sn)), u14, a1, _, c, ?_, (((hR.fr f1).add (cV (x * jN o * (10 * hun m)) (jN (Q (iN 118) t (asP nx sn) 0)))).le (by omega)).eq (fun w hw => ?_), by omega, (onlyM.fr f1).trans onlyM.sums⟩
      · simp (disch := omega) only [b228_144, l_of, cmp_0, hy0, if_false, b228_158, m_asSeen hnx, Option.bind_some, Option.toList_some, Option.toList_none, List.cons_append, List.nil_append, true_or, or_true, if_true, bI_if, b228_165, m_yardsIn hthl, b228_172, hy, b228_175, hun10, e2, b228_191, b228_277, n_add]
      · unfold arrF
        rw [if_pos hy, cV_mul]
    · obtain ⟨a1, e2, f1⟩ := m_goesBy (d := d+1) (b := b) hE (vt := iN t) (vp := iN (asP nx sn)) rfl rfl (by omega) hthl
      have hg := gonP_le hB B t (asP nx sn)
      have hE1 := hE.fr f1
      have e3 : ∃ a2 b2, Den (d+12) 228 201 [.ref 94,.int (iN t),.int (iN p),.long x,zmJ,.long (hun (m + 1)),zmJ,.int (iN act),.int (iN nx),.int (iN s),.int (iN sn),(.long (x * jN o)),zmJ,(.int (iN (asP nx sn))),u14] [.int (iN (gonP Q B t (asP nx sn)))] (zmMk n a1 b r) = Den (d+12) 228 228 [.ref 94,.int (iN t),.int (iN p),.long x,zmJ,.long (hun (m + 1)),zmJ,.int (iN act),.int (iN nx),.int (iN s),.int (iN sn),(.long (x * jN o)),zmJ,(.int (iN (asP nx sn))),(.int (iN (gonP Q B t (asP nx sn))))] [] (zmMk n a2 b2 r) ∧ RowM N B Q A a2 b2 (t + 1) c u (fun w => Φ w + mV (x * jN o * jN (gonP Q B t (asP nx sn)) * hun m) (jN (Q (iN 109) t (asP nx sn) 0)) (jN (pY (asP nx sn))) w) ∧ onlyM a1 a2 b b2 := by
        by_cases hg0 : gonP Q B t (asP nx sn) = 0
        · refine ⟨a1, b, ?_, (hR.fr f1).eq (fun w hw => ?_), onlyM.refl⟩
          · rw [hg0]
            simp (disch := omega) only [b228_201, n_add, n_mul, n_in, decide_eq_true_eq, n_nat, n_lt, n_eq, n_sub, if_pos, if_neg, if_true, if_false]
          · rw [hg0, jN_0, Int64.mul_zero, Int64.zero_mul]
            unfold mV
            rcases (by omega : w = 0 ∨ w = 1 ∨ w = 2 ∨ w = 3 ∨ w = 4) with rfl | rfl | rfl | rfl | rfl <;> simp
        · obtain ⟨a2, e4, f2⟩ := m_misses (d := d) (b := b) (x := x * jN o * jN (gonP Q B t (asP nx sn)) * hun m) (vt := iN t) (vp := iN (asP nx sn)) rfl rfl (by omega) hthl hE1
          refine ⟨a2, _, ?_, ((hR.fr f1).fr f2).add _, (onlyM.fr f2).trans onlyM.sums⟩
          simp (disch := omega) only [b228_201, n_add, n_mul, n_in, decide_eq_true_eq, n_nat, n_lt, n_eq, n_sub, if_pos, if_neg, if_true, if_false, b228_208, l_of, hun100, e4, Option.bind_some, Option.toList_some, Option.toList_none, List.cons_append, List.nil_append, true_or, or_true, if_true, bI_if]
      obtain ⟨a2, b2, e3, R2, o2⟩ := e3
      have o12 := (onlyM.fr (b := b) f1).trans o2
      have eA : ∀ w, x * jN o * arrF Q B (hun m) (FF Q B A m (t + 1)) t (asP nx sn) w = mV (x * jN o * jN (gonP Q B t (asP nx sn)) * hun m) (jN (Q (iN 109) t (asP nx sn) 0)) (jN (pY (asP nx sn))) w + x * jN o * jN (10 - gonP Q B t (asP nx sn)) * FF Q B A m (t + 1) (asP nx sn) w := by
        intro w
        unfold arrF
        rw [if_neg hy, Int64.mul_add, mV_mul, ← Int64.mul_assoc, ← Int64.mul_assoc]
      by_cases hg1 : gonP Q B t (asP nx sn) = 10
      · refine ⟨.long (x * jN o), .int (iN (asP nx sn)), .int (iN (gonP Q B t (asP nx sn))), a2, b2, c, ?_, (R2.le (by omega)).eq (fun w hw => ?_), by omega, o12⟩
        · simp (disch := omega) only [b228_144, l_of, cmp_0, hy0, if_false, b228_158, m_asSeen hnx, Option.bind_some, Option.toList_some, Option.toList_none, List.cons_append, List.nil_append, true_or, or_true, if_true, bI_if, b228_165, m_yardsIn hthl, b228_172, n_add, n_mul, n_in, decide_eq_true_eq, n_nat, n_lt, n_eq, n_sub, if_pos, if_neg, if_true, if_false, hy, b228_194, e2, e3, b228_228, b228_235, b228_277]
        · rw [eA w, hg1, show jN (10 - 10) = 0 from rfl, Int64.mul_zero, Int64.zero_mul, Int64.add_zero]
      · obtain ⟨P, W, h41, -⟩ := id R2
        have h41' : (uI a2 118 c (iN (asP nx sn))) 94 41 = iN c := by rw [uI_at, if_neg (by omega)]; exact h41
        refine ⟨.long (x * jN o), .int (iN (asP nx sn)), .int (iN (gonP Q B t (asP nx sn))), _, _, c + 1, ?_, ((R2.branch (x * jN o * jN (10 - gonP Q B t (asP nx sn))) hthl).le ?_).eq (fun w hw => ?_), by omega, o12.trans onlyM.branch⟩
        · simp (disch := omega) only [b228_144, l_of, cmp_0, hy0, if_false, b228_158, m_asSeen hnx, Option.bind_some, Option.toList_some, Option.toList_none, List.cons_append, List.nil_append, true_or, or_true, if_true, bI_if, b228_165, m_yardsIn hthl, b228_172, n_add, n_mul, n_in, decide_eq_true_eq, n_nat, n_lt, n_eq, n_sub, if_pos, if_neg, if_true, if_false, hy, b228_194, e2, e3, b228_228, b228_238, h41, b228_249, h41', b228_267, b228_277]
        · rw [pS_asP hsn]
          by_cases h0 : sn = 0
          · rw [if_pos h0, if_pos ⟨h0, by omega⟩]
            exact Nat.le_refl _
          · rw [if_neg h0]
            omega
        · rw [eA w, em2, Int64.add_assoc]
