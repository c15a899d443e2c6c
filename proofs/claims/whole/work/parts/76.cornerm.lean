/-! ===== THE CORNER of the reference: cornerHere, cornerGone ===== -/
def RowK (N B cr act : Nat) (Q : AQ) (a : Nat → Nat → Int32) (b : Nat → Nat → Int64) (T c u g : Nat) (Φ : Int64) : Prop := ∃ (P PG : Nat → Nat) (W WG : Nat → Int64), (a 94 41 = iN c ∧ ∀ i, i < c → a 118 i = iN (P i) ∧ b 122 i = W i ∧ P i < 4840) ∧ usum P c ≤ u ∧ (a 94 55 = iN g ∧ ∀ i, i < g → a 124 i = iN (PG i) ∧ b 126 i = WG i ∧ PG i < 4840) ∧ b 94 62 + psum (fun i => W i * UU Q B cr act (N - T) T (P i)) c + psum (fun i => WG i * UG Q cr act (N - T) T (PG i)) g = Φ
theorem RowK.le {N B cr act T c u u' g : Nat} {Q : AQ} {a : Nat → Nat → Int32} {b : Nat → Nat → Int64} {Φ : Int64} (h : RowK N B cr act Q a b T c u g Φ) (hu : u ≤ u') : RowK N B cr act Q a b T c u' g Φ := by
  obtain ⟨P, PG, W, WG, h1, h2, h3, h4⟩ := h
  exact ⟨P, PG, W, WG, h1, Nat.le_trans h2 hu, h3, h4⟩
theorem RowK.eq {N B cr act T c u g : Nat} {Q : AQ} {a : Nat → Nat → Int32} {b : Nat → Nat → Int64} {Φ Ψ : Int64} (h : RowK N B cr act Q a b T c u g Φ) (e : Φ = Ψ) : RowK N B cr act Q a b T c u g Ψ := by rw [← e]; exact h
theorem RowK.ag {N B cr act T c u g : Nat} {Q : AQ} {a a' : Nat → Nat → Int32} {b b' : Nat → Nat → Int64} {Φ : Int64} (h : RowK N B cr act Q a b T c u g Φ) (h1 : a' 94 = a 94) (h2 : a' 118 = a 118) (h3 : a' 124 = a 124) (h4 : b' 94 = b 94) (h5 : b' 122 = b 122) (h6 : b' 126 = b 126) : RowK N B cr act Q a' b' T c u g Φ := by
  unfold RowK
  rw [h1, h2, h3, h4, h5, h6]
  exact h
theorem RowK.fr {N B cr act T c u g : Nat} {Q : AQ} {a a' : Nat → Nat → Int32} {b : Nat → Nat → Int64} {Φ : Int64} (h : RowK N B cr act Q a b T c u g Φ) (hf : frM a a') : RowK N B cr act Q a' b T c u g Φ := h.ag (hf 94 rfl) (hf 118 rfl) (hf 124 rfl) rfl rfl rfl
theorem RowK.add {N B cr act T c u g : Nat} {Q : AQ} {a : Nat → Nat → Int32} {b : Nat → Nat → Int64} {Φ : Int64} (h : RowK N B cr act Q a b T c u g Φ) (y : Int64) : RowK N B cr act Q a (uL b 94 62 (b 94 62 + y)) T c u g (Φ + y) := by
  obtain ⟨P, PG, W, WG, h1, h2, h3, h4⟩ := h
  refine ⟨P, PG, W, WG, ⟨h1.1, fun i hi => ?_⟩, h2, ⟨h3.1, fun i hi => ?_⟩, ?_⟩
  · rw [uL_at, if_neg (by omega)]; exact h1.2 i hi
  · rw [uL_at, if_neg (by omega)]; exact h3.2 i hi
  · rw [uL_at, if_pos ⟨rfl, rfl⟩, ← h4]
    generalize psum _ c = z1
    generalize psum _ g = z2
    grind
theorem RowK.next {N B cr act T c u g p : Nat} {Q : AQ} {a : Nat → Nat → Int32} {b : Nat → Nat → Int64} {Φ : Int64} (h : RowK N B cr act Q a b T c u g Φ) (x : Int64) (hp : p < 4840) : RowK N B cr act Q (uI (uI a 118 c (iN p)) 94 41 (iN (c + 1))) (uL b 122 c x) T (c + 1) (u + (if pS p = 0 then 1 else 0)) g (Φ + x * UU Q B cr act (N - T) T p) := by
  obtain ⟨P, PG, W, WG, h1, h2, h3, h4⟩ := h
  refine ⟨fun i => if i = c then p else P i, PG, fun i => if i = c then x else W i, WG, ⟨by rw [uI_at, if_pos ⟨rfl, rfl⟩], fun i hi => ?_⟩, ?_, ⟨by rw [uI_at, if_neg (by omega), uI_at, if_neg (by omega)]; exact h3.1, fun i hi => ?_⟩, ?_⟩
  · dsimp only
    by_cases hc : i = c
    · refine ⟨by rw [uI_at, if_neg (by omega), uI_at, if_pos ⟨rfl, hc⟩, if_pos hc], by rw [uL_at, if_pos ⟨rfl, hc⟩, if_pos hc], by rw [if_pos hc]; exact hp⟩
    · obtain ⟨q1, q2, q3⟩ := h1.2 i (by omega)
      refine ⟨by rw [uI_at, if_neg (by omega), uI_at, if_neg (by omega), if_neg hc]; exact q1, by rw [uL_at, if_neg (by omega), if_neg hc]; exact q2, by rw [if_neg hc]; exact q3⟩
  · simp only [usum]
    rw [usum_congr (g := P) (fun i hi => if_neg (Nat.ne_of_lt hi))]
    simp only [if_true]
    omega
  · rw [uI_at, if_neg (by omega), uI_at, if_neg (by omega), uL_at, if_neg (by omega)]
    exact h3.2 i hi
  · simp only [psum]
    rw [psum_congr (g := fun i => W i * UU Q B cr act (N - T) T (P i)) (fun i hi => by simp only [if_neg (Nat.ne_of_lt hi)])]
    simp only [if_true]
    rw [uL_at, if_neg (by omega), ← h4]
    generalize psum _ c = z1
    generalize psum _ g = z2
    generalize UU Q B cr act (N - T) T p = z3
    grind
theorem RowK.gone {N B cr act T c u g p : Nat} {Q : AQ} {a : Nat → Nat → Int32} {b : Nat → Nat → Int64} {Φ : Int64} (h : RowK N B cr act Q a b T c u g Φ) (x : Int64) (hp : p < 4840) : RowK N B cr act Q (uI (uI a 124 g (iN p)) 94 55 (iN (g + 1))) (uL b 126 g x) T c u (g + 1) (Φ + x * UG Q cr act (N - T) T p) := by
  obtain ⟨P, PG, W, WG, h1, h2, h3, h4⟩ := h
  refine ⟨P, fun i => if i = g then p else PG i, W, fun i => if i = g then x else WG i, ⟨by rw [uI_at, if_neg (by omega), uI_at, if_neg (by omega)]; exact h1.1, fun i hi => ?_⟩, h2, ⟨by rw [uI_at, if_pos ⟨rfl, rfl⟩], fun i hi => ?_⟩, ?_⟩
  · rw [uI_at, if_neg (by omega), uI_at, if_neg (by omega), uL_at, if_neg (by omega)]
    exact h1.2 i hi
  · dsimp only
    by_cases hc : i = g
    · refine ⟨by rw [uI_at, if_neg (by omega), uI_at, if_pos ⟨rfl, hc⟩, if_pos hc], by rw [uL_at, if_pos ⟨rfl, hc⟩, if_pos hc], by rw [if_pos hc]; exact hp⟩
    · obtain ⟨q1, q2, q3⟩ := h3.2 i (by omega)
      refine ⟨by rw [uI_at, if_neg (by omega), uI_at, if_neg (by omega), if_neg hc]; exact q1, by rw [uL_at, if_neg (by omega), if_neg hc]; exact q2, by rw [if_neg hc]; exact q3⟩
  · simp only [psum]
    rw [psum_congr (f := fun i => (if i = g then x else WG i) * UG Q cr act (N - T) T (if i = g then p else PG i)) (g := fun i => WG i * UG Q cr act (N - T) T (PG i)) (fun i hi => by simp only [if_neg (Nat.ne_of_lt hi)])]
    simp only [if_true]
    rw [uL_at, if_neg (by omega), ← h4]
    generalize psum _ c = z1
    generalize psum _ g = z2
    generalize UG Q cr act (N - T) T p = z3
    grind
def onlyK (a a' : Nat → Nat → Int32) (b b' : Nat → Nat → Int64) : Prop := (∀ k, scS k = false → k ≠ 118 → k ≠ 124 → k ≠ 94 → a' k = a k) ∧ (∀ j, j ≠ 41 → j ≠ 55 → a' 94 j = a 94 j) ∧ (∀ k, k ≠ 115 → k ≠ 122 → k ≠ 126 → k ≠ 94 → b' k = b k) ∧ ∀ j, j ≠ 62 → b' 94 j = b 94 j
theorem onlyK.refl {a : Nat → Nat → Int32} {b : Nat → Nat → Int64} : onlyK a a b b := ⟨fun _ _ _ _ _ => rfl, fun _ _ _ => rfl, fun _ _ _ _ _ => rfl, fun _ _ => rfl⟩
theorem onlyK.trans {a a1 a2 : Nat → Nat → Int32} {b b1 b2 : Nat → Nat → Int64} (h : onlyK a a1 b b1) (h2 : onlyK a1 a2 b1 b2) : onlyK a a2 b b2 := ⟨fun k p q s t => (h2.1 k p q s t).trans (h.1 k p q s t), fun j p q => (h2.2.1 j p q).trans (h.2.1 j p q), fun k p q s t => (h2.2.2.1 k p q s t).trans (h.2.2.1 k p q s t), fun j p => (h2.2.2.2 j p).trans (h.2.2.2 j p)⟩
theorem onlyK.sol {a a' : Nat → Nat → Int32} {b b' : Nat → Nat → Int64} (h : frS scS a a') (hl : frL scSL b b') : onlyK a a' b b' := ⟨fun k p _ _ _ => h k p, fun j _ _ => by rw [h 94 rfl], fun k p _ _ _ => hl k (by
  cases h3 : scSL k with
  | false => rfl
  | true => exact absurd (Nat.eq_of_beq_eq_true h3) p), fun j _ => by rw [hl 94 rfl]⟩
theorem onlyK.fr {a a' : Nat → Nat → Int32} {b : Nat → Nat → Int64} (h : frM a a') : onlyK a a' b b := onlyK.sol h.toS frL.refl
theorem onlyK.add {a : Nat → Nat → Int32} {b : Nat → Nat → Int64} {y : Int64} : onlyK a a b (uL b 94 62 y) := ⟨fun _ _ _ _ _ => rfl, fun _ _ _ => rfl, fun k _ _ _ h => by funext j; rw [uL_at, if_neg (by omega)], fun j h => by rw [uL_at, if_neg (by omega)]⟩
theorem onlyK.next {a : Nat → Nat → Int32} {b : Nat → Nat → Int64} {c : Nat} {v w : Int32} {x : Int64} : onlyK a (uI (uI a 118 c v) 94 41 w) b (uL b 122 c x) := ⟨fun k _ h1 _ h2 => by funext j; rw [uI_at, if_neg (by omega), uI_at, if_neg (by omega)], fun j h _ => by rw [uI_at, if_neg (by omega), uI_at, if_neg (by omega)], fun k _ h _ _ => by funext j; rw [uL_at, if_neg (by omega)], fun j h => by rw [uL_at, if_neg (by omega)]⟩
theorem onlyK.gone {a : Nat → Nat → Int32} {b : Nat → Nat → Int64} {c : Nat} {v w : Int32} {x : Int64} : onlyK a (uI (uI a 124 c v) 94 55 w) b (uL b 126 c x) := ⟨fun k _ _ h1 h2 => by funext j; rw [uI_at, if_neg (by omega), uI_at, if_neg (by omega)], fun j _ h => by rw [uI_at, if_neg (by omega), uI_at, if_neg (by omega)], fun k _ _ h _ => by funext j; rw [uL_at, if_neg (by omega)], fun j h => by rw [uL_at, if_neg (by omega)]⟩
theorem dpM_K (k j : Nat) (h : dpM k j = true) : k ≠ 118 ∧ k ≠ 124 ∧ k ≠ 117 ∧ k ≠ 123 ∧ (k = 94 → j ≠ 41 ∧ j ≠ 55 ∧ j ≠ 40 ∧ j ≠ 54 ∧ j ≠ 57) := ⟨fun q => by rw [q] at h; simp [dpM, dpMA] at h, fun q => by rw [q] at h; simp [dpM, dpMA] at h, fun q => by rw [q] at h; simp [dpM, dpMA] at h, fun q => by rw [q] at h; simp [dpM, dpMA] at h, fun q => ⟨fun q2 => by rw [q, q2] at h; simp [dpM, dpMA] at h, fun q2 => by rw [q, q2] at h; simp [dpM, dpMA] at h, fun q2 => by rw [q, q2] at h; simp [dpM, dpMA] at h, fun q2 => by rw [q, q2] at h; simp [dpM, dpMA] at h, fun q2 => by rw [q, q2] at h; simp [dpM, dpMA] at h⟩⟩
theorem onlyK.agM {a a' : Nat → Nat → Int32} {b b' : Nat → Nat → Int64} (h : onlyK a a' b b') : agD dpM a a' := fun k j hp => by
  obtain ⟨h1, h2, -, -, h3⟩ := dpM_K k j hp
  by_cases hk : k = 94
  · rw [hk]
    exact h.2.1 j (h3 hk).1 (h3 hk).2.1
  · rw [h.1 k (dpM_scS k j hp) h1 h2 hk]
set_option maxHeartbeats 1000000 in
theorem m_herePart {n N B cr act t m c u g p nx s sn d : Nat} {r : Nat → Nat → Option Nat} {Q : AQ} {a : Nat → Nat → Int32} {b : Nat → Nat → Int64} {Φ x : Int64} (ht : t + m + 1 = N) (hsn : sn ≤ 1) (hs : s ≤ 10) (hnx : nx < 4840) (hE : EnvM n r a N B Q) (hc : c < 20) (hg : g < 200) (hR : RowK N B cr act Q a b (t + 1) c u g Φ) (u10 u12 u13 : Value) : ∃ v10 v12 v13 a' b' c' g', Den (d+12) 235 132 [.ref 94,.int (iN t),.int (iN p),.long x,zmJ,.long (hun (m + 1)),zmJ,.int (iN nx),.int (iN s),.int (iN sn),u10,zmJ,u12,u13] [] (zmMk n a b r) = Den (d+12) 235 132 [.ref 94,.int (iN t),.int (iN p),.long x,zmJ,.long (hun (m + 1)),zmJ,.int (iN nx),.int (iN s),.int (iN (sn + 1)),v10,zmJ,v12,v13] [] (zmMk n a' b' r) ∧ RowK N B cr act Q a' b' (t + 1) c' (u + (if sn = 0 ∧ s < 10 then 1 else 0)) g' (Φ + x * crnV Q B (hun m) (UG Q cr act m (t + 1)) (UU Q B cr act m (t + 1)) t nx s sn) ∧ c' ≤ c + (if sn = 0 ∧ s = 10 then 0 else 1) ∧ g' ≤ g + 1 ∧ onlyK a a' b b' := by
  have h8 := hE.n8
  have hB := hE.qb
  have em2 : N - (t + 1) = m := by omega
  obtain ⟨o, ho, e1⟩ : ∃ o, o = (if sn = 1 then s else 10 - s) ∧ Den (d+12) 235 132 [.ref 94,.int (iN t),.int (iN p),.long x,zmJ,.long (hun (m + 1)),zmJ,.int (iN nx),.int (iN s),.int (iN sn),u10,zmJ,u12,u13] [] (zmMk n a b r) = Den (d+12) 235 155 [.ref 94,.int (iN t),.int (iN p),.long x,zmJ,.long (hun (m + 1)),zmJ,.int (iN nx),.int (iN s),.int (iN sn),u10,zmJ,u12,u13] [.int (iN o), .long x] (zmMk n a b r) := by
    rcases (by omega : sn = 0 ∨ sn = 1) with rfl | rfl
    · refine ⟨10 - s, rfl, ?_⟩
      rw [b235_132]
      simp (disch := omega) only [n_add, n_mul, n_in, decide_eq_true_eq, n_nat, n_lt, n_eq, n_sub, if_pos, if_neg, if_true, if_false, b235_0, b235_4, b235_11, b235_23, b235_29, b235_38, b235_48, b235_58, b235_61, b235_78, b235_84, b235_87, b235_98, b235_105, b235_115, b235_127, b235_138, b235_145, b235_150, b235_166, b235_169, b235_176, b235_183, b235_186, b235_207, b235_216, b235_223, b235_230, b235_266, b235_273, b235_276, b235_315, b235_321, b235_241, b235_287, b235_256, b235_305]
    · refine ⟨s, rfl, ?_⟩
      rw [b235_132]
      simp (disch := omega) only [n_add, n_mul, n_in, decide_eq_true_eq, n_nat, n_lt, n_eq, n_sub, if_pos, if_neg, if_true, if_false, b235_0, b235_4, b235_11, b235_23, b235_29, b235_38, b235_48, b235_58, b235_61, b235_78, b235_84, b235_87, b235_98, b235_105, b235_115, b235_127, b235_138, b235_145, b235_150, b235_166, b235_169, b235_176, b235_183, b235_186, b235_207, b235_216, b235_223, b235_230, b235_266, b235_273, b235_276, b235_315, b235_321, b235_241, b235_287, b235_256, b235_305]
  have hob : o ≤ 10 := by rw [ho]; split <;> omega
  rw [e1]
  unfold crnV
  rw [← ho]
  by_cases hy0 : x * jN o = 0
  · refine ⟨.long (x * jN o), u12, u13, a, b, c, g, ?_, ?_, by omega, by omega, onlyK.refl⟩
    · simp (disch := omega) only [b235_155, l_of, cmp_0, hy0, if_true, b235_166, b235_315, n_add]
    · have ez : x * (if o = 0 then 0 else if pY (asP nx sn) = 0 then 10 * jN o * jN (Q (iN 118) t (asP nx sn) 0) * hun m else jN o * jN (gonP Q B t (asP nx sn)) * UG Q cr act m (t + 1) (asP nx sn) + jN o * jN (10 - gonP Q B t (asP nx sn)) * UU Q B cr act m (t + 1) (asP nx sn)) = 0 := by
        split
        · exact Int64.mul_zero
        · split
          · rw [show x * (10 * jN o * jN (Q (iN 118) t (asP nx sn) 0) * hun m) = x * jN o * (10 * jN (Q (iN 118) t (asP nx sn) 0) * hun m) by grind, hy0, Int64.zero_mul]
          · rw [Int64.mul_add, Int64.mul_assoc (jN o), Int64.mul_assoc (jN o), ← Int64.mul_assoc x, ← Int64.mul_assoc x, hy0, Int64.zero_mul, Int64.zero_mul, Int64.add_zero]
      exact (hR.le (by omega)).eq (by rw [ez, Int64.add_zero])
  · have hn10 : ¬ (sn = 0 ∧ s = 10) := fun q => hy0 (by
      obtain ⟨rfl, rfl⟩ := q
      rw [ho]
      exact Int64.mul_zero)
    have ho0 : o ≠ 0 := fun q => hy0 (by rw [q]; exact Int64.mul_zero)
    rw [if_neg hn10, if_neg ho0]
    have hthl : asP nx sn < 4840 := asP_lt hnx hsn
    have hyl := pY_le hthl
    by_cases hy : pY (asP nx sn) = 0
    · obtain ⟨a1, e2, f1⟩ := m_worth (d := d+1) (b := b) (vt := iN t) (vp := iN (asP nx sn)) hE rfl rfl (by omega) hthl
      have hv := hB.v t (asP nx sn) 0
      have R1 := (hR.fr f1).add (x * jN o * (10 * hun m) * jN (Q (iN 118) t (asP nx sn) 0))
      refine ⟨.long (x * jN o), .int (iN (asP nx sn)), u13, a1, _, c, g, ?_, (R1.le (by omega)).eq ?_, by omega, by omega, (onlyK.fr f1).trans onlyK.add⟩
      · simp (disch := omega) only [b235_155, l_of, cmp_0, hy0, if_false, b235_169, m_asSeen hnx, Option.bind_some, Option.toList_some, Option.toList_none, List.cons_append, List.nil_append, true_or, or_true, if_true, bI_if, b235_176, m_yardsIn hthl, b235_183, hy, b235_186, hun10, e2, b235_207, b235_315, n_add]
      · rw [if_pos hy]
        congr 1
        generalize hun m = w1
        generalize jN (Q (iN 118) t (asP nx sn) 0) = w2
        grind
    · obtain ⟨a1, e2, f1⟩ := m_goesBy (d := d+1) (b := b) hE (vt := iN t) (vp := iN (asP nx sn)) rfl rfl (by omega) hthl
      have hgb := gonP_le hB B t (asP nx sn)
      rw [if_neg hy]
      have e3 : ∃ a2 b2 g2, Den (d+12) 235 223 [.ref 94,.int (iN t),.int (iN p),.long x,zmJ,.long (hun (m + 1)),zmJ,.int (iN nx),.int (iN s),.int (iN sn),(.long (x * jN o)),zmJ,(.int (iN (asP nx sn))),u13] [.int (iN (gonP Q B t (asP nx sn)))] (zmMk n a1 b r) = Den (d+12) 235 266 [.ref 94,.int (iN t),.int (iN p),.long x,zmJ,.long (hun (m + 1)),zmJ,.int (iN nx),.int (iN s),.int (iN sn),(.long (x * jN o)),zmJ,(.int (iN (asP nx sn))),(.int (iN (gonP Q B t (asP nx sn))))] [] (zmMk n a2 b2 r) ∧ RowK N B cr act Q a2 b2 (t + 1) c u g2 (Φ + x * jN o * jN (gonP Q B t (asP nx sn)) * UG Q cr act m (t + 1) (asP nx sn)) ∧ g2 ≤ g + 1 ∧ onlyK a1 a2 b b2 := by
        by_cases hg0 : gonP Q B t (asP nx sn) = 0
        · refine ⟨a1, b, g, ?_, (hR.fr f1).eq ?_, by omega, onlyK.refl⟩
          · rw [hg0]
            simp (disch := omega) only [b235_223, n_add, n_mul, n_in, decide_eq_true_eq, n_nat, n_lt, n_eq, n_sub, if_pos, if_neg, if_true, if_false]
          · rw [hg0, jN_0, Int64.mul_zero, Int64.zero_mul, Int64.add_zero]
        · have R1 := (hR.fr f1).gone (x * jN o * jN (gonP Q B t (asP nx sn))) hthl
          rw [em2] at R1
          obtain ⟨P, PG, W, WG, -, -, ⟨h55, -⟩, -⟩ := hR.fr f1
          have h55' : (uI a1 124 g (iN (asP nx sn))) 94 55 = iN g := by rw [uI_at, if_neg (by omega)]; exact h55
          refine ⟨_, _, g + 1, ?_, R1, Nat.le_refl _, onlyK.gone⟩
          simp (disch := omega) only [b235_223, n_add, n_mul, n_in, decide_eq_true_eq, n_nat, n_lt, n_eq, n_sub, if_pos, if_neg, if_true, if_false, b235_230, h55, b235_241, l_of, h55', b235_256]
      obtain ⟨a2, b2, g2, e3, R2, k2, o2⟩ := e3
      have o12 := (onlyK.fr (b := b) f1).trans o2
      have eA : Φ + x * (jN o * jN (gonP Q B t (asP nx sn)) * UG Q cr act m (t + 1) (asP nx sn) + jN o * jN (10 - gonP Q B t (asP nx sn)) * UU Q B cr act m (t + 1) (asP nx sn)) = Φ + x * jN o * jN (gonP Q B t (asP nx sn)) * UG Q cr act m (t + 1) (asP nx sn) + x * jN o * jN (10 - gonP Q B t (asP nx sn)) * UU Q B cr act m (t + 1) (asP nx sn) := by
        generalize jN (gonP Q B t (asP nx sn)) = w1
        generalize jN (10 - gonP Q B t (asP nx sn)) = w2
        generalize UG Q cr act m (t + 1) (asP nx sn) = w3
        generalize UU Q B cr act m (t + 1) (asP nx sn) = w4
        grind
      by_cases hg1 : gonP Q B t (asP nx sn) = 10
      · refine ⟨.long (x * jN o), .int (iN (asP nx sn)), .int (iN (gonP Q B t (asP nx sn))), a2, b2, c, g2, ?_, (R2.le (by omega)).eq ?_, by omega, k2, o12⟩
        · simp (disch := omega) only [b235_155, l_of, cmp_0, hy0, if_false, b235_169, m_asSeen hnx, Option.bind_some, Option.toList_some, Option.toList_none, List.cons_append, List.nil_append, true_or, or_true, if_true, bI_if, b235_176, m_yardsIn hthl, b235_183, n_add, n_mul, n_in, decide_eq_true_eq, n_nat, n_lt, n_eq, n_sub, if_pos, if_neg, if_true, if_false, hy, b235_216, e2, e3, b235_266, b235_273, b235_315]
        · rw [eA, hg1, show jN (10 - 10) = 0 from rfl, Int64.mul_zero, Int64.zero_mul, Int64.add_zero]
      · have R3 := R2.next (x * jN o * jN (10 - gonP Q B t (asP nx sn))) hthl
        rw [em2] at R3
        obtain ⟨P, PG, W, WG, ⟨h41, -⟩, -, -, -⟩ := R2
        have h41' : (uI a2 118 c (iN (asP nx sn))) 94 41 = iN c := by rw [uI_at, if_neg (by omega)]; exact h41
        refine ⟨.long (x * jN o), .int (iN (asP nx sn)), .int (iN (gonP Q B t (asP nx sn))), _, _, c + 1, g2, ?_, (R3.le ?_).eq eA.symm, by omega, k2, o12.trans onlyK.next⟩
        · simp (disch := omega) only [b235_155, l_of, cmp_0, hy0, if_false, b235_169, m_asSeen hnx, Option.bind_some, Option.toList_some, Option.toList_none, List.cons_append, List.nil_append, true_or, or_true, if_true, bI_if, b235_176, m_yardsIn hthl, b235_183, n_add, n_mul, n_in, decide_eq_true_eq, n_nat, n_lt, n_eq, n_sub, if_pos, if_neg, if_true, if_false, hy, b235_216, e2, e3, b235_266, b235_276, h41, b235_287, h41', b235_305, b235_315]
        · rw [pS_asP hsn]
          by_cases h0 : sn = 0
          · rw [if_pos h0, if_pos ⟨h0, by omega⟩]
            exact Nat.le_refl _
          · rw [if_neg h0]
            omega
