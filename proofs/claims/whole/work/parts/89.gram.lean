/-! ===== what the grammar gives is well made ===== -/
def gdR (n c p : Nat) (z : PR) : Prop := match z with
  | .inl (k, q) => 1 ≤ k ∧ k ≤ 5 ∧ p ≤ q ∧ q ≤ n
  | .inr (q, os) => p < q ∧ q ≤ n ∧ os.length ≤ q - p ∧ SegE c os
def gdB (n c p : Nat) (z : PR) : Prop := match z with
  | .inl (k, q) => 1 ≤ k ∧ k ≤ 5 ∧ p ≤ q ∧ q ≤ n
  | .inr (q, os) => p < q ∧ q ≤ n ∧ os.length ≤ q - p ∧ SegB c os
def endN (nx : Nat → Nat) (n : Nat) : Prop := ∀ p, n ≤ p → nx p = 256
theorem endN.lt {nx : Nat → Nat} {n p : Nat} (h : endN nx n) (h2 : nx p ≠ 256) : p < n := by
  by_cases h3 : p < n
  · exact h3
  · exact absurd (h p (by omega)) h2
theorem isDg_d {c : Nat} (h : isDg c = true) : 48 ≤ c ∧ c ≤ 57 := by
  unfold isDg at h
  rw [Bool.and_eq_true] at h
  exact ⟨Nat.ble_eq.mp h.1, Nat.ble_eq.mp h.2⟩
theorem isDg_of {c : Nat} (h1 : 48 ≤ c) (h2 : c ≤ 57) : isDg c = true := by
  unfold isDg
  rw [Bool.and_eq_true]
  exact ⟨Nat.ble_eq.mpr h1, Nat.ble_eq.mpr h2⟩
theorem isDg_no {c : Nat} (h : ¬ (48 ≤ c ∧ c ≤ 57)) : isDg c = false := by
  cases h2 : isDg c with
  | false => rfl
  | true => exact absurd (isDg_d h2) h
theorem ltI_lt {c : Nat} (h : ltI c < 10) : c < 256 := by
  by_cases h2 : c < 256
  · exact h2
  · unfold ltI at h
    repeat' (split at h)
    all_goals omega
theorem pDig_ok {nx : Nat → Nat} {n : Nat} (hn : endN nx n) (k : Nat) : ∀ (v p w : Nat), p ≤ n → v < 10 ^ w → p ≤ (pDig nx k v p).2 ∧ (pDig nx k v p).2 ≤ n ∧ (pDig nx k v p).2 ≤ p + k ∧ (pDig nx k v p).1 < 10 ^ (w + k) ∧ (0 < k → isDg (nx p) = true → p < (pDig nx k v p).2) := by
  induction k with
  | zero => exact fun v p w hp hv => ⟨Nat.le_refl _, hp, Nat.le_refl _, hv, fun h => by omega⟩
  | succ k ih =>
    intro v p w hp hv
    show p ≤ (if isDg (nx p) then pDig nx k (10 * v + (nx p - 48)) (p + 1) else (v, p)).2 ∧ (if isDg (nx p) then pDig nx k (10 * v + (nx p - 48)) (p + 1) else (v, p)).2 ≤ n ∧ (if isDg (nx p) then pDig nx k (10 * v + (nx p - 48)) (p + 1) else (v, p)).2 ≤ p + (k + 1) ∧ (if isDg (nx p) then pDig nx k (10 * v + (nx p - 48)) (p + 1) else (v, p)).1 < 10 ^ (w + (k + 1)) ∧ (0 < k + 1 → isDg (nx p) = true → p < (if isDg (nx p) then pDig nx k (10 * v + (nx p - 48)) (p + 1) else (v, p)).2)
    by_cases h : isDg (nx p) = true
    · obtain ⟨h1, h2⟩ := isDg_d h
      have h3 := hn.lt (p := p) (by omega)
      have e10 : 10 ^ (w + 1) = 10 ^ w * 10 := Nat.pow_succ ..
      obtain ⟨i1, i2, i3, i4, -⟩ := ih (10 * v + (nx p - 48)) (p + 1) (w + 1) (by omega) (by omega)
      rw [if_pos h]
      refine ⟨by omega, i2, by omega, ?_, fun _ _ => by omega⟩
      rw [show w + (k + 1) = w + 1 + k by omega]
      exact i4
    · rw [if_neg h]
      refine ⟨Nat.le_refl _, hp, by show p ≤ _; omega, ?_, fun _ h2 => absurd h2 h⟩
      exact Nat.lt_of_lt_of_le hv (Nat.pow_le_pow_right (by omega) (by omega))
theorem gd_num {nx : Nat → Nat} {n p : Nat} (hn : endN nx n) (hp : p ≤ n) : gdR n 1 p (pNum nx p) := by
  unfold pNum
  obtain ⟨i1, i2, i3, i4, i5⟩ := pDig_ok hn 5 0 p 0 hp (by decide)
  by_cases h : isDg (nx p) = true
  · have h5 := i5 (by omega) h
    rw [if_pos h]
    split
    · exact ⟨by omega, by omega, i1, i2⟩
    · exact ⟨h5, i2, by show 1 ≤ _; omega, seg_num i4⟩
  · rw [if_neg h]
    exact ⟨by omega, by omega, Nat.le_refl _, hp⟩
theorem gd_brk {nx : Nat → Nat} {n c p k : Nat} {z : PR} (hn : endN nx n) (hk : k ≠ 256) (hz : gdR n c (p + 1) z) : gdR n c p (pBrk nx k z) := by
  cases z with
  | inl e =>
    obtain ⟨h1, h2, h3, h4⟩ := hz
    exact ⟨h1, h2, by omega, h4⟩
  | inr e =>
    obtain ⟨q, os⟩ := e
    obtain ⟨h1, h2, h3, h4⟩ := hz
    show gdR n c p (if nx q = k then .inr (q + 1, os) else .inl (1, q))
    by_cases h : nx q = k
    · have := hn.lt (p := q) (by omega)
      rw [if_pos h]
      exact ⟨by omega, by omega, by omega, h4⟩
    · rw [if_neg h]
      exact ⟨by omega, by omega, by omega, h2⟩
theorem gdB_brk {nx : Nat → Nat} {n c p k : Nat} {z : PR} (hn : endN nx n) (hk : k ≠ 256) (hz : gdB n c (p + 1) z) : gdB n c p (pBrk nx k z) := by
  cases z with
  | inl e =>
    obtain ⟨h1, h2, h3, h4⟩ := hz
    exact ⟨h1, h2, by omega, h4⟩
  | inr e =>
    obtain ⟨q, os⟩ := e
    obtain ⟨h1, h2, h3, h4⟩ := hz
    show gdB n c p (if nx q = k then .inr (q + 1, os) else .inl (1, q))
    by_cases h : nx q = k
    · have := hn.lt (p := q) (by omega)
      rw [if_pos h]
      exact ⟨by omega, by omega, by omega, h4⟩
    · rw [if_neg h]
      exact ⟨by omega, by omega, by omega, h2⟩
theorem gd_fac {nx : Nat → Nat} {n c p : Nat} {g : Nat → PR} (hn : endN nx n) (hc : 1 ≤ c) (hg : nx p = 91 → gdR n c p (g p)) (hp : p ≤ n) : gdR n c p (pFac nx g p) := by
  unfold pFac
  by_cases h : ltI (nx p) < 10
  · have h2 := hn.lt (p := p) (by have := ltI_lt h; omega)
    rw [if_pos h]
    exact ⟨by omega, by omega, by show 1 ≤ _; omega, (seg_let h).mono hc⟩
  · rw [if_neg h]
    by_cases h3 : nx p = 91
    · rw [if_pos h3]
      exact hg h3
    · rw [if_neg h3]
      have h4 := gd_num hn hp
      cases hz : pNum nx p with
      | inl e => rw [hz] at h4; exact h4
      | inr e =>
        rw [hz] at h4
        exact ⟨h4.1, h4.2.1, h4.2.2.1, h4.2.2.2.mono hc⟩
theorem tmO_r {c : Nat} (h : tmO c ≠ 0) : 2 ≤ tmO c ∧ tmO c ≤ 9 ∧ c < 256 := by
  unfold tmO at *
  repeat' (split at h)
  all_goals first | omega | (rename_i h0; subst h0; exact ⟨by decide, by decide, by decide⟩) | (rename_i h1 h0; subst h0; exact ⟨by decide, by decide, by decide⟩) | skip
  all_goals simp_all
theorem plO_r {c : Nat} (h : plO c ≠ 0) : 2 ≤ plO c ∧ plO c ≤ 9 ∧ c < 256 := by
  unfold plO at *
  by_cases h1 : c = 43
  · simp [h1]
  · by_cases h2 : c = 45
    · simp [h2]
    · simp [h1, h2] at h
theorem cmO_r {c : Nat} (h : cmO c ≠ 0) : 7 ≤ cmO c ∧ cmO c ≤ 9 ∧ c < 256 := by
  unfold cmO at *
  by_cases h1 : c = 60
  · simp [h1]
  · by_cases h2 : c = 62
    · simp [h2]
    · by_cases h3 : c = 61
      · simp [h3]
      · simp [h1, h2, h3] at h
theorem gd_tms {nx : Nat → Nat} {n c p0 : Nat} {fac : Nat → PR} (hn : endN nx n) (hf : ∀ p, p ≤ n → gdR n c p (fac p)) (k : Nat) : ∀ (p : Nat) (os : Ops), p0 < p → p ≤ n → os.length ≤ p - p0 → SegE (c + 1) os → gdR n (c + 1) p0 (pTms nx fac k p os) := by
  induction k with
  | zero => exact fun p os h1 h2 h3 h4 => ⟨h1, h2, h3, h4⟩
  | succ k ih =>
    intro p os h1 h2 h3 h4
    show gdR n (c + 1) p0 (if tmO (nx p) = 0 then .inr (p, os) else match fac (p + 1) with
      | .inl e => .inl e
      | .inr (q, o2) => pTms nx fac k q (os ++ (o2 ++ [(tmO (nx p), 0)])))
    by_cases h : tmO (nx p) = 0
    · rw [if_pos h]
      exact ⟨h1, h2, h3, h4⟩
    · obtain ⟨r1, r2, r3⟩ := tmO_r h
      have hpn := hn.lt (p := p) (by omega)
      have hg := hf (p + 1) (by omega)
      rw [if_neg h]
      cases hz : fac (p + 1) with
      | inl e =>
        rw [hz] at hg
        exact ⟨hg.1, hg.2.1, by have := hg.2.2.1; omega, hg.2.2.2⟩
      | inr e =>
        obtain ⟨q, o2⟩ := e
        rw [hz] at hg
        obtain ⟨g1, g2, g3, g4⟩ := hg
        refine ih q _ (by omega) g2 ?_ ?_
        · simp only [List.length_append, List.length_cons, List.length_nil]
          omega
        · exact (seg_bin r1 r2 h4 g4).mono (by omega)
theorem gd_sms {nx : Nat → Nat} {n c p0 : Nat} {fac : Nat → PR} (hn : endN nx n) (hf : ∀ p, p ≤ n → gdR n c p (fac p)) (k : Nat) : ∀ (p bf : Nat) (os : Ops), (bf = 0 → p = p0) → (bf ≠ 0 → p0 < p ∧ 2 ≤ bf ∧ bf ≤ 9 ∧ os.length + 1 ≤ p - p0 ∧ SegE (c + 2) os) → p ≤ n → n < p + k → gdR n (c + 2) p0 (pSms nx n fac k p bf os) := by
  induction k with
  | zero => exact fun p bf os h1 h2 h3 h4 => by omega
  | succ k ih =>
    intro p bf os h1 h2 h3 h4
    have hg := hf p h3
    have hle : p0 ≤ p := by
      by_cases hb : bf = 0
      · rw [h1 hb]; omega
      · have := (h2 hb).1; omega
    show gdR n (c + 2) p0 (match fac p with
      | .inl e => .inl e
      | .inr (q, o1) => match pTms nx fac (n + 1) q o1 with
        | .inl e => .inl e
        | .inr (q2, o2) => if plO (nx q2) = 0 then .inr (q2, pBf os o2 bf) else pSms nx n fac k (q2 + 1) (plO (nx q2)) (pBf os o2 bf))
    cases hz : fac p with
    | inl e =>
      rw [hz] at hg
      exact ⟨hg.1, hg.2.1, by have := hg.2.2.1; omega, hg.2.2.2⟩
    | inr e =>
      obtain ⟨q, o1⟩ := e
      rw [hz] at hg
      obtain ⟨g1, g2, g3, g4⟩ := hg
      have ht := gd_tms hn hf (n + 1) q o1 g1 g2 g3 (g4.mono (by omega))
      dsimp only
      cases hy : pTms nx fac (n + 1) q o1 with
      | inl e =>
        rw [hy] at ht
        exact ⟨ht.1, ht.2.1, by have := ht.2.2.1; omega, ht.2.2.2⟩
      | inr e =>
        obtain ⟨q2, o2⟩ := e
        rw [hy] at ht
        obtain ⟨t1, t2, t3, t4⟩ := ht
        dsimp only
        have hb : (pBf os o2 bf).length ≤ q2 - p0 ∧ SegE (c + 2) (pBf os o2 bf) := by
          unfold pBf
          by_cases hb : bf = 0
          · rw [if_pos hb]
            exact ⟨by omega, t4.mono (by omega)⟩
          · rw [if_neg hb]
            obtain ⟨b1, b2, b3, b4, b5⟩ := h2 hb
            refine ⟨?_, (seg_bin b2 b3 b5 t4).mono (by omega)⟩
            simp only [List.length_append, List.length_cons, List.length_nil]
            omega
        by_cases h : plO (nx q2) = 0
        · rw [if_pos h]
          exact ⟨by omega, t2, hb.1, hb.2⟩
        · obtain ⟨r1, r2, r3⟩ := plO_r h
          have hpn := hn.lt (p := q2) (by omega)
          rw [if_neg h]
          exact ih (q2 + 1) _ _ (fun h0 => absurd h0 h) (fun _ => ⟨by omega, r1, r2, by omega, hb.2⟩) (by omega) (by omega)
theorem gd_sum {nx : Nat → Nat} {n : Nat} (hn : endN nx n) (m : Nat) : ∀ p, p ≤ n → gdR n (2 * m + 3) p (pSum nx n m p) := by
  induction m with
  | zero =>
    intro p hp
    exact gd_sms (c := 1) hn (fun q hq => gd_fac (g := fun q => .inl (5, q)) hn (by omega) (fun _ => show gdR n 1 q (.inl (5, q)) from ⟨by omega, by omega, Nat.le_refl _, hq⟩) hq) (n + 1) p 0 [] (fun _ => rfl) (fun h => absurd rfl h) hp (by omega)
  | succ m ih =>
    intro p hp
    rw [show 2 * (m + 1) + 3 = (2 * m + 3) + 2 by omega]
    exact gd_sms (c := 2 * m + 3) hn (fun q hq => gd_fac hn (by omega) (fun h91 => gd_brk hn (by omega) (ih (q + 1) (by have := hn.lt (p := q) (by omega); omega))) hq) (n + 1) p 0 [] (fun _ => rfl) (fun h => absurd rfl h) hp (by omega)
theorem gd_cmp {nx : Nat → Nat} {n c : Nat} {sm : Nat → PR} (hn : endN nx n) (hs : ∀ p, p ≤ n → gdR n c p (sm p)) {p : Nat} (hp : p ≤ n) : gdB n (c + 1) p (pCmp nx sm p) := by
  have hg := hs p hp
  unfold pCmp
  cases hz : sm p with
  | inl e => rw [hz] at hg; exact hg
  | inr e =>
    obtain ⟨q, o1⟩ := e
    rw [hz] at hg
    obtain ⟨g1, g2, g3, g4⟩ := hg
    dsimp only
    by_cases h : cmO (nx q) = 0
    · rw [if_pos h]
      exact ⟨by omega, by omega, by omega, g2⟩
    · obtain ⟨r1, r2, r3⟩ := cmO_r h
      have hpn := hn.lt (p := q) (by omega)
      have ht := hs (q + 1) (by omega)
      rw [if_neg h]
      cases hy : sm (q + 1) with
      | inl e =>
        rw [hy] at ht
        exact ⟨ht.1, ht.2.1, by have := ht.2.2.1; omega, ht.2.2.2⟩
      | inr e =>
        obtain ⟨q2, o2⟩ := e
        rw [hy] at ht
        obtain ⟨t1, t2, t3, t4⟩ := ht
        refine ⟨by omega, t2, ?_, (seg_cmp r1 r2 g4 t4).mono (by omega)⟩
        simp only [List.length_append, List.length_cons, List.length_nil]
        omega
theorem jn_len (w : Nat) (os : List Ops) : (jn w os).length + 1 ≤ (os.map (fun o => o.length + 1)).sum ∨ os = [] := by
  induction os with
  | nil => exact Or.inr rfl
  | cons o os ih =>
    cases os with
    | nil =>
      refine Or.inl ?_
      show o.length + 1 ≤ (o.length + 1) + 0
      omega
    | cons p os =>
      refine Or.inl ?_
      rcases ih with h | h
      · show (o ++ ((w, (jn w (p :: os)).length) :: jn w (p :: os))).length + 1 ≤ (o.length + 1) + ((p :: os).map (fun o => o.length + 1)).sum
        simp only [List.length_append, List.length_cons]
        omega
      · cases h
def lenS (os : List Ops) : Nat := (os.map (fun o => o.length + 1)).sum
theorem lenS_snoc (os : List Ops) (o : Ops) : lenS (os ++ [o]) = lenS os + (o.length + 1) := by
  unfold lenS
  rw [List.map_append, List.sum_append]
  show _ + ((o.length + 1) + 0) = _
  omega
theorem jn_snoc (w : Nat) (os : List Ops) (o : Ops) : (jn w (os ++ [o])).length + 1 ≤ lenS os + (o.length + 1) := by
  rw [← lenS_snoc]
  rcases jn_len w (os ++ [o]) with h | h
  · exact h
  · simp at h
theorem gd_cnd {nx : Nat → Nat} {n c p0 : Nat} {pc : Nat → PR} (hn : endN nx n) (hs : ∀ p, p ≤ n → gdB n c p (pc p)) (k : Nat) : ∀ (p : Nat) (QS PS : List Ops), (∀ o, o ∈ QS → SegB c o) → (∀ o, o ∈ PS → SegB c o) → p0 ≤ p → lenS QS + lenS PS ≤ p - p0 → p ≤ n → n < p + k → gdB n c p0 (pCnd jn nx pc k p QS PS) := by
  induction k with
  | zero => exact fun p QS PS _ _ _ _ h3 h4 => by omega
  | succ k ih =>
    intro p QS PS hQ hP h0 hl h3 h4
    have hg := hs p h3
    show gdB n c p0 (match pc p with
      | .inl e => .inl e
      | .inr (q, o) => if nx q = 38 then pCnd jn nx pc k (q + 1) QS (PS ++ [o]) else if nx q = 124 then pCnd jn nx pc k (q + 1) (QS ++ [jn 11 (PS ++ [o])]) [] else .inr (q, jn 12 (QS ++ [jn 11 (PS ++ [o])])))
    cases hz : pc p with
    | inl e =>
      rw [hz] at hg
      exact ⟨hg.1, hg.2.1, by have := hg.2.2.1; omega, hg.2.2.2⟩
    | inr e =>
      obtain ⟨q, o⟩ := e
      rw [hz] at hg
      obtain ⟨g1, g2, g3, g4⟩ := hg
      have hP' : ∀ o', o' ∈ PS ++ [o] → SegB c o' := by
        intro o' ho
        rcases List.mem_append.mp ho with h | h
        · exact hP o' h
        · rw [List.mem_singleton.mp h]; exact g4
      have hj : SegB c (jn 11 (PS ++ [o])) := seg_jn (Or.inl rfl) _ (by simp) hP'
      have hQ' : ∀ o', o' ∈ QS ++ [jn 11 (PS ++ [o])] → SegB c o' := by
        intro o' ho
        rcases List.mem_append.mp ho with h | h
        · exact hQ o' h
        · rw [List.mem_singleton.mp h]; exact hj
      have hl1 := jn_snoc 11 PS o
      have hl2 := jn_snoc 12 QS (jn 11 (PS ++ [o]))
      dsimp only
      by_cases ha : nx q = 38
      · have hpn := hn.lt (p := q) (by omega)
        rw [if_pos ha]
        exact ih (q + 1) _ _ hQ hP' (by omega) (by rw [lenS_snoc]; omega) (by omega) (by omega)
      · rw [if_neg ha]
        by_cases hb : nx q = 124
        · have hpn := hn.lt (p := q) (by omega)
          rw [if_pos hb]
          refine ih (q + 1) _ _ hQ' (fun o h => by cases h) (by omega) ?_ (by omega) (by omega)
          rw [lenS_snoc]
          show lenS QS + ((jn 11 (PS ++ [o])).length + 1) + 0 ≤ _
          omega
        · rw [if_neg hb]
          exact ⟨by omega, g2, by omega, seg_jn (Or.inr rfl) _ (by simp) hQ'⟩
theorem gd_not {n c p : Nat} {z : PR} (h : gdB n c (p + 1) z) : gdB n c p (pNot z) := by
  cases z with
  | inl e => exact ⟨h.1, h.2.1, by have := h.2.2.1; omega, h.2.2.2⟩
  | inr e =>
    obtain ⟨q, os⟩ := e
    obtain ⟨g1, g2, g3, g4⟩ := h
    refine ⟨by omega, g2, ?_, seg_not g4⟩
    simp only [List.length_append, List.length_cons, List.length_nil]
    omega
theorem gdB_mono {n c c' p : Nat} {z : PR} (h : gdB n c p z) (hc : c ≤ c') : gdB n c' p z := by
  cases z with
  | inl e => exact h
  | inr e => exact ⟨h.1, h.2.1, h.2.2.1, h.2.2.2.mono hc⟩
theorem gd_pc {nx : Nat → Nat} {n : Nat} (hn : endN nx n) (m : Nat) : ∀ p, p ≤ n → gdB n (2 * m + 4) p (pPc jn nx n m p) := by
  induction m with
  | zero =>
    intro p hp
    show gdB n 4 p (if nx p = 33 ∨ nx p = 40 then .inl (5, p) else pCmp nx (pSum nx n 0) p)
    split
    · exact ⟨by omega, by omega, Nat.le_refl _, hp⟩
    · exact gd_cmp hn (gd_sum hn 0) hp
  | succ m ih =>
    intro p hp
    show gdB n (2 * (m + 1) + 4) p (if nx p = 33 then pNot (pPc jn nx n m (p + 1)) else if nx p = 40 then pBrk nx 41 (pCnd jn nx (pPc jn nx n m) (n + 1) (p + 1) [] []) else pCmp nx (pSum nx n (m + 1)) p)
    by_cases h1 : nx p = 33
    · have hpn := hn.lt (p := p) (by omega)
      rw [if_pos h1]
      exact gdB_mono (gd_not (ih (p + 1) (by omega))) (by omega)
    · rw [if_neg h1]
      by_cases h2 : nx p = 40
      · have hpn := hn.lt (p := p) (by omega)
        rw [if_pos h2]
        exact gdB_mono (gdB_brk hn (by omega) (gd_cnd hn ih (n + 1) (p + 1) [] [] (fun o h => by cases h) (fun o h => by cases h) (by omega) (by show 0 + 0 ≤ _; omega) (by omega) (by omega))) (by omega)
      · rw [if_neg h2]
        exact gd_cmp hn (gd_sum hn (m + 1)) hp
theorem brk_inr {nx : Nat → Nat} {k q2 : Nat} {os : Ops} {z : PR} (h : pBrk nx k z = .inr (q2, os)) : ∃ q, z = .inr (q, os) ∧ q2 = q + 1 ∧ nx q = k := by
  cases z with
  | inl e => cases h
  | inr e =>
    obtain ⟨q, o⟩ := e
    have h2 : (if nx q = k then (.inr (q + 1, o) : PR) else .inl (1, q)) = .inr (q2, os) := h
    by_cases h3 : nx q = k
    · rw [if_pos h3] at h2
      cases h2
      exact ⟨q, rfl, rfl, h3⟩
    · rw [if_neg h3] at h2
      cases h2
/-- a CLAUSE read is well made -/
def gdC (c : Cls) : Prop := SegE 15 c.2.1 ∧ SegB 14 c.2.2
theorem gd_cls {nx : Nat → Nat} {n many p : Nat} {isL : Nat → Bool} (hn : endN nx n) (hL : isL 256 = false) (hp : p ≤ n) : match pCls jn nx n isL many p with
    | .inl (k, q) => 1 ≤ k ∧ k ≤ 5 ∧ p ≤ q ∧ q ≤ n
    | .inr (q, c) => p < q ∧ q ≤ n ∧ c.2.1.length + c.2.2.length + 3 ≤ q - p ∧ gdC c ∧ isL c.1 = true ∧ many ≠ 16 ∧ c.1 = nx p := by
  unfold pCls
  by_cases h1 : isL (nx p) = false
  · rw [if_pos h1]
    exact ⟨by omega, by omega, Nat.le_refl _, hp⟩
  · have hpn := hn.lt (p := p) (fun e => h1 (by rw [e]; exact hL))
    rw [if_neg h1]
    by_cases h2 : many = 16
    · rw [if_pos h2]
      exact ⟨by omega, by omega, Nat.le_refl _, hp⟩
    · rw [if_neg h2]
      have hg := gd_sum hn 6 (p + 1) (by omega)
      cases hz : pSum nx n 6 (p + 1) with
      | inl e =>
        rw [hz] at hg
        exact ⟨hg.1, hg.2.1, by have := hg.2.2.1; omega, hg.2.2.2⟩
      | inr e =>
        obtain ⟨q, oE⟩ := e
        rw [hz] at hg
        obtain ⟨g1, g2, g3, g4⟩ := hg
        dsimp only
        by_cases h3 : nx q ≠ 40
        · rw [if_pos h3]
          exact ⟨by omega, by omega, by omega, g2⟩
        · have hqn := hn.lt (p := q) (by omega)
          rw [if_neg h3]
          have hc := gdB_brk (k := 41) (p := q) hn (by omega) (gd_cnd hn (gd_pc hn 5) (n + 1) (q + 1) [] [] (fun o h => by cases h) (fun o h => by cases h) (Nat.le_refl _) (by show 0 + 0 ≤ _; omega) (by omega) (by omega))
          cases hy : pBrk nx 41 (pCnd jn nx (pPc jn nx n 5) (n + 1) (q + 1) [] []) with
          | inl e =>
            rw [hy] at hc
            exact ⟨hc.1, hc.2.1, by have := hc.2.2.1; omega, hc.2.2.2⟩
          | inr e =>
            obtain ⟨q2, oC⟩ := e
            rw [hy] at hc
            obtain ⟨c1, c2, c3, c4⟩ := hc
            obtain ⟨q', hq1, hq2, hq3⟩ := brk_inr hy
            have hd := gd_cnd hn (gd_pc hn 5) (n + 1) (q + 1) [] [] (p0 := q + 1) (fun o h => by cases h) (fun o h => by cases h) (Nat.le_refl _) (by show 0 + 0 ≤ _; omega) (by omega) (by omega)
            rw [hq1] at hd
            have hd2 := hd.2.2.1
            refine ⟨by omega, c2, ?_, ⟨g4, c4⟩, ?_, h2, rfl⟩
            · show oE.length + oC.length + 3 ≤ q2 - p
              have := hd.1
              omega
            · show isL (nx p) = true
              cases h4 : isL (nx p) with
              | true => rfl
              | false => exact absurd h4 h1
