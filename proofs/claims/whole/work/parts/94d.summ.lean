/-! ===== the reference's parser: sums whole ===== -/
theorem opZ_app (X Y : List Nat) : opZ (X ++ Y) = opZ X ++ opZ Y := List.map_append ..
theorem stop_tf {S : List Nat} (h : stopA true S) : stopA false S := fun s S' e q => h s S' e (q.elim Or.inl (fun z => absurd z.1 (by decide)))
theorem m_smsL {d n len base o cc : Nat} {nx : Nat → Nat} {r : Nat → Nat → Option Nat} {fac : Nat → PR} (hH : PrM len nx) (hF : FacM n d len base nx r fac o) (hG : ∀ p, p ≤ len → gdR len cc p (fac p)) (f : Nat) : ∀ (κ : Option Value × zmH → Option (Option Value × zmH)) (p bf : Nat) (os : Ops) (B S : List Nat) (c : Nat) (a0 a : Nat → Nat → Int32) (b : Nat → Nat → Int64), len < p + f → KOk n d r (iN base) κ → ((bf = 0 ∧ B = [] ∧ os = []) ∨ (B = [bf] ∧ (bf = 2 ∨ bf = 3))) → OkM len nx a0 a c p (B.map mU ++ S) o os → stopA true S → p ≤ len → (B.map mU ++ S).length ≤ p → (∀ s, s ∈ S → s < 100000000) → base ≤ S.length → c + os.length + (if bf = 0 then 0 else 1) + (len - p) ≤ 250 → SumR n d len nx b r a0 c S o (iN base) (pSms nx len fac f p bf os) ((Den (d+3) 178 0 [.ref 94,zmJ] [] (zmMk n a b r)).bind κ) := by
  induction f with
  | zero =>
    intro κ p bf os B S c a0 a b h1 h2 h3 h4 h5 h6
    exact absurd h1 (by omega)
  | succ f ih =>
    intro κ p bf os B S c a0 a b h1 h2 h3 h4 h5 h6 h7 h8 h9 h10
    have hlen := hH.1
    have hBmem : ∀ s, s ∈ B.map mU ++ S → s < 100000000 := fun s hs => by
      rcases List.mem_append.mp hs with h | h
      · obtain ⟨z, z1, rfl⟩ := List.mem_map.mp h
        rcases h3 with ⟨-, e, -⟩ | ⟨e, e2⟩
        · rw [e] at z1; cases z1
        · rw [e] at z1
          rw [List.mem_singleton.mp z1]
          unfold mU
          omega
      · exact h8 s h
    have hlB : (B.map mU ++ S).length = B.length + S.length := by rw [List.length_append, List.length_map]
    have hstopB : stopA false (B.map mU ++ S) := by
      rcases h3 with ⟨-, e, -⟩ | ⟨e, e2⟩
      · rw [e]
        exact stop_tf h5
      · rw [e]
        intro s S' es q
        have es1 : mU bf = s := (List.cons.inj es).1
        rw [← es1, mU_div] at q
        rcases q with q | ⟨q, -⟩
        · omega
        · cases q
    have hF1 := hF κ p (B.map mU ++ S) (c + os.length) a b h2 h4.1 h6 h7 hBmem (by omega) (by omega)
    have hg := hG p h6
    show SumR n d len nx b r a0 c S o (iN base) (match fac p with
      | .inl e => .inl e
      | .inr (q, o1) => match pTms nx fac (len + 1) q o1 with
        | .inl e => .inl e
        | .inr (q2, o2) => if plO (nx q2) = 0 then .inr (q2, pBf os o2 bf) else pSms nx len fac f (q2 + 1) (plO (nx q2)) (pBf os o2 bf)) _
    cases hz : fac p with
    | inl e =>
      rw [hz] at hF1
      obtain ⟨a1, e1, bad⟩ := hF1
      exact ⟨a1, e1, h4.bad bad⟩
    | inr e =>
      obtain ⟨q, o1⟩ := e
      rw [hz] at hF1 hg
      obtain ⟨a1, u', e1, ok1⟩ := hF1
      obtain ⟨g1, g2, g3, g4⟩ := hg
      have hT := m_tmsL (M := 250 - (if bf = 0 then 0 else 1)) hH hF hG (by omega) (len + 1) q o1 [] o1 (B.map mU ++ S) (c + os.length) u' a a1 b (by omega) (Or.inl rfl) (by simp [opZ]) ok1 hstopB g2 (by show (B.map mU ++ S).length ≤ q; omega) hBmem (by omega) (by omega)
      have hgT := gd_tms (p0 := p) hH.2.1 hG (len + 1) q o1 g1 g2 g3 (g4.mono (by omega))
      rw [e1]
      dsimp only
      cases hy : pTms nx fac (len + 1) q o1 with
      | inl e =>
        rw [hy] at hT
        obtain ⟨a2, e2, bad⟩ := hT
        exact ⟨a2, e2, h4.bad bad⟩
      | inr e =>
        obtain ⟨q2, o2⟩ := e
        rw [hy] at hT hgT
        have hq2 := hgT.1
        obtain ⟨t1, t2, t3, a2, u2, T, osx, e2, t4, t5, t6, ok2⟩ := hT
        have eS : T.map mU ++ (B.map mU ++ S) = (T ++ B).map mU ++ S := by rw [List.map_append, List.append_assoc]
        rw [eS] at ok2 t6
        have ok3 := h4.trans ok2
        have hlo2 : o2.length = osx.length + T.length := by rw [t4, List.length_append, opZ_len]
        have eP : pBf os o2 bf = (os ++ osx) ++ opZ (T ++ B) := by
          unfold pBf
          rcases h3 with ⟨e0, eB, eo⟩ | ⟨eB, e0⟩
          · rw [if_pos e0, eB, eo, List.append_nil, List.nil_append]
            exact t4
          · rw [if_neg (by omega), eB, opZ_app, t4]
            simp only [List.append_assoc]
            rfl
        have hlP : (pBf os o2 bf).length = os.length + o2.length + (if bf = 0 then 0 else 1) := by
          rw [eP, List.length_append, List.length_append, opZ_len, List.length_append]
          rcases h3 with ⟨e0, eB, eo⟩ | ⟨eB, e0⟩
          · rw [if_pos e0, eB]
            show _ + (_ + 0) = _
            omega
          · rw [if_neg (by omega), eB]
            show _ + (_ + 1) = _
            omega
        have hZ26 : ∀ z, z ∈ T ++ B → 2 ≤ z ∧ z ≤ 6 := fun z hz => by
          rcases List.mem_append.mp hz with h | h
          · rcases t5 with e | ⟨t, e, e3⟩
            · rw [e] at h; cases h
            · rw [e] at h
              rw [List.mem_singleton.mp h]
              omega
          · rcases h3 with ⟨-, eB, -⟩ | ⟨eB, e0⟩
            · rw [eB] at h; cases h
            · rw [eB] at h
              rw [List.mem_singleton.mp h]
              omega
        rw [e2]
        dsimp only
        by_cases hpl : plO (nx q2) = 0
        · rw [if_pos hpl]
          exact ⟨⟨hpl, t3⟩, t1, by omega, a2, u2, T ++ B, os ++ osx, rfl, eP, hZ26, t6, ok3⟩
        · have h23 := plO_23 hpl
          have hp1 := nx_le hH.2.1 (p := q2) (by intro e; rw [e] at hpl; exact hpl rfl)
          have hd : decide (plO (nx q2) < 4) = true := decide_eq_true (by omega)
          have hlos : (os ++ osx).length = os.length + osx.length := List.length_append
          have hlTB : (T ++ B).length = T.length + B.length := List.length_append
          have hBl : B.length = if bf = 0 then 0 else 1 := by
            rcases h3 with ⟨e0, eB, eo⟩ | ⟨eB, e0⟩
            · rw [if_pos e0, eB]; rfl
            · rw [if_neg (by omega), eB]; rfl
          obtain ⟨a3, e3, ok4⟩ := m_signed (d := d) (n := n) (base := base) (b := b) (r := r) (u2 := u2) hH (plO (nx q2)) (sgI_p hpl) (by omega) ok3.1 t1 (by rw [hd]; exact h5) (fun z hz => by
            have := hZ26 z hz
            rw [hd]
            by_cases h4 : 4 ≤ z
            · exact Or.inl ⟨h4, this.2⟩
            · exact Or.inr ⟨rfl, by omega⟩) h8 t6 (by omega)
          have ok5 := ok3.trans ok4
          rw [← eP] at ok5
          have hlS : (List.map mU (T ++ B) ++ S).length = (T ++ B).length + S.length := by rw [List.length_append, List.length_map]
          rw [if_neg hpl, e3]
          exact ih _ (q2 + 1) (plO (nx q2)) _ [plO (nx q2)] S c a0 a3 b (by omega) kok_78 (Or.inr ⟨rfl, h23⟩) ok5 h5 hp1 (by show S.length + 1 ≤ _; omega) h8 h9 (by rw [hlP, if_neg hpl]; omega)
def SumM (n d len base : Nat) (nx : Nat → Nat) (r : Nat → Nat → Option Nat) (m : Nat) : Prop := ∀ (κ : Option Value × zmH → Option (Option Value × zmH)) (p : Nat) (S : List Nat) (c : Nat) (a : Nat → Nat → Int32) (b : Nat → Nat → Int64), KOk n d r (iN base) κ → MSt len nx p c S (6 - m) a → stopA true S → p ≤ len → S.length ≤ p → (∀ s, s ∈ S → s < 100000000) → base ≤ S.length → c + (len - p) ≤ 250 → SumR n d len nx b r a c S (6 - m) (iN base) (pSum nx len m p) ((Den (d+3) 178 0 [.ref 94,zmJ] [] (zmMk n a b r)).bind κ)
theorem MSt.num {len p q c o : Nat} {nx : Nat → Nat} {S : List Nat} {a a' : Nat → Nat → Int32} (h : MSt len nx p c S o a) (h9 : a' 94 9 = iN q) (ho : ∀ k, k ≠ 94 → a' k = a k) (hj : ∀ j, j ≠ 9 → j ≠ 11 → j ≠ 12 → a' 94 j = a 94 j) : MSt len nx q c S o a' := by
  obtain ⟨h1, h2, h3, h4, h5, h6, h7⟩ := h
  exact ⟨h9, by rw [hj 10 (by omega) (by omega) (by omega)]; exact h2, by rw [hj 18 (by omega) (by omega) (by omega)]; exact h3, by rw [hj 19 (by omega) (by omega) (by omega)]; exact h4, by rw [hj 17 (by omega) (by omega) (by omega)]; exact h5, by rw [ho 101 (by omega)]; exact h6, fun j hj2 => by rw [ho 95 (by omega)]; exact h7 j hj2⟩
set_option maxHeartbeats 1000000 in
theorem m_prim {d n len c o p : Nat} {nx : Nat → Nat} {r : Nat → Nat → Option Nat} {a : Nat → Nat → Int32} {b : Nat → Nat → Int64} {S : List Nat} {v1 : Int32} {g : Nat → PR} {κ : Option Value × zmH → Option (Option Value × zmH)} (hH : PrM len nx) (hκ : KOk n d r v1 κ) (h : MSt len nx p c S o a) (hp : p ≤ len) (hc : c + (len - p) ≤ 250) (h91 : ¬ nx p = 91) : FacR n d len nx b r a c S o v1 (pFac nx g p) ((Den (d+3) 178 0 [.ref 94,zmJ] [] (zmMk n a b r)).bind κ) := by
  have hlen := hH.1
  obtain ⟨k0, u2, k1⟩ := hκ
  have e1 : ∀ e, Den e 167 0 [.ref 94] [] (zmMk n a b r) = some (some (.int (nxV (nx p))), (zmMk n a b r)) := fun e => m_lookS hH h hp
  have e2 : Den (d+2) 168 0 [.ref 94] [] (zmMk n a b r) = some (some (.int (bI (isDg (nx p)))), (zmMk n a b r)) := m_isDig hH h.1 h.2.1 h.2.2.2.2.2.2 hp
  have e3 : Den (d+2) 175 0 [.int (nxV (nx p))] [] (zmMk n a b r) = _ := m_fact (nx_257 hH)
  have hto : Den (d+3) 178 0 [.ref 94,zmJ] [] (zmMk n a b r) = Den (d+3) 178 20 [.ref 94,zmJ] [] (zmMk n a b r) := by
    rw [b178_0, e1]
    simp only [Option.bind_some, Option.toList_some, Option.toList_none, List.cons_append, List.nil_append, true_or, or_true, if_true, bI_if]
    rw [b178_4, if_neg (nxV_n h91 (by omega))]
  rw [hto, b178_20, e2]
  simp only [Option.bind_some, Option.toList_some, Option.toList_none, List.cons_append, List.nil_append, true_or, or_true, if_true, bI_if]
  rw [b178_24, bI_if]
  unfold pFac
  by_cases hl : ltI (nx p) < 10
  · have hnd : ¬ isDg (nx p) = true := fun hd => by
      obtain ⟨d1, d2⟩ := isDg_d hd
      unfold ltI at hl
      repeat' (split at hl)
      all_goals omega
    have e3' : Den (d+2) 175 0 [.int (nxV (nx p))] [] (zmMk n a b r) = some (some (.int (iN (ltI (nx p)))), (zmMk n a b r)) := by rw [e3, if_pos hl]
    rw [if_neg hnd, b178_47, e1]
    simp only [Option.bind_some, Option.toList_some, Option.toList_none, List.cons_append, List.nil_append, true_or, or_true, if_true, bI_if]
    rw [b178_51, e3']
    simp only [Option.bind_some, Option.toList_some, Option.toList_none, List.cons_append, List.nil_append, true_or, or_true, if_true, bI_if]
    rw [b178_54, if_neg (m1_sym (by omega)), b178_70, m_notes h.2.2.1 (by omega) (show iN 1048576 * iN 1 + iN (ltI (nx p)) = iN (1048576 * 1 + ltI (nx p)) by rw [n_mul, n_add]), if_pos hl]
    simp only [Option.bind_some, Option.toList_none, List.nil_append]
    have ok := OkM.note (k := 1) (v := ltI (nx p)) h (by omega) (Or.inl (by omega))
    rw [b178_76, ok.1.1, n_add]
    refine ⟨_, u2, k1 _ _, ?_⟩
    have ok2 := ok.trans (OkM.at (q := p + 1) ok.1)
    rw [List.append_nil] at ok2
    exact ok2
  · rw [if_neg hl, if_neg h91]
    unfold pNum
    by_cases hd : isDg (nx p) = true
    · have h0 : uI a 94 12 (iN 0) 94 9 = iN p := by rw [uI_nj (by omega)]; exact h.1
      obtain ⟨a', i1, i2, i3, i4, i5, i6, i7⟩ := m_digL (d := d) (n := n) (b := b) (r := r) hH hp 5 0 p (uI a 94 12 (iN 0)) (by omega) (by rw [Nat.sub_self]; omega) (Nat.le_refl _) h0 uI_self (by rw [uI_nj (by omega)]; exact h.2.1) (fun j hj => by rw [uI_ne (by omega)]; exact h.2.2.2.2.2.2 j hj) hp
      have hM : MSt len nx (pDig nx 5 0 p).2 c S o a' := h.num i2 (fun k hk => by rw [i5 k hk, uI_ne hk]) (fun j z1 z2 z3 => by rw [i6 j z1 z2 z3, uI_nj z3])
      have hfr : frN a a' := ⟨fun k z1 _ _ => by rw [i5 k z1, uI_ne z1], fun j z1 z2 z3 _ _ _ => by rw [i6 j z1 z2 z3, uI_nj z3]⟩
      have e4 : Den (d+2) 171 0 [.ref 94, zmJ] [] (zmMk n a b r) = some (some (.int (bI (!isDg (nx (pDig nx 5 0 p).2)))), zmMk n a' b r) := by
        rw [b171_0, h.1]
        exact i1
      rw [if_pos hd, if_pos hd, b178_27, e4]
      simp only [Option.bind_some, Option.toList_some, Option.toList_none, List.cons_append, List.nil_append, true_or, or_true, if_true, bI_if]
      rw [b178_31, bI_if]
      by_cases h6 : isDg (nx (pDig nx 5 0 p).2) = true
      · rw [if_neg (show ¬ (!isDg (nx (pDig nx 5 0 p).2)) = true by rw [h6]; decide), b178_34, if_pos h6]
        exact ⟨a', k0 _ _, i3 h6, hfr⟩
      · rw [if_pos (show (!isDg (nx (pDig nx 5 0 p).2)) = true by rw [Bool.eq_false_iff.mpr h6]; rfl), b178_36, i4, m_notes hM.2.2.1 (by omega) (show iN 1048576 * iN 0 + iN (pDig nx 5 0 p).1 = iN (1048576 * 0 + (pDig nx 5 0 p).1) by rw [n_mul, n_add]), if_neg h6]
        simp only [Option.bind_some, Option.toList_none, List.nil_append]
        rw [b178_45]
        have ok := OkM.note (k := 0) (v := (pDig nx 5 0 p).1) hM (by omega) (Or.inl (by omega))
        refine ⟨_, u2, k1 _ _, ok.1, ok.2.1, fun j hj => ?_, hfr.trans ok.2.2.2⟩
        rw [ok.2.2.1 j hj, i5 100 (by omega), uI_ne (by omega)]
    · have e3' : Den (d+2) 175 0 [.int (nxV (nx p))] [] (zmMk n a b r) = some (some (.int (-1)), (zmMk n a b r)) := by rw [e3, if_neg hl]
      rw [if_neg hd, if_neg hd, b178_47, e1]
      simp only [Option.bind_some, Option.toList_some, Option.toList_none, List.cons_append, List.nil_append, true_or, or_true, if_true, bI_if]
      rw [b178_51, e3']
      simp only [Option.bind_some, Option.toList_some, Option.toList_none, List.cons_append, List.nil_append, true_or, or_true, if_true, bI_if]
      rw [b178_54, if_pos rfl, b178_60, h.1, m_wrong]
      simp only [Option.bind_some, Option.toList_some, Option.toList_none, List.cons_append, List.nil_append, true_or, or_true, if_true, bI_if]
      rw [b178_69, if_pos (Or.inl rfl)]
      exact ⟨_, k0 _ _, BdM.w⟩
set_option maxHeartbeats 1000000 in
theorem m_factor {d n len base m : Nat} {nx : Nat → Nat} {r : Nat → Nat → Option Nat} (hH : PrM len nx) (hm : m ≤ 6) (hS : ∀ m', m = m' + 1 → SumM n d len base nx r m') : FacM n d len base nx r (pFac nx (gF nx len m)) (6 - m) := by
  intro κ p S c a b hκ h hp hl hb hbase hc
  have hlen := hH.1
  by_cases h91 : nx p = 91
  · have hp1 := nx_le hH.2.1 (p := p) (by omega)
    have e1 : ∀ e, Den e 167 0 [.ref 94] [] (zmMk n a b r) = some (some (.int (nxV (nx p))), (zmMk n a b r)) := fun e => m_lookS hH h hp
    have hnl : ¬ ltI (nx p) < 10 := by rw [h91]; decide
    have hto : Den (d+3) 178 0 [.ref 94,zmJ] [] (zmMk n a b r) = Den (d+3) 178 9 [.ref 94,zmJ] [] (zmMk n a b r) := by
      rw [b178_0, e1]
      simp only [Option.bind_some, Option.toList_some, Option.toList_none, List.cons_append, List.nil_append, true_or, or_true, if_true, bI_if]
      rw [b178_4, if_pos (nxV_y h91 (by omega))]
    rw [hto, b178_9]
    unfold pFac
    rw [if_neg hnl, if_pos h91]
    cases m with
    | zero =>
      rw [m_opens0 h.2.2.2.2.1 h.1]
      simp only [Option.bind_some, Option.toList_some, Option.toList_none, List.cons_append, List.nil_append, true_or, or_true, if_true, bI_if]
      rw [b178_15, if_pos rfl, b178_18]
      exact ⟨_, hκ.1 _ _, BdM.w⟩
    | succ m =>
      have ok1 := OkM_psh (z := mU 14) (o' := 6 - (m + 1) + 1) h
      rw [m_opens h.2.2.2.2.1 (by omega) h.1 h.2.2.2.1 (by omega)]
      simp only [Option.bind_some, Option.toList_some, Option.toList_none, List.cons_append, List.nil_append, true_or, or_true, if_true, bI_if]
      rw [b178_15, if_neg (eq_n (by omega) (by omega) (by omega))]
      have eo : 6 - (m + 1) + 1 = 6 - m := by omega
      rw [eo] at ok1 ⊢
      have hSm := hS m rfl κ (p + 1) (mU 14 :: S) c _ b hκ ok1.1 (fun s S' es q => by
        have es1 : mU 14 = s := (List.cons.inj es).1
        rw [← es1, mU_div] at q
        rcases q with q | ⟨-, q⟩ <;> omega) hp1 (by show S.length + 1 ≤ _; omega) (fun s hs => by
        rcases List.mem_cons.mp hs with h | h
        · rw [h]; unfold mU; omega
        · exact hb s h) (by show base ≤ S.length + 1; omega) (by omega)
      show FacR n d len nx b r a c S (6 - (m + 1)) (iN base) (pBrk nx 93 (pSum nx len m (p + 1))) _
      cases hz : pSum nx len m (p + 1) with
      | inl e =>
        rw [hz] at hSm
        obtain ⟨a2, e2, bad⟩ := hSm
        exact ⟨a2, e2, ok1.bad bad⟩
      | inr e =>
        obtain ⟨q, os⟩ := e
        rw [hz] at hSm
        obtain ⟨⟨s1, s2⟩, s3, s35, a2, u', Z, osx, e2, s4, s5, s6, ok2⟩ := hSm
        have hZb : ∀ s, s ∈ mU 14 :: S → s < 100000000 := fun s hs => by
          rcases List.mem_cons.mp hs with h | h
          · rw [h]; unfold mU; omega
          · exact hb s h
        have hall : ∀ s, s ∈ Z.map mU ++ mU 14 :: S → s < 100000000 := fun s hs => by
          rcases List.mem_append.mp hs with h | h
          · obtain ⟨z, z1, rfl⟩ := List.mem_map.mp h
            have := s5 z z1
            unfold mU
            omega
          · exact hZb s h
        have e3 : ∀ e, Den e 167 0 [.ref 94] [] (zmMk n a2 b r) = some (some (.int (nxV (nx q))), zmMk n a2 b r) := fun e => m_lookS hH ok2.1 s3
        have e4 : Den (d+3) 176 0 [.int (nxV (nx q))] [] (zmMk n a2 b r) = _ := m_sign (nx_257 hH)
        have e5 : Den (d+3) 179 0 [.ref 94, .int (iN base), zmJ] [] (zmMk n a2 b r) = _ := m_has1 ok2.1 (by omega) hall hbase
        have hto2 : Den (d+4) 180 14 [.ref 94,.int (iN base),u'] [] (zmMk n a2 b r) = Den (d+4) 180 83 [.ref 94,.int (iN base),.int (-1)] [] (zmMk n a2 b r) := by
          rw [b180_14, e3]
          simp only [Option.bind_some, Option.toList_some, Option.toList_none, List.cons_append, List.nil_append, true_or, or_true, if_true, bI_if]
          rw [b180_18, e4, sgI_0 s1 s2]
          simp only [Option.bind_some, Option.toList_some, Option.toList_none, List.cons_append, List.nil_append, true_or, or_true, if_true, bI_if]
          rw [b180_21, if_pos rfl]
        rw [e2, hto2, b180_83, e3]
        simp only [Option.bind_some, Option.toList_some, Option.toList_none, List.cons_append, List.nil_append, true_or, or_true, if_true, bI_if]
        rw [b180_87]
        show FacR n d len nx b r a c S (6 - (m + 1)) (iN base) (if nx q = 93 then .inr (q + 1, os) else .inl (1, q)) _
        have hlos : os.length = osx.length + Z.length := by rw [s4, List.length_append, opZ_len]
        by_cases h93 : nx q = 93
        · obtain ⟨a3, i1, i2, i3, i4, i5⟩ := m_closes (d := d+2) (b := b) (r := r) (n := n) (all := true) (S := mU 14 :: S) (fun s S' es q => by
            have es1 : mU 14 = s := (List.cons.inj es).1
            rw [← es1, mU_div] at q
            rcases q with q | ⟨-, q⟩ <;> omega) hZb Z (c + osx.length) a2 ok2.1 (fun z hz => by
            have := s5 z hz
            by_cases h4 : 4 ≤ z
            · exact Or.inl ⟨h4, this.2⟩
            · exact Or.inr ⟨rfl, by omega⟩) (by omega) (by omega)
          have i1' : Den (d+3) 177 0 [.ref 94, .int (iN 1)] [] (zmMk n a2 b r) = _ := i1
          have ok3 := ok2.trans (OkM.close i2 i3 i4 i5)
          rw [← s4] at ok3
          obtain ⟨m1, m2, m3, m4, m5, m6, m7⟩ := ok3.1
          rw [if_pos (nxV_y h93 (by omega)), b180_92, e5]
          simp only [Option.bind_some, Option.toList_some, Option.toList_none, List.cons_append, List.nil_append, true_or, or_true, if_true, bI_if]
          rw [b180_97, if_neg (eq_n (by omega) (by omega) (by omega)), b180_100, i1']
          simp only [Option.bind_some, Option.toList_none, List.nil_append]
          have hS1 : (mU 14 :: S).length = S.length + 1 := rfl
          rw [b180_105, m4, hS1, n_sub (by omega), uI_nj (show (17 : Nat) ≠ 19 by omega), m5, n_sub (by omega), uI_nj (show (9 : Nat) ≠ 17 by omega), uI_nj (show (9 : Nat) ≠ 19 by omega), m1, n_add, b180_163, if_pos h93, show S.length + 1 - 1 = S.length by omega, show 6 - m - 1 = 6 - (m + 1) by omega]
          refine ⟨_, _, rfl, ⟨uI_self, ?_, ?_, ?_, ?_, ?_, fun j hj => ?_⟩, ?_, fun j hj => ?_, ok1.2.2.2.trans (ok3.2.2.2.trans (((frN.p94 (by omega)).trans (frN.p94 (by omega))).trans (frN.p94 (by omega))))⟩
          · rw [uI_nj (by omega), uI_nj (by omega), uI_nj (by omega)]; exact m2
          · rw [uI_nj (by omega), uI_nj (by omega), uI_nj (by omega)]; exact m3
          · rw [uI_nj (by omega), uI_nj (by omega), uI_self]
          · rw [uI_nj (by omega), uI_self]
          · rw [uI_ne (by omega), uI_ne (by omega), uI_ne (by omega)]; exact m6.2
          · rw [uI_ne (by omega), uI_ne (by omega), uI_ne (by omega)]; exact m7 j hj
          · rw [uI_ne (by omega), uI_ne (by omega), uI_ne (by omega)]; exact ok3.2.1
          · rw [uI_ne (by omega), uI_ne (by omega), uI_ne (by omega), ok3.2.2.1 j hj]; exact ok1.2.2.1 j hj
        · rw [if_neg (nxV_n h93 (by omega)), b180_138, e5]
          simp only [Option.bind_some, Option.toList_some, Option.toList_none, List.cons_append, List.nil_append, true_or, or_true, if_true, bI_if]
          rw [b180_143, if_neg (eq_n (by omega) (by omega) (by omega)), b180_146, ok2.1.1, m_wrong, if_neg h93]
          simp only [Option.bind_some, Option.toList_some, Option.toList_none, List.cons_append, List.nil_append, true_or, or_true, if_true, bI_if]
          rw [b180_155, if_pos (Or.inl rfl)]
          exact ⟨_, rfl, ok1.bad (ok2.bad BdM.w)⟩
  · exact m_prim hH hκ h hp hc h91
theorem m_sumM {d n len base : Nat} {nx : Nat → Nat} {r : Nat → Nat → Option Nat} (hH : PrM len nx) (m : Nat) : m ≤ 6 → SumM n d len base nx r m := by
  have key : ∀ m, m ≤ 6 → (∀ m', m = m' + 1 → SumM n d len base nx r m') → SumM n d len base nx r m := by
    intro m hm hS κ p S c a b hκ h hst hp hl hb hbase hc
    rw [pSum_eq]
    exact m_smsL hH (m_factor hH hm hS) (fun p hp => gd_gF hH.2.1 hp) (len + 1) κ p 0 [] [] S c a a b (by omega) hκ (Or.inl ⟨rfl, rfl, rfl⟩) (OkM.refl h) hst hp hl hb hbase (by show c + 0 + 0 + (len - p) ≤ 250; omega)
  induction m with
  | zero => exact fun hm => key 0 hm (fun m' h => by omega)
  | succ m ih => exact fun hm => key (m + 1) hm (fun m' h => by
      obtain rfl : m' = m := by omega
      exact ih (by omega))
def ResM (n len : Nat) (nx : Nat → Nat) (b : Nat → Nat → Int64) (r : Nat → Nat → Option Nat) (a : Nat → Nat → Int32) (c : Nat) (S : List Nat) (o : Nat) (z : PR) (X : Option (Option Value × zmH)) : Prop := match z with
  | .inl e => ∃ a', X = some (some (.int (iN 0)), zmMk n a' b r) ∧ BdM e a a'
  | .inr (q, os) => ∃ a', X = some (some (.int (iN 1)), zmMk n a' b r) ∧ OkM len nx a a' c q S o os
theorem m_sum {d n len m p c : Nat} {nx : Nat → Nat} {r : Nat → Nat → Option Nat} {a : Nat → Nat → Int32} {b : Nat → Nat → Int64} {S : List Nat} (hH : PrM len nx) (hm : m ≤ 6) (h : MSt len nx p c S (6 - m) a) (hst : stopA true S) (hp : p ≤ len) (hl : S.length ≤ p) (hb : ∀ s, s ∈ S → s < 100000000) (hc : c + (len - p) ≤ 250) : ResM n len nx b r a c S (6 - m) (pSum nx len m p) (Den (d+4) 180 0 [.ref 94, zmJ, zmJ] [] (zmMk n a b r)) := by
  have hlen := hH.1
  have hS := m_sumM (d := d) (n := n) (r := r) (base := S.length) hH m hm (fun q => Den (d+4) 180 9 [.ref 94,.int (iN S.length),zmJ] (q.1.toList ++ []) q.2) p S c a b kok_9 h hst hp hl hb (Nat.le_refl _) hc
  rw [b180_0, h.2.2.2.1]
  cases hz : pSum nx len m p with
  | inl e =>
    rw [hz] at hS
    exact hS
  | inr e =>
    obtain ⟨q, os⟩ := e
    rw [hz] at hS
    obtain ⟨⟨s1, s2⟩, s3, s35, a2, u', Z, osx, e2, s4, s5, s6, ok2⟩ := hS
    have e3 : ∀ e, Den e 167 0 [.ref 94] [] (zmMk n a2 b r) = some (some (.int (nxV (nx q))), zmMk n a2 b r) := fun e => m_lookS hH ok2.1 s3
    have e4 : Den (d+3) 176 0 [.int (nxV (nx q))] [] (zmMk n a2 b r) = _ := m_sign (nx_257 hH)
    have e5 : Den (d+3) 179 0 [.ref 94, .int (iN S.length), zmJ] [] (zmMk n a2 b r) = _ := m_has0 ok2.1 (by omega) hb s5 rfl
    have hlos : os.length = osx.length + Z.length := by rw [s4, List.length_append, opZ_len]
    obtain ⟨a3, i1, i2, i3, i4, i5⟩ := m_closes (d := d+2) (b := b) (r := r) (n := n) (all := true) (S := S) hst hb Z (c + osx.length) a2 ok2.1 (fun z hz => by
      have := s5 z hz
      by_cases h4 : 4 ≤ z
      · exact Or.inl ⟨h4, this.2⟩
      · exact Or.inr ⟨rfl, by omega⟩) (by omega) (by omega)
    have i1' : Den (d+3) 177 0 [.ref 94, .int (iN 1)] [] (zmMk n a2 b r) = _ := i1
    have ok3 := ok2.trans (OkM.close i2 i3 i4 i5)
    rw [← s4] at ok3
    have h138 : ∀ v2 : Int32, Den (d+4) 180 138 [.ref 94,.int (iN S.length),.int v2] [] (zmMk n a2 b r) = some (some (.int (iN 1)), zmMk n a3 b r) := fun v2 => by
      rw [b180_138, e5]
      simp only [Option.bind_some, Option.toList_some, Option.toList_none, List.cons_append, List.nil_append, true_or, or_true, if_true, bI_if]
      rw [b180_143, if_pos rfl, b180_156, i1']
      simp only [Option.bind_some, Option.toList_none, List.nil_append]
      rw [b180_161]
    refine ⟨a3, ?_, ok3⟩
    rw [e2, b180_14, e3]
    simp only [Option.bind_some, Option.toList_some, Option.toList_none, List.cons_append, List.nil_append, true_or, or_true, if_true, bI_if]
    rw [b180_18, e4, sgI_0 s1 s2]
    simp only [Option.bind_some, Option.toList_some, Option.toList_none, List.cons_append, List.nil_append, true_or, or_true, if_true, bI_if]
    rw [b180_21, if_pos rfl, b180_83, e3]
    simp only [Option.bind_some, Option.toList_some, Option.toList_none, List.cons_append, List.nil_append, true_or, or_true, if_true, bI_if]
    rw [b180_87]
    by_cases h93 : nx q = 93
    · rw [if_pos (nxV_y h93 (by omega)), b180_92, e5]
      simp only [Option.bind_some, Option.toList_some, Option.toList_none, List.cons_append, List.nil_append, true_or, or_true, if_true, bI_if]
      rw [b180_97, if_pos rfl, h138]
    · rw [if_neg (nxV_n h93 (by omega)), h138]
