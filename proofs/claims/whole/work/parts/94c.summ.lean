/-! ===== the reference's parser: a sum by the grammar ===== -/
def OkM (len : Nat) (nx : Nat → Nat) (a a' : Nat → Nat → Int32) (c q : Nat) (S : List Nat) (o : Nat) (os : Ops) : Prop := MSt len nx q (c + os.length) S o a' ∧ LayM (a' 100) 0 c os ∧ (∀ j, j < c → a' 100 j = a 100 j) ∧ frN a a'
def BdM (e : Nat × Nat) (a a' : Nat → Nat → Int32) : Prop := a' 94 11 = fltI e.1 e.2 ∧ frN a a'
theorem OkM.refl {len c p o : Nat} {nx : Nat → Nat} {S : List Nat} {a : Nat → Nat → Int32} (h : MSt len nx p c S o a) : OkM len nx a a c p S o [] := ⟨h, trivial, fun _ _ => rfl, frN.refl⟩
theorem OkM.trans {len c q1 q2 o1 o2 : Nat} {nx : Nat → Nat} {S1 S2 : List Nat} {a a1 a2 : Nat → Nat → Int32} {x y : Ops} (h : OkM len nx a a1 c q1 S1 o1 x) (g : OkM len nx a1 a2 (c + x.length) q2 S2 o2 y) : OkM len nx a a2 c q2 S2 o2 (x ++ y) := by
  obtain ⟨h1, h2, h3, h4⟩ := h
  obtain ⟨g1, g2, g3, g4⟩ := g
  refine ⟨?_, ?_, fun j hj => (g3 j (by omega)).trans (h3 j hj), h4.trans g4⟩
  · rw [List.length_append, ← Nat.add_assoc]
    exact g1
  · rw [LayM.app]
    exact ⟨h2.ag (fun j _ hj => g3 j hj), g2⟩
theorem OkM.bad {len c q1 o1 : Nat} {nx : Nat → Nat} {S1 : List Nat} {a a1 a2 : Nat → Nat → Int32} {x : Ops} {e : Nat × Nat} (h : OkM len nx a a1 c q1 S1 o1 x) (g : BdM e a1 a2) : BdM e a a2 := ⟨g.1, h.2.2.2.trans g.2⟩
theorem BdM.w {k q : Nat} {a : Nat → Nat → Int32} : BdM (k, q) a (uI a 94 11 (fltI k q)) := ⟨uI_self, frN.p94 (by omega)⟩
theorem OkM.close {len c p o : Nat} {nx : Nat → Nat} {S : List Nat} {Z : List Nat} {a a' : Nat → Nat → Int32} (h2 : MSt len nx p (c + Z.length) S o a') (h3 : LayM (a' 100) 0 c (opZ Z)) (h4 : ∀ j, j < c → a' 100 j = a 100 j) (h5 : frN a a') : OkM len nx a a' c p S o (opZ Z) := ⟨by rw [opZ_len]; exact h2, h3, h4, h5⟩
theorem OkM.note {len c p o k v : Nat} {nx : Nat → Nat} {S : List Nat} {a : Nat → Nat → Int32} (h : MSt len nx p c S o a) (hk : k ≤ 10) (hv : k ≤ 1 ∨ v = 0) : OkM len nx a (uI (uI a 100 c (iN (1048576 * k + v))) 94 18 (iN (c + 1))) c p S o [(k, v)] := by
  refine ⟨h.note, ⟨?_, trivial⟩, fun j hj => note_at.2 j (by omega), frN.note⟩
  rw [note_at.1]
  have : cdM 0 c k v = v := by
    unfold cdM
    by_cases h1 : k ≤ 1
    · rw [if_pos h1]
    · rw [if_neg h1, if_neg (by omega)]
      omega
  rw [this]
theorem OkM.at {len c p q o : Nat} {nx : Nat → Nat} {S : List Nat} {a : Nat → Nat → Int32} (h : MSt len nx p c S o a) : OkM len nx a (uI a 94 9 (iN q)) c q S o [] := by
  obtain ⟨h1, h2, h3, h4, h5, h6, h7⟩ := h
  refine ⟨⟨uI_self, by rw [uI_nj (by omega)]; exact h2, by rw [uI_nj (by omega)]; exact h3, by rw [uI_nj (by omega)]; exact h4, by rw [uI_nj (by omega)]; exact h5, by rw [uI_ne (by omega)]; exact h6, fun j hj => by rw [uI_ne (by omega)]; exact h7 j hj⟩, trivial, fun j _ => by rw [uI_ne (by omega)], frN.p94 (by omega)⟩
/-- one more waits, a byte further, o open -/
theorem OkM_psh {len c p o o' z : Nat} {nx : Nat → Nat} {S : List Nat} {a : Nat → Nat → Int32} (h : MSt len nx p c S o a) : OkM len nx a (psh a S.length z (p + 1) o') c (p + 1) (z :: S) o' [] := by
  obtain ⟨h1, h2, h3, h4, h5, h6, h7⟩ := h
  have e9 : ∀ j, j ≠ 9 → j ≠ 17 → j ≠ 19 → psh a S.length z (p + 1) o' 94 j = a 94 j := fun j z1 z2 z3 => by
    unfold psh
    rw [uI_nj z1, uI_nj z3, uI_ne (by omega), uI_nj z2]
  have e101 : psh a S.length z (p + 1) o' 101 S.length = iN z ∧ ∀ j, j ≠ S.length → psh a S.length z (p + 1) o' 101 j = a 101 j := by
    unfold psh
    refine ⟨by rw [uI_ne (by omega), uI_ne (by omega), uI_self], fun j hj => by rw [uI_ne (by omega), uI_ne (by omega), uI_nj hj, uI_ne (by omega)]⟩
  have eo : ∀ k, k ≠ 94 → k ≠ 101 → psh a S.length z (p + 1) o' k = a k := fun k z1 z2 => by
    unfold psh
    rw [uI_ne z1, uI_ne z1, uI_ne z2, uI_ne z1]
  refine ⟨⟨uI_self, by rw [e9 10 (by omega) (by omega) (by omega)]; exact h2, by rw [e9 18 (by omega) (by omega) (by omega)]; exact h3, ?_, ?_, ⟨?_, ?_⟩, fun j hj => by rw [eo 95 (by omega) (by omega)]; exact h7 j hj⟩, trivial, fun j _ => by rw [eo 100 (by omega) (by omega)], ⟨fun k z1 _ z2 => eo k z1 z2, fun j z1 _ _ z2 _ z3 => e9 j z1 z2 z3⟩⟩
  · unfold psh
    rw [uI_nj (by omega), uI_self]
    rfl
  · unfold psh
    rw [uI_nj (by omega), uI_nj (by omega), uI_ne (by omega), uI_self]
  · rw [List.length_map]
    exact e101.1
  · exact h6.ag (fun j hj => e101.2 j (by rw [List.length_map] at hj; omega))
/-- what goes on behind a factor -/
def KOk (n d : Nat) (r : Nat → Nat → Option Nat) (v1 : Int32) (κ : Option Value × zmH → Option (Option Value × zmH)) : Prop := (∀ a b, κ (some (.int (iN 0)), (zmMk n a b r)) = some (some (.int (iN 0)), (zmMk n a b r))) ∧ ∃ u2, ∀ a b, κ (some (.int (iN 1)), (zmMk n a b r)) = Den (d+4) 180 14 [.ref 94,.int v1,u2] [] (zmMk n a b r)
theorem kok_78 {n d : Nat} {r : Nat → Nat → Option Nat} {v1 v2 : Int32} : KOk n d r v1 (fun q => Den (d+4) 180 78 [.ref 94,.int v1,.int v2] (q.1.toList ++ []) q.2) := by
  refine ⟨fun a b => ?_, .int v2, fun a b => ?_⟩
  · simp only [Option.bind_some, Option.toList_some, Option.toList_none, List.cons_append, List.nil_append, true_or, or_true, if_true, bI_if]
    rw [b180_78, if_pos rfl, b180_81]
  · simp only [Option.bind_some, Option.toList_some, Option.toList_none, List.cons_append, List.nil_append, true_or, or_true, if_true, bI_if]
    rw [b180_78, if_neg (eq_n (by omega) (by omega) (by omega)), b180_163]
theorem kok_9 {n d : Nat} {r : Nat → Nat → Option Nat} {v1 : Int32} : KOk n d r v1 (fun q => Den (d+4) 180 9 [.ref 94,.int v1,zmJ] (q.1.toList ++ []) q.2) := by
  refine ⟨fun a b => ?_, zmJ, fun a b => ?_⟩
  · simp only [Option.bind_some, Option.toList_some, Option.toList_none, List.cons_append, List.nil_append, true_or, or_true, if_true, bI_if]
    rw [b180_9, if_pos rfl, b180_12]
  · simp only [Option.bind_some, Option.toList_some, Option.toList_none, List.cons_append, List.nil_append, true_or, or_true, if_true, bI_if]
    rw [b180_9, if_neg (eq_n (by omega) (by omega) (by omega))]
def FacR (n d len : Nat) (nx : Nat → Nat) (b : Nat → Nat → Int64) (r : Nat → Nat → Option Nat) (a : Nat → Nat → Int32) (c : Nat) (S : List Nat) (o : Nat) (v1 : Int32) (z : PR) (X : Option (Option Value × zmH)) : Prop := match z with
  | .inl e => ∃ a', X = some (some (.int (iN 0)), zmMk n a' b r) ∧ BdM e a a'
  | .inr (q, os) => ∃ a' u', X = Den (d+4) 180 14 [.ref 94,.int v1,u'] [] (zmMk n a' b r) ∧ OkM len nx a a' c q S o os
def FacM (n d len base : Nat) (nx : Nat → Nat) (r : Nat → Nat → Option Nat) (fac : Nat → PR) (o : Nat) : Prop := ∀ (κ : Option Value × zmH → Option (Option Value × zmH)) (p : Nat) (S : List Nat) (c : Nat) (a : Nat → Nat → Int32) (b : Nat → Nat → Int64), KOk n d r (iN base) κ → MSt len nx p c S o a → p ≤ len → S.length ≤ p → (∀ s, s ∈ S → s < 100000000) → base ≤ S.length → c + (len - p) ≤ 250 → FacR n d len nx b r a c S o (iN base) (fac p) ((Den (d+3) 178 0 [.ref 94,zmJ] [] (zmMk n a b r)).bind κ)
/-- what a sum comes to, ahead of its last closing -/
def SumR (n d len : Nat) (nx : Nat → Nat) (b : Nat → Nat → Int64) (r : Nat → Nat → Option Nat) (a : Nat → Nat → Int32) (c : Nat) (S : List Nat) (o : Nat) (v1 : Int32) (z : PR) (X : Option (Option Value × zmH)) : Prop := match z with
  | .inl e => ∃ a', X = some (some (.int (iN 0)), zmMk n a' b r) ∧ BdM e a a'
  | .inr (q, os) => (plO (nx q) = 0 ∧ tmO (nx q) = 0) ∧ q ≤ len ∧ c + os.length ≤ 250 ∧ ∃ a' u' Z osx, X = Den (d+4) 180 14 [.ref 94,.int v1,u'] [] (zmMk n a' b r) ∧ os = osx ++ opZ Z ∧ (∀ z, z ∈ Z → 2 ≤ z ∧ z ≤ 6) ∧ (Z.map mU ++ S).length ≤ q ∧ OkM len nx a a' c q (Z.map mU ++ S) o osx
/-- the loop over factors -/
def TmsM (n d len c M : Nat) (nx : Nat → Nat) (b : Nat → Nat → Int64) (r : Nat → Nat → Option Nat) (a0 : Nat → Nat → Int32) (S : List Nat) (o : Nat) (v1 : Int32) (z : PR) (X : Option (Option Value × zmH)) : Prop := match z with
  | .inl e => ∃ a', X = some (some (.int (iN 0)), zmMk n a' b r) ∧ BdM e a0 a'
  | .inr (q, os) => q ≤ len ∧ c + os.length + (len - q) ≤ M ∧ tmO (nx q) = 0 ∧ ∃ a' u' T osx, X = Den (d+4) 180 14 [.ref 94,.int v1,u'] [] (zmMk n a' b r) ∧ os = osx ++ opZ T ∧ (T = [] ∨ ∃ t, T = [t] ∧ 4 ≤ t ∧ t ≤ 6) ∧ (T.map mU ++ S).length ≤ q ∧ OkM len nx a0 a' c q (T.map mU ++ S) o osx
theorem m1_sym {k : Nat} (h : k < 2147483648) : ¬ iN k = (-1 : Int32) := fun e => m1_ne h e.symm
theorem sgI_t {c : Nat} (h : tmO c ≠ 0) : sgI c = iN (tmO c) := by
  have hp : plO c = 0 := by
    unfold tmO at h
    unfold plO
    by_cases h1 : c = 43
    · subst h1; exact absurd rfl h
    · by_cases h2 : c = 45
      · subst h2; exact absurd rfl h
      · rw [if_neg h1, if_neg h2]
  unfold sgI
  rw [if_neg (fun q => q hp), if_pos h]
theorem sgI_p {c : Nat} (h : plO c ≠ 0) : sgI c = iN (plO c) := if_pos h
theorem sgI_0 {c : Nat} (h1 : plO c = 0) (h2 : tmO c = 0) : sgI c = -1 := by
  unfold sgI
  rw [if_neg (fun q => q h1), if_neg (fun q => q h2)]
theorem tmO_46 {c : Nat} (h : tmO c ≠ 0) : 4 ≤ tmO c ∧ tmO c ≤ 6 := by
  unfold tmO at h ⊢
  repeat' split
  all_goals first | omega | (exfalso; simp_all)
theorem plO_23 {c : Nat} (h : plO c ≠ 0) : plO c = 2 ∨ plO c = 3 := by
  unfold plO at h ⊢
  repeat' split
  all_goals first | omega | (exfalso; simp_all)
/-- a sign: what waits is closed, the sign waits, the next factor -/
theorem m_signed {d n len base p c o : Nat} {nx : Nat → Nat} {b : Nat → Nat → Int64} {r : Nat → Nat → Option Nat} {a : Nat → Nat → Int32} {Z S : List Nat} {u2 : Value} (hH : PrM len nx) (sg : Nat) (hsg : sgI (nx p) = iN sg) (h26 : 2 ≤ sg ∧ sg ≤ 6) (h : MSt len nx p c (Z.map mU ++ S) o a) (hp : p ≤ len) (hS : stopA (decide (sg < 4)) S) (hZ : ∀ z, z ∈ Z → okZ (decide (sg < 4)) z) (hSb : ∀ s, s ∈ S → s < 100000000) (hl : (Z.map mU ++ S).length ≤ p) (hc : c + Z.length ≤ 250) : ∃ a', Den (d+4) 180 14 [.ref 94,.int (iN base),u2] [] (zmMk n a b r) = (Den (d+3) 178 0 [.ref 94,zmJ] [] (zmMk n a' b r)).bind (fun q => Den (d+4) 180 78 [.ref 94,.int (iN base),.int (iN sg)] (q.1.toList ++ []) q.2) ∧ OkM len nx a a' c (p + 1) (mU sg :: S) o (opZ Z) := by
  have hlen := hH.1
  have hlZ : (Z.map mU ++ S).length = Z.length + S.length := by rw [List.length_append, List.length_map]
  have e1 : Den (d+3) 167 0 [.ref 94] [] (zmMk n a b r) = _ := m_lookS hH h hp
  have e2 : Den (d+3) 176 0 [.int (nxV (nx p))] [] (zmMk n a b r) = _ := m_sign (nx_257 hH)
  obtain ⟨a1, i1, i2, i3, i4, i5⟩ := m_closes (d := d+2) (b := b) (r := r) (n := n) hS hSb Z c a h hZ (by omega) (by omega)
  have ok1 := OkM.close i2 i3 i4 i5
  have i1' : Den (d+3) 177 0 [.ref 94, .int (bI (decide (sg < 4)))] [] (zmMk n a b r) = _ := i1
  have hcall : Den (d+4) 180 38 [.ref 94,.int (iN base),.int (iN sg)] [.int (bI (decide (sg < 4))),.ref 94] (zmMk n a b r) = Den (d+4) 180 41 [.ref 94,.int (iN base),.int (iN sg)] [] (zmMk n a1 b r) := by
    rw [b180_38, i1']
    simp only [Option.bind_some, Option.toList_none, List.nil_append]
  refine ⟨psh a1 S.length (mU sg) (p + 1) o, ?_, ok1.trans ?_ |> fun h => by rw [List.append_nil] at h; exact h⟩
  · rw [b180_14, e1]
    simp only [Option.bind_some, Option.toList_some, Option.toList_none, List.cons_append, List.nil_append, true_or, or_true, if_true, bI_if]
    rw [b180_18, e2, hsg]
    simp only [Option.bind_some, Option.toList_some, Option.toList_none, List.cons_append, List.nil_append, true_or, or_true, if_true, bI_if]
    rw [b180_21, if_neg (m1_sym (by omega)), b180_27]
    have hto : (if iN sg < iN 4 then Den (d+4) 180 33 [.ref 94,.int (iN base),.int (iN sg)] [.ref 94] (zmMk n a b r) else Den (d+4) 180 37 [.ref 94,.int (iN base),.int (iN sg)] [.ref 94] (zmMk n a b r)) = Den (d+4) 180 38 [.ref 94,.int (iN base),.int (iN sg)] [.int (bI (decide (sg < 4))),.ref 94] (zmMk n a b r) := by
      by_cases h4 : sg < 4
      · rw [if_pos (lt_p h4 (by omega)), b180_33, decide_eq_true h4]
        rfl
      · rw [if_neg (lt_n h4 (by omega)), b180_37, decide_eq_false h4]
        rfl
    rw [hto, hcall, b180_41, i2.2.2.2.1, n_in (by omega), if_pos (decide_eq_true (by omega)), n_nat (by omega), b180_54, n_mul]
    have e19 : ∀ w, uI a1 101 S.length w 94 19 = iN S.length := fun w => by rw [uI_ne (by omega)]; exact i2.2.2.2.1
    have e9 : ∀ w v, uI (uI a1 101 S.length w) 94 19 v 94 9 = iN p := fun w v => by rw [uI_nj (by omega), uI_ne (by omega)]; exact i2.1
    rw [e19, n_add, e9, n_add]
    have eq : uI (uI (uI a1 101 S.length (iN (1048576 * sg))) 94 19 (iN (S.length + 1))) 94 9 (iN (p + 1)) = psh a1 S.length (mU sg) (p + 1) o := by
      have h17 := i2.2.2.2.2.1
      have eu : uI a1 94 17 (iN o) = a1 := by
        funext k j
        rw [uI_at]
        by_cases hkj : k = 94 ∧ j = 17
        · rw [if_pos hkj, hkj.1, hkj.2, h17]
        · rw [if_neg hkj]
      unfold psh
      rw [eu]
      rfl
    rw [eq]
  · rw [opZ_len]
    exact OkM_psh i2
theorem m_tmsL {d n len base M o cc : Nat} {nx : Nat → Nat} {r : Nat → Nat → Option Nat} {fac : Nat → PR} (hH : PrM len nx) (hF : FacM n d len base nx r fac o) (hG : ∀ p, p ≤ len → gdR len cc p (fac p)) (hM : M ≤ 250) (f : Nat) : ∀ (p : Nat) (osx : Ops) (T : List Nat) (os : Ops) (S : List Nat) (c : Nat) (u : Value) (a0 a : Nat → Nat → Int32) (b : Nat → Nat → Int64), len < p + f → (T = [] ∨ ∃ t, T = [t] ∧ 4 ≤ t ∧ t ≤ 6) → os = osx ++ opZ T → OkM len nx a0 a c p (T.map mU ++ S) o osx → stopA false S → p ≤ len → (T.map mU ++ S).length ≤ p → (∀ s, s ∈ S → s < 100000000) → base ≤ S.length → c + os.length + (len - p) ≤ M → TmsM n d len c M nx b r a0 S o (iN base) (pTms nx fac f p os) (Den (d+4) 180 14 [.ref 94,.int (iN base),u] [] (zmMk n a b r)) := by
  induction f with
  | zero =>
    intro p osx T os S c u a0 a b h1 h2 h3 h4 h5 h6
    exact absurd h1 (by omega)
  | succ f ih =>
    intro p osx T os S c u a0 a b h1 h2 h3 h4 h5 h6 h7 h8 h9 h10
    have hlen := hH.1
    have hos : os.length = osx.length + T.length := by rw [h3, List.length_append, opZ_len]
    show TmsM n d len c M nx b r a0 S o (iN base) (if tmO (nx p) = 0 then .inr (p, os) else match fac (p + 1) with
      | .inl e => .inl e
      | .inr (q, o2) => pTms nx fac f q (os ++ (o2 ++ [(tmO (nx p), 0)]))) _
    by_cases ht : tmO (nx p) = 0
    · rw [if_pos ht]
      exact ⟨h6, h10, ht, a, u, T, osx, rfl, h3, h2, h7, h4⟩
    · obtain ⟨t4, t6⟩ := tmO_46 ht
      have hp1 := nx_le hH.2.1 (p := p) (by intro e; rw [e] at ht; exact ht rfl)
      have hd : decide (tmO (nx p) < 4) = false := decide_eq_false (by omega)
      have hT46 : ∀ z, z ∈ T → okZ false z := fun z hz => by
        rcases h2 with h | ⟨t, h, ht2⟩
        · rw [h] at hz; cases hz
        · rw [h] at hz
          rw [List.mem_singleton.mp hz]
          exact Or.inl ht2
      have hlT : (T.map mU ++ S).length = T.length + S.length := by rw [List.length_append, List.length_map]
      obtain ⟨a1, e1, ok1⟩ := m_signed (d := d) (n := n) (base := base) (b := b) (r := r) (u2 := u) hH (tmO (nx p)) (sgI_t ht) (by omega) h4.1 h6 (by rw [hd]; exact h5) (by rw [hd]; exact hT46) h8 h7 (by omega)
      have ok2 := h4.trans ok1
      rw [← h3] at ok2
      have hF1 := hF _ (p + 1) (mU (tmO (nx p)) :: S) (c + os.length) a1 b (kok_78 (v2 := iN (tmO (nx p)))) ok2.1 hp1 (by show S.length + 1 ≤ _; omega) (fun s hs => by
        rcases List.mem_cons.mp hs with h | h
        · rw [h]; unfold mU; omega
        · exact h8 s h) (by show base ≤ S.length + 1; omega) (by omega)
      have hg := hG (p + 1) hp1
      rw [if_neg ht, e1]
      cases hz : fac (p + 1) with
      | inl e =>
        rw [hz] at hF1
        obtain ⟨a2, e2, bad⟩ := hF1
        exact ⟨a2, e2, ok2.bad bad⟩
      | inr e =>
        obtain ⟨q, o2⟩ := e
        rw [hz] at hF1 hg
        obtain ⟨a2, u', e2, ok3⟩ := hF1
        obtain ⟨g1, g2, g3, g4⟩ := hg
        have hl4 : (os ++ (o2 ++ [(tmO (nx p), 0)])).length = os.length + (o2.length + 1) := by
          rw [List.length_append, List.length_append]
          rfl
        dsimp only
        rw [e2]
        refine ih q (os ++ o2) [tmO (nx p)] _ S c u' a0 a2 b (by omega) (Or.inr ⟨_, rfl, t4, t6⟩) ?_ (ok2.trans ok3) h5 g2 (by show S.length + 1 ≤ _; omega) h8 h9 (by omega)
        rw [List.append_assoc]
        rfl
