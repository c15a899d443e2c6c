/-! ===== the tape: feed, check ===== -/
/-- the picture with another tape -/
def tpS (σ : SV) (s : Nat) (G : Nat → Nat) : SV := uRow (uN σ 0 2 s) 10 G
theorem tx_dis {T S k : Nat} (hT : isTx T) (hS : isTx S) (h : T ≠ S) (h1 : T ≤ k) (h2 : k ≤ T + 4) : ¬ (S ≤ k ∧ k ≤ S + 4) := by
  rcases tx_of hT with rfl | rfl | rfl | rfl | rfl | rfl <;> rcases tx_of hS with rfl | rfl | rfl | rfl | rfl | rfl <;> omega
theorem tx_k {T k : Nat} (hT : isTx T) (h1 : T ≤ k) (h2 : k ≤ T + 4) : (31 ≤ k ∧ k ≤ 42) ∨ (70 ≤ k ∧ k ≤ 92) := by
  rcases tx_of hT with rfl | rfl | rfl | rfl | rfl | rfl <;> omega
theorem StC.updT {a a' : Nat → Nat → Int32} {b b' : Nat → Nat → Int64} {r r' : Nat → Nat → Option Nat} {σ : SV} {cl : List Cls} {R : Nat → List Cls} {TL TS A s : Nat} {TR : Nat → Nat} {G : Nat → Nat} (h : StC a b r σ cl R TL TS TR A) (hf : ∀ k, k < 94 → scV k = false → k ≠ 14 → k ≠ 15 → k ≠ 26 → k ≠ 44 → ¬ (TS ≤ k ∧ k ≤ TS + 4) → a' k = a k) (h14 : ∀ j, j ≠ 1 → a' 14 j = a 14 j) (t1 : a' 14 1 = iN s) (t2 : ∀ j, j < s → a' 15 j = iN (G j)) (hr : TxS r' TL TS TR) (h2 : b' 2 = b 2) (h3 : b' 3 = b 3) : StC a' b' r' (tpS σ s G) cl R TL TS TR A := by
  obtain ⟨c1, c2, c3, c4, -, c6, c7, c8, c9, c10, c11, c12⟩ := h
  have hS := tx_of hr.2.1
  have hg : ∀ k, (k < 14 ∨ (16 ≤ k ∧ k ≤ 25) ∨ (27 ≤ k ∧ k ≤ 29) ∨ (62 ≤ k ∧ k ≤ 64)) → a' k = a k := fun k hk => hf k (by omega) (scV_n (by omega)) (by omega) (by omega) (by omega) (by omega) (by omega)
  have hT : ∀ T, isTx T → T ≠ TS → ∀ k, T ≤ k → k ≤ T + 4 → a' k = a k := fun T hX hne k h1 h2 => by
    have := tx_k hX h1 h2
    exact hf k (by omega) (scV_t hX h1 h2) (by omega) (by omega) (by omega) (by omega) (tx_dis hX hr.2.1 hne h1 h2)
  refine ⟨c1.ag (fun k hk => hg k (by omega)), c2.fr h2 h3, c3.ag (fun k h1 h2 => hg k (by omega)), ⟨by rw [h14 4 (by omega)]; exact c4.1, fun q => (c4.2 q).ag (fun k h1 h2 => hg k (by omega))⟩, ⟨t1, t2⟩, by rw [hg 24 (by omega), hg 25 (by omega)]; exact c6, by rw [hg 27 (by omega), hg 28 (by omega)]; exact c7, by rw [hg 29 (by omega)]; exact c8, c9.ag (fun k h1 h2 => hg k (by omega)), hr, c11.ag (fun k h1 h2 => hT TL hr.1 hr.2.2.2.1 k h1 h2), fun k hk => (c12 k hk).ag (fun q h1 h2 => hT _ (hr.2.2.1 k hk) (hr.2.2.2.2.1 k hk).2 q h1 h2)⟩
theorem StM.updT {a a' : Nat → Nat → Int32} {σ : SV} {cl' : List Cls} {R' : Nat → List Cls} {s : Nat} {G : Nat → Nat} (h : StM a σ cl' R') (hf : ∀ k, (k = 96 ∨ k = 98 ∨ (106 ≤ k ∧ k ≤ 111) ∨ (127 ≤ k ∧ k ≤ 136) ∨ (139 ≤ k ∧ k ≤ 146)) → a' k = a k) (h94 : ∀ j, (j ≤ 4 ∨ 64 ≤ j) → a' 94 j = a 94 j) (t1 : a' 94 8 = iN s) (t2 : ∀ j, j < s → a' 95 j = i8V (G j)) : StM a' (tpS σ s G) cl' R' := by
  obtain ⟨c1, c2, -, c4, c5, c6, c7, c8⟩ := h
  exact ⟨c1.ag (fun j hj => h94 j (by omega)) (fun k h => hf k (by omega)), ⟨by rw [h94 80 (by omega)]; exact c2.1, fun q => (c2.2 q).ag (fun j hj => h94 j (by omega)) (fun k h => hf k (by omega))⟩, ⟨t1, t2⟩, by rw [h94 2 (by omega), hf 96 (by omega)]; exact c4, by rw [h94 4 (by omega), h94 3 (by omega), hf 98 (by omega)]; exact c5, c6.ag (h94 73 (by omega)) (h94 74 (by omega)) (hf 134 (by omega)) (hf 135 (by omega)), c7.ag (fun k h1 h2 => hf k (by omega)), fun k hk => (c8 k hk).ag (fun q h1 h2 => hf q (by omega))⟩
theorem St.updT {a : Nat → Nat → Int32} {b : Nat → Nat → Int64} {r : Nat → Nat → Option Nat} {σ : SV} {cl cl' : List Cls} {R R' : Nat → List Cls} {TL TS A : Nat} {TR : Nat → Nat} {a1 a2 : Nat → Nat → Int32} {b1 b2 : Nat → Nat → Int64} {r1 : Nat → Nat → Option Nat} {s : Nat} {G : Nat → Nat} (h : (St a b r σ cl cl' R R' TL TS TR A)) (hs : s ≤ 260) (hG : ∀ j, j < s → G j < 256) (hf : ∀ k, k < 94 → scV k = false → k ≠ 14 → k ≠ 15 → k ≠ 26 → k ≠ 44 → ¬ (TS ≤ k ∧ k ≤ TS + 4) → a1 k = a k) (hK : a1 52 = a 52 ∧ a1 54 = a 54 ∧ a1 55 = a 55 ∧ a1 61 = a 61) (h14 : ∀ j, j ≠ 1 → a1 14 j = a 14 j) (t1 : a1 14 1 = iN s) (t2 : ∀ j, j < s → a1 15 j = iN (G j)) (hr : TxS r1 TL TS TR) (hb : ∀ k, k < 94 → b1 k = b k) (hhi : ∀ k, 94 ≤ k → a1 k = a k) (e1 : ∀ k, k < 94 → a2 k = a1 k) (e2 : ∀ k, k < 94 → b2 k = b1 k) (mf : ∀ k, (k = 96 ∨ k = 98 ∨ (106 ≤ k ∧ k ≤ 111) ∨ (127 ≤ k ∧ k ≤ 136) ∨ (139 ≤ k ∧ k ≤ 146)) → a2 k = a1 k) (m94 : ∀ j, (j ≤ 4 ∨ 64 ≤ j) → a2 94 j = a1 94 j) (u1 : a2 94 8 = iN s) (u2 : ∀ j, j < s → a2 95 j = i8V (G j)) : St a2 b2 r1 (tpS σ s G) cl cl' R R' TL TS TR A := by
  obtain ⟨hB, hC, hM, hQ⟩ := h
  obtain ⟨x1, x2, x3, x4, x5, x6, x7, x8, x9⟩ := hB
  obtain ⟨k1, k2, k3, k4⟩ := hK
  refine St.mkJ ⟨x1, x2, x3, ⟨hs, hG⟩, x5, x6, x7, x8, x9⟩ ⟨hC.updT hf h14 t1 t2 hr (hb 2 (by omega)) (hb 3 (by omega)), ?_⟩ ((hM.hi hhi).updT mf m94 u1 u2) e1 e2
  have e29 : a1 29 = a 29 := hf 29 (by omega) (scV_n (by omega)) (by omega) (by omega) (by omega) (by omega) (by rcases tx_of hr.2.1 with h | h | h | h | h | h <;> omega)
  exact ⟨hQ.1.ag k1 e29 k2 (hb 53 (by omega)), hQ.2.ag k3 k4 (hb 55 (by omega))⟩
theorem i_ofN (y : Int32) : iN y.toBitVec.toNat = y := Int32.toBitVec.inj (by
  show BitVec.ofNat 32 y.toBitVec.toNat = _
  rw [BitVec.ofNat_toNat, BitVec.setWidth_eq])
def bytN (y : Int32) : Nat := y.toBitVec.toNat &&& 255
theorem bytN_lt (y : Int32) : bytN y < 256 := Nat.and_lt_two_pow (n := 8) _ (by decide)
theorem bytN_and (y : Int32) : y &&& iN 255 = iN (bytN y) := by
  have h := n_and y.toBitVec.toNat 255
  rw [i_ofN] at h
  exact h
theorem bytN_8 (y : Int32) : Int8.toInt32 (Int32.toInt8 (Int8.toInt32 (Int32.toInt8 y))) = i8V (bytN y) := by
  unfold i8V
  rw [← bytN_and, Int32.toInt8_and, Int8.toInt8_toInt32, show (iN 255).toInt8 = -1 by decide, Int8.and_neg_one]
theorem i8_and : ∀ x < 256, i8V x &&& iN 255 = iN x := by decide +kernel
def shN (v : Int32) (w : Nat) : Int32 := v >>> ((iN w : Int32) &&& (iN 31))
/-- the bytes of an int, behind s bytes -/
def extT (G : Nat → Nat) (s : Nat) (v : Int32) : Nat → Nat := fun j => if j < s then G j else bytN (shN v (24 - 8 * (j - s)))
theorem extT_lt {G : Nat → Nat} {s : Nat} {v : Int32} (h : ∀ j, j < s → G j < 256) (j : Nat) : extT G s v j < 256 := by
  unfold extT
  split
  · exact h j (by assumption)
  · exact bytN_lt _
def TapC (a : Nat → Nat → Int32) (s : Nat) (G : Nat → Nat) : Prop := a 14 1 = iN s ∧ ∀ j, j < s → a 15 j = iN (G j)
def TapM (a : Nat → Nat → Int32) (s : Nat) (G : Nat → Nat) : Prop := a 94 8 = iN s ∧ ∀ j, j < s → a 95 j = i8V (G j)
def frTC (a a' : Nat → Nat → Int32) : Prop := (∀ q, q ≠ 14 → q ≠ 15 → a' q = a q) ∧ ∀ j, j ≠ 1 → a' 14 j = a 14 j
def frTM (a a' : Nat → Nat → Int32) : Prop := (∀ q, q ≠ 94 → q ≠ 95 → a' q = a q) ∧ ∀ j, j ≠ 8 → a' 94 j = a 94 j
theorem frTC.trans {a a1 a2 : Nat → Nat → Int32} (h : frTC a a1) (g : frTC a1 a2) : frTC a a2 := ⟨fun q h1 h2 => (g.1 q h1 h2).trans (h.1 q h1 h2), fun j h1 => (g.2 j h1).trans (h.2 j h1)⟩
theorem frTM.trans {a a1 a2 : Nat → Nat → Int32} (h : frTM a a1) (g : frTM a1 a2) : frTM a a2 := ⟨fun q h1 h2 => (g.1 q h1 h2).trans (h.1 q h1 h2), fun j h1 => (g.2 j h1).trans (h.2 j h1)⟩
theorem lay15 : zmLay 15 = (20, 260) := by decide +kernel
def apC (a : Nat → Nat → Int32) (s x : Nat) : Nat → Nat → Int32 := uI (uI a 15 s (iN x)) 14 1 (iN (s + 1))
def apM (a : Nat → Nat → Int32) (s x : Nat) : Nat → Nat → Int32 := uI (uI a 95 s (i8V x)) 94 8 (iN (s + 1))
theorem apC_fr (a : Nat → Nat → Int32) (s x : Nat) : frTC a (apC a s x) := ⟨fun q h1 h2 => by
  unfold apC
  rw [uI_ne h1, uI_ne h2], fun j h => by
  unfold apC
  rw [uI_at, if_neg (by omega), uI_ne (by omega)]⟩
theorem apM_fr (a : Nat → Nat → Int32) (s x : Nat) : frTM a (apM a s x) := ⟨fun q h1 h2 => by
  unfold apM
  rw [uI_ne h1, uI_ne h2], fun j h => by
  unfold apM
  rw [uI_at, if_neg (by omega), uI_ne (by omega)]⟩
theorem apC_1 {a : Nat → Nat → Int32} {s x : Nat} : apC a s x 14 1 = iN (s + 1) := by
  unfold apC
  rw [uI_at, if_pos ⟨rfl, rfl⟩]
theorem apM_1 {a : Nat → Nat → Int32} {s x : Nat} : apM a s x 94 8 = iN (s + 1) := by
  unfold apM
  rw [uI_at, if_pos ⟨rfl, rfl⟩]
theorem apC_15 {a : Nat → Nat → Int32} {s x j : Nat} : apC a s x 15 j = if j = s then iN x else a 15 j := by
  unfold apC
  rw [uI_ne (by omega), uI_at]
  simp only [true_and]
theorem apM_95 {a : Nat → Nat → Int32} {s x j : Nat} : apM a s x 95 j = if j = s then i8V x else a 95 j := by
  unfold apM
  rw [uI_ne (by omega), uI_at]
  simp only [true_and]
theorem c_apS {d s w : Nat} {n : Nat} {a : Nat → Nat → Int32} {b : Nat → Nat → Int64} {r : Nat → Nat → Option Nat} {v1 : Int32} (h1 : a 14 1 = iN s) (hs : s < 260) (hw : w ≤ 24) : Den (d+1) 127 3 [.ref 14,.int v1,.int (iN w)] [] (zmMk n a b r) = Den (d+1) 127 3 [.ref 14,.int v1,.int (iN w + (-8))] [] (zmMk n (apC a s (bytN (shN v1 w))) b r) := by
  rw [b127_3, if_neg (by rw [n_lt (by omega) (by omega)]; omega), b127_7, h1, bytN_and, c_put lay15 (by decide) (by decide) (by decide), puV_n hs (by decide)]
  simp only [Option.bind_some, Option.toList_some, Option.toList_none, List.cons_append, List.nil_append, true_or, or_true, if_true, bI_if]
  rw [b127_25, uI_ne (by omega), h1, n_add]
  rfl
theorem c_append {d s : Nat} {n : Nat} {a : Nat → Nat → Int32} {b : Nat → Nat → Int64} {r : Nat → Nat → Option Nat} {v1 : Int32} {G : Nat → Nat} (h : TapC a s G) (hs : s + 4 ≤ 260) : ∃ a', Den (d+1) 127 0 [.ref 14, .int v1, zmJ] [] (zmMk n a b r) = some (none, zmMk n a' b r) ∧ TapC a' (s + 4) (extT G s v1) ∧ frTC a a' := by
  obtain ⟨h1, h2⟩ := h
  refine ⟨apC (apC (apC (apC a s (bytN (shN v1 24))) (s + 1) (bytN (shN v1 16))) (s + 2) (bytN (shN v1 8))) (s + 3) (bytN (shN v1 0)), ?_, ⟨apC_1, fun j hj => ?_⟩, (((apC_fr _ _ _).trans (apC_fr _ _ _)).trans (apC_fr _ _ _)).trans (apC_fr _ _ _)⟩
  · rw [b127_0, c_apS h1 (by omega) (by omega), show iN 24 + (-8) = iN 16 by decide +kernel, c_apS apC_1 (by omega) (by omega), show iN 16 + (-8) = iN 8 by decide +kernel, c_apS apC_1 (by omega) (by omega), show iN 8 + (-8) = iN 0 by decide +kernel, c_apS apC_1 (by omega) (by omega), b127_3, if_pos (by decide +kernel), b127_41]
  · rw [apC_15, apC_15, apC_15, apC_15]
    unfold extT
    by_cases hj1 : j < s
    · rw [if_pos hj1, if_neg (by omega), if_neg (by omega), if_neg (by omega), if_neg (by omega)]
      exact h2 j hj1
    · rw [if_neg hj1]
      rcases (by omega : j = s ∨ j = s + 1 ∨ j = s + 2 ∨ j = s + 3) with rfl | rfl | rfl | rfl
      · rw [if_neg (by omega), if_neg (by omega), if_neg (by omega), if_pos rfl, Nat.sub_self]
      · rw [if_neg (by omega), if_neg (by omega), if_pos rfl, Nat.add_sub_cancel_left]
      · rw [if_neg (by omega), if_pos rfl, Nat.add_sub_cancel_left]
      · rw [if_pos rfl, Nat.add_sub_cancel_left]
theorem m_apS {d s w : Nat} {n : Nat} {a : Nat → Nat → Int32} {b : Nat → Nat → Int64} {r : Nat → Nat → Option Nat} {v1 : Int32} (h1 : a 94 8 = iN s) (hs : s < 260) (hw : w ≤ 3) : Den d 157 2 [.ref 94,.int v1,.int (iN w)] [] (zmMk n a b r) = Den d 157 2 [.ref 94,.int v1,.int (iN w + (-1))] [] (zmMk n (apM a s (bytN (shN v1 (8 * w)))) b r) := by
  rw [b157_2, if_neg (by rw [n_lt (by omega) (by omega)]; omega), b157_6, h1, n_in (by omega), if_pos (decide_eq_true hs), n_nat (by omega), bytN_8, n_mul, b157_22, uI_ne (by omega), h1, n_add]
  rfl
theorem m_types {d s : Nat} {n : Nat} {a : Nat → Nat → Int32} {b : Nat → Nat → Int64} {r : Nat → Nat → Option Nat} {v1 : Int32} {G : Nat → Nat} (h : TapM a s G) (hs : s + 4 ≤ 260) : ∃ a', Den (d) 157 0 [.ref 94, .int v1, zmJ] [] (zmMk n a b r) = some (none, zmMk n a' b r) ∧ TapM a' (s + 4) (extT G s v1) ∧ frTM a a' := by
  obtain ⟨h1, h2⟩ := h
  refine ⟨apM (apM (apM (apM a s (bytN (shN v1 24))) (s + 1) (bytN (shN v1 16))) (s + 2) (bytN (shN v1 8))) (s + 3) (bytN (shN v1 0)), ?_, ⟨apM_1, fun j hj => ?_⟩, (((apM_fr _ _ _).trans (apM_fr _ _ _)).trans (apM_fr _ _ _)).trans (apM_fr _ _ _)⟩
  · rw [b157_0, m_apS h1 (by omega) (by omega), show iN 3 + (-1) = iN 2 by decide +kernel, m_apS apM_1 (by omega) (by omega), show iN 2 + (-1) = iN 1 by decide +kernel, m_apS apM_1 (by omega) (by omega), show iN 1 + (-1) = iN 0 by decide +kernel, m_apS apM_1 (by omega) (by omega), b157_2, if_pos (by decide +kernel), b157_38]
  · rw [apM_95, apM_95, apM_95, apM_95]
    unfold extT
    by_cases hj1 : j < s
    · rw [if_pos hj1, if_neg (by omega), if_neg (by omega), if_neg (by omega), if_neg (by omega)]
      exact h2 j hj1
    · rw [if_neg hj1]
      rcases (by omega : j = s ∨ j = s + 1 ∨ j = s + 2 ∨ j = s + 3) with rfl | rfl | rfl | rfl
      · rw [if_neg (by omega), if_neg (by omega), if_neg (by omega), if_pos rfl, Nat.sub_self]
      · rw [if_neg (by omega), if_neg (by omega), if_pos rfl, Nat.add_sub_cancel_left]
      · rw [if_neg (by omega), if_pos rfl, Nat.add_sub_cancel_left]
      · rw [if_pos rfl, Nat.add_sub_cancel_left]
theorem p_feed {d : Nat} {n : Nat} {a : Nat → Nat → Int32} {b : Nat → Nat → Int64} {r : Nat → Nat → Option Nat} {σ : SV} {cl cl' : List Cls} {R R' : Nat → List Cls} {TL TS A : Nat} {TR : Nat → Nat} (h : (St a b r σ cl cl' R R' TL TS TR A)) {v1 v2 v3 v4 v5 : Int32} : ∃ (v : Int32) (a1 : Nat → Nat → Int32) (b1 : Nat → Nat → Int64) (r1 : Nat → Nat → Option Nat) (a2 : Nat → Nat → Int32) (b2 : Nat → Nat → Int64), Den (d+60) 94 0 [.ref 14, .int v1, .int v2, .int v3, .int v4, .int v5] [] (zmMk n a b r) = some (some (.int v), zmMk n a1 b1 r1) ∧ Den (d+60) 158 0 [.ref 94, .int v1, .int v2, .int v3, .int v4, .int v5] [] (zmMk n a1 b1 r1) = some (some (.int v), zmMk n a2 b2 r1) ∧ InvS a2 b2 r1 (A + 1) := by
  have hT : TapC a (σ 0 2) (σ 10) := h.2.1.2.2.2.2.1
  have hU : TapM a (σ 0 2) (σ 10) := h.2.2.1.2.2.1
  have hs : σ 0 2 ≤ 260 ∧ ∀ j, j < σ 0 2 → σ 10 j < 256 := h.1.2.2.2.1
  by_cases g : σ 0 2 + 20 ≤ 260
  · have g' : (iN 260 < iN (σ 0 2 + 20)) = False := by rw [n_lt (by omega) (by omega)]; exact eq_false (by omega)
    obtain ⟨a1, e1, t1, f1⟩ := c_append (d := d+58) (n := n) (b := b) (r := r) (v1 := v1) hT (by omega)
    obtain ⟨a2, e2, t2, f2⟩ := c_append (d := d+58) (n := n) (b := b) (r := r) (v1 := v2) t1 (by omega)
    obtain ⟨a3, e3, t3, f3⟩ := c_append (d := d+58) (n := n) (b := b) (r := r) (v1 := v3) t2 (by omega)
    obtain ⟨a4, e4, t4, f4⟩ := c_append (d := d+58) (n := n) (b := b) (r := r) (v1 := v4) t3 (by omega)
    obtain ⟨a5, e5, t5, f5⟩ := c_append (d := d+58) (n := n) (b := b) (r := r) (v1 := v5) t4 (by omega)
    have fc := (((f1.trans f2).trans f3).trans f4).trans f5
    have u0 : TapM a5 (σ 0 2) (σ 10) := by
      unfold TapM
      rw [fc.1 94 (by omega) (by omega), fc.1 95 (by omega) (by omega)]
      exact hU
    obtain ⟨x1, y1, u1, w1⟩ := m_types (d := d+59) (n := n) (b := b) (r := r) (v1 := v1) u0 (by omega)
    obtain ⟨x2, y2, u2, w2⟩ := m_types (d := d+59) (n := n) (b := b) (r := r) (v1 := v2) u1 (by omega)
    obtain ⟨x3, y3, u3, w3⟩ := m_types (d := d+59) (n := n) (b := b) (r := r) (v1 := v3) u2 (by omega)
    obtain ⟨x4, y4, u4, w4⟩ := m_types (d := d+59) (n := n) (b := b) (r := r) (v1 := v4) u3 (by omega)
    obtain ⟨x5, y5, u5, w5⟩ := m_types (d := d+59) (n := n) (b := b) (r := r) (v1 := v5) u4 (by omega)
    have fm := (((w1.trans w2).trans w3).trans w4).trans w5
    refine ⟨iN (σ 0 2 + 4 + 4 + 4 + 4 + 4), a5, b, r, x5, b, ?_, ?_, ?_⟩
    · simp only [b94_0, hT.1, n_add, g', if_false, b94_17, e1, Option.bind_some, Option.toList_some, Option.toList_none, List.cons_append, List.nil_append, true_or, or_true, if_true, bI_if, b94_22, e2, b94_27, e3, b94_32, e4, b94_38, e5, b94_44, t5.1]
    · simp only [b158_0, u0.1, n_add, g', if_false, b158_15, y1, Option.bind_some, Option.toList_some, Option.toList_none, List.cons_append, List.nil_append, true_or, or_true, if_true, bI_if, b158_20, y2, b158_25, y3, b158_30, y4, b158_36, y5, b158_42, u5.1]
    · refine InvS.of (St.updT (a1 := a5) (b1 := b) (s := σ 0 2 + 4 + 4 + 4 + 4 + 4) h (by omega) (fun j _ => extT_lt (fun j _ => extT_lt (fun j _ => extT_lt (fun j _ => extT_lt (fun j hj => extT_lt hs.2 j) j) j) j) j) (fun k _ _ h1 h2 _ _ _ => fc.1 k h1 h2) ⟨fc.1 52 (by omega) (by omega), fc.1 54 (by omega) (by omega), fc.1 55 (by omega) (by omega), fc.1 61 (by omega) (by omega)⟩ fc.2 t5.1 t5.2 h.2.1.2.2.2.2.2.2.2.2.2.1 (fun _ _ => rfl) (fun k hk => fc.1 k (by omega) (by omega)) (fun k hk => fm.1 k (by omega) (by omega)) (fun _ _ => rfl) (fun k hk => fm.1 k (by omega) (by omega)) (fun j hj => fm.2 j (by omega)) u5.1 u5.2) (Nat.le_succ _)
  · have g' : (iN 260 < iN (σ 0 2 + 20)) = True := by rw [n_lt (by omega) (by omega)]; exact eq_true (by omega)
    refine ⟨-1, a, b, r, a, b, ?_, ?_, InvS.of h (Nat.le_succ _)⟩
    · simp only [b94_0, hT.1, n_add, g', if_true, b94_15]
    · simp only [b158_0, hU.1, n_add, g', if_true, b158_13]
/-- the number that four bytes of the tape are -/
def ntV (G : Nat → Nat) (i : Nat) : Nat → Int32
  | 0 => iN 0
  | j + 1 => (ntV G i j <<< ((iN 8 : Int32) &&& (iN 31))) ||| iN (G (4 * i + j))
theorem c_numL {d i : Nat} {n : Nat} {a : Nat → Nat → Int32} {b : Nat → Nat → Int64} {r : Nat → Nat → Option Nat} {G : Nat → Nat} (hi : i < 10) (hG : ∀ j, j < 4 * i + 4 → a 15 j = iN (G j)) (k : Nat) : ∀ j, j + k = 4 → Den (d+1) 128 4 [.ref 14,.int (iN i),.int (ntV G i j),.int (iN j)] [] (zmMk n a b r) = some (some (.int (ntV G i 4)), (zmMk n a b r)) := by
  induction k with
  | zero =>
    intro j hj
    obtain rfl : j = 4 := by omega
    rw [b128_4, if_neg (by rw [n_lt (by omega) (by omega)]; omega), b128_33]
  | succ k ih =>
    intro j hj
    rw [b128_4, if_pos (by rw [n_lt (by omega) (by omega)]; omega), b128_9, n_mul, n_add, c_item lay15 (show 15 ≠ 0 by omega) (show 15 < 147 by omega) (show 260 < 2147483648 by omega), itV_n (show 4 * i + j < 260 by omega) (show 260 < 2147483648 by omega), hG (4 * i + j) (by omega)]
    simp only [Option.bind_some, Option.toList_some, Option.toList_none, List.cons_append, List.nil_append, true_or, or_true, if_true, bI_if]
    rw [b128_25, n_add]
    exact ih (j + 1) (by omega)
theorem m_numL {d i : Nat} {n : Nat} {a : Nat → Nat → Int32} {b : Nat → Nat → Int64} {r : Nat → Nat → Option Nat} {G : Nat → Nat} (hi : i < 10) (hb : ∀ j, j < 4 * i + 4 → G j < 256) (hG : ∀ j, j < 4 * i + 4 → a 95 j = i8V (G j)) (k : Nat) : ∀ j, j + k = 4 → Den d 266 6 [.ref 94,.int (iN i),.int (ntV G i j),.int (iN (4 * i + j))] [] (zmMk n a b r) = some (some (.int (ntV G i 4)), (zmMk n a b r)) := by
  induction k with
  | zero =>
    intro j hj
    obtain rfl : j = 4 := by omega
    rw [b266_6, n_mul, n_add, if_neg (by rw [n_lt (by omega) (by omega)]; omega), b266_37]
  | succ k ih =>
    intro j hj
    have hin : zmIn (iN (4 * i + j)) 260 = true := by rw [n_in (by omega)]; exact decide_eq_true (by omega)
    rw [b266_6, n_mul, n_add, if_pos (by rw [n_lt (by omega) (by omega)]; omega), b266_15, if_pos hin, n_nat (by omega), hG (4 * i + j) (by omega), b266_25, i8_and _ (hb _ (by omega)), n_add]
    exact ih (j + 1) (by omega)
theorem c_runY {d i : Nat} {n : Nat} {a : Nat → Nat → Int32} {b : Nat → Nat → Int64} {r : Nat → Nat → Option Nat} {σ : SV} (hC : StoC a 16 0 σ) (hi : i < 10) : Den (d+1) 73 0 [.ref 16, .int (iN i)] [] (zmMk n a b r) = some (some (.int (iN (σ 1 i))), (zmMk n a b r)) := by
  have c1 : a 17 i = iN (σ 1 i) := (hC.2.2.1 i hi).1
  have hw : inI (iN i) (iN 0) (iN 9) = true := by
    rw [inI_n (by omega) (by omega) (by omega), Bool.and_eq_true]
    exact ⟨decide_eq_true (by omega), decide_eq_true (by omega)⟩
  simp only [b73_0, b73_7, b73_10, b73_18, b73_22, c_within, hw, bI_if, Option.bind_some, Option.toList_some, Option.toList_none, List.cons_append, List.nil_append, true_or, or_true, if_true, bI_if, c_item lay17 (show 17 ≠ 0 by omega) (show 17 < 147 by omega) (show 30 < 2147483648 by omega), itV_n (show i < 30 by omega) (show 30 < 2147483648 by omega), c1, if_true, if_false, Bool.false_eq_true, true_and, and_true, false_and, and_false, true_or, or_true, false_or, or_false, and_self, or_self, decide_true, decide_false, Bool.not_true, Bool.not_false, Bool.and_true, Bool.and_false, Bool.true_and, Bool.false_and, ite_self]
/-- the first number, from i on, that is not a RUNNER's -/
def chkV (σ : SV) (N : Nat) : Nat → Int32
  | 0 => -1
  | k + 1 => if ntV (σ 10) (N - (k + 1)) 4 = iN (σ 1 (N - (k + 1))) then chkV σ N k else iN (N - (k + 1))
theorem c_chkL {d N : Nat} {n : Nat} {a : Nat → Nat → Int32} {b : Nat → Nat → Int64} {r : Nat → Nat → Option Nat} {σ : SV} (hC : StoC a 16 0 σ) (hN : N ≤ 10) (hG : ∀ j, j < 4 * N → a 15 j = iN (σ 10 j)) (k : Nat) : ∀ i, i + k = N → Den (d+3) 125 30 [.ref 14,.int (iN N),.int (iN i)] [] (zmMk n a b r) = some (some (.int (chkV σ N k)), (zmMk n a b r)) := by
  induction k with
  | zero =>
    intro i hi
    obtain rfl : i = N := by omega
    rw [b125_30, if_neg (by rw [n_lt (by omega) (by omega)]; omega), b125_59]
    rfl
  | succ k ih =>
    intro i hi
    have ei : N - (k + 1) = i := by omega
    have e1 : Den (d+2) 128 0 [.ref 14, .int (iN i), zmJ, zmJ] [] (zmMk n a b r) = some (some (.int (ntV (σ 10) i 4)), (zmMk n a b r)) := by
      rw [b128_0]
      exact c_numL (d := d+1) (by omega) (fun j hj => hG j (by omega)) 4 0 (by omega)
    have e2 := c_runY (d := d+1) (n := n) (b := b) (r := r) hC (show i < 10 by omega)
    rw [b125_30, if_pos (by rw [n_lt (by omega) (by omega)]; omega), b125_35, e1]
    simp only [Option.bind_some, Option.toList_some, Option.toList_none, List.cons_append, List.nil_append, true_or, or_true, if_true, bI_if]
    rw [b125_40, e2]
    simp only [Option.bind_some, Option.toList_some, Option.toList_none, List.cons_append, List.nil_append, true_or, or_true, if_true, bI_if]
    rw [b125_48]
    unfold chkV
    rw [ei]
    by_cases hv : ntV (σ 10) i 4 = iN (σ 1 i)
    · rw [if_pos hv, if_pos hv, b125_53, n_add]
      exact ih (i + 1) (by omega)
    · rw [if_neg hv, if_neg hv, b125_51]
theorem m_chkL {d N : Nat} {n : Nat} {a : Nat → Nat → Int32} {b : Nat → Nat → Int64} {r : Nat → Nat → Option Nat} {σ : SV} (hM : StoM a 0 1 64 65 127 136 0 σ) (hN : N ≤ 10) (hb : ∀ j, j < 4 * N → σ 10 j < 256) (hG : ∀ j, j < 4 * N → a 95 j = i8V (σ 10 j)) (k : Nat) : ∀ i, i + k = N → Den (d+3) 267 30 [.ref 94,.int (iN N),.int (iN i)] [] (zmMk n a b r) = some (some (.int (chkV σ N k)), (zmMk n a b r)) := by
  induction k with
  | zero =>
    intro i hi
    obtain rfl : i = N := by omega
    rw [b267_30, if_neg (by rw [n_lt (by omega) (by omega)]; omega), b267_72]
    rfl
  | succ k ih =>
    intro i hi
    have ei : N - (k + 1) = i := by omega
    have e1 : Den (d+2) 266 0 [.ref 94, .int (iN i), zmJ, zmJ] [] (zmMk n a b r) = some (some (.int (ntV (σ 10) i 4)), (zmMk n a b r)) := by
      rw [b266_0, n_mul]
      exact m_numL (d := d+2) (by omega) (fun j hj => hb j (by omega)) (fun j hj => hG j (by omega)) 4 0 (by omega)
    obtain ⟨m, m1, m2, m3⟩ := hM.2.2.2.1
    have m4 : m.testBit i = decide (σ 1 i ≠ 0) := m3 i (by omega)
    have m5 : σ 1 i ≠ 0 → a 131 i = iN (σ 1 i) := fun z => (hM.2.2.2.2.2.1 i (by omega) z).1
    have hin : zmIn (iN i) 10 = true := by rw [n_in (by omega)]; exact decide_eq_true (by omega)
    rw [b267_30, if_pos (by rw [n_lt (by omega) (by omega)]; omega), b267_35, e1]
    simp only [Option.bind_some, Option.toList_some, Option.toList_none, List.cons_append, List.nil_append, true_or, or_true, if_true, bI_if]
    rw [b267_40, m2, m_has (by omega) (by omega), m4]
    simp only [Option.bind_some, Option.toList_some, Option.toList_none, List.cons_append, List.nil_append, true_or, or_true, if_true, bI_if]
    rw [b267_48, bI_if]
    have e3 : (if (decide (σ 1 i ≠ 0) = true) then Den (d+3) 267 51 [.ref 94,.int (iN N),.int (iN i)] [.int (ntV (σ 10) i 4)] (zmMk n a b r) else Den (d+3) 267 60 [.ref 94,.int (iN N),.int (iN i)] [.int (ntV (σ 10) i 4)] (zmMk n a b r)) = Den (d+3) 267 61 [.ref 94,.int (iN N),.int (iN i)] [.int (iN (σ 1 i)),.int (ntV (σ 10) i 4)] (zmMk n a b r) := by
      by_cases h0 : σ 1 i = 0
      · rw [if_neg (by simp [h0]), b267_60, h0]
      · rw [if_pos (by simp [h0]), b267_51, if_pos hin, n_nat (by omega), m5 h0, b267_57]
    rw [e3, b267_61]
    unfold chkV
    rw [ei]
    by_cases hv : ntV (σ 10) i 4 = iN (σ 1 i)
    · rw [if_pos hv, if_pos hv, b267_66, n_add]
      exact ih (i + 1) (by omega)
    · rw [if_neg hv, if_neg hv, b267_64]
theorem p_check {d : Nat} {n : Nat} {a : Nat → Nat → Int32} {b : Nat → Nat → Int64} {r : Nat → Nat → Option Nat} {σ : SV} {cl cl' : List Cls} {R R' : Nat → List Cls} {TL TS A : Nat} {TR : Nat → Nat} (h : (St a b r σ cl cl' R R' TL TS TR A)) {v1 : Int32} : ∃ (v : Int32) (a1 : Nat → Nat → Int32) (b1 : Nat → Nat → Int64) (r1 : Nat → Nat → Option Nat) (a2 : Nat → Nat → Int32) (b2 : Nat → Nat → Int64), Den (d+60) 125 0 [.ref 14, .int v1, zmJ] [] (zmMk n a b r) = some (some (.int v), zmMk n a1 b1 r1) ∧ Den (d+60) 267 0 [.ref 94, .int v1, zmJ] [] (zmMk n a1 b1 r1) = some (some (.int v), zmMk n a2 b2 r1) ∧ InvS a2 b2 r1 (A + 1) := by
  have hT : TapC a (σ 0 2) (σ 10) := h.2.1.2.2.2.2.1
  have hU : TapM a (σ 0 2) (σ 10) := h.2.2.1.2.2.1
  have hs : σ 0 2 ≤ 260 ∧ ∀ j, j < σ 0 2 → σ 10 j < 256 := h.1.2.2.2.1
  by_cases g1 : inI v1 (iN 0) (iN 10) = true
  · obtain ⟨N, -, N9, rfl⟩ := inI_ex (by decide) (by decide) g1
    by_cases g2 : 4 * N ≤ σ 0 2
    · have q1 : (iN (σ 0 2) < iN (4 * N)) = False := by rw [n_lt (by omega) (by omega)]; exact eq_false (by omega)
      have q2 : (iN (σ 0 2 / 4) < iN N) = False := by rw [n_lt (by omega) (by omega)]; exact eq_false (by omega)
      have q3 : iN (σ 0 2) / iN 4 = iN (σ 0 2 / 4) := n_div (by omega) (by omega)
      have ea : ∀ q, q ≠ 14 → uI a 14 1 (iN 0) q = a q := fun q hq => uI_ne hq
      have eb : ∀ q, q ≠ 94 → uI (uI a 14 1 (iN 0)) 94 8 (iN 0) q = uI a 14 1 (iN 0) q := fun q hq => uI_ne hq
      have w1 := c_chkL (d := d+57) (n := n) (b := b) (r := r) (a := uI a 14 1 (iN 0)) (σ := σ) (h.2.1.2.2.1.ag (fun k h1 h2 => ea k (by omega))) N9 (fun j hj => by rw [ea 15 (by omega)]; exact hT.2 j (by omega)) N 0 (by omega)
      have hm1 : StoM (uI a 14 1 (iN 0)) 0 1 64 65 127 136 0 σ := h.2.2.1.1.ag (fun j _ => by rw [ea 94 (by omega)]) (fun k hk => ea k (by omega))
      have w2 := m_chkL (d := d+57) (n := n) (b := b) (r := r) (a := uI (uI a 14 1 (iN 0)) 94 8 (iN 0)) (σ := σ) (hm1.ag (fun j hj => by rw [uI_at, if_neg (by omega)]) (fun k hk => eb k (by omega))) N9 (fun j hj => hs.2 j (by omega)) (fun j hj => by rw [eb 95 (by omega), ea 95 (by omega)]; exact hU.2 j (by omega)) N 0 (by omega)
      have e94 : uI a 14 1 (iN 0) 94 8 = iN (σ 0 2) := by rw [ea 94 (by omega)]; exact hU.1
      refine ⟨chkV σ N N, uI a 14 1 (iN 0), b, r, uI (uI a 14 1 (iN 0)) 94 8 (iN 0), b, ?_, ?_, ?_⟩
      · simp only [b125_0, c_within, Option.bind_some, Option.toList_some, Option.toList_none, List.cons_append, List.nil_append, true_or, or_true, if_true, bI_if, b125_7, bI_if, g1, b125_10, hT.1, n_mul, q1, b125_23, w1, if_true, if_false, Bool.false_eq_true, true_and, and_true, false_and, and_false, true_or, or_true, false_or, or_false, and_self, or_self, decide_true, decide_false, Bool.not_true, Bool.not_false, Bool.and_true, Bool.and_false, Bool.true_and, Bool.false_and, ite_self]
      · simp only [b267_0, m_in, Option.bind_some, Option.toList_some, Option.toList_none, List.cons_append, List.nil_append, true_or, or_true, if_true, bI_if, b267_7, bI_if, g1, b267_10, e94, q3, q2, b267_23, w2, if_true, if_false, Bool.false_eq_true, true_and, and_true, false_and, and_false, true_or, or_true, false_or, or_false, and_self, or_self, decide_true, decide_false, Bool.not_true, Bool.not_false, Bool.and_true, Bool.and_false, Bool.true_and, Bool.false_and, ite_self]
      · refine InvS.of (St.updT (a1 := uI a 14 1 (iN 0)) (b1 := b) (s := 0) (G := σ 10) h (by omega) (fun j hj => absurd hj (Nat.not_lt_zero j)) (fun k _ _ h1 _ _ _ _ => ea k h1) ⟨ea 52 (by omega), ea 54 (by omega), ea 55 (by omega), ea 61 (by omega)⟩ (fun j hj => by rw [uI_at, if_neg (by omega)]) (by rw [uI_at, if_pos ⟨rfl, rfl⟩]) (fun j hj => absurd hj (Nat.not_lt_zero j)) h.2.1.2.2.2.2.2.2.2.2.2.1 (fun _ _ => rfl) (fun k hk => ea k (by omega)) (fun k hk => eb k (by omega)) (fun _ _ => rfl) (fun k hk => eb k (by omega)) (fun j hj => by rw [uI_at, if_neg (by omega)]) (by rw [uI_at, if_pos ⟨rfl, rfl⟩]) (fun j hj => absurd hj (Nat.not_lt_zero j))) (Nat.le_succ _)
    · have q1 : (iN (σ 0 2) < iN (4 * N)) = True := by rw [n_lt (by omega) (by omega)]; exact eq_true (by omega)
      have q2 : (iN (σ 0 2 / 4) < iN N) = True := by rw [n_lt (by omega) (by omega)]; exact eq_true (by omega)
      have q3 : iN (σ 0 2) / iN 4 = iN (σ 0 2 / 4) := n_div (by omega) (by omega)
      refine ⟨-2, a, b, r, a, b, ?_, ?_, InvS.of h (Nat.le_succ _)⟩
      · simp only [b125_0, c_within, Option.bind_some, Option.toList_some, Option.toList_none, List.cons_append, List.nil_append, true_or, or_true, if_true, bI_if, b125_7, bI_if, g1, b125_10, hT.1, n_mul, q1, b125_20, if_true, if_false, Bool.false_eq_true, true_and, and_true, false_and, and_false, true_or, or_true, false_or, or_false, and_self, or_self, decide_true, decide_false, Bool.not_true, Bool.not_false, Bool.and_true, Bool.and_false, Bool.true_and, Bool.false_and, ite_self]
      · simp only [b267_0, m_in, Option.bind_some, Option.toList_some, Option.toList_none, List.cons_append, List.nil_append, true_or, or_true, if_true, bI_if, b267_7, bI_if, g1, b267_10, hU.1, q3, q2, b267_20, if_true, if_false, Bool.false_eq_true, true_and, and_true, false_and, and_false, true_or, or_true, false_or, or_false, and_self, or_self, decide_true, decide_false, Bool.not_true, Bool.not_false, Bool.and_true, Bool.and_false, Bool.true_and, Bool.false_and, ite_self]
  · refine ⟨-2, a, b, r, a, b, ?_, ?_, InvS.of h (Nat.le_succ _)⟩
    · rw [Bool.not_eq_true] at g1
      simp only [b125_0, c_within, Option.bind_some, Option.toList_some, Option.toList_none, List.cons_append, List.nil_append, true_or, or_true, if_true, bI_if, b125_7, bI_if, g1, b125_20, if_true, if_false, Bool.false_eq_true, true_and, and_true, false_and, and_false, true_or, or_true, false_or, or_false, and_self, or_self, decide_true, decide_false, Bool.not_true, Bool.not_false, Bool.and_true, Bool.and_false, Bool.true_and, Bool.false_and, ite_self]
    · rw [Bool.not_eq_true] at g1
      simp only [b267_0, m_in, Option.bind_some, Option.toList_some, Option.toList_none, List.cons_append, List.nil_append, true_or, or_true, if_true, bI_if, b267_7, bI_if, g1, b267_20, if_true, if_false, Bool.false_eq_true, true_and, and_true, false_and, and_false, true_or, or_true, false_or, or_false, and_self, or_self, decide_true, decide_false, Bool.not_true, Bool.not_false, Bool.and_true, Bool.and_false, Bool.true_and, Bool.false_and, ite_self]
