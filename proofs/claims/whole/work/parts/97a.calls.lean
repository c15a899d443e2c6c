/-! ===== calls that change the picture: what is needed; steps, seed ===== -/

def InvS (a : Nat → Nat → Int32) (b : Nat → Nat → Int64) (r : Nat → Nat → Option Nat) (A0 : Nat) : Prop := ∃ (σ : SV) (cl cl' : List Cls) (R R' : Nat → List Cls) (TL TS A : Nat) (TR : Nat → Nat), St a b r σ cl cl' R R' TL TS TR A ∧ A ≤ A0
def uN (σ : SV) (g i v : Nat) : SV := fun g' i' => cond (Nat.beq g' g) (cond (Nat.beq i' i) v (σ g' i')) (σ g' i')
def uRow (σ : SV) (g : Nat) (f : Nat → Nat) : SV := fun g' => cond (Nat.beq g' g) f (σ g')
theorem beq_at {i j : Nat} : Nat.beq i j = decide (i = j) := by
  by_cases h : i = j
  · rw [decide_eq_true h, h]; exact Nat.beq_refl j
  · rw [decide_eq_false h]; exact Bool.eq_false_iff.mpr (fun e => h (Nat.eq_of_beq_eq_true e))
theorem uN_at (σ : SV) (g i v i' : Nat) : uN σ g i v g i' = if i' = i then v else σ g i' := by
  unfold uN
  rw [Nat.beq_refl, beq_at]
  by_cases h : i' = i
  · rw [decide_eq_true h, if_pos h]; rfl
  · rw [decide_eq_false h, if_neg h]; rfl
theorem uN_ne (σ : SV) (g i v : Nat) {g' : Nat} (h : g' ≠ g) : uN σ g i v g' = σ g' := by
  funext i'
  unfold uN
  rw [beq_at (i := g'), decide_eq_false h]
  rfl
theorem uRow_at (σ : SV) (g : Nat) (f : Nat → Nat) : uRow σ g f g = f := by
  unfold uRow
  rw [Nat.beq_refl]
  rfl
theorem uRow_ne (σ : SV) (g : Nat) (f : Nat → Nat) {g' : Nat} (h : g' ≠ g) : uRow σ g f g' = σ g' := by
  unfold uRow
  rw [beq_at, decide_eq_false h]
  rfl
/-- the LOG falls -/
def fgS (σ : SV) : SV := uN (uN σ 0 6 0) 0 7 0
theorem St.mkJ {a1 a2 : Nat → Nat → Int32} {b1 b2 : Nat → Nat → Int64} {r : Nat → Nat → Option Nat} {σ : SV} {cl cl' : List Cls} {R R' : Nat → List Cls} {TL TS A : Nat} {TR : Nat → Nat} (hB : StB σ cl cl' R R') (hC : (StC a1 b1 r σ cl R TL TS TR A ∧ Cac (σ 0 0) (σ 0 5) (QS σ cl) A a1 b1)) (hM : StM a2 σ cl' R') (e1 : ∀ k, k < 94 → a2 k = a1 k) (e2 : ∀ k, k < 94 → b2 k = b1 k) : (St a2 b2 r σ cl cl' R R' TL TS TR A) :=
  ⟨hB, hC.1.ag (fun k h _ => e1 k h) (e2 2 (by omega)) (e2 3 (by omega)), hM, hC.2.1.ag (e1 52 (by omega)) (e1 29 (by omega)) (e1 54 (by omega)) (e2 53 (by omega)), hC.2.2.ag (e1 55 (by omega)) (e1 61 (by omega)) (e2 55 (by omega))⟩
theorem StM.hi {a a' : Nat → Nat → Int32} {σ : SV} {cl' : List Cls} {R' : Nat → List Cls} (h : StM a σ cl' R') (e : ∀ k, 94 ≤ k → a' k = a k) : StM a' σ cl' R' := h.ag (fun k h _ _ _ => e k (by omega)) (fun j _ => by rw [e 94 (by omega)])
theorem InvS.of {a : Nat → Nat → Int32} {b : Nat → Nat → Int64} {r : Nat → Nat → Option Nat} {σ : SV} {cl cl' : List Cls} {R R' : Nat → List Cls} {TL TS A : Nat} {TR : Nat → Nat} (h : (St a b r σ cl cl' R R' TL TS TR A)) {A0 : Nat} (hA : A ≤ A0) : InvS a b r A0 := ⟨σ, cl, cl', R, R', TL, TS, A, TR, h, hA⟩
/-- the class's part of the picture, anew -/
theorem StC.upd {a a' : Nat → Nat → Int32} {b b' : Nat → Nat → Int64} {r : Nat → Nat → Option Nat} {σ σ' : SV} {cl : List Cls} {R : Nat → List Cls} {TL TS A A' : Nat} {TR : Nat → Nat} (h : StC a b r σ cl R TL TS TR A) (hf : ∀ k, k < 94 → scV k = false → ¬ (14 ≤ k ∧ k ≤ 29) → ¬ (62 ≤ k ∧ k ≤ 64) → a' k = a k) (h2 : b' 2 = b 2) (h3 : b' 3 = b 3) (k3 : StoC a' 16 0 σ') (k4 : a' 14 4 = iN (σ' 0 8) ∧ (σ' 0 8 = 1 → StoC a' 20 20 σ')) (k5 : a' 14 1 = iN (σ' 0 2) ∧ ∀ j, j < σ' 0 2 → a' 15 j = iN (σ' 10 j)) (k6 : a' 24 0 = iN (σ' 0 3) ∧ ∀ y, y ≤ 120 → a' 25 y = iN (sK σ' y)) (k7 : a' 27 0 = iN (σ' 0 4) ∧ a' 27 1 = iN (σ' 0 5) ∧ ∀ t, t < 100 → a' 28 t = iN (sW σ' t)) (k8 : a' 29 5 = iN 0 ∧ a' 29 6 = iN A') (k9 : LogC a' (σ' 0 6) (σ' 0 7) (σ' 13) (σ' 14)) : StC a' b' r σ' cl R TL TS TR A' := by
  obtain ⟨c1, c2, -, -, -, -, -, -, -, c10, c11, c12⟩ := h
  have hT : ∀ T, isTx T → ∀ k, T ≤ k → k ≤ T + 4 → a' k = a k := fun T hX k h1 h2 => hf k (by rcases tx_of hX with h | h | h | h | h | h <;> omega) (scV_t hX h1 h2) (by rcases tx_of hX with h | h | h | h | h | h <;> omega) (by rcases tx_of hX with h | h | h | h | h | h <;> omega)
  exact ⟨c1.ag (fun k hk => hf k (by omega) (scV_n (by omega)) (by omega) (by omega)), c2.fr h2 h3, k3, k4, k5, k6, k7, k8, k9, c10, c11.ag (fun k h1 h2 => hT TL c10.1 k h1 h2), fun k hk => (c12 k hk).ag (fun q h1 h2 => hT _ (c10.2.2.1 k hk) q h1 h2)⟩
theorem Cac.forget {N B A N' B' : Nat} {Q Q' : AQ} {a a' : Nat → Nat → Int32} {b b' : Nat → Nat → Int64} (h : Cac N B Q A a b) (hA : A < 100000) (e29 : a 29 6 = iN A) (e52 : a' 52 = a 52) (e29' : a' 29 6 = iN (A + 1)) (e54 : a' 54 = a 54) (e55 : a' 55 = a 55) : Cac N' B' Q' (A + 1) a' b' := by
  obtain ⟨⟨q1, A0, q2, q3, q4⟩, p1, p2⟩ := h
  have hAA : A0 = A := by
    rw [q2, n_eq (by omega) (by omega)] at e29
    exact e29
  rw [hAA] at q4
  refine ⟨⟨by rw [e52]; exact q1, A + 1, e29', by omega, fun t p ht hp => ?_⟩, fun x h1 h2 => by rw [e55]; exact p1 x h1 (by omega), fun e => absurd (by rw [e55] at e; exact e) (p1 (A + 1) (by omega) (by omega))⟩
  obtain ⟨m, c, m1, m2, m3, m4⟩ := q4 t p ht hp
  exact ⟨m, c, m1, by omega, by rw [e54]; exact m3, fun k hk e => absurd e (by omega)⟩
def fgA (a : Nat → Nat → Int32) : Nat → Nat → Int32 := uI (uI (uI a 29 6 (a 29 6 + iN 1)) 62 2 (iN 0)) 62 3 (iN 0)
theorem c_forget {d : Nat} {n : Nat} {a : Nat → Nat → Int32} {b : Nat → Nat → Int64} {r : Nat → Nat → Option Nat} : Den (d+1) 129 0 [.ref 14] [] (zmMk n a b r) = some (none, zmMk n (fgA a) b r) := by
  rw [b129_0, b21_0]
  simp only [Option.bind_some, Option.toList_some, Option.toList_none, List.cons_append, List.nil_append, true_or, or_true, if_true, bI_if]
  rw [b129_20]
  rfl
theorem fgA_ne {a : Nat → Nat → Int32} {k : Nat} (h1 : k ≠ 29) (h2 : k ≠ 62) : fgA a k = a k := by
  unfold fgA
  rw [uI_ne h2, uI_ne h2, uI_ne h1]
theorem fgA_6 {a : Nat → Nat → Int32} {A : Nat} (h : a 29 6 = iN A) : fgA a 29 6 = iN (A + 1) := by
  unfold fgA
  rw [uI_at, if_neg (by omega), uI_at, if_neg (by omega), uI_at, if_pos ⟨rfl, rfl⟩, h, n_add]
theorem fgA_5 {a : Nat → Nat → Int32} : fgA a 29 5 = a 29 5 := by
  unfold fgA
  rw [uI_at, if_neg (by omega), uI_at, if_neg (by omega), uI_at, if_neg (by omega)]
theorem fgA_log {a : Nat → Nat → Int32} {P G : Nat → Nat} : LogC (fgA a) 0 0 P G := by
  refine ⟨?_, ?_, fun e => absurd rfl e, fun j hj => absurd hj (Nat.not_lt_zero j)⟩
  · unfold fgA
    rw [uI_at, if_neg (by omega), uI_at, if_pos ⟨rfl, rfl⟩]
  · unfold fgA
    rw [uI_at, if_pos ⟨rfl, rfl⟩]
theorem LogV.fall {Q Q' : AQ} {N N' L E : Nat} {P G : Nat → Nat} (h : LogV Q N L E P G) : LogV Q' N' 0 0 P G := ⟨Nat.zero_le _, Nat.zero_le _, fun _ => rfl, fun j hj => h.2.2.2.1 j (by omega), fun j hj => absurd hj (Nat.not_lt_zero j)⟩
theorem LogM.fall {a : Nat → Nat → Int32} {P G : Nat → Nat} (h : a 94 74 = iN 0) : LogM a 0 0 P G := ⟨h, fun e => absurd rfl e⟩
theorem p_steps {d : Nat} {n : Nat} {a : Nat → Nat → Int32} {b : Nat → Nat → Int64} {r : Nat → Nat → Option Nat} {σ : SV} {cl cl' : List Cls} {R R' : Nat → List Cls} {TL TS A : Nat} {TR : Nat → Nat} (h : (St a b r σ cl cl' R R' TL TS TR A)) (hA : A < 90000) {v1 : Int32} : ∃ (v : Int32) (a1 : Nat → Nat → Int32) (b1 : Nat → Nat → Int64) (r1 : Nat → Nat → Option Nat) (a2 : Nat → Nat → Int32) (b2 : Nat → Nat → Int64), Den (d+60) 93 0 [.ref 14, .int v1] [] (zmMk n a b r) = some (some (.int v), zmMk n a1 b1 r1) ∧ Den (d+60) 159 0 [.ref 94, .int v1] [] (zmMk n a1 b1 r1) = some (some (.int v), zmMk n a2 b2 r1) ∧ InvS a2 b2 r1 (A + 1) := by
  obtain ⟨hB, hC, hM, hK⟩ := id h
  by_cases g1 : inI v1 (iN 1) (iN 8) = true
  · obtain ⟨k, k1, k2, rfl⟩ := inI_ex (by decide) (by decide) g1
    refine ⟨iN 1, fgA (uI a 16 0 (iN k)), b, r, uI (uI (fgA (uI a 16 0 (iN k))) 94 0 (iN k)) 94 74 (iN 0), b, ?_, ?_, ?_⟩
    · simp only [b93_0, c_within, Option.bind_some, Option.toList_some, Option.toList_none, List.cons_append, List.nil_append, true_or, or_true, if_true, bI_if, b93_7, g1, bI_if, b93_12, c_forget, b93_24, if_true, if_false, Bool.false_eq_true, true_and, and_true, false_and, and_false, true_or, or_true, false_or, or_false, and_self, or_self, decide_true, decide_false, Bool.not_true, Bool.not_false, Bool.and_true, Bool.and_false, Bool.true_and, Bool.false_and, ite_self]
    · simp only [b159_0, m_in, Option.bind_some, Option.toList_some, Option.toList_none, List.cons_append, List.nil_append, true_or, or_true, if_true, bI_if, b159_7, g1, bI_if, b159_12, if_true, if_false, Bool.false_eq_true, true_and, and_true, false_and, and_false, true_or, or_true, false_or, or_false, and_self, or_self, decide_true, decide_false, Bool.not_true, Bool.not_false, Bool.and_true, Bool.and_false, Bool.true_and, Bool.false_and, ite_self]
    · obtain ⟨x1, x2, x3, x4, x5, x6, x7, x8, x9⟩ := hB
      obtain ⟨c1, c2, c3, c4, c5, c6, c7, c8, c9, c10, c11, c12⟩ := id hC
      have ea : ∀ q, q ≠ 16 → q ≠ 29 → q ≠ 62 → fgA (uI a 16 0 (iN k)) q = a q := fun q h1 h2 h3 => by rw [fgA_ne h2 h3, uI_ne h1]
      have e29 : (uI a 16 0 (iN k)) 29 6 = iN A := by rw [uI_ne (by omega)]; exact c8.2
      have hBn : StB (uN (fgS σ) 0 0 k) cl cl' R R' := ⟨⟨⟨k1, k2⟩, x1.2⟩, x2, x3, x4, x5, x6, x7.fall, x8, x9⟩
      have hCn : (StC (fgA (uI a 16 0 (iN k))) b r (uN (fgS σ) 0 0 k) cl R TL TS TR (A + 1) ∧ Cac ((uN (fgS σ) 0 0 k) 0 0) ((uN (fgS σ) 0 0 k) 0 5) (QS (uN (fgS σ) 0 0 k) cl) (A + 1) (fgA (uI a 16 0 (iN k))) b) := by
        refine ⟨hC.upd (fun q _ _ h1 h2 => ea q (by omega) (by omega) (by omega)) rfl rfl ?_ ?_ ?_ ?_ ?_ ?_ fgA_log, hK.forget (by omega) c8.2 (ea 52 (by omega) (by omega) (by omega)) (fgA_6 e29) (ea 54 (by omega) (by omega) (by omega)) (ea 55 (by omega) (by omega) (by omega))⟩
        · obtain ⟨y1, y2, y3, y4, y5⟩ := c3
          refine ⟨?_, ?_, ?_, ?_, ?_⟩
          · rw [fgA_ne (by omega) (by omega), uI_at, if_pos ⟨rfl, rfl⟩]; rfl
          · rw [fgA_ne (by omega) (by omega), uI_at, if_neg (by omega)]; exact y2
          · rw [ea 17 (by omega) (by omega) (by omega)]; exact y3
          · rw [ea 18 (by omega) (by omega) (by omega)]; exact y4
          · rw [ea 19 (by omega) (by omega) (by omega)]; exact y5
        · rw [ea 14 (by omega) (by omega) (by omega)]
          exact ⟨c4.1, fun q => (c4.2 q).ag (fun k h1 h2 => ea k (by omega) (by omega) (by omega))⟩
        · rw [ea 14 (by omega) (by omega) (by omega), ea 15 (by omega) (by omega) (by omega)]
          exact c5
        · rw [ea 24 (by omega) (by omega) (by omega), ea 25 (by omega) (by omega) (by omega)]
          exact c6
        · rw [ea 27 (by omega) (by omega) (by omega), ea 28 (by omega) (by omega) (by omega)]
          exact c7
        · exact ⟨by rw [fgA_5, uI_ne (by omega)]; exact c8.1, fgA_6 e29⟩
      have hMh := hM.hi (a' := fgA (uI a 16 0 (iN k))) (fun q hq => ea q (by omega) (by omega) (by omega))
      obtain ⟨z1, z2, z3, z4, z5, z6, z7, z8⟩ := hMh
      have eb : ∀ q, q ≠ 94 → uI (uI (fgA (uI a 16 0 (iN k))) 94 0 (iN k)) 94 74 (iN 0) q = fgA (uI a 16 0 (iN k)) q := fun q hq => by rw [uI_ne hq, uI_ne hq]
      have ec : ∀ j, j ≠ 0 → j ≠ 74 → uI (uI (fgA (uI a 16 0 (iN k))) 94 0 (iN k)) 94 74 (iN 0) 94 j = fgA (uI a 16 0 (iN k)) 94 j := fun j h1 h2 => by rw [uI_at, if_neg (by omega), uI_at, if_neg (by omega)]
      have hMn : StM (uI (uI (fgA (uI a 16 0 (iN k))) 94 0 (iN k)) 94 74 (iN 0)) (uN (fgS σ) 0 0 k) cl' R' := by
        refine ⟨?_, ?_, ?_, ?_, ?_, LogM.fall (by rw [uI_at, if_pos ⟨rfl, rfl⟩]), z7.ag (fun q h1 h2 => eb q (by omega)), fun j hj => (z8 j hj).ag (fun q h1 h2 => eb q (by omega))⟩
        · obtain ⟨y1, y2, y3, y4, y5, y6, y7⟩ := z1
          refine ⟨?_, ?_, ?_, ?_, ?_, ?_, ?_⟩
          · rw [uI_at, if_neg (by omega), uI_at, if_pos ⟨rfl, rfl⟩]; rfl
          · rw [ec 1 (by omega) (by omega)]; exact y2
          · rw [ec 64 (by omega) (by omega)]; exact y3
          · rw [ec 65 (by omega) (by omega)]; exact y4
          · rw [eb 127 (by omega), eb (127 + 1) (by omega), eb (127 + 2) (by omega), eb (127 + 3) (by omega)]; exact y5
          · rw [eb (127 + 4) (by omega), eb (127 + 5) (by omega), eb (127 + 6) (by omega)]; exact y6
          · rw [eb 136 (by omega)]; exact y7
        · rw [ec 80 (by omega) (by omega)]
          exact ⟨z2.1, fun q => (z2.2 q).ag (fun j hj => ec j (by omega) (by omega)) (fun k h => eb k (by omega))⟩
        · rw [ec 8 (by omega) (by omega), eb 95 (by omega)]
          exact z3
        · rw [ec 2 (by omega) (by omega), eb 96 (by omega)]
          exact z4
        · rw [ec 4 (by omega) (by omega), ec 3 (by omega) (by omega), eb 98 (by omega)]
          exact z5
      exact InvS.of (St.mkJ hBn hCn hMn (fun q hq => eb q (by omega)) (fun _ _ => rfl)) (Nat.le_refl _)
  · refine ⟨iN 0, a, b, r, a, b, ?_, ?_, InvS.of h (Nat.le_succ _)⟩
    · rw [Bool.not_eq_true] at g1
      simp only [b93_0, c_within, Option.bind_some, Option.toList_some, Option.toList_none, List.cons_append, List.nil_append, true_or, or_true, if_true, bI_if, b93_7, g1, bI_if, b93_10, if_true, if_false, Bool.false_eq_true, true_and, and_true, false_and, and_false, true_or, or_true, false_or, or_false, and_self, or_self, decide_true, decide_false, Bool.not_true, Bool.not_false, Bool.and_true, Bool.and_false, Bool.true_and, Bool.false_and, ite_self]
    · rw [Bool.not_eq_true] at g1
      simp only [b159_0, m_in, Option.bind_some, Option.toList_some, Option.toList_none, List.cons_append, List.nil_append, true_or, or_true, if_true, bI_if, b159_7, g1, bI_if, b159_10, if_true, if_false, Bool.false_eq_true, true_and, and_true, false_and, and_false, true_or, or_true, false_or, or_false, and_self, or_self, decide_true, decide_false, Bool.not_true, Bool.not_false, Bool.and_true, Bool.and_false, Bool.true_and, Bool.false_and, ite_self]
