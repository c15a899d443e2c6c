/-! ===== what both objects hold: one picture ===== -/
abbrev SV : Type := Nat → Nat → Nat
/-- the class's Store at cell s -/
def StoC (a : Nat → Nat → Int32) (s g : Nat) (σ : SV) : Prop := a s 0 = iN (σ g 0) ∧ a s 1 = iN (σ g 1) ∧ (∀ i, i < 10 → a (s + 1) i = iN (σ (g + 1) i) ∧ a (s + 1) (10 + i) = iN (σ (g + 2) i) ∧ a (s + 1) (20 + i) = iN (σ (g + 3) i)) ∧ (∀ i, i < 8 → a (s + 2) (i * 5) = iN (σ (g + 4) i) ∧ a (s + 2) (i * 5 + 1) = iN (σ (g + 5) i) ∧ a (s + 2) (i * 5 + 2) = iN (σ (g + 6) i) ∧ a (s + 2) (i * 5 + 3) = iN (σ (g + 7) i) ∧ a (s + 2) (i * 5 + 4) = iN (σ (g + 8) i)) ∧ ∀ j, j < 4 → a (s + 3) j = iN (σ (g + 9) j)
def StoB (g : Nat) (σ : SV) : Prop := (1 ≤ σ g 0 ∧ σ g 0 ≤ 8) ∧ σ g 1 < 65536 ∧ (∀ i, i < 10 → σ (g + 1) i ≤ 120 ∧ (σ (g + 1) i ≠ 0 → (1 ≤ σ (g + 2) i ∧ σ (g + 2) i ≤ 40) ∧ σ (g + 3) i ≤ 999)) ∧ (∀ i, i < 8 → σ (g + 4) i ≤ 1 ∧ σ (g + 5) i ≤ 3 ∧ σ (g + 6) i < 16777216 ∧ σ (g + 7) i ≤ 99 ∧ σ (g + 8) i ≤ 99) ∧ σ (g + 9) 0 + σ (g + 9) 2 ≤ 60 ∧ σ (g + 9) 1 ≤ σ (g + 9) 0 ∧ σ (g + 9) 3 ≤ σ (g + 9) 2
/-- the reference's, its four fields, its rows from rb on, its BOOK -/
def StoM (a : Nat → Nat → Int32) (f0 f1 fl fr rb bk g : Nat) (σ : SV) : Prop := a 94 f0 = iN (σ g 0) ∧ a 94 f1 = iN (σ g 1) ∧ (∃ m, m < 256 ∧ a 94 fl = iN m ∧ ∀ i, i < 8 → m.testBit i = decide (σ (g + 4) i = 1)) ∧ (∃ m, m < 1024 ∧ a 94 fr = iN m ∧ ∀ i, i < 10 → m.testBit i = decide (σ (g + 1) i ≠ 0)) ∧ (∀ i, i < 8 → σ (g + 4) i = 1 → a rb i = iN (σ (g + 5) i) ∧ a (rb + 1) i = iN (σ (g + 6) i) ∧ a (rb + 2) i = iN (σ (g + 7) i) ∧ a (rb + 3) i = iN (σ (g + 8) i)) ∧ (∀ i, i < 10 → σ (g + 1) i ≠ 0 → a (rb + 4) i = iN (σ (g + 1) i) ∧ a (rb + 5) i = iN (σ (g + 2) i) ∧ a (rb + 6) i = iN (σ (g + 3) i)) ∧ ∀ j, j < 4 → a bk j = iN (σ (g + 9) j)
def i8V (x : Nat) : Int32 := Int8.toInt32 (Int32.toInt8 (iN x))
/-- THE STREET's KINDS, people waiting, by the picture -/
def sK (σ : SV) : Nat → Nat := kyF (σ 0 3) (σ 11)
def sW (σ : SV) : Nat → Nat := fun t => wtF (σ 12) t (σ 0 4)
def QS (σ : SV) (cl : List Cls) : AQ := QF cl (σ 0 0) (sK σ) (sW σ)
def AS (σ : SV) (cl R : List Cls) : Nat → Nat → Nat := rulF (QS σ cl) (σ 0 0) (sK σ) (sW σ) R
/-- bounds of the picture -/
def StB (σ : SV) (cl cl' : List Cls) (R R' : Nat → List Cls) : Prop := StoB 0 σ ∧ (σ 0 8 = 1 → StoB 20 σ) ∧ σ 0 8 ≤ 1 ∧ (σ 0 2 ≤ 260 ∧ ∀ j, j < σ 0 2 → σ 10 j < 256) ∧ (σ 0 3 ≤ 120 ∧ ∀ j, j < σ 0 3 → σ 11 j ≤ 3) ∧ (σ 0 4 ≤ 16 ∧ σ 0 5 ≤ 64 ∧ ∀ j, j < σ 0 4 → σ 12 j ≤ 64) ∧ LogV (QS σ cl) (σ 0 0) (σ 0 6) (σ 0 7) (σ 13) (σ 14) ∧ cleq cl cl' ∧ ∀ k, k < 4 → cleq (R k) (R' k) ∧ ∀ c, c ∈ R' k → c.1 = 97
/-- six TEXTS, each in its place -/
def TxS (r : Nat → Nat → Option Nat) (TL TS : Nat) (TR : Nat → Nat) : Prop := isTx TL ∧ isTx TS ∧ (∀ k, k < 4 → isTx (TR k)) ∧ TL ≠ TS ∧ (∀ k, k < 4 → TR k ≠ TL ∧ TR k ≠ TS) ∧ (∀ k j, k < 4 → j < 4 → k ≠ j → TR k ≠ TR j) ∧ r 29 4 = some TL ∧ r 14 9 = some TS ∧ ∀ k, k < 4 → r 37 k = some (TR k)
def StC (a : Nat → Nat → Int32) (b : Nat → Nat → Int64) (r : Nat → Nat → Option Nat) (σ : SV) (cl : List Cls) (R : Nat → List Cls) (TL TS : Nat) (TR : Nat → Nat) (A : Nat) : Prop := CstC a ∧ TabC b ∧ StoC a 16 0 σ ∧ (a 14 4 = iN (σ 0 8) ∧ (σ 0 8 = 1 → StoC a 20 20 σ)) ∧ (a 14 1 = iN (σ 0 2) ∧ ∀ j, j < σ 0 2 → a 15 j = iN (σ 10 j)) ∧ (a 24 0 = iN (σ 0 3) ∧ ∀ y, y ≤ 120 → a 25 y = iN (sK σ y)) ∧ (a 27 0 = iN (σ 0 4) ∧ a 27 1 = iN (σ 0 5) ∧ ∀ t, t < 100 → a 28 t = iN (sW σ t)) ∧ (a 29 5 = iN 0 ∧ a 29 6 = iN A) ∧ LogC a (σ 0 6) (σ 0 7) (σ 13) (σ 14) ∧ TxS r TL TS TR ∧ TxC a TL cl ∧ ∀ k, k < 4 → TxC a (TR k) (R k)
def StM (a : Nat → Nat → Int32) (σ : SV) (cl' : List Cls) (R' : Nat → List Cls) : Prop := StoM a 0 1 64 65 127 136 0 σ ∧ (a 94 80 = iN (σ 0 8) ∧ (σ 0 8 = 1 → StoM a 81 82 83 84 139 146 20 σ)) ∧ (a 94 8 = iN (σ 0 2) ∧ ∀ j, j < σ 0 2 → a 95 j = i8V (σ 10 j)) ∧ (a 94 2 = iN (σ 0 3) ∧ ∀ j, j < σ 0 3 → a 96 j = iN (σ 11 j)) ∧ (a 94 4 = iN (σ 0 4) ∧ a 94 3 = iN (σ 0 5) ∧ ∀ j, j < σ 0 4 → a 98 j = iN (σ 12 j)) ∧ LogM a (σ 0 6) (σ 0 7) (σ 13) (σ 14) ∧ TxM a 0 cl' ∧ ∀ k, k < 4 → TxM a (k + 1) (R' k)
/-- the class's rows of what is known: BEST's table, the best row of BLIND -/
def BldOk (N B : Nat) (Q : AQ) (A : Nat) (a : Nat → Nat → Int32) (b : Nat → Nat → Int64) : Prop := (∀ h : Nat, h ≤ 100000 → A < h → a 55 8 ≠ iN h) ∧ (a 55 8 = iN A → ∃ p, p < 4840 ∧ a 55 9 = iN p ∧ N ≤ 4 ∧ BR N (valR Q B N p) (-2000000000000000000) a b (7 ^ N))
def Cac (N B : Nat) (Q : AQ) (A : Nat) (a : Nat → Nat → Int32) (b : Nat → Nat → Int64) : Prop := BestOk N B Q 0 a b ∧ BldOk N B Q A a b
def St (a : Nat → Nat → Int32) (b : Nat → Nat → Int64) (r : Nat → Nat → Option Nat) (σ : SV) (cl cl' : List Cls) (R R' : Nat → List Cls) (TL TS : Nat) (TR : Nat → Nat) (A : Nat) : Prop := StB σ cl cl' R R' ∧ StC a b r σ cl R TL TS TR A ∧ StM a σ cl' R' ∧ Cac (σ 0 0) (σ 0 5) (QS σ cl) A a b
/-- what is scratch -/
def scV (k : Nat) : Bool := scC k || ((Nat.ble 52 k && Nat.ble k 61) || (Nat.beq k 65 || (Nat.beq k 67 || Nat.beq k 69)))
def fqC (a a' : Nat → Nat → Int32) : Prop := ∀ k, scV k = false → a' k = a k
def fqM (a a' : Nat → Nat → Int32) : Prop := (∀ k, k ≠ 94 → (k < 112 ∨ 126 < k) → k ≠ 137 → k ≠ 138 → a' k = a k) ∧ ∀ j, (j < 35 ∨ 63 < j) → a' 94 j = a 94 j
theorem scV_C {k : Nat} (h : scV k = false) : scC k = false := by
  unfold scV at h
  exact (Bool.or_eq_false_iff.mp h).1
theorem frS.q {a a' : Nat → Nat → Int32} (h : frC a a') : fqC a a' := fun k hk => h k (scV_C hk)
theorem scV_n {k : Nat} (h : (14 ≤ k ∧ k ≤ 29) ∨ k = 31 ∨ k < 14 ∨ k = 37 ∨ (62 ≤ k ∧ k ≤ 64) ∨ 94 ≤ k) : scV k = false := by
  cases hs : scV k with
  | false => rfl
  | true =>
    simp only [scV, scC, Bool.or_eq_true, Bool.and_eq_true, Nat.beq_eq, Nat.ble_eq] at hs
    omega
theorem scV_t {T k : Nat} (hX : isTx T) (h1 : T ≤ k) (h2 : k ≤ T + 4) : scV k = false := by
  cases hs : scV k with
  | false => rfl
  | true =>
    simp only [scV, scC, Bool.or_eq_true, Bool.and_eq_true, Nat.beq_eq, Nat.ble_eq] at hs
    rcases tx_of hX with h | h | h | h | h | h <;> omega
theorem StoC.ag {a a' : Nat → Nat → Int32} {s g : Nat} {σ : SV} (h : StoC a s g σ) (hf : ∀ k, s ≤ k → k ≤ s + 3 → a' k = a k) : StoC a' s g σ := by
  unfold StoC
  rw [hf s (by omega) (by omega), hf (s + 1) (by omega) (by omega), hf (s + 2) (by omega) (by omega), hf (s + 3) (by omega) (by omega)]
  exact h
theorem LogC.ag {a a' : Nat → Nat → Int32} {L E : Nat} {P G : Nat → Nat} (h : LogC a L E P G) (hf : ∀ k, 62 ≤ k → k ≤ 64 → a' k = a k) : LogC a' L E P G := by
  unfold LogC
  rw [hf 62 (by omega) (by omega), hf 63 (by omega) (by omega), hf 64 (by omega) (by omega)]
  exact h
theorem StC.ag {a a' : Nat → Nat → Int32} {b b' : Nat → Nat → Int64} {r : Nat → Nat → Option Nat} {σ : SV} {cl : List Cls} {R : Nat → List Cls} {TL TS A : Nat} {TR : Nat → Nat} (h : StC a b r σ cl R TL TS TR A) (hf : ∀ k, k < 94 → scV k = false → a' k = a k) (h2 : b' 2 = b 2) (h3 : b' 3 = b 3) : StC a' b' r σ cl R TL TS TR A := by
  obtain ⟨c1, c2, c3, ⟨c4, c4'⟩, ⟨c5, c5'⟩, ⟨c6, c6'⟩, ⟨c7, c7', c7''⟩, ⟨c8, c8'⟩, c9, c10, c11, c12⟩ := h
  have hg : ∀ k, (14 ≤ k ∧ k ≤ 29) ∨ k < 14 ∨ (62 ≤ k ∧ k ≤ 64) → a' k = a k := fun k hk => hf k (by omega) (scV_n (by omega))
  have hT : ∀ T, isTx T → ∀ k, T ≤ k → k ≤ T + 4 → a' k = a k := fun T hX k h1 h2 => hf k (by rcases tx_of hX with h | h | h | h | h | h <;> omega) (scV_t hX h1 h2)
  refine ⟨c1.ag (fun k hk => hg k (by omega)), c2.fr h2 h3, c3.ag (fun k h1 h2 => hg k (by omega)), ⟨by rw [hg 14 (by omega)]; exact c4, fun q => (c4' q).ag (fun k h1 h2 => hg k (by omega))⟩, ⟨by rw [hg 14 (by omega)]; exact c5, fun j hj => by rw [hg 15 (by omega)]; exact c5' j hj⟩, ⟨by rw [hg 24 (by omega)]; exact c6, fun y hy => by rw [hg 25 (by omega)]; exact c6' y hy⟩, ⟨by rw [hg 27 (by omega)]; exact c7, by rw [hg 27 (by omega)]; exact c7', fun t ht => by rw [hg 28 (by omega)]; exact c7'' t ht⟩, ⟨by rw [hg 29 (by omega)]; exact c8, by rw [hg 29 (by omega)]; exact c8'⟩, c9.ag (fun k h1 h2 => hg k (by omega)), c10, c11.ag (fun k h1 h2 => hT TL c10.1 k h1 h2), fun k hk => (c12 k hk).ag (fun q h1 h2 => hT _ (c10.2.2.1 k hk) q h1 h2)⟩
theorem StoM.ag {a a' : Nat → Nat → Int32} {f0 f1 fl fr rb bk g : Nat} {σ : SV} (h : StoM a f0 f1 fl fr rb bk g σ) (h0 : ∀ j, j = f0 ∨ j = f1 ∨ j = fl ∨ j = fr → a' 94 j = a 94 j) (hf : ∀ k, (rb ≤ k ∧ k ≤ rb + 6) ∨ k = bk → a' k = a k) : StoM a' f0 f1 fl fr rb bk g σ := by
  unfold StoM
  rw [h0 f0 (by omega), h0 f1 (by omega), h0 fl (by omega), h0 fr (by omega), hf rb (by omega), hf (rb + 1) (by omega), hf (rb + 2) (by omega), hf (rb + 3) (by omega), hf (rb + 4) (by omega), hf (rb + 5) (by omega), hf (rb + 6) (by omega), hf bk (by omega)]
  exact h
theorem LogM.ag {a a' : Nat → Nat → Int32} {L E : Nat} {P G : Nat → Nat} (h : LogM a L E P G) (h1 : a' 94 73 = a 94 73) (h2 : a' 94 74 = a 94 74) (h3 : a' 134 = a 134) (h4 : a' 135 = a 135) : LogM a' L E P G := by
  unfold LogM
  rw [h1, h2, h3, h4]
  exact h
theorem StM.ag {a a' : Nat → Nat → Int32} {σ : SV} {cl' : List Cls} {R' : Nat → List Cls} (h : StM a σ cl' R') (hf1 : ∀ k, 95 ≤ k → (k < 112 ∨ 126 < k) → k ≠ 137 → k ≠ 138 → a' k = a k) (hf2 : ∀ j, (j < 35 ∨ 63 < j) → a' 94 j = a 94 j) : StM a' σ cl' R' := by
  obtain ⟨c1, ⟨c2, c2'⟩, ⟨c3, c3'⟩, ⟨c4, c4'⟩, ⟨c5, c5', c5''⟩, c6, c7, c8⟩ := h
  have hk : ∀ k, (95 ≤ k ∧ k ≤ 111) ∨ (127 ≤ k ∧ k ≤ 136) ∨ (139 ≤ k) → a' k = a k := fun k hk => hf1 k (by omega) (by omega) (by omega) (by omega)
  refine ⟨c1.ag (fun j hj => hf2 j (by omega)) (fun k h => hk k (by omega)), ⟨by rw [hf2 80 (by omega)]; exact c2, fun q => (c2' q).ag (fun j hj => hf2 j (by omega)) (fun k h => hk k (by omega))⟩, ⟨by rw [hf2 8 (by omega)]; exact c3, fun j hj => by rw [hk 95 (by omega)]; exact c3' j hj⟩, ⟨by rw [hf2 2 (by omega)]; exact c4, fun j hj => by rw [hk 96 (by omega)]; exact c4' j hj⟩, ⟨by rw [hf2 4 (by omega)]; exact c5, by rw [hf2 3 (by omega)]; exact c5', fun j hj => by rw [hk 98 (by omega)]; exact c5'' j hj⟩, c6.ag (hf2 73 (by omega)) (hf2 74 (by omega)) (hk 134 (by omega)) (hk 135 (by omega)), c7.ag (fun k h1 h2 => hk k (by omega)), fun k hk2 => (c8 k hk2).ag (fun q h1 h2 => hk q (by omega))⟩
theorem BldOk.ag {N B A : Nat} {Q : AQ} {a a' : Nat → Nat → Int32} {b b' : Nat → Nat → Int64} (h : BldOk N B Q A a b) (h1 : a' 55 = a 55) (h2 : a' 61 = a 61) (h3 : b' 55 = b 55) : BldOk N B Q A a' b' := by
  unfold BldOk BR
  rw [h1, h2, h3]
  exact h
theorem BestOk.ag {N B mn : Nat} {Q : AQ} {a a' : Nat → Nat → Int32} {b b' : Nat → Nat → Int64} (h : BestOk N B Q mn a b) (h1 : a' 52 = a 52) (h2 : a' 29 = a 29) (h3 : a' 54 = a 54) (h4 : b' 53 = b 53) : BestOk N B Q mn a' b' := by
  unfold BestOk
  rw [h1, h2, h3, h4]
  exact h
/-- behind a question of the class alone -/
theorem St.qc {a a' : Nat → Nat → Int32} {b b' : Nat → Nat → Int64} {r : Nat → Nat → Option Nat} {σ : SV} {cl cl' : List Cls} {R R' : Nat → List Cls} {TL TS A : Nat} {TR : Nat → Nat} (h : St a b r σ cl cl' R R' TL TS TR A) (hf : fqC a a') (h2 : b' 2 = b 2) (h3 : b' 3 = b 3) (hc : Cac (σ 0 0) (σ 0 5) (QS σ cl) A a' b') : St a' b' r σ cl cl' R R' TL TS TR A :=
  ⟨h.1, h.2.1.ag (fun k _ hk => hf k hk) h2 h3, h.2.2.1.ag (fun k h1 _ _ _ => hf k (scV_n (by omega))) (fun j _ => by rw [hf 94 (scV_n (by omega))]), hc⟩
/-- behind a question of the reference -/
theorem St.qm {a a' : Nat → Nat → Int32} {b b' : Nat → Nat → Int64} {r : Nat → Nat → Option Nat} {σ : SV} {cl cl' : List Cls} {R R' : Nat → List Cls} {TL TS A : Nat} {TR : Nat → Nat} (h : St a b r σ cl cl' R R' TL TS TR A) (hf : fqM a a') (hb : ∀ k, k < 94 → b' k = b k) : St a' b' r σ cl cl' R R' TL TS TR A := by
  have hk : ∀ k, k < 94 → a' k = a k := fun k hk => hf.1 k (by omega) (by omega) (by omega) (by omega)
  exact ⟨h.1, h.2.1.ag (fun k h1 _ => hk k h1) (hb 2 (by omega)) (hb 3 (by omega)), h.2.2.1.ag (fun k _ h2 h3 h4 => hf.1 k (by omega) h2 h3 h4) hf.2, h.2.2.2.1.ag (hk 52 (by omega)) (hk 29 (by omega)) (hk 54 (by omega)) (hb 53 (by omega)), h.2.2.2.2.ag (hk 55 (by omega)) (hk 61 (by omega)) (hb 55 (by omega))⟩
theorem frM.q {a a' : Nat → Nat → Int32} (h : frM a a') : fqM a a' := ⟨fun k h1 h2 h3 h4 => h k (by
  cases hs : scM k with
  | false => rfl
  | true =>
    simp only [scM, Bool.or_eq_true, Nat.beq_eq] at hs
    omega), fun j _ => by rw [h 94 rfl]⟩
theorem fqM.trans {a a1 a2 : Nat → Nat → Int32} (h : fqM a a1) (g : fqM a1 a2) : fqM a a2 := ⟨fun k h1 h2 h3 h4 => (g.1 k h1 h2 h3 h4).trans (h.1 k h1 h2 h3 h4), fun j hj => (g.2 j hj).trans (h.2 j hj)⟩
theorem fqM.refl {a : Nat → Nat → Int32} : fqM a a := ⟨fun _ _ _ _ _ => rfl, fun _ _ => rfl⟩
theorem fqC.refl {a : Nat → Nat → Int32} : fqC a a := fun _ _ => rfl
theorem fqC.trans {a a1 a2 : Nat → Nat → Int32} (h : fqC a a1) (g : fqC a1 a2) : fqC a a2 := fun k hk => (g k hk).trans (h k hk)
theorem frS.qS {a a' : Nat → Nat → Int32} (h : frS scS a a') : fqM a a' := ⟨fun k h1 h2 h3 h4 => h k (by
  cases hs : scS k with
  | false => rfl
  | true =>
    simp only [scS, scM, Bool.or_eq_true, Nat.beq_eq] at hs
    omega), fun j _ => by rw [h 94 rfl]⟩
theorem onlyG.q {a a' : Nat → Nat → Int32} {b b' : Nat → Nat → Int64} (h : onlyG a a' b b') : fqM a a' := ⟨fun k h1 h2 h3 h4 => h.1 k (by
  cases hs : scM k with
  | false => rfl
  | true =>
    simp only [scM, Bool.or_eq_true, Nat.beq_eq] at hs
    omega) (by omega) (by omega) h1, fun j hj => h.2.1 j (by omega) (by omega)⟩
theorem onlyC.q {a a' : Nat → Nat → Int32} {b b' : Nat → Nat → Int64} (h : onlyC a a' b b') : fqM a a' := ⟨fun k h1 h2 h3 h4 => h.1 k (by
  cases hs : scS k with
  | false => rfl
  | true =>
    simp only [scS, scM, Bool.or_eq_true, Nat.beq_eq] at hs
    omega) (by omega) (by omega) (by omega) (by omega) h1, fun j hj => h.2.1 j (by omega) (by omega) (by omega) (by omega) (by omega)⟩
theorem tldM_q (a : Nat → Nat → Int32) : fqM a (tldM a) := ⟨fun k h1 _ _ _ => by
  unfold tldM
  rw [uI_ne h1, uI_ne h1], fun j hj => tldM_at a (by omega)⟩
theorem scV_of {k : Nat} (h : k = 30 ∨ k = 36 ∨ k = 43 ∨ k = 75 ∨ k = 81 ∨ k = 87 ∨ k = 93 ∨ (52 ≤ k ∧ k ≤ 61) ∨ k = 65 ∨ k = 67 ∨ k = 69) : scV k = true := by
  simp only [scV, scC, Bool.or_eq_true, Bool.and_eq_true, Nat.beq_eq, Nat.ble_eq]
  omega
theorem frS.qB {a a' : Nat → Nat → Int32} (h : frS scB a a') : fqC a a' := fun k hk => h k (by
  cases hs : scB k with
  | false => rfl
  | true =>
    simp only [scB, scC, Bool.or_eq_true, Nat.beq_eq] at hs
    rw [scV_of (by omega)] at hk
    cases hk)
theorem frS.qF {a a' : Nat → Nat → Int32} (h : frS scF a a') : fqC a a' := fun k hk => h k (by
  cases hs : scF k with
  | false => rfl
  | true =>
    simp only [scF, scC, Bool.or_eq_true, Nat.beq_eq] at hs
    rw [scV_of (by omega)] at hk
    cases hk)
theorem Cac.fr {N B A : Nat} {Q : AQ} {a a' : Nat → Nat → Int32} {b b' : Nat → Nat → Int64} (h : Cac N B Q A a b) (hf : frC a a') (h2 : b' 53 = b 53) (h3 : b' 55 = b 55) : Cac N B Q A a' b' := ⟨h.1.ag (hf 52 rfl) (hf 29 rfl) (hf 54 rfl) h2, h.2.ag (hf 55 rfl) (hf 61 rfl) h3⟩
/-! ===== what asking comes to, out of the picture ===== -/
theorem StC.base {a : Nat → Nat → Int32} {b : Nat → Nat → Int64} {r : Nat → Nat → Option Nat} {σ : SV} {cl : List Cls} {R : Nat → List Cls} {TL TS A : Nat} {TR : Nat → Nat} (h : StC a b r σ cl R TL TS TR A) : BasC a (σ 0 0) (sK σ) (sW σ) := ⟨h.1, h.2.2.1.1, h.2.2.2.2.2.1.2, h.2.2.2.2.2.2.1.2.2⟩
theorem StM.base {a : Nat → Nat → Int32} {σ : SV} {cl cl' : List Cls} {R R' : Nat → List Cls} (hB : StB σ cl cl' R R') (h : StM a σ cl' R') : BasM a (σ 0 0) (sK σ) (sW σ) := by
  obtain ⟨-, -, -, -, ⟨b1, b2⟩, ⟨b3, b4, b5⟩, -, -, -⟩ := hB
  obtain ⟨⟨c1, -⟩, -, -, ⟨c4, c4'⟩, ⟨c5, -, c5'⟩, -⟩ := h
  exact ⟨c1, ⟨σ 0 3, σ 11, ⟨c4, b1, c4'⟩, fun y _ => rfl⟩, σ 0 4, σ 12, ⟨c5, b3, fun j hj => ⟨c5' j hj, by have := b5 j hj; omega⟩⟩, fun t _ => rfl⟩
theorem QF_eq {cl cl' : List Cls} (h : cleq cl cl') (N : Nat) (K W : Nat → Nat) : QF cl' N K W = QF cl N K W := by
  funext l t p act
  show clmp (hiQ l) (askV l (fctN N K W t p act) cl') = clmp (hiQ l) (askV l (fctN N K W t p act) cl)
  rw [cleq_ask cl h]
theorem St.envC {n : Nat} {a : Nat → Nat → Int32} {b : Nat → Nat → Int64} {r : Nat → Nat → Option Nat} {σ : SV} {cl cl' : List Cls} {R R' : Nat → List Cls} {TL TS A : Nat} {TR : Nat → Nat} (h : St a b r σ cl cl' R R' TL TS TR A) : EnvC n r a (σ 0 0) (σ 0 5) (QS σ cl) := by
  obtain ⟨⟨⟨⟨b1, b2⟩, -⟩, -, -, -, -, ⟨b3, b4, -⟩, -⟩, hC, -⟩ := h
  have hb := hC.base
  obtain ⟨c1, c2, c3, -, -, -, ⟨c7, c7', -⟩, ⟨c8, c8'⟩, -, c10, c11, -⟩ := hC
  exact ⟨⟨TL, c10.1, c10.2.2.2.2.2.2.1, AskC_of c10.1 c11 hb⟩, c3.1, b1, b2, by rw [c7', c8, n_add, Nat.add_zero], by omega, QF_B _ _ _ _⟩
theorem St.envT {n : Nat} {a : Nat → Nat → Int32} {b : Nat → Nat → Int64} {r : Nat → Nat → Option Nat} {σ : SV} {cl cl' : List Cls} {R R' : Nat → List Cls} {TL TS A : Nat} {TR : Nat → Nat} (h : St a b r σ cl cl' R R' TL TS TR A) : EnvT n r a (σ 0 0) (σ 0 5) (QS σ cl) := by
  obtain ⟨hB, -, hM, -⟩ := h
  have hb := hM.base hB
  obtain ⟨⟨⟨b1, b2⟩, -⟩, -, -, -, -, ⟨b3, b4, -⟩, -, hcl, -⟩ := hB
  obtain ⟨⟨c1, -⟩, -, -, -, ⟨-, c5, -⟩, -, c7, -⟩ := hM
  have hA := AskM_of (n := n) (r := r) c7 hb
  rw [QF_eq hcl] at hA
  exact ⟨hA, c1, b1, b2, c5, by omega, QF_B _ _ _ _⟩
theorem AS_ok (σ : SV) (cl R : List Cls) : ∀ t p, (AS σ cl R t p < 8 ∧ AS σ cl R t p ≠ 4) ∧ (AS σ cl R t p ≠ 0 → mayP (QS σ cl) t p (AS σ cl R t p)) := rulF_ok _ _ _ _ _
theorem St.rulC {n k : Nat} {a : Nat → Nat → Int32} {b : Nat → Nat → Int64} {r : Nat → Nat → Option Nat} {σ : SV} {cl cl' : List Cls} {R R' : Nat → List Cls} {TL TS A : Nat} {TR : Nat → Nat} (h : St a b r σ cl cl' R R' TL TS TR A) (hk : k < 4) : RulC n r (TR k) a (AS σ cl (R k)) := by
  have hC := h.2.1
  have hb := hC.base
  obtain ⟨-, -, -, -, -, -, -, -, -, c10, c11, c12⟩ := hC
  exact RulC_of c10.1 c10.2.2.2.2.2.2.1 c11 (c10.2.2.1 k hk) (c12 k hk) hb
theorem St.rulM {n k : Nat} {a : Nat → Nat → Int32} {b : Nat → Nat → Int64} {r : Nat → Nat → Option Nat} {σ : SV} {cl cl' : List Cls} {R R' : Nat → List Cls} {TL TS A : Nat} {TR : Nat → Nat} (h : St a b r σ cl cl' R R' TL TS TR A) (hk : k < 4) : RulM n r a k (AS σ cl (R k)) := by
  obtain ⟨hB, -, hM, -⟩ := h
  have hb := hM.base hB
  obtain ⟨-, -, -, -, -, -, -, hcl, hR⟩ := hB
  obtain ⟨r1, r2⟩ := hR k hk
  have hA := RulM_of (n := n) (r := r) hk r2 (hM.2.2.2.2.2.2.2 k hk) hM.2.2.2.2.2.2.1 hb
  rw [QF_eq hcl] at hA
  have e : rulF (QF cl (σ 0 0) (sK σ) (sW σ)) (σ 0 0) (sK σ) (sW σ) (R' k) = AS σ cl (R k) := by
    funext t p
    show rulX _ t p (askV (iN 97) _ (R' k)) = rulX _ t p (askV (iN 97) _ (R k))
    rw [cleq_ask (R k) r1]
    rfl
  rw [e] at hA
  exact hA
theorem BestOk.c {N B A : Nat} {Q : AQ} {a a' : Nat → Nat → Int32} {b b' : Nat → Nat → Int64} (h : Cac N B Q A a b) (h1 : BestOk N B Q 0 a' b') (hf : frS scB a a') (hl : frL scBL b b') : Cac N B Q A a' b' := ⟨h1, h.2.ag (hf 55 rfl) (hf 61 rfl) (hl 55 rfl)⟩
