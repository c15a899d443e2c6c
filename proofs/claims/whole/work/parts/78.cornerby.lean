/-! ===== THE CORNER of the reference by an ACTION ===== -/
/-- the first k of a row copied into another -/
def cpA {α : Type} (a : Nat → Nat → α) (s e k : Nat) : Nat → Nat → α := fun q j => if q = e ∧ j < k then a s j else a q j
theorem cpA_0 {α : Type} (a : Nat → Nat → α) (s e : Nat) : cpA a s e 0 = a := by
  funext q j
  exact if_neg (by omega)
theorem cpA_at {α : Type} (a : Nat → Nat → α) {s e k q j : Nat} (h : q ≠ e) : cpA a s e k q j = a q j := if_neg (fun p => h p.1)
theorem cpA_e {α : Type} (a : Nat → Nat → α) {s e k j : Nat} (h : j < k) : cpA a s e k e j = a s j := if_pos ⟨rfl, h⟩
theorem cpA_stepI (a : Nat → Nat → Int32) (s e k : Nat) : uI (cpA a s e k) e k (a s k) = cpA a s e (k + 1) := by
  funext q j
  rw [uI_at]
  unfold cpA
  by_cases h : q = e ∧ j = k
  · rw [if_pos h, if_pos (by omega), h.2]
  · rw [if_neg h]
    by_cases h2 : q = e ∧ j < k
    · rw [if_pos h2, if_pos (by omega)]
    · rw [if_neg h2, if_neg (by omega)]
theorem cpA_stepL (a : Nat → Nat → Int64) (s e k : Nat) : uL (cpA a s e k) e k (a s k) = cpA a s e (k + 1) := by
  funext q j
  rw [uL_at]
  unfold cpA
  by_cases h : q = e ∧ j = k
  · rw [if_pos h, if_pos (by omega), h.2]
  · rw [if_neg h]
    by_cases h2 : q = e ∧ j < k
    · rw [if_pos h2, if_pos (by omega)]
    · rw [if_neg h2, if_neg (by omega)]
theorem m_copyN {n c0 d : Nat} {r : Nat → Nat → Option Nat} {v1 v2 v3 : Int32} (hc0 : c0 ≤ 20) (k : Nat) : ∀ (i : Nat) (a : Nat → Nat → Int32) (b : Nat → Nat → Int64), i + k = c0 → a 94 41 = iN c0 → Den d 237 131 [.ref 94,.int v1,.int v2,.int v3,.int (iN i)] [] (zmMk n (cpA a 118 117 i) (cpA b 122 121 i) r) = Den d 237 174 [.ref 94,.int v1,.int v2,.int v3,.int (iN c0)] [] (zmMk n (cpA a 118 117 c0) (cpA b 122 121 c0) r) := by
  induction k with
  | zero =>
    intro i a b hik h41
    obtain rfl : i = c0 := by omega
    have h : cpA a 118 117 i 94 41 = iN i := by rw [cpA_at a (by omega)]; exact h41
    rw [b237_131]
    simp (disch := omega) only [h, n_add, n_mul, n_in, decide_eq_true_eq, n_nat, n_lt, n_eq, n_sub, if_pos, if_neg, if_true, if_false]
  | succ k ih =>
    intro i a b hik h41
    rw [← ih (i + 1) a b (by omega) h41]
    have h : cpA a 118 117 i 94 41 = iN c0 := by rw [cpA_at a (by omega)]; exact h41
    have h2 : cpA a 118 117 i 118 i = a 118 i := cpA_at a (by omega)
    have h3 : cpA b 122 121 i 122 i = b 122 i := cpA_at b (by omega)
    rw [b237_131]
    simp (disch := omega) only [h, n_add, n_mul, n_in, decide_eq_true_eq, n_nat, n_lt, n_eq, n_sub, if_pos, if_neg, if_true, if_false, b237_140, h2, b237_153, cpA_stepI, b237_154, h3, b237_167, cpA_stepL, b237_168]
theorem m_copyG {n c0 d : Nat} {r : Nat → Nat → Option Nat} {v1 v2 v3 : Int32} (hc0 : c0 ≤ 200) (k : Nat) : ∀ (i : Nat) (a : Nat → Nat → Int32) (b : Nat → Nat → Int64), i + k = c0 → a 94 55 = iN c0 → Den d 237 177 [.ref 94,.int v1,.int v2,.int v3,.int (iN i)] [] (zmMk n (cpA a 124 123 i) (cpA b 126 125 i) r) = Den d 237 220 [.ref 94,.int v1,.int v2,.int v3,.int (iN c0)] [] (zmMk n (cpA a 124 123 c0) (cpA b 126 125 c0) r) := by
  induction k with
  | zero =>
    intro i a b hik h41
    obtain rfl : i = c0 := by omega
    have h : cpA a 124 123 i 94 55 = iN i := by rw [cpA_at a (by omega)]; exact h41
    rw [b237_177]
    simp (disch := omega) only [h, n_add, n_mul, n_in, decide_eq_true_eq, n_nat, n_lt, n_eq, n_sub, if_pos, if_neg, if_true, if_false]
  | succ k ih =>
    intro i a b hik h41
    rw [← ih (i + 1) a b (by omega) h41]
    have h : cpA a 124 123 i 94 55 = iN c0 := by rw [cpA_at a (by omega)]; exact h41
    have h2 : cpA a 124 123 i 124 i = a 124 i := cpA_at a (by omega)
    have h3 : cpA b 126 125 i 126 i = b 126 i := cpA_at b (by omega)
    rw [b237_177]
    simp (disch := omega) only [h, n_add, n_mul, n_in, decide_eq_true_eq, n_nat, n_lt, n_eq, n_sub, if_pos, if_neg, if_true, if_false, b237_186, h2, b237_199, cpA_stepI, b237_200, h3, b237_213, cpA_stepL, b237_214]
/-- what THE CORNER finds as it is told -/
def EnvK (n : Nat) (r : Nat → Nat → Option Nat) (a : Nat → Nat → Int32) (N B cr act : Nat) (Q : AQ) : Prop := EnvM n r a N B Q ∧ a 94 39 = bI false ∧ a 94 56 = iN cr ∧ a 94 57 = iN act
theorem EnvK.on {n N B cr act : Nat} {r : Nat → Nat → Option Nat} {a a' : Nat → Nat → Int32} {b b' : Nat → Nat → Int64} {Q : AQ} (h : EnvK n r a N B cr act Q) (o : onlyK a a' b b') : EnvK n r a' N B cr act Q := ⟨h.1.ag o.agM, by rw [o.2.1 39 (by omega) (by omega)]; exact h.2.1, by rw [o.2.1 56 (by omega) (by omega)]; exact h.2.2.1, by rw [o.2.1 57 (by omega) (by omega)]; exact h.2.2.2⟩
def LstK (a : Nat → Nat → Int32) (b : Nat → Nat → Int64) (c : Nat) (P : Nat → Nat) (W : Nat → Int64) : Prop := a 94 40 = iN c ∧ ∀ i, i < c → a 117 i = iN (P i) ∧ b 121 i = W i ∧ P i < 4840
def GneK (a : Nat → Nat → Int32) (b : Nat → Nat → Int64) (g : Nat) (PG : Nat → Nat) (WG : Nat → Int64) : Prop := a 94 54 = iN g ∧ ∀ i, i < g → a 123 i = iN (PG i) ∧ b 125 i = WG i ∧ PG i < 4840
theorem LstK.on {a a' : Nat → Nat → Int32} {b b' : Nat → Nat → Int64} {c : Nat} {P : Nat → Nat} {W : Nat → Int64} (h : LstK a b c P W) (o : onlyK a a' b b') : LstK a' b' c P W := by
  unfold LstK
  rw [o.2.1 40 (by omega) (by omega), o.1 117 rfl (by omega) (by omega) (by omega), o.2.2.1 121 (by omega) (by omega) (by omega) (by omega)]
  exact h
theorem GneK.on {a a' : Nat → Nat → Int32} {b b' : Nat → Nat → Int64} {c : Nat} {P : Nat → Nat} {W : Nat → Int64} (h : GneK a b c P W) (o : onlyK a a' b b') : GneK a' b' c P W := by
  unfold GneK
  rw [o.2.1 54 (by omega) (by omega), o.1 123 rfl (by omega) (by omega) (by omega), o.2.2.1 125 (by omega) (by omega) (by omega) (by omega)]
  exact h
theorem m_hereLoop {n N B cr act t c0 d : Nat} {r : Nat → Nat → Option Nat} {Q : AQ} {P : Nat → Nat} {W : Nat → Int64} {S : Int64} {v1 v2 : Int32} (ht : t ≤ N) (hact : act < 8 ∧ act ≠ 4) (ha0 : act ≠ 0) (hcr : cr < 120) (hc0 : c0 ≤ 9) (hu1 : usum P c0 ≤ 1) (k : Nat) : ∀ (i c g : Nat) (a : Nat → Nat → Int32) (b : Nat → Nat → Int64), i + k = c0 → EnvK n r a N B cr act Q → LstK a b c0 P W → RowK N B cr act Q a b (t + 1) c (usum P i) g (S + psum (fun j => W j * UU Q B cr act (N - t) t (P j)) i) → c ≤ i + usum P i → g ≤ 2 * i → (t = N → c = 0 ∧ g = 0) → ∃ a' b' c' g', Den (d+18) 237 57 [.ref 94,.int v1,.int v2,.int (iN t),.int (iN i)] [] (zmMk n a b r) = Den (d+18) 237 91 [.ref 94,.int v1,.int v2,.int (iN t),.int (iN c0)] [] (zmMk n a' b' r) ∧ RowK N B cr act Q a' b' (t + 1) c' (usum P c0) g' (S + psum (fun j => W j * UU Q B cr act (N - t) t (P j)) c0) ∧ c' ≤ c0 + usum P c0 ∧ g' ≤ 2 * c0 ∧ (t = N → c' = 0 ∧ g' = 0) ∧ onlyK a a' b b' := by
  induction k with
  | zero =>
    intro i c g a b hik hE hL hR hc hg hz
    obtain rfl : i = c0 := by omega
    refine ⟨a, b, c, g, ?_, hR, hc, hg, hz, onlyK.refl⟩
    rw [b237_57]
    simp (disch := omega) only [hL.1, n_add, n_mul, n_in, decide_eq_true_eq, n_nat, n_lt, n_eq, n_sub, if_pos, if_neg, if_true, if_false]
  | succ k ih =>
    intro i c g a b hik hE hL hR hc hg hz
    have h8 := hE.1.n8
    have hi : i < c0 := by omega
    obtain ⟨q1, q2, q3⟩ := hL.2 i hi
    have hui : usum P (i + 1) ≤ 1 := Nat.le_trans (usum_le hi) hu1
    have hui0 : usum P i ≤ 1 := Nat.le_trans (usum_le (Nat.le_of_lt hi)) hu1
    have hus : usum P (i + 1) = usum P i + (if pS (P i) = 0 then 1 else 0) := rfl
    obtain ⟨a1, b1, c1, g1, e1, R1, k1, j1, z1, o1⟩ := m_here (d := d) (x := W i) (vt := iN t) (vp := iN (P i)) rfl rfl ht q3 hact ha0 hcr hE.1 hE.2.1 hE.2.2.1 hE.2.2.2 (by omega) (by omega) hR
    obtain ⟨a2, b2, c2, g2, e2, R2, k2, j2, z2, o2⟩ := ih (i + 1) c1 g1 a1 b1 (by omega) (hE.on o1) (hL.on o1) (R1.eq (Int64.add_assoc ..)) (by omega) (by omega) (fun q => by
      obtain ⟨p1, p2⟩ := z1 q
      obtain ⟨p3, p4⟩ := hz q
      omega)
    refine ⟨a2, b2, c2, g2, ?_, R2, k2, j2, z2, o1.trans o2⟩
    rw [← e2, b237_57]
    simp (disch := omega) only [hL.1, n_add, n_mul, n_in, decide_eq_true_eq, n_nat, n_lt, n_eq, n_sub, if_pos, if_neg, if_true, if_false, b237_66, q1, b237_75, q2, b237_82, e1, Option.bind_some, Option.toList_some, Option.toList_none, List.cons_append, List.nil_append, true_or, or_true, if_true, bI_if, b237_85]
theorem m_goneLoop {n N B cr act t g0 c u d : Nat} {r : Nat → Nat → Option Nat} {Q : AQ} {PG : Nat → Nat} {WG : Nat → Int64} {S : Int64} {v1 v2 : Int32} (ht : t ≤ N) (hact : act < 8 ∧ act ≠ 4) (ha0 : act ≠ 0) (hcr : cr < 120) (hg0 : g0 ≤ 165) (k : Nat) : ∀ (i g : Nat) (a : Nat → Nat → Int32) (b : Nat → Nat → Int64), i + k = g0 → EnvK n r a N B cr act Q → GneK a b g0 PG WG → RowK N B cr act Q a b (t + 1) c u g (S + psum (fun j => WG j * UG Q cr act (N - t) t (PG j)) i) → g ≤ 20 + i → (t = N → g = 0) → ∃ a' b' g', Den (d+18) 237 94 [.ref 94,.int v1,.int v2,.int (iN t),.int (iN i)] [] (zmMk n a b r) = Den (d+18) 237 128 [.ref 94,.int v1,.int v2,.int (iN t),.int (iN g0)] [] (zmMk n a' b' r) ∧ RowK N B cr act Q a' b' (t + 1) c u g' (S + psum (fun j => WG j * UG Q cr act (N - t) t (PG j)) g0) ∧ g' ≤ 20 + g0 ∧ (t = N → g' = 0) ∧ onlyK a a' b b' := by
  induction k with
  | zero =>
    intro i g a b hik hE hL hR hg hz
    obtain rfl : i = g0 := by omega
    refine ⟨a, b, g, ?_, hR, hg, hz, onlyK.refl⟩
    rw [b237_94]
    simp (disch := omega) only [hL.1, n_add, n_mul, n_in, decide_eq_true_eq, n_nat, n_lt, n_eq, n_sub, if_pos, if_neg, if_true, if_false]
  | succ k ih =>
    intro i g a b hik hE hL hR hg hz
    have h8 := hE.1.n8
    have hi : i < g0 := by omega
    obtain ⟨q1, q2, q3⟩ := hL.2 i hi
    obtain ⟨a1, b1, g1, e1, R1, j1, z1, o1⟩ := m_gone (d := d) (x := WG i) (vt := iN t) (vp := iN (PG i)) rfl rfl ht q3 hact ha0 hcr hE.1 hE.2.2.1 hE.2.2.2 (by omega) hR
    obtain ⟨a2, b2, g2, e2, R2, j2, z2, o2⟩ := ih (i + 1) g1 a1 b1 (by omega) (hE.on o1) (hL.on o1) (R1.eq (Int64.add_assoc ..)) (by omega) (fun q => by
      have p1 := z1 q
      have p3 := hz q
      omega)
    refine ⟨a2, b2, g2, ?_, R2, j2, z2, o1.trans o2⟩
    rw [← e2, b237_94]
    simp (disch := omega) only [hL.1, n_add, n_mul, n_in, decide_eq_true_eq, n_nat, n_lt, n_eq, n_sub, if_pos, if_neg, if_true, if_false, b237_103, q1, b237_112, q2, b237_119, e1, Option.bind_some, Option.toList_some, Option.toList_none, List.cons_append, List.nil_append, true_or, or_true, if_true, bI_if, b237_122]
/-- what THE CORNER changes -/
def onlyC (a a' : Nat → Nat → Int32) (b b' : Nat → Nat → Int64) : Prop := (∀ k, scS k = false → k ≠ 117 → k ≠ 118 → k ≠ 123 → k ≠ 124 → k ≠ 94 → a' k = a k) ∧ (∀ j, j ≠ 40 → j ≠ 41 → j ≠ 54 → j ≠ 55 → j ≠ 57 → a' 94 j = a 94 j) ∧ (∀ k, k ≠ 115 → k ≠ 121 → k ≠ 122 → k ≠ 125 → k ≠ 126 → k ≠ 94 → b' k = b k) ∧ ∀ j, j ≠ 62 → b' 94 j = b 94 j
theorem onlyC.trans {a a1 a2 : Nat → Nat → Int32} {b b1 b2 : Nat → Nat → Int64} (h : onlyC a a1 b b1) (h2 : onlyC a1 a2 b1 b2) : onlyC a a2 b b2 := ⟨fun k p q s t u v => (h2.1 k p q s t u v).trans (h.1 k p q s t u v), fun j p q s t u => (h2.2.1 j p q s t u).trans (h.2.1 j p q s t u), fun k p q s t u v => (h2.2.2.1 k p q s t u v).trans (h.2.2.1 k p q s t u v), fun j p => (h2.2.2.2 j p).trans (h.2.2.2 j p)⟩
theorem onlyK.toC {a a' : Nat → Nat → Int32} {b b' : Nat → Nat → Int64} (h : onlyK a a' b b') : onlyC a a' b b' := ⟨fun k p _ q _ s t => h.1 k p q s t, fun j _ p _ q _ => h.2.1 j p q, fun k p _ q _ s t => h.2.2.1 k p q s t, h.2.2.2⟩
theorem onlyC.agM {a a' : Nat → Nat → Int32} {b b' : Nat → Nat → Int64} (h : onlyC a a' b b') : agD dpM a a' := fun k j hp => by
  obtain ⟨h1, h2, h3, h4, h5⟩ := dpM_K k j hp
  by_cases hk : k = 94
  · rw [hk]
    obtain ⟨q1, q2, q3, q4, q5⟩ := h5 hk
    exact h.2.1 j q3 q1 q4 q2 q5
  · rw [h.1 k (dpM_scS k j hp) h3 h1 h4 h2 hk]
set_option maxHeartbeats 1000000 in
theorem m_cornerLoop {n N B cr act d : Nat} {r : Nat → Nat → Option Nat} {Q : AQ} {Φ : Int64} {v1 v2 : Int32} (hact : act < 8 ∧ act ≠ 4) (ha0 : act ≠ 0) (hcr : cr < 120) (k : Nat) : ∀ (t c g : Nat) (P PG : Nat → Nat) (W WG : Nat → Int64) (u4 : Value) (a : Nat → Nat → Int32) (b : Nat → Nat → Int64), t + k = N → EnvK n r a N B cr act Q → c ≤ t + 1 → g ≤ 20 * t → usum P c ≤ 1 → LstK a b c P W → GneK a b g PG WG → b 94 62 + psum (fun i => W i * UU Q B cr act (N - t) t (P i)) c + psum (fun i => WG i * UG Q cr act (N - t) t (PG i)) g = Φ → ∃ a' b', Den (d+18) 237 36 [.ref 94,.int v1,.int v2,.int (iN t),u4] [] (zmMk n a b r) = some (some (.long Φ), zmMk n a' b' r) ∧ onlyC a a' b b' := by
  induction k with
  | zero =>
    intro t c g P PG W WG u4 a b htk hE hc hg hu hL hG hsum
    have h8 := hE.1.n8
    have h94 : a 94 0 = iN N := hE.1.2.1
    have htN : t = N := by omega
    have o0 : onlyK a (uI (uI a 94 41 (iN 0)) 94 55 (iN 0)) b b := ⟨fun k _ _ _ h => by funext j; rw [uI_at, if_neg (by omega), uI_at, if_neg (by omega)], fun j h1 h2 => by rw [uI_at, if_neg (by omega), uI_at, if_neg (by omega)], fun _ _ _ _ _ => rfl, fun _ _ => rfl⟩
    have R0 : RowK N B cr act Q (uI (uI a 94 41 (iN 0)) 94 55 (iN 0)) b (t + 1) 0 (usum P 0) 0 (b 94 62 + psum (fun j => W j * UU Q B cr act (N - t) t (P j)) 0) := ⟨fun _ => 0, fun _ => 0, fun _ => 0, fun _ => 0, ⟨by rw [uI_at, if_neg (by omega), uI_at, if_pos ⟨rfl, rfl⟩], fun i hi => absurd hi (by omega)⟩, Nat.le_refl _, ⟨by rw [uI_at, if_pos ⟨rfl, rfl⟩], fun i hi => absurd hi (by omega)⟩, by simp only [psum]; rw [Int64.add_zero]⟩
    obtain ⟨a1, b1, c1, g1, e1, R1, k1, j1, z1, o1⟩ := m_hereLoop (d := d) (v1 := v1) (v2 := v2) (by omega) hact ha0 hcr (by omega) hu c 0 0 0 _ b (by omega) (hE.on o0) (hL.on o0) R0 (by omega) (by omega) (fun _ => ⟨rfl, rfl⟩)
    have o01 := o0.trans o1
    obtain ⟨a2, b2, g2, e2, R2, j2, z2, o2⟩ := m_goneLoop (d := d) (v1 := v1) (v2 := v2) (PG := PG) (WG := WG) (S := b 94 62 + psum (fun j => W j * UU Q B cr act (N - t) t (P j)) c) (by omega) hact ha0 hcr (show g ≤ 165 by omega) g 0 g1 a1 b1 (by omega) (hE.on o01) (hG.on o01) (R1.eq (by simp only [psum]; rw [Int64.add_zero])) (by omega) (fun q => (z1 q).2)
    have o012 := o01.trans o2
    have hc1 := (z1 htN).1
    have hg2 := z2 htN
    subst hc1 hg2
    obtain ⟨P1, PG1, W1, WG1, ⟨h41, -⟩, -, ⟨h55, -⟩, hs1⟩ := R2
    have hcp := m_copyN (n := n) (d := d+18) (r := r) (v1 := v1) (v2 := v2) (v3 := iN t) (show 0 ≤ 20 by omega) 0 0 a2 b2 (by omega) h41
    have hcg := m_copyG (n := n) (d := d+18) (r := r) (v1 := v1) (v2 := v2) (v3 := iN t) (show 0 ≤ 200 by omega) 0 0 a2 b2 (by omega) h55
    rw [cpA_0, cpA_0] at hcp hcg
    have h55' : (uI a2 94 40 (iN 0)) 94 55 = iN 0 := by rw [uI_at, if_neg (by omega)]; exact h55
    have o3 : onlyC a2 (uI (uI a2 94 40 (iN 0)) 94 54 (iN 0)) b2 b2 := ⟨fun k _ _ _ _ _ h => by funext j; rw [uI_at, if_neg (by omega), uI_at, if_neg (by omega)], fun j h1 _ h2 _ _ => by rw [uI_at, if_neg (by omega), uI_at, if_neg (by omega)], fun _ _ _ _ _ _ _ => rfl, fun _ _ => rfl⟩
    have h94' : (uI (uI a2 94 40 (iN 0)) 94 54 (iN 0)) 94 0 = iN N := by rw [uI_at, if_neg (by omega), uI_at, if_neg (by omega), o012.2.1 0 (by omega) (by omega)]; exact h94
    have hfin : b2 94 62 = Φ := by
      simp only [psum, Int64.add_zero] at hs1
      rw [hs1]
      exact hsum
    refine ⟨_, b2, ?_, o012.toC.trans o3⟩
    rw [b237_36]
    simp (disch := omega) only [h94, n_add, n_mul, n_in, decide_eq_true_eq, n_nat, n_lt, n_eq, n_sub, if_pos, if_neg, if_true, if_false, b237_44, e1, b237_91, e2, b237_128, hcp, b237_174, hcg, b237_220, h41, h55']
    rw [b237_36]
    simp (disch := omega) only [h94', n_add, n_mul, n_in, decide_eq_true_eq, n_nat, n_lt, n_eq, n_sub, if_pos, if_neg, if_true, if_false, b237_242, hfin]
  | succ k ih =>
    intro t c g P PG W WG u4 a b htk hE hc hg hu hL hG hsum
    have h8 := hE.1.n8
    have h94 : a 94 0 = iN N := hE.1.2.1
    have o0 : onlyK a (uI (uI a 94 41 (iN 0)) 94 55 (iN 0)) b b := ⟨fun k _ _ _ h => by funext j; rw [uI_at, if_neg (by omega), uI_at, if_neg (by omega)], fun j h1 h2 => by rw [uI_at, if_neg (by omega), uI_at, if_neg (by omega)], fun _ _ _ _ _ => rfl, fun _ _ => rfl⟩
    have R0 : RowK N B cr act Q (uI (uI a 94 41 (iN 0)) 94 55 (iN 0)) b (t + 1) 0 (usum P 0) 0 (b 94 62 + psum (fun j => W j * UU Q B cr act (N - t) t (P j)) 0) := ⟨fun _ => 0, fun _ => 0, fun _ => 0, fun _ => 0, ⟨by rw [uI_at, if_neg (by omega), uI_at, if_pos ⟨rfl, rfl⟩], fun i hi => absurd hi (by omega)⟩, Nat.le_refl _, ⟨by rw [uI_at, if_pos ⟨rfl, rfl⟩], fun i hi => absurd hi (by omega)⟩, by simp only [psum]; rw [Int64.add_zero]⟩
    obtain ⟨a1, b1, c1, g1, e1, R1, k1, j1, z1, o1⟩ := m_hereLoop (d := d) (v1 := v1) (v2 := v2) (by omega) hact ha0 hcr (by omega) hu c 0 0 0 _ b (by omega) (hE.on o0) (hL.on o0) R0 (by omega) (by omega) (fun q => absurd q (by omega))
    have o01 := o0.trans o1
    obtain ⟨a2, b2, g2, e2, R2, j2, z2, o2⟩ := m_goneLoop (d := d) (v1 := v1) (v2 := v2) (PG := PG) (WG := WG) (S := b 94 62 + psum (fun j => W j * UU Q B cr act (N - t) t (P j)) c) (by omega) hact ha0 hcr (show g ≤ 165 by omega) g 0 g1 a1 b1 (by omega) (hE.on o01) (hG.on o01) (R1.eq (by simp only [psum]; rw [Int64.add_zero])) (by omega) (fun q => absurd q (by omega))
    have o012 := o01.trans o2
    obtain ⟨P1, PG1, W1, WG1, ⟨h41, hn1⟩, hu1, ⟨h55, hg1⟩, hs1⟩ := R2
    have hcp := m_copyN (n := n) (d := d+18) (r := r) (v1 := v1) (v2 := v2) (v3 := iN t) (show c1 ≤ 20 by omega) c1 0 a2 b2 (by omega) h41
    rw [cpA_0, cpA_0] at hcp
    have h55b : cpA a2 118 117 c1 94 55 = iN g2 := by rw [cpA_at a2 (by omega)]; exact h55
    have hcg := m_copyG (n := n) (d := d+18) (r := r) (v1 := v1) (v2 := v2) (v3 := iN t) (show g2 ≤ 200 by omega) g2 0 (cpA a2 118 117 c1) (cpA b2 122 121 c1) (by omega) h55b
    rw [cpA_0, cpA_0] at hcg
    have h41c : cpA (cpA a2 118 117 c1) 124 123 g2 94 41 = iN c1 := by rw [cpA_at _ (by omega), cpA_at a2 (by omega)]; exact h41
    have h55c : (uI (cpA (cpA a2 118 117 c1) 124 123 g2) 94 40 (iN c1)) 94 55 = iN g2 := by rw [uI_at, if_neg (by omega), cpA_at _ (by omega)]; exact h55b
    have o3 : onlyC a2 (uI (uI (cpA (cpA a2 118 117 c1) 124 123 g2) 94 40 (iN c1)) 94 54 (iN g2)) b2 (cpA (cpA b2 122 121 c1) 126 125 g2) := ⟨fun k _ h1 _ h2 _ h => by funext j; rw [uI_at, if_neg (by omega), uI_at, if_neg (by omega), cpA_at _ h2, cpA_at _ h1], fun j h1 _ h2 _ _ => by rw [uI_at, if_neg (by omega), uI_at, if_neg (by omega), cpA_at _ (by omega), cpA_at _ (by omega)], fun k _ h1 _ h2 _ _ => by funext j; rw [cpA_at _ h2, cpA_at _ h1], fun j _ => by rw [cpA_at _ (by omega), cpA_at _ (by omega)]⟩
    have hE3 : EnvK n r (uI (uI (cpA (cpA a2 118 117 c1) 124 123 g2) 94 40 (iN c1)) 94 54 (iN g2)) N B cr act Q := by
      obtain ⟨p1, p2, p3, p4⟩ := hE.on o012
      refine ⟨p1.ag o3.agM, by rw [o3.2.1 39 (by omega) (by omega) (by omega) (by omega) (by omega)]; exact p2, by rw [o3.2.1 56 (by omega) (by omega) (by omega) (by omega) (by omega)]; exact p3, ?_⟩
      rw [uI_at, if_neg (by omega), uI_at, if_neg (by omega), cpA_at _ (by omega), cpA_at _ (by omega)]
      exact p4
    obtain ⟨a3, b3, e3, o4⟩ := ih (t + 1) c1 g2 P1 PG1 W1 WG1 (.int (iN g2)) _ (cpA (cpA b2 122 121 c1) 126 125 g2) (by omega) hE3 (by omega) (by omega) (by omega) ⟨by rw [uI_at, if_neg (by omega), uI_at, if_pos ⟨rfl, rfl⟩], fun i hi => by
      rw [uI_at, if_neg (by omega), uI_at, if_neg (by omega), cpA_at _ (by omega), cpA_e _ hi, cpA_at _ (by omega), cpA_e _ hi]
      exact hn1 i hi⟩ ⟨by rw [uI_at, if_pos ⟨rfl, rfl⟩], fun i hi => by
      rw [uI_at, if_neg (by omega), uI_at, if_neg (by omega), cpA_e _ hi, cpA_e _ hi, cpA_at _ (by omega), cpA_at _ (by omega)]
      exact hg1 i hi⟩ (by
      rw [cpA_at _ (by omega), cpA_at _ (by omega), hs1]
      exact hsum)
    refine ⟨a3, b3, ?_, (o012.toC.trans o3).trans o4⟩
    rw [← e3, b237_36]
    simp (disch := omega) only [h94, n_add, n_mul, n_in, decide_eq_true_eq, n_nat, n_lt, n_eq, n_sub, if_pos, if_neg, if_true, if_false, b237_44, e1, b237_91, e2, b237_128, hcp, b237_174, hcg, b237_220, h41c, h55c]
theorem m_cornerBy {n N B cr act p d : Nat} {r : Nat → Nat → Option Nat} {Q : AQ} {a : Nat → Nat → Int32} {b : Nat → Nat → Int64} {vp va : Int32} (ep : vp = iN p) (ea : va = iN act) (hp : p < 4840) (hact : act < 8 ∧ act ≠ 4) (ha0 : act ≠ 0) (hcr : cr < 120) (hE : EnvM n r a N B Q) (h39 : a 94 39 = bI false) (h56 : a 94 56 = iN cr) : ∃ a' b', Den (d+18) 237 0 [.ref 94, .int vp, .int va, zmJ, zmJ] [] (zmMk n a b r) = some (some (.long (UU Q B cr act N 0 p)), zmMk n a' b' r) ∧ onlyC a a' b b' := by
  subst ep ea
  have h8 := hE.n8
  have o0 : onlyC a (uI (uI (uI (uI a 94 57 (iN act)) 94 40 (iN 1)) 94 54 (iN 0)) 117 0 (iN p)) b (uL (uL b 94 62 0) 121 0 1) := ⟨fun k _ h1 _ _ _ h => by funext j; rw [uI_at, if_neg (by omega), uI_at, if_neg (by omega), uI_at, if_neg (by omega), uI_at, if_neg (by omega)], fun j h1 _ h2 _ h3 => by rw [uI_at, if_neg (by omega), uI_at, if_neg (by omega), uI_at, if_neg (by omega), uI_at, if_neg (by omega)], fun k _ h1 _ _ _ h => by funext j; rw [uL_at, if_neg (by omega), uL_at, if_neg (by omega)], fun j h => by rw [uL_at, if_neg (by omega), uL_at, if_neg (by omega)]⟩
  have hE0 : EnvK n r (uI (uI (uI (uI a 94 57 (iN act)) 94 40 (iN 1)) 94 54 (iN 0)) 117 0 (iN p)) N B cr act Q := ⟨hE.ag o0.agM, by rw [o0.2.1 39 (by omega) (by omega) (by omega) (by omega) (by omega)]; exact h39, by rw [o0.2.1 56 (by omega) (by omega) (by omega) (by omega) (by omega)]; exact h56, by rw [uI_at, if_neg (by omega), uI_at, if_neg (by omega), uI_at, if_neg (by omega), uI_at, if_pos ⟨rfl, rfl⟩]⟩
  obtain ⟨a1, b1, e1, o1⟩ := m_cornerLoop (d := d) (v1 := iN p) (v2 := iN act) (Φ := UU Q B cr act N 0 p) hact ha0 hcr N 0 1 0 (fun _ => p) (fun _ => 0) (fun _ => 1) (fun _ => 0) zmJ (uI (uI (uI (uI a 94 57 (iN act)) 94 40 (iN 1)) 94 54 (iN 0)) 117 0 (iN p)) (uL (uL b 94 62 0) 121 0 1) (by omega) hE0 (by omega) (by omega) (by simp only [usum]; split <;> omega) ⟨by rw [uI_at, if_neg (by omega), uI_at, if_neg (by omega), uI_at, if_pos ⟨rfl, rfl⟩], fun i hi => by
    obtain rfl : i = 0 := by omega
    refine ⟨by rw [uI_at, if_pos ⟨rfl, rfl⟩], by rw [uL_at, if_pos ⟨rfl, rfl⟩], hp⟩⟩ ⟨by rw [uI_at, if_neg (by omega), uI_at, if_pos ⟨rfl, rfl⟩], fun i hi => absurd hi (by omega)⟩ (by
    simp only [psum, uL_at]
    simp)
  exact ⟨a1, b1, by rw [b237_0]; exact e1, o0.trans o1⟩
