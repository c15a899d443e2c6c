/-! ===== the class's Log.play ===== -/
/-- the try's state behind so many STEPS: place, X, how it ended, how many STEPS -/
abbrev TrL : Type := Nat × Nat × Nat × Nat
def trL (Q : AQ) (B : Nat) (A : Nat → Nat → Nat) (p x : Nat) : Nat → TrL
  | 0 => ⟨p, x, if pY p = 0 then 1 else 0, 0⟩
  | t + 1 => if (trL Q B A p x t).2.2.1 ≠ 0 then trL Q B A p x t else
    if A t (trL Q B A p x t).1 = 0 then ⟨(trL Q B A p x t).1, (trL Q B A p x t).2.1, 3, t + 1⟩ else
    ⟨nxL Q t (trL Q B A p x t).1 (trL Q B A p x t).2.1 (A t (trL Q B A p x t).1), x2L Q B t (trL Q B A p x t).1 (trL Q B A p x t).2.1 (A t (trL Q B A p x t).1), enL Q B t (trL Q B A p x t).1 (trL Q B A p x t).2.1 (A t (trL Q B A p x t).1), t + 1⟩
theorem trL_e {Q : AQ} {B p x t : Nat} {A : Nat → Nat → Nat} (h : (trL Q B A p x t).2.2.1 ≠ 0) : trL Q B A p x (t + 1) = trL Q B A p x t := if_pos h
theorem trL_0 {Q : AQ} {B p x t : Nat} {A : Nat → Nat → Nat} (h : (trL Q B A p x t).2.2.1 = 0) (h2 : A t (trL Q B A p x t).1 = 0) : trL Q B A p x (t + 1) = ⟨(trL Q B A p x t).1, (trL Q B A p x t).2.1, 3, t + 1⟩ := (if_neg (fun z => z h)).trans (if_pos h2)
theorem trL_1 {Q : AQ} {B p x t : Nat} {A : Nat → Nat → Nat} (h : (trL Q B A p x t).2.2.1 = 0) (h2 : A t (trL Q B A p x t).1 ≠ 0) : trL Q B A p x (t + 1) = ⟨nxL Q t (trL Q B A p x t).1 (trL Q B A p x t).2.1 (A t (trL Q B A p x t).1), x2L Q B t (trL Q B A p x t).1 (trL Q B A p x t).2.1 (A t (trL Q B A p x t).1), enL Q B t (trL Q B A p x t).1 (trL Q B A p x t).2.1 (A t (trL Q B A p x t).1), t + 1⟩ := (if_neg (fun z => z h)).trans (if_neg h2)
theorem enL_le {Q : AQ} {B t p x act : Nat} : enL Q B t p x act ≤ 2 := by
  unfold enL
  repeat' split
  all_goals omega
theorem trL_ok {Q : AQ} {B p x : Nat} {A : Nat → Nat → Nat} (hp : p < 4840) (hx : x < 65536) (t : Nat) : (trL Q B A p x t).1 < 4840 ∧ (trL Q B A p x t).2.1 < 65536 ∧ (trL Q B A p x t).2.2.1 ≤ 3 ∧ (trL Q B A p x t).2.2.2 ≤ t ∧ ((trL Q B A p x t).2.2.1 = 0 → (trL Q B A p x t).2.2.2 = t ∧ pY (trL Q B A p x t).1 ≠ 0) := by
  induction t with
  | zero =>
    refine ⟨hp, hx, ?_, Nat.le_refl _, fun h => ⟨rfl, fun h2 => ?_⟩⟩
    · show (if pY p = 0 then 1 else 0) ≤ 3
      split <;> omega
    · have h3 : (if pY p = 0 then 1 else 0) = 0 := h
      have h4 : pY p = 0 := h2
      rw [if_pos h4] at h3
      omega
  | succ t ih =>
    obtain ⟨i1, i2, i3, i4, i5⟩ := ih
    by_cases h : (trL Q B A p x t).2.2.1 = 0
    · by_cases h2 : A t (trL Q B A p x t).1 = 0
      · rw [trL_0 h h2]
        exact ⟨i1, i2, Nat.le_refl _, Nat.le_refl _, fun h3 => by cases h3⟩
      · rw [trL_1 h h2]
        refine ⟨nxL_lt i1, x2L_lt i2, ?_, Nat.le_refl _, fun h3 => ⟨rfl, fun h4 => ?_⟩⟩
        · have := enL_le (Q := Q) (B := B) (t := t) (p := (trL Q B A p x t).1) (x := (trL Q B A p x t).2.1) (act := A t (trL Q B A p x t).1)
          show enL _ _ _ _ _ _ ≤ 3
          omega
        · have h3' : enL Q B t (trL Q B A p x t).1 (trL Q B A p x t).2.1 (A t (trL Q B A p x t).1) = 0 := h3
          have h4' : pY (nxL Q t (trL Q B A p x t).1 (trL Q B A p x t).2.1 (A t (trL Q B A p x t).1)) = 0 := h4
          unfold enL at h3'
          rw [if_pos h4'] at h3'
          omega
    · rw [trL_e h]
      exact ⟨i1, i2, i3, by omega, fun h3 => absurd h3 h⟩
/-- what the LOG's rows hold behind t STEPS -/
def LgR (Q : AQ) (B : Nat) (A : Nat → Nat → Nat) (p x t : Nat) (fp fa : Nat → Int32) : Prop := (∀ j, j ≤ (trL Q B A p x t).2.2.2 → fp j = iN (trL Q B A p x j).1) ∧ ∀ j, j < (trL Q B A p x t).2.2.2 → fa j = iN (A j (trL Q B A p x j).1)
theorem LgR.e {Q : AQ} {B p x t : Nat} {A : Nat → Nat → Nat} {fp fa : Nat → Int32} (h : LgR Q B A p x t fp fa) (he : (trL Q B A p x t).2.2.1 ≠ 0) : LgR Q B A p x (t + 1) fp fa := by
  unfold LgR
  rw [trL_e he]
  exact h
theorem trL_l {Q : AQ} {B p x : Nat} {A : Nat → Nat → Nat} {t : Nat} (he : (trL Q B A p x t).2.2.1 = 0) : (trL Q B A p x (t + 1)).2.2.2 = t + 1 := by
  by_cases h2 : A t (trL Q B A p x t).1 = 0
  · rw [trL_0 he h2]
  · rw [trL_1 he h2]
theorem LgR.s {Q : AQ} {B p x t : Nat} {A : Nat → Nat → Nat} {fp fa fp' fa' : Nat → Int32} (h : LgR Q B A p x t fp fa) (he : (trL Q B A p x t).2.2.1 = 0) (hl : (trL Q B A p x t).2.2.2 = t) (h1 : ∀ j, j ≠ t + 1 → fp' j = fp j) (h2 : fp' (t + 1) = iN (trL Q B A p x (t + 1)).1) (h3 : ∀ j, j ≠ t → fa' j = fa j) (h4 : fa' t = iN (A t (trL Q B A p x t).1)) : LgR Q B A p x (t + 1) fp' fa' := by
  unfold LgR
  rw [trL_l he]
  obtain ⟨g1, g2⟩ := h
  rw [hl] at g1 g2
  refine ⟨fun j hj => ?_, fun j hj => ?_⟩
  · by_cases e : j = t + 1
    · rw [e, h2]
    · rw [h1 j e, g1 j (by omega)]
  · by_cases e : j = t
    · rw [e, h4]
    · rw [h3 j e, g2 j (by omega)]
/-- all as it was but for the LOG, what is drawn and scratch -/
def lgF (a a' : Nat → Nat → Int32) : Prop := (∀ k, scC k = false → k ≠ 16 → k ≠ 62 → k ≠ 63 → k ≠ 64 → a' k = a k) ∧ (∀ j, j ≠ 1 → a' 16 j = a 16 j) ∧ ∀ j, j ≠ 2 → j ≠ 3 → a' 62 j = a 62 j
theorem lgF.trans {a a1 a2 : Nat → Nat → Int32} (h : lgF a a1) (g : lgF a1 a2) : lgF a a2 := ⟨fun k h1 h2 h3 h4 h5 => (g.1 k h1 h2 h3 h4 h5).trans (h.1 k h1 h2 h3 h4 h5), fun j hj => (g.2.1 j hj).trans (h.2.1 j hj), fun j h1 h2 => (g.2.2 j h1 h2).trans (h.2.2 j h1 h2)⟩
theorem drF.lg {a a' : Nat → Nat → Int32} (h : drF a a') : lgF a a' := ⟨fun k h1 h2 _ _ _ => h.1 k h1 h2, h.2, fun j _ _ => by rw [h.1 62 rfl (by decide)]⟩
theorem lgF.p63 {a : Nat → Nat → Int32} {j : Nat} {v : Int32} : lgF a (uI a 63 j v) := ⟨fun k _ _ _ h _ => uI_ne h, fun j _ => by rw [uI_ne (by decide)], fun j _ _ => by rw [uI_ne (by decide)]⟩
theorem lgF.p64 {a : Nat → Nat → Int32} {j : Nat} {v : Int32} : lgF a (uI a 64 j v) := ⟨fun k _ _ _ _ h => uI_ne h, fun j _ => by rw [uI_ne (by decide)], fun j _ _ => by rw [uI_ne (by decide)]⟩
theorem lgF.p62 {a : Nat → Nat → Int32} {i : Nat} {v : Int32} (hi : i = 2 ∨ i = 3) : lgF a (uI a 62 i v) := ⟨fun k _ _ h _ _ => uI_ne h, fun j _ => by rw [uI_ne (by decide)], fun j h1 h2 => uI_nj (by omega)⟩
theorem lgF.dp {a a' : Nat → Nat → Int32} (h : lgF a a') : agD dpC a a' := by
  intro k j hp
  have hne : ∀ k0, dpC k0 j = false → k ≠ k0 := fun k0 h0 e => by rw [← e, hp] at h0; cases h0
  by_cases h1 : k = 16
  · rw [h1] at hp ⊢
    exact h.2.1 j (fun e => by rw [e] at hp; revert hp; decide)
  · rw [h.1 k (dpC_scC k j hp) h1 (hne 62 rfl) (hne 63 rfl) (hne 64 rfl)]
set_option maxHeartbeats 1000000 in
theorem c_step {d N B t p x TT : Nat} {n : Nat} {a : Nat → Nat → Int32} {b : Nat → Nat → Int64} {r : Nat → Nat → Option Nat} {Q : AQ} {A : Nat → Nat → Nat} (hX : isTx TT) (hRu : RulC n r TT a A) (hA8 : ∀ t p, (A t p < 8 ∧ A t p ≠ 4) ∧ (A t p ≠ 0 → mayP Q t p (A t p))) (hE : EnvC n r a N B Q) (h64 : a 64 t = iN p) (hx : a 16 1 = iN x) (hxl : x < 65536) (ht : t < N) (hp : p < 4840) : ∃ a' q y z, Den (d+14) 25 0 [.ref 62, .ref TT, .int (iN t), zmJ, zmJ, zmJ] [] (zmMk n a b r) = some (some (.int (iN z)), zmMk n a' b r) ∧ lgF a a' ∧ a' 16 1 = iN y ∧ (∀ j, j ≠ t + 1 → a' 64 j = a 64 j) ∧ a' 64 (t + 1) = iN q ∧ (∀ j, j ≠ t → a' 63 j = a 63 j) ∧ a' 63 t = iN (A t p) ∧ (q, y, z) = (if A t p = 0 then (p, x, 3) else (nxL Q t p x (A t p), x2L Q B t p x (A t p), enL Q B t p x (A t p))) ∧ ∀ j, a' 62 j = a 62 j := by
  have h8 := hE.n8
  obtain ⟨a1, e1, f1⟩ := hRu d a b _ _ t p agD.refl rfl rfl (by omega) hp
  obtain ⟨hA, hm⟩ := hA8 t p
  have e0 : Den (d+14) 25 0 [.ref 62, .ref TT, .int (iN t), zmJ, zmJ, zmJ] [] (zmMk n a b r) = if A t p = 0 then Den (d+14) 25 33 [.ref 62,.ref TT,.int (iN t),.int (iN p),.int (iN (A t p)),zmJ] [] (zmMk n (uI a1 63 t (iN (A t p))) b r) else Den (d+14) 25 46 [.ref 62,.ref TT,.int (iN t),.int (iN p),.int (iN (A t p)),zmJ] [] (zmMk n (uI a1 63 t (iN (A t p))) b r) := by
    have ep : Den (d+13) 22 0 [.ref 62, .int (iN t)] [] (zmMk n a b r) = _ := c_placeAt (by omega)
    have eq : Den (d+13) 146 0 [.ref 63, .int (iN t), .int (iN (A t p))] [] (zmMk n a1 b r) = _ := c_puta (p := 0) (by omega)
    simp (disch := omega) only [b25_0 hX, ep, h64, Option.bind_some, Option.toList_some, Option.toList_none, List.cons_append, List.nil_append, true_or, or_true, if_true, bI_if, b25_5 hX, e1, b25_16 hX, eq, Option.toList_none, b25_28 hX, n_eq]
  have g63 : ∀ j, j ≠ t → uI a1 63 t (iN (A t p)) 63 j = a 63 j := fun j hj => by rw [uI_nj hj, f1 63 rfl]
  have g64 : uI a1 63 t (iN (A t p)) 64 = a 64 := by rw [uI_ne (by decide), f1 64 rfl]
  have g62 : uI a1 63 t (iN (A t p)) 62 = a 62 := by rw [uI_ne (by decide), f1 62 rfl]
  have gx : uI a1 63 t (iN (A t p)) 16 1 = iN x := by rw [uI_ne (by decide), f1 16 rfl]; exact hx
  have F1 : lgF a (uI a1 63 t (iN (A t p))) := (drF.of f1).lg.trans lgF.p63
  rw [e0]
  by_cases h0 : A t p = 0
  · have eq : Den (d+13) 146 0 [.ref 64, .int (iN (t + 1)), .int (iN p)] [] (zmMk n (uI a1 63 t (iN (A t p))) b r) = _ := c_puts (p := 0) (by omega)
    refine ⟨_, p, x, 3, ?_, F1.trans (lgF.p64 (j := t + 1) (v := iN p)), ?_, fun j hj => ?_, uI_self, fun j hj => ?_, ?_, by rw [if_pos h0], fun j => ?_⟩
    · rw [if_pos h0]
      simp (disch := omega) only [b25_33 hX, n_add, eq, Option.bind_some, Option.toList_none, List.nil_append, b25_44 hX]
    · rw [uI_ne (by decide)]; exact gx
    · rw [uI_nj hj, g64]
    · rw [uI_ne (by decide)]; exact g63 j hj
    · rw [uI_ne (by decide)]; exact uI_self
    · rw [uI_ne (by decide), g62]
  · have hE1 : EnvC n r (uI a1 63 t (iN (A t p))) N B Q := hE.ag F1.dp
    obtain ⟨a2, e2, x2, f2⟩ := c_stepS (d := d) (b := b) hX hE1 gx hxl ht hp hA (hm h0)
    have hE2 := hE1.ag f2.dpC
    obtain ⟨a3, e3, x3, f3⟩ := c_stepG (d := d) (b := b) (act := A t p) hX hE2 x2 hxl ht hp
    refine ⟨a3, _, _, _, ?_, (F1.trans f2.lg).trans (lgF.p64.trans f3.lg), x3, fun j hj => ?_, ?_, fun j hj => ?_, ?_, by rw [if_neg h0], fun j => ?_⟩
    · rw [if_neg h0, e2, e3]
    · rw [f3.1 64 rfl (by decide), uI_nj hj, f2.1 64 rfl (by decide), g64]
    · rw [f3.1 64 rfl (by decide), uI_self]
    · rw [f3.1 63 rfl (by decide), uI_ne (by decide), f2.1 63 rfl (by decide)]; exact g63 j hj
    · rw [f3.1 63 rfl (by decide), uI_ne (by decide), f2.1 63 rfl (by decide)]; exact uI_self
    · rw [f3.1 62 rfl (by decide), uI_ne (by decide), f2.1 62 rfl (by decide), g62]
/-- the LOG as a whole -/
def endL (Q : AQ) (B : Nat) (A : Nat → Nat → Nat) (p x N : Nat) : Nat := if (trL Q B A p x N).2.2.1 = 0 then 2 else (trL Q B A p x N).2.2.1
theorem endL_ne {Q : AQ} {B p x N : Nat} {A : Nat → Nat → Nat} : endL Q B A p x N ≠ 0 := by
  unfold endL
  split <;> omega
set_option maxHeartbeats 1000000 in
theorem c_playL {d N B TT p x : Nat} {n : Nat} {r : Nat → Nat → Option Nat} {Q : AQ} {A : Nat → Nat → Nat} {v2 : Int32} (hX : isTx TT) (hA8 : ∀ t p, (A t p < 8 ∧ A t p ≠ 4) ∧ (A t p ≠ 0 → mayP Q t p (A t p))) (hp : p < 4840) (hx : x < 65536) (k : Nat) : ∀ (t : Nat) (a : Nat → Nat → Int32) (b : Nat → Nat → Int64), t + k = N → EnvC n r a N B Q → RulC n r TT a A → a 16 1 = iN (trL Q B A p x t).2.1 → a 62 3 = iN (trL Q B A p x t).2.2.1 → a 62 2 = iN (trL Q B A p x t).2.2.2 → LgR Q B A p x t (a 64) (a 63) → ∃ a', Den (d+15) 24 31 [.ref 62,.ref TT,.int v2,.int (iN (trL Q B A p x t).2.2.2)] [] (zmMk n a b r) = some (none, zmMk n a' b r) ∧ lgF a a' ∧ a' 16 1 = iN (trL Q B A p x N).2.1 ∧ a' 62 3 = iN (endL Q B A p x N) ∧ a' 62 2 = iN (trL Q B A p x N).2.2.2 ∧ LgR Q B A p x N (a' 64) (a' 63) := by
  induction k with
  | zero =>
    intro t a b htk hE hRu hxa he hl hR
    have h8 := hE.n8
    obtain rfl : t = N := by omega
    obtain ⟨-, -, i3, i4, i5⟩ := trL_ok (Q := Q) (B := B) (A := A) hp hx t
    have hN : a 16 0 = iN t := hE.2.1
    have eh : Den (d+15) 24 31 [.ref 62,.ref TT,.int v2,.int (iN (trL Q B A p x t).2.2.2)] [] (zmMk n a b r) = Den (d+15) 24 72 [.ref 62,.ref TT,.int v2,.int (iN (trL Q B A p x t).2.2.2)] [] (zmMk n a b r) := by
      by_cases h0 : (trL Q B A p x t).2.2.1 = 0
      · have h1 := (i5 h0).1
        simp (disch := omega) only [b24_31 hX, hN, n_lt]
        rw [if_neg (by omega)]
      · simp (disch := omega) only [b24_31 hX, b24_42 hX, hN, he, n_lt, n_eq]
        rw [if_neg h0]
        split <;> rfl
    have et : Den (d+15) 24 72 [.ref 62,.ref TT,.int v2,.int (iN (trL Q B A p x t).2.2.2)] [] (zmMk n a b r) = some (none, zmMk n (uI a 62 3 (iN (endL Q B A p x t))) b r) := by
      simp (disch := omega) only [b24_72 hX, b24_80 hX, b24_84 hX, b24_88 hX, he, n_eq]
      unfold endL
      split <;> rfl
    refine ⟨_, eh.trans et, lgF.p62 (Or.inr rfl), ?_, uI_self, ?_, ?_⟩
    · rw [uI_ne (by decide)]; exact hxa
    · rw [uI_nj (by decide)]; exact hl
    · rw [uI_ne (by decide), uI_ne (by decide)]; exact hR
  | succ k ih =>
    intro t a b htk hE hRu hxa he hl hR
    have h8 := hE.n8
    obtain ⟨i1, i2, i3, i4, i5⟩ := trL_ok (Q := Q) (B := B) (A := A) hp hx t
    have hN : a 16 0 = iN N := hE.2.1
    by_cases h0 : (trL Q B A p x t).2.2.1 = 0
    · obtain ⟨h1, h1y⟩ := i5 h0
      have h64 : a 64 t = iN (trL Q B A p x t).1 := hR.1 t (by omega)
      obtain ⟨a1, q, y, z, e1, F1, x1, p1, p2, s1, s2, hqyz, h62⟩ := c_step (d := d) (b := b) hX hRu hA8 hE h64 hxa i2 (by omega) i1
      have hst : trL Q B A p x (t + 1) = ⟨q, y, z, t + 1⟩ := by
        by_cases hz : A t (trL Q B A p x t).1 = 0
        · rw [if_pos hz] at hqyz
          cases hqyz
          exact trL_0 h0 hz
        · rw [if_neg hz] at hqyz
          cases hqyz
          exact trL_1 h0 hz
      have hF2 : lgF a1 (uI (uI a1 62 3 (iN z)) 62 2 (iN (t + 1))) := (lgF.p62 (Or.inr rfl)).trans (lgF.p62 (Or.inl rfl))
      obtain ⟨a2, e2, F2, r1, r2, r3, r4⟩ := ih (t + 1) (uI (uI a1 62 3 (iN z)) 62 2 (iN (t + 1))) b (by omega) (hE.ag (F1.trans hF2).dp) (hRu.ag (F1.trans hF2).dp.toA) (by rw [hst, uI_ne (by decide), uI_ne (by decide)]; exact x1) (by rw [hst, uI_nj (by decide)]; exact uI_self) (by rw [hst]; exact uI_self) (by
        rw [uI_ne (by decide), uI_ne (by decide), uI_ne (by decide), uI_ne (by decide)]
        exact hR.s h0 h1 p1 (by rw [hst]; exact p2) s1 s2)
      rw [trL_l h0] at e2
      refine ⟨a2, ?_, (F1.trans hF2).trans F2, r1, r2, r3, r4⟩
      rw [h1]
      conv => lhs; rw [b24_31 hX]
      rw [hN, if_pos (by rw [n_lt (by omega) (by omega)]; omega), b24_42 hX, he, h0, if_pos rfl, b24_49 hX, e1]
      simp only [Option.bind_some, Option.toList_some, Option.toList_none, List.cons_append, List.nil_append, true_or, or_true, if_true, bI_if, b24_56 hX, n_add]
      exact e2
    · have hst := trL_e h0
      obtain ⟨a2, e2, F2, r1, r2, r3, r4⟩ := ih (t + 1) a b (by omega) hE hRu (by rw [hst]; exact hxa) (by rw [hst]; exact he) (by rw [hst]; exact hl) (hR.e h0)
      rw [hst] at e2
      exact ⟨a2, e2, F2, r1, r2, r3, r4⟩
theorem c_fall {d : Nat} {n : Nat} {a : Nat → Nat → Int32} {b : Nat → Nat → Int64} {r : Nat → Nat → Option Nat} : Den (d) 21 0 [.ref 62] [] (zmMk n a b r) = some (none, zmMk n (uI (uI a 62 2 (iN 0)) 62 3 (iN 0)) b r) := b21_0
/-- the class's play of a RULE -/
theorem c_play {d N B TT p x : Nat} {n : Nat} {a : Nat → Nat → Int32} {b : Nat → Nat → Int64} {r : Nat → Nat → Option Nat} {Q : AQ} {A : Nat → Nat → Nat} {vp : Int32} (ep : vp = iN p) (hX : isTx TT) (hRu : RulC n r TT a A) (hA8 : ∀ t p, (A t p < 8 ∧ A t p ≠ 4) ∧ (A t p ≠ 0 → mayP Q t p (A t p))) (hE : EnvC n r a N B Q) (hp : p < 4840) (hx : x < 65536) (hxa : a 16 1 = iN x) : ∃ a', Den (d+15) 24 0 [.ref 62, .ref TT, .int vp, zmJ] [] (zmMk n a b r) = some (none, zmMk n a' b r) ∧ lgF a a' ∧ a' 16 1 = iN (trL Q B A p x N).2.1 ∧ a' 62 3 = iN (endL Q B A p x N) ∧ a' 62 2 = iN (trL Q B A p x N).2.2.2 ∧ LgR Q B A p x N (a' 64) (a' 63) := by
  subst ep
  have hyl := pY_le hp
  have F1 : lgF a (uI (uI a 62 2 (iN 0)) 62 3 (iN 0)) := (lgF.p62 (Or.inl rfl)).trans (lgF.p62 (Or.inr rfl))
  have F2 := F1.trans (lgF.p64 (j := 0) (v := iN p))
  have F3 := F2.trans (lgF.p62 (i := 3) (v := iN (if pY p = 0 then 1 else 0)) (Or.inr rfl))
  obtain ⟨a2, e2, G, r1, r2, r3, r4⟩ := c_playL (d := d) (v2 := iN p) hX hA8 hp hx N 0 _ b (by omega) (hE.ag F3.dp) (hRu.ag F3.dp.toA) (by rw [uI_ne (by decide), uI_ne (by decide), uI_ne (by decide), uI_ne (by decide)]; exact hxa) uI_self (by rw [uI_nj (by decide), uI_ne (by decide), uI_nj (by decide)]; exact uI_self) ⟨fun j hj => by
      obtain rfl : j = 0 := by have : j ≤ 0 := hj; omega
      rw [uI_ne (by decide)]; exact uI_self, fun j hj => by have : j < 0 := hj; omega⟩
  refine ⟨a2, ?_, F3.trans G, r1, r2, r3, r4⟩
  have ef : Den (d+14) 21 0 [.ref 62] [] (zmMk n a b r) = _ := c_fall
  have ep : Den (d+14) 146 0 [.ref 64, .int (iN 0), .int (iN p)] [] (zmMk n (uI (uI a 62 2 (iN 0)) 62 3 (iN 0)) b r) = _ := c_puts (p := 0) (by omega)
  rw [← e2, b24_0 hX, ef]
  simp (disch := omega) only [Option.bind_some, Option.toList_none, List.nil_append, b24_4 hX, ep, b24_13 hX, c_yardsAt hp, Option.bind_some, Option.toList_some, Option.toList_none, List.cons_append, List.nil_append, true_or, or_true, if_true, bI_if, b24_18 hX, n_eq, b24_21 hX, b24_25 hX, b24_26 hX]
  show _ = Den (d+15) 24 31 [.ref 62,.ref TT,.int (iN p),.int (iN 0)] [] _
  split <;> rfl
