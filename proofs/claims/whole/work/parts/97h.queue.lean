/-! ===== THE QUEUE ===== -/
def bdS (c : Nat) : Nat := if c = 97 then 1 else if c = 99 then 2 else if c = 111 then 3 else if c = 112 then 4 else 0
def bdP (c : Nat) : Nat := if c = 97 then 44 else if c = 99 then 46 else if c = 111 then 48 else if c = 112 then 50 else 52
theorem bdP_tab : ∀ c < 256, zmLs 1 51 #[(97, 43), (99, 45), (111, 47), (112, 49)] (iN c) = bdP c := by decide +kernel
theorem bdS_le (c : Nat) : bdS c ≤ 4 := by
  unfold bdS
  repeat' split
  all_goals omega
theorem c_stepsOf {d c : Nat} {n : Nat} {a : Nat → Nat → Int32} {b : Nat → Nat → Int64} {r : Nat → Nat → Option Nat} (hc : c < 256) : Den (d) 55 0 [.int (iN c)] [] (zmMk n a b r) = some (some (.int (iN (bdS c))), (zmMk n a b r)) := by
  rw [b55_0, bdP_tab c hc]
  unfold bdP bdS
  by_cases h1 : c = 97
  · rw [if_pos h1, if_pos h1, b55_44]
  · rw [if_neg h1, if_neg h1]
    by_cases h2 : c = 99
    · rw [if_pos h2, if_pos h2, b55_46]
    · rw [if_neg h2, if_neg h2]
      by_cases h3 : c = 111
      · rw [if_pos h3, if_pos h3, b55_48]
      · rw [if_neg h3, if_neg h3]
        by_cases h4 : c = 112
        · rw [if_pos h4, if_pos h4, b55_50]
        · rw [if_neg h4, if_neg h4, b55_52]
theorem m_boardsFor {d c : Nat} {n : Nat} {a : Nat → Nat → Int32} {b : Nat → Nat → Int64} {r : Nat → Nat → Option Nat} (hc : c < 256) : Den (d) 163 0 [.int (i8V c)] [] (zmMk n a b r) = some (some (.int (if bdS c = 0 then -1 else iN (bdS c))), (zmMk n a b r)) := by
  have e : ∀ x, x < 128 → (i8V c = iN x) = (c = x) := fun x hx => propext ⟨fun e => ((byt_eq hx hc).mp e.symm).symm, fun e => ((byt_eq hx hc).mpr e.symm).symm⟩
  rw [b163_0]
  unfold bdS
  simp only [e 97 (by omega)]
  by_cases h1 : c = 97
  · rw [if_pos h1, if_pos h1, b163_6, b163_41, if_neg (by omega)]
  · rw [if_neg h1, if_neg h1, b163_10]
    simp only [e 99 (by omega)]
    by_cases h2 : c = 99
    · rw [if_pos h2, if_pos h2, b163_16, b163_41, if_neg (by omega)]
    · rw [if_neg h2, if_neg h2, b163_20]
      simp only [e 111 (by omega)]
      by_cases h3 : c = 111
      · rw [if_pos h3, if_pos h3, b163_26, b163_41, if_neg (by omega)]
      · rw [if_neg h3, if_neg h3, b163_30]
        simp only [e 112 (by omega)]
        by_cases h4 : c = 112
        · rw [if_pos h4, if_pos h4, b163_36, b163_41, if_neg (by omega)]
        · rw [if_neg h4, if_neg h4, b163_40, b163_41, if_pos rfl]
/-- STEPS that the first k people take -/
def onF (G : Nat → Nat) : Nat → Nat
  | 0 => 0
  | k + 1 => onF G k + bdS (G k)
theorem onF_le (G : Nat → Nat) (k : Nat) : onF G k ≤ 4 * k := by
  induction k with
  | zero => exact Nat.le_refl _
  | succ k ih =>
    have := bdS_le (G k)
    show onF G k + bdS (G k) ≤ _
    omega
def obF (G : Nat → Nat) : Nat → Nat := fun k => onF G (k + 1)
/-- the first that can't stand there -/
def qBad (G : Nat → Nat) (N : Nat) : Nat → Option Nat
  | 0 => none
  | k + 1 => if bdS (G (N - (k + 1))) = 0 then some (N - (k + 1)) else qBad G N k
theorem qBad_lt {G : Nat → Nat} {N j : Nat} (k : Nat) (hk : k ≤ N) (h : qBad G N k = some j) : j < N := by
  induction k with
  | zero => cases h
  | succ k ih =>
    unfold qBad at h
    by_cases hz : bdS (G (N - (k + 1))) = 0
    · rw [if_pos hz] at h; cases h; omega
    · rw [if_neg hz] at h; exact ih (by omega) h
theorem c_qL {d N : Nat} {n : Nat} {a : Nat → Nat → Int32} {b : Nat → Nat → Int64} {r : Nat → Nat → Option Nat} {G : Nat → Nat} (hN : N ≤ 16) (hx : ∀ j, j < N → G j < 256) (hb : ∀ j, j < N → a 15 j = iN (G j)) (k : Nat) : ∀ (i : Nat) (u5 : Value), i + k = N → (∀ j, qBad G N k = some j → Den (d+2) 53 5 [.ref 27,.ref 15,.int (iN N),.int (iN (onF G i)),.int (iN i),u5] [] (zmMk n a b r) = some (some (.int (fltI 1 j)), (zmMk n a b r))) ∧ (qBad G N k = none → ∃ u', Den (d+2) 53 5 [.ref 27,.ref 15,.int (iN N),.int (iN (onF G i)),.int (iN i),u5] [] (zmMk n a b r) = Den (d+2) 53 45 [.ref 27,.ref 15,.int (iN N),.int (iN (onF G N)),.int (iN N),u'] [] (zmMk n a b r)) := by
  induction k with
  | zero =>
    intro i u5 hi
    obtain rfl : i = N := by omega
    refine ⟨fun j h => (by cases h), fun _ => ⟨u5, ?_⟩⟩
    rw [b53_5, if_neg (lt_n (by omega) (by omega))]
  | succ k ih =>
    intro i u5 hi
    have ei : N - (k + 1) = i := by omega
    have hbd := bdS_le (G i)
    have hon := onF_le G i
    have e1 : Den (d+2) 53 5 [.ref 27,.ref 15,.int (iN N),.int (iN (onF G i)),.int (iN i),u5] [] (zmMk n a b r) = if iN (bdS (G i)) = iN 0 then Den (d+2) 53 27 [.ref 27,.ref 15,.int (iN N),.int (iN (onF G i)),.int (iN i),.int (iN (bdS (G i)))] [] (zmMk n a b r) else Den (d+2) 53 34 [.ref 27,.ref 15,.int (iN N),.int (iN (onF G i)),.int (iN i),.int (iN (bdS (G i)))] [] (zmMk n a b r) := by
      rw [b53_5, if_pos (lt_p (by omega) (by omega)), b53_11, c_item lay15 (show 15 ≠ 0 by omega) (show 15 < 147 by omega) (show 260 < 2147483648 by omega), itV_n (show i < 260 by omega) (show 260 < 2147483648 by omega), hb i (by omega)]
      simp only [Option.bind_some, Option.toList_some, Option.toList_none, List.cons_append, List.nil_append, true_or, or_true, if_true, bI_if]
      rw [b53_17, c_stepsOf (hx i (by omega))]
      simp only [Option.bind_some, Option.toList_some, Option.toList_none, List.cons_append, List.nil_append, true_or, or_true, if_true, bI_if]
      rw [b53_20]
    unfold qBad
    rw [e1, ei]
    by_cases hz : bdS (G i) = 0
    · rw [if_pos (show iN (bdS (G i)) = iN 0 by rw [hz]), if_pos hz]
      refine ⟨fun j h => ?_, fun h => by cases h⟩
      cases h
      rw [b53_27, c_flt]
      simp only [Option.bind_some, Option.toList_some, Option.toList_none, List.cons_append, List.nil_append, true_or, or_true, if_true, bI_if]
      rw [b53_33]
    · rw [if_neg (show ¬ iN (bdS (G i)) = iN 0 by rw [n_eq (by omega) (by omega)]; exact hz), if_neg hz, b53_34, n_add, n_add]
      exact ih (i + 1) _ (by omega)
theorem c_fill0 {d N : Nat} {n : Nat} {b : Nat → Nat → Int64} {r : Nat → Nat → Option Nat} (k : Nat) : ∀ (t : Nat) (a : Nat → Nat → Int32), t + k = 100 → (∀ s, s < t → a 28 s = iN 0) → ∃ a', Den d 54 2 [.ref 27,.ref 15,.int (iN N),.int (iN t),zmJ,zmJ] [] (zmMk n a b r) = Den d 54 24 [.ref 27,.ref 15,.int (iN N),.int (iN 100),zmJ,zmJ] [] (zmMk n a' b r) ∧ (∀ s, s < 100 → a' 28 s = iN 0) ∧ ∀ q, q ≠ 28 → a' q = a q := by
  induction k with
  | zero =>
    intro t a ht ha
    obtain rfl : t = 100 := by omega
    refine ⟨a, ?_, ha, fun _ _ => rfl⟩
    rw [b54_2, if_neg (lt_n (by omega) (by omega))]
  | succ k ih =>
    intro t a ht ha
    obtain ⟨a', e1, h1, o1⟩ := ih (t + 1) (uI a 28 t (iN 0)) (by omega) (fun s hs => by
      rw [uI_at]
      by_cases h : s = t
      · rw [if_pos ⟨rfl, h⟩]
      · rw [if_neg (fun z => h z.2)]
        exact ha s (by omega))
    have hin : zmIn (iN t) 100 = true := by rw [n_in (by omega)]; exact decide_eq_true (by omega)
    refine ⟨a', ?_, h1, fun q hq => by rw [o1 q hq, uI_ne hq]⟩
    rw [b54_2, if_pos (lt_p (by omega) (by omega)), b54_11, if_pos hin, n_nat (by omega), b54_18, n_add]
    exact e1
theorem c_fillI {d N i on : Nat} {n : Nat} {b : Nat → Nat → Int64} {r : Nat → Nat → Option Nat} {G : Nat → Nat} (hon : onF G (i + 1) = on) (h64 : on ≤ 64) (hi : i < 16) (k : Nat) : ∀ (t : Nat) (a : Nat → Nat → Int32), t + k = on → (∀ s, s < 100 → a 28 s = iN (if s < t then wtF (obF G) s (i + 1) else wtF (obF G) s i)) → ∃ a', Den d 54 50 [.ref 27,.ref 15,.int (iN N),.int (iN on),.int (iN i),.int (iN t)] [] (zmMk n a b r) = Den d 54 83 [.ref 27,.ref 15,.int (iN N),.int (iN on),.int (iN i),.int (iN on)] [] (zmMk n a' b r) ∧ (∀ s, s < 100 → a' 28 s = iN (wtF (obF G) s (i + 1))) ∧ ∀ q, q ≠ 28 → a' q = a q := by
  have hw : ∀ s, wtF (obF G) s (i + 1) = wtF (obF G) s i + (if s < on then 1 else 0) := fun s => by
    rw [← hon]
    rfl
  induction k with
  | zero =>
    intro t a ht ha
    obtain rfl : t = on := by omega
    refine ⟨a, ?_, fun s hs => ?_, fun _ _ => rfl⟩
    · rw [b54_50, if_neg (lt_n (by omega) (by omega))]
    · rw [ha s hs]
      by_cases h : s < t
      · rw [if_pos h]
      · rw [if_neg h, hw s, if_neg h]
        rfl
  | succ k ih =>
    intro t a ht ha
    have hin : zmIn (iN t) 100 = true := by rw [n_in (by omega)]; exact decide_eq_true (by omega)
    have hat : a 28 t = iN (wtF (obF G) t i) := by rw [ha t (by omega), if_neg (by omega)]
    obtain ⟨a', e1, h1, o1⟩ := ih (t + 1) (uI a 28 t (iN (wtF (obF G) t (i + 1)))) (by omega) (fun s hs => by
      rw [uI_at]
      by_cases h : s = t
      · rw [if_pos ⟨rfl, h⟩, h, if_pos (by omega)]
      · rw [if_neg (fun z => h z.2), ha s hs]
        by_cases h2 : s < t
        · rw [if_pos h2, if_pos (by omega)]
        · rw [if_neg h2, if_neg (by omega)])
    refine ⟨a', ?_, h1, fun q hq => by rw [o1 q hq, uI_ne hq]⟩
    rw [b54_50, if_pos (lt_p (by omega) (by omega)), b54_56, if_pos (lt_p (by omega) (by omega)), b54_66, if_pos hin, n_nat (by omega), hat, b54_74, if_pos hin, n_nat (by omega), n_add, b54_77, n_add]
    rw [hw t, if_pos (by omega)] at e1
    exact e1
theorem c_fillL {d N : Nat} {n : Nat} {b : Nat → Nat → Int64} {r : Nat → Nat → Option Nat} {G : Nat → Nat} (hN : N ≤ 16) (hx : ∀ j, j < N → G j < 256) (k : Nat) : ∀ (i : Nat) (u5 : Value) (a : Nat → Nat → Int32), i + k = N → (∀ j, j < N → a 15 j = iN (G j)) → (∀ s, s < 100 → a 28 s = iN (wtF (obF G) s i)) → ∃ a', Den (d+1) 54 29 [.ref 27,.ref 15,.int (iN N),.int (iN (onF G i)),.int (iN i),u5] [] (zmMk n a b r) = some (none, zmMk n a' b r) ∧ (∀ s, s < 100 → a' 28 s = iN (wtF (obF G) s N)) ∧ ∀ q, q ≠ 28 → a' q = a q := by
  induction k with
  | zero =>
    intro i u5 a hi hb ha
    obtain rfl : i = N := by omega
    refine ⟨a, ?_, ha, fun _ _ => rfl⟩
    rw [b54_29, if_neg (lt_n (by omega) (by omega)), b54_89]
  | succ k ih =>
    intro i u5 a hi hb ha
    have hbd := bdS_le (G i)
    have hon := onF_le G (i + 1)
    obtain ⟨a1, e1, h1, o1⟩ := c_fillI (d := d+1) (N := N) (i := i) (n := n) (b := b) (r := r) (G := G) rfl (by omega) (by omega) (onF G (i + 1)) 0 a (by omega) (fun s hs => by rw [if_neg (by omega)]; exact ha s hs)
    obtain ⟨a2, e2, h2, o2⟩ := ih (i + 1) (.int (iN (onF G (i + 1)))) a1 (by omega) (fun j hj => by rw [o1 15 (by omega)]; exact hb j hj) h1
    refine ⟨a2, ?_, h2, fun q hq => (o2 q hq).trans (o1 q hq)⟩
    rw [b54_29, if_pos (lt_p (by omega) (by omega)), b54_35, c_item lay15 (show 15 ≠ 0 by omega) (show 15 < 147 by omega) (show 260 < 2147483648 by omega), itV_n (show i < 260 by omega) (show 260 < 2147483648 by omega), hb i (by omega)]
    simp only [Option.bind_some, Option.toList_some, Option.toList_none, List.cons_append, List.nil_append, true_or, or_true, if_true, bI_if]
    rw [b54_42, c_stepsOf (hx i (by omega))]
    simp only [Option.bind_some, Option.toList_some, Option.toList_none, List.cons_append, List.nil_append, true_or, or_true, if_true, bI_if]
    rw [b54_45, n_add]
    have e1' : Den (d+1) 54 50 [.ref 27,.ref 15,.int (iN N),.int (iN (onF G i + bdS (G i))),.int (iN i),.int (iN 0)] [] (zmMk n a b r) = _ := e1
    rw [e1', b54_83, n_add]
    exact e2
theorem c_qRead {d N : Nat} {n : Nat} {a : Nat → Nat → Int32} {b : Nat → Nat → Int64} {r : Nat → Nat → Option Nat} {G : Nat → Nat} (hN : N ≤ 16) (hx : ∀ j, j < N → G j < 256) (hb : ∀ j, j < N → a 15 j = iN (G j)) : (∀ j, qBad G N N = some j → Den (d+3) 53 0 [.ref 27, .ref 15, .int (iN N), zmJ, zmJ, zmJ] [] (zmMk n a b r) = some (some (.int (fltI 1 j)), (zmMk n a b r))) ∧ (qBad G N N = none → ∃ a', Den (d+3) 53 0 [.ref 27, .ref 15, .int (iN N), zmJ, zmJ, zmJ] [] (zmMk n a b r) = some (some (.int (iN (onF G N))), zmMk n a' b r) ∧ a' 27 0 = iN N ∧ a' 27 1 = iN (onF G N) ∧ (∀ s, s < 100 → a' 28 s = iN (wtF (obF G) s N)) ∧ ∀ q, q ≠ 27 → q ≠ 28 → a' q = a q) := by
  obtain ⟨h1, h2⟩ := c_qL (d := d+1) (n := n) (b := b) (r := r) hN hx hb N 0 zmJ (by omega)
  constructor
  · intro j hj
    rw [b53_0]
    exact h1 j hj
  · intro hn
    obtain ⟨u', e1⟩ := h2 hn
    obtain ⟨a1, e2, w1, o1⟩ := c_fill0 (d := d+2) (N := N) (n := n) (b := b) (r := r) 100 0 (uI (uI a 27 0 (iN N)) 27 1 (iN (onF G N))) (by omega) (fun s hs => absurd hs (Nat.not_lt_zero s))
    obtain ⟨a2, e3, w2, o2⟩ := c_fillL (d := d+1) (n := n) (b := b) (r := r) hN hx N 0 zmJ a1 (by omega) (fun j hj => by rw [o1 15 (by omega), uI_ne (by omega), uI_ne (by omega)]; exact hb j hj) w1
    have e1' : Den (d+3) 53 5 [.ref 27,.ref 15,.int (iN N),.int (iN 0),.int (iN 0),zmJ] [] (zmMk n a b r) = _ := e1
    have e4 : Den (d+2) 54 0 [.ref 27, .ref 15, .int (iN N), zmJ, zmJ, zmJ] [] (zmMk n (uI (uI a 27 0 (iN N)) 27 1 (iN (onF G N))) b r) = some (none, zmMk n a2 b r) := by
      rw [b54_0, e2, b54_24]
      exact e3
    refine ⟨a2, ?_, ?_, ?_, w2, fun q q1 q2 => by rw [o2 q q2, o1 q q2, uI_ne q1, uI_ne q1]⟩
    · rw [b53_0, e1', b53_45, e4]
      simp only [Option.bind_some, Option.toList_some, Option.toList_none, List.cons_append, List.nil_append, true_or, or_true, if_true, bI_if]
      rw [b53_61]
    · rw [o2 27 (by omega), o1 27 (by omega), uI_nj (by omega), uI_self]
    · rw [o2 27 (by omega), o1 27 (by omega), uI_self]
theorem flt1 (j : Nat) : fltI 1 j = -1000 - iN j := by
  unfold fltI
  rw [show (-1000 : Int32) * iN 1 = -1000 by decide +kernel]
theorem m_qL {d N : Nat} {n : Nat} {b : Nat → Nat → Int64} {r : Nat → Nat → Option Nat} {G : Nat → Nat} (hN : N ≤ 16) (hx : ∀ j, j < N → G j < 256) (k : Nat) : ∀ (i : Nat) (u4 : Value) (a : Nat → Nat → Int32), i + k = N → (∀ j, j < N → a 95 j = i8V (G j)) → (∀ j, j < i → a 99 j = iN (obF G j)) → (∀ j, qBad G N k = some j → ∃ a', Den (d+1) 164 29 [.ref 94,.int (iN N),.int (iN (onF G i)),.int (iN i),u4] [] (zmMk n a b r) = some (some (.int (fltI 1 j)), zmMk n a' b r) ∧ ∀ q, q ≠ 99 → a' q = a q) ∧ (qBad G N k = none → ∃ u' a', Den (d+1) 164 29 [.ref 94,.int (iN N),.int (iN (onF G i)),.int (iN i),u4] [] (zmMk n a b r) = Den (d+1) 164 75 [.ref 94,.int (iN N),.int (iN (onF G N)),.int (iN N),u'] [] (zmMk n a' b r) ∧ (∀ j, j < N → a' 99 j = iN (obF G j)) ∧ ∀ q, q ≠ 99 → a' q = a q) := by
  induction k with
  | zero =>
    intro i u4 a hi hb hk
    obtain rfl : i = N := by omega
    refine ⟨fun j h => (by cases h), fun _ => ⟨u4, a, ?_, hk, fun _ _ => rfl⟩⟩
    rw [b164_29, if_neg (lt_n (by omega) (by omega))]
  | succ k ih =>
    intro i u4 a hi hb hk
    have ei : N - (k + 1) = i := by omega
    have hbd := bdS_le (G i)
    have hon := onF_le G i
    have hin : zmIn (iN i) 260 = true := by rw [n_in (by omega)]; exact decide_eq_true (by omega)
    have hin2 : zmIn (iN i) 16 = true := by rw [n_in (by omega)]; exact decide_eq_true (by omega)
    have hm1 : ∀ x, x ≤ 4 → ¬ iN x = -1 := fun x hx => by
      have : ∀ k < 5, ¬ iN k = -1 := by decide +kernel
      exact this x (by omega)
    have e1 : Den (d+1) 164 29 [.ref 94,.int (iN N),.int (iN (onF G i)),.int (iN i),u4] [] (zmMk n a b r) = if (if bdS (G i) = 0 then -1 else iN (bdS (G i))) = -1 then Den (d+1) 164 51 [.ref 94,.int (iN N),.int (iN (onF G i)),.int (iN i),.int (if bdS (G i) = 0 then -1 else iN (bdS (G i)))] [] (zmMk n a b r) else Den (d+1) 164 57 [.ref 94,.int (iN N),.int (iN (onF G i)),.int (iN i),.int (if bdS (G i) = 0 then -1 else iN (bdS (G i)))] [] (zmMk n a b r) := by
      rw [b164_29, if_pos (lt_p (by omega) (by omega)), b164_34, if_pos hin, n_nat (by omega), hb i (by omega), b164_40, m_boardsFor (hx i (by omega))]
      simp only [Option.bind_some, Option.toList_some, Option.toList_none, List.cons_append, List.nil_append, true_or, or_true, if_true, bI_if]
      rw [b164_43]
    unfold qBad
    rw [e1, ei]
    by_cases hz : bdS (G i) = 0
    · rw [if_pos hz, if_pos hz, if_pos rfl]
      refine ⟨fun j h => ?_, fun h => by cases h⟩
      cases h
      exact ⟨a, by rw [b164_51, flt1], fun _ _ => rfl⟩
    · rw [if_neg hz, if_neg hz, if_neg (hm1 _ hbd), b164_57, if_pos hin2, n_nat (by omega), n_add, b164_69, n_add]
      obtain ⟨h1, h2⟩ := ih (i + 1) (.int (iN (bdS (G i)))) (uI a 99 i (iN (onF G i + bdS (G i)))) (by omega) (fun j hj => by rw [uI_ne (by omega)]; exact hb j hj) (fun j hj => by
        rw [uI_at]
        by_cases h : j = i
        · rw [if_pos ⟨rfl, h⟩, h]
          rfl
        · rw [if_neg (fun z => h z.2)]
          exact hk j (by omega))
      refine ⟨fun j hj => ?_, fun hj => ?_⟩
      · obtain ⟨a', w1, w2⟩ := h1 j hj
        exact ⟨a', w1, fun q hq => by rw [w2 q hq, uI_ne hq]⟩
      · obtain ⟨u', a', w1, w2, w3⟩ := h2 hj
        exact ⟨u', a', w1, w2, fun q hq => by rw [w3 q hq, uI_ne hq]⟩
theorem m_qC {d N : Nat} {n : Nat} {b : Nat → Nat → Int64} {r : Nat → Nat → Option Nat} {G : Nat → Nat} {v2 : Int32} {u4 : Value} (hN : N ≤ 16) (k : Nat) : ∀ (i : Nat) (a : Nat → Nat → Int32), i + k = N → (∀ j, j < N → a 99 j = iN (G j)) → (∀ j, j < i → a 98 j = iN (G j)) → ∃ a', Den d 164 77 [.ref 94,.int (iN N),.int v2,.int (iN i),u4] [] (zmMk n a b r) = Den d 164 100 [.ref 94,.int (iN N),.int v2,.int (iN N),u4] [] (zmMk n a' b r) ∧ (∀ j, j < N → a' 98 j = iN (G j)) ∧ ∀ q, q ≠ 98 → a' q = a q := by
  induction k with
  | zero =>
    intro i a hi hb hk
    obtain rfl : i = N := by omega
    refine ⟨a, ?_, hk, fun _ _ => rfl⟩
    rw [b164_77, if_neg (lt_n (by omega) (by omega))]
  | succ k ih =>
    intro i a hi hb hk
    have hin2 : zmIn (iN i) 16 = true := by rw [n_in (by omega)]; exact decide_eq_true (by omega)
    obtain ⟨a', w1, w2, w3⟩ := ih (i + 1) (uI a 98 i (iN (G i))) (by omega) (fun j hj => by rw [uI_ne (by omega)]; exact hb j hj) (fun j hj => by
      rw [uI_at]
      by_cases h : j = i
      · rw [if_pos ⟨rfl, h⟩, h]
      · rw [if_neg (fun z => h z.2)]
        exact hk j (by omega))
    refine ⟨a', ?_, w2, fun q hq => by rw [w3 q hq, uI_ne hq]⟩
    rw [b164_77, if_pos (lt_p (by omega) (by omega)), b164_82, if_pos hin2, n_nat (by omega), hb i (by omega), b164_93, if_pos hin2, n_nat (by omega), b164_94, n_add]
    exact w1
theorem p_queue {d : Nat} {n : Nat} {a : Nat → Nat → Int32} {b : Nat → Nat → Int64} {r : Nat → Nat → Option Nat} {σ : SV} {cl cl' : List Cls} {R R' : Nat → List Cls} {TL TS A : Nat} {TR : Nat → Nat} (h : (St a b r σ cl cl' R R' TL TS TR A)) (hA : A < 90000) {v1 : Int32} : ∃ (v : Int32) (a1 : Nat → Nat → Int32) (b1 : Nat → Nat → Int64) (r1 : Nat → Nat → Option Nat) (a2 : Nat → Nat → Int32) (b2 : Nat → Nat → Int64), Den (d+60) 96 0 [.ref 14, .int v1, zmJ] [] (zmMk n a b r) = some (some (.int v), zmMk n a1 b1 r1) ∧ Den (d+60) 164 0 [.ref 94, .int v1, zmJ, zmJ, zmJ] [] (zmMk n a1 b1 r1) = some (some (.int v), zmMk n a2 b2 r1) ∧ InvS a2 b2 r1 (A + 1) := by
  have hT : TapC a (σ 0 2) (σ 10) := h.2.1.2.2.2.2.1
  have hU : TapM a (σ 0 2) (σ 10) := h.2.2.1.2.2.1
  have hs : σ 0 2 ≤ 260 ∧ ∀ j, j < σ 0 2 → σ 10 j < 256 := h.1.2.2.2.1
  by_cases g1 : inI v1 (iN 0) (iN 16) = true
  · obtain ⟨N, -, l8, rfl⟩ := inI_ex (by decide) (by decide) g1
    by_cases g2 : N ≤ σ 0 2
    · have q1 : (iN (σ 0 2) < iN N) = False := by rw [n_lt (by omega) (by omega)]; exact eq_false (by omega)
      obtain ⟨z1, z2⟩ := c_qRead (d := d+56) (n := n) (b := b) (r := r) (G := σ 10) l8 (fun j hj => hs.2 j (by omega)) (fun j hj => hT.2 j (by omega))
      have key : ∀ a1 : Nat → Nat → Int32, (∀ q, 94 ≤ q → a1 q = a q) → _ := fun a1 h1 => m_qL (d := d+59) (n := n) (b := b) (r := r) (G := σ 10) l8 (fun j hj => hs.2 j (by omega)) N 0 zmJ (uI a1 94 8 (iN 0)) (by omega) (fun j hj => by rw [uI_ne (by omega), h1 95 (by omega)]; exact hU.2 j (by omega)) (fun j hj => absurd hj (Nat.not_lt_zero j))
      have pre : ∀ a1 : Nat → Nat → Int32, (∀ q, 94 ≤ q → a1 q = a q) → Den (d+60) 164 0 [.ref 94, .int (iN N), zmJ, zmJ, zmJ] [] (zmMk n a1 b r) = Den (d+60) 164 29 [.ref 94,.int (iN N),.int (iN 0),.int (iN 0),zmJ] [] (zmMk n (uI a1 94 8 (iN 0)) b r) := fun a1 h1 => by
        have e8 : a1 94 8 = iN (σ 0 2) := by rw [h1 94 (by omega)]; exact hU.1
        simp only [b164_0, m_in, Option.bind_some, Option.toList_some, Option.toList_none, List.cons_append, List.nil_append, true_or, or_true, if_true, bI_if, b164_7, bI_if, g1, b164_10, e8, q1, b164_20, if_true, if_false, Bool.false_eq_true, true_and, and_true, false_and, and_false, true_or, or_true, false_or, or_false, and_self, or_self, decide_true, decide_false, Bool.not_true, Bool.not_false, Bool.and_true, Bool.and_false, Bool.true_and, Bool.false_and, ite_self]
      cases hz : qBad (σ 10) N N with
      | some j =>
        have hj := qBad_lt N (Nat.le_refl _) hz
        have e1 := z1 j hz
        have ea : ∀ q, q ≠ 14 → uI a 14 1 (iN 0) q = a q := fun q q1 => uI_ne q1
        obtain ⟨k1, -⟩ := key (uI a 14 1 (iN 0)) (fun q hq => ea q (by omega))
        obtain ⟨a2, e2, f2⟩ := k1 j hz
        have hlt : (fltI 1 j < iN 0) = True := eq_true (fltI_lt (by omega) (by omega) (by omega))
        refine ⟨fltI 1 j, uI a 14 1 (iN 0), b, r, a2, b, ?_, ?_, ?_⟩
        · simp only [b96_0, c_within, Option.bind_some, Option.toList_some, Option.toList_none, List.cons_append, List.nil_append, true_or, or_true, if_true, bI_if, b96_7, bI_if, g1, b96_10, hT.1, q1, b96_20, e1, b96_32, hlt, b96_46, if_true, if_false, Bool.false_eq_true, true_and, and_true, false_and, and_false, true_or, or_true, false_or, or_false, and_self, or_self, decide_true, decide_false, Bool.not_true, Bool.not_false, Bool.and_true, Bool.and_false, Bool.true_and, Bool.false_and, ite_self]
        · rw [pre (uI a 14 1 (iN 0)) (fun q hq => ea q (by omega))]
          exact e2
        · refine InvS.of (St.updT (a1 := uI a 14 1 (iN 0)) (b1 := b) (s := 0) (G := σ 10) h (by omega) (fun j hj => absurd hj (Nat.not_lt_zero j)) (fun k _ _ h1 _ h2 _ _ => ea k h1) ⟨ea 52 (by omega), ea 54 (by omega), ea 55 (by omega), ea 61 (by omega)⟩ (fun j hj => uI_nj hj) uI_self (fun j hj => absurd hj (Nat.not_lt_zero j)) h.2.1.2.2.2.2.2.2.2.2.2.1 (fun _ _ => rfl) (fun k hk => ea k (by omega)) (fun k hk => by rw [f2 k (by omega), uI_ne (by omega)]) (fun _ _ => rfl) (fun k hk => by rw [f2 k (by omega), uI_ne (by omega)]) (fun j hj => by rw [f2 94 (by omega), uI_nj (by omega)]) (by rw [f2 94 (by omega), uI_self]) (fun j hj => absurd hj (Nat.not_lt_zero j))) (Nat.le_succ _)
      | none =>
        obtain ⟨a1, e1, w0, w1, w28, f1⟩ := z2 hz
        have hon := onF_le (σ 10) N
        have ea : ∀ q, q ≠ 14 → q ≠ 27 → q ≠ 28 → q ≠ 29 → q ≠ 62 → fgA (uI a1 14 1 (iN 0)) q = a q := fun q q1 q2 q3 q5 q6 => by rw [fgA_ne q5 q6, uI_ne q1]; exact f1 q q2 q3
        obtain ⟨-, k2⟩ := key (fgA (uI a1 14 1 (iN 0))) (fun q hq => ea q (by omega) (by omega) (by omega) (by omega) (by omega))
        obtain ⟨u', a2, e2, v99, f2⟩ := k2 hz
        obtain ⟨a3, e3, v98, f3⟩ := m_qC (d := d+60) (n := n) (b := b) (r := r) (G := obF (σ 10)) (v2 := iN (onF (σ 10) N)) (u4 := u') l8 N 0 a2 (by omega) v99 (fun j hj => absurd hj (Nat.not_lt_zero j))
        have hlt : (iN (onF (σ 10) N) < iN 0) = False := eq_false (ng (by omega))
        have e2' : Den (d+60) 164 29 [.ref 94,.int (iN N),.int (iN 0),.int (iN 0),zmJ] [] (zmMk n (uI (fgA (uI a1 14 1 (iN 0))) 94 8 (iN 0)) b r) = _ := e2
        refine ⟨iN (onF (σ 10) N), fgA (uI a1 14 1 (iN 0)), b, r, uI (uI (uI a3 94 4 (iN N)) 94 3 (iN (onF (σ 10) N))) 94 74 (iN 0), b, ?_, ?_, ?_⟩
        · simp only [b96_0, c_within, Option.bind_some, Option.toList_some, Option.toList_none, List.cons_append, List.nil_append, true_or, or_true, if_true, bI_if, b96_7, bI_if, g1, b96_10, hT.1, q1, b96_20, e1, b96_32, hlt, b96_42, c_forget, b96_46, if_true, if_false, Bool.false_eq_true, true_and, and_true, false_and, and_false, true_or, or_true, false_or, or_false, and_self, or_self, decide_true, decide_false, Bool.not_true, Bool.not_false, Bool.and_true, Bool.and_false, Bool.true_and, Bool.false_and, ite_self]
        · rw [pre _ (fun q hq => ea q (by omega) (by omega) (by omega) (by omega) (by omega)), e2', b164_75, e3, b164_100]
        · obtain ⟨hB, hC, hM, hK⟩ := h
          obtain ⟨x1, x2, x3, x4, x5, x6, x7, x8, x9⟩ := hB
          obtain ⟨c1, c2, c3, c4, c5, c6, c7, c8, c9, c10, c11, c12⟩ := id hC
          have e29 : (uI a1 14 1 (iN 0)) 29 6 = iN A := by rw [uI_ne (by omega), f1 29 (by omega) (by omega)]; exact c8.2
          have hBn : StB (fgS (uN (uN (uRow (uN σ 0 2 0) 12 (obF (σ 10))) 0 4 N) 0 5 (onF (σ 10) N))) cl cl' R R' := ⟨x1, x2, x3, ⟨Nat.zero_le _, fun j hj => absurd hj (Nat.not_lt_zero j)⟩, x5, ⟨l8, by show onF (σ 10) N ≤ 64; omega, fun j hj => by
            have hj' : j < N := hj
            have := onF_le (σ 10) (j + 1)
            show onF (σ 10) (j + 1) ≤ 64
            omega⟩, x7.fall, x8, x9⟩
          have hCn : (StC (fgA (uI a1 14 1 (iN 0))) b r (fgS (uN (uN (uRow (uN σ 0 2 0) 12 (obF (σ 10))) 0 4 N) 0 5 (onF (σ 10) N))) cl R TL TS TR (A + 1) ∧ Cac ((fgS (uN (uN (uRow (uN σ 0 2 0) 12 (obF (σ 10))) 0 4 N) 0 5 (onF (σ 10) N))) 0 0) ((fgS (uN (uN (uRow (uN σ 0 2 0) 12 (obF (σ 10))) 0 4 N) 0 5 (onF (σ 10) N))) 0 5) (QS (fgS (uN (uN (uRow (uN σ 0 2 0) 12 (obF (σ 10))) 0 4 N) 0 5 (onF (σ 10) N))) cl) (A + 1) (fgA (uI a1 14 1 (iN 0))) b) := by
            refine ⟨hC.upd (fun q _ _ h1 h2 => ea q (by omega) (by omega) (by omega) (by omega) (by omega)) rfl rfl ?_ ?_ ?_ ?_ ?_ ?_ fgA_log, hK.forget (by omega) c8.2 (ea 52 (by omega) (by omega) (by omega) (by omega) (by omega)) (fgA_6 e29) (ea 54 (by omega) (by omega) (by omega) (by omega) (by omega)) (ea 55 (by omega) (by omega) (by omega) (by omega) (by omega))⟩
            · exact c3.ag (fun q h1 h2 => ea q (by omega) (by omega) (by omega) (by omega) (by omega))
            · refine ⟨?_, fun q => (c4.2 q).ag (fun k h1 h2 => ea k (by omega) (by omega) (by omega) (by omega) (by omega))⟩
              rw [fgA_ne (by omega) (by omega), uI_nj (by omega), f1 14 (by omega) (by omega)]
              exact c4.1
            · refine ⟨?_, fun j hj => absurd hj (Nat.not_lt_zero j)⟩
              rw [fgA_ne (by omega) (by omega), uI_self]
              rfl
            · rw [ea 24 (by omega) (by omega) (by omega) (by omega) (by omega), ea 25 (by omega) (by omega) (by omega) (by omega) (by omega)]
              exact c6
            · refine ⟨?_, ?_, fun s hs => ?_⟩
              · rw [fgA_ne (by omega) (by omega), uI_ne (by omega)]
                exact w0
              · rw [fgA_ne (by omega) (by omega), uI_ne (by omega)]
                exact w1
              · rw [fgA_ne (by omega) (by omega), uI_ne (by omega)]
                exact w28 s hs
            · exact ⟨by rw [fgA_5, uI_ne (by omega), f1 29 (by omega) (by omega)]; exact c8.1, fgA_6 e29⟩
          have hMh := hM.hi (a' := fgA (uI a1 14 1 (iN 0))) (fun q hq => ea q (by omega) (by omega) (by omega) (by omega) (by omega))
          obtain ⟨z1, z2, z3, z4, z5, z6, z7, z8⟩ := hMh
          have f4 : ∀ q, q ≠ 94 → q ≠ 98 → q ≠ 99 → uI (uI (uI a3 94 4 (iN N)) 94 3 (iN (onF (σ 10) N))) 94 74 (iN 0) q = fgA (uI a1 14 1 (iN 0)) q := fun q q1 q2 q3 => by rw [uI_ne q1, uI_ne q1, uI_ne q1, f3 q q2, f2 q q3, uI_ne q1]
          have f5 : ∀ j, j ≠ 3 → j ≠ 4 → j ≠ 8 → j ≠ 74 → uI (uI (uI a3 94 4 (iN N)) 94 3 (iN (onF (σ 10) N))) 94 74 (iN 0) 94 j = fgA (uI a1 14 1 (iN 0)) 94 j := fun j q1 q2 q3 q4 => by rw [uI_nj q4, uI_nj q1, uI_nj q2, f3 94 (by omega), f2 94 (by omega), uI_nj q3]
          have hMn : StM (uI (uI (uI a3 94 4 (iN N)) 94 3 (iN (onF (σ 10) N))) 94 74 (iN 0)) (fgS (uN (uN (uRow (uN σ 0 2 0) 12 (obF (σ 10))) 0 4 N) 0 5 (onF (σ 10) N))) cl' R' := by
            refine ⟨?_, ?_, ⟨?_, fun j hj => absurd hj (Nat.not_lt_zero j)⟩, ?_, ⟨?_, ?_, fun j hj => ?_⟩, LogM.fall uI_self, z7.ag (fun q h1 h2 => f4 q (by omega) (by omega) (by omega)), fun j hj => (z8 j hj).ag (fun q h1 h2 => f4 q (by omega) (by omega) (by omega))⟩
            · exact z1.ag (fun j hj => f5 j (by omega) (by omega) (by omega) (by omega)) (fun k hk => f4 k (by omega) (by omega) (by omega))
            · rw [f5 80 (by omega) (by omega) (by omega) (by omega)]
              exact ⟨z2.1, fun q => (z2.2 q).ag (fun j hj => f5 j (by omega) (by omega) (by omega) (by omega)) (fun k hk => f4 k (by omega) (by omega) (by omega))⟩
            · rw [uI_nj (by omega), uI_nj (by omega), uI_nj (by omega), f3 94 (by omega), f2 94 (by omega), uI_self]
              rfl
            · rw [f5 2 (by omega) (by omega) (by omega) (by omega), f4 96 (by omega) (by omega) (by omega)]
              exact z4
            · rw [uI_nj (by omega), uI_nj (by omega), uI_self]
              rfl
            · rw [uI_nj (by omega), uI_self]
              rfl
            · rw [uI_ne (by omega), uI_ne (by omega), uI_ne (by omega)]
              exact v98 j hj
          exact InvS.of (St.mkJ hBn hCn hMn (fun q hq => f4 q (by omega) (by omega) (by omega)) (fun _ _ => rfl)) (Nat.le_refl _)
    · have q1 : (iN (σ 0 2) < iN N) = True := by rw [n_lt (by omega) (by omega)]; exact eq_true (by omega)
      refine ⟨-1, a, b, r, a, b, ?_, ?_, InvS.of h (Nat.le_succ _)⟩
      · simp only [b96_0, c_within, Option.bind_some, Option.toList_some, Option.toList_none, List.cons_append, List.nil_append, true_or, or_true, if_true, bI_if, b96_7, bI_if, g1, b96_10, hT.1, q1, b96_18, if_true, if_false, Bool.false_eq_true, true_and, and_true, false_and, and_false, true_or, or_true, false_or, or_false, and_self, or_self, decide_true, decide_false, Bool.not_true, Bool.not_false, Bool.and_true, Bool.and_false, Bool.true_and, Bool.false_and, ite_self]
      · simp only [b164_0, m_in, Option.bind_some, Option.toList_some, Option.toList_none, List.cons_append, List.nil_append, true_or, or_true, if_true, bI_if, b164_7, bI_if, g1, b164_10, hU.1, q1, b164_18, if_true, if_false, Bool.false_eq_true, true_and, and_true, false_and, and_false, true_or, or_true, false_or, or_false, and_self, or_self, decide_true, decide_false, Bool.not_true, Bool.not_false, Bool.and_true, Bool.and_false, Bool.true_and, Bool.false_and, ite_self]
  · refine ⟨-1, a, b, r, a, b, ?_, ?_, InvS.of h (Nat.le_succ _)⟩
    · rw [Bool.not_eq_true] at g1
      simp only [b96_0, c_within, Option.bind_some, Option.toList_some, Option.toList_none, List.cons_append, List.nil_append, true_or, or_true, if_true, bI_if, b96_7, bI_if, g1, b96_18, if_true, if_false, Bool.false_eq_true, true_and, and_true, false_and, and_false, true_or, or_true, false_or, or_false, and_self, or_self, decide_true, decide_false, Bool.not_true, Bool.not_false, Bool.and_true, Bool.and_false, Bool.true_and, Bool.false_and, ite_self]
    · rw [Bool.not_eq_true] at g1
      simp only [b164_0, m_in, Option.bind_some, Option.toList_some, Option.toList_none, List.cons_append, List.nil_append, true_or, or_true, if_true, bI_if, b164_7, bI_if, g1, b164_18, if_true, if_false, Bool.false_eq_true, true_and, and_true, false_and, and_false, true_or, or_true, false_or, or_false, and_self, or_self, decide_true, decide_false, Bool.not_true, Bool.not_false, Bool.and_true, Bool.and_false, Bool.true_and, Bool.false_and, ite_self]
