/-! ===== the reference's parser: leaps land, a comparison ===== -/
/-- pieces with an and, parts with an or, each leap to the next one -/
def jm (w : Nat) : List Ops → Ops
  | [] => []
  | [o] => o
  | o :: p :: os => o ++ ((w, p.length) :: jm w (p :: os))
/-- pieces laid (last first), the last leap goes to t, the others to the next one -/
def MRh (f : Nat → Int32) (w cb : Nat) : List Ops → Nat → Prop
  | [], _ => True
  | o :: os, t => LayM f 0 (cb + lenS os) o ∧ f (cb + lenS os + o.length) = iN (mU w + t) ∧ MRh f w cb os (cb + lenS os + o.length)
theorem MRh.ag {f g : Nat → Int32} {w cb : Nat} {R : List Ops} : ∀ {t : Nat}, MRh f w cb R t → (∀ j, cb ≤ j → j < cb + lenS R → g j = f j) → MRh g w cb R t := by
  induction R with
  | nil => exact fun _ _ => trivial
  | cons o os ih =>
    intro t h hg
    rw [lenS_cons] at hg
    obtain ⟨h1, h2, h3⟩ := h
    exact ⟨h1.ag (fun j h5 h6 => hg j (by omega) (by omega)), by rw [hg _ (by omega) (by omega)]; exact h2, ih h3 (fun j h5 h6 => hg j h5 (by omega))⟩
theorem MR_jm {f : Nat → Int32} {w cb : Nat} (hw : w = 11 ∨ w = 12) {R : List Ops} : ∀ {x : Ops} {T : List Ops}, MRh f w cb R (cb + lenS R + x.length) → LayM f 0 (cb + lenS R) (jm w (x :: T)) → LayM f 0 cb (jm w (R.reverse ++ (x :: T))) ∧ (jm w (R.reverse ++ (x :: T))).length = lenS R + (jm w (x :: T)).length := by
  induction R with
  | nil =>
    intro x T h hl
    refine ⟨hl, ?_⟩
    show (jm w (x :: T)).length = 0 + (jm w (x :: T)).length
    omega
  | cons o R ih =>
    intro x T h hl
    rw [lenS_cons] at h hl
    obtain ⟨h1, h2, h3⟩ := h
    have ej : jm w (o :: x :: T) = o ++ ((w, x.length) :: jm w (x :: T)) := rfl
    have el : (jm w (o :: x :: T)).length = o.length + ((jm w (x :: T)).length + 1) := by
      rw [ej, List.length_append]
      rfl
    have hl2 : LayM f 0 (cb + lenS R) (jm w (o :: x :: T)) := by
      rw [ej, LayM.app]
      refine ⟨h1, ?_, ?_⟩
      · rw [h2]
        have : cdM 0 (cb + lenS R + o.length) w x.length = cb + lenS R + o.length + 1 + x.length := by
          unfold cdM
          rw [if_neg (by omega), if_pos hw]
          omega
        rw [this]
        congr 1
        unfold mU
        omega
      · rw [show cb + lenS R + o.length + 1 = cb + (o.length + 1 + lenS R) by omega]
        exact hl
    obtain ⟨i1, i2⟩ := ih (x := o) (T := x :: T) h3 hl2
    rw [List.reverse_cons, List.append_assoc]
    refine ⟨i1, ?_⟩
    show (jm w (R.reverse ++ (o :: x :: T))).length = _
    rw [i2, el, lenS_cons]
    omega
/-- pieces laid, the last leap is still open -/
def MP (f : Nat → Int32) (w cb : Nat) : List Ops → Prop
  | [] => True
  | o :: os => LayM f 0 (cb + lenS os) o ∧ f (cb + lenS os + o.length) = iN (mU w) ∧ MRh f w cb os (cb + lenS os + o.length)
theorem MP.ag {f g : Nat → Int32} {w cb : Nat} {R : List Ops} (h : MP f w cb R) (hg : ∀ j, cb ≤ j → j < cb + lenS R → g j = f j) : MP g w cb R := by
  cases R with
  | nil => exact trivial
  | cons o os =>
    rw [lenS_cons] at hg
    obtain ⟨h1, h2, h3⟩ := h
    exact ⟨h1.ag (fun j h5 h6 => hg j (by omega) (by omega)), by rw [hg _ (by omega) (by omega)]; exact h2, h3.ag (fun j h5 h6 => hg j h5 (by omega))⟩
def stk (w cb : Nat) : List Ops → List Nat
  | [] => []
  | o :: os => [mU w + (cb + lenS os + o.length)]
theorem stk_mm {w cb : Nat} {R : List Ops} (hw : w ≤ 12) (hb : cb + lenS R ≤ 260) : ∀ s, s ∈ stk w cb R → s < 100000000 := by
  intro s hs
  cases R with
  | nil => cases hs
  | cons o os =>
    rw [List.mem_singleton.mp hs]
    rw [lenS_cons] at hb
    unfold mU
    omega
theorem stk_le (w cb : Nat) (R : List Ops) : (stk w cb R).length ≤ 1 := by
  cases R with
  | nil => exact Nat.zero_le _
  | cons o os => exact Nat.le_refl _
theorem m_land1 {d n len p c o w h : Nat} {nx : Nat → Nat} {S : List Nat} {a : Nat → Nat → Int32} {b : Nat → Nat → Int64} {r : Nat → Nat → Option Nat} {all : Bool} {u2 : Value} (hM : MSt len nx p c ((mU w + h) :: S) o a) (hw : w = 11 ∨ (all = true ∧ w = 12)) (hl : S.length < 260) (hh : h < 260) (hf : a 100 h = iN (mU w)) : Den (d+1) 182 0 [.ref 94,.int (bI all),u2] [] (zmMk n a b r) = Den (d+1) 182 0 [.ref 94,.int (bI all),.int (iN h)] [] (zmMk n (uI (uI a 100 h (iN (mU w + c))) 94 19 (iN S.length)) b r) := by
  have hll : ((mU w + h) :: S).length = S.length + 1 := rfl
  have hw12 : w ≤ 12 := by rcases hw with h | ⟨-, h⟩ <;> omega
  have hdv : (mU w + h) / 1048576 = w := by unfold mU; omega
  have e1 : Den (d) 174 0 [.ref 94] [] (zmMk n a b r) = some (some (.int (iN w)), (zmMk n a b r)) := by
    have := m_top2 (d := d) (b := b) (r := r) (n := n) hM (by omega) (by unfold mU; omega)
    rw [hdv] at this
    exact this
  have hv : a 101 S.length = iN (mU w + h) := by
    have := hM.2.2.2.2.2.1.1
    rw [List.length_map] at this
    exact this
  have hto : Den (d+1) 182 0 [.ref 94,.int (bI all),u2] [] (zmMk n a b r) = Den (d+1) 182 22 [.ref 94,.int (bI all),u2] [] (zmMk n a b r) := by
    rw [b182_0, e1]
    simp only [Option.bind_some, Option.toList_some, Option.toList_none, List.cons_append, List.nil_append, true_or, or_true, if_true, bI_if]
    rw [b182_4]
    rcases hw with hw | ⟨h1, hw⟩
    · rw [if_pos (by rw [hw])]
    · rw [if_neg (eq_n (by omega) (by omega) (by omega)), b182_9, h1, if_neg (show ¬ bI true = iN 0 from eq_n (by omega) (by omega) (by omega)), b182_13, e1]
      simp only [Option.bind_some, Option.toList_some, Option.toList_none, List.cons_append, List.nil_append, true_or, or_true, if_true, bI_if]
      rw [b182_17, if_pos (by rw [hw])]
  have h19 : a 94 19 - iN 1 = iN S.length := by
    rw [hM.2.2.2.1, hll, n_sub (by omega)]
    congr 1
  have hmod : iN (mU w + h) - iN (mU w + h) / iN 1048576 * iN 1048576 = iN h := by
    rw [n_rem (by unfold mU; omega) (by omega)]
    congr 1
    unfold mU
    omega
  have hdiv : iN 1048576 * (iN (mU w) / iN 1048576) = iN (mU w) := by
    rw [n_div (by unfold mU; omega) (by omega), mU_div, n_mul]
    rfl
  have h19' : ∀ v, uI a 100 h v 94 19 - iN 1 = iN S.length := fun v => by rw [uI_ne (by omega)]; exact h19
  rw [hto, b182_22, h19, n_in (by omega), if_pos (decide_eq_true (by omega)), n_nat (by omega), hv, b182_33, hmod, n_in (by omega), if_pos (decide_eq_true hh), n_nat (by omega), hf, b182_50, n_in (by omega), if_pos (decide_eq_true hh), n_nat (by omega), hdiv, hM.2.2.1, n_add, b182_60, h19']
theorem m_land0 {d n len p c o s : Nat} {nx : Nat → Nat} {S : List Nat} {a : Nat → Nat → Int32} {b : Nat → Nat → Int64} {r : Nat → Nat → Option Nat} {all : Bool} {u2 : Value} (hM : MSt len nx p c (s :: S) o a) (hs : s < 100000000) (h11 : s / 1048576 ≠ 11) (h12 : all = true → s / 1048576 ≠ 12) (hl : S.length < 260) : Den (d+1) 182 0 [.ref 94,.int (bI all),u2] [] (zmMk n a b r) = some (none, (zmMk n a b r)) := by
  have hll : (s :: S).length = S.length + 1 := rfl
  have e1 : Den (d) 174 0 [.ref 94] [] (zmMk n a b r) = some (some (.int (iN (s / 1048576))), (zmMk n a b r)) := m_top2 hM (by omega) hs
  rw [b182_0, e1]
  simp only [Option.bind_some, Option.toList_some, Option.toList_none, List.cons_append, List.nil_append, true_or, or_true, if_true, bI_if]
  rw [b182_4, if_neg (eq_n h11 (by omega) (by omega)), b182_9]
  cases all with
  | false => rw [if_pos (show bI false = iN 0 from rfl), b182_73]
  | true =>
    rw [if_neg (show ¬ bI true = iN 0 from eq_n (by omega) (by omega) (by omega)), b182_13, e1]
    simp only [Option.bind_some, Option.toList_some, Option.toList_none, List.cons_append, List.nil_append, true_or, or_true, if_true, bI_if]
    rw [b182_17, if_neg (eq_n (h12 rfl) (by omega) (by omega)), b182_73]
theorem MSt.patch {len p c o h v : Nat} {nx : Nat → Nat} {S : List Nat} {s : Nat} {a : Nat → Nat → Int32} (hM : MSt len nx p c (s :: S) o a) : MSt len nx p c S o (uI (uI a 100 h (iN v)) 94 19 (iN S.length)) := by
  obtain ⟨h1, h2, h3, h4, h5, h6, h7⟩ := hM
  refine ⟨?_, ?_, ?_, uI_self, ?_, ?_, fun j hj => by rw [uI_ne (by omega), uI_ne (by omega)]; exact h7 j hj⟩
  · rw [uI_nj (by omega), uI_ne (by omega)]; exact h1
  · rw [uI_nj (by omega), uI_ne (by omega)]; exact h2
  · rw [uI_nj (by omega), uI_ne (by omega)]; exact h3
  · rw [uI_nj (by omega), uI_ne (by omega)]; exact h5
  · rw [uI_ne (by omega), uI_ne (by omega)]; exact h6.2
theorem m_landR {d n len p c o w cb : Nat} {nx : Nat → Nat} {S : List Nat} {a : Nat → Nat → Int32} {b : Nat → Nat → Int64} {r : Nat → Nat → Option Nat} {all : Bool} {u2 : Value} {R : List Ops} (hM : MSt len nx p c (stk w cb R ++ S) o a) (hw : w = 11 ∨ (all = true ∧ w = 12)) (hl : S.length < 260) (hcb : cb + lenS R ≤ 260) (hP : MP (a 100) w cb R) : ∃ a' u', Den (d+1) 182 0 [.ref 94,.int (bI all),u2] [] (zmMk n a b r) = Den (d+1) 182 0 [.ref 94,.int (bI all),u'] [] (zmMk n a' b r) ∧ MSt len nx p c S o a' ∧ MRh (a' 100) w cb R c ∧ (∀ j, j < cb ∨ cb + lenS R ≤ j → a' 100 j = a 100 j) ∧ frN a a' := by
  cases R with
  | nil => exact ⟨a, u2, rfl, hM, trivial, fun _ _ => rfl, frN.refl⟩
  | cons x R =>
    rw [lenS_cons] at hcb
    obtain ⟨h1, h2, h3⟩ := hP
    have hM' : MSt len nx p c ((mU w + (cb + lenS R + x.length)) :: S) o a := hM
    have h100 : ∀ j, uI (uI a 100 (cb + lenS R + x.length) (iN (mU w + c))) 94 19 (iN S.length) 100 j = if j = cb + lenS R + x.length then iN (mU w + c) else a 100 j := fun j => by
      rw [uI_ne (by omega)]
      by_cases hj : j = cb + lenS R + x.length
      · rw [if_pos hj, hj, uI_self]
      · rw [if_neg hj, uI_nj hj]
    refine ⟨_, _, m_land1 hM' hw hl (by omega) h2, hM'.patch, ⟨?_, ?_, ?_⟩, fun j hj => ?_, frN.p100.trans (frN.p94 (by omega))⟩
    · exact h1.ag (fun j _ hj => by rw [h100, if_neg (by omega)])
    · rw [h100, if_pos rfl]
    · exact h3.ag (fun j _ hj => by rw [h100, if_neg (by omega)])
    · rw [lenS_cons] at hj
      rw [h100, if_neg (by omega)]
/-- a leap: it waits, and is noted -/
theorem m_jumps {d n len p c o w : Nat} {nx : Nat → Nat} {S : List Nat} {a : Nat → Nat → Int32} {b : Nat → Nat → Int64} {r : Nat → Nat → Option Nat} (hM : MSt len nx p c S o a) (hw : w ≤ 12) (hl : S.length < 260) (hc : c < 260) : ∃ a', Den (d+1) 183 0 [.ref 94, .int (iN w)] [] (zmMk n a b r) = some (none, zmMk n a' b r) ∧ MSt len nx (p + 1) (c + 1) ((mU w + c) :: S) o a' ∧ a' 100 c = iN (mU w) ∧ (∀ j, j ≠ c → a' 100 j = a 100 j) ∧ frN a a' := by
  obtain ⟨h1, h2, h3, h4, h5, h6, h7⟩ := id hM
  have e19 : ∀ v, uI a 101 S.length v 94 19 = iN S.length := fun v => by rw [uI_ne (by omega)]; exact h4
  refine ⟨uI (uI (uI (uI (uI a 101 S.length (iN (mU w + c))) 94 19 (iN (S.length + 1))) 100 c (iN (mU w))) 94 18 (iN (c + 1))) 94 9 (iN (p + 1)), ?_, ⟨uI_self, ?_, ?_, ?_, ?_, ⟨?_, ?_⟩, fun j hj => ?_⟩, ?_, fun j hj => ?_, ?_⟩
  · rw [b183_0, h4, n_in (by omega), if_pos (decide_eq_true hl), n_nat (by omega), h3, n_mul, n_add, b183_18, e19, n_add, m_notes (c := c) (z := mU w) (by rw [uI_nj (by omega), uI_ne (by omega)]; exact h3) hc (by rw [n_mul, n_add]; rfl)]
    simp only [Option.bind_some, Option.toList_none, List.nil_append]
    have e9 : ∀ v x y z, uI (uI (uI (uI a 101 S.length v) 94 19 x) 100 c y) 94 18 z 94 9 = iN p := fun v x y z => by rw [uI_nj (by omega), uI_ne (by omega), uI_nj (by omega), uI_ne (by omega)]; exact h1
    rw [b183_34, e9, n_add]
    rfl
  · rw [uI_nj (by omega), uI_nj (by omega), uI_ne (by omega), uI_nj (by omega), uI_ne (by omega)]; exact h2
  · rw [uI_nj (by omega), uI_self]
  · rw [uI_nj (by omega), uI_nj (by omega), uI_ne (by omega), uI_self]; rfl
  · rw [uI_nj (by omega), uI_nj (by omega), uI_ne (by omega), uI_nj (by omega), uI_ne (by omega)]; exact h5
  · rw [List.length_map, uI_ne (by omega), uI_ne (by omega), uI_ne (by omega), uI_ne (by omega), uI_self]
  · exact h6.ag (fun j hj => by
      rw [List.length_map] at hj
      rw [uI_ne (by omega), uI_ne (by omega), uI_ne (by omega), uI_ne (by omega), uI_nj (by omega)])
  · rw [uI_ne (by omega), uI_ne (by omega), uI_ne (by omega), uI_ne (by omega), uI_ne (by omega)]; exact h7 j hj
  · rw [uI_ne (by omega), uI_ne (by omega), uI_self]
  · rw [uI_ne (by omega), uI_ne (by omega), uI_nj hj, uI_ne (by omega), uI_ne (by omega)]
  · exact (((frN.p101.trans (frN.p94 (by omega))).trans frN.p100).trans (frN.p94 (by omega))).trans (frN.p94 (by omega))
/-- what goes on behind the end of a piece -/
def GOk (n D : Nat) (r : Nat → Nat → Option Nat) (κ : Option Value × zmH → Option (Option Value × zmH)) : Prop := ∀ a b, κ (none, (zmMk n a b r)) = Den D 185 92 [.ref 94] [] (zmMk n a b r)
/-- a piece read: the ones that are not ( ! end with it -/
def PceM (n D len : Nat) (nx : Nat → Nat) (b : Nat → Nat → Int64) (r : Nat → Nat → Option Nat) (a : Nat → Nat → Int32) (c : Nat) (S : List Nat) (o : Nat) (z : PR) (X : Option (Option Value × zmH)) : Prop := match z with
  | .inl e => ∃ a', X = some (some (.int (iN 0)), zmMk n a' b r) ∧ BdM e a a'
  | .inr (q, os) => ∃ a' κ e, GOk n D r κ ∧ X = (Den (e+1) 181 0 [.ref 94] [] (zmMk n a' b r)).bind κ ∧ OkM len nx a a' c q S o os
theorem cmV {c : Nat} (hc : cmO c ≠ 0) : (c = 60 ∧ cmO c = 7) ∨ (c = 62 ∧ cmO c = 8) ∨ (c = 61 ∧ cmO c = 9) := by
  unfold cmO at hc ⊢
  by_cases h1 : c = 60
  · subst h1; exact Or.inl ⟨rfl, rfl⟩
  · by_cases h2 : c = 62
    · subst h2; exact Or.inr (Or.inl ⟨rfl, rfl⟩)
    · by_cases h3 : c = 61
      · subst h3; exact Or.inr (Or.inr ⟨rfl, rfl⟩)
      · rw [if_neg h1, if_neg h2, if_neg h3] at hc
        exact absurd rfl hc
set_option maxHeartbeats 1000000 in
theorem m_cmp {d n len m p c : Nat} {nx : Nat → Nat} {r : Nat → Nat → Option Nat} {a : Nat → Nat → Int32} {b : Nat → Nat → Int64} {S : List Nat} (hH : PrM len nx) (hm : m ≤ 6) (h : MSt len nx p c S (6 - m) a) (hst : stopA true S) (hp : p ≤ len) (hl : S.length ≤ p) (hb : ∀ s, s ∈ S → s < 100000000) (hc : c + (len - p) ≤ 250) : PceM n (d+6) len nx b r a c S (6 - m) (pCmp nx (pSum nx len m) p) (Den (d+6) 185 83 [.ref 94] [] (zmMk n a b r)) := by
  have hlen := hH.1
  have hS := m_sum (d := d) (n := n) (b := b) (r := r) hH hm h hst hp hl hb hc
  have hg := gd_sum hH.2.1 m p hp
  unfold pCmp
  rw [b185_83, b184_0]
  have hfail : ∀ a', ((some (some (.int (iN 0)), zmMk n a' b r) : Option (Option Value × zmH)).bind fun q => Den (d+6) 185 87 [.ref 94] (q.1.toList ++ []) q.2) = some (some (.int (iN 0)), zmMk n a' b r) := fun a' => by
    simp only [Option.bind_some, Option.toList_some, Option.toList_none, List.cons_append, List.nil_append, true_or, or_true, if_true, bI_if]
    rw [b185_87, if_pos rfl, b185_90]
  cases hz : pSum nx len m p with
  | inl e =>
    rw [hz] at hS
    obtain ⟨a1, e1, bad⟩ := hS
    rw [e1]
    simp only [Option.bind_some, Option.toList_some, Option.toList_none, List.cons_append, List.nil_append, true_or, or_true, if_true, bI_if]
    rw [b184_4, if_pos rfl, b184_7]
    exact ⟨a1, hfail a1, bad⟩
  | inr e =>
    obtain ⟨q, o1⟩ := e
    rw [hz] at hS hg
    obtain ⟨a1, e1, ok1⟩ := hS
    obtain ⟨g1, g2, g3, g4⟩ := hg
    have e2 : ∀ e, Den e 167 0 [.ref 94] [] (zmMk n a1 b r) = some (some (.int (nxV (nx q))), zmMk n a1 b r) := fun e => m_lookS hH ok1.1 g2
    rw [e1]
    simp only [Option.bind_some, Option.toList_some, Option.toList_none, List.cons_append, List.nil_append, true_or, or_true, if_true, bI_if]
    rw [b184_4, if_neg (eq_n (by omega) (by omega) (by omega)), b184_9, e2]
    simp only [Option.bind_some, Option.toList_some, Option.toList_none, List.cons_append, List.nil_append, true_or, or_true, if_true, bI_if]
    have h52 : Den (d+5) 184 13 [.ref 94,zmJ] [.int (nxV (nx q))] (zmMk n a1 b r) = Den (d+5) 184 52 [.ref 94,zmJ] [.int (if cmO (nx q) = 0 then -1 else iN (cmO (nx q)))] (zmMk n a1 b r) := by
      rw [b184_13]
      by_cases h60 : nx q = 60
      · rw [if_pos (nxV_y h60 (by omega)), b184_18, h60]; rfl
      · rw [if_neg (nxV_n h60 (by omega)), b184_23, e2]
        simp only [Option.bind_some, Option.toList_some, Option.toList_none, List.cons_append, List.nil_append, true_or, or_true, if_true, bI_if]
        rw [b184_27]
        by_cases h62 : nx q = 62
        · rw [if_pos (nxV_y h62 (by omega)), b184_32, h62]; rfl
        · rw [if_neg (nxV_n h62 (by omega)), b184_37, e2]
          simp only [Option.bind_some, Option.toList_some, Option.toList_none, List.cons_append, List.nil_append, true_or, or_true, if_true, bI_if]
          rw [b184_41]
          by_cases h61 : nx q = 61
          · rw [if_pos (nxV_y h61 (by omega)), b184_46, h61]; rfl
          · have hc0 : cmO (nx q) = 0 := by
              unfold cmO
              rw [if_neg h60, if_neg h62, if_neg h61]
            rw [if_neg (nxV_n h61 (by omega)), b184_51, if_pos hc0]
    rw [h52, b184_52]
    by_cases hcm : cmO (nx q) = 0
    · have ev : (if cmO (nx q) = 0 then (-1 : Int32) else iN (cmO (nx q))) = -1 := if_pos hcm
      rw [ev, if_pos rfl, b184_58, ok1.1.1, m_wrong, if_pos hcm]
      simp only [Option.bind_some, Option.toList_some, Option.toList_none, List.cons_append, List.nil_append, true_or, or_true, if_true, bI_if]
      rw [b184_67, if_pos (Or.inl rfl)]
      exact ⟨_, hfail _, ok1.bad BdM.w⟩
    · obtain ⟨r1, r2, r3⟩ := cmO_r hcm
      have hq1 := nx_le hH.2.1 (p := q) (by omega)
      have ok2 := ok1.trans (OkM.at (q := q + 1) ok1.1)
      rw [List.append_nil] at ok2
      have hS2 := m_sum (d := d) (n := n) (b := b) (r := r) hH hm ok2.1 hst hq1 (by omega) hb (by omega)
      have hg2 := gd_sum hH.2.1 m (q + 1) hq1
      have ev : (if cmO (nx q) = 0 then (-1 : Int32) else iN (cmO (nx q))) = iN (cmO (nx q)) := if_neg hcm
      rw [ev, if_neg (m1_sym (by omega)), b184_68, ok1.1.1, n_add, if_neg hcm]
      cases hy : pSum nx len m (q + 1) with
      | inl e =>
        rw [hy] at hS2
        obtain ⟨a2, e3, bad⟩ := hS2
        rw [e3]
        simp only [Option.bind_some, Option.toList_some, Option.toList_none, List.cons_append, List.nil_append, true_or, or_true, if_true, bI_if]
        rw [b184_82, if_pos rfl, b184_85]
        exact ⟨a2, hfail a2, ok2.bad bad⟩
      | inr e =>
        obtain ⟨q2, o2⟩ := e
        rw [hy] at hS2 hg2
        obtain ⟨a2, e3, ok3⟩ := hS2
        obtain ⟨t1, t2, t3, t4⟩ := hg2
        have ok4 := ok2.trans ok3
        have hl12 : (o1 ++ o2).length = o1.length + o2.length := List.length_append
        have ok5 := ok4.trans (OkM.note (k := cmO (nx q)) (v := 0) ok4.1 (by omega) (Or.inr rfl))
        rw [List.append_assoc] at ok5
        rw [e3]
        simp only [Option.bind_some, Option.toList_some, Option.toList_none, List.cons_append, List.nil_append, true_or, or_true, if_true, bI_if]
        rw [b184_82, if_neg (eq_n (by omega) (by omega) (by omega)), b184_87, m_notes ok4.1.2.2.1 (by omega) (show iN 1048576 * iN (cmO (nx q)) + iN 0 = iN (1048576 * cmO (nx q) + 0) by rw [n_mul, n_add])]
        simp only [Option.bind_some, Option.toList_none, List.nil_append]
        rw [b184_93]
        refine ⟨_, fun y => (Den (d+5) 184 97 [.ref 94,.int (iN (cmO (nx q)))] (y.1.toList ++ []) y.2).bind fun q => Den (d+6) 185 87 [.ref 94] (q.1.toList ++ []) q.2, d+3, fun a b => ?_, ?_, ok5⟩
        · simp only [Option.toList_none, List.nil_append]
          rw [b184_97]
          simp only [Option.bind_some, Option.toList_some, Option.toList_none, List.cons_append, List.nil_append, true_or, or_true, if_true, bI_if]
          rw [b185_87, if_neg (eq_n (by omega) (by omega) (by omega))]
        · exact Option.bind_assoc ..
