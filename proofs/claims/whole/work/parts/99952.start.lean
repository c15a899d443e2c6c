/-! ===== the start: the picture behind both constructors; the whole run ===== -/
theorem rt_len : (zmRefT.all fun l => l.all fun r => Nat.ble r.length 160) = true := by decide +kernel
set_option maxRecDepth 16384 in
theorem rt_tab : ∀ k, k < 160 → ∀ j, j < 160 → (match zmRt k j with | none => true | some v => decide (iR_law (fun _ _ => none) k j = some v)) = true := by decide +kernel
theorem rt_b {k j v : Nat} (h : zmRt k j = some v) : k < 160 ∧ j < 160 := by
  have hl := zmAt_all (fun r : List (Option Nat) => Nat.ble r.length 160) [] zmRefT rfl rt_len k
  have hj : j < 160 := by
    apply Nat.lt_of_not_le
    intro hj
    unfold zmRt at h
    rw [List.getD_eq_getElem?_getD, List.getElem?_eq_none (Nat.le_trans (Nat.ble_eq.mp hl) hj)] at h
    cases h
  refine ⟨Nat.lt_of_not_le fun hk => ?_, hj⟩
  have e : zmRefT.getD (k / 16) [] = [] := by
    rw [List.getD_eq_getElem?_getD, List.getElem?_eq_none (by show 10 ≤ k / 16; omega)]
    rfl
  unfold zmRt zmAt at h
  rw [e] at h
  have h : (none : Option Nat) = some v := h
  cases h
set_option maxRecDepth 16384 in
theorem st_R : zmR0 (iR_law fun _ _ => none) = iR_law fun _ _ => none := by
  funext k j
  unfold zmR0
  cases h : zmRt k j with
  | none => rfl
  | some v =>
    obtain ⟨h1, h2⟩ := rt_b h
    have ht := rt_tab k h1 j h2
    rw [h] at ht
    exact (of_decide_eq_true ht).symm
def sgZ : SV := fun g i => cond (Nat.beq g 0) (cond (Nat.beq i 0) 6 (cond (Nat.beq i 1) 1 0)) 0
set_option maxRecDepth 16384 in
theorem st_B : StB sgZ [] [] (fun _ => []) (fun _ => []) := by
  refine ⟨⟨⟨by decide, by decide⟩, by decide, fun i _ => ⟨Nat.zero_le _, fun h => absurd rfl h⟩, fun i _ => ⟨Nat.zero_le _, Nat.zero_le _, by show 0 < 16777216; omega, Nat.zero_le _, Nat.zero_le _⟩, by decide, Nat.le_refl _, Nat.le_refl _⟩, fun h => absurd h (by decide), Nat.zero_le _, ⟨Nat.zero_le _, fun j h => absurd h (Nat.not_lt_zero _)⟩, ⟨Nat.zero_le _, fun j h => absurd h (Nat.not_lt_zero _)⟩, ⟨Nat.zero_le _, Nat.zero_le _, fun j h => absurd h (Nat.not_lt_zero _)⟩, ⟨Nat.zero_le _, Nat.zero_le _, fun _ => rfl, fun j _ => by show 0 < 4840; omega, fun j h => absurd h (Nat.not_lt_zero _)⟩, trivial, fun k _ => ⟨trivial, fun c hc => by cases hc⟩⟩
section ST
variable {a : Nat → Nat → Int32}
set_option maxRecDepth 16384 in
theorem sz_1 (j : Nat) : iA_law a 1 j = a 1 j := rfl
set_option maxRecDepth 16384 in
theorem sz_10 (j : Nat) : iA_law a 10 j = a 10 j := rfl
set_option maxRecDepth 16384 in
theorem sz_11 (j : Nat) : iA_law a 11 j = a 11 j := rfl
set_option maxRecDepth 16384 in
theorem sz_12 (j : Nat) : iA_law a 12 j = a 12 j := rfl
set_option maxRecDepth 16384 in
theorem sz_13 (j : Nat) : iA_law a 13 j = a 13 j := rfl
set_option maxRecDepth 16384 in
theorem sz_17 (j : Nat) : iA_law a 17 j = 0 := rfl
set_option maxRecDepth 16384 in
theorem sz_18 (j : Nat) : iA_law a 18 j = 0 := rfl
set_option maxRecDepth 16384 in
theorem sz_19 (j : Nat) : iA_law a 19 j = 0 := rfl
set_option maxRecDepth 16384 in
theorem sz_25 (j : Nat) : iA_law a 25 j = 0 := rfl
set_option maxRecDepth 16384 in
theorem sz_28 (j : Nat) : iA_law a 28 j = 0 := rfl
set_option maxRecDepth 16384 in
theorem sz_54 (j : Nat) : iA_law a 54 j = 0 := rfl
set_option maxRecDepth 16384 in
theorem sz_107 (j : Nat) : iA_law a 107 j = 0 := rfl
set_option maxRecDepth 16384 in
theorem sz_136 (j : Nat) : iA_law a 136 j = 0 := rfl
set_option maxRecDepth 16384 in
theorem s16_0 : iA_law a 16 0 = iN 6 := rfl
set_option maxRecDepth 16384 in
theorem s16_1 : iA_law a 16 1 = iN 1 := rfl
set_option maxRecDepth 16384 in
theorem s14_1 : iA_law a 14 1 = iN 0 := rfl
set_option maxRecDepth 16384 in
theorem s14_4 : iA_law a 14 4 = iN 0 := rfl
set_option maxRecDepth 16384 in
theorem s24_0 : iA_law a 24 0 = iN 0 := rfl
set_option maxRecDepth 16384 in
theorem s27_0 : iA_law a 27 0 = iN 0 := rfl
set_option maxRecDepth 16384 in
theorem s27_1 : iA_law a 27 1 = iN 0 := rfl
set_option maxRecDepth 16384 in
theorem s29_5 : iA_law a 29 5 = iN 0 := rfl
set_option maxRecDepth 16384 in
theorem s29_6 : iA_law a 29 6 = iN 0 := rfl
set_option maxRecDepth 16384 in
theorem s62_2 : iA_law a 62 2 = iN 0 := rfl
set_option maxRecDepth 16384 in
theorem s62_3 : iA_law a 62 3 = iN 0 := rfl
set_option maxRecDepth 16384 in
theorem s52_3 : iA_law a 52 3 = iN 0 := rfl
set_option maxRecDepth 16384 in
theorem s31_0 : iA_law a 31 0 = iN 0 := rfl
set_option maxRecDepth 16384 in
theorem s70_0 : iA_law a 70 0 = iN 0 := rfl
set_option maxRecDepth 16384 in
theorem s76_0 : iA_law a 76 0 = iN 0 := rfl
set_option maxRecDepth 16384 in
theorem s82_0 : iA_law a 82 0 = iN 0 := rfl
set_option maxRecDepth 16384 in
theorem s88_0 : iA_law a 88 0 = iN 0 := rfl
set_option maxRecDepth 16384 in
theorem s55_8 : iA_law a 55 8 = -1 := rfl
set_option maxRecDepth 16384 in
theorem s94_0 : iA_law a 94 0 = iN 6 := rfl
set_option maxRecDepth 16384 in
theorem s94_1 : iA_law a 94 1 = iN 1 := rfl
set_option maxRecDepth 16384 in
theorem s94_2 : iA_law a 94 2 = iN 0 := rfl
set_option maxRecDepth 16384 in
theorem s94_3 : iA_law a 94 3 = iN 0 := rfl
set_option maxRecDepth 16384 in
theorem s94_4 : iA_law a 94 4 = iN 0 := rfl
set_option maxRecDepth 16384 in
theorem s94_8 : iA_law a 94 8 = iN 0 := rfl
set_option maxRecDepth 16384 in
theorem s94_64 : iA_law a 94 64 = iN 0 := rfl
set_option maxRecDepth 16384 in
theorem s94_65 : iA_law a 94 65 = iN 0 := rfl
set_option maxRecDepth 16384 in
theorem s94_74 : iA_law a 94 74 = iN 0 := rfl
set_option maxRecDepth 16384 in
theorem s94_80 : iA_law a 94 80 = iN 0 := rfl
set_option maxRecDepth 16384 in
theorem st_M : StM (iA_law a) sgZ [] (fun _ => []) := by
  refine ⟨⟨s94_0, s94_1, ⟨0, by omega, s94_64, fun i _ => Nat.zero_testBit i⟩, ⟨0, by omega, s94_65, fun i _ => Nat.zero_testBit i⟩, fun i _ h => absurd h (by show ¬ (0 : Nat) = 1; omega), fun i _ h => absurd rfl h, fun j _ => sz_136 j⟩, ⟨s94_80, fun h => absurd h (by decide)⟩, ⟨s94_8, fun j h => absurd h (Nat.not_lt_zero _)⟩, ⟨s94_2, fun j h => absurd h (Nat.not_lt_zero _)⟩, ⟨s94_4, s94_3, fun j h => absurd h (Nat.not_lt_zero _)⟩, ⟨s94_74, fun h => absurd rfl h⟩, ⟨sz_107 0, Nat.zero_le _, fun i c h => by cases h⟩, fun k _ => ⟨sz_107 (k + 1), Nat.zero_le _, fun i c h => by cases h⟩⟩
set_option maxRecDepth 16384 in
theorem st_K {N B : Nat} {Q : AQ} {b : Nat → Nat → Int64} : Cac N B Q 0 (iA_law a) b := by
  refine ⟨⟨s52_3, 0, s29_6, Nat.zero_le _, fun t p _ _ => ⟨0, 0, by omega, by omega, sz_54 _, fun k _ h => absurd h (by omega)⟩⟩, fun h h1 _ e => ?_, fun e => ?_⟩
  · rw [s55_8] at e
    have e := congrArg Int32.toInt e
    rw [n_toI (by omega)] at e
    have e2 : (-1 : Int32).toInt = -1 := by decide
    omega
  · rw [s55_8] at e
    exact absurd e (by decide +kernel)
end ST
def trI (k : Nat) : Nat := cond (Nat.beq k 0) 70 (cond (Nat.beq k 1) 76 (cond (Nat.beq k 2) 82 88))
set_option maxRecDepth 16384 in
theorem st_T : TxS (iR_law fun _ _ => none) 31 38 trI := by
  refine ⟨Or.inl rfl, Or.inr (Or.inl rfl), fun k hk => ?_, by decide, fun k hk => ?_, fun k j hk hj h => ?_, by decide +kernel, by decide +kernel, fun k hk => ?_⟩
  · match k, hk with
    | 0, _ => exact Or.inr (Or.inr (Or.inl rfl))
    | 1, _ => exact Or.inr (Or.inr (Or.inr (Or.inl rfl)))
    | 2, _ => exact Or.inr (Or.inr (Or.inr (Or.inr (Or.inl rfl))))
    | 3, _ => exact Or.inr (Or.inr (Or.inr (Or.inr (Or.inr rfl))))
    | k + 4, hk => omega
  · exact (by decide : ∀ k, k < 4 → trI k ≠ 31 ∧ trI k ≠ 38) k hk
  · exact (by decide : ∀ k, k < 4 → ∀ j, j < 4 → k ≠ j → trI k ≠ trI j) k hk j hj h
  · exact (by decide +kernel : ∀ k, k < 4 → iR_law (fun _ _ => none) 37 k = some (trI k)) k hk
set_option maxRecDepth 16384 in
theorem st_Tab : TabC (iB_law snOL) := by
  refine ⟨fun j hj => ?_, fun j hj => ?_⟩
  · show snHun.getD j 0 = hun j
    exact (by decide +kernel : ∀ j, j < 9 → snHun.getD j 0 = hun j) j hj
  · show snTen.getD j 0 = ten j
    exact (by decide +kernel : ∀ j, j < 9 → snTen.getD j 0 = ten j) j hj
set_option maxRecDepth 16384 in
theorem st_Cst {xs : Nat → Int32} : CstC (iA_law (snOI xs)) := by
  refine ⟨fun i hi => ?_, fun i hi => ?_, fun i hi => ?_, fun i hi => ?_, fun i hi => ?_⟩
  · rw [sz_1]
    exact (by decide +kernel : ∀ i, i < 8 → snBnd.getD i 0 = iN (bndS i)) i hi
  · rw [sz_10]
    exact (by decide +kernel : ∀ i, i < 4 → (snByt.getD 1 []).getD i 0 = iN (strS 10 i)) i hi
  · rw [sz_11]
    exact (by decide +kernel : ∀ i, i < 8 → (snByt.getD 2 []).getD i 0 = iN (strS 11 i)) i hi
  · rw [sz_12]
    exact (by decide +kernel : ∀ i, i < 10 → (snByt.getD 3 []).getD i 0 = iN (strS 12 i)) i hi
  · rw [sz_13]
    exact (by decide +kernel : ∀ i, i < 1 → (snByt.getD 4 []).getD i 0 = iN (strS 13 i)) i hi
set_option maxRecDepth 16384 in
theorem st_C {xs : Nat → Int32} : StC (iA_law (snOI xs)) (iB_law snOL) (iR_law fun _ _ => none) sgZ [] (fun _ => []) 31 38 trI 0 := by
  refine ⟨st_Cst, st_Tab, ⟨s16_0, s16_1, fun i _ => ⟨sz_17 _, sz_17 _, sz_17 _⟩, fun i _ => ⟨sz_18 _, sz_18 _, sz_18 _, sz_18 _, sz_18 _⟩, fun j _ => sz_19 j⟩, ⟨s14_4, fun h => absurd h (by decide)⟩, ⟨s14_1, fun j h => absurd h (Nat.not_lt_zero _)⟩, ⟨s24_0, fun y _ => ?_⟩, ⟨s27_0, s27_1, fun t _ => sz_28 t⟩, ⟨s29_5, s29_6⟩, ⟨s62_2, s62_3, fun h => absurd rfl h, fun j h => absurd h (Nat.not_lt_zero _)⟩, st_T, ⟨s31_0, Nat.zero_le _, fun i c h => by cases h⟩, fun k hk => ?_⟩
  · rw [sz_25]
    have e : sK sgZ y = 0 := by
      show kyF 0 _ y = 0
      unfold kyF
      rw [if_pos (Or.inl rfl)]
    rw [e]
    rfl
  · refine ⟨?_, Nat.zero_le _, fun i c h => by cases h⟩
    match k, hk with
    | 0, _ => exact s70_0
    | 1, _ => exact s76_0
    | 2, _ => exact s82_0
    | 3, _ => exact s88_0
    | k + 4, hk => omega
set_option maxRecDepth 16384 in
theorem law_start {xs : Nat → Int32} : InvS (iA_law (snOI xs)) (iB_law snOL) (iR_law fun _ _ => none) 0 := ⟨sgZ, [], [], fun _ => [], fun _ => [], 31, 38, 0, trI, ⟨st_B, st_C, st_M, st_K⟩, Nat.le_refl _⟩
theorem law_run {L : Nat} {xs : Nat → Int32} (hL : L ≤ 4608) : ∃ (d : Nat) (x' : zmH), d ≤ 1000 ∧ x'.1.1 ≤ 147 ∧ Den d 0 0 (zmIni 0 [.ref 0]) [] (snX0 L xs) = some (some (.int 1), x') := by
  obtain ⟨x', h1, h2⟩ := law_loop hL L 0 (iA_law (snOI xs)) (iB_law snOL) (iR_law fun _ _ => none) (by omega) (by omega) law_start
  refine ⟨61, x', by omega, h1, ?_⟩
  have em : zmMk L (iA_law (snOI xs)) (iB_law snOL) (iR_law fun _ _ => none) = ((147, L), iA_law (snOI xs), iB_law snOL, iR_law fun _ _ => none) := by
    show ((147, L), iA_law (snOI xs), iB_law snOL, zmR0 (iR_law fun _ _ => none)) = _
    rw [st_R]
  rw [em] at h2
  exact (iw_law (d := 58) (n := L) (a := snOI xs) (b := snOL) (r := fun _ _ => none)).trans h2
