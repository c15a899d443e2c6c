/-! ===== instructions that make cells, copy, leap by a table ===== -/
section SC
variable {od : Nat → Nat} {sz0 Ls : Nat} {oI : Nat → Nat → Int32} {oL : Nat → Nat → Int64} {D : va_G} {tyc : Nat → ClassId}
variable {p : Program} {l : Launch} {e : Env} {R : Room} {s : State} {m : MethodId} {args : Array Value} {below : List Frame} {meth : Method} {c : Code} {H : Heap} {locs : List Loc} {Q : State → Prop}
variable {μ n0 pc pc' len : Nat} {L L' st st' : List Value} {x x' : zmH} {ls : Array Slot} {r5 : Nat × Nat × Nat × Nat × Nat} {iv : Int32} {lv : Int64}

def snInsP : List Nat := [295, 316, 355, 382, 266, 398, 169, 190, 122, 150, 196, 114, 1175]
def snIniP : List Nat := [99, 100, 101, 102, 98, 103, 95, 96, 93, 94, 97, 92, 104]
theorem snMakes {c : Nat} (hc : c < 13) : snW (snInsP.getD c 9999) (.instantiable (snC c).1 (snC c).2.2) = true ∧ snW (snIniP.getD c 9999) (.initialized (snC c).1) = true := by
  refine sn13 (P := fun c => snW (snInsP.getD c 9999) (.instantiable (snC c).1 (snC c).2.2) = true ∧ snW (snIniP.getD c 9999) (.initialized (snC c).1) = true) ?_ ?_ ?_ ?_ ?_ ?_ ?_ ?_ ?_ ?_ ?_ ?_ ?_ hc <;> exact ⟨by decide +kernel, by decide +kernel⟩
theorem snArrI : snW 148 (.arrayClass .int) = true := by decide +kernel
theorem snArrL : snW 314 (.arrayClass .long) = true := by decide +kernel
theorem snArrB : snW 293 (.arrayClass .byte) = true := by decide +kernel
theorem snArrZ : snW 1461 (.arrayClass .boolean) = true := by decide +kernel
theorem snObj1 : snW 119 (.instanceMethod objectInit) = true ∧ snW 120 (.code objectInit ⟨#[0xb1]⟩ 1 none) = true := ⟨by decide +kernel, by decide +kernel⟩
theorem snCpy1 : snW 1156 (.native arraycopyName) = true ∧ snW 1155 (.static arraycopyName) = true ∧ snW 112 (.initialized "java/lang/System") = true := ⟨by decide +kernel, by decide +kernel, by decide +kernel⟩
theorem snCatR {od : Nat → Nat} {sz0 : Nat} : ∀ r : List Value, ((r.map (snV od sz0)).map fun v => v.category).sum = (r.map fun v => v.category).sum := by
  intro r
  induction r with
  | nil => rfl
  | cons v r ih =>
    simp only [List.map_cons, List.sum_cons, ih, snV_cat]
theorem snLow {od : Nat → Nat} {sz0 : Nat} {r : List Value} (h : zmLow r = true) : ((r.map (snV od sz0)).map fun v => v.category).sum ≤ 8 := by
  rw [snCatR]
  exact Nat.le_of_ble_eq_true h
theorem snOff {pc : Nat} {d k : Int} : ∀ (ps : List (Int × Int)), decide (0 ≤ (pc : Int) + d) = true → (ps.all (fun o => decide (0 ≤ (pc : Int) + o.2))) = true → decide (0 ≤ (pc : Int) + Op.lookupswitch.offset ps d k) = true := by
  intro ps
  induction ps with
  | nil => intro h1 _; exact h1
  | cons q r ih =>
    intro h1 h2
    obtain ⟨a, o⟩ := q
    rw [List.all_cons] at h2
    obtain ⟨h3, h4⟩ := snB2 h2
    rw [Op.lookupswitch.offset_cons]
    by_cases hq : a = k
    · rw [if_pos hq]; exact h3
    · rw [if_neg hq]; exact ih h1 h4
/-- a cell is made: the worlds -/
theorem snE_new {x : zmH} {k : Nat} (h : k ≠ x.1.1) : snE od sz0 tyc (zmNew x) k = snE od sz0 tyc x k :=
  snE_cong (fun _ => if_neg h) (fun _ => if_neg h) (fun _ => if_neg h)
theorem snWs_new {x : zmH} (h : 14 ≤ x.1.1) : snWs od sz0 tyc (zmNew x) = snWs od sz0 tyc x ++ [(sz0 + (x.1.1 - 14), snE od sz0 tyc (zmNew x) x.1.1)] := by
  have e : x.1.1 + 1 - 14 = (x.1.1 - 14) + 1 := by omega
  show (List.range (x.1.1 + 1 - 14)).map (fun i => (sz0 + i, snE od sz0 tyc (zmNew x) (i + 14))) = _
  rw [e, List.range_succ, List.map_append]
  congr 1
  · apply List.map_congr_left
    intro i hi
    have hi := List.mem_range.mp hi
    rw [snE_new (by omega)]
  · show [(sz0 + (x.1.1 - 14), snE od sz0 tyc (zmNew x) (x.1.1 - 14 + 14))] = _
    rw [Nat.sub_add_cancel h]
theorem snOld_new {x : zmH} (h : snOld Ls oI oL x) : snOld Ls oI oL (zmNew x) := by
  refine ⟨Nat.le_succ_of_le h.1, h.2.1, fun k hk => ⟨?_, ?_⟩⟩
  · rw [← (h.2.2 k hk).1]
    funext b
    exact if_neg (by have := h.1; omega)
  · rw [← (h.2.2 k hk).2]
    funext b
    exact if_neg (by have := h.1; omega)
/-- behind a cell's making -/
theorem snMade {H1 : Heap} {e1 : va_E} (hI : snInv od sz0 Ls oI oL D tyc s H locs ls (snL μ) L x) (hH : H.size = sz0 + (x.1.1 - 14)) (he : snE od sz0 tyc (zmNew x) x.1.1 = e1) (h1 : va_at D vwCl (H.size, e1) H1) (z1 : H1.size = H.size + 1) (o1 : ∀ q, q < H.size → H1[q]? = H[q]?) : snInv od sz0 Ls oI oL D tyc s H1 locs ls (snL μ) L (zmNew x) := by
  have hk : ∀ (k : Nat) (q : Nat × va_E), (snWs od sz0 tyc x)[k]? = some q → H1[q.1]? = H[q.1]? := fun k q hq => o1 q.1 ((hI.2.1 k q hq).lt)
  refine ⟨hI.1, ?_, ⟨Nat.le_trans hI.2.2.1.1 (by omega), fun q g1 g2 => (o1 q (Nat.lt_of_lt_of_le g1 hI.2.2.1.1)).trans (hI.2.2.1.2.1 q g1 g2), hI.2.2.1.2.2⟩, snOld_new hI.2.2.2⟩
  rw [snWs_new hI.2.2.2.1, he]
  refine (hI.2.1.kept hk).app (fun k q hq => ?_)
  have hz : k < 1 := (List.getElem?_eq_some_iff.mp hq).1
  rw [show k = 0 by omega] at hq
  cases hq
  rw [← hH]
  exact h1
theorem snRoom {x : zmH} (hn0 : n0 ≤ x.1.1) : (zmNew x).1.1 - n0 = x.1.1 - n0 + 1 ∧ snSum (zmNew x).1.1 - snSum n0 = snSum x.1.1 - snSum n0 + (zmLay x.1.1).2 := by
  have h1 := snSum_mono hn0
  have h2 : snSum (zmNew x).1.1 = snSum x.1.1 + (zmLay x.1.1).2 := snSum_succ x.1.1
  have h3 : (zmNew x).1.1 = x.1.1 + 1 := rfl
  omega
def snDef : Bool := (List.range 1300).all fun q => bif Nat.blt (q % 100) (snC (q / 100)).2.2 then Nat.blt (snFt (snTyF (q / 100) (q % 100))) 9 else true
theorem snDef_ok0 : snDef = true := by decide +kernel
theorem snN100 {c : Nat} (hc : c < 13) : (snC c).2.2 < 100 := by
  refine sn13 (P := fun c => (snC c).2.2 < 100) ?_ ?_ ?_ ?_ ?_ ?_ ?_ ?_ ?_ ?_ ?_ ?_ ?_ hc <;> decide
theorem snFt_lt {c j : Nat} (hc : c < 13) (hj : j < (snC c).2.2) : snFt (snTyF c j) < 9 := by
  have h100 := snN100 hc
  have h := List.all_eq_true.mp snDef_ok0 (c * 100 + j) (List.mem_range.mpr (by omega))
  have e1 : (c * 100 + j) / 100 = c := by omega
  have e2 : (c * 100 + j) % 100 = j := by omega
  rw [e1, e2, show Nat.blt j (snC c).2.2 = true from Nat.ble_eq_true_of_le hj] at h
  exact Nat.le_of_ble_eq_true h
theorem snDefault {t : FieldType} {x : zmH} {a j : Nat} (h9 : snFt t < 9) (h1 : gI x a j = 0) (h2 : gL x a j = 0) (h3 : gR x a j = none) : defaultValue t = snV od sz0 (zmRd (snFt t) a j x) := by
  cases t with
  | int => show _ = Value.int (gI x a j); rw [h1]; rfl
  | long => show _ = Value.long (gL x a j); rw [h2]; rfl
  | boolean => show _ = Value.int (gI x a j); rw [h1]; rfl
  | object n => show _ = snV od sz0 (zmRf (gR x a j)); rw [h3]; rfl
  | array u => show _ = snV od sz0 (zmRf (gR x a j)); rw [h3]; rfl
  | _ => exact absurd h9 (by simp [snFt])
theorem snS_new {k : Nat} (C : snCx od sz0 Ls oI oL D tyc p s m args meth c μ n0) (hd : decode (snB μ) pc = .ok (.new k, len)) (h2 : snOk2 (snN μ).cls μ pc (.new k, len, r5, iv, lv) = true) (hx : zmX (.new k, len, r5, iv, lv) pc L st x = some (.inl (pc', L', st', x'))) (hI : snInv od sz0 Ls oI oL D tyc s H locs ls (snL μ) L x) (hn0 : n0 ≤ x.1.1) (hR : x'.1.1 - n0 ≤ R.cells ∧ snSum x'.1.1 - snSum n0 ≤ R.slots ∧ 64 ≤ R.locals ∧ 1 ≤ R.frames) (kk : ∀ (ls' : Array Slot) (H' : Heap) (locs' : List Loc), snInv od sz0 Ls oI oL D tyc s H' locs' ls' (snL μ) L' x' → W p l e R s m args below meth c H' locs' (x'.1.1 - n0) (snSum x'.1.1 - snSum n0) Q (F0 m pc' ls' (st'.map (snV od sz0)))) : W p l e R s m args below meth c H locs (x.1.1 - n0) (snSum x.1.1 - snSum n0) Q (F0 m pc ls (st.map (snV od sz0))) := by
  obtain ⟨ra, rb, rc, rd, re⟩ := r5
  have h2 : (Nat.beq len 3 && (Nat.blt ra 13 && snW rd (.classLink (snN μ).cls k (snC ra).1))) = true := h2
  obtain ⟨h2, h3⟩ := snB2 h2
  obtain rfl := Nat.eq_of_beq_eq_true h2
  obtain ⟨h3, h4⟩ := snB2 h3
  have h3 : ra < 13 := Nat.le_of_ble_eq_true h3
  have hEnv := C.2.2.2.2.2.1
  have hx : (if (zmLay x.1.1).1 = ra then some (.inl (pc + 3, L, .ref x.1.1 :: st, zmNew x)) else (none : Option zmR)) = some (.inl (pc', L', st', x')) := hx
  by_cases hk : (zmLay x.1.1).1 = ra
  · rw [if_pos hk] at hx
    cases hx
    have hlt : x.1.1 < 147 := zmLay_lt (by omega)
    obtain ⟨g1, g2⟩ := (snPlan_at hlt).2.1 (by omega)
    rw [hk] at g2
    obtain ⟨r1, r2⟩ := snRoom (x := x) hn0
    rw [r1, r2] at hR
    refine snSize C hI hn0 (fun hH => ?_)
    obtain ⟨m1, m2⟩ := snMakes h3
    have hKn := hEnv.2.2.1.1 ra _ (snC_at h3)
    refine W.newcK C.1 C.2.1 C.2.2.2.1 (snW_spec C h4) (snW_spec C m1) (snW_spec C m2) rfl hd hR.1 (by have := hR.2.1; omega) hKn.2.1 rfl fun H1 kC hkC e1 z1 o1 => ?_
    have hmade : snInv od sz0 Ls oI oL D tyc s H1 locs ls (snL μ) L (zmNew x) := by
      refine snMade hI hH (snE_obj hk h3) ?_ z1 o1
      refine ⟨_, snC_at h3, (u_born (snTyF ra) (snWords h3 C) (fun w h => h) hKn hkC e1 (snTyF_ok h3)).to (fun j hj => ?_)⟩
      have hl : vp_V ((List.range (zmLay x.1.1).2).map (fun j => snV od sz0 (zmRd (snTy ra j) x.1.1 j (zmNew x)))) j = snV od sz0 (zmRd (snTy ra j) x.1.1 j (zmNew x)) := by
        show (List.map _ _).getD j Value.null = _
        rw [List.getD_eq_getElem?_getD, List.getElem?_map, List.getElem?_range (by omega)]
        rfl
      rw [hl]
      have ht := snTyF_c h3 hj
      rw [← ht]
      exact snDefault (snFt_lt h3 hj) (if_pos rfl) (if_pos rfl) (if_pos rfl)
    have k1 := kk ls H1 locs hmade
    rw [r1, r2, g2] at k1
    rw [hH]
    have e3 : snAd od sz0 x.1.1 = sz0 + (x.1.1 - 14) := if_neg (by omega)
    rw [← e3]
    exact k1
  · rw [if_neg hk] at hx
    cases hx
theorem snNewa_some {t : ArrayType} {kd : Nat} {A u : zmR} (h : (match t, kd with
    | .int, 20 => some A
    | .long, 21 => some A
    | .byte, 22 => some A
    | .boolean, 23 => some A
    | _, _ => (none : Option zmR)) = some u) : (t = .int ∧ kd = 20 ∧ A = u) ∨ (t = .long ∧ kd = 21 ∧ A = u) ∨ (t = .byte ∧ kd = 22 ∧ A = u) ∨ (t = .boolean ∧ kd = 23 ∧ A = u) := by
  split at h
  · exact Or.inl ⟨rfl, rfl, Option.some.inj h⟩
  · exact Or.inr (Or.inl ⟨rfl, rfl, Option.some.inj h⟩)
  · exact Or.inr (Or.inr (Or.inl ⟨rfl, rfl, Option.some.inj h⟩))
  · exact Or.inr (Or.inr (Or.inr ⟨rfl, rfl, Option.some.inj h⟩))
  · cases h
theorem snS_newarray {t : ArrayType} (C : snCx od sz0 Ls oI oL D tyc p s m args meth c μ n0) (hd : decode (snB μ) pc = .ok (.newarray t, len)) (h2 : snOk2 (snN μ).cls μ pc (.newarray t, len, r5, iv, lv) = true) (hx : zmX (.newarray t, len, r5, iv, lv) pc L st x = some (.inl (pc', L', st', x'))) (hI : snInv od sz0 Ls oI oL D tyc s H locs ls (snL μ) L x) (hn0 : n0 ≤ x.1.1) (hR : x'.1.1 - n0 ≤ R.cells ∧ snSum x'.1.1 - snSum n0 ≤ R.slots ∧ 64 ≤ R.locals ∧ 1 ≤ R.frames) (kk : ∀ (ls' : Array Slot) (H' : Heap) (locs' : List Loc), snInv od sz0 Ls oI oL D tyc s H' locs' ls' (snL μ) L' x' → W p l e R s m args below meth c H' locs' (x'.1.1 - n0) (snSum x'.1.1 - snSum n0) Q (F0 m pc' ls' (st'.map (snV od sz0)))) : W p l e R s m args below meth c H locs (x.1.1 - n0) (snSum x.1.1 - snSum n0) Q (F0 m pc ls (st.map (snV od sz0))) := by
  have h2 : Nat.beq len 2 = true := h2
  obtain rfl := Nat.eq_of_beq_eq_true h2
  have hEnv := C.2.2.2.2.2.1
  have hx : p1i st (fun v r => if v = Int32.ofNat (zmLay x.1.1).2 then (match (generalizing := false) t, (zmLay x.1.1).1 with
      | .int, 20 => some (.inl (pc + 2, L, .ref x.1.1 :: r, zmNew x))
      | .long, 21 => some (.inl (pc + 2, L, .ref x.1.1 :: r, zmNew x))
      | .byte, 22 => some (.inl (pc + 2, L, .ref x.1.1 :: r, zmNew x))
      | .boolean, 23 => some (.inl (pc + 2, L, .ref x.1.1 :: r, zmNew x))
      | _, _ => none) else none) = some (.inl (pc', L', st', x')) := hx
  obtain ⟨v, r, rfl, hy⟩ := p1i_some hx
  by_cases hv : v = Int32.ofNat (zmLay x.1.1).2
  · rw [if_pos hv] at hy
    subst hv
    have hw := snNewa_some hy
    have hkq : (zmLay x.1.1).1 ≠ 99 := by rcases hw with ⟨_, q, _⟩ | ⟨_, q, _⟩ | ⟨_, q, _⟩ | ⟨_, q, _⟩ <;> rw [q] <;> decide
    have hlt : x.1.1 < 147 := zmLay_lt hkq
    have hpl := snPlan_at hlt
    obtain ⟨r1, r2⟩ := snRoom (x := x) hn0
    have hx1 : x' = zmNew x := by rcases hw with ⟨_, _, q⟩ | ⟨_, _, q⟩ | ⟨_, _, q⟩ | ⟨_, _, q⟩ <;> cases q <;> rfl
    rw [hx1, r1, r2] at hR
    have hN : (zmLay x.1.1).2 < 2 ^ 31 := by have := hpl.1; omega
    have h14 : 14 ≤ x.1.1 := hI.2.2.2.1
    have e3 : snAd od sz0 x.1.1 = sz0 + (x.1.1 - 14) := if_neg (by omega)
    refine snSize C hI hn0 (fun hH => ?_)
    rcases hw with ⟨rfl, hkd, hz⟩ | ⟨rfl, hkd, hz⟩ | ⟨rfl, hkd, hz⟩ | ⟨rfl, hkd, hz⟩
    · cases hz
      refine va_newaK (N := (zmLay x.1.1).2) C.1 C.2.1 (atype := .int) (snW_spec C snArrI) rfl hd rfl (nI_pos hN) (nI_clamp hN) (by show _ * 4 ≤ _; have := hpl.1; omega) hR.1 (by have := hR.2.1; omega) hH fun H1 cA e1 z1 o1 hAr hNm => ?_
      have hcA : tyc 0 = cA := by
        have q := (hEnv.2.2.1.2 0 _ rfl).2
        exact Option.some.inj (q.symm.trans hNm)
      have hmade : snInv od sz0 Ls oI oL D tyc s H1 locs ls (snL μ) L (zmNew x) := by
        refine snMade hI hH (snE_20 hkd) ?_ (by rw [z1, hH]) (fun q hq => o1 q (by rw [← hH]; exact hq))
        show H1[H.size]? = some (vp_cell (tyc 0) ((zmLay x.1.1).2, .inl (fun j => gI (zmNew x) x.1.1 j)))
        rw [hcA, hH, e1]
        show some (arrV cA (zmLay x.1.1).2 (fun _ => Value.int 0)) = some (arrV cA (zmLay x.1.1).2 (fun j => Value.int (gI (zmNew x) x.1.1 j)))
        congr 2
        funext j
        rw [show gI (zmNew x) x.1.1 j = 0 from if_pos rfl]
      have k1 := kk ls H1 locs hmade
      rw [r1, r2] at k1
      rw [← e3]
      exact k1
    · cases hz
      refine va_newaK (N := (zmLay x.1.1).2) C.1 C.2.1 (atype := .long) (snW_spec C snArrL) rfl hd rfl (nI_pos hN) (nI_clamp hN) (by show _ * 8 ≤ _; have := hpl.1; omega) hR.1 (by have := hR.2.1; omega) hH fun H1 cA e1 z1 o1 hAr hNm => ?_
      have hcA : tyc 1 = cA := by
        have q := (hEnv.2.2.1.2 1 _ rfl).2
        exact Option.some.inj (q.symm.trans hNm)
      have hmade : snInv od sz0 Ls oI oL D tyc s H1 locs ls (snL μ) L (zmNew x) := by
        refine snMade hI hH (snE_21 hkd) ?_ (by rw [z1, hH]) (fun q hq => o1 q (by rw [← hH]; exact hq))
        show H1[H.size]? = some (vp_cell (tyc 1) ((zmLay x.1.1).2, .inr (.inl (fun j => gL (zmNew x) x.1.1 j))))
        rw [hcA, hH, e1]
        show some (arrV cA (zmLay x.1.1).2 (fun _ => Value.long 0)) = some (arrV cA (zmLay x.1.1).2 (fun j => Value.long (gL (zmNew x) x.1.1 j)))
        congr 2
        funext j
        rw [show gL (zmNew x) x.1.1 j = 0 from if_pos rfl]
      have k1 := kk ls H1 locs hmade
      rw [r1, r2] at k1
      rw [← e3]
      exact k1
    · cases hz
      refine va_newaK (N := (zmLay x.1.1).2) C.1 C.2.1 (atype := .byte) (snW_spec C snArrB) rfl hd rfl (nI_pos hN) (nI_clamp hN) (by show _ * 1 ≤ _; have := hpl.1; omega) hR.1 (by have := hR.2.1; omega) hH fun H1 cA e1 z1 o1 hAr hNm => ?_
      have hcA : tyc 2 = cA := by
        have q := (hEnv.2.2.1.2 2 _ rfl).2
        exact Option.some.inj (q.symm.trans hNm)
      have hmade : snInv od sz0 Ls oI oL D tyc s H1 locs ls (snL μ) L (zmNew x) := by
        refine snMade hI hH (snE_22 hkd) ?_ (by rw [z1, hH]) (fun q hq => o1 q (by rw [← hH]; exact hq))
        show H1[H.size]? = some (vp_cell (tyc 2) ((zmLay x.1.1).2, .inl (fun j => gI (zmNew x) x.1.1 j)))
        rw [hcA, hH, e1]
        show some (arrV cA (zmLay x.1.1).2 (fun _ => Value.int 0)) = some (arrV cA (zmLay x.1.1).2 (fun j => Value.int (gI (zmNew x) x.1.1 j)))
        congr 2
        funext j
        rw [show gI (zmNew x) x.1.1 j = 0 from if_pos rfl]
      have k1 := kk ls H1 locs hmade
      rw [r1, r2] at k1
      rw [← e3]
      exact k1
    · cases hz
      refine va_newaK (N := (zmLay x.1.1).2) C.1 C.2.1 (atype := .boolean) (snW_spec C snArrZ) rfl hd rfl (nI_pos hN) (nI_clamp hN) (by show _ * 1 ≤ _; have := hpl.1; omega) hR.1 (by have := hR.2.1; omega) hH fun H1 cA e1 z1 o1 hAr hNm => ?_
      have hcA : tyc 3 = cA := by
        have q := (hEnv.2.2.1.2 3 _ rfl).2
        exact Option.some.inj (q.symm.trans hNm)
      have hmade : snInv od sz0 Ls oI oL D tyc s H1 locs ls (snL μ) L (zmNew x) := by
        refine snMade hI hH (snE_23 hkd) ?_ (by rw [z1, hH]) (fun q hq => o1 q (by rw [← hH]; exact hq))
        show H1[H.size]? = some (vp_cell (tyc 3) ((zmLay x.1.1).2, .inl (fun j => gI (zmNew x) x.1.1 j)))
        rw [hcA, hH, e1]
        show some (arrV cA (zmLay x.1.1).2 (fun _ => Value.int 0)) = some (arrV cA (zmLay x.1.1).2 (fun j => Value.int (gI (zmNew x) x.1.1 j)))
        congr 2
        funext j
        rw [show gI (zmNew x) x.1.1 j = 0 from if_pos rfl]
      have k1 := kk ls H1 locs hmade
      rw [r1, r2] at k1
      rw [← e3]
      exact k1
  · rw [if_neg hv] at hy
    cases hy
theorem snS_anewarray {k : Nat} (C : snCx od sz0 Ls oI oL D tyc p s m args meth c μ n0) (hd : decode (snB μ) pc = .ok (.anewarray k, len)) (h2 : snOk2 (snN μ).cls μ pc (.anewarray k, len, r5, iv, lv) = true) (hx : zmX (.anewarray k, len, r5, iv, lv) pc L st x = some (.inl (pc', L', st', x'))) (hI : snInv od sz0 Ls oI oL D tyc s H locs ls (snL μ) L x) (hn0 : n0 ≤ x.1.1) (hR : x'.1.1 - n0 ≤ R.cells ∧ snSum x'.1.1 - snSum n0 ≤ R.slots ∧ 64 ≤ R.locals ∧ 1 ≤ R.frames) (kk : ∀ (ls' : Array Slot) (H' : Heap) (locs' : List Loc), snInv od sz0 Ls oI oL D tyc s H' locs' ls' (snL μ) L' x' → W p l e R s m args below meth c H' locs' (x'.1.1 - n0) (snSum x'.1.1 - snSum n0) Q (F0 m pc' ls' (st'.map (snV od sz0)))) : W p l e R s m args below meth c H locs (x.1.1 - n0) (snSum x.1.1 - snSum n0) Q (F0 m pc ls (st.map (snV od sz0))) := by
  obtain ⟨ra, rb, rc, rd, re⟩ := r5
  have h2 : (Nat.beq len 3 && snW rd (.classLink (snN μ).cls k RX10)) = true := h2
  obtain ⟨h2, h3⟩ := snB2 h2
  obtain rfl := Nat.eq_of_beq_eq_true h2
  have hEnv := C.2.2.2.2.2.1
  have hx : p1i st (fun v r => if v = Int32.ofNat (zmLay x.1.1).2 ∧ (zmLay x.1.1).1 = 24 then some (.inl (pc + 3, L, .ref x.1.1 :: r, zmNew x)) else none) = some (.inl (pc', L', st', x')) := hx
  obtain ⟨v, r, rfl, hy⟩ := p1i_some hx
  by_cases hv : v = Int32.ofNat (zmLay x.1.1).2 ∧ (zmLay x.1.1).1 = 24
  · rw [if_pos hv] at hy
    obtain ⟨rfl, hkd⟩ := hv
    cases hy
    have hlt : x.1.1 < 147 := zmLay_lt (by rw [hkd]; decide)
    have hpl := snPlan_at hlt
    obtain ⟨r1, r2⟩ := snRoom (x := x) hn0
    rw [r1, r2] at hR
    have hN : (zmLay x.1.1).2 < 2 ^ 31 := by have := hpl.1; omega
    have h14 : 14 ≤ x.1.1 := hI.2.2.2.1
    have e3 : snAd od sz0 x.1.1 = sz0 + (x.1.1 - 14) := if_neg (by omega)
    refine snSize C hI hn0 (fun hH => ?_)
    have hcl : (Int32.ofNat (zmLay x.1.1).2).toNatClampNeg = (zmLay x.1.1).2 := nI_clamp hN
    refine W.anew C.1 C.2.1 C.2.2.2.1 (snW_spec C h3) (va_AO.use hEnv.2.2.2.2.2.2.2.2.2.2.2.2.2) rfl hd rfl (nI_pos hN) (by rw [hcl]; have := hpl.1; omega) hR.1 (by rw [hcl]; have := hR.2.1; omega) fun cA kA comp c1 c2 c3 c4 => ?_
    rw [hcl]
    have hcA : tyc 4 = cA := by
      obtain ⟨kA2, comp2, q1, q2, q3, q4⟩ := (hEnv.2.2.1.2 4 _ rfl).2
      exact Option.some.inj (q4.symm.trans c1)
    have hmade : snInv od sz0 Ls oI oL D tyc s (H.push { cls := cA, slots := Array.replicate (zmLay x.1.1).2 .null, vm := .none }) locs ls (snL μ) L (zmNew x) := by
      refine snMade hI hH (snE_24 hkd) ?_ (by simp) (fun q hq => by rw [Array.getElem?_push, if_neg (Nat.ne_of_lt hq)])
      have hq : ({ cls := cA, slots := Array.replicate (zmLay x.1.1).2 Value.null, vm := .none } : Cell) = vp_cell cA ((zmLay x.1.1).2, .inr (.inr (.inr (.inr (fun j => (gR (zmNew x) x.1.1 j).map (snAd od sz0)))))) := by
        rw [arrV_new cA (zmLay x.1.1).2 Value.null]
        show arrV cA (zmLay x.1.1).2 (fun _ => Value.null) = arrV cA (zmLay x.1.1).2 (fun j => va_rf ((gR (zmNew x) x.1.1 j).map (snAd od sz0)))
        congr 1
        funext j
        rw [show gR (zmNew x) x.1.1 j = none from if_pos rfl]
        rfl
      show (H.push _)[H.size]? = some (vp_cell (tyc 4) ((zmLay x.1.1).2, .inr (.inr (.inr (.inr (fun j => (gR (zmNew x) x.1.1 j).map (snAd od sz0)))))))
      rw [hcA, Array.getElem?_push, if_pos rfl]
      exact congrArg some hq
    have k1 := kk ls _ locs hmade
    rw [r1, r2] at k1
    show W p l e R s m args below meth c _ locs _ _ Q (F0 m (pc + 3) ls (.ref H.size :: r.map (snV od sz0)))
    rw [hH, ← e3]
    exact k1
  · rw [if_neg hv] at hy
    cases hy
theorem snS_init0 {k : Nat} (hr : r5.1 = 3) (C : snCx od sz0 Ls oI oL D tyc p s m args meth c μ n0) (hd : decode (snB μ) pc = .ok (.invokespecial k, len)) (h2 : snOk2 (snN μ).cls μ pc (.invokespecial k, len, r5, iv, lv) = true) (hx : zmX (.invokespecial k, len, r5, iv, lv) pc L st x = some (.inl (pc', L', st', x'))) (hI : snInv od sz0 Ls oI oL D tyc s H locs ls (snL μ) L x) (hn0 : n0 ≤ x.1.1) (hR : x'.1.1 - n0 ≤ R.cells ∧ snSum x'.1.1 - snSum n0 ≤ R.slots ∧ 64 ≤ R.locals ∧ 1 ≤ R.frames) (kk : ∀ (ls' : Array Slot) (H' : Heap) (locs' : List Loc), snInv od sz0 Ls oI oL D tyc s H' locs' ls' (snL μ) L' x' → W p l e R s m args below meth c H' locs' (x'.1.1 - n0) (snSum x'.1.1 - snSum n0) Q (F0 m pc' ls' (st'.map (snV od sz0)))) : W p l e R s m args below meth c H locs (x.1.1 - n0) (snSum x.1.1 - snSum n0) Q (F0 m pc ls (st.map (snV od sz0))) := by
  obtain ⟨ra, rb, rc, rd, re⟩ := r5
  have hr : ra = 3 := hr
  subst hr
  have h2 : (Nat.beq len 3 && snW rd (.methodLink (snN μ).cls k objectInit)) = true := h2
  obtain ⟨h2, h3⟩ := snB2 h2
  obtain rfl := Nat.eq_of_beq_eq_true h2
  have hx : p1r st (fun _ r => if zmLow r = true then some (.inl (pc + 3, L, r, x)) else none) = some (.inl (pc', L', st', x')) := hx
  obtain ⟨a, r, rfl, hy⟩ := p1r_some hx
  by_cases hl : zmLow r = true
  · rw [if_pos hl] at hy
    cases hy
    refine W.objInit C.1 C.2.1 C.2.2.2.1 (snW_spec C h3) (snW_spec C snObj1.1) (snW_spec C snObj1.2) rfl (hI.1.1.trans C.2.2.1.symm) rfl hd hR.2.2.2 ?_ (kk ls H locs hI)
    have := snLow (od := od) (sz0 := sz0) hl
    show 2 * 0 + _ + 12 ≤ _
    have := hR.2.2.1
    omega
  · rw [if_neg hl] at hy
    cases hy
theorem snCpy_some {x : zmH} {pc : Nat} {L st : List Value} {u : zmR} (h : (match st with
      | .int n :: .int tp :: .ref t :: .int sp :: .ref q :: r => if 14 ≤ q ∧ 14 ≤ t ∧ zmKd q x = 20 ∧ zmKd t x = 20 ∧ q ≠ t ∧ sp = 0 ∧ tp = 0 ∧ n = Int32.ofNat (zmLay q).2 ∧ (zmLay q).2 = (zmLay t).2 ∧ zmLow r = true then some (.inl (pc, L, r, zmCpy x q 0 t 0 (zmLay q).2)) else none
      | _ => (none : Option zmR)) = some u) : ∃ t q r, st = .int (Int32.ofNat (zmLay q).2) :: .int 0 :: .ref t :: .int 0 :: .ref q :: r ∧ 14 ≤ q ∧ 14 ≤ t ∧ zmKd q x = 20 ∧ zmKd t x = 20 ∧ q ≠ t ∧ (zmLay q).2 = (zmLay t).2 ∧ zmLow r = true ∧ Sum.inl (pc, L, r, zmCpy x q 0 t 0 (zmLay q).2) = u := by
  split at h
  · split at h
    · rename_i hc
      obtain ⟨c1, c2, c3, c4, c5, e1, e2, e3, c9, c10⟩ := hc
      subst e1 e2 e3
      exact ⟨_, _, _, rfl, c1, c2, c3, c4, c5, c9, c10, Option.some.inj h⟩
    · cases h
  · cases h
theorem snS_copy {k : Nat} (hr : r5.1 = 4) (C : snCx od sz0 Ls oI oL D tyc p s m args meth c μ n0) (hd : decode (snB μ) pc = .ok (.invokestatic k, len)) (h2 : snOk2 (snN μ).cls μ pc (.invokestatic k, len, r5, iv, lv) = true) (hx : zmX (.invokestatic k, len, r5, iv, lv) pc L st x = some (.inl (pc', L', st', x'))) (hI : snInv od sz0 Ls oI oL D tyc s H locs ls (snL μ) L x) (hn0 : n0 ≤ x.1.1) (hR : x'.1.1 - n0 ≤ R.cells ∧ snSum x'.1.1 - snSum n0 ≤ R.slots ∧ 64 ≤ R.locals ∧ 1 ≤ R.frames) (kk : ∀ (ls' : Array Slot) (H' : Heap) (locs' : List Loc), snInv od sz0 Ls oI oL D tyc s H' locs' ls' (snL μ) L' x' → W p l e R s m args below meth c H' locs' (x'.1.1 - n0) (snSum x'.1.1 - snSum n0) Q (F0 m pc' ls' (st'.map (snV od sz0)))) : W p l e R s m args below meth c H locs (x.1.1 - n0) (snSum x.1.1 - snSum n0) Q (F0 m pc ls (st.map (snV od sz0))) := by
  obtain ⟨ra, rb, rc, rd, re⟩ := r5
  have hr : ra = 4 := hr
  subst hr
  have h2 : (Nat.beq len 3 && snW rd (.methodLink (snN μ).cls k arraycopyName)) = true := h2
  obtain ⟨h2, h3⟩ := snB2 h2
  obtain rfl := Nat.eq_of_beq_eq_true h2
  have hEnv := C.2.2.2.2.2.1
  obtain ⟨t, q, r, rfl, c1, c2, c3, c4, c5, c9, c10, hz⟩ := snCpy_some (hx : (match (generalizing := false) st with
        | .int n :: .int tp :: .ref t :: .int sp :: .ref q :: r => if 14 ≤ q ∧ 14 ≤ t ∧ zmKd q x = 20 ∧ zmKd t x = 20 ∧ q ≠ t ∧ sp = 0 ∧ tp = 0 ∧ n = Int32.ofNat (zmLay q).2 ∧ (zmLay q).2 = (zmLay t).2 ∧ zmLow r = true then some (.inl (pc + 3, L, r, zmCpy x q 0 t 0 (zmLay q).2)) else none
        | _ => (none : Option zmR)) = some (.inl (pc', L', st', x')))
  cases hz
  obtain ⟨q1, q2, q3, q4⟩ := snAt c3 (by decide)
  obtain ⟨t1, t2, t3, t4⟩ := snAt c4 (by decide)
  have hN : (zmLay q).2 < 2 ^ 31 := by have := (snPlan_at (zmKd_spec c3 (by decide)).2.2).1; omega
  have heq := snWs_get (od := od) (sz0 := sz0) (tyc := tyc) q3 q1
  rw [snE_20 q2] at heq
  have het := snWs_get (od := od) (sz0 := sz0) (tyc := tyc) t3 t1
  rw [snE_20 t2] at het
  have hcl : (Int32.ofNat (zmLay q).2).toNatClampNeg = (zmLay q).2 := nI_clamp hN
  have hz0 : (0 : Int32).toNatClampNeg = 0 := by decide
  refine va_copyi C.1 C.2.1 (C.2.2.1.trans hI.1.1.symm) C.2.2.2.1 (snW_spec C h3) (snW_spec C snCpy1.1) (snW_spec C snCpy1.2.1) (snW_spec C snCpy1.2.2) hEnv.2.2.1 hI.2.1 (snWs_D x) hI.2.2.1 (q - 14) (t - 14) 0 0 heq het rfl rfl rfl (by decide) (by decide) (nI_pos hN) (by rw [hz0, hcl]; omega) (by rw [hz0, hcl]; omega) (fun i hi => rfl) hR.2.2.2 ?_ hd ?_
  · have h8 := snLow (od := od) (sz0 := sz0) c10
    have hnf : nativeFrameWords "java/lang/System" "arraycopy" 5 = 7 := by decide
    rw [hnf]
    have := hR.2.2.1
    omega
  · rw [hz0, hcl]
    refine snRow (x' := zmCpy x q 0 t 0 (zmLay q).2) hI t1 t3 rfl ?_ (fun i hi => ?_) ?_ (fun ls' H' locs' z => kk ls' H' locs' z)
    · rw [snE_20 t2]
      have hf : (fun j => gI (zmCpy x q 0 t 0 (zmLay q).2) t j) = va_cpy (fun j => gI x q j) (fun j => gI x t j) 0 0 (zmLay q).2 := by
        funext j
        show (if t = t ∧ 0 ≤ j ∧ j < 0 + (zmLay q).2 then gI x q (0 + (j - 0)) else gI x t j) = if 0 ≤ j ∧ j < 0 + (zmLay q).2 then gI x q (0 + (j - 0)) else gI x t j
        by_cases hj : 0 ≤ j ∧ j < 0 + (zmLay q).2
        · rw [if_pos hj, if_pos ⟨rfl, hj⟩]
        · rw [if_neg hj, if_neg (fun z => hj z.2)]
      rw [hf]
    · exact snE_cong (fun _ => if_neg (fun z => hi z.1)) (fun _ => rfl) (fun _ => rfl)
    · refine ⟨hI.2.2.2.1, hI.2.2.2.2.1, fun k hk => ⟨?_, (hI.2.2.2.2.2 k hk).2⟩⟩
      rw [← (hI.2.2.2.2.2 k hk).1]
      funext b
      exact if_neg (fun z => by omega)
theorem snS_lookupswitch {d : Int} {ps : Array (Int × Int)} (C : snCx od sz0 Ls oI oL D tyc p s m args meth c μ n0) (hd : decode (snB μ) pc = .ok (.lookupswitch d ps, len)) (h2 : snOk2 (snN μ).cls μ pc (.lookupswitch d ps, len, r5, iv, lv) = true) (hx : zmX (.lookupswitch d ps, len, r5, iv, lv) pc L st x = some (.inl (pc', L', st', x'))) (hI : snInv od sz0 Ls oI oL D tyc s H locs ls (snL μ) L x) (hn0 : n0 ≤ x.1.1) (hR : x'.1.1 - n0 ≤ R.cells ∧ snSum x'.1.1 - snSum n0 ≤ R.slots ∧ 64 ≤ R.locals ∧ 1 ≤ R.frames) (kk : ∀ (ls' : Array Slot) (H' : Heap) (locs' : List Loc), snInv od sz0 Ls oI oL D tyc s H' locs' ls' (snL μ) L' x' → W p l e R s m args below meth c H' locs' (x'.1.1 - n0) (snSum x'.1.1 - snSum n0) Q (F0 m pc' ls' (st'.map (snV od sz0)))) : W p l e R s m args below meth c H locs (x.1.1 - n0) (snSum x.1.1 - snSum n0) Q (F0 m pc ls (st.map (snV od sz0))) := by
  have h2 : (decide (0 ≤ (pc : Int) + d) && (ps.toList.all (fun o => decide (0 ≤ (pc : Int) + o.2)) && (ps.toList.zip (ps.toList.drop 1)).all (fun (a, next) => a.1 < next.1))) = true := h2
  obtain ⟨h2, h3⟩ := snB2 h2
  obtain ⟨h3, h4⟩ := snB2 h3
  have hx : p1i st (fun a r => some (.inl (zmLs pc d ps a, L, r, x))) = some (.inl (pc', L', st', x')) := hx
  obtain ⟨a, r, rfl, hx⟩ := p1i_some hx
  cases hx
  exact lv_lookup C.1 C.2.1 hd h4 rfl (snGo (snOff ps.toList h2 h3)) (kk ls H locs hI)
end SC
