/-! ===== instructions that read and write cells ===== -/
section SC
variable {od : Nat → Nat} {sz0 Ls : Nat} {oI : Nat → Nat → Int32} {oL : Nat → Nat → Int64} {D : va_G} {tyc : Nat → ClassId}
variable {p : Program} {l : Launch} {e : Env} {R : Room} {s : State} {m : MethodId} {args : Array Value} {below : List Frame} {meth : Method} {c : Code} {H : Heap} {locs : List Loc} {Q : State → Prop}
variable {μ n0 pc pc' len : Nat} {L L' st st' : List Value} {x x' : zmH} {ls : Array Slot} {r5 : Nat × Nat × Nat × Nat × Nat} {iv : Int32} {lv : Int64}

/-- how many cells there are: no more than were made -/
theorem snSize {g : JFrame} (C : snCx od sz0 Ls oI oL D tyc p s m args meth c μ n0) (hI : snInv od sz0 Ls oI oL D tyc s H locs ls (snL μ) L x) (hn0 : n0 ≤ x.1.1) (kk : H.size = sz0 + (x.1.1 - 14) → W p l e R s m args below meth c H locs (x.1.1 - n0) (snSum x.1.1 - snSum n0) Q g) : W p l e R s m args below meth c H locs (x.1.1 - n0) (snSum x.1.1 - snSum n0) Q g := by
  intro T hT X
  refine kk ?_ T hT X
  have h1 := X.heapSize
  rw [hT] at h1
  have h2 : s.heap.size = sz0 + (n0 - 14) := C.2.2.2.2.2.2.2.1
  have h3 : 14 ≤ n0 := C.2.2.2.2.2.2.2.2.1
  have h4 := hI.2.2.1.1
  by_cases hx : x.1.1 = 14
  · omega
  · have h5 := snWs_get (od := od) (sz0 := sz0) (tyc := tyc) (x := x) (k := x.1.1 - 1) (by omega) (by omega)
    have h6 := (hI.2.1 _ _ h5).lt
    have h7 : snAd od sz0 (x.1.1 - 1) = sz0 + (x.1.1 - 1 - 14) := if_neg (by omega)
    have h6 : snAd od sz0 (x.1.1 - 1) < H.size := h6
    omega
theorem snWords {c₀ : Code} {c : Nat} (hc : c < 13) (C : snCx od sz0 Ls oI oL D tyc p s m args meth c₀ μ n0) : ∀ w ∈ u_ws (snC c).1 (snC c).2.1 (snC c).2.2, w.before args s = true := by
  intro w hw
  obtain ⟨j, hj, rfl⟩ := List.mem_map.mp hw
  have h1 := List.all_eq_true.mp (snLays_ok hc) j hj
  exact snW_spec C (snB2 h1).1
theorem snTyF_c {c j : Nat} (hc : c < 13) (hj : j < (snC c).2.2) : snFt (snTyF c j) = snTy c j := by
  have h1 := List.all_eq_true.mp (snLays_ok hc) j (List.mem_range.mpr hj)
  exact Nat.eq_of_beq_eq_true (snB2 h1).2
theorem snZl {x : zmH} {a : Nat} (ha : a ≠ 0) : zmLen a x = (zmLay a).2 := if_neg ha

theorem snE45 {a : Nat} (h : 4 ≤ a) : 4 + (a - 4) = a ∧ 9 + (a - 4) = a + 5 := by omega
theorem snStr_some {kd rb : Nat} {A B t : zmR} (h : (match kd, rb with
      | 30, 0 => some A
      | 30, 1 => some B
      | _, _ => (none : Option zmR)) = some t) : (kd = 30 ∧ rb = 0 ∧ A = t) ∨ (kd = 30 ∧ rb = 1 ∧ B = t) := by
  split at h
  · exact Or.inl ⟨rfl, rfl, Option.some.inj h⟩
  · exact Or.inr ⟨rfl, rfl, Option.some.inj h⟩
  · cases h
theorem snObj_some {ra : Nat} {A : Option zmR} {B : Nat → Option zmR} {t : zmR} (h : (match ra with
      | 30 => A
      | c => B c) = some t) (h30 : ¬ ra = 30) : B ra = some t := by
  split at h
  · exact absurd rfl h30
  · exact h
theorem snPut_some {rc ra rb pc : Nat} {L st : List Value} {x : zmH} {t : zmR} (h : (match rc, st with
    | 0, .int v :: .ref a :: r => if zmKd a x = ra then some (.inl (pc, L, r, sI x a rb v)) else none
    | 1, .long v :: .ref a :: r => if zmKd a x = ra then some (.inl (pc, L, r, sL x a rb v)) else none
    | 2, .ref v :: .ref a :: r => if zmKd a x = ra then some (.inl (pc, L, r, sR x a rb (some v))) else none
    | 3, .int v :: .ref a :: r => if zmKd a x = ra ∧ (v = 0 ∨ v = 1) then some (.inl (pc, L, r, sI x a rb v)) else none
    | _, _ => (none : Option zmR)) = some t) :
    (rc = 0 ∧ ∃ v a r, st = .int v :: .ref a :: r ∧ zmKd a x = ra ∧ Sum.inl (pc, L, r, sI x a rb v) = t) ∨ (rc = 1 ∧ ∃ v a r, st = .long v :: .ref a :: r ∧ zmKd a x = ra ∧ Sum.inl (pc, L, r, sL x a rb v) = t) ∨ (rc = 2 ∧ ∃ v a r, st = .ref v :: .ref a :: r ∧ zmKd a x = ra ∧ Sum.inl (pc, L, r, sR x a rb (some v)) = t) ∨ (rc = 3 ∧ ∃ v a r, st = .int v :: .ref a :: r ∧ (zmKd a x = ra ∧ (v = 0 ∨ v = 1)) ∧ Sum.inl (pc, L, r, sI x a rb v) = t) := by
  split at h
  · split at h
    · exact Or.inl ⟨rfl, _, _, _, rfl, by assumption, Option.some.inj h⟩
    · cases h
  · split at h
    · exact Or.inr (Or.inl ⟨rfl, _, _, _, rfl, by assumption, Option.some.inj h⟩)
    · cases h
  · split at h
    · exact Or.inr (Or.inr (Or.inl ⟨rfl, _, _, _, rfl, by assumption, Option.some.inj h⟩))
    · cases h
  · split at h
    · exact Or.inr (Or.inr (Or.inr ⟨rfl, _, _, _, rfl, by assumption, Option.some.inj h⟩))
    · cases h
  · cases h
theorem snS_getfield {k : Nat} (C : snCx od sz0 Ls oI oL D tyc p s m args meth c μ n0) (hd : decode (snB μ) pc = .ok (.getfield k, len)) (h2 : snOk2 (snN μ).cls μ pc (.getfield k, len, r5, iv, lv) = true) (hx : zmX (.getfield k, len, r5, iv, lv) pc L st x = some (.inl (pc', L', st', x'))) (hI : snInv od sz0 Ls oI oL D tyc s H locs ls (snL μ) L x) (hn0 : n0 ≤ x.1.1) (hR : x'.1.1 - n0 ≤ R.cells ∧ snSum x'.1.1 - snSum n0 ≤ R.slots ∧ 64 ≤ R.locals ∧ 1 ≤ R.frames) (kk : ∀ (ls' : Array Slot) (H' : Heap) (locs' : List Loc), snInv od sz0 Ls oI oL D tyc s H' locs' ls' (snL μ) L' x' → W p l e R s m args below meth c H' locs' (x'.1.1 - n0) (snSum x'.1.1 - snSum n0) Q (F0 m pc' ls' (st'.map (snV od sz0)))) : W p l e R s m args below meth c H locs (x.1.1 - n0) (snSum x.1.1 - snSum n0) Q (F0 m pc ls (st.map (snV od sz0))) := by
  obtain ⟨ra, rb, rc, rd, re⟩ := r5
  have h2 : (Nat.beq len 3 && (bif Nat.beq ra 30 then (match (generalizing := false) rb with
        | 0 => snW rd (.fieldLink (snN μ).cls k "java/lang/String" "value" "[B")
        | 1 => snW rd (.fieldLink (snN μ).cls k "java/lang/String" "coder" "B")
        | _ => false) else snFld (snN μ).cls k (ra, rb, rc, rd, re))) = true := h2
  obtain ⟨h2, h3⟩ := snB2 h2
  obtain rfl := Nat.eq_of_beq_eq_true h2
  have hx : p1r st (fun a r => match (generalizing := false) ra with
      | 30 => match (generalizing := false) zmKd a x, rb with
        | 30, 0 => some (.inl (pc + 3, L, .ref (a + 5) :: r, x))
        | 30, 1 => some (.inl (pc + 3, L, .int 0 :: r, x))
        | _, _ => none
      | c => if zmKd a x = c then some (.inl (pc + 3, L, zmRd rc a rb x :: r, x)) else none) = some (.inl (pc', L', st', x')) := hx
  obtain ⟨a, r, rfl, hy⟩ := p1r_some hx
  have hEnv := C.2.2.2.2.2.1
  by_cases h30 : ra = 30
  · subst h30
    have h3 : (match (generalizing := false) rb with
        | 0 => snW rd (.fieldLink (snN μ).cls k "java/lang/String" "value" "[B")
        | 1 => snW rd (.fieldLink (snN μ).cls k "java/lang/String" "coder" "B")
        | _ => false) = true := h3
    have hy : (match (generalizing := false) zmKd a x, rb with
        | 30, 0 => some (.inl (pc + 3, L, .ref (a + 5) :: r, x))
        | 30, 1 => some (.inl (pc + 3, L, .int 0 :: r, x))
        | _, _ => (none : Option zmR)) = some (.inl (pc', L', st', x')) := hy
    rcases snStr_some hy with ⟨hk, rfl, hz⟩ | ⟨hk, rfl, hz⟩
    · obtain ⟨-, hk2, hk3⟩ := zmKd_spec hk (by decide)
      obtain ⟨g1, g2⟩ := (snPlan_at hk3).2.2.2.1 hk2
      cases hz
      have hs := (hEnv.2.2.2.2.2.2.2.2.2.2.2.1 (a - 4) (by omega)).2.2.1
      have e1 : 4 + (a - 4) = a := (snE45 g1).1
      have e2 : 9 + (a - 4) = a + 5 := (snE45 g1).2
      rw [e1, e2] at hs
      have k1 := kk ls H locs hI
      have e3 : snAd od sz0 a = od a := if_pos (by omega)
      have e4 : snAd od sz0 (a + 5) = od (a + 5) := if_pos (by omega)
      show W p l e R s m args below meth c H locs _ _ Q (F0 m pc ls (.ref (snAd od sz0 a) :: r.map (snV od sz0)))
      rw [e3]
      refine vk_getf C.1 C.2.1 hs hI.2.2.1 C.2.2.2.1 (snW_spec C h3) (fun _ h => h) hd ?_
      rw [← e4]
      exact k1
    · obtain ⟨-, hk2, hk3⟩ := zmKd_spec hk (by decide)
      obtain ⟨g1, g2⟩ := (snPlan_at hk3).2.2.2.1 hk2
      cases hz
      have hs := (hEnv.2.2.2.2.2.2.2.2.2.2.2.1 (a - 4) (by omega)).2.1
      have e1 : 4 + (a - 4) = a := (snE45 g1).1
      rw [e1] at hs
      have e3 : snAd od sz0 a = od a := if_pos (by omega)
      show W p l e R s m args below meth c H locs _ _ Q (F0 m pc ls (.ref (snAd od sz0 a) :: r.map (snV od sz0)))
      rw [e3]
      exact vk_getf C.1 C.2.1 hs hI.2.2.1 C.2.2.2.1 (snW_spec C h3) (fun _ h => h) hd (kk ls H locs hI)
  · have h3 : snFld (snN μ).cls k (ra, rb, rc, rd, re) = true := by
      have hb : Nat.beq ra 30 = false := by
        cases hb : Nat.beq ra 30 with
        | false => rfl
        | true => exact absurd (Nat.eq_of_beq_eq_true hb) h30
      rw [hb] at h3
      exact h3
    obtain ⟨f1, h3⟩ := snB2 h3
    obtain ⟨f2, h3⟩ := snB2 h3
    obtain ⟨f3, h3⟩ := snB2 h3
    have f1 : ra < 13 := Nat.le_of_ble_eq_true f1
    have f2 : rb < (snC ra).2.2 := Nat.le_of_ble_eq_true f2
    have f3 : snTy ra rb = rc := Nat.eq_of_beq_eq_true f3
    have hy : (if zmKd a x = ra then some (.inl (pc + 3, L, zmRd rc a rb x :: r, x)) else (none : Option zmR)) = some (.inl (pc', L', st', x')) := snObj_some (B := fun c => if zmKd a x = c then some (.inl (pc + 3, L, zmRd rc a rb x :: r, x)) else (none : Option zmR)) hy h30
    by_cases hk : zmKd a x = ra
    · rw [if_pos hk] at hy
      obtain ⟨k1, k2, k3⟩ := zmKd_spec hk (by omega)
      obtain ⟨g1, g2⟩ := (snPlan_at k3).2.1 (by omega)
      rw [k2] at g2
      cases hy
      have he := snWs_get (od := od) (sz0 := sz0) (tyc := tyc) g1 k1
      rw [snE_obj k2 f1] at he
      have hv : ((List.range (zmLay a).2).map (fun j => snV od sz0 (zmRd (snTy ra j) a j x)))[rb]? = some (snV od sz0 (zmRd rc a rb x)) := by
        rw [List.getElem?_map, List.getElem?_range (by omega), ← f3]
        rfl
      unfold snLk at h3
      cases hn : Nat.beq re 1 with
      | false =>
        rw [hn] at h3
        exact va_get C.1 C.2.1 (snWords f1 C) (fun w h => h) C.2.2.2.1 hEnv.2.2.1 hI.2.1 (a - 14) he (snC_at f1) rb f2 (snW_spec C h3) (fun _ h => h) hv hd (kk ls H locs hI)
      | true =>
        rw [hn] at h3
        exact va_getN C.1 C.2.1 (snWords f1 C) (fun w h => h) C.2.2.2.1 hEnv.2.2.1 hI.2.1 (a - 14) he (snC_at f1) rb f2 (snW_spec C h3) (fun _ h => h) hv hd (kk ls H locs hI)
    · rw [if_neg hk] at hy
      cases hy
theorem snPut {k ra rb a : Nat} {v : Value} {r : List Value} {ty : FieldType} {nest pos : Nat} (C : snCx od sz0 Ls oI oL D tyc p s m args meth c μ n0) (hd : decode (snB μ) pc = .ok (.putfield k, 3)) (hI : snInv od sz0 Ls oI oL D tyc s H locs ls (snL μ) L x) (f1 : ra < 13) (f2 : rb < (snC ra).2.2) (h3 : snLk (snN μ).cls k nest pos ((snC ra).2.1 rb).1 ((snC ra).2.1 rb).2.1 ((snC ra).2.1 rb).2.2.1 = true) (h4 : (Nat.beq nest 0 || !((snC ra).2.1 rb).2.2.2) = true) (h5 : (bif ((snC ra).2.1 rb).2.2.2 then decide ((snN μ).name = "<init>") && decide (((snC ra).2.1 rb).1 = (snN μ).cls) else true) = true)
    (hk : zmKd a x = ra) (hty : parseFieldDescriptor ((snC ra).2.1 rb).2.2.1 = some ty) (hn : narrow ty (snV od sz0 v) = snV od sz0 v) (hf : fits ty (snV od sz0 v) = true) (hx1 : x'.1 = x.1) (hx2 : zmRd (snTy ra rb) a rb x' = v) (hx3 : ∀ j, j ≠ rb → zmRd (snTy ra j) a j x' = zmRd (snTy ra j) a j x) (hx4 : ∀ j, j ≠ a → snE od sz0 tyc x' j = snE od sz0 tyc x j) (hx5 : snOld Ls oI oL x')
    (kk : ∀ (ls' : Array Slot) (H' : Heap) (locs' : List Loc), snInv od sz0 Ls oI oL D tyc s H' locs' ls' (snL μ) L x' → W p l e R s m args below meth c H' locs' (x.1.1 - n0) (snSum x.1.1 - snSum n0) Q (F0 m (pc + 3) ls' r)) : W p l e R s m args below meth c H locs (x.1.1 - n0) (snSum x.1.1 - snSum n0) Q (F0 m pc ls (snV od sz0 v :: .ref (snAd od sz0 a) :: r)) := by
  have hEnv := C.2.2.2.2.2.1
  obtain ⟨k1, k2, k3⟩ := zmKd_spec hk (by omega)
  obtain ⟨g1, g2⟩ := (snPlan_at k3).2.1 (by omega)
  rw [k2] at g2
  have he := snWs_get (od := od) (sz0 := sz0) (tyc := tyc) g1 k1
  rw [snE_obj k2 f1] at he
  have hset : (List.range (zmLay a).2).map (fun j => snV od sz0 (zmRd (snTy ra j) a j x')) = ((List.range (zmLay a).2).map (fun j => snV od sz0 (zmRd (snTy ra j) a j x))).set rb (snV od sz0 v) := snFs_set (by rw [hx2]) (fun j hj => by rw [hx3 j hj])
  have hws : (snWs od sz0 tyc x).set (a - 14) (snAd od sz0 a, .inr (ra, ((List.range (zmLay a).2).map (fun j => snV od sz0 (zmRd (snTy ra j) a j x))).set rb (snV od sz0 v))) = snWs od sz0 tyc x' := by
    rw [snWs_set g1 k1 (by rw [hx1]) hx4, snE_obj k2 f1, hset]
  have hl : rb < ((List.range (zmLay a).2).map (fun j => snV od sz0 (zmRd (snTy ra j) a j x))).length := by simp; omega
  have fin : ∀ (H1 : Heap) (locs1 : List Loc), va_P D vwCl ((snWs od sz0 tyc x).set (a - 14) (snAd od sz0 a, .inr (ra, ((List.range (zmLay a).2).map (fun j => snV od sz0 (zmRd (snTy ra j) a j x))).set rb (snV od sz0 v)))) H1 → va_D (snA sz0) ((snWs od sz0 tyc x).set (a - 14) (snAd od sz0 a, .inr (ra, ((List.range (zmLay a).2).map (fun j => snV od sz0 (zmRd (snTy ra j) a j x))).set rb (snV od sz0 v)))) → va_S (snA sz0) s.heap H1 locs1 → W p l e R s m args below meth c H1 locs1 (x.1.1 - n0) (snSum x.1.1 - snSum n0) Q (F0 m (pc + 3) ls r) := by
    intro H1 locs1 q1 _ q3
    rw [hws] at q1
    exact kk ls H1 locs1 ⟨hI.1, q1, q3, hx5⟩
  unfold snLk at h3
  cases hfin : ((snC ra).2.1 rb).2.2.2 with
  | false =>
    cases hnn : Nat.beq nest 1 with
    | false =>
      rw [hnn] at h3
      exact va_put C.1 C.2.1 (snWords f1 C) (fun w h => h) (snTyF ra) (snTyF_ok f1) (snNm_ok f1) C.2.2.2.1 hEnv.2.2.1 hI.2.1 (snWs_D x) hI.2.2.1 (a - 14) he (snC_at f1) rb f2 (snW_spec C h3) (fun _ h => h) hfin hty hn hf hl hd fin
    | true =>
      rw [hnn] at h3
      exact va_putN C.1 C.2.1 (snWords f1 C) (fun w h => h) (snTyF ra) (snTyF_ok f1) (snNm_ok f1) C.2.2.2.1 hEnv.2.2.1 hI.2.1 (snWs_D x) hI.2.2.1 (a - 14) he (snC_at f1) rb f2 (snW_spec C h3) (fun _ h => h) hfin hty hn hf hl hd fin
  | true =>
    rw [hfin] at h4 h5
    obtain ⟨h6, h7⟩ := snB2 h5
    have hn0 : nest = 0 := by
      simp at h4
      exact h4
    rw [hn0] at h3
    exact va_putF C.1 C.2.1 (snWords f1 C) (fun w h => h) (snTyF ra) (snTyF_ok f1) (snNm_ok f1) C.2.2.2.1 hEnv.2.2.1 hI.2.1 (snWs_D x) hI.2.2.1 (a - 14) he (snC_at f1) rb f2 (snW_spec C h3) (fun _ h => h) hfin (C.2.2.2.2.2.2.1 (of_decide_eq_true h6)) (of_decide_eq_true h7) hty hn hf hl hd fin
theorem snFt_0 {t : FieldType} (h : snFt t = 0) : t = .int := by cases t <;> first | rfl | (simp [snFt] at h)
theorem snFt_1 {t : FieldType} (h : snFt t = 1) : t = .long := by cases t <;> first | rfl | (simp [snFt] at h)
theorem snFt_3 {t : FieldType} (h : snFt t = 3) : t = .boolean := by cases t <;> first | rfl | (simp [snFt] at h)
theorem snFt_2 {t : FieldType} (h : snFt t = 2) (a : Nat) : narrow t (.ref a) = .ref a ∧ fits t (.ref a) = true := by cases t <;> first | exact ⟨rfl, rfl⟩ | (simp [snFt] at h)
theorem snRd_sI {x : zmH} {t a i j : Nat} {v : Int32} (h : j ≠ i) : zmRd t a j (sI x a i v) = zmRd t a j x := by
  have h1 : gI (sI x a i v) a j = gI x a j := if_neg (fun q => h q.2)
  unfold zmRd
  rw [h1]
  rfl
theorem snRd_sL {x : zmH} {t a i j : Nat} {v : Int64} (h : j ≠ i) : zmRd t a j (sL x a i v) = zmRd t a j x := by
  have h1 : gL (sL x a i v) a j = gL x a j := if_neg (fun q => h q.2)
  unfold zmRd
  rw [h1]
  rfl
theorem snRd_sR {x : zmH} {t a i j : Nat} {v : Option Nat} (h : j ≠ i) : zmRd t a j (sR x a i v) = zmRd t a j x := by
  have h1 : gR (sR x a i v) a j = gR x a j := if_neg (fun q => h q.2)
  unfold zmRd
  rw [h1]
  rfl
theorem snS_putfield {k : Nat} (C : snCx od sz0 Ls oI oL D tyc p s m args meth c μ n0) (hd : decode (snB μ) pc = .ok (.putfield k, len)) (h2 : snOk2 (snN μ).cls μ pc (.putfield k, len, r5, iv, lv) = true) (hx : zmX (.putfield k, len, r5, iv, lv) pc L st x = some (.inl (pc', L', st', x'))) (hI : snInv od sz0 Ls oI oL D tyc s H locs ls (snL μ) L x) (hn0 : n0 ≤ x.1.1) (hR : x'.1.1 - n0 ≤ R.cells ∧ snSum x'.1.1 - snSum n0 ≤ R.slots ∧ 64 ≤ R.locals ∧ 1 ≤ R.frames) (kk : ∀ (ls' : Array Slot) (H' : Heap) (locs' : List Loc), snInv od sz0 Ls oI oL D tyc s H' locs' ls' (snL μ) L' x' → W p l e R s m args below meth c H' locs' (x'.1.1 - n0) (snSum x'.1.1 - snSum n0) Q (F0 m pc' ls' (st'.map (snV od sz0)))) : W p l e R s m args below meth c H locs (x.1.1 - n0) (snSum x.1.1 - snSum n0) Q (F0 m pc ls (st.map (snV od sz0))) := by
  obtain ⟨ra, rb, rc, rd, re⟩ := r5
  have h2 : (Nat.beq len 3 && (snFld (snN μ).cls k (ra, rb, rc, rd, re) && (Nat.beq re 0 || !((snC ra).2.1 rb).2.2.2) && (bif ((snC ra).2.1 rb).2.2.2 then decide ((snN μ).name = "<init>") && decide (((snC ra).2.1 rb).1 = (snN μ).cls) else true))) = true := h2
  obtain ⟨h2, h3⟩ := snB2 h2
  obtain rfl := Nat.eq_of_beq_eq_true h2
  obtain ⟨h3, h5⟩ := snB2 h3
  obtain ⟨h3, h4⟩ := snB2 h3
  obtain ⟨f1, h3⟩ := snB2 h3
  obtain ⟨f2, h3⟩ := snB2 h3
  obtain ⟨f3, h3⟩ := snB2 h3
  have F1 : ra < 13 := Nat.le_of_ble_eq_true f1
  have F2 : rb < (snC ra).2.2 := Nat.le_of_ble_eq_true f2
  have F3 : snTy ra rb = rc := Nat.eq_of_beq_eq_true f3
  have h14 : ∀ a : Nat, zmKd a x = ra → 14 ≤ a := fun a hk => ((snPlan_at (zmKd_spec hk (by omega)).2.2).2.1 (by rw [(zmKd_spec hk (by omega)).2.1]; exact F1)).1
  have hty := snTyF_ok F1 rb F2
  have hft := (snTyF_c F1 F2).trans F3
  have hx : (match (generalizing := false) rc, st with
      | 0, .int v :: .ref a :: r => if zmKd a x = ra then some (.inl (pc + 3, L, r, sI x a rb v)) else none
      | 1, .long v :: .ref a :: r => if zmKd a x = ra then some (.inl (pc + 3, L, r, sL x a rb v)) else none
      | 2, .ref v :: .ref a :: r => if zmKd a x = ra then some (.inl (pc + 3, L, r, sR x a rb (some v))) else none
      | 3, .int v :: .ref a :: r => if zmKd a x = ra ∧ (v = 0 ∨ v = 1) then some (.inl (pc + 3, L, r, sI x a rb v)) else none
      | _, _ => (none : Option zmR)) = some (.inl (pc', L', st', x')) := hx
  rcases snPut_some hx with ⟨rfl, v, a, r, rfl, hk, hz⟩ | ⟨rfl, v, a, r, rfl, hk, hz⟩ | ⟨rfl, v, a, r, rfl, hk, hz⟩ | ⟨rfl, v, a, r, rfl, hk, hz⟩
  · cases hz
    rw [snFt_0 hft] at hty
    refine snPut (x' := sI x a rb v) (v := .int v) C hd hI F1 F2 h3 h4 h5 hk hty rfl rfl rfl ?_ (fun j hj => snRd_sI hj) (fun j hj => snE_sI hj) (snOld_sI hI.2.2.2 (h14 a hk)) (fun ls' H' locs' q => kk ls' H' locs' q)
    rw [F3]
    show Value.int (if a = a ∧ rb = rb then v else _) = _
    rw [if_pos ⟨rfl, rfl⟩]
  · cases hz
    rw [snFt_1 hft] at hty
    refine snPut (x' := sL x a rb v) (v := .long v) C hd hI F1 F2 h3 h4 h5 hk hty rfl rfl rfl ?_ (fun j hj => snRd_sL hj) (fun j hj => snE_sL hj) (snOld_sL hI.2.2.2 (h14 a hk)) (fun ls' H' locs' q => kk ls' H' locs' q)
    rw [F3]
    show Value.long (if a = a ∧ rb = rb then v else _) = _
    rw [if_pos ⟨rfl, rfl⟩]
  · cases hz
    refine snPut (x' := sR x a rb (some v)) (v := .ref v) C hd hI F1 F2 h3 h4 h5 hk hty (snFt_2 hft _).1 (snFt_2 hft _).2 rfl ?_ (fun j hj => snRd_sR hj) (fun j hj => snE_sR hj) (snOld_sR hI.2.2.2) (fun ls' H' locs' q => kk ls' H' locs' q)
    rw [F3]
    show zmRf (if a = a ∧ rb = rb then some v else _) = _
    rw [if_pos ⟨rfl, rfl⟩]
    rfl
  · cases hz
    rw [snFt_3 hft] at hty
    refine snPut (x' := sI x a rb v) (v := .int v) C hd hI F1 F2 h3 h4 h5 hk.1 hty ?_ ?_ rfl ?_ (fun j hj => snRd_sI hj) (fun j hj => snE_sI hj) (snOld_sI hI.2.2.2 (h14 a hk.1)) (fun ls' H' locs' q => kk ls' H' locs' q)
    · rcases hk.2 with rfl | rfl <;> rfl
    · rcases hk.2 with rfl | rfl <;> rfl
    · rw [F3]
      show Value.int (if a = a ∧ rb = rb then v else _) = _
      rw [if_pos ⟨rfl, rfl⟩]
theorem snS_getstatic {k : Nat} (C : snCx od sz0 Ls oI oL D tyc p s m args meth c μ n0) (hd : decode (snB μ) pc = .ok (.getstatic k, len)) (h2 : snOk2 (snN μ).cls μ pc (.getstatic k, len, r5, iv, lv) = true) (hx : zmX (.getstatic k, len, r5, iv, lv) pc L st x = some (.inl (pc', L', st', x'))) (hI : snInv od sz0 Ls oI oL D tyc s H locs ls (snL μ) L x) (hn0 : n0 ≤ x.1.1) (hR : x'.1.1 - n0 ≤ R.cells ∧ snSum x'.1.1 - snSum n0 ≤ R.slots ∧ 64 ≤ R.locals ∧ 1 ≤ R.frames) (kk : ∀ (ls' : Array Slot) (H' : Heap) (locs' : List Loc), snInv od sz0 Ls oI oL D tyc s H' locs' ls' (snL μ) L' x' → W p l e R s m args below meth c H' locs' (x'.1.1 - n0) (snSum x'.1.1 - snSum n0) Q (F0 m pc' ls' (st'.map (snV od sz0)))) : W p l e R s m args below meth c H locs (x.1.1 - n0) (snSum x.1.1 - snSum n0) Q (F0 m pc ls (st.map (snV od sz0))) := by
  obtain ⟨ra, rb, rc, rd, re⟩ := r5
  have h2 : (Nat.beq len 3 && (Nat.blt ra 4 && snLk (snN μ).cls k re rd (snSta ra).1 (snSta ra).2.1 (snSta ra).2.2)) = true := h2
  obtain ⟨h2, h3⟩ := snB2 h2
  obtain rfl := Nat.eq_of_beq_eq_true h2
  obtain ⟨h3, h4⟩ := snB2 h3
  have h3 : ra < 4 := Nat.le_of_ble_eq_true h3
  have hEnv := C.2.2.2.2.2.1
  have key : ∀ v : Value, va_Z (snSta ra).1 (snSta ra).2.1 (snSta ra).2.2 v (snA sz0) s s.heap → W p l e R s m args below meth c H locs (x.1.1 - n0) (snSum x.1.1 - snSum n0) Q (F0 m (pc + 3) ls (v :: st.map (snV od sz0))) → W p l e R s m args below meth c H locs (x.1.1 - n0) (snSum x.1.1 - snSum n0) Q (F0 m pc ls (st.map (snV od sz0))) := by
    intro v hZ k1
    unfold snLk at h4
    cases hn : Nat.beq re 1 with
    | false =>
      rw [hn] at h4
      exact va_gets C.1 C.2.1 hZ hI.2.2.1 C.2.2.2.1 (snW_spec C h4) (fun _ h => h) hd k1
    | true =>
      rw [hn] at h4
      exact va_getsN C.1 C.2.1 hZ hI.2.2.1 C.2.2.2.1 (snW_spec C h4) (fun _ h => h) hd k1
  have hr : ra = 0 ∨ ra = 1 ∨ ra = 2 ∨ ra = 3 := by omega
  rcases hr with rfl | rfl | rfl | rfl
  · have hx : some (.inl (pc + 3, L, .int 1 :: st, x)) = (some (.inl (pc', L', st', x')) : Option zmR) := hx
    cases hx
    exact key _ hEnv.2.2.2.1 (kk ls H locs hI)
  · have hx : some (.inl (pc + 3, L, .ref 1 :: st, x)) = (some (.inl (pc', L', st', x')) : Option zmR) := hx
    cases hx
    exact key _ hEnv.2.2.2.2.1 (kk ls H locs hI)
  · have hx : some (.inl (pc + 3, L, .ref 2 :: st, x)) = (some (.inl (pc', L', st', x')) : Option zmR) := hx
    cases hx
    exact key _ hEnv.2.2.2.2.2.1 (kk ls H locs hI)
  · have hx : some (.inl (pc + 3, L, .ref 3 :: st, x)) = (some (.inl (pc', L', st', x')) : Option zmR) := hx
    cases hx
    exact key _ hEnv.2.2.2.2.2.2.1 (kk ls H locs hI)
end SC
