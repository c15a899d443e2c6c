/-! ===== instructions on rows ===== -/
section SC
variable {od : Nat → Nat} {sz0 Ls : Nat} {oI : Nat → Nat → Int32} {oL : Nat → Nat → Int64} {D : va_G} {tyc : Nat → ClassId}
variable {p : Program} {l : Launch} {e : Env} {R : Room} {s : State} {m : MethodId} {args : Array Value} {below : List Frame} {meth : Method} {c : Code} {H : Heap} {locs : List Loc} {Q : State → Prop}
variable {μ n0 pc pc' len : Nat} {L L' st st' : List Value} {x x' : zmH} {ls : Array Slot} {r5 : Nat × Nat × Nat × Nat × Nat} {iv : Int32} {lv : Int64}

theorem snE23 {a : Nat} (h : 2 ≤ a ∧ a ≤ 3) : a = 2 ∨ a = 3 := by omega
theorem snUpd {f : Nat → Int32} {x : zmH} {a i : Nat} {v : Int32} (hf : f = fun j => gI x a j) : upd f i v = fun j => gI (sI x a i v) a j := by
  subst hf
  funext j
  show (if j = i then v else gI x a j) = if a = a ∧ j = i then v else gI x a j
  by_cases h : j = i
  · rw [if_pos h, if_pos ⟨rfl, h⟩]
  · rw [if_neg h, if_neg (fun q => h q.2)]
theorem snUpdL {x : zmH} {a i : Nat} {v : Int64} : vp_updL (fun j => gL x a j) i v = fun j => gL (sL x a i v) a j := by
  funext j
  show (if j = i then v else gL x a j) = if a = a ∧ j = i then v else gL x a j
  by_cases h : j = i
  · rw [if_pos h, if_pos ⟨rfl, h⟩]
  · rw [if_neg h, if_neg (fun q => h q.2)]
theorem snUpdR {od : Nat → Nat} {sz0 : Nat} {x : zmH} {a i v : Nat} : va_up (fun j => (gR x a j).map (snAd od sz0)) i (some (snAd od sz0 v)) = fun j => (gR (sR x a i (some v)) a j).map (snAd od sz0) := by
  funext j
  unfold va_up
  show (if j = i then some (snAd od sz0 v) else (gR x a j).map (snAd od sz0)) = (if a = a ∧ j = i then some v else gR x a j).map (snAd od sz0)
  by_cases h : j = i
  · rw [if_pos h, if_pos ⟨rfl, h⟩]; rfl
  · rw [if_neg h, if_neg (fun q => h q.2)]

theorem snA2040 {c : Prop} {hc0 : Decidable c} {kd : Nat} {A20 A40 t : zmR} (h : (if c then (match kd with
      | 20 => some (A20)
      | 40 => some (A40)
      | _ => none) else (none : Option zmR)) = some t) : c ∧ ((kd = 20 ∧ A20 = t) ∨ (kd = 40 ∧ A40 = t)) := by
  by_cases hc : c
  · rw [if_pos hc] at h
    split at h
    · exact ⟨hc, Or.inl ⟨rfl, Option.some.inj h⟩⟩
    · exact ⟨hc, Or.inr (⟨rfl, Option.some.inj h⟩)⟩
    · cases h
  · rw [if_neg hc] at h
    cases h
theorem snA2141 {c : Prop} {hc0 : Decidable c} {kd : Nat} {A21 A41 t : zmR} (h : (if c then (match kd with
      | 21 => some (A21)
      | 41 => some (A41)
      | _ => none) else (none : Option zmR)) = some t) : c ∧ ((kd = 21 ∧ A21 = t) ∨ (kd = 41 ∧ A41 = t)) := by
  by_cases hc : c
  · rw [if_pos hc] at h
    split at h
    · exact ⟨hc, Or.inl ⟨rfl, Option.some.inj h⟩⟩
    · exact ⟨hc, Or.inr (⟨rfl, Option.some.inj h⟩)⟩
    · cases h
  · rw [if_neg hc] at h
    cases h
theorem snA3 {c : Prop} {hc0 : Decidable c} {kd : Nat} {A22 A23 A42 t : zmR} (h : (if c then (match kd with
      | 22 => some (A22)
      | 23 => some (A23)
      | 42 => some (A42)
      | _ => none) else (none : Option zmR)) = some t) : c ∧ ((kd = 22 ∧ A22 = t) ∨ (kd = 23 ∧ A23 = t) ∨ (kd = 42 ∧ A42 = t)) := by
  by_cases hc : c
  · rw [if_pos hc] at h
    split at h
    · exact ⟨hc, Or.inl ⟨rfl, Option.some.inj h⟩⟩
    · exact ⟨hc, Or.inr (Or.inl ⟨rfl, Option.some.inj h⟩)⟩
    · exact ⟨hc, Or.inr (Or.inr (⟨rfl, Option.some.inj h⟩))⟩
    · cases h
  · rw [if_neg hc] at h
    cases h
theorem snA20 {c : Prop} {hc0 : Decidable c} {kd : Nat} {A20 t : zmR} (h : (if c then (match kd with
      | 20 => some (A20)
      | _ => none) else (none : Option zmR)) = some t) : c ∧ ((kd = 20 ∧ A20 = t)) := by
  by_cases hc : c
  · rw [if_pos hc] at h
    split at h
    · exact ⟨hc, ⟨rfl, Option.some.inj h⟩⟩
    · cases h
  · rw [if_neg hc] at h
    cases h
theorem snA21 {c : Prop} {hc0 : Decidable c} {kd : Nat} {A21 t : zmR} (h : (if c then (match kd with
      | 21 => some (A21)
      | _ => none) else (none : Option zmR)) = some t) : c ∧ ((kd = 21 ∧ A21 = t)) := by
  by_cases hc : c
  · rw [if_pos hc] at h
    split at h
    · exact ⟨hc, ⟨rfl, Option.some.inj h⟩⟩
    · cases h
  · rw [if_neg hc] at h
    cases h
theorem snA24 {c : Prop} {hc0 : Decidable c} {kd : Nat} {A24 t : zmR} (h : (if c then (match kd with
      | 24 => some (A24)
      | _ => none) else (none : Option zmR)) = some t) : c ∧ ((kd = 24 ∧ A24 = t)) := by
  by_cases hc : c
  · rw [if_pos hc] at h
    split at h
    · exact ⟨hc, ⟨rfl, Option.some.inj h⟩⟩
    · cases h
  · rw [if_neg hc] at h
    cases h
theorem snABst {c : Prop} {hc0 : Decidable c} {kd : Nat} {v : Int32} {A B t : zmR} (h : (if c then (match kd with
      | 22 => some A
      | 23 => if v = 0 ∨ v = 1 then some B else none
      | _ => none) else (none : Option zmR)) = some t) : c ∧ ((kd = 22 ∧ A = t) ∨ (kd = 23 ∧ (v = 0 ∨ v = 1) ∧ B = t)) := by
  by_cases hc : c
  · rw [if_pos hc] at h
    split at h
    · exact ⟨hc, Or.inl ⟨rfl, Option.some.inj h⟩⟩
    · split at h
      · exact ⟨hc, Or.inr ⟨rfl, by assumption, Option.some.inj h⟩⟩
      · cases h
    · cases h
  · rw [if_neg hc] at h
    cases h
theorem snAast {c : Prop} {hc0 : Decidable c} {kd kv : Nat} {A t : zmR} (h : (if c then (match kd, kv with
      | 24, 10 => some A
      | _, _ => none) else (none : Option zmR)) = some t) : c ∧ kd = 24 ∧ kv = 10 ∧ A = t := by
  by_cases hc : c
  · rw [if_pos hc] at h
    split at h
    · exact ⟨hc, rfl, rfl, Option.some.inj h⟩
    · cases h
  · rw [if_neg hc] at h
    cases h
/-- where a made cell stands -/
theorem snAt {a k : Nat} (hk : zmKd a x = k) (h : k < 25) : a < x.1.1 ∧ (zmLay a).1 = k ∧ 14 ≤ a ∧ zmLen a x = (zmLay a).2 := by
  obtain ⟨k1, k2, k3⟩ := zmKd_spec hk (by omega)
  have k4 := (snPlan_at k3).2.2.1 (by omega)
  exact ⟨k1, k2, k4, if_neg (by omega)⟩
/-- a row's element is written: the rest of the world stands -/
theorem snRow {a : Nat} {e1 : va_E} {pc1 : Nat} {r : List Value} (hI : snInv od sz0 Ls oI oL D tyc s H locs ls (snL μ) L x) (h1 : a < x.1.1) (h2 : 14 ≤ a) (hx1 : x'.1 = x.1) (he : snE od sz0 tyc x' a = e1) (hx4 : ∀ j, j ≠ a → snE od sz0 tyc x' j = snE od sz0 tyc x j) (hx5 : snOld Ls oI oL x')
    (kk : ∀ (ls' : Array Slot) (H' : Heap) (locs' : List Loc), snInv od sz0 Ls oI oL D tyc s H' locs' ls' (snL μ) L x' → W p l e R s m args below meth c H' locs' (x.1.1 - n0) (snSum x.1.1 - snSum n0) Q (F0 m pc1 ls' r)) :
    ∀ (H1 : Heap) (locs1 : List Loc), va_P D vwCl ((snWs od sz0 tyc x).set (a - 14) (snAd od sz0 a, e1)) H1 → va_D (snA sz0) ((snWs od sz0 tyc x).set (a - 14) (snAd od sz0 a, e1)) → va_S (snA sz0) s.heap H1 locs1 → W p l e R s m args below meth c H1 locs1 (x.1.1 - n0) (snSum x.1.1 - snSum n0) Q (F0 m pc1 ls r) := by
  intro H1 locs1 q1 _ q3
  have hws : (snWs od sz0 tyc x).set (a - 14) (snAd od sz0 a, e1) = snWs od sz0 tyc x' := by
    rw [snWs_set h2 h1 (by rw [hx1]) hx4, he]
  rw [hws] at q1
  exact kk ls H1 locs1 ⟨hI.1, q1, q3, hx5⟩
theorem snS_iaload (C : snCx od sz0 Ls oI oL D tyc p s m args meth c μ n0) (hd : decode (snB μ) pc = .ok (.iaload, len)) (h2 : snOk2 (snN μ).cls μ pc (.iaload, len, r5, iv, lv) = true) (hx : zmX (.iaload, len, r5, iv, lv) pc L st x = some (.inl (pc', L', st', x'))) (hI : snInv od sz0 Ls oI oL D tyc s H locs ls (snL μ) L x) (hn0 : n0 ≤ x.1.1) (hR : x'.1.1 - n0 ≤ R.cells ∧ snSum x'.1.1 - snSum n0 ≤ R.slots ∧ 64 ≤ R.locals ∧ 1 ≤ R.frames) (kk : ∀ (ls' : Array Slot) (H' : Heap) (locs' : List Loc), snInv od sz0 Ls oI oL D tyc s H' locs' ls' (snL μ) L' x' → W p l e R s m args below meth c H' locs' (x'.1.1 - n0) (snSum x'.1.1 - snSum n0) Q (F0 m pc' ls' (st'.map (snV od sz0)))) : W p l e R s m args below meth c H locs (x.1.1 - n0) (snSum x.1.1 - snSum n0) Q (F0 m pc ls (st.map (snV od sz0))) := by
  have h2 : Nat.beq len 1 = true := h2
  obtain rfl := Nat.eq_of_beq_eq_true h2
  have hEnv := C.2.2.2.2.2.1
  have hx : pix st (fun j a r => if zmIn j (zmLen a x) = true then (match zmKd a x with
      | 20 => some (.inl (pc + 1, L, .int (gI x a j.toNatClampNeg) :: r, x))
      | 40 => some (.inl (pc + 1, L, .int (gI x a j.toNatClampNeg) :: r, x))
      | _ => none) else none) = some (.inl (pc', L', st', x')) := hx
  obtain ⟨j, a, r, rfl, hy⟩ := pix_some hx
  rcases snA2040 hy with ⟨hin, ⟨hk, hz⟩ | ⟨hk, hz⟩⟩
  · cases hz
    obtain ⟨k1, k2, k3, k4⟩ := snAt hk (by decide)
    have he := snWs_get (od := od) (sz0 := sz0) (tyc := tyc) k3 k1
    rw [snE_20 k2] at he
    rw [k4] at hin
    exact va_iald C.1 C.2.1 hEnv.2.2.1 hI.2.1 (a - 14) 0 he rfl (zmIn_in hin) hd (kk ls H locs hI)
  · cases hz
    obtain ⟨k1, k2, k3⟩ := zmKd_spec hk (by decide)
    have k4 := (snPlan_at k3).2.2.2.2.1 k2
    have hg : gI x a j.toNatClampNeg = oI a j.toNatClampNeg := by
      show x.2.1 a _ = _
      rw [(hI.2.2.2.2.2 a (by omega)).1]
    have e3 : snAd od sz0 a = od a := if_pos (by omega)
    show W p l e R s m args below meth c H locs _ _ Q (F0 m pc ls (.int j :: .ref (snAd od sz0 a) :: r.map (snV od sz0)))
    rw [e3]
    rcases Nat.le_one_iff_eq_zero_or_eq_one.mp k4 with rfl | rfl
    · have hL : zmLen 0 x = Ls := hI.2.2.2.2.1
      rw [hL] at hin
      exact va_ti C.1 C.2.1 hEnv.2.2.2.2.2.2.2.1 hI.2.2.1 (zmIn_in hin) (by rw [← hg]; rfl) hd (kk ls H locs hI)
    · exact va_ti C.1 C.2.1 hEnv.2.2.2.2.2.2.2.2.1 hI.2.2.1 (zmIn_in hin) (by rw [← hg]; rfl) hd (kk ls H locs hI)
theorem snS_laload (C : snCx od sz0 Ls oI oL D tyc p s m args meth c μ n0) (hd : decode (snB μ) pc = .ok (.laload, len)) (h2 : snOk2 (snN μ).cls μ pc (.laload, len, r5, iv, lv) = true) (hx : zmX (.laload, len, r5, iv, lv) pc L st x = some (.inl (pc', L', st', x'))) (hI : snInv od sz0 Ls oI oL D tyc s H locs ls (snL μ) L x) (hn0 : n0 ≤ x.1.1) (hR : x'.1.1 - n0 ≤ R.cells ∧ snSum x'.1.1 - snSum n0 ≤ R.slots ∧ 64 ≤ R.locals ∧ 1 ≤ R.frames) (kk : ∀ (ls' : Array Slot) (H' : Heap) (locs' : List Loc), snInv od sz0 Ls oI oL D tyc s H' locs' ls' (snL μ) L' x' → W p l e R s m args below meth c H' locs' (x'.1.1 - n0) (snSum x'.1.1 - snSum n0) Q (F0 m pc' ls' (st'.map (snV od sz0)))) : W p l e R s m args below meth c H locs (x.1.1 - n0) (snSum x.1.1 - snSum n0) Q (F0 m pc ls (st.map (snV od sz0))) := by
  have h2 : Nat.beq len 1 = true := h2
  obtain rfl := Nat.eq_of_beq_eq_true h2
  have hEnv := C.2.2.2.2.2.1
  have hx : pix st (fun j a r => if zmIn j (zmLen a x) = true then (match zmKd a x with
      | 21 => some (.inl (pc + 1, L, .long (gL x a j.toNatClampNeg) :: r, x))
      | 41 => some (.inl (pc + 1, L, .long (gL x a j.toNatClampNeg) :: r, x))
      | _ => none) else none) = some (.inl (pc', L', st', x')) := hx
  obtain ⟨j, a, r, rfl, hy⟩ := pix_some hx
  rcases snA2141 hy with ⟨hin, ⟨hk, hz⟩ | ⟨hk, hz⟩⟩
  · cases hz
    obtain ⟨k1, k2, k3, k4⟩ := snAt hk (by decide)
    have he := snWs_get (od := od) (sz0 := sz0) (tyc := tyc) k3 k1
    rw [snE_21 k2] at he
    rw [k4] at hin
    exact va_lald C.1 C.2.1 hEnv.2.2.1 hI.2.1 (a - 14) 1 he rfl (zmIn_in hin) hd (kk ls H locs hI)
  · cases hz
    obtain ⟨k1, k2, k3⟩ := zmKd_spec hk (by decide)
    have k4 := (snPlan_at k3).2.2.2.2.2.1 k2
    have hg : gL x a j.toNatClampNeg = oL a j.toNatClampNeg := by
      show x.2.2.1 a _ = _
      rw [(hI.2.2.2.2.2 a (by omega)).2]
    have e3 : snAd od sz0 a = od a := if_pos (by omega)
    show W p l e R s m args below meth c H locs _ _ Q (F0 m pc ls (.int j :: .ref (snAd od sz0 a) :: r.map (snV od sz0)))
    rw [e3]
    have k5 := snE23 k4
    rcases k5 with rfl | rfl
    · exact va_tl C.1 C.2.1 hEnv.2.2.2.2.2.2.2.2.2.1 hI.2.2.1 (zmIn_in hin) (by rw [← hg]; rfl) hd (kk ls H locs hI)
    · exact va_tl C.1 C.2.1 hEnv.2.2.2.2.2.2.2.2.2.2.1 hI.2.2.1 (zmIn_in hin) (by rw [← hg]; rfl) hd (kk ls H locs hI)
theorem snS_baload (C : snCx od sz0 Ls oI oL D tyc p s m args meth c μ n0) (hd : decode (snB μ) pc = .ok (.baload, len)) (h2 : snOk2 (snN μ).cls μ pc (.baload, len, r5, iv, lv) = true) (hx : zmX (.baload, len, r5, iv, lv) pc L st x = some (.inl (pc', L', st', x'))) (hI : snInv od sz0 Ls oI oL D tyc s H locs ls (snL μ) L x) (hn0 : n0 ≤ x.1.1) (hR : x'.1.1 - n0 ≤ R.cells ∧ snSum x'.1.1 - snSum n0 ≤ R.slots ∧ 64 ≤ R.locals ∧ 1 ≤ R.frames) (kk : ∀ (ls' : Array Slot) (H' : Heap) (locs' : List Loc), snInv od sz0 Ls oI oL D tyc s H' locs' ls' (snL μ) L' x' → W p l e R s m args below meth c H' locs' (x'.1.1 - n0) (snSum x'.1.1 - snSum n0) Q (F0 m pc' ls' (st'.map (snV od sz0)))) : W p l e R s m args below meth c H locs (x.1.1 - n0) (snSum x.1.1 - snSum n0) Q (F0 m pc ls (st.map (snV od sz0))) := by
  have h2 : Nat.beq len 1 = true := h2
  obtain rfl := Nat.eq_of_beq_eq_true h2
  have hEnv := C.2.2.2.2.2.1
  have hx : pix st (fun j a r => if zmIn j (zmLen a x) = true then (match zmKd a x with
      | 22 => some (.inl (pc + 1, L, .int (gI x a j.toNatClampNeg) :: r, x))
      | 23 => some (.inl (pc + 1, L, .int (gI x a j.toNatClampNeg) :: r, x))
      | 42 => some (.inl (pc + 1, L, .int (gI x a j.toNatClampNeg) :: r, x))
      | _ => none) else none) = some (.inl (pc', L', st', x')) := hx
  obtain ⟨j, a, r, rfl, hy⟩ := pix_some hx
  rcases snA3 hy with ⟨hin, ⟨hk, hz⟩ | ⟨hk, hz⟩ | ⟨hk, hz⟩⟩
  · cases hz
    obtain ⟨k1, k2, k3, k4⟩ := snAt hk (by decide)
    have he := snWs_get (od := od) (sz0 := sz0) (tyc := tyc) k3 k1
    rw [snE_22 k2] at he
    rw [k4] at hin
    exact va_bald C.1 C.2.1 hEnv.2.2.1 hI.2.1 (a - 14) 2 he rfl (zmIn_in hin) hd (kk ls H locs hI)
  · cases hz
    obtain ⟨k1, k2, k3, k4⟩ := snAt hk (by decide)
    have he := snWs_get (od := od) (sz0 := sz0) (tyc := tyc) k3 k1
    rw [snE_23 k2] at he
    rw [k4] at hin
    exact va_zald C.1 C.2.1 hEnv.2.2.1 hI.2.1 (a - 14) 3 he rfl (zmIn_in hin) hd (kk ls H locs hI)
  · cases hz
    obtain ⟨k1, k2, k3⟩ := zmKd_spec hk (by decide)
    obtain ⟨g1, g2, g3⟩ := (snPlan_at k3).2.2.2.2.2.2 k2
    have hg : gI x a j.toNatClampNeg = oI a j.toNatClampNeg := by
      show x.2.1 a _ = _
      rw [(hI.2.2.2.2.2 a (by omega)).1]
    have e3 : snAd od sz0 a = od a := if_pos (by omega)
    show W p l e R s m args below meth c H locs _ _ Q (F0 m pc ls (.int j :: .ref (snAd od sz0 a) :: r.map (snV od sz0)))
    rw [e3]
    have hs := (hEnv.2.2.2.2.2.2.2.2.2.2.2.1 (a - 9) (by omega)).2.2.2
    rw [show 9 + (a - 9) = a from Nat.add_sub_cancel' g1] at hs
    have hlen : zmLen a x = snSl (a - 9) := (if_neg (by omega) : zmLen a x = (zmLay a).2).trans g3
    rw [hlen] at hin
    exact va_tb C.1 C.2.1 hs hI.2.2.1 (zmIn_in hin) (by rw [← hg]; rfl) hd (kk ls H locs hI)
theorem snS_aaload (C : snCx od sz0 Ls oI oL D tyc p s m args meth c μ n0) (hd : decode (snB μ) pc = .ok (.aaload, len)) (h2 : snOk2 (snN μ).cls μ pc (.aaload, len, r5, iv, lv) = true) (hx : zmX (.aaload, len, r5, iv, lv) pc L st x = some (.inl (pc', L', st', x'))) (hI : snInv od sz0 Ls oI oL D tyc s H locs ls (snL μ) L x) (hn0 : n0 ≤ x.1.1) (hR : x'.1.1 - n0 ≤ R.cells ∧ snSum x'.1.1 - snSum n0 ≤ R.slots ∧ 64 ≤ R.locals ∧ 1 ≤ R.frames) (kk : ∀ (ls' : Array Slot) (H' : Heap) (locs' : List Loc), snInv od sz0 Ls oI oL D tyc s H' locs' ls' (snL μ) L' x' → W p l e R s m args below meth c H' locs' (x'.1.1 - n0) (snSum x'.1.1 - snSum n0) Q (F0 m pc' ls' (st'.map (snV od sz0)))) : W p l e R s m args below meth c H locs (x.1.1 - n0) (snSum x.1.1 - snSum n0) Q (F0 m pc ls (st.map (snV od sz0))) := by
  have h2 : Nat.beq len 1 = true := h2
  obtain rfl := Nat.eq_of_beq_eq_true h2
  have hEnv := C.2.2.2.2.2.1
  have hx : pix st (fun j a r => if zmIn j (zmLen a x) = true then (match zmKd a x with
      | 24 => some (.inl (pc + 1, L, zmRf (gR x a j.toNatClampNeg) :: r, x))
      | _ => none) else none) = some (.inl (pc', L', st', x')) := hx
  obtain ⟨j, a, r, rfl, hy⟩ := pix_some hx
  obtain ⟨hin, hk, hz⟩ := snA24 hy
  cases hz
  obtain ⟨k1, k2, k3, k4⟩ := snAt hk (by decide)
  have he := snWs_get (od := od) (sz0 := sz0) (tyc := tyc) k3 k1
  rw [snE_24 k2] at he
  rw [k4] at hin
  refine va_aldq C.1 C.2.1 hEnv.2.2.1 hI.2.1 (a - 14) 4 he rfl (zmIn_in hin) hd ?_
  rw [snRf]
  exact kk ls H locs hI
theorem snS_iastore (C : snCx od sz0 Ls oI oL D tyc p s m args meth c μ n0) (hd : decode (snB μ) pc = .ok (.iastore, len)) (h2 : snOk2 (snN μ).cls μ pc (.iastore, len, r5, iv, lv) = true) (hx : zmX (.iastore, len, r5, iv, lv) pc L st x = some (.inl (pc', L', st', x'))) (hI : snInv od sz0 Ls oI oL D tyc s H locs ls (snL μ) L x) (hn0 : n0 ≤ x.1.1) (hR : x'.1.1 - n0 ≤ R.cells ∧ snSum x'.1.1 - snSum n0 ≤ R.slots ∧ 64 ≤ R.locals ∧ 1 ≤ R.frames) (kk : ∀ (ls' : Array Slot) (H' : Heap) (locs' : List Loc), snInv od sz0 Ls oI oL D tyc s H' locs' ls' (snL μ) L' x' → W p l e R s m args below meth c H' locs' (x'.1.1 - n0) (snSum x'.1.1 - snSum n0) Q (F0 m pc' ls' (st'.map (snV od sz0)))) : W p l e R s m args below meth c H locs (x.1.1 - n0) (snSum x.1.1 - snSum n0) Q (F0 m pc ls (st.map (snV od sz0))) := by
  have h2 : Nat.beq len 1 = true := h2
  obtain rfl := Nat.eq_of_beq_eq_true h2
  have hEnv := C.2.2.2.2.2.1
  have hx : p1i st (fun v st => pix st (fun j a r => if zmIn j (zmLen a x) = true then (match zmKd a x with
      | 20 => some (.inl (pc + 1, L, r, sI x a j.toNatClampNeg v))
      | _ => none) else none)) = some (.inl (pc', L', st', x')) := hx
  obtain ⟨v, st1, rfl, hy⟩ := p1i_some hx
  obtain ⟨j, a, r, rfl, hw⟩ := pix_some hy
  obtain ⟨hin, hk, hz⟩ := snA20 hw
  cases hz
  obtain ⟨k1, k2, k3, k4⟩ := snAt hk (by decide)
  have he := snWs_get (od := od) (sz0 := sz0) (tyc := tyc) k3 k1
  rw [snE_20 k2] at he
  rw [k4] at hin
  refine va_iast C.1 C.2.1 hEnv.2.2.1 hI.2.1 (snWs_D x) hI.2.2.1 (a - 14) 0 he rfl (zmIn_in hin) hd ?_
  exact snRow (x' := sI x a j.toNatClampNeg v) hI k1 k3 rfl (by rw [snE_20 k2, snUpd rfl]) (fun i hi => snE_sI hi) (snOld_sI hI.2.2.2 k3) (fun ls' H' locs' q => kk ls' H' locs' q)
theorem snS_lastore (C : snCx od sz0 Ls oI oL D tyc p s m args meth c μ n0) (hd : decode (snB μ) pc = .ok (.lastore, len)) (h2 : snOk2 (snN μ).cls μ pc (.lastore, len, r5, iv, lv) = true) (hx : zmX (.lastore, len, r5, iv, lv) pc L st x = some (.inl (pc', L', st', x'))) (hI : snInv od sz0 Ls oI oL D tyc s H locs ls (snL μ) L x) (hn0 : n0 ≤ x.1.1) (hR : x'.1.1 - n0 ≤ R.cells ∧ snSum x'.1.1 - snSum n0 ≤ R.slots ∧ 64 ≤ R.locals ∧ 1 ≤ R.frames) (kk : ∀ (ls' : Array Slot) (H' : Heap) (locs' : List Loc), snInv od sz0 Ls oI oL D tyc s H' locs' ls' (snL μ) L' x' → W p l e R s m args below meth c H' locs' (x'.1.1 - n0) (snSum x'.1.1 - snSum n0) Q (F0 m pc' ls' (st'.map (snV od sz0)))) : W p l e R s m args below meth c H locs (x.1.1 - n0) (snSum x.1.1 - snSum n0) Q (F0 m pc ls (st.map (snV od sz0))) := by
  have h2 : Nat.beq len 1 = true := h2
  obtain rfl := Nat.eq_of_beq_eq_true h2
  have hEnv := C.2.2.2.2.2.1
  have hx : p1l st (fun v st => pix st (fun j a r => if zmIn j (zmLen a x) = true then (match zmKd a x with
      | 21 => some (.inl (pc + 1, L, r, sL x a j.toNatClampNeg v))
      | _ => none) else none)) = some (.inl (pc', L', st', x')) := hx
  obtain ⟨v, st1, rfl, hy⟩ := p1l_some hx
  obtain ⟨j, a, r, rfl, hw⟩ := pix_some hy
  obtain ⟨hin, hk, hz⟩ := snA21 hw
  cases hz
  obtain ⟨k1, k2, k3, k4⟩ := snAt hk (by decide)
  have he := snWs_get (od := od) (sz0 := sz0) (tyc := tyc) k3 k1
  rw [snE_21 k2] at he
  rw [k4] at hin
  refine va_last C.1 C.2.1 hEnv.2.2.1 hI.2.1 (snWs_D x) hI.2.2.1 (a - 14) 1 he rfl (zmIn_in hin) hd ?_
  exact snRow (x' := sL x a j.toNatClampNeg v) hI k1 k3 rfl (by rw [snE_21 k2, snUpdL]) (fun i hi => snE_sL hi) (snOld_sL hI.2.2.2 k3) (fun ls' H' locs' q => kk ls' H' locs' q)
theorem snS_bastore (C : snCx od sz0 Ls oI oL D tyc p s m args meth c μ n0) (hd : decode (snB μ) pc = .ok (.bastore, len)) (h2 : snOk2 (snN μ).cls μ pc (.bastore, len, r5, iv, lv) = true) (hx : zmX (.bastore, len, r5, iv, lv) pc L st x = some (.inl (pc', L', st', x'))) (hI : snInv od sz0 Ls oI oL D tyc s H locs ls (snL μ) L x) (hn0 : n0 ≤ x.1.1) (hR : x'.1.1 - n0 ≤ R.cells ∧ snSum x'.1.1 - snSum n0 ≤ R.slots ∧ 64 ≤ R.locals ∧ 1 ≤ R.frames) (kk : ∀ (ls' : Array Slot) (H' : Heap) (locs' : List Loc), snInv od sz0 Ls oI oL D tyc s H' locs' ls' (snL μ) L' x' → W p l e R s m args below meth c H' locs' (x'.1.1 - n0) (snSum x'.1.1 - snSum n0) Q (F0 m pc' ls' (st'.map (snV od sz0)))) : W p l e R s m args below meth c H locs (x.1.1 - n0) (snSum x.1.1 - snSum n0) Q (F0 m pc ls (st.map (snV od sz0))) := by
  have h2 : Nat.beq len 1 = true := h2
  obtain rfl := Nat.eq_of_beq_eq_true h2
  have hEnv := C.2.2.2.2.2.1
  have hx : p1i st (fun v st => pix st (fun j a r => if zmIn j (zmLen a x) = true then (match zmKd a x with
      | 22 => some (.inl (pc + 1, L, r, sI x a j.toNatClampNeg v.toInt8.toInt32))
      | 23 => if v = 0 ∨ v = 1 then some (.inl (pc + 1, L, r, sI x a j.toNatClampNeg v)) else none
      | _ => none) else none)) = some (.inl (pc', L', st', x')) := hx
  obtain ⟨v, st1, rfl, hy⟩ := p1i_some hx
  obtain ⟨j, a, r, rfl, hw⟩ := pix_some hy
  rcases snABst hw with ⟨hin, ⟨hk, hz⟩ | ⟨hk, hv, hz⟩⟩
  · cases hz
    obtain ⟨k1, k2, k3, k4⟩ := snAt hk (by decide)
    have he := snWs_get (od := od) (sz0 := sz0) (tyc := tyc) k3 k1
    rw [snE_22 k2] at he
    rw [k4] at hin
    refine va_bast C.1 C.2.1 hEnv.2.2.1 hI.2.1 (snWs_D x) hI.2.2.1 (a - 14) 2 he rfl (zmIn_in hin) hd ?_
    exact snRow (x' := sI x a j.toNatClampNeg v.toInt8.toInt32) hI k1 k3 rfl (by rw [snE_22 k2, vp_nar_byte, snUpd rfl]) (fun i hi => snE_sI hi) (snOld_sI hI.2.2.2 k3) (fun ls' H' locs' q => kk ls' H' locs' q)
  · cases hz
    obtain ⟨k1, k2, k3, k4⟩ := snAt hk (by decide)
    have he := snWs_get (od := od) (sz0 := sz0) (tyc := tyc) k3 k1
    rw [snE_23 k2] at he
    rw [k4] at hin
    have hnar : vp_nar .boolean v = v := by rcases hv with rfl | rfl <;> rfl
    refine va_zast C.1 C.2.1 hEnv.2.2.1 hI.2.1 (snWs_D x) hI.2.2.1 (a - 14) 3 he rfl (zmIn_in hin) hd ?_
    exact snRow (x' := sI x a j.toNatClampNeg v) hI k1 k3 rfl (by rw [snE_23 k2, hnar, snUpd rfl]) (fun i hi => snE_sI hi) (snOld_sI hI.2.2.2 k3) (fun ls' H' locs' q => kk ls' H' locs' q)
theorem snS_aastore (C : snCx od sz0 Ls oI oL D tyc p s m args meth c μ n0) (hd : decode (snB μ) pc = .ok (.aastore, len)) (h2 : snOk2 (snN μ).cls μ pc (.aastore, len, r5, iv, lv) = true) (hx : zmX (.aastore, len, r5, iv, lv) pc L st x = some (.inl (pc', L', st', x'))) (hI : snInv od sz0 Ls oI oL D tyc s H locs ls (snL μ) L x) (hn0 : n0 ≤ x.1.1) (hR : x'.1.1 - n0 ≤ R.cells ∧ snSum x'.1.1 - snSum n0 ≤ R.slots ∧ 64 ≤ R.locals ∧ 1 ≤ R.frames) (kk : ∀ (ls' : Array Slot) (H' : Heap) (locs' : List Loc), snInv od sz0 Ls oI oL D tyc s H' locs' ls' (snL μ) L' x' → W p l e R s m args below meth c H' locs' (x'.1.1 - n0) (snSum x'.1.1 - snSum n0) Q (F0 m pc' ls' (st'.map (snV od sz0)))) : W p l e R s m args below meth c H locs (x.1.1 - n0) (snSum x.1.1 - snSum n0) Q (F0 m pc ls (st.map (snV od sz0))) := by
  have h2 : Nat.beq len 1 = true := h2
  obtain rfl := Nat.eq_of_beq_eq_true h2
  have hEnv := C.2.2.2.2.2.1
  have hx : p1r st (fun v st => pix st (fun j a r => if zmIn j (zmLen a x) = true then (match zmKd a x, zmKd v x with
      | 24, 10 => some (.inl (pc + 1, L, r, sR x a j.toNatClampNeg (some v)))
      | _, _ => none) else none)) = some (.inl (pc', L', st', x')) := hx
  obtain ⟨v, st1, rfl, hy⟩ := p1r_some hx
  obtain ⟨j, a, r, rfl, hw⟩ := pix_some hy
  obtain ⟨hin, hk, hkv, hz⟩ := snAast hw
  cases hz
  obtain ⟨k1, k2, k3, k4⟩ := snAt hk (by decide)
  obtain ⟨v1, v2, v3, v4⟩ := snAt hkv (by decide)
  have he := snWs_get (od := od) (sz0 := sz0) (tyc := tyc) k3 k1
  rw [snE_24 k2] at he
  have hev := snWs_get (od := od) (sz0 := sz0) (tyc := tyc) v3 v1
  rw [snE_obj v2 (by decide)] at hev
  rw [k4] at hin
  refine va_astq C.1 C.2.1 hEnv.2.2.1 hI.2.1 (snWs_D x) hI.2.2.1 (a - 14) 4 (v - 14) 10 (r := (RX10, TX10, 8)) he rfl hev rfl (zmIn_in hin) hd ?_
  exact snRow (x' := sR x a j.toNatClampNeg (some v)) hI k1 k3 rfl (by rw [snE_24 k2, snUpdR]) (fun i hi => snE_sR hi) (snOld_sR hI.2.2.2) (fun ls' H' locs' q => kk ls' H' locs' q)
def snKinds : Bool := (List.range 147).all fun k => decide ((zmLay k).1 < 25 ∨ (zmLay k).1 = 30 ∨ (zmLay k).1 = 40 ∨ (zmLay k).1 = 41 ∨ (zmLay k).1 = 42)
theorem snS_arraylength (C : snCx od sz0 Ls oI oL D tyc p s m args meth c μ n0) (hd : decode (snB μ) pc = .ok (.arraylength, len)) (h2 : snOk2 (snN μ).cls μ pc (.arraylength, len, r5, iv, lv) = true) (hx : zmX (.arraylength, len, r5, iv, lv) pc L st x = some (.inl (pc', L', st', x'))) (hI : snInv od sz0 Ls oI oL D tyc s H locs ls (snL μ) L x) (hn0 : n0 ≤ x.1.1) (hR : x'.1.1 - n0 ≤ R.cells ∧ snSum x'.1.1 - snSum n0 ≤ R.slots ∧ 64 ≤ R.locals ∧ 1 ≤ R.frames) (kk : ∀ (ls' : Array Slot) (H' : Heap) (locs' : List Loc), snInv od sz0 Ls oI oL D tyc s H' locs' ls' (snL μ) L' x' → W p l e R s m args below meth c H' locs' (x'.1.1 - n0) (snSum x'.1.1 - snSum n0) Q (F0 m pc' ls' (st'.map (snV od sz0)))) : W p l e R s m args below meth c H locs (x.1.1 - n0) (snSum x.1.1 - snSum n0) Q (F0 m pc ls (st.map (snV od sz0))) := by
  have h2 : Nat.beq len 1 = true := h2
  obtain rfl := Nat.eq_of_beq_eq_true h2
  have hEnv := C.2.2.2.2.2.1
  have hx : p1r st (fun a r => if 20 ≤ zmKd a x ∧ zmKd a x < 50 ∧ zmKd a x ≠ 30 then some (.inl (pc + 1, L, .int (Int32.ofNat (zmLen a x)) :: r, x)) else none) = some (.inl (pc', L', st', x')) := hx
  obtain ⟨a, r, rfl, hy⟩ := p1r_some hx
  by_cases hc : 20 ≤ zmKd a x ∧ zmKd a x < 50 ∧ zmKd a x ≠ 30
  · rw [if_pos hc] at hy
    cases hy
    obtain ⟨q1, q2, q3⟩ := hc
    obtain ⟨k1, k2, k3⟩ := zmKd_spec (rfl : zmKd a x = zmKd a x) (by omega)
    have hpl := snPlan_at k3
    have kf := kk ls H locs hI
    by_cases h25 : zmKd a x < 25
    · have k4 := hpl.2.2.1 (by omega)
      have k5 : zmLen a x = (zmLay a).2 := if_neg (by omega)
      have he := snWs_get (od := od) (sz0 := sz0) (tyc := tyc) k4 k1
      have hkk : zmKd a x = 20 ∨ zmKd a x = 21 ∨ zmKd a x = 22 ∨ zmKd a x = 23 ∨ zmKd a x = 24 := by omega
      rcases hkk with h | h | h | h | h <;> rw [h] at k2
      · rw [snE_20 k2] at he
        exact va_alen C.1 C.2.1 hEnv.2.2.1 hI.2.1 (a - 14) 0 he rfl (by rw [k5]) hd kf
      · rw [snE_21 k2] at he
        exact va_alen C.1 C.2.1 hEnv.2.2.1 hI.2.1 (a - 14) 1 he rfl (by rw [k5]) hd kf
      · rw [snE_22 k2] at he
        exact va_alen C.1 C.2.1 hEnv.2.2.1 hI.2.1 (a - 14) 2 he rfl (by rw [k5]) hd kf
      · rw [snE_23 k2] at he
        exact va_alen C.1 C.2.1 hEnv.2.2.1 hI.2.1 (a - 14) 3 he rfl (by rw [k5]) hd kf
      · rw [snE_24 k2] at he
        exact va_alen C.1 C.2.1 hEnv.2.2.1 hI.2.1 (a - 14) 4 he rfl (by rw [k5]) hd kf
    · have hpk : (zmLay a).1 = 40 ∨ (zmLay a).1 = 41 ∨ (zmLay a).1 = 42 := by
        have h1 : snKinds = true := by decide +kernel
        have h2 := List.all_eq_true.mp h1 a (List.mem_range.mpr k3)
        rw [k2] at h2
        have h3 := of_decide_eq_true h2
        rw [k2]
        omega
      show W p l e R s m args below meth c H locs _ _ Q (F0 m pc ls (.ref (snAd od sz0 a) :: r.map (snV od sz0)))
      rcases hpk with h | h | h
      · have k4 := hpl.2.2.2.2.1 h
        have e3 : snAd od sz0 a = od a := if_pos (by omega)
        rw [e3]
        rcases Nat.le_one_iff_eq_zero_or_eq_one.mp k4 with rfl | rfl
        · have hL : zmLen 0 x = Ls := hI.2.2.2.2.1
          exact va_tlen C.1 C.2.1 hEnv.2.2.2.2.2.2.2.1 hI.2.2.1 (by rw [hL]) hd kf
        · exact va_tlen C.1 C.2.1 hEnv.2.2.2.2.2.2.2.2.1 hI.2.2.1 (by rfl) hd kf
      · have k4 := hpl.2.2.2.2.2.1 h
        have e3 : snAd od sz0 a = od a := if_pos (by omega)
        rw [e3]
        have k5 := snE23 k4
        rcases k5 with rfl | rfl
        · exact va_tlen C.1 C.2.1 hEnv.2.2.2.2.2.2.2.2.2.1 hI.2.2.1 (by rfl) hd kf
        · exact va_tlen C.1 C.2.1 hEnv.2.2.2.2.2.2.2.2.2.2.1 hI.2.2.1 (by rfl) hd kf
      · obtain ⟨g1, g2, g3⟩ := hpl.2.2.2.2.2.2 h
        have e3 : snAd od sz0 a = od a := if_pos (by omega)
        rw [e3]
        have hs := (hEnv.2.2.2.2.2.2.2.2.2.2.2.1 (a - 9) (by omega)).2.2.2
        rw [show 9 + (a - 9) = a from Nat.add_sub_cancel' g1] at hs
        have hlen : zmLen a x = snSl (a - 9) := (if_neg (by omega) : zmLen a x = (zmLay a).2).trans g3
        exact va_tlen C.1 C.2.1 hs hI.2.2.1 (by rw [hlen]) hd kf
  · rw [if_neg hc] at hy
    cases hy
end SC
