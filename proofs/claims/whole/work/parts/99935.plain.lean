/-! ===== the same for methods of a class that has natives of other names (Math.max, Math.min): no row for the method itself is enough ===== -/
theorem metF_ofW {l : Launch} {y : MethodName} {ws ws' : List Jvm.Cond} {rm : Room} {Pc : Array Value → State → Prop} {Qc : Array Value → State → Outcome → State → Prop} {mc ms : Nat} {free : Addr → Prop} {cc : ByteArray} {maxL : Nat} {ret : Option FieldType} (hy : plainFor y = true) (hw : ws = Cond.code y cc maxL ret :: ws') (body : ∀ p e s m args below meth c s₁, BodyLoose p l y (headSpec ws rm) cc maxL ret e s m args below meth c s₁ → c.maxLocals = maxL → Pc args s → W p l e (headSpec ws rm).room s m args below meth c s.heap [] 0 0 (MQ below Qc args s mc ms free) (entryFrame m args maxL)) : Met l y ws rm Pc Qc mc ms free := by
  refine MetFree.of_bodySF (code := cc) (maxLocals := maxL) (ret := ret) hy (fun args s m h hn => ?_) (fun p e s m args below meth c s₁ B hml hP _ => ?_)
  · obtain ⟨meth, c, h1, h2, h3, h4, h5, h6, -, -⟩ := Cond.code_spec hn (atoms_spec (ws := ws) h _ (by rw [hw]; exact List.mem_cons_self))
    exact ⟨meth, c, h1, h2, h3, h4, h5, h6⟩
  · obtain ⟨t, a1, o, b1, b2, b3⟩ := body p e s m args below meth c s₁ B hml hP s₁ (by rw [B.state]; rfl) (Stand.of_body B)
    exact ⟨t, o, a1, b1, b2, b3⟩
section SF
variable {od : Nat → Nat} {sz0 Ls : Nat} {oI : Nat → Nat → Int32} {oL : Nat → Nat → Int64} {D : va_G} {tyc : Nat → ClassId} {l : Launch}
theorem snMetF (hmo : ∀ ν, 0 < ν → ν < 293 → snMokF ν = true) {k : Nat} (hF : snF od sz0 Ls oI oL D tyc l k) {d ν : Nat} {as : List Value} {x x' : zmH} {v : Option Value} (h0 : 0 < ν) (h1 : ν < 293) (hr : zmRun k d ν 0 (zmIni ν as) [] x = some (v, x')) (hf : zmFit ν as = true) : Met l (snN ν) (snWsM ν) (snRm d (x'.1.1 - x.1.1) (snSum x'.1.1 - snSum x.1.1)) (snPc od sz0 Ls oI oL D tyc as x) (snQc od sz0 Ls oI oL D tyc v x') (x'.1.1 - x.1.1) (snSum x'.1.1 - snSum x.1.1) (snA sz0) := by
  have hm := hmo ν h0 h1
  obtain ⟨m1, hm⟩ := snB2 hm
  obtain ⟨m2, hm⟩ := snB2 hm
  obtain ⟨m3, hm⟩ := snB2 hm
  refine metF_ofW (cc := snB ν) (maxL := snL ν) (ret := snR ν) m3 rfl ?_
  intro p e s m args below meth c s₁ B hml hv
  obtain ⟨rfl, hsz, hE, hP, hO⟩ := hv
  have hts0 := atoms_spec (ws := snWsM ν) B.pre
  have C : snCx od sz0 Ls oI oL D tyc p s m (as.map (snV od sz0)).toArray meth c ν x.1.1 := by
    refine ⟨B.exec, B.bytes, hml, findClass_of_methodNamed B.named, fun w hw hg => ?_, hE, fun h => (name_of_methodNamed B.named B.method).1.trans h, hsz, hO.1, B.notSynchronized⟩
    cases hgw : goodWord w with
    | true => exact hts0 w (List.mem_cons_of_mem _ (List.mem_filter.mpr ⟨hw, hgw⟩))
    | false =>
      rw [hgw] at hg
      have hn : snNest w = true := hg
      exact va_Nw.use (snNest_tab hn) (hE.2.1 w hw hn)
  rw [lg_entry_eq]
  have key := hF d ν 0 (zmIni ν as) [] x v x' h1 hr p e (headSpec (snWsM ν) (snRm d (x'.1.1 - x.1.1) (snSum x'.1.1 - snSum x.1.1))).room s m (as.map (snV od sz0)).toArray below meth c s.heap [] _ x.1.1 (MQ below (snQc od sz0 Ls oI oL D tyc v x') (as.map (snV od sz0)).toArray s (x'.1.1 - x.1.1) (snSum x'.1.1 - snSum x.1.1) (snA sz0)) C ⟨snIni_loc hf, hP, va_S.rf, hO⟩ (Nat.le_refl _) ⟨Nat.le_refl _, Nat.le_refl _, Nat.le_refl _, Nat.le_refl _⟩ ?_
  · rw [Nat.sub_self, Nat.sub_self] at key
    exact key
  · intro pc L st i H locs ls hx hok hI
    obtain ⟨ins, len, ⟨ra, rb, rc, rd, re⟩, iv, lv⟩ := i
    obtain ⟨hd0, h2⟩ := snB2 hok
    have hd := of_decide_eq_true hd0
    have hq : ∀ t : State, t.heap = H → s.WarmedH t.vm → snQc od sz0 Ls oI oL D tyc v x' (as.map (snV od sz0)).toArray s (.returned (v.map (snV od sz0))) t := fun t ht _ => ⟨rfl, by rw [ht]; exact hI.2.1, va_S.F hI.2.2.1 ht, hI.2.2.2⟩
    rcases zmX_ret hx with ⟨rfl, w, rfl, rfl, hw⟩ | ⟨rfl, w, rfl, rfl⟩ | ⟨rfl, hw⟩ | ⟨rfl, rfl, rfl⟩
    · rcases hw with rfl | ⟨rfl, hw⟩ | ⟨rfl, hw⟩
      · have h2 : (Nat.beq len 1 && decide (snR ν = some .int)) = true := h2
        obtain ⟨h2, h3⟩ := snB2 h2
        obtain rfl := Nat.eq_of_beq_eq_true h2
        exact W.iret B.exec B.bytes (B.returns.trans (of_decide_eq_true h3)) hq hI.2.2.1.2.2 hd
      · have h2 : (Nat.beq len 1 && decide (snR ν = some .boolean)) = true := h2
        obtain ⟨h2, h3⟩ := snB2 h2
        obtain rfl := Nat.eq_of_beq_eq_true h2
        exact W.zret B.exec B.bytes (B.returns.trans (of_decide_eq_true h3)) (by rcases hw with rfl | rfl <;> rfl) hq hI.2.2.1.2.2 hd
      · have h2 : (Nat.beq len 1 && decide (snR ν = some .byte)) = true := h2
        obtain ⟨h2, h3⟩ := snB2 h2
        obtain rfl := Nat.eq_of_beq_eq_true h2
        exact W.zret B.exec B.bytes (B.returns.trans (of_decide_eq_true h3)) (by rcases hw with rfl | rfl <;> rfl) hq hI.2.2.1.2.2 hd
    · have h2 : (Nat.beq len 1 && decide (snR ν = some .long)) = true := h2
      obtain ⟨h2, h3⟩ := snB2 h2
      obtain rfl := Nat.eq_of_beq_eq_true h2
      exact W.lret B.exec B.bytes (B.returns.trans (of_decide_eq_true h3)) hq hI.2.2.1.2.2 hd
    · have h2 : (Nat.beq len 1 && (match snR ν with
        | some (.object _) => true
        | _ => false)) = true := h2
      obtain ⟨h2, h3⟩ := snB2 h2
      obtain rfl := Nat.eq_of_beq_eq_true h2
      obtain ⟨n, hn⟩ := snAretR h3
      rcases hw with ⟨w, rfl, rfl⟩ | ⟨rfl, rfl⟩
      · exact W.aret B.exec B.bytes (B.returns.trans hn) (Or.inl ⟨n, rfl⟩) (Or.inr ⟨_, rfl⟩) hq hI.2.2.1.2.2 hd
      · exact W.aret B.exec B.bytes (B.returns.trans hn) (Or.inl ⟨n, rfl⟩) (Or.inl rfl) hq hI.2.2.1.2.2 hd
    · have h2 : (Nat.beq len 1 && decide (snR ν = none)) = true := h2
      obtain ⟨h2, h3⟩ := snB2 h2
      obtain rfl := Nat.eq_of_beq_eq_true h2
      exact W.vret B.exec B.bytes (B.returns.trans (of_decide_eq_true h3)) hq hI.2.2.1.2.2 hd
variable {p : Program} {e : Env} {R : Room} {s : State} {m : MethodId} {args : Array Value} {below : List Frame} {meth : Method} {c : Code} {H : Heap} {locs : List Loc} {Q : State → Prop}
variable {μ n0 pc : Nat} {L st : List Value} {x : zmH} {ls : Array Slot}
set_option maxHeartbeats 1000000 in
theorem snCallWF (hmo : ∀ ν, 0 < ν → ν < 293 → snMokF ν = true) (how : ∀ ν, ν < 293 → snOwnOk ν = true) {k d ν : Nat} {i : zmI} {as rest : List Value} {w : Option Value} {x1 : zmH} (ih : snF od sz0 Ls oI oL D tyc l k) (C : snCx od sz0 Ls oI oL D tyc p s m args meth c μ n0) (hok : snOk μ pc i = true) (hx : zmX i pc L st x = some (.inr (.inr (ν, as, rest)))) (hc : zmRun k d ν 0 (zmIni ν as) [] x = some (w, x1)) (hI : snInv od sz0 Ls oI oL D tyc s H locs ls (snL μ) L x) (hn0 : n0 ≤ x.1.1) (hR : x1.1.1 - n0 ≤ R.cells ∧ snSum x1.1.1 - snSum n0 ≤ R.slots ∧ 64 * (d + 2) ≤ R.locals ∧ d + 2 ≤ R.frames)
    (kk : ∀ (H' : Heap) (locs' : List Loc), snInv od sz0 Ls oI oL D tyc s H' locs' ls (snL μ) L x1 → W p l e R s m args below meth c H' locs' (x1.1.1 - n0) (snSum x1.1.1 - snSum n0) Q (F0 m (pc + 3) ls ((w.toList ++ rest).map (snV od sz0)))) : W p l e R s m args below meth c H locs (x.1.1 - n0) (snSum x.1.1 - snSum n0) Q (F0 m pc ls (st.map (snV od sz0))) := by
  obtain ⟨ins, len, ⟨ra, rb, rc, rd, re⟩, iv, lv⟩ := i
  obtain ⟨hd0, h2⟩ := snB2 hok
  have hd := of_decide_eq_true hd0
  have hle := zmRun_le _ _ _ _ _ _ _ _ _ hc
  obtain ⟨hν, hlow, hfit, hcase⟩ := zmX_call hx
  subst hν
  refine snSize C hI hn0 (fun hH => ?_)
  have s1 := snSum_mono hn0
  have s2 := snSum_mono hle
  -- what the tables say of the method that is called
  have common : 0 < ν → ν < 293 → (∀ w ∈ snWsM ν, w.before args s = true) ∧ (Cond.initialized (snN ν).cls).before args s = true ∧ (snN ν).cls ≠ "java/lang/invoke/MethodHandle" ∧ (snN ν).cls ≠ "java/lang/invoke/VarHandle" ∧ 8 + (snL ν + 11) + 64 * (d + 1) ≤ R.locals := by
    intro h0 h1
    have hm := hmo ν h0 h1
    obtain ⟨m1, hm⟩ := snB2 hm
    obtain ⟨m2, hm⟩ := snB2 hm
    obtain ⟨m3, hm⟩ := snB2 hm
    obtain ⟨m4, hm⟩ := snB2 hm
    obtain ⟨m5, m6⟩ := snB2 hm
    have m6 : snL ν ≤ 40 := Nat.le_of_ble_eq_true m6
    refine ⟨fun w hw => ?_, snW_spec C m2, of_decide_eq_true m4, of_decide_eq_true m5, by omega⟩
    rcases List.mem_cons.mp hw with rfl | h
    · exact snW_spec C m1
    · obtain ⟨g1, g2⟩ := List.mem_filter.mp h
      exact C.2.2.2.2.1 w g1 (by rw [g2]; rfl)
  have hPc : ∀ U : State, U.heap = H → s.WarmedH U.vm → snPc od sz0 Ls oI oL D tyc as x (as.map (snV od sz0)).toArray U := fun U hU hW => ⟨rfl, by rw [hU]; exact hH, snEnv_warm hW (by rw [hU]; exact hI.2.2.1.1) (fun q g1 g2 => by rw [hU]; exact hI.2.2.1.2.1 q g1 g2) C.2.2.2.2.2.1, by rw [hU]; exact hI.2.1, hI.2.2.2⟩
  have hf : x.1.1 - n0 + (x1.1.1 - x.1.1) ≤ R.cells ∧ snSum x.1.1 - snSum n0 + (snSum x1.1.1 - snSum x.1.1) ≤ R.slots := by
    obtain ⟨r1, r2, -, -⟩ := hR
    omega
  rcases hcase with ⟨kx, rfl, rfl, has, hrest, hlen⟩ | ⟨kx, b, rfl, rfl, hdrop, has, hrecv⟩ | ⟨kx, b, rfl, rfl, hdrop, has, hrecv⟩
  · have h2 : (Nat.beq len 3 && (Nat.beq 0 0 && snCall (snN μ).cls kx (0, ν, rc, rd, re))) = true := h2
    obtain ⟨h2, h3⟩ := snB2 h2
    obtain rfl := Nat.eq_of_beq_eq_true h2
    obtain ⟨-, h3⟩ := snB2 h3
    obtain ⟨f0, h3⟩ := snB2 h3
    obtain ⟨f1, h3⟩ := snB2 h3
    obtain ⟨f2, h3⟩ := snB2 h3
    obtain ⟨f3, f4⟩ := snB2 h3
    have f0 : 0 < ν := Nat.le_of_ble_eq_true f0
    have f1 : ν < 293 := Nat.le_of_ble_eq_true f1
    have f4 : snW (snMt ν).2.2.1 (.static (snN ν)) = true := f4
    obtain ⟨w1, w2, w3, w4, w5⟩ := common f0 f1
    have hM := snMetF hmo ih f0 f1 hc hfit
    have hlenA : (as.map (snV od sz0)).length = rc := by
      rw [List.length_map, has, List.length_reverse, List.length_take, Nat.min_eq_left hlen]
    have hstack : st.map (snV od sz0) = (as.map (snV od sz0)).reverse ++ rest.map (snV od sz0) := by
      rw [← List.map_reverse, ← List.map_append, has, List.reverse_reverse, hrest, List.take_append_drop]
    unfold snMl at f2
    cases hn : Nat.beq re 1 with
    | false =>
      rw [hn] at f2
      have cb := callB_of (R := R) (s := s) (args := args) (own := (snN μ).cls) (index := kx) (y := snN ν) (bytes := snB ν) (maxL := snL ν) (ret := snR ν) (rm := snRm d (x1.1.1 - x.1.1) (snSum x1.1.1 - snSum x.1.1)) rc w1 (snGoodM ν) rfl rfl rfl w2 (snW_spec C f2) ⟨w3, w4, of_decide_eq_true f3⟩ ⟨hR.2.2.2, w5⟩
      exact snBack (va_runS (rest := rest.map (snV od sz0)) (As := as.map (snV od sz0)) ⟨C.1, C.2.1, C.2.2.1, C.2.2.2.1, w1⟩ hM ⟨cb, snW_spec C f4⟩ ⟨snBlind, hPc⟩ rfl hlenA hI.1.1 hstack (lv_room (snLow hlow)) hd hf) hI hn0 hle kk
    | true =>
      rw [hn] at f2
      have cb := va_cnB (R := R) (s := s) (args := args) (own := (snN μ).cls) (host := "RunForIt") (index := kx) (y := snN ν) (bytes := snB ν) (maxL := snL ν) (ret := snR ν) (rm := snRm d (x1.1.1 - x.1.1) (snSum x1.1.1 - snSum x.1.1)) rc w1 (snGoodM ν) rfl rfl rfl (va_Nw.of rfl (snW_spec C f2)) w2 ⟨w3, w4, of_decide_eq_true f3⟩ ⟨hR.2.2.2, w5⟩
      exact snBack (va_runSN (rest := rest.map (snV od sz0)) (As := as.map (snV od sz0)) ⟨C.1, C.2.1, C.2.2.1, C.2.2.2.1, w1⟩ hM ⟨cb, snW_spec C f4, trivial⟩ ⟨snBlind, hPc⟩ rfl hlenA hI.1.1 hstack (lv_room (snLow hlow)) hd hf) hI hn0 hle kk
  · have h2 : (Nat.beq len 3 && (Nat.beq 1 1 && snCall (snN μ).cls kx (1, ν, rc, rd, re))) = true := h2
    obtain ⟨h2, h3⟩ := snB2 h2
    obtain rfl := Nat.eq_of_beq_eq_true h2
    obtain ⟨-, h3⟩ := snB2 h3
    obtain ⟨f0, h3⟩ := snB2 h3
    obtain ⟨f1, h3⟩ := snB2 h3
    obtain ⟨f2, h3⟩ := snB2 h3
    obtain ⟨f3, f4⟩ := snB2 h3
    have f0 : 0 < ν := Nat.le_of_ble_eq_true f0
    have f1 : ν < 293 := Nat.le_of_ble_eq_true f1
    have f4 : (snW (snMt ν).2.2.1 (.instanceMethod (snN ν)) && snW (snMt ν).2.2.2 (.selects (snN ν).cls (snN ν) (snN ν))) = true := f4
    obtain ⟨f4, f5⟩ := snB2 f4
    obtain ⟨w1, w2, w3, w4, w5⟩ := common f0 f1
    have hM := snMetF hmo ih f0 f1 hc hfit
    have hlen : rc ≤ st.length := by
      rcases Nat.lt_or_ge st.length rc with q | q
      · rw [List.drop_eq_nil_of_le (Nat.le_of_lt q)] at hdrop
        cases hdrop
      · exact q
    generalize has2 : (st.take rc).reverse = as2 at has
    have hlenA : (as2.map (snV od sz0)).length = rc := by
      rw [List.length_map, ← has2, List.length_reverse, List.length_take, Nat.min_eq_left hlen]
    have hstack : st.map (snV od sz0) = (as2.map (snV od sz0)).reverse ++ .ref (snAd od sz0 b) :: rest.map (snV od sz0) := by
      have e1 : st = as2.reverse ++ .ref b :: rest := by rw [← has2, List.reverse_reverse, ← hdrop, List.take_append_drop]
      rw [e1, List.map_append, List.map_reverse]
      rfl
    subst has
    have hrc := snRecv (how ν f1) C hI hrecv
    unfold snMl at f2
    cases hn : Nat.beq re 1 with
    | false =>
      rw [hn] at f2
      have cb := callB_of (R := R) (s := s) (args := args) (own := (snN μ).cls) (index := kx) (y := snN ν) (bytes := snB ν) (maxL := snL ν) (ret := snR ν) (rm := snRm d (x1.1.1 - x.1.1) (snSum x1.1.1 - snSum x.1.1)) rc w1 (snGoodM ν) rfl rfl rfl w2 (snW_spec C f2) ⟨w3, w4, of_decide_eq_true f3⟩ ⟨hR.2.2.2, w5⟩
      exact snBack (va_runV (C := (snN ν).cls) (b := snAd od sz0 b) (rest := rest.map (snV od sz0)) (As := as2.map (snV od sz0)) ⟨C.1, C.2.1, C.2.2.1, C.2.2.2.1, w1⟩ hM ⟨cb, snW_spec C f4, snW_spec C f5⟩ ⟨snBlind, hrc, hPc⟩ rfl hlenA hI.1.1 hstack (lv_room (snLow hlow)) hd hf) hI hn0 hle kk
    | true =>
      rw [hn] at f2
      have cb := va_cnB (R := R) (s := s) (args := args) (own := (snN μ).cls) (host := "RunForIt") (index := kx) (y := snN ν) (bytes := snB ν) (maxL := snL ν) (ret := snR ν) (rm := snRm d (x1.1.1 - x.1.1) (snSum x1.1.1 - snSum x.1.1)) rc w1 (snGoodM ν) rfl rfl rfl (va_Nw.of rfl (snW_spec C f2)) w2 ⟨w3, w4, of_decide_eq_true f3⟩ ⟨hR.2.2.2, w5⟩
      exact snBack (va_runVN (C := (snN ν).cls) (b := snAd od sz0 b) (rest := rest.map (snV od sz0)) (As := as2.map (snV od sz0)) ⟨C.1, C.2.1, C.2.2.1, C.2.2.2.1, w1⟩ hM ⟨cb, snW_spec C f4, snW_spec C f5⟩ ⟨snBlind, hrc, hPc⟩ rfl hlenA hI.1.1 hstack (lv_room (snLow hlow)) hd hf) hI hn0 hle kk
  · have h2 : (Nat.beq len 3 && (Nat.beq 2 2 && snCall (snN μ).cls kx (2, ν, rc, rd, re))) = true := h2
    obtain ⟨h2, h3⟩ := snB2 h2
    obtain rfl := Nat.eq_of_beq_eq_true h2
    obtain ⟨-, h3⟩ := snB2 h3
    obtain ⟨f0, h3⟩ := snB2 h3
    obtain ⟨f1, h3⟩ := snB2 h3
    obtain ⟨f2, h3⟩ := snB2 h3
    obtain ⟨f3, f4⟩ := snB2 h3
    have f0 : 0 < ν := Nat.le_of_ble_eq_true f0
    have f1 : ν < 293 := Nat.le_of_ble_eq_true f1
    have f4 : (snW (snMt ν).2.2.1 (.instanceMethod (snN ν)) && (decide ((snN ν).name = "<init>") && decide (snR ν = none))) = true := f4
    obtain ⟨f4, f5⟩ := snB2 f4
    obtain ⟨f5, f6⟩ := snB2 f5
    have f6 := of_decide_eq_true f6
    obtain ⟨w1, w2, w3, w4, w5⟩ := common f0 f1
    have hM := snMetF hmo ih f0 f1 hc hfit
    have hlen : rc ≤ st.length := by
      rcases Nat.lt_or_ge st.length rc with q | q
      · rw [List.drop_eq_nil_of_le (Nat.le_of_lt q)] at hdrop
        cases hdrop
      · exact q
    generalize has2 : (st.take rc).reverse = as2 at has
    have hlenA : (as2.map (snV od sz0)).length = rc := by
      rw [List.length_map, ← has2, List.length_reverse, List.length_take, Nat.min_eq_left hlen]
    have hstack : st.map (snV od sz0) = (as2.map (snV od sz0)).reverse ++ .ref (snAd od sz0 b) :: rest.map (snV od sz0) := by
      have e1 : st = as2.reverse ++ .ref b :: rest := by rw [← has2, List.reverse_reverse, ← hdrop, List.take_append_drop]
      rw [e1, List.map_append, List.map_reverse]
      rfl
    subst has
    have hcode : snWsM ν = Cond.code (snN ν) (snB ν) (snL ν) none :: lw_tbl.filter goodWord := by
      unfold snWsM
      rw [f6]
    unfold snMl at f2
    cases hn : Nat.beq re 1 with
    | false =>
      rw [hn] at f2
      have cb := callB_of (R := R) (s := s) (args := args) (own := (snN μ).cls) (index := kx) (y := snN ν) (bytes := snB ν) (maxL := snL ν) (ret := none) (rm := snRm d (x1.1.1 - x.1.1) (snSum x1.1.1 - snSum x.1.1)) rc w1 (snGoodM ν) hcode rfl rfl w2 (snW_spec C f2) ⟨w3, w4, of_decide_eq_true f3⟩ ⟨hR.2.2.2, w5⟩
      exact snBack (va_runI (b := snAd od sz0 b) (rest := rest.map (snV od sz0)) (As := as2.map (snV od sz0)) ⟨C.1, C.2.1, C.2.2.1, C.2.2.2.1, w1⟩ hM ⟨cb, of_decide_eq_true f5, snW_spec C f4⟩ ⟨snBlind, hPc⟩ rfl hlenA hI.1.1 hstack (lv_room (snLow hlow)) hd hf) hI hn0 hle kk
    | true =>
      rw [hn] at f2
      have cb := va_cnB (R := R) (s := s) (args := args) (own := (snN μ).cls) (host := "RunForIt") (index := kx) (y := snN ν) (bytes := snB ν) (maxL := snL ν) (ret := none) (rm := snRm d (x1.1.1 - x.1.1) (snSum x1.1.1 - snSum x.1.1)) rc w1 (snGoodM ν) hcode rfl rfl (va_Nw.of rfl (snW_spec C f2)) w2 ⟨w3, w4, of_decide_eq_true f3⟩ ⟨hR.2.2.2, w5⟩
      exact snBack (va_runIN (b := snAd od sz0 b) (rest := rest.map (snV od sz0)) (As := as2.map (snV od sz0)) ⟨C.1, C.2.1, C.2.2.1, C.2.2.2.1, w1⟩ hM ⟨cb, of_decide_eq_true f5, snW_spec C f4⟩ ⟨snBlind, hPc⟩ rfl hlenA hI.1.1 hstack (lv_room (snLow hlow)) hd hf) hI hn0 hle kk
theorem snFrameF (hall : ∀ μ, μ < 293 → snAll μ = true) (hmo : ∀ ν, 0 < ν → ν < 293 → snMokF ν = true) (how : ∀ ν, ν < 293 → snOwnOk ν = true) : ∀ k, snF od sz0 Ls oI oL D tyc l k := by
  intro k
  induction k with
  | zero => intro d μ pc L st x v x' _ h; cases h
  | succ k ih =>
    intro d μ pc L st x v x' hμ h p e R s m args below meth c H locs ls n0 Q C hI hn0 hR hret
    rw [zmRun_succ] at h
    cases hs : zmStep μ pc L st x with
    | none => rw [hs] at h; cases h
    | some t =>
      rw [hs] at h
      have hfi : ∃ i, zmFetch μ pc = some i ∧ zmX i pc L st x = some t := by
        unfold zmStep at hs
        cases hf : zmFetch μ pc with
        | none => rw [hf] at hs; cases hs
        | some i => rw [hf] at hs; exact ⟨i, rfl, hs⟩
      obtain ⟨i, hf, hx⟩ := hfi
      have hok := snAll_at (hall μ hμ) hf
      rcases t with ⟨pc1, L1, st1, x1⟩ | w | ⟨ν, as, rest⟩
      · have hle := zmX_le hx
        have hle2 := zmRun_le _ _ _ _ _ _ _ _ _ h
        have hsm := snSum_mono hle2
        obtain ⟨r1, r2, r3, r4⟩ := hR
        refine snStep C hok hx hI hn0 ⟨by omega, by omega, by omega, by omega⟩ (fun ls' H' locs' q => ?_)
        exact ih d μ pc1 L1 st1 x1 v x' hμ h p e R s m args below meth c H' locs' ls' n0 Q C q (by omega) ⟨r1, r2, r3, r4⟩ hret
      · cases h
        exact hret pc L st i H locs ls hx hok hI
      · cases d with
        | zero => cases h
        | succ d =>
          simp only at h
          cases hc : zmRun k d ν 0 (zmIni ν as) [] x with
          | none => rw [hc] at h; cases h
          | some q =>
            obtain ⟨w, x1⟩ := q
            rw [hc] at h
            have hle := zmRun_le _ _ _ _ _ _ _ _ _ hc
            have hle2 := zmRun_le _ _ _ _ _ _ _ _ _ h
            have hsm := snSum_mono hle2
            obtain ⟨r1, r2, r3, r4⟩ := hR
            refine snCallWF hmo how ih C hok hx hc hI hn0 ⟨by omega, by omega, by omega, by omega⟩ (fun H' locs' q => ?_)
            exact ih (d + 1) μ (pc + 3) L (w.toList ++ rest) x1 v x' hμ h p e R s m args below meth c H' locs' ls n0 Q C q (by omega) ⟨r1, r2, r3, r4⟩ hret
end SF
