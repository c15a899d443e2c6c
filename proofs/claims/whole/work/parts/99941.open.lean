/-! ===== the whole out of one pure fact: what the law's run comes to ===== -/
def snOd (b t1 t2 t3 : Nat) (adK adV : Nat → Nat) (k : Nat) : Nat := if k = 0 then b else if k = 1 then t1 else if k = 2 then t2 else if k = 3 then t3 else if k < 9 then adK (k - 4) else adV (k - 9)
def snTyc (cI cL cB cZ cT : ClassId) (k : Nat) : ClassId := if k = 0 then cI else if k = 1 then cL else if k = 2 then cB else if k = 3 then cZ else cT
theorem snW_mem {pos : Nat} {w : Jvm.Cond} (h : snW pos w = true) : w ∈ lw_tbl := List.mem_of_getElem? (of_decide_eq_true (snB2 h).1)
theorem snSum147 : snSum 147 ≤ 7302250 := by decide +kernel
set_option maxHeartbeats 2000000 in
theorem sn_env {s : State} {b L : Nat} {xs : Nat → Int32} (hts : ∀ w ∈ lw_tbl, w.before #[Value.ref b] s = true) (hX : va_X b L xs s s.heap) (hbl : b < s.heap.size) (hgv : (Jvm.Cond.and given_1 narrow_1).before #[Value.ref b] s = true) : ∃ (od : Nat → Nat) (D : va_G) (tyc : Nat → ClassId), od 0 = b ∧ snEnv od s.heap.size L (snOI xs) snOL D tyc s := by
  have hs := flat_of_before _ hgv
  have hA : ∀ a : Nat, a < s.heap.size → ¬ snA s.heap.size a := fun a h h2 => absurd h2 (Nat.not_le.mpr h)
  obtain ⟨t1, e1, T1⟩ := sn_BOUNDS hs hA
  obtain ⟨t2, e2, T2⟩ := sn_HUNDREDS hs hA
  obtain ⟨t3, e3, T3⟩ := sn_TENS hs hA
  obtain ⟨adK, adV, hK5, hev⟩ := sn_strs hs hA
  have hcls : ∀ c : Nat, ∃ q : ClassId × (Nat → Nat), c < 13 → u_Kn s (snC c).1 (snC c).2.1 (snC c).2.2 q.1 q.2 := by
    intro c
    by_cases hc : c < 13
    · have hw : ∀ w ∈ u_ws (snC c).1 (snC c).2.1 (snC c).2.2, w.before #[Value.ref b] s = true := by
        intro w hw
        obtain ⟨j, hj, rfl⟩ := List.mem_map.mp hw
        exact hts _ (snW_mem (snB2 (List.all_eq_true.mp (snLays_ok hc) j hj)).1)
      obtain ⟨cC, iS, h⟩ := u_known (C := (snC c).1) (T := (snC c).2.1) (N := (snC c).2.2) (n := (snC c).2.2) hw (fun w h => h) (hts _ (snW_mem (snMakes hc).1))
      exact ⟨(cC, iS), fun _ => h⟩
    · exact ⟨(0, fun _ => 0), fun h => absurd h hc⟩
  obtain ⟨q, hq⟩ := Classical.axiomOfChoice hcls
  obtain ⟨cI, kI, mI, i1, i2, i3⟩ := Cond.arrayClass_spec (hts _ (snW_mem snArrI))
  obtain ⟨cL, kL, mL, l1, l2, l3⟩ := Cond.arrayClass_spec (hts _ (snW_mem snArrL))
  obtain ⟨cB, kB, mB, b1, b2, b3⟩ := Cond.arrayClass_spec (hts _ (snW_mem snArrB))
  obtain ⟨cZ, kZ, mZ, z1, z2, z3⟩ := Cond.arrayClass_spec (hts _ (snW_mem snArrZ))
  have hao := hts (.arrayOver (.object RX10)) (List.mem_of_getElem? (i := 263) (by decide +kernel))
  obtain ⟨mT, cT, kT, o1, o2, o3, o4, o5⟩ := Cond.arrayOver_spec hao
  refine ⟨snOd b t1 t2 t3 adK adV, (fun c => (q c).1, fun c => (q c).2), snTyc cI cL cB cZ cT, rfl, Nat.le_refl _, fun w hw hn => va_Nw.of (snNest_tab hn) (hts w hw), ⟨fun c r hr => ?_, fun k r hr => ?_⟩, ?_, ?_, ?_, ?_, ?_, T1, T2, T3, fun i hi => ?_, fun r hr => ?_, va_AO.of hao⟩
  · have hlt : c < 13 := (List.getElem?_eq_some_iff.mp hr).1
    cases hr.symm.trans (snC_at hlt)
    exact hq c hlt
  · match k, hr with
    | 0, hr => cases hr; exact ⟨fun n z => ⟨fun k h => (by cases h), kI, i2, mI, i3⟩, i1⟩
    | 1, hr => cases hr; exact ⟨fun n z => ⟨fun k h => (by cases h), kL, l2, mL, l3⟩, l1⟩
    | 2, hr => cases hr; exact ⟨fun n z => ⟨fun k h => (by cases h), kB, b2, mB, b3⟩, b1⟩
    | 3, hr => cases hr; exact ⟨fun n z => ⟨fun k h => (by cases h), kZ, z2, mZ, z3⟩, z1⟩
    | 4, hr => cases hr; exact ⟨fun n z => ⟨fun k h => (by cases h), kT, o3, mT, o4⟩, kT, mT, o3, o4, o1, o5⟩
    | k + 5, hr => simp [snTys] at hr
  · exact va_Zof (hts (.laysStatic "java/lang/String" "COMPACT_STRINGS" "Z") (List.mem_of_getElem? (i := 517) (by decide +kernel))) (hts (.initialized "java/lang/String") (List.mem_of_getElem? (i := 105) (by decide +kernel))) (va_eqi (hs (.eq (.static "java/lang/String" "COMPACT_STRINGS" "Z") (.int 1)) (by decide +kernel))) hA
  · exact va_Zof (hts (.laysStatic "RunForIt" "BOUNDS" "[I") (List.mem_of_getElem? (i := 759) (by decide +kernel))) (hts (.initialized "RunForIt") (List.mem_of_getElem? (i := 92) (by decide +kernel))) e1 hA
  · exact va_Zof (hts (.laysStatic "RunForIt" "HUNDREDS" "[J") (List.mem_of_getElem? (i := 800) (by decide +kernel))) (hts (.initialized "RunForIt") (List.mem_of_getElem? (i := 92) (by decide +kernel))) e2 hA
  · exact va_Zof (hts (.laysStatic "RunForIt" "TENS" "[J") (List.mem_of_getElem? (i := 961) (by decide +kernel))) (hts (.initialized "RunForIt") (List.mem_of_getElem? (i := 92) (by decide +kernel))) e3 hA
  · obtain ⟨scr, h1, h2, h3, h4, h5⟩ := hX
    exact ⟨scr, h1, h2, h3, Nat.le_of_eq h4.symm, by simp [h4], h5, hA b hbl⟩
  · match i, hi with
    | 0, _ => exact hK5.1 0 (by decide)
    | 1, _ => exact hK5.1 1 (by decide)
    | 2, _ => exact hK5.1 2 (by decide)
    | 3, _ => exact hK5.1 3 (by decide)
    | 4, _ => exact hK5.1 4 (by decide)
    | i + 5, hi => omega
  · simp only [snStr, List.mem_cons, List.not_mem_nil, or_false] at hr
    rcases hr with rfl | rfl | rfl | rfl | rfl | rfl
    · exact vk_R.of (hts (.stringRef "RunForIt$Parser" 25 "") (List.mem_of_getElem? (i := 271) (by decide +kernel))) (hev 0 (by decide))
    · exact vk_R.of (hts (.stringRef "RunForIt$Street" 34 "fuws") (List.mem_of_getElem? (i := 503) (by decide +kernel))) (hev 1 (by decide))
    · exact vk_R.of (hts (.stringRef "RunForIt" 133 "ywbsgvml") (List.mem_of_getElem? (i := 621) (by decide +kernel))) (hev 2 (by decide))
    · exact vk_R.of (hts (.stringRef "RunForIt$Ride" 78 "ywbsgvml") (List.mem_of_getElem? (i := 756) (by decide +kernel))) (va_eqR (hs (.eq (.string "RunForIt" 133) (.string "RunForIt$Ride" 78)) (by decide +kernel)) (hev 2 (by decide)))
    · exact vk_R.of (hts (.stringRef "RunForIt$Parser" 103 "tndezrpqka") (List.mem_of_getElem? (i := 657) (by decide +kernel))) (hev 3 (by decide))
    · exact vk_R.of (hts (.stringRef "RunForIt" 145 "a") (List.mem_of_getElem? (i := 705) (by decide +kernel))) (hev 4 (by decide))
set_option maxHeartbeats 1000000 in
/-- THE LAW, from its entry: owed is what its run comes to, on the abstract machine -/
theorem whole_open {p : Program} {e : Env} {s : State} {m : MethodId} {below : List Frame} {meth : Method} {c : Code} (l : Launch) {b L : Nat} {xs : Nat → Int32} (C0 : lw_At p s m meth c b L xs) (hp : ∃ (d : Nat) (x' : zmH), d ≤ 1000 ∧ x'.1.1 ≤ 147 ∧ Den d 0 0 (zmIni 0 [.ref 0]) [] (snX0 L xs) = some (some (.int 1), x')) : W p l e room_1 s m #[Value.ref b] below meth c s.heap [] 0 0 (lw_Z below #[Value.ref b] s) (entryFrame m ([Value.ref b] : List Value).toArray 4) := by
  obtain ⟨hx, hb, hr, hml, hown, hts, hX, hbl, hlocks, hgv⟩ := id C0
  obtain ⟨d, x', hd, hx', hden⟩ := hp
  obtain ⟨k, hk⟩ := Den_some hden
  obtain ⟨od, D, tyc, h0, hE⟩ := sn_env hts hX hbl hgv
  have eb : snAd od s.heap.size 0 = b := h0
  have C : snCx od s.heap.size L (snOI xs) snOL D tyc p s m #[Value.ref b] meth c 0 14 := ⟨hx, hb, hml, hown, fun w hw _ => hts w hw, hE, fun h => absurd h (by decide), rfl, Nat.le_refl _, hlocks⟩
  have hf : zmFit 0 [.ref 0] = true := rfl
  have hI : snInv od s.heap.size L (snOI xs) snOL D tyc s s.heap [] ((lg_sl ([Value.ref 0].map (snV od s.heap.size)) ++ List.replicate (snL 0 - (lg_sl ([Value.ref 0].map (snV od s.heap.size))).length) Slot.unset).toArray) (snL 0) (zmIni 0 [.ref 0]) (snX0 L xs) := ⟨snIni_loc hf, fun k q h => by simp [snWs, snX0] at h, va_S.rf, Nat.le_refl _, rfl, fun k hk => ⟨rfl, rfl⟩⟩
  have hs147 := snSum_mono hx'
  have h147 := snSum147
  have key := snFrameF (l := l) (fun μ h => snAll_ok h) snMok_ok snOwn_ok k d 0 0 (zmIni 0 [.ref 0]) [] (snX0 L xs) (some (.int 1)) x' (by decide) hk p e room_1 s m #[Value.ref b] below meth c s.heap [] _ 14 (lw_Z below #[Value.ref b] s) C hI (Nat.le_refl _) ⟨by show _ ≤ 600000; omega, by show _ ≤ 7302250; omega, by show _ ≤ 84000; omega, by show _ ≤ 2048; omega⟩ ?_
  · rw [lg_entry_eq]
    have e1 : [Value.ref 0].map (snV od s.heap.size) = [Value.ref b] := by
      show [Value.ref (snAd od s.heap.size 0)] = _
      rw [eb]
    rw [e1] at key
    exact key
  · intro pc L2 st i H locs ls hx2 hok hI2
    obtain ⟨ins, len, ⟨ra, rb, rc, rd, re⟩, iv, lv⟩ := i
    obtain ⟨hd0, h2⟩ := snB2 hok
    have hdec := of_decide_eq_true hd0
    rcases zmX_ret hx2 with ⟨rfl, w, rfl, hv, hw⟩ | ⟨rfl, w, rfl, hv⟩ | ⟨rfl, hw⟩ | ⟨rfl, rfl, hv⟩
    · cases hv
      obtain ⟨h3, -⟩ := snB2 (h2 : (Nat.beq len 1 && _) = true)
      obtain rfl := Nat.eq_of_beq_eq_true h3
      have hfree := hI2.2.2.1.2.2
      refine va_forget hfree ?_
      refine W.widen (k := 600000) (n := 7302250) (by omega) (by omega) ?_
      exact lw_ret hx hb hr hlocks hdec
    · cases hv
    · rcases hw with ⟨w, -, hv⟩ | ⟨-, hv⟩ <;> cases hv
    · cases hv
