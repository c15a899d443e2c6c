/-! ===== the class's worth and value ===== -/
theorem c_worth {n N B mn m : Nat} {r : Nat → Nat → Option Nat} {Q : AQ} (hV : ValC n r N B Q mn m) {d t p act : Nat} {vt vp va : Int32} {a : Nat → Nat → Int32} {b : Nat → Nat → Int64} (ht : t + m + 1 = N) (et : vt = iN t) (ep : vp = iN p) (ea : va = iN act) (hp : p < 4840) (ha : act < 8 ∧ act ≠ 4) (hE : EnvC n r a N (bB B mn) Q) (hK : BestOk N B Q mn a b) (hT : TabC b) : ∃ a' b', Den (d+2*m+15) 4 0 [.ref 52, .int vt, .int vp, .int va, zmJ, zmJ, zmJ, zmJ, zmJ, zmJ, zmJ, zmJ, zmJ, zmJ, zmJ] [] (zmMk n a b r) = some (some (.long (if act = 0 ∨ mayP Q t p act then (worthV Q (bB B mn) (hun m) (VB Q (bB B mn) (nW mn) m (t + 1)) t p act) else (-2000000000000000000 : Int64))), zmMk n a' b' r) ∧ BestOk N B Q mn a' b' ∧ frS scB a a' ∧ frL scBL b b' := by
  subst et ep ea
  have h8 := hE.n8
  obtain ⟨⟨TT, hTT, h29, hA⟩, h16, -, -, -, -, hB⟩ := id hE
  have em : N - t - 1 = m := by omega
  have hl := hB.l t p 0
  by_cases h0 : act = 0
  · subst h0
    obtain ⟨a1, e2, f1⟩ := hA (d+2*m+5) a b (iN 108) _ _ _ t p 0 agD.refl rfl rfl rfl rfl (by omega) hp (by omega)
    refine ⟨a1, b, ?_, hK.fr f1, f1.toB, frL.refl⟩
    simp (disch := omega) only [b4_0, b57_0, h16, Option.bind_some, Option.toList_some, Option.toList_none, List.cons_append, List.nil_append, true_or, or_true, if_true, bI_if, b4_7, n_sub, em, c_hundreds hT, b4_14, b4_20 h29 hTT, e2, b4_42, l_of]
    unfold worthV
    rw [if_pos rfl]
  · obtain ⟨a1, e2, f1⟩ := c_behind (d := d+2*m+2) (b := b) hE (vt := iN t) (vp := iN p) (va := iN act) rfl rfl rfl (by omega) hp ha
    by_cases hm : mayP Q t p act
    · have hE1 := hE.fr f1
      obtain ⟨a2, e3, f2⟩ := c_tenthsSeen (d := d+2*m+4) (b := b) hE1 (vt := iN t) (vp := iN p) (va := iN act) rfl rfl rfl (by omega) hp ha
      have hE2 := hE1.fr f2
      have hnx := behP_lt (Q := Q) (t := t) (act := act) hp
      have hs := senP_le hB t p act
      have hcc : (0 : Nat) = 0 → senP Q t p act < 10 → pS (behP Q t p act) = 0 := fun _ h => by
        rw [pS_behP]
        unfold senP at h
        split at h
        · omega
        · have := pS_le p; omega
      obtain ⟨u1, u2, u3, a3, b3, e4, k3, f3, l3⟩ := c_worthPart (p := p) (act := act) (d := d) hV ht (sn := 0) (by omega) hs hnx hcc hE2 ((hK.fr f1).fr f2) hT zmJ zmJ zmJ 0
      have hE3 := hE2.ag (f3.ag dpC_scB)
      obtain ⟨u4, u5, u6, a4, b4, e5, k4, f4, l4⟩ := c_worthPart (p := p) (act := act) (d := d) hV ht (sn := 1) (by omega) hs hnx (fun h => absurd h (by omega)) hE3 k3 (hT.frB l3) u1 u2 u3 (0 + partV Q (bB B mn) (hun m) (VB Q (bB B mn) (nW mn) m (t + 1)) t (behP Q t p act) (senP Q t p act) 0)
      refine ⟨a4, b4, ?_, k4, (f1.toB.trans f2.toB).trans (f3.trans f4), l3.trans l4⟩
      rw [if_pos (Or.inr hm)]
      rw [if_pos hm] at e2
      simp (disch := omega) only [b4_0, b57_0, h16, Option.bind_some, Option.toList_some, Option.toList_none, List.cons_append, List.nil_append, true_or, or_true, if_true, bI_if, b4_7, n_sub, em, c_hundreds hT, b4_14, n_eq, h0, if_false, b4_48, e2, b4_58, n_not_neg, b4_69, e3, b4_79, e4, e5]
      rw [b4_87]
      simp (disch := omega) only [n_lt, if_neg, b4_289]
      unfold worthV
      rw [if_neg h0]
    · refine ⟨a1, b, ?_, hK.fr f1, f1.toB, frL.refl⟩
      rw [if_neg (fun q => q.elim h0 hm)]
      rw [if_neg hm] at e2
      have h2 : ((-2 : Int32) < iN 0) = True := eq_true (by decide)
      simp (disch := omega) only [b4_0, b57_0, h16, Option.bind_some, Option.toList_some, Option.toList_none, List.cons_append, List.nil_append, true_or, or_true, if_true, bI_if, b4_7, n_sub, em, c_hundreds hT, b4_14, n_eq, h0, if_false, b4_48, e2, b4_58, h2, b4_65]
theorem c_valueLoop {n N B mn m : Nat} {r : Nat → Nat → Option Nat} {Q : AQ} (hV : ValC n r N B Q mn m) {d t p M last : Nat} (ht : t + m + 1 = N) (hp : p < 4840) (hlast : last = if mn = 1 then 3 else 7) (k : Nat) : ∀ (j : Nat) (u11 : Value) {a : Nat → Nat → Int32} {b : Nat → Nat → Int64} (_ : j + k = last) (hE : EnvC n r a N (bB B mn) Q) (hK : BestOk N B Q mn a b) (hT : TabC b), ∃ u' a' b', Den (d+2*m+16) 2 160 [.ref 52,.int (iN t),.int (iN p),.int (iN (t + m + 1)),.int (iN (t * 4840 + p)),.int (iN M),.int (iN ((foldB Q (bB B mn) (nW mn) (hun m) (VB Q (bB B mn) (nW mn) m (t + 1)) t p j)).2),.long ((foldB Q (bB B mn) (nW mn) (hun m) (VB Q (bB B mn) (nW mn) m (t + 1)) t p j)).1,zmJ,.int (iN last),.int (iN (j + 1)),u11,zmJ] [] (zmMk n a b r) = Den (d+2*m+16) 2 213 [.ref 52,.int (iN t),.int (iN p),.int (iN (t + m + 1)),.int (iN (t * 4840 + p)),.int (iN M),.int (iN ((foldB Q (bB B mn) (nW mn) (hun m) (VB Q (bB B mn) (nW mn) m (t + 1)) t p last)).2),.long ((foldB Q (bB B mn) (nW mn) (hun m) (VB Q (bB B mn) (nW mn) m (t + 1)) t p last)).1,zmJ,.int (iN last),.int (iN (last + 1)),u',zmJ] [] (zmMk n a' b' r) ∧ BestOk N B Q mn a' b' ∧ frS scB a a' ∧ frL scBL b b' := by
  have hl7 : last ≤ 7 := by rw [hlast]; split <;> omega
  induction k with
  | zero =>
    intro j u11 a b hj hE hK hT
    obtain rfl : j = last := by omega
    refine ⟨u11, a, b, ?_, hK, frS.refl, frL.refl⟩
    rw [b2_160]
    simp (disch := omega) only [n_lt, if_pos]
  | succ k ih =>
    intro j u11 a b hj hE hK hT
    have hFl := foldB_le (Q := Q) (B := bB B mn) (nw := nW mn) (pw := hun m) (F := VB Q (bB B mn) (nW mn) m (t + 1)) (t := t) (p := p) (j := j)
    have key : ∃ u' a' b', Den (d+2*m+16) 2 160 [.ref 52,.int (iN t),.int (iN p),.int (iN (t + m + 1)),.int (iN (t * 4840 + p)),.int (iN M),.int (iN ((foldB Q (bB B mn) (nW mn) (hun m) (VB Q (bB B mn) (nW mn) m (t + 1)) t p j)).2),.long ((foldB Q (bB B mn) (nW mn) (hun m) (VB Q (bB B mn) (nW mn) m (t + 1)) t p j)).1,zmJ,.int (iN last),.int (iN (j + 1)),u11,zmJ] [] (zmMk n a b r) = Den (d+2*m+16) 2 160 [.ref 52,.int (iN t),.int (iN p),.int (iN (t + m + 1)),.int (iN (t * 4840 + p)),.int (iN M),.int (iN ((foldB Q (bB B mn) (nW mn) (hun m) (VB Q (bB B mn) (nW mn) m (t + 1)) t p (j + 1))).2),.long ((foldB Q (bB B mn) (nW mn) (hun m) (VB Q (bB B mn) (nW mn) m (t + 1)) t p (j + 1))).1,zmJ,.int (iN last),.int (iN (j + 1 + 1)),u',zmJ] [] (zmMk n a' b' r) ∧ BestOk N B Q mn a' b' ∧ frS scB a a' ∧ frL scBL b b' := by
      have hnw : nW mn = true → j + 1 ≤ 3 := fun h => by
        have h1 : mn = 1 := of_decide_eq_true h
        rw [if_pos h1] at hlast
        omega
      show ∃ u' a' b', Den (d+2*m+16) 2 160 [.ref 52,.int (iN t),.int (iN p),.int (iN (t + m + 1)),.int (iN (t * 4840 + p)),.int (iN M),.int (iN ((foldB Q (bB B mn) (nW mn) (hun m) (VB Q (bB B mn) (nW mn) m (t + 1)) t p j)).2),.long ((foldB Q (bB B mn) (nW mn) (hun m) (VB Q (bB B mn) (nW mn) m (t + 1)) t p j)).1,zmJ,.int (iN last),.int (iN (j + 1)),u11,zmJ] [] (zmMk n a b r) = Den (d+2*m+16) 2 160 [.ref 52,.int (iN t),.int (iN p),.int (iN (t + m + 1)),.int (iN (t * 4840 + p)),.int (iN M),.int (iN (stepB Q (bB B mn) (nW mn) (hun m) (VB Q (bB B mn) (nW mn) m (t + 1)) t p (foldB Q (bB B mn) (nW mn) (hun m) (VB Q (bB B mn) (nW mn) m (t + 1)) t p j) (j + 1)).2),.long ((stepB Q (bB B mn) (nW mn) (hun m) (VB Q (bB B mn) (nW mn) m (t + 1)) t p (foldB Q (bB B mn) (nW mn) (hun m) (VB Q (bB B mn) (nW mn) m (t + 1)) t p j) (j + 1)).1),zmJ,.int (iN last),.int (iN (j + 1 + 1)),u',zmJ] [] (zmMk n a' b' r) ∧ BestOk N B Q mn a' b' ∧ frS scB a a' ∧ frL scBL b b'
      have hbig := foldB_big (by obtain ⟨-, -, -, -, -, -, hq⟩ := hE; exact hq) (bB B mn) (nW mn) (m := m) (by have := hE.n8; omega) t p j (Q := Q)
      generalize (foldB Q (bB B mn) (nW mn) (hun m) (VB Q (bB B mn) (nW mn) m (t + 1)) t p j) = x at hFl hbig ⊢
      rw [b2_160]
      by_cases h4 : j + 1 = 4
      · refine ⟨.long (-2000000000000000000 : Int64), a, b, ?_, hK, frS.refl, frL.refl⟩
        have hno : (x.1 < (-2000000000000000000 : Int64)) = False := eq_false (fun h => l_irr _ (Int64.lt_trans h hbig))
        have hM : isMv (iN (j + 1)) = false := by rw [h4]; decide
        simp (disch := omega) only [n_lt, if_neg, b2_167, c_isMove, Option.bind_some, Option.toList_some, Option.toList_none, List.cons_append, List.nil_append, true_or, or_true, if_true, bI_if, b2_172, hM, Bool.false_eq_true, if_false, b2_186, b2_189, cmp_pos, hno, b2_207, n_add]
        unfold stepB
        rw [if_neg (fun q => q.1 h4)]
      · have hM : isMv (iN (j + 1)) = true := by
          rcases (by omega : j = 0 ∨ j = 1 ∨ j = 2 ∨ j = 4 ∨ j = 5 ∨ j = 6) with rfl | rfl | rfl | rfl | rfl | rfl <;> decide
        obtain ⟨a1, b1, e1, k1, f1, l1⟩ := c_worth (d := d) hV ht (vt := iN t) (vp := iN p) (va := iN (j + 1)) rfl rfl rfl hp (by omega) hE hK hT
        simp (disch := omega) only [n_lt, if_neg, b2_167, c_isMove, Option.bind_some, Option.toList_some, Option.toList_none, List.cons_append, List.nil_append, true_or, or_true, if_true, bI_if, b2_172, hM, b2_175, e1, b2_183, b2_189, cmp_pos]
        unfold stepB
        by_cases hm : mayP Q t p (j + 1)
        · rw [if_pos (Or.inr hm)]
          by_cases hw : x.1 < (worthV Q (bB B mn) (hun m) (VB Q (bB B mn) (nW mn) m (t + 1)) t p (j + 1))
          · refine ⟨.long (worthV Q (bB B mn) (hun m) (VB Q (bB B mn) (nW mn) m (t + 1)) t p (j + 1)), a1, b1, ?_, k1, f1, l1⟩
            rw [if_pos hw, if_pos ⟨h4, hnw, hm, hw⟩]
            simp only [b2_199, b2_207, n_add]
          · refine ⟨.long (worthV Q (bB B mn) (hun m) (VB Q (bB B mn) (nW mn) m (t + 1)) t p (j + 1)), a1, b1, ?_, k1, f1, l1⟩
            rw [if_neg hw, if_neg (fun q => hw q.2.2.2)]
            simp only [b2_207, n_add]
        · have ew : (if j + 1 = 0 ∨ mayP Q t p (j + 1) then (worthV Q (bB B mn) (hun m) (VB Q (bB B mn) (nW mn) m (t + 1)) t p (j + 1)) else (-2000000000000000000 : Int64)) = (-2000000000000000000 : Int64) := if_neg (fun q => q.elim (by omega) hm)
          rw [ew]
          have hno : ¬ (x.1 < (-2000000000000000000 : Int64)) := fun h => l_irr _ (Int64.lt_trans h hbig)
          refine ⟨.long (-2000000000000000000 : Int64), a1, b1, ?_, k1, f1, l1⟩
          rw [if_neg hno, if_neg (fun q => hm q.2.2.1)]
          simp only [b2_207, n_add]
    obtain ⟨u1, a1, b1, e1, k1, f1, l1⟩ := key
    obtain ⟨u2, a2, b2, e2, k2, f2, l2⟩ := ih (j + 1) u1 (by omega) (hE.ag (f1.ag dpC_scB)) k1 (hT.frB l1)
    exact ⟨u2, a2, b2, e1.trans e2, k2, f1.trans f2, l1.trans l2⟩

theorem n_shl {x : Nat} (s : Nat) (hs : s < 32) : ((iN x : Int32) <<< ((iN s : Int32) &&& iN 31)) = iN (x * 2 ^ s) := by
  have e : ((iN s : Int32) &&& iN 31).toBitVec.smod 32 = BitVec.ofNat 32 s := by
    revert s
    decide +kernel
  apply Int32.toBitVec_inj.mp
  show (iN x).toBitVec <<< (((iN s : Int32) &&& iN 31).toBitVec.smod 32) = (iN (x * 2 ^ s)).toBitVec
  rw [e]
  show BitVec.ofNat 32 x <<< BitVec.ofNat 32 s = BitVec.ofNat 32 (x * 2 ^ s)
  apply BitVec.eq_of_toNat_eq
  rw [BitVec.shiftLeft_eq', BitVec.toNat_shiftLeft]
  simp only [BitVec.toNat_ofNat, Nat.shiftLeft_eq]
  rw [Nat.mod_eq_of_lt (show s < 2 ^ 32 by omega), Nat.mod_mul_mod]
theorem n_shr {x : Nat} (s : Nat) (hs : s < 32) (hx : x < 2147483648) : ((iN x : Int32) >>> ((iN s : Int32) &&& iN 31)) = iN (x / 2 ^ s) := by
  have e : ((iN s : Int32) &&& iN 31).toBitVec.smod 32 = BitVec.ofNat 32 s := by
    revert s
    decide +kernel
  apply n_ofI
  show ((iN x).toBitVec.sshiftRight' (((iN s : Int32) &&& iN 31).toBitVec.smod 32)).toInt = _
  rw [e, BitVec.sshiftRight_eq', BitVec.toInt_sshiftRight]
  show (iN x).toInt >>> _ = _
  rw [n_toI hx, BitVec.toNat_ofNat, Nat.mod_eq_of_lt (show s < 2 ^ 32 by omega), Int.shiftRight_eq_div_pow]
  norm_cast
theorem n_or8 {x c : Nat} (hc : c < 8) : iN (x * 8) ||| iN c = iN (8 * x + c) := by
  rw [n_or]
  congr 1
  rw [Nat.mul_comm]
  exact (Nat.two_pow_add_eq_or_of_lt (i := 3) hc x).symm
theorem n_shl3 {x c : Nat} (hc : c < 8) : ((iN x : Int32) <<< ((iN 3 : Int32) &&& iN 31)) ||| iN c = iN (8 * x + c) := by
  rw [n_shl 3 (by decide)]
  exact n_or8 hc
theorem n_shr3 {x c : Nat} (hc : c < 8) (hx : x < 100000000) : ((iN (8 * x + c) : Int32) >>> ((iN 3 : Int32) &&& iN 31)) = iN x := by
  rw [n_shr 3 (by decide) (by omega)]
  congr 1
  omega
theorem q_and7 {x c : Nat} (hc : c < 8) : iN (8 * x + c) &&& iN 7 = iN c := by
  rw [n_and]
  congr 1
  have := Nat.and_two_pow_sub_one_eq_mod (8 * x + c) 3
  rw [show (7 : Nat) = 2 ^ 3 - 1 from rfl, this]
  omega
theorem lay53 : zmLay 53 = (21, 38720) := by decide +kernel
theorem lay54 : zmLay 54 = (20, 38720) := by decide +kernel
set_option maxHeartbeats 1000000 in
theorem c_value {n N B mn : Nat} {r : Nat → Nat → Option Nat} {Q : AQ} (hmn : mn < 3) : ∀ m, m ≤ 8 → ValC n r N B Q mn m := by
  intro m
  induction m with
  | zero =>
    intro _ d t p vt vp a b ht et ep hp hE hK hT
    subst et ep
    have h8 := hE.n8
    obtain ⟨⟨TT, hTT, h29, hA⟩, h16, -, -, -, -, hB⟩ := id hE
    by_cases hy : pY p = 0
    · obtain ⟨a1, e2, f1⟩ := hA (d+2*0+4) a b (iN 118) _ _ _ t p 0 agD.refl rfl rfl rfl rfl (by omega) hp (by omega)
      refine ⟨a1, b, ?_, hK.fr f1, f1.toB, frL.refl, fun q => absurd q (by omega)⟩
      have hv := hB.v t p 0
      have em : N - t = 0 := by omega
      simp (disch := omega) only [b2_0, b57_0, h16, Option.bind_some, Option.toList_some, Option.toList_none, List.cons_append, List.nil_append, true_or, or_true, if_true, bI_if, b2_7, c_yardsAt hp, b2_12, hy, b2_15 h29 hTT, e2, b2_34, n_sub, em, c_hundreds hT, b2_41, l_of]
      unfold VB
      rw [if_pos hy]
      simp [hun]
    · obtain ⟨a1, e2, f1⟩ := hA (d+2*0+4) a b (iN 109) _ _ _ t p 0 agD.refl rfl rfl rfl rfl (by omega) hp (by omega)
      refine ⟨a1, b, ?_, hK.fr f1, f1.toB, frL.refl, fun q => absurd q (by omega)⟩
      have hv := hB.m t p 0
      have hyl := pY_le hp
      simp (disch := omega) only [b2_0, b57_0, h16, Option.bind_some, Option.toList_some, Option.toList_none, List.cons_append, List.nil_append, true_or, or_true, if_true, bI_if, b2_7, c_yardsAt hp, b2_12, n_eq, hy, if_false, b2_43, n_lt, if_neg, b2_54 h29 hTT, e2, b2_73, l_ofn]
      unfold VB
      rw [if_neg hy]
  | succ m ih =>
    intro hm8 d t p vt vp a b ht et ep hp hE hK hT
    subst et ep
    have hV := ih (by omega)
    have h8 := hE.n8
    have hyl := pY_le hp
    obtain ⟨⟨TT, hTT, h29, hA⟩, h16, -, -, -, -, hB⟩ := id hE
    by_cases hy : pY p = 0
    · obtain ⟨a1, e2, f1⟩ := hA (d+2*(m+1)+4) a b (iN 118) _ _ _ t p 0 agD.refl rfl rfl rfl rfl (by omega) hp (by omega)
      refine ⟨a1, b, ?_, hK.fr f1, f1.toB, frL.refl, fun _ q => absurd hy q⟩
      have hv := hB.v t p 0
      have em : N - t = m + 1 := by omega
      simp (disch := omega) only [b2_0, b57_0, h16, Option.bind_some, Option.toList_some, Option.toList_none, List.cons_append, List.nil_append, true_or, or_true, if_true, bI_if, b2_7, c_yardsAt hp, b2_12, hy, b2_15 h29 hTT, e2, b2_34, n_sub, em, c_hundreds hT, b2_41, l_of]
      unfold VB
      rw [if_pos hy]
    · obtain ⟨h52, A, h29a, hA2, hM⟩ := id hK
      obtain ⟨mk, c, hc8, hmk, e54, hval⟩ := hM t p (by omega) hp
      have eN : N = t + m + 1 := by omega
      have hi : t * 4840 + p < 38720 := by omega
      have hit : itV (iN 0) 38720 (a 54) (iN (t * 4840 + p)) = iN (8 * mk + c) := by rw [itV_n hi (by decide), e54]
      have head : Den (d+2*(m+1)+14) 2 0 [.ref 52, .int (iN t), .int (iN p), zmJ, zmJ, zmJ, zmJ, zmJ, zmJ, zmJ, zmJ, zmJ, zmJ] [] (zmMk n a b r) = if iN mk = iN (A * 3 + mn + 1) then Den (d+2*(m+1)+14) 2 119 [.ref 52,.int (iN t),.int (iN p),.int (iN N),.int (iN (t * 4840 + p)),.int (iN (A * 3 + mn + 1)),zmJ,zmJ,zmJ,zmJ,zmJ,zmJ,zmJ] [] (zmMk n a b r) else Den (d+2*(m+1)+14) 2 129 [.ref 52,.int (iN t),.int (iN p),.int (iN N),.int (iN (t * 4840 + p)),.int (iN (A * 3 + mn + 1)),zmJ,zmJ,zmJ,zmJ,zmJ,zmJ,zmJ] [] (zmMk n a b r) := by
        simp (disch := omega) only [b2_0, b57_0, h16, Option.bind_some, Option.toList_some, Option.toList_none, List.cons_append, List.nil_append, true_or, or_true, if_true, bI_if, b2_7, c_yardsAt hp, b2_12, n_eq, hy, if_false, b2_43, n_lt, if_pos, b2_48, b2_76, n_mul, n_add, h29a, h52, c_item lay54, hit, b2_112, n_shr3]
      rw [head]
      by_cases hh : mk = 3 * A + mn + 1
      · obtain ⟨hv1, hv2⟩ := hval mn hmn hh
        refine ⟨a, b, ?_, hK, frS.refl, frL.refl, fun _ _ => ⟨A, h29a, hA2, ?_⟩⟩
        rotate_left
        · rw [e54, hv2, hh, show N - t - 1 = m + 1 - 1 by omega, show 3 * A + mn + 1 = A * 3 + mn + 1 by omega]
        rw [if_pos (by rw [hh]; congr 1; omega)]
        simp (disch := omega) only [b2_119, c_longItem lay53, Option.bind_some, Option.toList_some, Option.toList_none, List.cons_append, List.nil_append, true_or, or_true, if_true, bI_if, b2_128, itV_n hi, hv1, show N - t = m + 1 by omega]
      · rw [if_neg (by rw [n_eq (by omega) (by omega)]; omega)]
        obtain ⟨a1, b1, e1, k1, f1, l1⟩ := c_worth (d := d) hV (by omega) (vt := iN t) (vp := iN p) (va := iN 0) rfl rfl rfl hp (by omega) hE hK hT
        obtain ⟨last, hlast⟩ : ∃ last, last = if mn = 1 then 3 else 7 := ⟨_, rfl⟩
        obtain ⟨u', a2, b2, e2, k2, f2, l2⟩ := c_valueLoop (d := d) (M := A * 3 + mn + 1) hV (by omega) hp hlast last 0 zmJ (by omega) (hE.ag (f1.ag dpC_scB)) k1 (hT.frB l1)
        rw [if_pos (Or.inl rfl)] at e1
        have hlF : (foldB Q (bB B mn) (nW mn) (hun m) (VB Q (bB B mn) (nW mn) m (t + 1)) t p last) = (foldB Q (bB B mn) (nW mn) (hun m) (VB Q (bB B mn) (nW mn) m (t + 1)) t p 7) := by
          by_cases h1 : mn = 1
          · rw [if_pos h1] at hlast
            have h2 : nW mn = true := decide_eq_true h1
            rw [hlast, h2]
            exact (foldB_nw (by omega)).symm
          · rw [if_neg h1] at hlast
            rw [hlast]
        have hFl := foldB_le (Q := Q) (B := bB B mn) (nw := nW mn) (pw := hun m) (F := VB Q (bB B mn) (nW mn) m (t + 1)) (t := t) (p := p) (j := 7)
        rw [hlF] at e2
        have h521 : a1 52 3 = iN mn := by rw [f1 52 rfl]; exact h52
        have e3 : Den (d+2*m+16) 2 129 [.ref 52,.int (iN t),.int (iN p),.int (iN N),.int (iN (t * 4840 + p)),.int (iN (A * 3 + mn + 1)),zmJ,zmJ,zmJ,zmJ,zmJ,zmJ,zmJ] [] (zmMk n a b r) = Den (d+2*m+16) 2 160 [.ref 52,.int (iN t),.int (iN p),.int (iN N),.int (iN (t * 4840 + p)),.int (iN (A * 3 + mn + 1)),.int (iN 0),.long (worthV Q (bB B mn) (hun m) (VB Q (bB B mn) (nW mn) m (t + 1)) t p 0),zmJ,.int (iN last),.int (iN 1),zmJ,zmJ] [] (zmMk n a1 b1 r) := by
          by_cases h1 : mn = 1
          · rw [if_pos h1] at hlast
            simp (disch := omega) only [b2_129, e1, Option.bind_some, Option.toList_some, Option.toList_none, List.cons_append, List.nil_append, true_or, or_true, if_true, bI_if, b2_139, h521, n_eq, h1, b2_149, b2_155, hlast]
          · rw [if_neg h1] at hlast
            simp (disch := omega) only [b2_129, e1, Option.bind_some, Option.toList_some, Option.toList_none, List.cons_append, List.nil_append, true_or, or_true, if_true, bI_if, b2_139, h521, n_eq, h1, if_false, b2_153, b2_155, hlast]
        have hvF : ((foldB Q (bB B mn) (nW mn) (hun m) (VB Q (bB B mn) (nW mn) m (t + 1)) t p 7)).1 = VB Q (bB B mn) (nW mn) (m + 1) t p := by
          conv => rhs; unfold VB
          rw [if_neg hy]
        subst eN
        refine ⟨uI a2 54 (t * 4840 + p) (iN (8 * (A * 3 + mn + 1) + ((foldB Q (bB B mn) (nW mn) (hun m) (VB Q (bB B mn) (nW mn) m (t + 1)) t p 7)).2)), uL b2 53 (t * 4840 + p) ((foldB Q (bB B mn) (nW mn) (hun m) (VB Q (bB B mn) (nW mn) m (t + 1)) t p 7)).1, ?_, ?_, ?_, ?_, fun _ _ => ⟨A, ?_, hA2, ?_⟩⟩
        · have e2' : Den (d+2*m+16) 2 160 [.ref 52,.int (iN t),.int (iN p),.int (iN (t+m+1)),.int (iN (t * 4840 + p)),.int (iN (A * 3 + mn + 1)),.int (iN 0),.long (worthV Q (bB B mn) (hun m) (VB Q (bB B mn) (nW mn) m (t + 1)) t p 0),zmJ,.int (iN last),.int (iN 1),zmJ,zmJ] [] (zmMk n a1 b1 r) = _ := e2
          have e3' : Den (d+2*(m+1)+14) 2 129 [.ref 52,.int (iN t),.int (iN p),.int (iN (t+m+1)),.int (iN (t * 4840 + p)),.int (iN (A * 3 + mn + 1)),zmJ,zmJ,zmJ,zmJ,zmJ,zmJ,zmJ] [] (zmMk n a b r) = _ := e3
          rw [e3', e2']
          show Den (d+2*m+16) 2 213 _ [] _ = _
          simp (disch := omega) only [b2_213, n_shl3, c_put lay54, puV_n, Option.bind_some, Option.toList_some, Option.toList_none, List.cons_append, List.nil_append, true_or, or_true, if_true, bI_if, b2_229, c_putLong lay53, puV_nL, b2_240, hvF]
        · have f12 := f1.trans f2
          obtain ⟨k521, A', k29, hA', hM'⟩ := k2
          have hAA : A' = A := by
            rw [f12 29 rfl, h29a] at k29
            rw [n_eq (by omega) (by omega)] at k29
            exact k29.symm
          subst hAA
          refine ⟨by rw [uI_at, if_neg (by omega)]; exact k521, A', by rw [uI_at, if_neg (by omega)]; exact k29, hA', fun t' p' ht' hp' => ?_⟩
          by_cases hi2 : t' * 4840 + p' = t * 4840 + p
          · have et : t' = t := by omega
            have ep : p' = p := by omega
            rw [et, ep]
            refine ⟨A' * 3 + mn + 1, ((foldB Q (bB B mn) (nW mn) (hun m) (VB Q (bB B mn) (nW mn) m (t + 1)) t p 7)).2, by omega, by omega, by rw [uI_at, if_pos ⟨rfl, rfl⟩], fun k hk he => ?_⟩
            have he' : k = mn := by omega
            refine ⟨?_, ?_⟩
            · rw [uL_at, if_pos ⟨rfl, rfl⟩, hvF, he', show t + m + 1 - t = m + 1 by omega]
            · unfold AB
              rw [show t + m + 1 - t - 1 = m by omega, he']
          · obtain ⟨m', c', q1, q2, q3, q4⟩ := hM' t' p' ht' hp'
            refine ⟨m', c', q1, q2, by rw [uI_at, if_neg (fun q => hi2 q.2)]; exact q3, fun k hk he => ?_⟩
            rw [uL_at, if_neg (fun q => hi2 q.2)]
            exact q4 k hk he
        · intro k hk
          have h54 : k ≠ 54 := fun q => by rw [q] at hk; cases hk
          have h2 := (f1.trans f2) k hk
          funext j
          rw [uI_at, if_neg (fun q => h54 q.1), h2]
        · intro k hk
          have h53 : k ≠ 53 := fun q => by rw [q] at hk; cases hk
          have h2 := (l1.trans l2) k hk
          funext j
          rw [uL_at, if_neg (fun q => h53 q.1), h2]
        · rw [uI_at, if_neg (by omega), (f1.trans f2) 29 rfl, h29a]
        · rw [uI_at, if_pos ⟨rfl, rfl⟩]
          rfl
theorem c_action {d n N B t p : Nat} {r : Nat → Nat → Option Nat} {Q : AQ} {vt vp : Int32} {a : Nat → Nat → Int32} {b : Nat → Nat → Int64} (ht : t ≤ N) (et : vt = iN t) (ep : vp = iN p) (hp : p < 4840) (hE : EnvC n r a N B Q) (hK : BestOk N B Q 0 a b) (hT : TabC b) : ∃ a' b', Den (d+40) 3 0 [.ref 52, .int vt, .int vp] [] (zmMk n a b r) = some (some (.int (if pY p = 0 ∨ t = N then -1 else iN (AB Q B false (N - t - 1) t p))), zmMk n a' b' r) ∧ BestOk N B Q 0 a' b' ∧ frS scB a a' ∧ frL scBL b b' := by
  subst et ep
  have h8 := hE.n8
  have hyl := pY_le hp
  obtain ⟨-, h16, -⟩ := id hE
  by_cases hy : pY p = 0
  · refine ⟨a, b, ?_, hK, frS.refl, frL.refl⟩
    rw [if_pos (Or.inl hy)]
    simp (disch := omega) only [b3_0, c_yardsAt hp, Option.bind_some, Option.toList_some, Option.toList_none, List.cons_append, List.nil_append, true_or, or_true, if_true, bI_if, b3_4, hy, b3_18]
  · by_cases htN : t = N
    · refine ⟨a, b, ?_, hK, frS.refl, frL.refl⟩
      rw [if_pos (Or.inr htN)]
      simp (disch := omega) only [b3_0, c_yardsAt hp, Option.bind_some, Option.toList_some, Option.toList_none, List.cons_append, List.nil_append, true_or, or_true, if_true, bI_if, b3_4, n_eq, hy, if_false, b3_7, b57_0, h16, b3_15, n_lt, if_neg, b3_18]
    · obtain ⟨a1, b1, e1, k1, f1, l1, hm⟩ := c_value (B := B) (mn := 0) (by decide) (N - t) (by omega) (d + 39 - 2 * (N - t) - 14) t p _ _ a b (by omega) rfl rfl hp hE hK hT
      rw [show d + 39 - 2 * (N - t) - 14 + 2 * (N - t) + 14 = d + 39 by omega] at e1
      obtain ⟨A, q1, q2, q3⟩ := hm (by omega) hy
      refine ⟨a1, b1, ?_, k1, f1, l1⟩
      have hi : t * 4840 + p < 38720 := by omega
      have hit : itV (iN 0) 38720 (a1 54) (iN (t * 4840 + p)) = iN (8 * (A * 3 + 0 + 1) + AB Q (bB B 0) (nW 0) (N - t - 1) t p) := by rw [itV_n hi (by decide), q3]
      have hF : AB Q (bB B 0) (nW 0) (N - t - 1) t p < 8 := Nat.lt_succ_of_le foldB_le
      rw [if_neg (fun q => q.elim hy htN)]
      simp (disch := omega) only [b3_0, c_yardsAt hp, Option.bind_some, Option.toList_some, Option.toList_none, List.cons_append, List.nil_append, true_or, or_true, if_true, bI_if, b3_4, n_eq, hy, if_false, b3_7, b57_0, h16, b3_15, n_lt, if_pos, b3_20, e1, b3_26, n_mul, n_add, c_item lay54, hit, b3_41, q_and7]
      rfl
theorem BestOk.mn {N B mn : Nat} {Q : AQ} {a : Nat → Nat → Int32} {b : Nat → Nat → Int64} (h : BestOk N B Q mn a b) (k : Nat) : BestOk N B Q k (uI a 52 3 (iN k)) b := by
  obtain ⟨-, A, h2, h3, h4⟩ := h
  refine ⟨by rw [uI_at, if_pos ⟨rfl, rfl⟩], A, by rw [uI_at, if_neg (by omega)]; exact h2, h3, fun t p ht hp => ?_⟩
  rw [uI_at, if_neg (by omega)]
  exact h4 t p ht hp
theorem BestOk.put {N B mn : Nat} {Q : AQ} {a : Nat → Nat → Int32} {b : Nat → Nat → Int64} (h : BestOk N B Q mn a b) {k j : Nat} {v : Int32} (h1 : ¬ (k = 52 ∧ j = 3)) (h2 : ¬ (k = 29 ∧ j = 6)) (h3 : k ≠ 54) : BestOk N B Q mn (uI a k j v) b := by
  obtain ⟨q0, A, q2, q3, q4⟩ := h
  refine ⟨by rw [uI_at, if_neg (by omega)]; exact q0, A, by rw [uI_at, if_neg (by omega)]; exact q2, q3, fun t p ht hp => ?_⟩
  rw [uI_at, if_neg (by omega)]
  exact q4 t p ht hp
theorem c_wave {d n N B p : Nat} {r : Nat → Nat → Option Nat} {Q : AQ} {vp : Int32} {a : Nat → Nat → Int32} {b : Nat → Nat → Int64} (ep : vp = iN p) (hp : p < 4840) (hE : EnvC n r a N B Q) (hK : BestOk N B Q 0 a b) (hT : TabC b) : ∃ a' b', Den (d+40) 5 0 [.ref 52, .int vp, zmJ, zmJ, zmJ, zmJ] [] (zmMk n a b r) = some (some (.long (VB Q B false N 0 p - VB Q B true N 0 p)), zmMk n a' b' r) ∧ BestOk N B Q 0 a' b' ∧ frS scB a a' ∧ frL scBL b b' := by
  subst ep
  have h8 := hE.n8
  obtain ⟨a1, b1, e1, k1, f1, l1, -⟩ := c_value (B := B) (mn := 0) (by decide) N (by omega) (d + 39 - 2 * N - 14) 0 p _ _ a b (by omega) rfl rfl hp hE hK hT
  rw [show d + 39 - 2 * N - 14 + 2 * N + 14 = d + 39 by omega] at e1
  have hE1 : EnvC n r (uI a1 52 3 (iN 1)) N (bB B 1) Q := hE.ag ((f1.ag dpC_scB).put rfl)
  obtain ⟨a2, b2, e2, k2, f2, l2, -⟩ := c_value (B := B) (mn := 1) (by decide) N (by omega) (d + 39 - 2 * N - 14) 0 p _ _ (uI a1 52 3 (iN 1)) b1 (by omega) rfl rfl hp hE1 (k1.mn 1) (hT.frB l1)
  rw [show d + 39 - 2 * N - 14 + 2 * N + 14 = d + 39 by omega] at e2
  refine ⟨uI a2 52 3 (iN 0), b2, ?_, k2.mn 0, ?_, l1.trans l2⟩
  · simp only [b5_0, e1, Option.bind_some, Option.toList_some, Option.toList_none, List.cons_append, List.nil_append, true_or, or_true, if_true, bI_if, b5_6, e2, b5_18]
    rfl
  · intro k hk
    funext j
    have h2 := congrFun (f2 k hk) j
    have h1 := congrFun (f1 k hk) j
    rw [uI_at] at h2 ⊢
    by_cases hc : k = 52 ∧ j = 3
    · rw [if_pos hc, hc.1, hc.2, hK.1]
    · rw [if_neg hc] at h2 ⊢
      rw [h2, h1]
theorem c_board {d n N B p : Nat} {r : Nat → Nat → Option Nat} {Q : AQ} {vp : Int32} {a : Nat → Nat → Int32} {b : Nat → Nat → Int64} (ep : vp = iN p) (hp : p < 4840) (hE : EnvC n r a N B Q) (hlg : a 29 5 = iN 0) (hB9 : B ≤ 98) (hK : BestOk N B Q 0 a b) (hT : TabC b) : ∃ a' b', Den (d+40) 6 0 [.ref 52, .int vp, zmJ, zmJ, zmJ, zmJ] [] (zmMk n a b r) = some (some (.long (VB Q (B + 1) false N 0 p - VB Q B false N 0 p)), zmMk n a' b' r) ∧ BestOk N B Q 0 a' b' ∧ frS scB a a' ∧ frL scBL b b' := by
  subst ep
  have h8 := hE.n8
  obtain ⟨a1, b1, e1, k1, f1, l1, -⟩ := c_value (B := B) (mn := 0) (by decide) N (by omega) (d + 39 - 2 * N - 14) 0 p _ _ a b (by omega) rfl rfl hp hE hK hT
  rw [show d + 39 - 2 * N - 14 + 2 * N + 14 = d + 39 by omega] at e1
  have hE0 : EnvC n r a1 N B Q := hE.ag (f1.ag dpC_scB)
  have hlg1 : a1 29 5 = iN 0 := by rw [f1 29 rfl]; exact hlg
  have hE1 : EnvC n r (uI (uI a1 52 3 (iN 2)) 29 5 (iN 1)) N (bB B 2) Q := by
    obtain ⟨⟨TT, hT, hr, hA⟩, h1, h2, h3, h4, h5, h6⟩ := hE0
    refine ⟨⟨TT, hT, hr, fun d a1' b l vt vp va t p act h0 => hA d a1' b l vt vp va t p act (agD.trans (agD.put (agD.put agD.refl rfl) rfl) h0)⟩, ?_, h2, h3, ?_, by unfold bB; simp; omega, h6⟩
    · rw [uI_at, if_neg (by omega), uI_at, if_neg (by omega), h1]
    · rw [hlg1] at h4
      rw [uI_at, if_neg (by omega), uI_at, if_neg (by omega), uI_at, if_pos ⟨rfl, rfl⟩]
      have h7 : a1 27 1 = iN B := by
        rw [← h4]
        show _ = _ + (0 : Int32)
        rw [Int32.add_zero]
      rw [h7, n_add]
      rfl
  obtain ⟨a2, b2, e2, k2, f2, l2, -⟩ := c_value (B := B) (mn := 2) (by decide) N (by omega) (d + 39 - 2 * N - 14) 0 p _ _ (uI (uI a1 52 3 (iN 2)) 29 5 (iN 1)) b1 (by omega) rfl rfl hp hE1 ((k1.mn 2).put (by omega) (by omega) (by omega)) (hT.frB l1)
  rw [show d + 39 - 2 * N - 14 + 2 * N + 14 = d + 39 by omega] at e2
  refine ⟨uI (uI a2 52 3 (iN 0)) 29 5 (iN 0), b2, ?_, (k2.mn 0).put (by omega) (by omega) (by omega), ?_, l1.trans l2⟩
  · simp only [b6_0, e1, Option.bind_some, Option.toList_some, Option.toList_none, List.cons_append, List.nil_append, true_or, or_true, if_true, bI_if, b6_6, e2, b6_26]
    rfl
  · intro k hk
    funext j
    have h2 := congrFun (f2 k hk) j
    have h1 := congrFun (f1 k hk) j
    rw [uI_at, uI_at] at h2 ⊢
    by_cases hc : k = 29 ∧ j = 5
    · rw [if_pos hc, hc.1, hc.2, hlg]
    · rw [if_neg hc] at h2 ⊢
      by_cases hc : k = 52 ∧ j = 3
      · rw [if_pos hc, hc.1, hc.2, hK.1]
      · rw [if_neg hc] at h2 ⊢
        rw [h2, h1]
