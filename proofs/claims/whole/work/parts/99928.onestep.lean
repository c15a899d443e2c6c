/-! ===== any instruction that goes on ===== -/
section SC
variable {od : Nat → Nat} {sz0 Ls : Nat} {oI : Nat → Nat → Int32} {oL : Nat → Nat → Int64} {D : va_G} {tyc : Nat → ClassId}
variable {p : Program} {l : Launch} {e : Env} {R : Room} {s : State} {m : MethodId} {args : Array Value} {below : List Frame} {meth : Method} {c : Code} {H : Heap} {locs : List Loc} {Q : State → Prop}
variable {μ n0 pc pc' len : Nat} {L L' st st' : List Value} {x x' : zmH} {ls : Array Slot} 

theorem snIs_copy {len ra rb rc rd re : Nat} {k : Nat} {iv : Int32} {lv : Int64} {q : Nat × List Value × List Value × zmH} (h : zmX (.invokestatic k, len, (ra, rb, rc, rd, re), iv, lv) pc L st x = some (.inl q)) : ra = 4 := by
  have h : (match ra with
    | 0 => if zmLow (st.drop rc) = true ∧ rc ≤ st.length ∧ zmFit rb (st.take rc).reverse = true then some (.inr (.inr (rb, (st.take rc).reverse, st.drop rc))) else none
    | 4 => match st with
      | .int n :: .int tp :: .ref t :: .int sp :: .ref s :: r => if 14 ≤ s ∧ 14 ≤ t ∧ zmKd s x = 20 ∧ zmKd t x = 20 ∧ s ≠ t ∧ sp = 0 ∧ tp = 0 ∧ n = Int32.ofNat (zmLay s).2 ∧ (zmLay s).2 = (zmLay t).2 ∧ zmLow r = true then some (.inl (pc + 3, L, r, zmCpy x s 0 t 0 (zmLay s).2)) else none
      | _ => none
    | _ => (none : Option zmR)) = some (.inl q) := h
  split at h
  · split at h <;> cases h
  · rfl
  · cases h
theorem snIs_init {len ra rb rc rd re : Nat} {k : Nat} {iv : Int32} {lv : Int64} {q : Nat × List Value × List Value × zmH} (h : zmX (.invokespecial k, len, (ra, rb, rc, rd, re), iv, lv) pc L st x = some (.inl q)) : ra = 3 := by
  have h : (match ra with
    | 2 => match st.drop rc with
      | .ref b :: r => if zmLow r = true ∧ zmRecv b rb x = true ∧ zmFit rb (.ref b :: (st.take rc).reverse) = true then some (.inr (.inr (rb, .ref b :: (st.take rc).reverse, r))) else none
      | _ => none
    | 3 => p1r st fun _ r => if zmLow r = true then some (.inl (pc + 3, L, r, x)) else none
    | _ => (none : Option zmR)) = some (.inl q) := h
  split at h
  · split at h
    · split at h <;> cases h
    · cases h
  · rfl
  · cases h
theorem snIs_virt {len ra rb rc rd re : Nat} {k : Nat} {iv : Int32} {lv : Int64} {q : Nat × List Value × List Value × zmH} (h : zmX (.invokevirtual k, len, (ra, rb, rc, rd, re), iv, lv) pc L st x = some (.inl q)) : False := by
  have h : (match st.drop rc with
    | .ref b :: r => if zmRecv b rb x = true then (if zmLow r = true ∧ ra = 1 ∧ zmFit rb (.ref b :: (st.take rc).reverse) = true then some (.inr (.inr (rb, .ref b :: (st.take rc).reverse, r))) else none) else none
    | _ => (none : Option zmR)) = some (.inl q) := h
  split at h
  · split at h
    · split at h <;> cases h
    · cases h
  · cases h
theorem snIs_iret {len ra rb rc rd re : Nat} {iv : Int32} {lv : Int64} {q : Nat × List Value × List Value × zmH} (h : zmX (.ireturn, len, (ra, rb, rc, rd, re), iv, lv) pc L st x = some (.inl q)) : False := by
  have h : (match ra, st with
    | 0, .int v :: [] => some (.inr (.inl (some (.int v))))
    | 1, .int v :: [] => if v = 0 ∨ v = 1 then some (.inr (.inl (some (.int v)))) else none
    | 2, .int v :: [] => if v = 0 ∨ v = 1 then some (.inr (.inl (some (.int v)))) else none
    | _, _ => (none : Option zmR)) = some (.inl q) := h
  split at h
  · cases h
  · split at h <;> cases h
  · split at h <;> cases h
  · cases h
theorem snIs_lret {len : Nat} {r5 : Nat × Nat × Nat × Nat × Nat} {iv : Int32} {lv : Int64} {q : Nat × List Value × List Value × zmH} (h : zmX (.lreturn, len, r5, iv, lv) pc L st x = some (.inl q)) : False := by
  have h : (match st with
    | .long v :: [] => some (.inr (.inl (some (.long v))))
    | _ => (none : Option zmR)) = some (.inl q) := h
  split at h <;> cases h
theorem snIs_aret {len : Nat} {r5 : Nat × Nat × Nat × Nat × Nat} {iv : Int32} {lv : Int64} {q : Nat × List Value × List Value × zmH} (h : zmX (.areturn, len, r5, iv, lv) pc L st x = some (.inl q)) : False := by
  have h : (match st with
    | .ref v :: [] => some (.inr (.inl (some (.ref v))))
    | .null :: [] => some (.inr (.inl (some .null)))
    | _ => (none : Option zmR)) = some (.inl q) := h
  split at h <;> cases h
theorem snIs_vret {len : Nat} {r5 : Nat × Nat × Nat × Nat × Nat} {iv : Int32} {lv : Int64} {q : Nat × List Value × List Value × zmH} (h : zmX (.return_, len, r5, iv, lv) pc L st x = some (.inl q)) : False := by
  have h : (match st with
    | [] => some (.inr (.inl none))
    | _ => (none : Option zmR)) = some (.inl q) := h
  split at h <;> cases h
set_option maxHeartbeats 4000000 in
theorem snStep {i : zmI} (C : snCx od sz0 Ls oI oL D tyc p s m args meth c μ n0) (hok : snOk μ pc i = true) (hx : zmX i pc L st x = some (.inl (pc', L', st', x'))) (hI : snInv od sz0 Ls oI oL D tyc s H locs ls (snL μ) L x) (hn0 : n0 ≤ x.1.1) (hR : x'.1.1 - n0 ≤ R.cells ∧ snSum x'.1.1 - snSum n0 ≤ R.slots ∧ 64 ≤ R.locals ∧ 1 ≤ R.frames) (kk : ∀ (ls' : Array Slot) (H' : Heap) (locs' : List Loc), snInv od sz0 Ls oI oL D tyc s H' locs' ls' (snL μ) L' x' → W p l e R s m args below meth c H' locs' (x'.1.1 - n0) (snSum x'.1.1 - snSum n0) Q (F0 m pc' ls' (st'.map (snV od sz0)))) : W p l e R s m args below meth c H locs (x.1.1 - n0) (snSum x.1.1 - snSum n0) Q (F0 m pc ls (st.map (snV od sz0))) := by
  obtain ⟨ins, len, r5, iv, lv⟩ := i
  obtain ⟨hd0, h2⟩ := snB2 hok
  have hd := of_decide_eq_true hd0
  cases ins
  case aload => exact snS_aload C hd h2 hx hI hn0 hR kk
  case aload_n => exact snS_aload_n C hd h2 hx hI hn0 hR kk
  case iload => exact snS_iload C hd h2 hx hI hn0 hR kk
  case iload_n => exact snS_iload_n C hd h2 hx hI hn0 hR kk
  case lload => exact snS_lload C hd h2 hx hI hn0 hR kk
  case lload_n => exact snS_lload_n C hd h2 hx hI hn0 hR kk
  case iconst => exact snS_iconst C hd h2 hx hI hn0 hR kk
  case bipush => exact snS_bipush C hd h2 hx hI hn0 hR kk
  case sipush => exact snS_sipush C hd h2 hx hI hn0 hR kk
  case lconst => exact snS_lconst C hd h2 hx hI hn0 hR kk
  case ldc => exact snS_ldc C hd h2 hx hI hn0 hR kk
  case ldc_w => exact snS_ldc_w C hd h2 hx hI hn0 hR kk
  case ldc2_w => exact snS_ldc2_w C hd h2 hx hI hn0 hR kk
  case aconst_null => exact snS_aconst_null C hd h2 hx hI hn0 hR kk
  case istore => exact snS_istore C hd h2 hx hI hn0 hR kk
  case istore_n => exact snS_istore_n C hd h2 hx hI hn0 hR kk
  case astore => exact snS_astore C hd h2 hx hI hn0 hR kk
  case astore_n => exact snS_astore_n C hd h2 hx hI hn0 hR kk
  case lstore => exact snS_lstore C hd h2 hx hI hn0 hR kk
  case lstore_n => exact snS_lstore_n C hd h2 hx hI hn0 hR kk
  case iinc => exact snS_iinc C hd h2 hx hI hn0 hR kk
  case iadd => exact snS_iadd C hd h2 hx hI hn0 hR kk
  case isub => exact snS_isub C hd h2 hx hI hn0 hR kk
  case imul => exact snS_imul C hd h2 hx hI hn0 hR kk
  case iand => exact snS_iand C hd h2 hx hI hn0 hR kk
  case ior => exact snS_ior C hd h2 hx hI hn0 hR kk
  case ixor => exact snS_ixor C hd h2 hx hI hn0 hR kk
  case idiv => exact snS_idiv C hd h2 hx hI hn0 hR kk
  case irem => exact snS_irem C hd h2 hx hI hn0 hR kk
  case ineg => exact snS_ineg C hd h2 hx hI hn0 hR kk
  case ladd => exact snS_ladd C hd h2 hx hI hn0 hR kk
  case lsub => exact snS_lsub C hd h2 hx hI hn0 hR kk
  case lmul => exact snS_lmul C hd h2 hx hI hn0 hR kk
  case ldiv => exact snS_ldiv C hd h2 hx hI hn0 hR kk
  case lrem => exact snS_lrem C hd h2 hx hI hn0 hR kk
  case lneg => exact snS_lneg C hd h2 hx hI hn0 hR kk
  case ishl => exact snS_ishl C hd h2 hx hI hn0 hR kk
  case ishr => exact snS_ishr C hd h2 hx hI hn0 hR kk
  case iushr => exact snS_iushr C hd h2 hx hI hn0 hR kk
  case i2l => exact snS_i2l C hd h2 hx hI hn0 hR kk
  case l2i => exact snS_l2i C hd h2 hx hI hn0 hR kk
  case i2b => exact snS_i2b C hd h2 hx hI hn0 hR kk
  case i2c => exact snS_i2c C hd h2 hx hI hn0 hR kk
  case lcmp => exact snS_lcmp C hd h2 hx hI hn0 hR kk
  case dup => exact snS_dup C hd h2 hx hI hn0 hR kk
  case dup2 => exact snS_dup2 C hd h2 hx hI hn0 hR kk
  case pop => exact snS_pop C hd h2 hx hI hn0 hR kk
  case pop2 => exact snS_pop2 C hd h2 hx hI hn0 hR kk
  case goto => exact snS_goto C hd h2 hx hI hn0 hR kk
  case ifnull => exact snS_ifnull C hd h2 hx hI hn0 hR kk
  case ifnonnull => exact snS_ifnonnull C hd h2 hx hI hn0 hR kk
  case tableswitch => exact snS_tableswitch C hd h2 hx hI hn0 hR kk
  case lookupswitch => exact snS_lookupswitch C hd h2 hx hI hn0 hR kk
  case getfield => exact snS_getfield C hd h2 hx hI hn0 hR kk
  case putfield => exact snS_putfield C hd h2 hx hI hn0 hR kk
  case getstatic => exact snS_getstatic C hd h2 hx hI hn0 hR kk
  case iaload => exact snS_iaload C hd h2 hx hI hn0 hR kk
  case baload => exact snS_baload C hd h2 hx hI hn0 hR kk
  case laload => exact snS_laload C hd h2 hx hI hn0 hR kk
  case aaload => exact snS_aaload C hd h2 hx hI hn0 hR kk
  case iastore => exact snS_iastore C hd h2 hx hI hn0 hR kk
  case lastore => exact snS_lastore C hd h2 hx hI hn0 hR kk
  case bastore => exact snS_bastore C hd h2 hx hI hn0 hR kk
  case aastore => exact snS_aastore C hd h2 hx hI hn0 hR kk
  case arraylength => exact snS_arraylength C hd h2 hx hI hn0 hR kk
  case new => exact snS_new C hd h2 hx hI hn0 hR kk
  case newarray => exact snS_newarray C hd h2 hx hI hn0 hR kk
  case anewarray => exact snS_anewarray C hd h2 hx hI hn0 hR kk
  case ifCond cc o => cases cc <;> first | exact snS_if_eq C hd h2 hx hI hn0 hR kk | exact snS_if_ne C hd h2 hx hI hn0 hR kk | exact snS_if_lt C hd h2 hx hI hn0 hR kk | exact snS_if_ge C hd h2 hx hI hn0 hR kk | exact snS_if_gt C hd h2 hx hI hn0 hR kk | exact snS_if_le C hd h2 hx hI hn0 hR kk
  case if_icmp cc o => cases cc <;> first | exact snS_icmp_eq C hd h2 hx hI hn0 hR kk | exact snS_icmp_ne C hd h2 hx hI hn0 hR kk | exact snS_icmp_lt C hd h2 hx hI hn0 hR kk | exact snS_icmp_ge C hd h2 hx hI hn0 hR kk | exact snS_icmp_gt C hd h2 hx hI hn0 hR kk | exact snS_icmp_le C hd h2 hx hI hn0 hR kk
  case invokestatic k =>
    obtain ⟨ra, rb, rc, rd, re⟩ := r5
    exact snS_copy (snIs_copy hx) C hd h2 hx hI hn0 hR kk
  case invokespecial k =>
    obtain ⟨ra, rb, rc, rd, re⟩ := r5
    exact snS_init0 (snIs_init hx) C hd h2 hx hI hn0 hR kk
  case invokevirtual k =>
    obtain ⟨ra, rb, rc, rd, re⟩ := r5
    exact (snIs_virt hx).elim
  case ireturn =>
    obtain ⟨ra, rb, rc, rd, re⟩ := r5
    exact (snIs_iret hx).elim
  case lreturn => exact (snIs_lret hx).elim
  case areturn => exact (snIs_aret hx).elim
  case return_ => exact (snIs_vret hx).elim
  all_goals (have h0 : (none : Option zmR) = some (.inl (pc', L', st', x')) := hx; cases h0)
end SC
