/-! ===== each instruction ===== -/
section SC
variable {od : Nat → Nat} {sz0 Ls : Nat} {oI : Nat → Nat → Int32} {oL : Nat → Nat → Int64} {D : va_G} {tyc : Nat → ClassId}
variable {p : Program} {l : Launch} {e : Env} {R : Room} {s : State} {m : MethodId} {args : Array Value} {below : List Frame} {meth : Method} {c : Code} {H : Heap} {locs : List Loc} {Q : State → Prop}
variable {μ n0 pc pc' len : Nat} {L L' st st' : List Value} {x x' : zmH} {ls : Array Slot} {r5 : Nat × Nat × Nat × Nat × Nat} {iv : Int32} {lv : Int64}

theorem snS_aload {k : Nat} (C : snCx od sz0 Ls oI oL D tyc p s m args meth c μ n0) (hd : decode (snB μ) pc = .ok (.aload k, len)) (h2 : snOk2 (snN μ).cls μ pc (.aload k, len, r5, iv, lv) = true) (hx : zmX (.aload k, len, r5, iv, lv) pc L st x = some (.inl (pc', L', st', x'))) (hI : snInv od sz0 Ls oI oL D tyc s H locs ls (snL μ) L x) (hn0 : n0 ≤ x.1.1) (hR : x'.1.1 - n0 ≤ R.cells ∧ snSum x'.1.1 - snSum n0 ≤ R.slots ∧ 64 ≤ R.locals ∧ 1 ≤ R.frames) (kk : ∀ (ls' : Array Slot) (H' : Heap) (locs' : List Loc), snInv od sz0 Ls oI oL D tyc s H' locs' ls' (snL μ) L' x' → W p l e R s m args below meth c H' locs' (x'.1.1 - n0) (snSum x'.1.1 - snSum n0) Q (F0 m pc' ls' (st'.map (snV od sz0)))) : W p l e R s m args below meth c H locs (x.1.1 - n0) (snSum x.1.1 - snSum n0) Q (F0 m pc ls (st.map (snV od sz0))) := by
  have h2 : Nat.beq len 2 = true := h2
  obtain rfl := Nat.eq_of_beq_eq_true h2
  have hx : zmLda L k (fun v => some (.inl (pc + 2, L, v :: st, x))) = some (.inl (pc', L', st', x')) := hx
  rcases zmLda_some hx with ⟨a, hv, hx⟩ | ⟨hv, hx⟩ <;> cases hx
  · exact lv_aload C.1 C.2.1 hd (hI.1.2.2 _ _ hv (snJr a)) (kk ls H locs hI)
  · exact lv_aloadN C.1 C.2.1 hd (hI.1.2.2 _ _ hv snJn) (kk ls H locs hI)
theorem snS_aload_n {k : Fin 4} (C : snCx od sz0 Ls oI oL D tyc p s m args meth c μ n0) (hd : decode (snB μ) pc = .ok (.aload_n k, len)) (h2 : snOk2 (snN μ).cls μ pc (.aload_n k, len, r5, iv, lv) = true) (hx : zmX (.aload_n k, len, r5, iv, lv) pc L st x = some (.inl (pc', L', st', x'))) (hI : snInv od sz0 Ls oI oL D tyc s H locs ls (snL μ) L x) (hn0 : n0 ≤ x.1.1) (hR : x'.1.1 - n0 ≤ R.cells ∧ snSum x'.1.1 - snSum n0 ≤ R.slots ∧ 64 ≤ R.locals ∧ 1 ≤ R.frames) (kk : ∀ (ls' : Array Slot) (H' : Heap) (locs' : List Loc), snInv od sz0 Ls oI oL D tyc s H' locs' ls' (snL μ) L' x' → W p l e R s m args below meth c H' locs' (x'.1.1 - n0) (snSum x'.1.1 - snSum n0) Q (F0 m pc' ls' (st'.map (snV od sz0)))) : W p l e R s m args below meth c H locs (x.1.1 - n0) (snSum x.1.1 - snSum n0) Q (F0 m pc ls (st.map (snV od sz0))) := by
  have h2 : Nat.beq len 1 = true := h2
  obtain rfl := Nat.eq_of_beq_eq_true h2
  have hx : zmLda L k.val (fun v => some (.inl (pc + 1, L, v :: st, x))) = some (.inl (pc', L', st', x')) := hx
  rcases zmLda_some hx with ⟨a, hv, hx⟩ | ⟨hv, hx⟩ <;> cases hx
  · exact lv_aload_n C.1 C.2.1 hd rfl (hI.1.2.2 _ _ hv (snJr a)) (kk ls H locs hI)
  · exact lv_aload_nN C.1 C.2.1 hd rfl (hI.1.2.2 _ _ hv snJn) (kk ls H locs hI)
theorem snS_iload {k : Nat} (C : snCx od sz0 Ls oI oL D tyc p s m args meth c μ n0) (hd : decode (snB μ) pc = .ok (.iload k, len)) (h2 : snOk2 (snN μ).cls μ pc (.iload k, len, r5, iv, lv) = true) (hx : zmX (.iload k, len, r5, iv, lv) pc L st x = some (.inl (pc', L', st', x'))) (hI : snInv od sz0 Ls oI oL D tyc s H locs ls (snL μ) L x) (hn0 : n0 ≤ x.1.1) (hR : x'.1.1 - n0 ≤ R.cells ∧ snSum x'.1.1 - snSum n0 ≤ R.slots ∧ 64 ≤ R.locals ∧ 1 ≤ R.frames) (kk : ∀ (ls' : Array Slot) (H' : Heap) (locs' : List Loc), snInv od sz0 Ls oI oL D tyc s H' locs' ls' (snL μ) L' x' → W p l e R s m args below meth c H' locs' (x'.1.1 - n0) (snSum x'.1.1 - snSum n0) Q (F0 m pc' ls' (st'.map (snV od sz0)))) : W p l e R s m args below meth c H locs (x.1.1 - n0) (snSum x.1.1 - snSum n0) Q (F0 m pc ls (st.map (snV od sz0))) := by
  have h2 : Nat.beq len 2 = true := h2
  obtain rfl := Nat.eq_of_beq_eq_true h2
  have hx : zmLd1 L k (fun v => some (.inl (pc + 2, L, v :: st, x))) = some (.inl (pc', L', st', x')) := hx
  obtain ⟨a, hv, hx⟩ := zmLd1_some hx
  cases hx
  exact lv_iload C.1 C.2.1 hd (hI.1.2.2 _ _ hv (snJi a)) (kk ls H locs hI)
theorem snS_iload_n {k : Fin 4} (C : snCx od sz0 Ls oI oL D tyc p s m args meth c μ n0) (hd : decode (snB μ) pc = .ok (.iload_n k, len)) (h2 : snOk2 (snN μ).cls μ pc (.iload_n k, len, r5, iv, lv) = true) (hx : zmX (.iload_n k, len, r5, iv, lv) pc L st x = some (.inl (pc', L', st', x'))) (hI : snInv od sz0 Ls oI oL D tyc s H locs ls (snL μ) L x) (hn0 : n0 ≤ x.1.1) (hR : x'.1.1 - n0 ≤ R.cells ∧ snSum x'.1.1 - snSum n0 ≤ R.slots ∧ 64 ≤ R.locals ∧ 1 ≤ R.frames) (kk : ∀ (ls' : Array Slot) (H' : Heap) (locs' : List Loc), snInv od sz0 Ls oI oL D tyc s H' locs' ls' (snL μ) L' x' → W p l e R s m args below meth c H' locs' (x'.1.1 - n0) (snSum x'.1.1 - snSum n0) Q (F0 m pc' ls' (st'.map (snV od sz0)))) : W p l e R s m args below meth c H locs (x.1.1 - n0) (snSum x.1.1 - snSum n0) Q (F0 m pc ls (st.map (snV od sz0))) := by
  have h2 : Nat.beq len 1 = true := h2
  obtain rfl := Nat.eq_of_beq_eq_true h2
  have hx : zmLd1 L k.val (fun v => some (.inl (pc + 1, L, v :: st, x))) = some (.inl (pc', L', st', x')) := hx
  obtain ⟨a, hv, hx⟩ := zmLd1_some hx
  cases hx
  exact lv_iload_n C.1 C.2.1 hd rfl (hI.1.2.2 _ _ hv (snJi a)) (kk ls H locs hI)
theorem snS_lload {k : Nat} (C : snCx od sz0 Ls oI oL D tyc p s m args meth c μ n0) (hd : decode (snB μ) pc = .ok (.lload k, len)) (h2 : snOk2 (snN μ).cls μ pc (.lload k, len, r5, iv, lv) = true) (hx : zmX (.lload k, len, r5, iv, lv) pc L st x = some (.inl (pc', L', st', x'))) (hI : snInv od sz0 Ls oI oL D tyc s H locs ls (snL μ) L x) (hn0 : n0 ≤ x.1.1) (hR : x'.1.1 - n0 ≤ R.cells ∧ snSum x'.1.1 - snSum n0 ≤ R.slots ∧ 64 ≤ R.locals ∧ 1 ≤ R.frames) (kk : ∀ (ls' : Array Slot) (H' : Heap) (locs' : List Loc), snInv od sz0 Ls oI oL D tyc s H' locs' ls' (snL μ) L' x' → W p l e R s m args below meth c H' locs' (x'.1.1 - n0) (snSum x'.1.1 - snSum n0) Q (F0 m pc' ls' (st'.map (snV od sz0)))) : W p l e R s m args below meth c H locs (x.1.1 - n0) (snSum x.1.1 - snSum n0) Q (F0 m pc ls (st.map (snV od sz0))) := by
  have h2 : Nat.beq len 2 = true := h2
  obtain rfl := Nat.eq_of_beq_eq_true h2
  have hx : zmLdl L k (fun v => some (.inl (pc + 2, L, v :: st, x))) = some (.inl (pc', L', st', x')) := hx
  obtain ⟨a, hv, hx⟩ := zmLdl_some hx
  cases hx
  exact lv_lload C.1 C.2.1 hd (hI.1.2.2 _ _ hv (snJl a)) (kk ls H locs hI)
theorem snS_lload_n {k : Fin 4} (C : snCx od sz0 Ls oI oL D tyc p s m args meth c μ n0) (hd : decode (snB μ) pc = .ok (.lload_n k, len)) (h2 : snOk2 (snN μ).cls μ pc (.lload_n k, len, r5, iv, lv) = true) (hx : zmX (.lload_n k, len, r5, iv, lv) pc L st x = some (.inl (pc', L', st', x'))) (hI : snInv od sz0 Ls oI oL D tyc s H locs ls (snL μ) L x) (hn0 : n0 ≤ x.1.1) (hR : x'.1.1 - n0 ≤ R.cells ∧ snSum x'.1.1 - snSum n0 ≤ R.slots ∧ 64 ≤ R.locals ∧ 1 ≤ R.frames) (kk : ∀ (ls' : Array Slot) (H' : Heap) (locs' : List Loc), snInv od sz0 Ls oI oL D tyc s H' locs' ls' (snL μ) L' x' → W p l e R s m args below meth c H' locs' (x'.1.1 - n0) (snSum x'.1.1 - snSum n0) Q (F0 m pc' ls' (st'.map (snV od sz0)))) : W p l e R s m args below meth c H locs (x.1.1 - n0) (snSum x.1.1 - snSum n0) Q (F0 m pc ls (st.map (snV od sz0))) := by
  have h2 : Nat.beq len 1 = true := h2
  obtain rfl := Nat.eq_of_beq_eq_true h2
  have hx : zmLdl L k.val (fun v => some (.inl (pc + 1, L, v :: st, x))) = some (.inl (pc', L', st', x')) := hx
  obtain ⟨a, hv, hx⟩ := zmLdl_some hx
  cases hx
  exact lv_lload_n C.1 C.2.1 hd rfl (hI.1.2.2 _ _ hv (snJl a)) (kk ls H locs hI)
theorem snS_iconst {k : Int} (C : snCx od sz0 Ls oI oL D tyc p s m args meth c μ n0) (hd : decode (snB μ) pc = .ok (.iconst k, len)) (h2 : snOk2 (snN μ).cls μ pc (.iconst k, len, r5, iv, lv) = true) (hx : zmX (.iconst k, len, r5, iv, lv) pc L st x = some (.inl (pc', L', st', x'))) (hI : snInv od sz0 Ls oI oL D tyc s H locs ls (snL μ) L x) (hn0 : n0 ≤ x.1.1) (hR : x'.1.1 - n0 ≤ R.cells ∧ snSum x'.1.1 - snSum n0 ≤ R.slots ∧ 64 ≤ R.locals ∧ 1 ≤ R.frames) (kk : ∀ (ls' : Array Slot) (H' : Heap) (locs' : List Loc), snInv od sz0 Ls oI oL D tyc s H' locs' ls' (snL μ) L' x' → W p l e R s m args below meth c H' locs' (x'.1.1 - n0) (snSum x'.1.1 - snSum n0) Q (F0 m pc' ls' (st'.map (snV od sz0)))) : W p l e R s m args below meth c H locs (x.1.1 - n0) (snSum x.1.1 - snSum n0) Q (F0 m pc ls (st.map (snV od sz0))) := by
  have h2 : (Nat.beq len 1 && decide (Int32.ofInt k = iv)) = true := h2
  obtain ⟨h2, h3⟩ := snB2 h2
  obtain rfl := Nat.eq_of_beq_eq_true h2
  have hx : some (.inl (pc + 1, L, .int iv :: st, x)) = (some (.inl (pc', L', st', x')) : Option zmR) := hx
  cases hx
  exact lv_iconst C.1 C.2.1 hd (of_decide_eq_true h3) (kk ls H locs hI)
theorem snS_bipush {k : Int} (C : snCx od sz0 Ls oI oL D tyc p s m args meth c μ n0) (hd : decode (snB μ) pc = .ok (.bipush k, len)) (h2 : snOk2 (snN μ).cls μ pc (.bipush k, len, r5, iv, lv) = true) (hx : zmX (.bipush k, len, r5, iv, lv) pc L st x = some (.inl (pc', L', st', x'))) (hI : snInv od sz0 Ls oI oL D tyc s H locs ls (snL μ) L x) (hn0 : n0 ≤ x.1.1) (hR : x'.1.1 - n0 ≤ R.cells ∧ snSum x'.1.1 - snSum n0 ≤ R.slots ∧ 64 ≤ R.locals ∧ 1 ≤ R.frames) (kk : ∀ (ls' : Array Slot) (H' : Heap) (locs' : List Loc), snInv od sz0 Ls oI oL D tyc s H' locs' ls' (snL μ) L' x' → W p l e R s m args below meth c H' locs' (x'.1.1 - n0) (snSum x'.1.1 - snSum n0) Q (F0 m pc' ls' (st'.map (snV od sz0)))) : W p l e R s m args below meth c H locs (x.1.1 - n0) (snSum x.1.1 - snSum n0) Q (F0 m pc ls (st.map (snV od sz0))) := by
  have h2 : (Nat.beq len 2 && decide ((Int8.ofInt k).toInt32 = iv)) = true := h2
  obtain ⟨h2, h3⟩ := snB2 h2
  obtain rfl := Nat.eq_of_beq_eq_true h2
  have hx : some (.inl (pc + 2, L, .int iv :: st, x)) = (some (.inl (pc', L', st', x')) : Option zmR) := hx
  cases hx
  exact lv_bipush C.1 C.2.1 hd (of_decide_eq_true h3) (kk ls H locs hI)
theorem snS_sipush {k : Int} (C : snCx od sz0 Ls oI oL D tyc p s m args meth c μ n0) (hd : decode (snB μ) pc = .ok (.sipush k, len)) (h2 : snOk2 (snN μ).cls μ pc (.sipush k, len, r5, iv, lv) = true) (hx : zmX (.sipush k, len, r5, iv, lv) pc L st x = some (.inl (pc', L', st', x'))) (hI : snInv od sz0 Ls oI oL D tyc s H locs ls (snL μ) L x) (hn0 : n0 ≤ x.1.1) (hR : x'.1.1 - n0 ≤ R.cells ∧ snSum x'.1.1 - snSum n0 ≤ R.slots ∧ 64 ≤ R.locals ∧ 1 ≤ R.frames) (kk : ∀ (ls' : Array Slot) (H' : Heap) (locs' : List Loc), snInv od sz0 Ls oI oL D tyc s H' locs' ls' (snL μ) L' x' → W p l e R s m args below meth c H' locs' (x'.1.1 - n0) (snSum x'.1.1 - snSum n0) Q (F0 m pc' ls' (st'.map (snV od sz0)))) : W p l e R s m args below meth c H locs (x.1.1 - n0) (snSum x.1.1 - snSum n0) Q (F0 m pc ls (st.map (snV od sz0))) := by
  have h2 : (Nat.beq len 3 && decide ((Int16.ofInt k).toInt32 = iv)) = true := h2
  obtain ⟨h2, h3⟩ := snB2 h2
  obtain rfl := Nat.eq_of_beq_eq_true h2
  have hx : some (.inl (pc + 3, L, .int iv :: st, x)) = (some (.inl (pc', L', st', x')) : Option zmR) := hx
  cases hx
  exact lv_sipush C.1 C.2.1 hd (of_decide_eq_true h3) (kk ls H locs hI)
theorem snS_lconst {k : Fin 2} (C : snCx od sz0 Ls oI oL D tyc p s m args meth c μ n0) (hd : decode (snB μ) pc = .ok (.lconst k, len)) (h2 : snOk2 (snN μ).cls μ pc (.lconst k, len, r5, iv, lv) = true) (hx : zmX (.lconst k, len, r5, iv, lv) pc L st x = some (.inl (pc', L', st', x'))) (hI : snInv od sz0 Ls oI oL D tyc s H locs ls (snL μ) L x) (hn0 : n0 ≤ x.1.1) (hR : x'.1.1 - n0 ≤ R.cells ∧ snSum x'.1.1 - snSum n0 ≤ R.slots ∧ 64 ≤ R.locals ∧ 1 ≤ R.frames) (kk : ∀ (ls' : Array Slot) (H' : Heap) (locs' : List Loc), snInv od sz0 Ls oI oL D tyc s H' locs' ls' (snL μ) L' x' → W p l e R s m args below meth c H' locs' (x'.1.1 - n0) (snSum x'.1.1 - snSum n0) Q (F0 m pc' ls' (st'.map (snV od sz0)))) : W p l e R s m args below meth c H locs (x.1.1 - n0) (snSum x.1.1 - snSum n0) Q (F0 m pc ls (st.map (snV od sz0))) := by
  have h2 : (Nat.beq len 1 && decide (Int64.ofNat k.val = lv)) = true := h2
  obtain ⟨h2, h3⟩ := snB2 h2
  obtain rfl := Nat.eq_of_beq_eq_true h2
  have hx : some (.inl (pc + 1, L, .long lv :: st, x)) = (some (.inl (pc', L', st', x')) : Option zmR) := hx
  cases hx
  exact lv_lconst C.1 C.2.1 hd (of_decide_eq_true h3) (kk ls H locs hI)
theorem snS_ldc_w {k : Nat} (C : snCx od sz0 Ls oI oL D tyc p s m args meth c μ n0) (hd : decode (snB μ) pc = .ok (.ldc_w k, len)) (h2 : snOk2 (snN μ).cls μ pc (.ldc_w k, len, r5, iv, lv) = true) (hx : zmX (.ldc_w k, len, r5, iv, lv) pc L st x = some (.inl (pc', L', st', x'))) (hI : snInv od sz0 Ls oI oL D tyc s H locs ls (snL μ) L x) (hn0 : n0 ≤ x.1.1) (hR : x'.1.1 - n0 ≤ R.cells ∧ snSum x'.1.1 - snSum n0 ≤ R.slots ∧ 64 ≤ R.locals ∧ 1 ≤ R.frames) (kk : ∀ (ls' : Array Slot) (H' : Heap) (locs' : List Loc), snInv od sz0 Ls oI oL D tyc s H' locs' ls' (snL μ) L' x' → W p l e R s m args below meth c H' locs' (x'.1.1 - n0) (snSum x'.1.1 - snSum n0) Q (F0 m pc' ls' (st'.map (snV od sz0)))) : W p l e R s m args below meth c H locs (x.1.1 - n0) (snSum x.1.1 - snSum n0) Q (F0 m pc ls (st.map (snV od sz0))) := by
  have h2 : (Nat.beq len 3 && snW r5.2.2.2.1 (.constant (snN μ).cls k iv)) = true := h2
  obtain ⟨h2, h3⟩ := snB2 h2
  obtain rfl := Nat.eq_of_beq_eq_true h2
  have hx : some (.inl (pc + 3, L, .int iv :: st, x)) = (some (.inl (pc', L', st', x')) : Option zmR) := hx
  cases hx
  exact lv_ldcw C.1 C.2.1 C.2.2.2.1 (snW_spec C h3) hd (kk ls H locs hI)
theorem snS_ldc2_w {k : Nat} (C : snCx od sz0 Ls oI oL D tyc p s m args meth c μ n0) (hd : decode (snB μ) pc = .ok (.ldc2_w k, len)) (h2 : snOk2 (snN μ).cls μ pc (.ldc2_w k, len, r5, iv, lv) = true) (hx : zmX (.ldc2_w k, len, r5, iv, lv) pc L st x = some (.inl (pc', L', st', x'))) (hI : snInv od sz0 Ls oI oL D tyc s H locs ls (snL μ) L x) (hn0 : n0 ≤ x.1.1) (hR : x'.1.1 - n0 ≤ R.cells ∧ snSum x'.1.1 - snSum n0 ≤ R.slots ∧ 64 ≤ R.locals ∧ 1 ≤ R.frames) (kk : ∀ (ls' : Array Slot) (H' : Heap) (locs' : List Loc), snInv od sz0 Ls oI oL D tyc s H' locs' ls' (snL μ) L' x' → W p l e R s m args below meth c H' locs' (x'.1.1 - n0) (snSum x'.1.1 - snSum n0) Q (F0 m pc' ls' (st'.map (snV od sz0)))) : W p l e R s m args below meth c H locs (x.1.1 - n0) (snSum x.1.1 - snSum n0) Q (F0 m pc ls (st.map (snV od sz0))) := by
  have h2 : (Nat.beq len 3 && snW r5.2.2.2.1 (.constantLong (snN μ).cls k lv)) = true := h2
  obtain ⟨h2, h3⟩ := snB2 h2
  obtain rfl := Nat.eq_of_beq_eq_true h2
  have hx : some (.inl (pc + 3, L, .long lv :: st, x)) = (some (.inl (pc', L', st', x')) : Option zmR) := hx
  cases hx
  exact lv_ldc2 C.1 C.2.1 C.2.2.2.1 (snW_spec C h3) hd (kk ls H locs hI)
theorem snS_ldc {k : Nat} (C : snCx od sz0 Ls oI oL D tyc p s m args meth c μ n0) (hd : decode (snB μ) pc = .ok (.ldc k, len)) (h2 : snOk2 (snN μ).cls μ pc (.ldc k, len, r5, iv, lv) = true) (hx : zmX (.ldc k, len, r5, iv, lv) pc L st x = some (.inl (pc', L', st', x'))) (hI : snInv od sz0 Ls oI oL D tyc s H locs ls (snL μ) L x) (hn0 : n0 ≤ x.1.1) (hR : x'.1.1 - n0 ≤ R.cells ∧ snSum x'.1.1 - snSum n0 ≤ R.slots ∧ 64 ≤ R.locals ∧ 1 ≤ R.frames) (kk : ∀ (ls' : Array Slot) (H' : Heap) (locs' : List Loc), snInv od sz0 Ls oI oL D tyc s H' locs' ls' (snL μ) L' x' → W p l e R s m args below meth c H' locs' (x'.1.1 - n0) (snSum x'.1.1 - snSum n0) Q (F0 m pc' ls' (st'.map (snV od sz0)))) : W p l e R s m args below meth c H locs (x.1.1 - n0) (snSum x.1.1 - snSum n0) Q (F0 m pc ls (st.map (snV od sz0))) := by
  obtain ⟨ra, rb, rc, rd, re⟩ := r5
  cases rb with
  | zero =>
    have h2 : (Nat.beq len 2 && snW rd (.constant (snN μ).cls k iv)) = true := h2
    obtain ⟨h2, h3⟩ := snB2 h2
    obtain rfl := Nat.eq_of_beq_eq_true h2
    have hx : some (.inl (pc + 2, L, .int iv :: st, x)) = (some (.inl (pc', L', st', x')) : Option zmR) := hx
    cases hx
    exact lv_ldc C.1 C.2.1 C.2.2.2.1 (snW_spec C h3) hd (kk ls H locs hI)
  | succ rb =>
    have h2 : (Nat.beq len 2 && snStr.any (fun q => decide (q.1 = (snN μ).cls) && (Nat.beq q.2.1 k && Nat.beq q.2.2.2 ra))) = true := h2
    obtain ⟨h2, h3⟩ := snB2 h2
    obtain rfl := Nat.eq_of_beq_eq_true h2
    have hx : some (.inl (pc + 2, L, .ref ra :: st, x)) = (some (.inl (pc', L', st', x')) : Option zmR) := hx
    cases hx
    obtain ⟨q, hq, h4⟩ := List.any_eq_true.mp h3
    obtain ⟨h4, h5⟩ := snB2 h4
    obtain ⟨h5, h6⟩ := snB2 h5
    have hz := C.2.2.2.2.2.1.2.2.2.2.2.2.2.2.2.2.2.2.1 q hq
    rw [of_decide_eq_true h4, Nat.eq_of_beq_eq_true h5, Nat.eq_of_beq_eq_true h6] at hz
    have hlt : ra < 14 := by
      rw [← Nat.eq_of_beq_eq_true h6]
      simp only [snStr, List.mem_cons, List.not_mem_nil, or_false] at hq
      rcases hq with rfl | rfl | rfl | rfl | rfl | rfl <;> decide
    refine va_ldcS C.1 C.2.1 C.2.2.2.1 hz hd ?_
    have k1 := kk ls H locs hI
    have e1 : snAd od sz0 ra = od ra := if_pos hlt
    rw [← e1]
    exact k1
theorem snS_aconst_null (C : snCx od sz0 Ls oI oL D tyc p s m args meth c μ n0) (hd : decode (snB μ) pc = .ok (.aconst_null, len)) (h2 : snOk2 (snN μ).cls μ pc (.aconst_null, len, r5, iv, lv) = true) (hx : zmX (.aconst_null, len, r5, iv, lv) pc L st x = some (.inl (pc', L', st', x'))) (hI : snInv od sz0 Ls oI oL D tyc s H locs ls (snL μ) L x) (hn0 : n0 ≤ x.1.1) (hR : x'.1.1 - n0 ≤ R.cells ∧ snSum x'.1.1 - snSum n0 ≤ R.slots ∧ 64 ≤ R.locals ∧ 1 ≤ R.frames) (kk : ∀ (ls' : Array Slot) (H' : Heap) (locs' : List Loc), snInv od sz0 Ls oI oL D tyc s H' locs' ls' (snL μ) L' x' → W p l e R s m args below meth c H' locs' (x'.1.1 - n0) (snSum x'.1.1 - snSum n0) Q (F0 m pc' ls' (st'.map (snV od sz0)))) : W p l e R s m args below meth c H locs (x.1.1 - n0) (snSum x.1.1 - snSum n0) Q (F0 m pc ls (st.map (snV od sz0))) := by
  have h2 : Nat.beq len 1 = true := h2
  obtain rfl := Nat.eq_of_beq_eq_true h2
  have hx : some (.inl (pc + 1, L, .null :: st, x)) = (some (.inl (pc', L', st', x')) : Option zmR) := hx
  cases hx
  exact lv_null C.1 C.2.1 hd (kk ls H locs hI)
theorem snS_istore {k : Nat} (C : snCx od sz0 Ls oI oL D tyc p s m args meth c μ n0) (hd : decode (snB μ) pc = .ok (.istore k, len)) (h2 : snOk2 (snN μ).cls μ pc (.istore k, len, r5, iv, lv) = true) (hx : zmX (.istore k, len, r5, iv, lv) pc L st x = some (.inl (pc', L', st', x'))) (hI : snInv od sz0 Ls oI oL D tyc s H locs ls (snL μ) L x) (hn0 : n0 ≤ x.1.1) (hR : x'.1.1 - n0 ≤ R.cells ∧ snSum x'.1.1 - snSum n0 ≤ R.slots ∧ 64 ≤ R.locals ∧ 1 ≤ R.frames) (kk : ∀ (ls' : Array Slot) (H' : Heap) (locs' : List Loc), snInv od sz0 Ls oI oL D tyc s H' locs' ls' (snL μ) L' x' → W p l e R s m args below meth c H' locs' (x'.1.1 - n0) (snSum x'.1.1 - snSum n0) Q (F0 m pc' ls' (st'.map (snV od sz0)))) : W p l e R s m args below meth c H locs (x.1.1 - n0) (snSum x.1.1 - snSum n0) Q (F0 m pc ls (st.map (snV od sz0))) := by
  have h2 : (Nat.beq len 2 && Nat.blt k (snL μ)) = true := h2
  obtain ⟨h2, h3⟩ := snB2 h2
  obtain rfl := Nat.eq_of_beq_eq_true h2
  have hx : p1i st (fun a r => some (.inl (pc + 2, zmSt1 L k (.int a), r, x))) = some (.inl (pc', L', st', x')) := hx
  obtain ⟨a, r, rfl, hx⟩ := p1i_some hx
  cases hx
  exact lv_istore C.1 C.2.1 hd (snLoc_lv hI.1) (Nat.le_of_ble_eq_true h3) rfl (fun ls' h' => kk ls' H locs ⟨snLoc_st1 (v := .int a) h', hI.2⟩)
theorem snS_istore_n {k : Fin 4} (C : snCx od sz0 Ls oI oL D tyc p s m args meth c μ n0) (hd : decode (snB μ) pc = .ok (.istore_n k, len)) (h2 : snOk2 (snN μ).cls μ pc (.istore_n k, len, r5, iv, lv) = true) (hx : zmX (.istore_n k, len, r5, iv, lv) pc L st x = some (.inl (pc', L', st', x'))) (hI : snInv od sz0 Ls oI oL D tyc s H locs ls (snL μ) L x) (hn0 : n0 ≤ x.1.1) (hR : x'.1.1 - n0 ≤ R.cells ∧ snSum x'.1.1 - snSum n0 ≤ R.slots ∧ 64 ≤ R.locals ∧ 1 ≤ R.frames) (kk : ∀ (ls' : Array Slot) (H' : Heap) (locs' : List Loc), snInv od sz0 Ls oI oL D tyc s H' locs' ls' (snL μ) L' x' → W p l e R s m args below meth c H' locs' (x'.1.1 - n0) (snSum x'.1.1 - snSum n0) Q (F0 m pc' ls' (st'.map (snV od sz0)))) : W p l e R s m args below meth c H locs (x.1.1 - n0) (snSum x.1.1 - snSum n0) Q (F0 m pc ls (st.map (snV od sz0))) := by
  have h2 : (Nat.beq len 1 && Nat.blt k.val (snL μ)) = true := h2
  obtain ⟨h2, h3⟩ := snB2 h2
  obtain rfl := Nat.eq_of_beq_eq_true h2
  have hx : p1i st (fun a r => some (.inl (pc + 1, zmSt1 L k.val (.int a), r, x))) = some (.inl (pc', L', st', x')) := hx
  obtain ⟨a, r, rfl, hx⟩ := p1i_some hx
  cases hx
  exact lv_istore_n C.1 C.2.1 hd rfl (snLoc_lv hI.1) (Nat.le_of_ble_eq_true h3) rfl (fun ls' h' => kk ls' H locs ⟨snLoc_st1 (v := .int a) h', hI.2⟩)
theorem snS_lstore {k : Nat} (C : snCx od sz0 Ls oI oL D tyc p s m args meth c μ n0) (hd : decode (snB μ) pc = .ok (.lstore k, len)) (h2 : snOk2 (snN μ).cls μ pc (.lstore k, len, r5, iv, lv) = true) (hx : zmX (.lstore k, len, r5, iv, lv) pc L st x = some (.inl (pc', L', st', x'))) (hI : snInv od sz0 Ls oI oL D tyc s H locs ls (snL μ) L x) (hn0 : n0 ≤ x.1.1) (hR : x'.1.1 - n0 ≤ R.cells ∧ snSum x'.1.1 - snSum n0 ≤ R.slots ∧ 64 ≤ R.locals ∧ 1 ≤ R.frames) (kk : ∀ (ls' : Array Slot) (H' : Heap) (locs' : List Loc), snInv od sz0 Ls oI oL D tyc s H' locs' ls' (snL μ) L' x' → W p l e R s m args below meth c H' locs' (x'.1.1 - n0) (snSum x'.1.1 - snSum n0) Q (F0 m pc' ls' (st'.map (snV od sz0)))) : W p l e R s m args below meth c H locs (x.1.1 - n0) (snSum x.1.1 - snSum n0) Q (F0 m pc ls (st.map (snV od sz0))) := by
  have h2 : (Nat.beq len 2 && Nat.blt (k + 1) (snL μ)) = true := h2
  obtain ⟨h2, h3⟩ := snB2 h2
  obtain rfl := Nat.eq_of_beq_eq_true h2
  have hx : p1l st (fun a r => some (.inl (pc + 2, zmSt2 L k (.long a), r, x))) = some (.inl (pc', L', st', x')) := hx
  obtain ⟨a, r, rfl, hx⟩ := p1l_some hx
  cases hx
  exact lv_lstore C.1 C.2.1 hd (snLoc_lv hI.1) (Nat.le_of_ble_eq_true h3) rfl (fun ls' h' => kk ls' H locs ⟨snLoc_st2 (v := .long a) h', hI.2⟩)
theorem snS_lstore_n {k : Fin 4} (C : snCx od sz0 Ls oI oL D tyc p s m args meth c μ n0) (hd : decode (snB μ) pc = .ok (.lstore_n k, len)) (h2 : snOk2 (snN μ).cls μ pc (.lstore_n k, len, r5, iv, lv) = true) (hx : zmX (.lstore_n k, len, r5, iv, lv) pc L st x = some (.inl (pc', L', st', x'))) (hI : snInv od sz0 Ls oI oL D tyc s H locs ls (snL μ) L x) (hn0 : n0 ≤ x.1.1) (hR : x'.1.1 - n0 ≤ R.cells ∧ snSum x'.1.1 - snSum n0 ≤ R.slots ∧ 64 ≤ R.locals ∧ 1 ≤ R.frames) (kk : ∀ (ls' : Array Slot) (H' : Heap) (locs' : List Loc), snInv od sz0 Ls oI oL D tyc s H' locs' ls' (snL μ) L' x' → W p l e R s m args below meth c H' locs' (x'.1.1 - n0) (snSum x'.1.1 - snSum n0) Q (F0 m pc' ls' (st'.map (snV od sz0)))) : W p l e R s m args below meth c H locs (x.1.1 - n0) (snSum x.1.1 - snSum n0) Q (F0 m pc ls (st.map (snV od sz0))) := by
  have h2 : (Nat.beq len 1 && Nat.blt (k.val + 1) (snL μ)) = true := h2
  obtain ⟨h2, h3⟩ := snB2 h2
  obtain rfl := Nat.eq_of_beq_eq_true h2
  have hx : p1l st (fun a r => some (.inl (pc + 1, zmSt2 L k.val (.long a), r, x))) = some (.inl (pc', L', st', x')) := hx
  obtain ⟨a, r, rfl, hx⟩ := p1l_some hx
  cases hx
  exact lv_lstore_n C.1 C.2.1 hd rfl (snLoc_lv hI.1) (Nat.le_of_ble_eq_true h3) rfl (fun ls' h' => kk ls' H locs ⟨snLoc_st2 (v := .long a) h', hI.2⟩)
theorem snS_astore {k : Nat} (C : snCx od sz0 Ls oI oL D tyc p s m args meth c μ n0) (hd : decode (snB μ) pc = .ok (.astore k, len)) (h2 : snOk2 (snN μ).cls μ pc (.astore k, len, r5, iv, lv) = true) (hx : zmX (.astore k, len, r5, iv, lv) pc L st x = some (.inl (pc', L', st', x'))) (hI : snInv od sz0 Ls oI oL D tyc s H locs ls (snL μ) L x) (hn0 : n0 ≤ x.1.1) (hR : x'.1.1 - n0 ≤ R.cells ∧ snSum x'.1.1 - snSum n0 ≤ R.slots ∧ 64 ≤ R.locals ∧ 1 ≤ R.frames) (kk : ∀ (ls' : Array Slot) (H' : Heap) (locs' : List Loc), snInv od sz0 Ls oI oL D tyc s H' locs' ls' (snL μ) L' x' → W p l e R s m args below meth c H' locs' (x'.1.1 - n0) (snSum x'.1.1 - snSum n0) Q (F0 m pc' ls' (st'.map (snV od sz0)))) : W p l e R s m args below meth c H locs (x.1.1 - n0) (snSum x.1.1 - snSum n0) Q (F0 m pc ls (st.map (snV od sz0))) := by
  have h2 : (Nat.beq len 2 && Nat.blt k (snL μ)) = true := h2
  obtain ⟨h2, h3⟩ := snB2 h2
  obtain rfl := Nat.eq_of_beq_eq_true h2
  have hx : (match st with
    | .ref a :: r => some (.inl (pc + 2, zmSt1 L k (.ref a), r, x))
    | .null :: r => some (.inl (pc + 2, zmSt1 L k .null, r, x))
    | _ => (none : Option zmR)) = some (.inl (pc', L', st', x')) := hx
  split at hx
  · cases hx
    exact lv_astore C.1 C.2.1 hd (snLoc_lv hI.1) (Nat.le_of_ble_eq_true h3) rfl (fun ls' h' => kk ls' H locs ⟨snLoc_st1 h', hI.2⟩)
  · cases hx
    exact lv_astoreN C.1 C.2.1 hd (snLoc_lv hI.1) (Nat.le_of_ble_eq_true h3) rfl (fun ls' h' => kk ls' H locs ⟨snLoc_st1 h', hI.2⟩)
  · cases hx
theorem snS_astore_n {k : Fin 4} (C : snCx od sz0 Ls oI oL D tyc p s m args meth c μ n0) (hd : decode (snB μ) pc = .ok (.astore_n k, len)) (h2 : snOk2 (snN μ).cls μ pc (.astore_n k, len, r5, iv, lv) = true) (hx : zmX (.astore_n k, len, r5, iv, lv) pc L st x = some (.inl (pc', L', st', x'))) (hI : snInv od sz0 Ls oI oL D tyc s H locs ls (snL μ) L x) (hn0 : n0 ≤ x.1.1) (hR : x'.1.1 - n0 ≤ R.cells ∧ snSum x'.1.1 - snSum n0 ≤ R.slots ∧ 64 ≤ R.locals ∧ 1 ≤ R.frames) (kk : ∀ (ls' : Array Slot) (H' : Heap) (locs' : List Loc), snInv od sz0 Ls oI oL D tyc s H' locs' ls' (snL μ) L' x' → W p l e R s m args below meth c H' locs' (x'.1.1 - n0) (snSum x'.1.1 - snSum n0) Q (F0 m pc' ls' (st'.map (snV od sz0)))) : W p l e R s m args below meth c H locs (x.1.1 - n0) (snSum x.1.1 - snSum n0) Q (F0 m pc ls (st.map (snV od sz0))) := by
  have h2 : (Nat.beq len 1 && Nat.blt k.val (snL μ)) = true := h2
  obtain ⟨h2, h3⟩ := snB2 h2
  obtain rfl := Nat.eq_of_beq_eq_true h2
  have hx : (match st with
    | .ref a :: r => some (.inl (pc + 1, zmSt1 L k.val (.ref a), r, x))
    | .null :: r => some (.inl (pc + 1, zmSt1 L k.val .null, r, x))
    | _ => (none : Option zmR)) = some (.inl (pc', L', st', x')) := hx
  split at hx
  · cases hx
    exact lv_astore_n C.1 C.2.1 hd rfl (snLoc_lv hI.1) (Nat.le_of_ble_eq_true h3) rfl (fun ls' h' => kk ls' H locs ⟨snLoc_st1 h', hI.2⟩)
  · cases hx
    exact lv_astore_nN C.1 C.2.1 hd rfl (snLoc_lv hI.1) (Nat.le_of_ble_eq_true h3) rfl (fun ls' h' => kk ls' H locs ⟨snLoc_st1 h', hI.2⟩)
  · cases hx
theorem snS_iinc {k : Nat} {q : Int} (C : snCx od sz0 Ls oI oL D tyc p s m args meth c μ n0) (hd : decode (snB μ) pc = .ok (.iinc k q, len)) (h2 : snOk2 (snN μ).cls μ pc (.iinc k q, len, r5, iv, lv) = true) (hx : zmX (.iinc k q, len, r5, iv, lv) pc L st x = some (.inl (pc', L', st', x'))) (hI : snInv od sz0 Ls oI oL D tyc s H locs ls (snL μ) L x) (hn0 : n0 ≤ x.1.1) (hR : x'.1.1 - n0 ≤ R.cells ∧ snSum x'.1.1 - snSum n0 ≤ R.slots ∧ 64 ≤ R.locals ∧ 1 ≤ R.frames) (kk : ∀ (ls' : Array Slot) (H' : Heap) (locs' : List Loc), snInv od sz0 Ls oI oL D tyc s H' locs' ls' (snL μ) L' x' → W p l e R s m args below meth c H' locs' (x'.1.1 - n0) (snSum x'.1.1 - snSum n0) Q (F0 m pc' ls' (st'.map (snV od sz0)))) : W p l e R s m args below meth c H locs (x.1.1 - n0) (snSum x.1.1 - snSum n0) Q (F0 m pc ls (st.map (snV od sz0))) := by
  have h2 : (Nat.beq len 3 && (Nat.blt k (snL μ) && decide (Int32.ofInt q = iv))) = true := h2
  obtain ⟨h2, h3⟩ := snB2 h2
  obtain ⟨h3, h4⟩ := snB2 h3
  obtain rfl := Nat.eq_of_beq_eq_true h2
  have hx : zmLd1 L k (fun v => match v with
    | .int a => some (.inl (pc + 3, zmSt1 L k (.int (a + iv)), st, x))
    | _ => none) = some (.inl (pc', L', st', x')) := hx
  obtain ⟨a, hv, hx⟩ := zmLd1_some hx
  have hx : some (.inl (pc + 3, zmSt1 L k (.int (a + iv)), st, x)) = (some (.inl (pc', L', st', x')) : Option zmR) := hx
  cases hx
  have hm : ((k, Value.int a) : Nat × Value) ∈ snLv od sz0 L := snLv_mem.mpr ⟨.int a, hv, snJi a, rfl⟩
  obtain ⟨j, hj⟩ := List.getElem?_of_mem hm
  exact lv_iinc (v := a + iv) C.1 C.2.1 hd (snLoc_lv hI.1) hj (by rw [of_decide_eq_true h4]) (Nat.le_of_ble_eq_true h3) rfl (fun ls' h' => kk ls' H locs ⟨snLoc_st1 (v := .int (a + iv)) h', hI.2⟩)
theorem snS_iadd (C : snCx od sz0 Ls oI oL D tyc p s m args meth c μ n0) (hd : decode (snB μ) pc = .ok (.iadd, len)) (h2 : snOk2 (snN μ).cls μ pc (.iadd, len, r5, iv, lv) = true) (hx : zmX (.iadd, len, r5, iv, lv) pc L st x = some (.inl (pc', L', st', x'))) (hI : snInv od sz0 Ls oI oL D tyc s H locs ls (snL μ) L x) (hn0 : n0 ≤ x.1.1) (hR : x'.1.1 - n0 ≤ R.cells ∧ snSum x'.1.1 - snSum n0 ≤ R.slots ∧ 64 ≤ R.locals ∧ 1 ≤ R.frames) (kk : ∀ (ls' : Array Slot) (H' : Heap) (locs' : List Loc), snInv od sz0 Ls oI oL D tyc s H' locs' ls' (snL μ) L' x' → W p l e R s m args below meth c H' locs' (x'.1.1 - n0) (snSum x'.1.1 - snSum n0) Q (F0 m pc' ls' (st'.map (snV od sz0)))) : W p l e R s m args below meth c H locs (x.1.1 - n0) (snSum x.1.1 - snSum n0) Q (F0 m pc ls (st.map (snV od sz0))) := by
  have h2 : Nat.beq len 1 = true := h2
  obtain rfl := Nat.eq_of_beq_eq_true h2
  have hx : p2i st (fun a b r => some (.inl (pc + 1, L, .int (a + b) :: r, x))) = some (.inl (pc', L', st', x')) := hx
  obtain ⟨a, b, r, rfl, hx⟩ := p2i_some hx
  cases hx
  exact lv_iadd C.1 C.2.1 hd (kk ls H locs hI)
theorem snS_isub (C : snCx od sz0 Ls oI oL D tyc p s m args meth c μ n0) (hd : decode (snB μ) pc = .ok (.isub, len)) (h2 : snOk2 (snN μ).cls μ pc (.isub, len, r5, iv, lv) = true) (hx : zmX (.isub, len, r5, iv, lv) pc L st x = some (.inl (pc', L', st', x'))) (hI : snInv od sz0 Ls oI oL D tyc s H locs ls (snL μ) L x) (hn0 : n0 ≤ x.1.1) (hR : x'.1.1 - n0 ≤ R.cells ∧ snSum x'.1.1 - snSum n0 ≤ R.slots ∧ 64 ≤ R.locals ∧ 1 ≤ R.frames) (kk : ∀ (ls' : Array Slot) (H' : Heap) (locs' : List Loc), snInv od sz0 Ls oI oL D tyc s H' locs' ls' (snL μ) L' x' → W p l e R s m args below meth c H' locs' (x'.1.1 - n0) (snSum x'.1.1 - snSum n0) Q (F0 m pc' ls' (st'.map (snV od sz0)))) : W p l e R s m args below meth c H locs (x.1.1 - n0) (snSum x.1.1 - snSum n0) Q (F0 m pc ls (st.map (snV od sz0))) := by
  have h2 : Nat.beq len 1 = true := h2
  obtain rfl := Nat.eq_of_beq_eq_true h2
  have hx : p2i st (fun a b r => some (.inl (pc + 1, L, .int (a - b) :: r, x))) = some (.inl (pc', L', st', x')) := hx
  obtain ⟨a, b, r, rfl, hx⟩ := p2i_some hx
  cases hx
  exact lv_isub C.1 C.2.1 hd (kk ls H locs hI)
theorem snS_imul (C : snCx od sz0 Ls oI oL D tyc p s m args meth c μ n0) (hd : decode (snB μ) pc = .ok (.imul, len)) (h2 : snOk2 (snN μ).cls μ pc (.imul, len, r5, iv, lv) = true) (hx : zmX (.imul, len, r5, iv, lv) pc L st x = some (.inl (pc', L', st', x'))) (hI : snInv od sz0 Ls oI oL D tyc s H locs ls (snL μ) L x) (hn0 : n0 ≤ x.1.1) (hR : x'.1.1 - n0 ≤ R.cells ∧ snSum x'.1.1 - snSum n0 ≤ R.slots ∧ 64 ≤ R.locals ∧ 1 ≤ R.frames) (kk : ∀ (ls' : Array Slot) (H' : Heap) (locs' : List Loc), snInv od sz0 Ls oI oL D tyc s H' locs' ls' (snL μ) L' x' → W p l e R s m args below meth c H' locs' (x'.1.1 - n0) (snSum x'.1.1 - snSum n0) Q (F0 m pc' ls' (st'.map (snV od sz0)))) : W p l e R s m args below meth c H locs (x.1.1 - n0) (snSum x.1.1 - snSum n0) Q (F0 m pc ls (st.map (snV od sz0))) := by
  have h2 : Nat.beq len 1 = true := h2
  obtain rfl := Nat.eq_of_beq_eq_true h2
  have hx : p2i st (fun a b r => some (.inl (pc + 1, L, .int (a * b) :: r, x))) = some (.inl (pc', L', st', x')) := hx
  obtain ⟨a, b, r, rfl, hx⟩ := p2i_some hx
  cases hx
  exact lv_imul C.1 C.2.1 hd (kk ls H locs hI)
theorem snS_iand (C : snCx od sz0 Ls oI oL D tyc p s m args meth c μ n0) (hd : decode (snB μ) pc = .ok (.iand, len)) (h2 : snOk2 (snN μ).cls μ pc (.iand, len, r5, iv, lv) = true) (hx : zmX (.iand, len, r5, iv, lv) pc L st x = some (.inl (pc', L', st', x'))) (hI : snInv od sz0 Ls oI oL D tyc s H locs ls (snL μ) L x) (hn0 : n0 ≤ x.1.1) (hR : x'.1.1 - n0 ≤ R.cells ∧ snSum x'.1.1 - snSum n0 ≤ R.slots ∧ 64 ≤ R.locals ∧ 1 ≤ R.frames) (kk : ∀ (ls' : Array Slot) (H' : Heap) (locs' : List Loc), snInv od sz0 Ls oI oL D tyc s H' locs' ls' (snL μ) L' x' → W p l e R s m args below meth c H' locs' (x'.1.1 - n0) (snSum x'.1.1 - snSum n0) Q (F0 m pc' ls' (st'.map (snV od sz0)))) : W p l e R s m args below meth c H locs (x.1.1 - n0) (snSum x.1.1 - snSum n0) Q (F0 m pc ls (st.map (snV od sz0))) := by
  have h2 : Nat.beq len 1 = true := h2
  obtain rfl := Nat.eq_of_beq_eq_true h2
  have hx : p2i st (fun a b r => some (.inl (pc + 1, L, .int (a &&& b) :: r, x))) = some (.inl (pc', L', st', x')) := hx
  obtain ⟨a, b, r, rfl, hx⟩ := p2i_some hx
  cases hx
  exact lv_iand C.1 C.2.1 hd (kk ls H locs hI)
theorem snS_ior (C : snCx od sz0 Ls oI oL D tyc p s m args meth c μ n0) (hd : decode (snB μ) pc = .ok (.ior, len)) (h2 : snOk2 (snN μ).cls μ pc (.ior, len, r5, iv, lv) = true) (hx : zmX (.ior, len, r5, iv, lv) pc L st x = some (.inl (pc', L', st', x'))) (hI : snInv od sz0 Ls oI oL D tyc s H locs ls (snL μ) L x) (hn0 : n0 ≤ x.1.1) (hR : x'.1.1 - n0 ≤ R.cells ∧ snSum x'.1.1 - snSum n0 ≤ R.slots ∧ 64 ≤ R.locals ∧ 1 ≤ R.frames) (kk : ∀ (ls' : Array Slot) (H' : Heap) (locs' : List Loc), snInv od sz0 Ls oI oL D tyc s H' locs' ls' (snL μ) L' x' → W p l e R s m args below meth c H' locs' (x'.1.1 - n0) (snSum x'.1.1 - snSum n0) Q (F0 m pc' ls' (st'.map (snV od sz0)))) : W p l e R s m args below meth c H locs (x.1.1 - n0) (snSum x.1.1 - snSum n0) Q (F0 m pc ls (st.map (snV od sz0))) := by
  have h2 : Nat.beq len 1 = true := h2
  obtain rfl := Nat.eq_of_beq_eq_true h2
  have hx : p2i st (fun a b r => some (.inl (pc + 1, L, .int (a ||| b) :: r, x))) = some (.inl (pc', L', st', x')) := hx
  obtain ⟨a, b, r, rfl, hx⟩ := p2i_some hx
  cases hx
  exact lv_ior C.1 C.2.1 hd (kk ls H locs hI)
theorem snS_ixor (C : snCx od sz0 Ls oI oL D tyc p s m args meth c μ n0) (hd : decode (snB μ) pc = .ok (.ixor, len)) (h2 : snOk2 (snN μ).cls μ pc (.ixor, len, r5, iv, lv) = true) (hx : zmX (.ixor, len, r5, iv, lv) pc L st x = some (.inl (pc', L', st', x'))) (hI : snInv od sz0 Ls oI oL D tyc s H locs ls (snL μ) L x) (hn0 : n0 ≤ x.1.1) (hR : x'.1.1 - n0 ≤ R.cells ∧ snSum x'.1.1 - snSum n0 ≤ R.slots ∧ 64 ≤ R.locals ∧ 1 ≤ R.frames) (kk : ∀ (ls' : Array Slot) (H' : Heap) (locs' : List Loc), snInv od sz0 Ls oI oL D tyc s H' locs' ls' (snL μ) L' x' → W p l e R s m args below meth c H' locs' (x'.1.1 - n0) (snSum x'.1.1 - snSum n0) Q (F0 m pc' ls' (st'.map (snV od sz0)))) : W p l e R s m args below meth c H locs (x.1.1 - n0) (snSum x.1.1 - snSum n0) Q (F0 m pc ls (st.map (snV od sz0))) := by
  have h2 : Nat.beq len 1 = true := h2
  obtain rfl := Nat.eq_of_beq_eq_true h2
  have hx : p2i st (fun a b r => some (.inl (pc + 1, L, .int (a ^^^ b) :: r, x))) = some (.inl (pc', L', st', x')) := hx
  obtain ⟨a, b, r, rfl, hx⟩ := p2i_some hx
  cases hx
  exact lv_ixor C.1 C.2.1 hd (kk ls H locs hI)
theorem snS_ladd (C : snCx od sz0 Ls oI oL D tyc p s m args meth c μ n0) (hd : decode (snB μ) pc = .ok (.ladd, len)) (h2 : snOk2 (snN μ).cls μ pc (.ladd, len, r5, iv, lv) = true) (hx : zmX (.ladd, len, r5, iv, lv) pc L st x = some (.inl (pc', L', st', x'))) (hI : snInv od sz0 Ls oI oL D tyc s H locs ls (snL μ) L x) (hn0 : n0 ≤ x.1.1) (hR : x'.1.1 - n0 ≤ R.cells ∧ snSum x'.1.1 - snSum n0 ≤ R.slots ∧ 64 ≤ R.locals ∧ 1 ≤ R.frames) (kk : ∀ (ls' : Array Slot) (H' : Heap) (locs' : List Loc), snInv od sz0 Ls oI oL D tyc s H' locs' ls' (snL μ) L' x' → W p l e R s m args below meth c H' locs' (x'.1.1 - n0) (snSum x'.1.1 - snSum n0) Q (F0 m pc' ls' (st'.map (snV od sz0)))) : W p l e R s m args below meth c H locs (x.1.1 - n0) (snSum x.1.1 - snSum n0) Q (F0 m pc ls (st.map (snV od sz0))) := by
  have h2 : Nat.beq len 1 = true := h2
  obtain rfl := Nat.eq_of_beq_eq_true h2
  have hx : p2l st (fun a b r => some (.inl (pc + 1, L, .long (a + b) :: r, x))) = some (.inl (pc', L', st', x')) := hx
  obtain ⟨a, b, r, rfl, hx⟩ := p2l_some hx
  cases hx
  exact lv_ladd C.1 C.2.1 hd (kk ls H locs hI)
theorem snS_lsub (C : snCx od sz0 Ls oI oL D tyc p s m args meth c μ n0) (hd : decode (snB μ) pc = .ok (.lsub, len)) (h2 : snOk2 (snN μ).cls μ pc (.lsub, len, r5, iv, lv) = true) (hx : zmX (.lsub, len, r5, iv, lv) pc L st x = some (.inl (pc', L', st', x'))) (hI : snInv od sz0 Ls oI oL D tyc s H locs ls (snL μ) L x) (hn0 : n0 ≤ x.1.1) (hR : x'.1.1 - n0 ≤ R.cells ∧ snSum x'.1.1 - snSum n0 ≤ R.slots ∧ 64 ≤ R.locals ∧ 1 ≤ R.frames) (kk : ∀ (ls' : Array Slot) (H' : Heap) (locs' : List Loc), snInv od sz0 Ls oI oL D tyc s H' locs' ls' (snL μ) L' x' → W p l e R s m args below meth c H' locs' (x'.1.1 - n0) (snSum x'.1.1 - snSum n0) Q (F0 m pc' ls' (st'.map (snV od sz0)))) : W p l e R s m args below meth c H locs (x.1.1 - n0) (snSum x.1.1 - snSum n0) Q (F0 m pc ls (st.map (snV od sz0))) := by
  have h2 : Nat.beq len 1 = true := h2
  obtain rfl := Nat.eq_of_beq_eq_true h2
  have hx : p2l st (fun a b r => some (.inl (pc + 1, L, .long (a - b) :: r, x))) = some (.inl (pc', L', st', x')) := hx
  obtain ⟨a, b, r, rfl, hx⟩ := p2l_some hx
  cases hx
  exact lv_lsub C.1 C.2.1 hd (kk ls H locs hI)
theorem snS_lmul (C : snCx od sz0 Ls oI oL D tyc p s m args meth c μ n0) (hd : decode (snB μ) pc = .ok (.lmul, len)) (h2 : snOk2 (snN μ).cls μ pc (.lmul, len, r5, iv, lv) = true) (hx : zmX (.lmul, len, r5, iv, lv) pc L st x = some (.inl (pc', L', st', x'))) (hI : snInv od sz0 Ls oI oL D tyc s H locs ls (snL μ) L x) (hn0 : n0 ≤ x.1.1) (hR : x'.1.1 - n0 ≤ R.cells ∧ snSum x'.1.1 - snSum n0 ≤ R.slots ∧ 64 ≤ R.locals ∧ 1 ≤ R.frames) (kk : ∀ (ls' : Array Slot) (H' : Heap) (locs' : List Loc), snInv od sz0 Ls oI oL D tyc s H' locs' ls' (snL μ) L' x' → W p l e R s m args below meth c H' locs' (x'.1.1 - n0) (snSum x'.1.1 - snSum n0) Q (F0 m pc' ls' (st'.map (snV od sz0)))) : W p l e R s m args below meth c H locs (x.1.1 - n0) (snSum x.1.1 - snSum n0) Q (F0 m pc ls (st.map (snV od sz0))) := by
  have h2 : Nat.beq len 1 = true := h2
  obtain rfl := Nat.eq_of_beq_eq_true h2
  have hx : p2l st (fun a b r => some (.inl (pc + 1, L, .long (a * b) :: r, x))) = some (.inl (pc', L', st', x')) := hx
  obtain ⟨a, b, r, rfl, hx⟩ := p2l_some hx
  cases hx
  exact lv_lmul C.1 C.2.1 hd (kk ls H locs hI)
theorem snS_idiv (C : snCx od sz0 Ls oI oL D tyc p s m args meth c μ n0) (hd : decode (snB μ) pc = .ok (.idiv, len)) (h2 : snOk2 (snN μ).cls μ pc (.idiv, len, r5, iv, lv) = true) (hx : zmX (.idiv, len, r5, iv, lv) pc L st x = some (.inl (pc', L', st', x'))) (hI : snInv od sz0 Ls oI oL D tyc s H locs ls (snL μ) L x) (hn0 : n0 ≤ x.1.1) (hR : x'.1.1 - n0 ≤ R.cells ∧ snSum x'.1.1 - snSum n0 ≤ R.slots ∧ 64 ≤ R.locals ∧ 1 ≤ R.frames) (kk : ∀ (ls' : Array Slot) (H' : Heap) (locs' : List Loc), snInv od sz0 Ls oI oL D tyc s H' locs' ls' (snL μ) L' x' → W p l e R s m args below meth c H' locs' (x'.1.1 - n0) (snSum x'.1.1 - snSum n0) Q (F0 m pc' ls' (st'.map (snV od sz0)))) : W p l e R s m args below meth c H locs (x.1.1 - n0) (snSum x.1.1 - snSum n0) Q (F0 m pc ls (st.map (snV od sz0))) := by
  have h2 : Nat.beq len 1 = true := h2
  obtain rfl := Nat.eq_of_beq_eq_true h2
  have hx : p2i st (fun a b r => if b = 0 then none else some (.inl (pc + 1, L, .int (a / b) :: r, x))) = some (.inl (pc', L', st', x')) := hx
  obtain ⟨a, b, r, rfl, hy⟩ := p2i_some hx
  by_cases hb0 : b = 0
  · rw [if_pos hb0] at hy; cases hy
  · rw [if_neg hb0] at hy
    cases hy
    exact lv_idiv C.1 C.2.1 hd hb0 (kk ls H locs hI)
theorem snS_irem (C : snCx od sz0 Ls oI oL D tyc p s m args meth c μ n0) (hd : decode (snB μ) pc = .ok (.irem, len)) (h2 : snOk2 (snN μ).cls μ pc (.irem, len, r5, iv, lv) = true) (hx : zmX (.irem, len, r5, iv, lv) pc L st x = some (.inl (pc', L', st', x'))) (hI : snInv od sz0 Ls oI oL D tyc s H locs ls (snL μ) L x) (hn0 : n0 ≤ x.1.1) (hR : x'.1.1 - n0 ≤ R.cells ∧ snSum x'.1.1 - snSum n0 ≤ R.slots ∧ 64 ≤ R.locals ∧ 1 ≤ R.frames) (kk : ∀ (ls' : Array Slot) (H' : Heap) (locs' : List Loc), snInv od sz0 Ls oI oL D tyc s H' locs' ls' (snL μ) L' x' → W p l e R s m args below meth c H' locs' (x'.1.1 - n0) (snSum x'.1.1 - snSum n0) Q (F0 m pc' ls' (st'.map (snV od sz0)))) : W p l e R s m args below meth c H locs (x.1.1 - n0) (snSum x.1.1 - snSum n0) Q (F0 m pc ls (st.map (snV od sz0))) := by
  have h2 : Nat.beq len 1 = true := h2
  obtain rfl := Nat.eq_of_beq_eq_true h2
  have hx : p2i st (fun a b r => if b = 0 then none else some (.inl (pc + 1, L, .int (a - a / b * b) :: r, x))) = some (.inl (pc', L', st', x')) := hx
  obtain ⟨a, b, r, rfl, hy⟩ := p2i_some hx
  by_cases hb0 : b = 0
  · rw [if_pos hb0] at hy; cases hy
  · rw [if_neg hb0] at hy
    cases hy
    exact lv_irem C.1 C.2.1 hd hb0 (kk ls H locs hI)
theorem snS_ldiv (C : snCx od sz0 Ls oI oL D tyc p s m args meth c μ n0) (hd : decode (snB μ) pc = .ok (.ldiv, len)) (h2 : snOk2 (snN μ).cls μ pc (.ldiv, len, r5, iv, lv) = true) (hx : zmX (.ldiv, len, r5, iv, lv) pc L st x = some (.inl (pc', L', st', x'))) (hI : snInv od sz0 Ls oI oL D tyc s H locs ls (snL μ) L x) (hn0 : n0 ≤ x.1.1) (hR : x'.1.1 - n0 ≤ R.cells ∧ snSum x'.1.1 - snSum n0 ≤ R.slots ∧ 64 ≤ R.locals ∧ 1 ≤ R.frames) (kk : ∀ (ls' : Array Slot) (H' : Heap) (locs' : List Loc), snInv od sz0 Ls oI oL D tyc s H' locs' ls' (snL μ) L' x' → W p l e R s m args below meth c H' locs' (x'.1.1 - n0) (snSum x'.1.1 - snSum n0) Q (F0 m pc' ls' (st'.map (snV od sz0)))) : W p l e R s m args below meth c H locs (x.1.1 - n0) (snSum x.1.1 - snSum n0) Q (F0 m pc ls (st.map (snV od sz0))) := by
  have h2 : Nat.beq len 1 = true := h2
  obtain rfl := Nat.eq_of_beq_eq_true h2
  have hx : p2l st (fun a b r => if b = 0 then none else some (.inl (pc + 1, L, .long (a / b) :: r, x))) = some (.inl (pc', L', st', x')) := hx
  obtain ⟨a, b, r, rfl, hy⟩ := p2l_some hx
  by_cases hb0 : b = 0
  · rw [if_pos hb0] at hy; cases hy
  · rw [if_neg hb0] at hy
    cases hy
    exact lv_ldiv C.1 C.2.1 hd hb0 (kk ls H locs hI)
theorem snS_lrem (C : snCx od sz0 Ls oI oL D tyc p s m args meth c μ n0) (hd : decode (snB μ) pc = .ok (.lrem, len)) (h2 : snOk2 (snN μ).cls μ pc (.lrem, len, r5, iv, lv) = true) (hx : zmX (.lrem, len, r5, iv, lv) pc L st x = some (.inl (pc', L', st', x'))) (hI : snInv od sz0 Ls oI oL D tyc s H locs ls (snL μ) L x) (hn0 : n0 ≤ x.1.1) (hR : x'.1.1 - n0 ≤ R.cells ∧ snSum x'.1.1 - snSum n0 ≤ R.slots ∧ 64 ≤ R.locals ∧ 1 ≤ R.frames) (kk : ∀ (ls' : Array Slot) (H' : Heap) (locs' : List Loc), snInv od sz0 Ls oI oL D tyc s H' locs' ls' (snL μ) L' x' → W p l e R s m args below meth c H' locs' (x'.1.1 - n0) (snSum x'.1.1 - snSum n0) Q (F0 m pc' ls' (st'.map (snV od sz0)))) : W p l e R s m args below meth c H locs (x.1.1 - n0) (snSum x.1.1 - snSum n0) Q (F0 m pc ls (st.map (snV od sz0))) := by
  have h2 : Nat.beq len 1 = true := h2
  obtain rfl := Nat.eq_of_beq_eq_true h2
  have hx : p2l st (fun a b r => if b = 0 then none else some (.inl (pc + 1, L, .long (a - a / b * b) :: r, x))) = some (.inl (pc', L', st', x')) := hx
  obtain ⟨a, b, r, rfl, hy⟩ := p2l_some hx
  by_cases hb0 : b = 0
  · rw [if_pos hb0] at hy; cases hy
  · rw [if_neg hb0] at hy
    cases hy
    exact lv_lrem C.1 C.2.1 hd hb0 (kk ls H locs hI)
theorem snS_ineg (C : snCx od sz0 Ls oI oL D tyc p s m args meth c μ n0) (hd : decode (snB μ) pc = .ok (.ineg, len)) (h2 : snOk2 (snN μ).cls μ pc (.ineg, len, r5, iv, lv) = true) (hx : zmX (.ineg, len, r5, iv, lv) pc L st x = some (.inl (pc', L', st', x'))) (hI : snInv od sz0 Ls oI oL D tyc s H locs ls (snL μ) L x) (hn0 : n0 ≤ x.1.1) (hR : x'.1.1 - n0 ≤ R.cells ∧ snSum x'.1.1 - snSum n0 ≤ R.slots ∧ 64 ≤ R.locals ∧ 1 ≤ R.frames) (kk : ∀ (ls' : Array Slot) (H' : Heap) (locs' : List Loc), snInv od sz0 Ls oI oL D tyc s H' locs' ls' (snL μ) L' x' → W p l e R s m args below meth c H' locs' (x'.1.1 - n0) (snSum x'.1.1 - snSum n0) Q (F0 m pc' ls' (st'.map (snV od sz0)))) : W p l e R s m args below meth c H locs (x.1.1 - n0) (snSum x.1.1 - snSum n0) Q (F0 m pc ls (st.map (snV od sz0))) := by
  have h2 : Nat.beq len 1 = true := h2
  obtain rfl := Nat.eq_of_beq_eq_true h2
  have hx : p1i st (fun a r => some (.inl (pc + 1, L, .int (-a) :: r, x))) = some (.inl (pc', L', st', x')) := hx
  obtain ⟨a, r, rfl, hx⟩ := p1i_some hx
  cases hx
  exact lv_ineg C.1 C.2.1 hd (kk ls H locs hI)
theorem snS_lneg (C : snCx od sz0 Ls oI oL D tyc p s m args meth c μ n0) (hd : decode (snB μ) pc = .ok (.lneg, len)) (h2 : snOk2 (snN μ).cls μ pc (.lneg, len, r5, iv, lv) = true) (hx : zmX (.lneg, len, r5, iv, lv) pc L st x = some (.inl (pc', L', st', x'))) (hI : snInv od sz0 Ls oI oL D tyc s H locs ls (snL μ) L x) (hn0 : n0 ≤ x.1.1) (hR : x'.1.1 - n0 ≤ R.cells ∧ snSum x'.1.1 - snSum n0 ≤ R.slots ∧ 64 ≤ R.locals ∧ 1 ≤ R.frames) (kk : ∀ (ls' : Array Slot) (H' : Heap) (locs' : List Loc), snInv od sz0 Ls oI oL D tyc s H' locs' ls' (snL μ) L' x' → W p l e R s m args below meth c H' locs' (x'.1.1 - n0) (snSum x'.1.1 - snSum n0) Q (F0 m pc' ls' (st'.map (snV od sz0)))) : W p l e R s m args below meth c H locs (x.1.1 - n0) (snSum x.1.1 - snSum n0) Q (F0 m pc ls (st.map (snV od sz0))) := by
  have h2 : Nat.beq len 1 = true := h2
  obtain rfl := Nat.eq_of_beq_eq_true h2
  have hx : p1l st (fun a r => some (.inl (pc + 1, L, .long (-a) :: r, x))) = some (.inl (pc', L', st', x')) := hx
  obtain ⟨a, r, rfl, hx⟩ := p1l_some hx
  cases hx
  exact lv_lneg C.1 C.2.1 hd (kk ls H locs hI)
theorem snS_ishl (C : snCx od sz0 Ls oI oL D tyc p s m args meth c μ n0) (hd : decode (snB μ) pc = .ok (.ishl, len)) (h2 : snOk2 (snN μ).cls μ pc (.ishl, len, r5, iv, lv) = true) (hx : zmX (.ishl, len, r5, iv, lv) pc L st x = some (.inl (pc', L', st', x'))) (hI : snInv od sz0 Ls oI oL D tyc s H locs ls (snL μ) L x) (hn0 : n0 ≤ x.1.1) (hR : x'.1.1 - n0 ≤ R.cells ∧ snSum x'.1.1 - snSum n0 ≤ R.slots ∧ 64 ≤ R.locals ∧ 1 ≤ R.frames) (kk : ∀ (ls' : Array Slot) (H' : Heap) (locs' : List Loc), snInv od sz0 Ls oI oL D tyc s H' locs' ls' (snL μ) L' x' → W p l e R s m args below meth c H' locs' (x'.1.1 - n0) (snSum x'.1.1 - snSum n0) Q (F0 m pc' ls' (st'.map (snV od sz0)))) : W p l e R s m args below meth c H locs (x.1.1 - n0) (snSum x.1.1 - snSum n0) Q (F0 m pc ls (st.map (snV od sz0))) := by
  have h2 : Nat.beq len 1 = true := h2
  obtain rfl := Nat.eq_of_beq_eq_true h2
  have hx : p2i st (fun a b r => some (.inl (pc + 1, L, .int (a <<< (b &&& 31)) :: r, x))) = some (.inl (pc', L', st', x')) := hx
  obtain ⟨a, b, r, rfl, hx⟩ := p2i_some hx
  cases hx
  exact lv_ishl C.1 C.2.1 hd (kk ls H locs hI)
theorem snS_ishr (C : snCx od sz0 Ls oI oL D tyc p s m args meth c μ n0) (hd : decode (snB μ) pc = .ok (.ishr, len)) (h2 : snOk2 (snN μ).cls μ pc (.ishr, len, r5, iv, lv) = true) (hx : zmX (.ishr, len, r5, iv, lv) pc L st x = some (.inl (pc', L', st', x'))) (hI : snInv od sz0 Ls oI oL D tyc s H locs ls (snL μ) L x) (hn0 : n0 ≤ x.1.1) (hR : x'.1.1 - n0 ≤ R.cells ∧ snSum x'.1.1 - snSum n0 ≤ R.slots ∧ 64 ≤ R.locals ∧ 1 ≤ R.frames) (kk : ∀ (ls' : Array Slot) (H' : Heap) (locs' : List Loc), snInv od sz0 Ls oI oL D tyc s H' locs' ls' (snL μ) L' x' → W p l e R s m args below meth c H' locs' (x'.1.1 - n0) (snSum x'.1.1 - snSum n0) Q (F0 m pc' ls' (st'.map (snV od sz0)))) : W p l e R s m args below meth c H locs (x.1.1 - n0) (snSum x.1.1 - snSum n0) Q (F0 m pc ls (st.map (snV od sz0))) := by
  have h2 : Nat.beq len 1 = true := h2
  obtain rfl := Nat.eq_of_beq_eq_true h2
  have hx : p2i st (fun a b r => some (.inl (pc + 1, L, .int (a >>> (b &&& 31)) :: r, x))) = some (.inl (pc', L', st', x')) := hx
  obtain ⟨a, b, r, rfl, hx⟩ := p2i_some hx
  cases hx
  exact lv_ishr C.1 C.2.1 hd (kk ls H locs hI)
theorem snS_iushr (C : snCx od sz0 Ls oI oL D tyc p s m args meth c μ n0) (hd : decode (snB μ) pc = .ok (.iushr, len)) (h2 : snOk2 (snN μ).cls μ pc (.iushr, len, r5, iv, lv) = true) (hx : zmX (.iushr, len, r5, iv, lv) pc L st x = some (.inl (pc', L', st', x'))) (hI : snInv od sz0 Ls oI oL D tyc s H locs ls (snL μ) L x) (hn0 : n0 ≤ x.1.1) (hR : x'.1.1 - n0 ≤ R.cells ∧ snSum x'.1.1 - snSum n0 ≤ R.slots ∧ 64 ≤ R.locals ∧ 1 ≤ R.frames) (kk : ∀ (ls' : Array Slot) (H' : Heap) (locs' : List Loc), snInv od sz0 Ls oI oL D tyc s H' locs' ls' (snL μ) L' x' → W p l e R s m args below meth c H' locs' (x'.1.1 - n0) (snSum x'.1.1 - snSum n0) Q (F0 m pc' ls' (st'.map (snV od sz0)))) : W p l e R s m args below meth c H locs (x.1.1 - n0) (snSum x.1.1 - snSum n0) Q (F0 m pc ls (st.map (snV od sz0))) := by
  have h2 : Nat.beq len 1 = true := h2
  obtain rfl := Nat.eq_of_beq_eq_true h2
  have hx : p2i st (fun a b r => some (.inl (pc + 1, L, .int ((a.toUInt32 >>> (b.toUInt32 &&& Int32.toUInt32 31)).toInt32) :: r, x))) = some (.inl (pc', L', st', x')) := hx
  obtain ⟨a, b, r, rfl, hx⟩ := p2i_some hx
  cases hx
  exact lv_iushr C.1 C.2.1 hd rfl (kk ls H locs hI)
theorem snS_i2l (C : snCx od sz0 Ls oI oL D tyc p s m args meth c μ n0) (hd : decode (snB μ) pc = .ok (.i2l, len)) (h2 : snOk2 (snN μ).cls μ pc (.i2l, len, r5, iv, lv) = true) (hx : zmX (.i2l, len, r5, iv, lv) pc L st x = some (.inl (pc', L', st', x'))) (hI : snInv od sz0 Ls oI oL D tyc s H locs ls (snL μ) L x) (hn0 : n0 ≤ x.1.1) (hR : x'.1.1 - n0 ≤ R.cells ∧ snSum x'.1.1 - snSum n0 ≤ R.slots ∧ 64 ≤ R.locals ∧ 1 ≤ R.frames) (kk : ∀ (ls' : Array Slot) (H' : Heap) (locs' : List Loc), snInv od sz0 Ls oI oL D tyc s H' locs' ls' (snL μ) L' x' → W p l e R s m args below meth c H' locs' (x'.1.1 - n0) (snSum x'.1.1 - snSum n0) Q (F0 m pc' ls' (st'.map (snV od sz0)))) : W p l e R s m args below meth c H locs (x.1.1 - n0) (snSum x.1.1 - snSum n0) Q (F0 m pc ls (st.map (snV od sz0))) := by
  have h2 : Nat.beq len 1 = true := h2
  obtain rfl := Nat.eq_of_beq_eq_true h2
  have hx : p1i st (fun a r => some (.inl (pc + 1, L, .long a.toInt64 :: r, x))) = some (.inl (pc', L', st', x')) := hx
  obtain ⟨a, r, rfl, hx⟩ := p1i_some hx
  cases hx
  exact lv_i2l C.1 C.2.1 hd rfl (kk ls H locs hI)
theorem snS_l2i (C : snCx od sz0 Ls oI oL D tyc p s m args meth c μ n0) (hd : decode (snB μ) pc = .ok (.l2i, len)) (h2 : snOk2 (snN μ).cls μ pc (.l2i, len, r5, iv, lv) = true) (hx : zmX (.l2i, len, r5, iv, lv) pc L st x = some (.inl (pc', L', st', x'))) (hI : snInv od sz0 Ls oI oL D tyc s H locs ls (snL μ) L x) (hn0 : n0 ≤ x.1.1) (hR : x'.1.1 - n0 ≤ R.cells ∧ snSum x'.1.1 - snSum n0 ≤ R.slots ∧ 64 ≤ R.locals ∧ 1 ≤ R.frames) (kk : ∀ (ls' : Array Slot) (H' : Heap) (locs' : List Loc), snInv od sz0 Ls oI oL D tyc s H' locs' ls' (snL μ) L' x' → W p l e R s m args below meth c H' locs' (x'.1.1 - n0) (snSum x'.1.1 - snSum n0) Q (F0 m pc' ls' (st'.map (snV od sz0)))) : W p l e R s m args below meth c H locs (x.1.1 - n0) (snSum x.1.1 - snSum n0) Q (F0 m pc ls (st.map (snV od sz0))) := by
  have h2 : Nat.beq len 1 = true := h2
  obtain rfl := Nat.eq_of_beq_eq_true h2
  have hx : p1l st (fun a r => some (.inl (pc + 1, L, .int a.toInt32 :: r, x))) = some (.inl (pc', L', st', x')) := hx
  obtain ⟨a, r, rfl, hx⟩ := p1l_some hx
  cases hx
  exact lv_l2i C.1 C.2.1 hd rfl (kk ls H locs hI)
theorem snS_i2b (C : snCx od sz0 Ls oI oL D tyc p s m args meth c μ n0) (hd : decode (snB μ) pc = .ok (.i2b, len)) (h2 : snOk2 (snN μ).cls μ pc (.i2b, len, r5, iv, lv) = true) (hx : zmX (.i2b, len, r5, iv, lv) pc L st x = some (.inl (pc', L', st', x'))) (hI : snInv od sz0 Ls oI oL D tyc s H locs ls (snL μ) L x) (hn0 : n0 ≤ x.1.1) (hR : x'.1.1 - n0 ≤ R.cells ∧ snSum x'.1.1 - snSum n0 ≤ R.slots ∧ 64 ≤ R.locals ∧ 1 ≤ R.frames) (kk : ∀ (ls' : Array Slot) (H' : Heap) (locs' : List Loc), snInv od sz0 Ls oI oL D tyc s H' locs' ls' (snL μ) L' x' → W p l e R s m args below meth c H' locs' (x'.1.1 - n0) (snSum x'.1.1 - snSum n0) Q (F0 m pc' ls' (st'.map (snV od sz0)))) : W p l e R s m args below meth c H locs (x.1.1 - n0) (snSum x.1.1 - snSum n0) Q (F0 m pc ls (st.map (snV od sz0))) := by
  have h2 : Nat.beq len 1 = true := h2
  obtain rfl := Nat.eq_of_beq_eq_true h2
  have hx : p1i st (fun a r => some (.inl (pc + 1, L, .int a.toInt8.toInt32 :: r, x))) = some (.inl (pc', L', st', x')) := hx
  obtain ⟨a, r, rfl, hx⟩ := p1i_some hx
  cases hx
  exact lv_i2b C.1 C.2.1 hd rfl (kk ls H locs hI)
theorem snS_i2c (C : snCx od sz0 Ls oI oL D tyc p s m args meth c μ n0) (hd : decode (snB μ) pc = .ok (.i2c, len)) (h2 : snOk2 (snN μ).cls μ pc (.i2c, len, r5, iv, lv) = true) (hx : zmX (.i2c, len, r5, iv, lv) pc L st x = some (.inl (pc', L', st', x'))) (hI : snInv od sz0 Ls oI oL D tyc s H locs ls (snL μ) L x) (hn0 : n0 ≤ x.1.1) (hR : x'.1.1 - n0 ≤ R.cells ∧ snSum x'.1.1 - snSum n0 ≤ R.slots ∧ 64 ≤ R.locals ∧ 1 ≤ R.frames) (kk : ∀ (ls' : Array Slot) (H' : Heap) (locs' : List Loc), snInv od sz0 Ls oI oL D tyc s H' locs' ls' (snL μ) L' x' → W p l e R s m args below meth c H' locs' (x'.1.1 - n0) (snSum x'.1.1 - snSum n0) Q (F0 m pc' ls' (st'.map (snV od sz0)))) : W p l e R s m args below meth c H locs (x.1.1 - n0) (snSum x.1.1 - snSum n0) Q (F0 m pc ls (st.map (snV od sz0))) := by
  have h2 : Nat.beq len 1 = true := h2
  obtain rfl := Nat.eq_of_beq_eq_true h2
  have hx : p1i st (fun a r => some (.inl (pc + 1, L, .int (a.toUInt32 % 65536).toInt32 :: r, x))) = some (.inl (pc', L', st', x')) := hx
  obtain ⟨a, r, rfl, hx⟩ := p1i_some hx
  cases hx
  exact lv_i2c C.1 C.2.1 hd rfl (kk ls H locs hI)
theorem snS_lcmp (C : snCx od sz0 Ls oI oL D tyc p s m args meth c μ n0) (hd : decode (snB μ) pc = .ok (.lcmp, len)) (h2 : snOk2 (snN μ).cls μ pc (.lcmp, len, r5, iv, lv) = true) (hx : zmX (.lcmp, len, r5, iv, lv) pc L st x = some (.inl (pc', L', st', x'))) (hI : snInv od sz0 Ls oI oL D tyc s H locs ls (snL μ) L x) (hn0 : n0 ≤ x.1.1) (hR : x'.1.1 - n0 ≤ R.cells ∧ snSum x'.1.1 - snSum n0 ≤ R.slots ∧ 64 ≤ R.locals ∧ 1 ≤ R.frames) (kk : ∀ (ls' : Array Slot) (H' : Heap) (locs' : List Loc), snInv od sz0 Ls oI oL D tyc s H' locs' ls' (snL μ) L' x' → W p l e R s m args below meth c H' locs' (x'.1.1 - n0) (snSum x'.1.1 - snSum n0) Q (F0 m pc' ls' (st'.map (snV od sz0)))) : W p l e R s m args below meth c H locs (x.1.1 - n0) (snSum x.1.1 - snSum n0) Q (F0 m pc ls (st.map (snV od sz0))) := by
  have h2 : Nat.beq len 1 = true := h2
  obtain rfl := Nat.eq_of_beq_eq_true h2
  have hx : p2l st (fun a b r => some (.inl (pc + 1, L, .int (lg_cmp a b) :: r, x))) = some (.inl (pc', L', st', x')) := hx
  obtain ⟨a, b, r, rfl, hx⟩ := p2l_some hx
  cases hx
  exact W.lcmp C.1 C.2.1 hd (kk ls H locs hI)
theorem snS_dup (C : snCx od sz0 Ls oI oL D tyc p s m args meth c μ n0) (hd : decode (snB μ) pc = .ok (.dup, len)) (h2 : snOk2 (snN μ).cls μ pc (.dup, len, r5, iv, lv) = true) (hx : zmX (.dup, len, r5, iv, lv) pc L st x = some (.inl (pc', L', st', x'))) (hI : snInv od sz0 Ls oI oL D tyc s H locs ls (snL μ) L x) (hn0 : n0 ≤ x.1.1) (hR : x'.1.1 - n0 ≤ R.cells ∧ snSum x'.1.1 - snSum n0 ≤ R.slots ∧ 64 ≤ R.locals ∧ 1 ≤ R.frames) (kk : ∀ (ls' : Array Slot) (H' : Heap) (locs' : List Loc), snInv od sz0 Ls oI oL D tyc s H' locs' ls' (snL μ) L' x' → W p l e R s m args below meth c H' locs' (x'.1.1 - n0) (snSum x'.1.1 - snSum n0) Q (F0 m pc' ls' (st'.map (snV od sz0)))) : W p l e R s m args below meth c H locs (x.1.1 - n0) (snSum x.1.1 - snSum n0) Q (F0 m pc ls (st.map (snV od sz0))) := by
  have h2 : Nat.beq len 1 = true := h2
  obtain rfl := Nat.eq_of_beq_eq_true h2
  have hx : (match st with
    | .int a :: r => some (.inl (pc + 1, L, .int a :: .int a :: r, x))
    | .ref a :: r => some (.inl (pc + 1, L, .ref a :: .ref a :: r, x))
    | _ => (none : Option zmR)) = some (.inl (pc', L', st', x')) := hx
  split at hx
  · cases hx; exact lv_dup C.1 C.2.1 hd rfl (kk ls H locs hI)
  · cases hx; exact lv_dup C.1 C.2.1 hd rfl (kk ls H locs hI)
  · cases hx
theorem snS_dup2 (C : snCx od sz0 Ls oI oL D tyc p s m args meth c μ n0) (hd : decode (snB μ) pc = .ok (.dup2, len)) (h2 : snOk2 (snN μ).cls μ pc (.dup2, len, r5, iv, lv) = true) (hx : zmX (.dup2, len, r5, iv, lv) pc L st x = some (.inl (pc', L', st', x'))) (hI : snInv od sz0 Ls oI oL D tyc s H locs ls (snL μ) L x) (hn0 : n0 ≤ x.1.1) (hR : x'.1.1 - n0 ≤ R.cells ∧ snSum x'.1.1 - snSum n0 ≤ R.slots ∧ 64 ≤ R.locals ∧ 1 ≤ R.frames) (kk : ∀ (ls' : Array Slot) (H' : Heap) (locs' : List Loc), snInv od sz0 Ls oI oL D tyc s H' locs' ls' (snL μ) L' x' → W p l e R s m args below meth c H' locs' (x'.1.1 - n0) (snSum x'.1.1 - snSum n0) Q (F0 m pc' ls' (st'.map (snV od sz0)))) : W p l e R s m args below meth c H locs (x.1.1 - n0) (snSum x.1.1 - snSum n0) Q (F0 m pc ls (st.map (snV od sz0))) := by
  have h2 : Nat.beq len 1 = true := h2
  obtain rfl := Nat.eq_of_beq_eq_true h2
  have hx : pix st (fun a b r => some (.inl (pc + 1, L, .int a :: .ref b :: .int a :: .ref b :: r, x))) = some (.inl (pc', L', st', x')) := hx
  obtain ⟨a, b, r, rfl, hx⟩ := pix_some hx
  cases hx
  exact lv_dup2_11 C.1 C.2.1 hd rfl rfl (kk ls H locs hI)
theorem snS_pop (C : snCx od sz0 Ls oI oL D tyc p s m args meth c μ n0) (hd : decode (snB μ) pc = .ok (.pop, len)) (h2 : snOk2 (snN μ).cls μ pc (.pop, len, r5, iv, lv) = true) (hx : zmX (.pop, len, r5, iv, lv) pc L st x = some (.inl (pc', L', st', x'))) (hI : snInv od sz0 Ls oI oL D tyc s H locs ls (snL μ) L x) (hn0 : n0 ≤ x.1.1) (hR : x'.1.1 - n0 ≤ R.cells ∧ snSum x'.1.1 - snSum n0 ≤ R.slots ∧ 64 ≤ R.locals ∧ 1 ≤ R.frames) (kk : ∀ (ls' : Array Slot) (H' : Heap) (locs' : List Loc), snInv od sz0 Ls oI oL D tyc s H' locs' ls' (snL μ) L' x' → W p l e R s m args below meth c H' locs' (x'.1.1 - n0) (snSum x'.1.1 - snSum n0) Q (F0 m pc' ls' (st'.map (snV od sz0)))) : W p l e R s m args below meth c H locs (x.1.1 - n0) (snSum x.1.1 - snSum n0) Q (F0 m pc ls (st.map (snV od sz0))) := by
  have h2 : Nat.beq len 1 = true := h2
  obtain rfl := Nat.eq_of_beq_eq_true h2
  have hx : p1i st (fun _ r => some (.inl (pc + 1, L, r, x))) = some (.inl (pc', L', st', x')) := hx
  obtain ⟨a, r, rfl, hx⟩ := p1i_some hx
  cases hx
  exact lv_pop C.1 C.2.1 hd rfl (kk ls H locs hI)
theorem snS_pop2 (C : snCx od sz0 Ls oI oL D tyc p s m args meth c μ n0) (hd : decode (snB μ) pc = .ok (.pop2, len)) (h2 : snOk2 (snN μ).cls μ pc (.pop2, len, r5, iv, lv) = true) (hx : zmX (.pop2, len, r5, iv, lv) pc L st x = some (.inl (pc', L', st', x'))) (hI : snInv od sz0 Ls oI oL D tyc s H locs ls (snL μ) L x) (hn0 : n0 ≤ x.1.1) (hR : x'.1.1 - n0 ≤ R.cells ∧ snSum x'.1.1 - snSum n0 ≤ R.slots ∧ 64 ≤ R.locals ∧ 1 ≤ R.frames) (kk : ∀ (ls' : Array Slot) (H' : Heap) (locs' : List Loc), snInv od sz0 Ls oI oL D tyc s H' locs' ls' (snL μ) L' x' → W p l e R s m args below meth c H' locs' (x'.1.1 - n0) (snSum x'.1.1 - snSum n0) Q (F0 m pc' ls' (st'.map (snV od sz0)))) : W p l e R s m args below meth c H locs (x.1.1 - n0) (snSum x.1.1 - snSum n0) Q (F0 m pc ls (st.map (snV od sz0))) := by
  have h2 : Nat.beq len 1 = true := h2
  obtain rfl := Nat.eq_of_beq_eq_true h2
  have hx : p1l st (fun _ r => some (.inl (pc + 1, L, r, x))) = some (.inl (pc', L', st', x')) := hx
  obtain ⟨a, r, rfl, hx⟩ := p1l_some hx
  cases hx
  exact lv_pop2_2 C.1 C.2.1 hd rfl (kk ls H locs hI)
theorem snS_goto {o : Int} (C : snCx od sz0 Ls oI oL D tyc p s m args meth c μ n0) (hd : decode (snB μ) pc = .ok (.goto o, len)) (h2 : snOk2 (snN μ).cls μ pc (.goto o, len, r5, iv, lv) = true) (hx : zmX (.goto o, len, r5, iv, lv) pc L st x = some (.inl (pc', L', st', x'))) (hI : snInv od sz0 Ls oI oL D tyc s H locs ls (snL μ) L x) (hn0 : n0 ≤ x.1.1) (hR : x'.1.1 - n0 ≤ R.cells ∧ snSum x'.1.1 - snSum n0 ≤ R.slots ∧ 64 ≤ R.locals ∧ 1 ≤ R.frames) (kk : ∀ (ls' : Array Slot) (H' : Heap) (locs' : List Loc), snInv od sz0 Ls oI oL D tyc s H' locs' ls' (snL μ) L' x' → W p l e R s m args below meth c H' locs' (x'.1.1 - n0) (snSum x'.1.1 - snSum n0) Q (F0 m pc' ls' (st'.map (snV od sz0)))) : W p l e R s m args below meth c H locs (x.1.1 - n0) (snSum x.1.1 - snSum n0) Q (F0 m pc ls (st.map (snV od sz0))) := by
  have h2 : (Nat.beq len 3 && decide (0 ≤ (pc : Int) + o)) = true := h2
  obtain ⟨h2, h3⟩ := snB2 h2
  obtain rfl := Nat.eq_of_beq_eq_true h2
  have hx : some (.inl (zmGo pc o, L, st, x)) = (some (.inl (pc', L', st', x')) : Option zmR) := hx
  cases hx
  exact lv_goto C.1 C.2.1 hd (snGo h3) (kk ls H locs hI)
theorem snS_if_eq {o : Int} (C : snCx od sz0 Ls oI oL D tyc p s m args meth c μ n0) (hd : decode (snB μ) pc = .ok (.ifCond .eq o, len)) (h2 : snOk2 (snN μ).cls μ pc (.ifCond .eq o, len, r5, iv, lv) = true) (hx : zmX (.ifCond .eq o, len, r5, iv, lv) pc L st x = some (.inl (pc', L', st', x'))) (hI : snInv od sz0 Ls oI oL D tyc s H locs ls (snL μ) L x) (hn0 : n0 ≤ x.1.1) (hR : x'.1.1 - n0 ≤ R.cells ∧ snSum x'.1.1 - snSum n0 ≤ R.slots ∧ 64 ≤ R.locals ∧ 1 ≤ R.frames) (kk : ∀ (ls' : Array Slot) (H' : Heap) (locs' : List Loc), snInv od sz0 Ls oI oL D tyc s H' locs' ls' (snL μ) L' x' → W p l e R s m args below meth c H' locs' (x'.1.1 - n0) (snSum x'.1.1 - snSum n0) Q (F0 m pc' ls' (st'.map (snV od sz0)))) : W p l e R s m args below meth c H locs (x.1.1 - n0) (snSum x.1.1 - snSum n0) Q (F0 m pc ls (st.map (snV od sz0))) := by
  have h2 : (Nat.beq len 3 && decide (0 ≤ (pc : Int) + o)) = true := h2
  obtain ⟨h2, h3⟩ := snB2 h2
  have hx : p1i st (fun a r => some (.inl (if a = 0 then zmGo pc o else pc + 3, L, r, x))) = some (.inl (pc', L', st', x')) := hx
  obtain ⟨a, r, rfl, hx⟩ := p1i_some hx
  cases hx
  have k1 := kk ls H locs hI
  obtain rfl := Nat.eq_of_beq_eq_true h2
  refine lv_if_eq (tgt := zmGo pc o) C.1 C.2.1 hd (snGo h3) (fun h => ?_) (fun h => ?_)
  · rw [if_pos h] at k1; exact k1
  · rw [if_neg h] at k1; exact k1
theorem snS_if_ne {o : Int} (C : snCx od sz0 Ls oI oL D tyc p s m args meth c μ n0) (hd : decode (snB μ) pc = .ok (.ifCond .ne o, len)) (h2 : snOk2 (snN μ).cls μ pc (.ifCond .ne o, len, r5, iv, lv) = true) (hx : zmX (.ifCond .ne o, len, r5, iv, lv) pc L st x = some (.inl (pc', L', st', x'))) (hI : snInv od sz0 Ls oI oL D tyc s H locs ls (snL μ) L x) (hn0 : n0 ≤ x.1.1) (hR : x'.1.1 - n0 ≤ R.cells ∧ snSum x'.1.1 - snSum n0 ≤ R.slots ∧ 64 ≤ R.locals ∧ 1 ≤ R.frames) (kk : ∀ (ls' : Array Slot) (H' : Heap) (locs' : List Loc), snInv od sz0 Ls oI oL D tyc s H' locs' ls' (snL μ) L' x' → W p l e R s m args below meth c H' locs' (x'.1.1 - n0) (snSum x'.1.1 - snSum n0) Q (F0 m pc' ls' (st'.map (snV od sz0)))) : W p l e R s m args below meth c H locs (x.1.1 - n0) (snSum x.1.1 - snSum n0) Q (F0 m pc ls (st.map (snV od sz0))) := by
  have h2 : (Nat.beq len 3 && decide (0 ≤ (pc : Int) + o)) = true := h2
  obtain ⟨h2, h3⟩ := snB2 h2
  have hx : p1i st (fun a r => some (.inl (if a = 0 then pc + 3 else zmGo pc o, L, r, x))) = some (.inl (pc', L', st', x')) := hx
  obtain ⟨a, r, rfl, hx⟩ := p1i_some hx
  cases hx
  have k1 := kk ls H locs hI
  obtain rfl := Nat.eq_of_beq_eq_true h2
  refine lv_if_ne (tgt := zmGo pc o) C.1 C.2.1 hd (snGo h3) (fun h => ?_) (fun h => ?_)
  · rw [if_neg h] at k1; exact k1
  · rw [if_pos h] at k1; exact k1
theorem snS_if_lt {o : Int} (C : snCx od sz0 Ls oI oL D tyc p s m args meth c μ n0) (hd : decode (snB μ) pc = .ok (.ifCond .lt o, len)) (h2 : snOk2 (snN μ).cls μ pc (.ifCond .lt o, len, r5, iv, lv) = true) (hx : zmX (.ifCond .lt o, len, r5, iv, lv) pc L st x = some (.inl (pc', L', st', x'))) (hI : snInv od sz0 Ls oI oL D tyc s H locs ls (snL μ) L x) (hn0 : n0 ≤ x.1.1) (hR : x'.1.1 - n0 ≤ R.cells ∧ snSum x'.1.1 - snSum n0 ≤ R.slots ∧ 64 ≤ R.locals ∧ 1 ≤ R.frames) (kk : ∀ (ls' : Array Slot) (H' : Heap) (locs' : List Loc), snInv od sz0 Ls oI oL D tyc s H' locs' ls' (snL μ) L' x' → W p l e R s m args below meth c H' locs' (x'.1.1 - n0) (snSum x'.1.1 - snSum n0) Q (F0 m pc' ls' (st'.map (snV od sz0)))) : W p l e R s m args below meth c H locs (x.1.1 - n0) (snSum x.1.1 - snSum n0) Q (F0 m pc ls (st.map (snV od sz0))) := by
  have h2 : (Nat.beq len 3 && decide (0 ≤ (pc : Int) + o)) = true := h2
  obtain ⟨h2, h3⟩ := snB2 h2
  have hx : p1i st (fun a r => some (.inl (if a < 0 then zmGo pc o else pc + 3, L, r, x))) = some (.inl (pc', L', st', x')) := hx
  obtain ⟨a, r, rfl, hx⟩ := p1i_some hx
  cases hx
  have k1 := kk ls H locs hI
  obtain rfl := Nat.eq_of_beq_eq_true h2
  refine lv_if_lt (tgt := zmGo pc o) C.1 C.2.1 hd (snGo h3) (fun h => ?_) (fun h => ?_)
  · rw [if_pos h] at k1; exact k1
  · rw [if_neg h] at k1; exact k1
theorem snS_if_ge {o : Int} (C : snCx od sz0 Ls oI oL D tyc p s m args meth c μ n0) (hd : decode (snB μ) pc = .ok (.ifCond .ge o, len)) (h2 : snOk2 (snN μ).cls μ pc (.ifCond .ge o, len, r5, iv, lv) = true) (hx : zmX (.ifCond .ge o, len, r5, iv, lv) pc L st x = some (.inl (pc', L', st', x'))) (hI : snInv od sz0 Ls oI oL D tyc s H locs ls (snL μ) L x) (hn0 : n0 ≤ x.1.1) (hR : x'.1.1 - n0 ≤ R.cells ∧ snSum x'.1.1 - snSum n0 ≤ R.slots ∧ 64 ≤ R.locals ∧ 1 ≤ R.frames) (kk : ∀ (ls' : Array Slot) (H' : Heap) (locs' : List Loc), snInv od sz0 Ls oI oL D tyc s H' locs' ls' (snL μ) L' x' → W p l e R s m args below meth c H' locs' (x'.1.1 - n0) (snSum x'.1.1 - snSum n0) Q (F0 m pc' ls' (st'.map (snV od sz0)))) : W p l e R s m args below meth c H locs (x.1.1 - n0) (snSum x.1.1 - snSum n0) Q (F0 m pc ls (st.map (snV od sz0))) := by
  have h2 : (Nat.beq len 3 && decide (0 ≤ (pc : Int) + o)) = true := h2
  obtain ⟨h2, h3⟩ := snB2 h2
  have hx : p1i st (fun a r => some (.inl (if a < 0 then pc + 3 else zmGo pc o, L, r, x))) = some (.inl (pc', L', st', x')) := hx
  obtain ⟨a, r, rfl, hx⟩ := p1i_some hx
  cases hx
  have k1 := kk ls H locs hI
  obtain rfl := Nat.eq_of_beq_eq_true h2
  refine lv_if_ge (tgt := zmGo pc o) C.1 C.2.1 hd (snGo h3) (fun h => ?_) (fun h => ?_)
  · rw [if_neg (Int32.not_lt.mpr h)] at k1; exact k1
  · rw [if_pos (Int32.not_le.mp h)] at k1; exact k1
theorem snS_if_gt {o : Int} (C : snCx od sz0 Ls oI oL D tyc p s m args meth c μ n0) (hd : decode (snB μ) pc = .ok (.ifCond .gt o, len)) (h2 : snOk2 (snN μ).cls μ pc (.ifCond .gt o, len, r5, iv, lv) = true) (hx : zmX (.ifCond .gt o, len, r5, iv, lv) pc L st x = some (.inl (pc', L', st', x'))) (hI : snInv od sz0 Ls oI oL D tyc s H locs ls (snL μ) L x) (hn0 : n0 ≤ x.1.1) (hR : x'.1.1 - n0 ≤ R.cells ∧ snSum x'.1.1 - snSum n0 ≤ R.slots ∧ 64 ≤ R.locals ∧ 1 ≤ R.frames) (kk : ∀ (ls' : Array Slot) (H' : Heap) (locs' : List Loc), snInv od sz0 Ls oI oL D tyc s H' locs' ls' (snL μ) L' x' → W p l e R s m args below meth c H' locs' (x'.1.1 - n0) (snSum x'.1.1 - snSum n0) Q (F0 m pc' ls' (st'.map (snV od sz0)))) : W p l e R s m args below meth c H locs (x.1.1 - n0) (snSum x.1.1 - snSum n0) Q (F0 m pc ls (st.map (snV od sz0))) := by
  have h2 : (Nat.beq len 3 && decide (0 ≤ (pc : Int) + o)) = true := h2
  obtain ⟨h2, h3⟩ := snB2 h2
  have hx : p1i st (fun a r => some (.inl (if 0 < a then zmGo pc o else pc + 3, L, r, x))) = some (.inl (pc', L', st', x')) := hx
  obtain ⟨a, r, rfl, hx⟩ := p1i_some hx
  cases hx
  have k1 := kk ls H locs hI
  obtain rfl := Nat.eq_of_beq_eq_true h2
  refine lv_if_gt (tgt := zmGo pc o) C.1 C.2.1 hd (snGo h3) (fun h => ?_) (fun h => ?_)
  · rw [if_pos h] at k1; exact k1
  · rw [if_neg h] at k1; exact k1
theorem snS_if_le {o : Int} (C : snCx od sz0 Ls oI oL D tyc p s m args meth c μ n0) (hd : decode (snB μ) pc = .ok (.ifCond .le o, len)) (h2 : snOk2 (snN μ).cls μ pc (.ifCond .le o, len, r5, iv, lv) = true) (hx : zmX (.ifCond .le o, len, r5, iv, lv) pc L st x = some (.inl (pc', L', st', x'))) (hI : snInv od sz0 Ls oI oL D tyc s H locs ls (snL μ) L x) (hn0 : n0 ≤ x.1.1) (hR : x'.1.1 - n0 ≤ R.cells ∧ snSum x'.1.1 - snSum n0 ≤ R.slots ∧ 64 ≤ R.locals ∧ 1 ≤ R.frames) (kk : ∀ (ls' : Array Slot) (H' : Heap) (locs' : List Loc), snInv od sz0 Ls oI oL D tyc s H' locs' ls' (snL μ) L' x' → W p l e R s m args below meth c H' locs' (x'.1.1 - n0) (snSum x'.1.1 - snSum n0) Q (F0 m pc' ls' (st'.map (snV od sz0)))) : W p l e R s m args below meth c H locs (x.1.1 - n0) (snSum x.1.1 - snSum n0) Q (F0 m pc ls (st.map (snV od sz0))) := by
  have h2 : (Nat.beq len 3 && decide (0 ≤ (pc : Int) + o)) = true := h2
  obtain ⟨h2, h3⟩ := snB2 h2
  have hx : p1i st (fun a r => some (.inl (if 0 < a then pc + 3 else zmGo pc o, L, r, x))) = some (.inl (pc', L', st', x')) := hx
  obtain ⟨a, r, rfl, hx⟩ := p1i_some hx
  cases hx
  have k1 := kk ls H locs hI
  obtain rfl := Nat.eq_of_beq_eq_true h2
  refine lv_if_le (tgt := zmGo pc o) C.1 C.2.1 hd (snGo h3) (fun h => ?_) (fun h => ?_)
  · rw [if_neg (Int32.not_lt.mpr h)] at k1; exact k1
  · rw [if_pos (Int32.not_le.mp h)] at k1; exact k1
theorem snS_icmp_eq {o : Int} (C : snCx od sz0 Ls oI oL D tyc p s m args meth c μ n0) (hd : decode (snB μ) pc = .ok (.if_icmp .eq o, len)) (h2 : snOk2 (snN μ).cls μ pc (.if_icmp .eq o, len, r5, iv, lv) = true) (hx : zmX (.if_icmp .eq o, len, r5, iv, lv) pc L st x = some (.inl (pc', L', st', x'))) (hI : snInv od sz0 Ls oI oL D tyc s H locs ls (snL μ) L x) (hn0 : n0 ≤ x.1.1) (hR : x'.1.1 - n0 ≤ R.cells ∧ snSum x'.1.1 - snSum n0 ≤ R.slots ∧ 64 ≤ R.locals ∧ 1 ≤ R.frames) (kk : ∀ (ls' : Array Slot) (H' : Heap) (locs' : List Loc), snInv od sz0 Ls oI oL D tyc s H' locs' ls' (snL μ) L' x' → W p l e R s m args below meth c H' locs' (x'.1.1 - n0) (snSum x'.1.1 - snSum n0) Q (F0 m pc' ls' (st'.map (snV od sz0)))) : W p l e R s m args below meth c H locs (x.1.1 - n0) (snSum x.1.1 - snSum n0) Q (F0 m pc ls (st.map (snV od sz0))) := by
  have h2 : (Nat.beq len 3 && decide (0 ≤ (pc : Int) + o)) = true := h2
  obtain ⟨h2, h3⟩ := snB2 h2
  have hx : p2i st (fun a b r => some (.inl (if a = b then zmGo pc o else pc + 3, L, r, x))) = some (.inl (pc', L', st', x')) := hx
  obtain ⟨a, b, r, rfl, hx⟩ := p2i_some hx
  cases hx
  have k1 := kk ls H locs hI
  obtain rfl := Nat.eq_of_beq_eq_true h2
  refine lv_icmp_eq (tgt := zmGo pc o) C.1 C.2.1 hd (snGo h3) (fun h => ?_) (fun h => ?_)
  · rw [if_pos h] at k1; exact k1
  · rw [if_neg h] at k1; exact k1
theorem snS_icmp_ne {o : Int} (C : snCx od sz0 Ls oI oL D tyc p s m args meth c μ n0) (hd : decode (snB μ) pc = .ok (.if_icmp .ne o, len)) (h2 : snOk2 (snN μ).cls μ pc (.if_icmp .ne o, len, r5, iv, lv) = true) (hx : zmX (.if_icmp .ne o, len, r5, iv, lv) pc L st x = some (.inl (pc', L', st', x'))) (hI : snInv od sz0 Ls oI oL D tyc s H locs ls (snL μ) L x) (hn0 : n0 ≤ x.1.1) (hR : x'.1.1 - n0 ≤ R.cells ∧ snSum x'.1.1 - snSum n0 ≤ R.slots ∧ 64 ≤ R.locals ∧ 1 ≤ R.frames) (kk : ∀ (ls' : Array Slot) (H' : Heap) (locs' : List Loc), snInv od sz0 Ls oI oL D tyc s H' locs' ls' (snL μ) L' x' → W p l e R s m args below meth c H' locs' (x'.1.1 - n0) (snSum x'.1.1 - snSum n0) Q (F0 m pc' ls' (st'.map (snV od sz0)))) : W p l e R s m args below meth c H locs (x.1.1 - n0) (snSum x.1.1 - snSum n0) Q (F0 m pc ls (st.map (snV od sz0))) := by
  have h2 : (Nat.beq len 3 && decide (0 ≤ (pc : Int) + o)) = true := h2
  obtain ⟨h2, h3⟩ := snB2 h2
  have hx : p2i st (fun a b r => some (.inl (if a = b then pc + 3 else zmGo pc o, L, r, x))) = some (.inl (pc', L', st', x')) := hx
  obtain ⟨a, b, r, rfl, hx⟩ := p2i_some hx
  cases hx
  have k1 := kk ls H locs hI
  obtain rfl := Nat.eq_of_beq_eq_true h2
  refine lv_icmp_ne (tgt := zmGo pc o) C.1 C.2.1 hd (snGo h3) (fun h => ?_) (fun h => ?_)
  · rw [if_neg h] at k1; exact k1
  · rw [if_pos h] at k1; exact k1
theorem snS_icmp_lt {o : Int} (C : snCx od sz0 Ls oI oL D tyc p s m args meth c μ n0) (hd : decode (snB μ) pc = .ok (.if_icmp .lt o, len)) (h2 : snOk2 (snN μ).cls μ pc (.if_icmp .lt o, len, r5, iv, lv) = true) (hx : zmX (.if_icmp .lt o, len, r5, iv, lv) pc L st x = some (.inl (pc', L', st', x'))) (hI : snInv od sz0 Ls oI oL D tyc s H locs ls (snL μ) L x) (hn0 : n0 ≤ x.1.1) (hR : x'.1.1 - n0 ≤ R.cells ∧ snSum x'.1.1 - snSum n0 ≤ R.slots ∧ 64 ≤ R.locals ∧ 1 ≤ R.frames) (kk : ∀ (ls' : Array Slot) (H' : Heap) (locs' : List Loc), snInv od sz0 Ls oI oL D tyc s H' locs' ls' (snL μ) L' x' → W p l e R s m args below meth c H' locs' (x'.1.1 - n0) (snSum x'.1.1 - snSum n0) Q (F0 m pc' ls' (st'.map (snV od sz0)))) : W p l e R s m args below meth c H locs (x.1.1 - n0) (snSum x.1.1 - snSum n0) Q (F0 m pc ls (st.map (snV od sz0))) := by
  have h2 : (Nat.beq len 3 && decide (0 ≤ (pc : Int) + o)) = true := h2
  obtain ⟨h2, h3⟩ := snB2 h2
  have hx : p2i st (fun a b r => some (.inl (if a < b then zmGo pc o else pc + 3, L, r, x))) = some (.inl (pc', L', st', x')) := hx
  obtain ⟨a, b, r, rfl, hx⟩ := p2i_some hx
  cases hx
  have k1 := kk ls H locs hI
  obtain rfl := Nat.eq_of_beq_eq_true h2
  refine lv_icmp_lt (tgt := zmGo pc o) C.1 C.2.1 hd (snGo h3) (fun h => ?_) (fun h => ?_)
  · rw [if_pos h] at k1; exact k1
  · rw [if_neg h] at k1; exact k1
theorem snS_icmp_ge {o : Int} (C : snCx od sz0 Ls oI oL D tyc p s m args meth c μ n0) (hd : decode (snB μ) pc = .ok (.if_icmp .ge o, len)) (h2 : snOk2 (snN μ).cls μ pc (.if_icmp .ge o, len, r5, iv, lv) = true) (hx : zmX (.if_icmp .ge o, len, r5, iv, lv) pc L st x = some (.inl (pc', L', st', x'))) (hI : snInv od sz0 Ls oI oL D tyc s H locs ls (snL μ) L x) (hn0 : n0 ≤ x.1.1) (hR : x'.1.1 - n0 ≤ R.cells ∧ snSum x'.1.1 - snSum n0 ≤ R.slots ∧ 64 ≤ R.locals ∧ 1 ≤ R.frames) (kk : ∀ (ls' : Array Slot) (H' : Heap) (locs' : List Loc), snInv od sz0 Ls oI oL D tyc s H' locs' ls' (snL μ) L' x' → W p l e R s m args below meth c H' locs' (x'.1.1 - n0) (snSum x'.1.1 - snSum n0) Q (F0 m pc' ls' (st'.map (snV od sz0)))) : W p l e R s m args below meth c H locs (x.1.1 - n0) (snSum x.1.1 - snSum n0) Q (F0 m pc ls (st.map (snV od sz0))) := by
  have h2 : (Nat.beq len 3 && decide (0 ≤ (pc : Int) + o)) = true := h2
  obtain ⟨h2, h3⟩ := snB2 h2
  have hx : p2i st (fun a b r => some (.inl (if a < b then pc + 3 else zmGo pc o, L, r, x))) = some (.inl (pc', L', st', x')) := hx
  obtain ⟨a, b, r, rfl, hx⟩ := p2i_some hx
  cases hx
  have k1 := kk ls H locs hI
  obtain rfl := Nat.eq_of_beq_eq_true h2
  refine lv_icmp_ge (tgt := zmGo pc o) C.1 C.2.1 hd (snGo h3) (fun h => ?_) (fun h => ?_)
  · rw [if_neg (Int32.not_lt.mpr h)] at k1; exact k1
  · rw [if_pos (Int32.not_le.mp h)] at k1; exact k1
theorem snS_icmp_gt {o : Int} (C : snCx od sz0 Ls oI oL D tyc p s m args meth c μ n0) (hd : decode (snB μ) pc = .ok (.if_icmp .gt o, len)) (h2 : snOk2 (snN μ).cls μ pc (.if_icmp .gt o, len, r5, iv, lv) = true) (hx : zmX (.if_icmp .gt o, len, r5, iv, lv) pc L st x = some (.inl (pc', L', st', x'))) (hI : snInv od sz0 Ls oI oL D tyc s H locs ls (snL μ) L x) (hn0 : n0 ≤ x.1.1) (hR : x'.1.1 - n0 ≤ R.cells ∧ snSum x'.1.1 - snSum n0 ≤ R.slots ∧ 64 ≤ R.locals ∧ 1 ≤ R.frames) (kk : ∀ (ls' : Array Slot) (H' : Heap) (locs' : List Loc), snInv od sz0 Ls oI oL D tyc s H' locs' ls' (snL μ) L' x' → W p l e R s m args below meth c H' locs' (x'.1.1 - n0) (snSum x'.1.1 - snSum n0) Q (F0 m pc' ls' (st'.map (snV od sz0)))) : W p l e R s m args below meth c H locs (x.1.1 - n0) (snSum x.1.1 - snSum n0) Q (F0 m pc ls (st.map (snV od sz0))) := by
  have h2 : (Nat.beq len 3 && decide (0 ≤ (pc : Int) + o)) = true := h2
  obtain ⟨h2, h3⟩ := snB2 h2
  have hx : p2i st (fun a b r => some (.inl (if b < a then zmGo pc o else pc + 3, L, r, x))) = some (.inl (pc', L', st', x')) := hx
  obtain ⟨a, b, r, rfl, hx⟩ := p2i_some hx
  cases hx
  have k1 := kk ls H locs hI
  obtain rfl := Nat.eq_of_beq_eq_true h2
  refine lv_icmp_gt (tgt := zmGo pc o) C.1 C.2.1 hd (snGo h3) (fun h => ?_) (fun h => ?_)
  · rw [if_pos h] at k1; exact k1
  · rw [if_neg h] at k1; exact k1
theorem snS_icmp_le {o : Int} (C : snCx od sz0 Ls oI oL D tyc p s m args meth c μ n0) (hd : decode (snB μ) pc = .ok (.if_icmp .le o, len)) (h2 : snOk2 (snN μ).cls μ pc (.if_icmp .le o, len, r5, iv, lv) = true) (hx : zmX (.if_icmp .le o, len, r5, iv, lv) pc L st x = some (.inl (pc', L', st', x'))) (hI : snInv od sz0 Ls oI oL D tyc s H locs ls (snL μ) L x) (hn0 : n0 ≤ x.1.1) (hR : x'.1.1 - n0 ≤ R.cells ∧ snSum x'.1.1 - snSum n0 ≤ R.slots ∧ 64 ≤ R.locals ∧ 1 ≤ R.frames) (kk : ∀ (ls' : Array Slot) (H' : Heap) (locs' : List Loc), snInv od sz0 Ls oI oL D tyc s H' locs' ls' (snL μ) L' x' → W p l e R s m args below meth c H' locs' (x'.1.1 - n0) (snSum x'.1.1 - snSum n0) Q (F0 m pc' ls' (st'.map (snV od sz0)))) : W p l e R s m args below meth c H locs (x.1.1 - n0) (snSum x.1.1 - snSum n0) Q (F0 m pc ls (st.map (snV od sz0))) := by
  have h2 : (Nat.beq len 3 && decide (0 ≤ (pc : Int) + o)) = true := h2
  obtain ⟨h2, h3⟩ := snB2 h2
  have hx : p2i st (fun a b r => some (.inl (if b < a then pc + 3 else zmGo pc o, L, r, x))) = some (.inl (pc', L', st', x')) := hx
  obtain ⟨a, b, r, rfl, hx⟩ := p2i_some hx
  cases hx
  have k1 := kk ls H locs hI
  obtain rfl := Nat.eq_of_beq_eq_true h2
  refine lv_icmp_le (tgt := zmGo pc o) C.1 C.2.1 hd (snGo h3) (fun h => ?_) (fun h => ?_)
  · rw [if_neg (Int32.not_lt.mpr h)] at k1; exact k1
  · rw [if_pos (Int32.not_le.mp h)] at k1; exact k1
theorem snS_ifnull {o : Int} (C : snCx od sz0 Ls oI oL D tyc p s m args meth c μ n0) (hd : decode (snB μ) pc = .ok (.ifnull o, len)) (h2 : snOk2 (snN μ).cls μ pc (.ifnull o, len, r5, iv, lv) = true) (hx : zmX (.ifnull o, len, r5, iv, lv) pc L st x = some (.inl (pc', L', st', x'))) (hI : snInv od sz0 Ls oI oL D tyc s H locs ls (snL μ) L x) (hn0 : n0 ≤ x.1.1) (hR : x'.1.1 - n0 ≤ R.cells ∧ snSum x'.1.1 - snSum n0 ≤ R.slots ∧ 64 ≤ R.locals ∧ 1 ≤ R.frames) (kk : ∀ (ls' : Array Slot) (H' : Heap) (locs' : List Loc), snInv od sz0 Ls oI oL D tyc s H' locs' ls' (snL μ) L' x' → W p l e R s m args below meth c H' locs' (x'.1.1 - n0) (snSum x'.1.1 - snSum n0) Q (F0 m pc' ls' (st'.map (snV od sz0)))) : W p l e R s m args below meth c H locs (x.1.1 - n0) (snSum x.1.1 - snSum n0) Q (F0 m pc ls (st.map (snV od sz0))) := by
  have h2 : (Nat.beq len 3 && decide (0 ≤ (pc : Int) + o)) = true := h2
  obtain ⟨h2, h3⟩ := snB2 h2
  obtain rfl := Nat.eq_of_beq_eq_true h2
  have hx : (match st with
    | .ref _ :: r => some (.inl (pc + 3, L, r, x))
    | .null :: r => some (.inl (zmGo pc o, L, r, x))
    | _ => (none : Option zmR)) = some (.inl (pc', L', st', x')) := hx
  split at hx
  · cases hx; exact lv_ifnull C.1 C.2.1 hd (kk ls H locs hI)
  · cases hx; exact lv_ifnullN C.1 C.2.1 hd (snGo h3) (kk ls H locs hI)
  · cases hx
theorem snS_ifnonnull {o : Int} (C : snCx od sz0 Ls oI oL D tyc p s m args meth c μ n0) (hd : decode (snB μ) pc = .ok (.ifnonnull o, len)) (h2 : snOk2 (snN μ).cls μ pc (.ifnonnull o, len, r5, iv, lv) = true) (hx : zmX (.ifnonnull o, len, r5, iv, lv) pc L st x = some (.inl (pc', L', st', x'))) (hI : snInv od sz0 Ls oI oL D tyc s H locs ls (snL μ) L x) (hn0 : n0 ≤ x.1.1) (hR : x'.1.1 - n0 ≤ R.cells ∧ snSum x'.1.1 - snSum n0 ≤ R.slots ∧ 64 ≤ R.locals ∧ 1 ≤ R.frames) (kk : ∀ (ls' : Array Slot) (H' : Heap) (locs' : List Loc), snInv od sz0 Ls oI oL D tyc s H' locs' ls' (snL μ) L' x' → W p l e R s m args below meth c H' locs' (x'.1.1 - n0) (snSum x'.1.1 - snSum n0) Q (F0 m pc' ls' (st'.map (snV od sz0)))) : W p l e R s m args below meth c H locs (x.1.1 - n0) (snSum x.1.1 - snSum n0) Q (F0 m pc ls (st.map (snV od sz0))) := by
  have h2 : (Nat.beq len 3 && decide (0 ≤ (pc : Int) + o)) = true := h2
  obtain ⟨h2, h3⟩ := snB2 h2
  obtain rfl := Nat.eq_of_beq_eq_true h2
  have hx : (match st with
    | .ref _ :: r => some (.inl (zmGo pc o, L, r, x))
    | .null :: r => some (.inl (pc + 3, L, r, x))
    | _ => (none : Option zmR)) = some (.inl (pc', L', st', x')) := hx
  split at hx
  · cases hx; exact lv_ifnonnull C.1 C.2.1 hd (snGo h3) (kk ls H locs hI)
  · cases hx; exact lv_ifnonnullN C.1 C.2.1 hd (kk ls H locs hI)
  · cases hx
theorem snS_tableswitch {d lo hi : Int} {os : Array Int} (C : snCx od sz0 Ls oI oL D tyc p s m args meth c μ n0) (hd : decode (snB μ) pc = .ok (.tableswitch d lo hi os, len)) (h2 : snOk2 (snN μ).cls μ pc (.tableswitch d lo hi os, len, r5, iv, lv) = true) (hx : zmX (.tableswitch d lo hi os, len, r5, iv, lv) pc L st x = some (.inl (pc', L', st', x'))) (hI : snInv od sz0 Ls oI oL D tyc s H locs ls (snL μ) L x) (hn0 : n0 ≤ x.1.1) (hR : x'.1.1 - n0 ≤ R.cells ∧ snSum x'.1.1 - snSum n0 ≤ R.slots ∧ 64 ≤ R.locals ∧ 1 ≤ R.frames) (kk : ∀ (ls' : Array Slot) (H' : Heap) (locs' : List Loc), snInv od sz0 Ls oI oL D tyc s H' locs' ls' (snL μ) L' x' → W p l e R s m args below meth c H' locs' (x'.1.1 - n0) (snSum x'.1.1 - snSum n0) Q (F0 m pc' ls' (st'.map (snV od sz0)))) : W p l e R s m args below meth c H locs (x.1.1 - n0) (snSum x.1.1 - snSum n0) Q (F0 m pc ls (st.map (snV od sz0))) := by
  have h2 : (decide (0 ≤ (pc : Int) + d) && (os.toList.all (fun o => decide (0 ≤ (pc : Int) + o)) && decide ((os.toList.length : Int) = hi - lo + 1))) = true := h2
  obtain ⟨h2, h3⟩ := snB2 h2
  obtain ⟨h3, h4⟩ := snB2 h3
  have h4 := of_decide_eq_true h4
  have hx : p1i st (fun a r => some (.inl (zmTs pc d lo hi os a, L, r, x))) = some (.inl (pc', L', st', x')) := hx
  obtain ⟨a, r, rfl, hx⟩ := p1i_some hx
  cases hx
  have k1 := kk ls H locs hI
  by_cases hc : a.toInt < lo ∨ hi < a.toInt
  · refine lv_tableOut C.1 C.2.1 hd hc (snGo h2) ?_
    unfold zmTs at k1
    rw [if_pos hc] at k1
    exact k1
  · unfold zmTs at k1
    rw [if_neg hc] at k1
    have hlt : (a.toInt - lo).toNat < os.toList.length := by omega
    have hg : os[(a.toInt - lo).toNat]? = some (os.toList.getD (a.toInt - lo).toNat d) := by
      rw [← Array.getElem?_toList, List.getD_eq_getElem?_getD, List.getElem?_eq_getElem hlt]
      rfl
    have hm : os.toList.getD (a.toInt - lo).toNat d ∈ os.toList := by
      rw [List.getD_eq_getElem?_getD, List.getElem?_eq_getElem hlt]
      exact List.getElem_mem hlt
    exact lv_tableIn C.1 C.2.1 hd (fun q => hc (Or.inl q)) (fun q => hc (Or.inr q)) hg (snGo (List.all_eq_true.mp h3 _ hm)) k1
end SC
