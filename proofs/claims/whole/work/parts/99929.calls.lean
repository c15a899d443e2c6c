/-! ===== a whole run: the contract of every method ===== -/
set_option maxHeartbeats 4000000 in
set_option maxRecDepth 20000 in
theorem zmX_ret {ins : Instr} {len ra rb rc rd re pc : Nat} {iv : Int32} {lv : Int64} {L st : List Value} {x : zmH} {v : Option Value} (h : zmX (ins, len, (ra, rb, rc, rd, re), iv, lv) pc L st x = some (.inr (.inl v))) :
    (ins = .ireturn ∧ ∃ w, st = [.int w] ∧ v = some (.int w) ∧ (ra = 0 ∨ (ra = 1 ∧ (w = 0 ∨ w = 1)) ∨ (ra = 2 ∧ (w = 0 ∨ w = 1)))) ∨ (ins = .lreturn ∧ ∃ w, st = [.long w] ∧ v = some (.long w)) ∨ (ins = .areturn ∧ ((∃ w, st = [.ref w] ∧ v = some (.ref w)) ∨ (st = [.null] ∧ v = some .null))) ∨ (ins = .return_ ∧ st = [] ∧ v = none) := by
  cases ins <;> simp only [zmX, p1i, p2i, p1l, p2l, p1r, pix, zmLd1, zmLdl, zmLda] at h <;> (repeat' split at h) <;> first | (cases h; done) | (simp at h; done) | skip
  all_goals first
    | (cases h; exact Or.inl ⟨rfl, _, rfl, rfl, Or.inl rfl⟩)
    | (cases h; exact Or.inl ⟨rfl, _, rfl, rfl, Or.inr (Or.inl ⟨rfl, by assumption⟩)⟩)
    | (cases h; exact Or.inl ⟨rfl, _, rfl, rfl, Or.inr (Or.inr ⟨rfl, by assumption⟩)⟩)
    | (cases h; exact Or.inr (Or.inl ⟨rfl, _, rfl, rfl⟩))
    | (cases h; exact Or.inr (Or.inr (Or.inl ⟨rfl, Or.inl ⟨_, rfl, rfl⟩⟩)))
    | (cases h; exact Or.inr (Or.inr (Or.inl ⟨rfl, Or.inr ⟨rfl, rfl⟩⟩)))
    | (cases h; exact Or.inr (Or.inr (Or.inr ⟨rfl, rfl, rfl⟩)))
def snWsM (μ : Nat) : List Jvm.Cond := .code (snN μ) (snB μ) (snL μ) (snR μ) :: lw_tbl.filter goodWord
def snRm (d nc ns : Nat) : Room := { frames := d + 1, cells := nc, slots := ns, locals := 64 * (d + 1) }
def snPc (od : Nat → Nat) (sz0 Ls : Nat) (oI : Nat → Nat → Int32) (oL : Nat → Nat → Int64) (D : va_G) (tyc : Nat → ClassId) (as : List Value) (x : zmH) : Array Value → State → Prop := fun a U => a = (as.map (snV od sz0)).toArray ∧ U.heap.size = sz0 + (x.1.1 - 14) ∧ snEnv od sz0 Ls oI oL D tyc U ∧ va_P D vwCl (snWs od sz0 tyc x) U.heap ∧ snOld Ls oI oL x
def snQc (od : Nat → Nat) (sz0 Ls : Nat) (oI : Nat → Nat → Int32) (oL : Nat → Nat → Int64) (D : va_G) (tyc : Nat → ClassId) (v : Option Value) (x : zmH) : Array Value → State → Outcome → State → Prop := fun _ st o t => o = .returned (v.map (snV od sz0)) ∧ va_P D vwCl (snWs od sz0 tyc x) t.heap ∧ va_F (snA sz0) st t ∧ snOld Ls oI oL x
/-- the class of a method's receiver -/
def snOwnOk (ν : Nat) : Bool := (Nat.blt (zmAt 98 zmOwnT ν) 13 && decide ((snC (zmAt 98 zmOwnT ν)).1 = (snN ν).cls)) || (Nat.beq (zmAt 98 zmOwnT ν) 30 && decide ((snN ν).cls = "java/lang/String")) || Nat.beq (zmAt 98 zmOwnT ν) 98
section SM
variable {od : Nat → Nat} {sz0 Ls : Nat} {oI : Nat → Nat → Int32} {oL : Nat → Nat → Int64} {D : va_G} {tyc : Nat → ClassId} {l : Launch}
theorem snArgs_mem : ∀ (as : List Value) (k i : Nat) (v : Value), (zmArgs as)[i]? = some v → v ≠ zmJ → (k + i, snV od sz0 v) ∈ lv_args k (as.map (snV od sz0)) := by
  intro as
  induction as with
  | nil => intro k i v h _; cases h
  | cons w r ih =>
    intro k i v h hj
    have two : ∀ (u : Value), u.category = 2 → (u :: zmJ :: zmArgs r)[i]? = some v → (k + i, snV od sz0 v) ∈ lv_args k ((u :: r).map (snV od sz0)) := by
      intro u hu h
      show _ ∈ (k, snV od sz0 u) :: lv_args (if (snV od sz0 u).category = 2 then k + 2 else k + 1) (r.map (snV od sz0))
      rw [snV_cat, if_pos hu]
      cases i with
      | zero => cases h; exact List.mem_cons_self
      | succ i =>
        cases i with
        | zero => cases h; exact absurd rfl hj
        | succ i =>
          have := ih (k + 2) i v h hj
          rw [show k + (i + 1 + 1) = k + 2 + i by omega]
          exact List.mem_cons_of_mem _ this
    have one : ∀ (u : Value), ¬ u.category = 2 → (u :: zmArgs r)[i]? = some v → (k + i, snV od sz0 v) ∈ lv_args k ((u :: r).map (snV od sz0)) := by
      intro u hu h
      show _ ∈ (k, snV od sz0 u) :: lv_args (if (snV od sz0 u).category = 2 then k + 2 else k + 1) (r.map (snV od sz0))
      rw [snV_cat, if_neg hu]
      cases i with
      | zero => cases h; exact List.mem_cons_self
      | succ i =>
        have := ih (k + 1) i v h hj
        rw [show k + (i + 1) = k + 1 + i by omega]
        exact List.mem_cons_of_mem _ this
    cases w with
    | long a => exact two (.long a) rfl h
    | double a => exact two (.double a) rfl h
    | int a => exact one (.int a) (by simp [Value.category]) h
    | float a => exact one (.float a) (by simp [Value.category]) h
    | null => exact one .null (by simp [Value.category]) h
    | ref a => exact one (.ref a) (by simp [Value.category]) h
    | retAddr a => exact one (.retAddr a) (by simp [Value.category]) h
theorem snArgs_len : ∀ as : List Value, (lg_sl (as.map (snV od sz0))).length = (zmArgs as).length := by
  intro as
  induction as with
  | nil => rfl
  | cons w r ih =>
    have e : lg_sl ((w :: r).map (snV od sz0)) = (if (snV od sz0 w).category = 2 then [.val (snV od sz0 w), .second] else [.val (snV od sz0 w)]) ++ lg_sl (r.map (snV od sz0)) := by
      simp [lg_sl]
    rw [e, List.length_append, ih, snV_cat]
    cases w <;> simp [zmArgs, Value.category] <;> omega
theorem snIni_loc {ν : Nat} {as : List Value} (hf : zmFit ν as = true) : snLoc od sz0 ((lg_sl (as.map (snV od sz0)) ++ List.replicate (snL ν - (lg_sl (as.map (snV od sz0))).length) Slot.unset).toArray) (snL ν) (zmIni ν as) := by
  have hle : (zmArgs as).length ≤ snL ν := Nat.le_of_ble_eq_true hf
  have h := lv_entry (as.map (snV od sz0)) (n := snL ν) (by rw [snArgs_len]; exact hle)
  refine ⟨h.1, h.2.1, fun i v hv hj => ?_⟩
  unfold zmIni zmPad at hv
  by_cases hi : i < (zmArgs as).length
  · rw [List.getElem?_append_left hi] at hv
    have h2 := snArgs_mem (od := od) (sz0 := sz0) as 0 i v hv hj
    rw [Nat.zero_add] at h2
    exact h.2.2 _ h2
  · rw [List.getElem?_append_right (by omega)] at hv
    obtain ⟨hl, he⟩ := List.getElem?_eq_some_iff.mp hv
    rw [List.getElem_replicate] at he
    exact absurd he.symm hj
theorem snCode_good (ν : Nat) : goodWord (.code (snN ν) (snB ν) (snL ν) (snR ν)) = true := rfl
theorem snGoodM (ν : Nat) : GoodIn (snWsM ν) (snWsM ν) := by
  intro w hw
  refine ⟨hw, ?_⟩
  rcases List.mem_cons.mp hw with rfl | h
  · exact good_of_word (snCode_good ν)
  · exact good_of_word (List.mem_filter.mp h).2
theorem snBlind {as : List Value} {x : zmH} : FrameBlind (snPc od sz0 Ls oI oL D tyc as x) := fun a U g mk q => ⟨q.1, q.2.1, snEnv_same (u := U) (U := U.calling g mk a) rfl rfl q.2.2.1, q.2.2.2.1, q.2.2.2.2⟩
end SM
