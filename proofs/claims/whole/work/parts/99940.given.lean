/-! ===== the start: what the Statement gives of it (the names of the law, its end: from the given skeleton) ===== -/
/-! THE CLAIM OUT OF ONE WALK OF THE LAW'S BODY. Your part is whole_start (and what it stands on); all else here is the same for every law, but numbers. -/
def R_law : String := "RunForItLaw"
def lw_P (b : Addr) (xs : List Int32) (args : Array Value) (s : State) : Prop := args = #[.ref b] ∧ s.IntsAt b xs ∧ xs.length ≤ 4608 ∧ (Jvm.Cond.and given_1 narrow_1).before args s = true
def lw_Q (_ : Array Value) (s : State) (o : Outcome) (t : State) : Prop := o = .returned (some (.int 1)) ∧ Framed s o t [] 600000 7302250
def lw_Z (below : List Frame) (a : Array Value) (s : State) : State → Prop := fun t => ∃ o, t.status = .running ∧ Ended t below o ∧ lw_Q a s o t
/-- the law's own end, with 1 on the stack, nothing written that was there before, its room as the claim has it -/
theorem lw_ret {p : Program} {l : Launch} {e : Env} {s : State} {m : MethodId} {below : List Frame} {meth : Method} {c : Code} {b : Nat} (hx : p.tables.exec = Jvm.exec) (hb : c.code = code) (hr : meth.sig.returnType = ret) (hlocks : meth.locks = false) {pc : Nat} {H : Heap} {ls : Array Slot} (hdg : decode code pc = .ok (.ireturn, 1)) : W p l e room_1 s m #[Value.ref b] below meth c H [] 600000 7302250 (lw_Z below #[Value.ref b] s) (F0 m pc ls [.int 1]) := by
  intro T hT X
  obtain ⟨fs, hret, hrun, hended, hW, hframe⟩ := X.leave (v := some (.int 1)) (hlocks := hlocks) (fun h => by rw [hr] at h; cases h)
  have hmeth' : T.vm.method? m = some meth := X.method'
  refine ⟨T.setFrames fs, ?_, .returned (some (.int 1)), hrun, hended, rfl, ⟨_, rfl⟩, hW, hframe⟩
  jvm_step X.here [X.here.top, hx, hb, hdg, hmeth', hr, ret, narrow_b1]
  (try refine ⟨rfl, ?_⟩); (try refine ⟨rfl, ?_⟩)
  first | (intro acts; rw [hret _ acts rfl rfl rfl]) | rw [hret _ _ rfl rfl rfl]
  exact Steps.refl _
/-- what holds at the law's entry: the machine, the code, the tables' words (any of lw_tbl by 'hts w (by decide +kernel)'), the script of L ints xs at the cell b, what the Statement gives of the start (any of its parts by flat_of_before) -/
def lw_At (p : Program) (s : State) (m : MethodId) (meth : Method) (c : Code) (b L : Nat) (xs : Nat → Int32) : Prop :=
  p.tables.exec = Jvm.exec ∧ c.code = code ∧ meth.sig.returnType = ret ∧ c.maxLocals = 4 ∧ s.vm.findClass R_law = some m.cls ∧ (∀ w ∈ lw_tbl, w.before #[Value.ref b] s = true) ∧ va_X b L xs s s.heap ∧ b < s.heap.size ∧ meth.locks = false ∧ (Jvm.Cond.and given_1 narrow_1).before #[Value.ref b] s = true
def snBnd : List Int32 := [99, 9, 9, 10, 10, 99, 99, 99]
def snHun : List Int64 := [1, 100, 10000, 1000000, 100000000, 10000000000, 1000000000000, 100000000000000, 10000000000000000]
def snTen : List Int64 := [1, 10, 100, 1000, 10000, 100000, 1000000, 10000000, 100000000]
def snByt : List (List Int32) := [[], [102, 117, 119, 115], [121, 119, 98, 115, 103, 118, 109, 108], [116, 110, 100, 101, 122, 114, 112, 113, 107, 97], [97]]
def snLen : List Nat := [0, 4, 8, 10, 1]
def snTm : Nat → Jvm.Term
  | 0 => .string "RunForIt$Parser" 25
  | 1 => .string "RunForIt$Street" 34
  | 2 => .string "RunForIt" 133
  | 3 => .string "RunForIt$Parser" 103
  | _ => .string "RunForIt" 145
/-- what stands in the old cells: the script, the three tables, the strings' bytes -/
def snOI (xs : Nat → Int32) (k j : Nat) : Int32 := if k = 0 then xs j else if k = 1 then snBnd.getD j 0 else (snByt.getD (k - 9) []).getD j 0
def snOL (k j : Nat) : Int64 := if k = 2 then snHun.getD j 0 else snTen.getD j 0
/-- the abstract machine's start -/
def snX0 (L : Nat) (xs : Nat → Int32) : zmH := ((14, L), snOI xs, snOL, fun _ _ => none)
section SS
variable {p : Program} {e : Env} {s : State} {m : MethodId} {below : List Frame} {meth : Method} {c : Code} {b L : Nat} {xs : Nat → Int32}
theorem sn_BOUNDS (hs : ∀ w ∈ flatC (Jvm.Cond.and given_1 narrow_1), w.before #[Value.ref b] s = true) {A : Nat → Prop} (hA : ∀ a : Nat, a < s.heap.size → ¬ A a) : ∃ t : Nat, ((Jvm.Term.static "RunForIt" "BOUNDS" "[I")).eval #[Value.ref b] s none [] s = some (.ref t) ∧ va_T .int t 8 (fun j => .int (snBnd.getD j 0)) A s s.heap := by
  refine va_Tof (by decide) (hs (.arrayOf (Jvm.Term.static "RunForIt" "BOUNDS" "[I") .int) (by decide +kernel)) (va_eqt (hs (.eq (.length (Jvm.Term.static "RunForIt" "BOUNDS" "[I")) (.int 8)) (by decide +kernel))) (fun j hj => ?_) hA
  match j, hj with
  | 0, _ => exact va_eqt (hs (.eq (.elem (Jvm.Term.static "RunForIt" "BOUNDS" "[I") (.int 0)) (.int 99)) (by decide +kernel))
  | 1, _ => exact va_eqt (hs (.eq (.elem (Jvm.Term.static "RunForIt" "BOUNDS" "[I") (.int 1)) (.int 9)) (by decide +kernel))
  | 2, _ => exact va_eqt (hs (.eq (.elem (Jvm.Term.static "RunForIt" "BOUNDS" "[I") (.int 2)) (.int 9)) (by decide +kernel))
  | 3, _ => exact va_eqt (hs (.eq (.elem (Jvm.Term.static "RunForIt" "BOUNDS" "[I") (.int 3)) (.int 10)) (by decide +kernel))
  | 4, _ => exact va_eqt (hs (.eq (.elem (Jvm.Term.static "RunForIt" "BOUNDS" "[I") (.int 4)) (.int 10)) (by decide +kernel))
  | 5, _ => exact va_eqt (hs (.eq (.elem (Jvm.Term.static "RunForIt" "BOUNDS" "[I") (.int 5)) (.int 99)) (by decide +kernel))
  | 6, _ => exact va_eqt (hs (.eq (.elem (Jvm.Term.static "RunForIt" "BOUNDS" "[I") (.int 6)) (.int 99)) (by decide +kernel))
  | 7, _ => exact va_eqt (hs (.eq (.elem (Jvm.Term.static "RunForIt" "BOUNDS" "[I") (.int 7)) (.int 99)) (by decide +kernel))
  | j + 8, hj => omega
theorem sn_HUNDREDS (hs : ∀ w ∈ flatC (Jvm.Cond.and given_1 narrow_1), w.before #[Value.ref b] s = true) {A : Nat → Prop} (hA : ∀ a : Nat, a < s.heap.size → ¬ A a) : ∃ t : Nat, ((Jvm.Term.static "RunForIt" "HUNDREDS" "[J")).eval #[Value.ref b] s none [] s = some (.ref t) ∧ va_T .long t 9 (fun j => .long (snHun.getD j 0)) A s s.heap := by
  refine va_Tof (by decide) (hs (.arrayOf (Jvm.Term.static "RunForIt" "HUNDREDS" "[J") .long) (by decide +kernel)) (va_eqt (hs (.eq (.length (Jvm.Term.static "RunForIt" "HUNDREDS" "[J")) (.int 9)) (by decide +kernel))) (fun j hj => ?_) hA
  match j, hj with
  | 0, _ => exact va_eqtl (hs (.eq (.elem (Jvm.Term.static "RunForIt" "HUNDREDS" "[J") (.int 0)) (.long 1)) (by decide +kernel))
  | 1, _ => exact va_eqtl (hs (.eq (.elem (Jvm.Term.static "RunForIt" "HUNDREDS" "[J") (.int 1)) (.long 100)) (by decide +kernel))
  | 2, _ => exact va_eqtl (hs (.eq (.elem (Jvm.Term.static "RunForIt" "HUNDREDS" "[J") (.int 2)) (.long 10000)) (by decide +kernel))
  | 3, _ => exact va_eqtl (hs (.eq (.elem (Jvm.Term.static "RunForIt" "HUNDREDS" "[J") (.int 3)) (.long 1000000)) (by decide +kernel))
  | 4, _ => exact va_eqtl (hs (.eq (.elem (Jvm.Term.static "RunForIt" "HUNDREDS" "[J") (.int 4)) (.long 100000000)) (by decide +kernel))
  | 5, _ => exact va_eqtl (hs (.eq (.elem (Jvm.Term.static "RunForIt" "HUNDREDS" "[J") (.int 5)) (.long 10000000000)) (by decide +kernel))
  | 6, _ => exact va_eqtl (hs (.eq (.elem (Jvm.Term.static "RunForIt" "HUNDREDS" "[J") (.int 6)) (.long 1000000000000)) (by decide +kernel))
  | 7, _ => exact va_eqtl (hs (.eq (.elem (Jvm.Term.static "RunForIt" "HUNDREDS" "[J") (.int 7)) (.long 100000000000000)) (by decide +kernel))
  | 8, _ => exact va_eqtl (hs (.eq (.elem (Jvm.Term.static "RunForIt" "HUNDREDS" "[J") (.int 8)) (.long 10000000000000000)) (by decide +kernel))
  | j + 9, hj => omega
theorem sn_TENS (hs : ∀ w ∈ flatC (Jvm.Cond.and given_1 narrow_1), w.before #[Value.ref b] s = true) {A : Nat → Prop} (hA : ∀ a : Nat, a < s.heap.size → ¬ A a) : ∃ t : Nat, ((Jvm.Term.static "RunForIt" "TENS" "[J")).eval #[Value.ref b] s none [] s = some (.ref t) ∧ va_T .long t 9 (fun j => .long (snTen.getD j 0)) A s s.heap := by
  refine va_Tof (by decide) (hs (.arrayOf (Jvm.Term.static "RunForIt" "TENS" "[J") .long) (by decide +kernel)) (va_eqt (hs (.eq (.length (Jvm.Term.static "RunForIt" "TENS" "[J")) (.int 9)) (by decide +kernel))) (fun j hj => ?_) hA
  match j, hj with
  | 0, _ => exact va_eqtl (hs (.eq (.elem (Jvm.Term.static "RunForIt" "TENS" "[J") (.int 0)) (.long 1)) (by decide +kernel))
  | 1, _ => exact va_eqtl (hs (.eq (.elem (Jvm.Term.static "RunForIt" "TENS" "[J") (.int 1)) (.long 10)) (by decide +kernel))
  | 2, _ => exact va_eqtl (hs (.eq (.elem (Jvm.Term.static "RunForIt" "TENS" "[J") (.int 2)) (.long 100)) (by decide +kernel))
  | 3, _ => exact va_eqtl (hs (.eq (.elem (Jvm.Term.static "RunForIt" "TENS" "[J") (.int 3)) (.long 1000)) (by decide +kernel))
  | 4, _ => exact va_eqtl (hs (.eq (.elem (Jvm.Term.static "RunForIt" "TENS" "[J") (.int 4)) (.long 10000)) (by decide +kernel))
  | 5, _ => exact va_eqtl (hs (.eq (.elem (Jvm.Term.static "RunForIt" "TENS" "[J") (.int 5)) (.long 100000)) (by decide +kernel))
  | 6, _ => exact va_eqtl (hs (.eq (.elem (Jvm.Term.static "RunForIt" "TENS" "[J") (.int 6)) (.long 1000000)) (by decide +kernel))
  | 7, _ => exact va_eqtl (hs (.eq (.elem (Jvm.Term.static "RunForIt" "TENS" "[J") (.int 7)) (.long 10000000)) (by decide +kernel))
  | 8, _ => exact va_eqtl (hs (.eq (.elem (Jvm.Term.static "RunForIt" "TENS" "[J") (.int 8)) (.long 100000000)) (by decide +kernel))
  | j + 9, hj => omega
set_option maxHeartbeats 2000000 in
theorem sn_strs (hs : ∀ w ∈ flatC (Jvm.Cond.and given_1 narrow_1), w.before #[Value.ref b] s = true) {A : Nat → Prop} (hA : ∀ a : Nat, a < s.heap.size → ¬ A a) : ∃ adK adV : Nat → Nat, vk_S 5 snLen snByt adK adV A s s.heap ∧ ∀ i : Nat, i < 5 → (snTm i).eval #[Value.ref b] s none [] s = some (.ref (adK i)) := by
  refine vk_Sof (args := #[Value.ref b]) (tm := snTm) (fun i hi => ?_) (fun i hi => ?_) (fun i hi => ?_) (fun i hi => ?_) (fun i hi => ?_) (fun i hi j hj => ?_) (fun i j hi hj h => ?_) hA
  · match i, hi with
    | 0, _ => decide
    | 1, _ => decide
    | 2, _ => decide
    | 3, _ => decide
    | 4, _ => decide
    | i + 5, hi => omega
  · match i, hi with
    | 0, _ => exact hs (.exactly (Jvm.Term.string "RunForIt$Parser" 25) "java/lang/String") (by decide +kernel)
    | 1, _ => exact hs (.exactly (Jvm.Term.string "RunForIt$Street" 34) "java/lang/String") (by decide +kernel)
    | 2, _ => exact hs (.exactly (Jvm.Term.string "RunForIt" 133) "java/lang/String") (by decide +kernel)
    | 3, _ => exact hs (.exactly (Jvm.Term.string "RunForIt$Parser" 103) "java/lang/String") (by decide +kernel)
    | 4, _ => exact hs (.exactly (Jvm.Term.string "RunForIt" 145) "java/lang/String") (by decide +kernel)
    | i + 5, hi => omega
  · match i, hi with
    | 0, _ => exact hs (.eq (.field (Jvm.Term.string "RunForIt$Parser" 25) "java/lang/String" "coder" "B") (.int 0)) (by decide +kernel)
    | 1, _ => exact hs (.eq (.field (Jvm.Term.string "RunForIt$Street" 34) "java/lang/String" "coder" "B") (.int 0)) (by decide +kernel)
    | 2, _ => exact hs (.eq (.field (Jvm.Term.string "RunForIt" 133) "java/lang/String" "coder" "B") (.int 0)) (by decide +kernel)
    | 3, _ => exact hs (.eq (.field (Jvm.Term.string "RunForIt$Parser" 103) "java/lang/String" "coder" "B") (.int 0)) (by decide +kernel)
    | 4, _ => exact hs (.eq (.field (Jvm.Term.string "RunForIt" 145) "java/lang/String" "coder" "B") (.int 0)) (by decide +kernel)
    | i + 5, hi => omega
  · match i, hi with
    | 0, _ => exact hs (.arrayOf (.field (Jvm.Term.string "RunForIt$Parser" 25) "java/lang/String" "value" "[B") .byte) (by decide +kernel)
    | 1, _ => exact hs (.arrayOf (.field (Jvm.Term.string "RunForIt$Street" 34) "java/lang/String" "value" "[B") .byte) (by decide +kernel)
    | 2, _ => exact hs (.arrayOf (.field (Jvm.Term.string "RunForIt" 133) "java/lang/String" "value" "[B") .byte) (by decide +kernel)
    | 3, _ => exact hs (.arrayOf (.field (Jvm.Term.string "RunForIt$Parser" 103) "java/lang/String" "value" "[B") .byte) (by decide +kernel)
    | 4, _ => exact hs (.arrayOf (.field (Jvm.Term.string "RunForIt" 145) "java/lang/String" "value" "[B") .byte) (by decide +kernel)
    | i + 5, hi => omega
  · match i, hi with
    | 0, _ => exact hs (.eq (.length (.field (Jvm.Term.string "RunForIt$Parser" 25) "java/lang/String" "value" "[B")) (.int 0)) (by decide +kernel)
    | 1, _ => exact hs (.eq (.length (.field (Jvm.Term.string "RunForIt$Street" 34) "java/lang/String" "value" "[B")) (.int 4)) (by decide +kernel)
    | 2, _ => exact hs (.eq (.length (.field (Jvm.Term.string "RunForIt" 133) "java/lang/String" "value" "[B")) (.int 8)) (by decide +kernel)
    | 3, _ => exact hs (.eq (.length (.field (Jvm.Term.string "RunForIt$Parser" 103) "java/lang/String" "value" "[B")) (.int 10)) (by decide +kernel)
    | 4, _ => exact hs (.eq (.length (.field (Jvm.Term.string "RunForIt" 145) "java/lang/String" "value" "[B")) (.int 1)) (by decide +kernel)
    | i + 5, hi => omega
  · match i, hi with
    | 0, _ => (match j, hj with

      | j + 0, hj => exact absurd hj (by simp [snLen]))
    | 1, _ => (match j, hj with
      | 0, _ => exact hs (.eq (.elem (.field (Jvm.Term.string "RunForIt$Street" 34) "java/lang/String" "value" "[B") (.int 0)) (.int 102)) (by decide +kernel)
      | 1, _ => exact hs (.eq (.elem (.field (Jvm.Term.string "RunForIt$Street" 34) "java/lang/String" "value" "[B") (.int 1)) (.int 117)) (by decide +kernel)
      | 2, _ => exact hs (.eq (.elem (.field (Jvm.Term.string "RunForIt$Street" 34) "java/lang/String" "value" "[B") (.int 2)) (.int 119)) (by decide +kernel)
      | 3, _ => exact hs (.eq (.elem (.field (Jvm.Term.string "RunForIt$Street" 34) "java/lang/String" "value" "[B") (.int 3)) (.int 115)) (by decide +kernel)
      | j + 4, hj => exact absurd hj (by simp [snLen]))
    | 2, _ => (match j, hj with
      | 0, _ => exact hs (.eq (.elem (.field (Jvm.Term.string "RunForIt" 133) "java/lang/String" "value" "[B") (.int 0)) (.int 121)) (by decide +kernel)
      | 1, _ => exact hs (.eq (.elem (.field (Jvm.Term.string "RunForIt" 133) "java/lang/String" "value" "[B") (.int 1)) (.int 119)) (by decide +kernel)
      | 2, _ => exact hs (.eq (.elem (.field (Jvm.Term.string "RunForIt" 133) "java/lang/String" "value" "[B") (.int 2)) (.int 98)) (by decide +kernel)
      | 3, _ => exact hs (.eq (.elem (.field (Jvm.Term.string "RunForIt" 133) "java/lang/String" "value" "[B") (.int 3)) (.int 115)) (by decide +kernel)
      | 4, _ => exact hs (.eq (.elem (.field (Jvm.Term.string "RunForIt" 133) "java/lang/String" "value" "[B") (.int 4)) (.int 103)) (by decide +kernel)
      | 5, _ => exact hs (.eq (.elem (.field (Jvm.Term.string "RunForIt" 133) "java/lang/String" "value" "[B") (.int 5)) (.int 118)) (by decide +kernel)
      | 6, _ => exact hs (.eq (.elem (.field (Jvm.Term.string "RunForIt" 133) "java/lang/String" "value" "[B") (.int 6)) (.int 109)) (by decide +kernel)
      | 7, _ => exact hs (.eq (.elem (.field (Jvm.Term.string "RunForIt" 133) "java/lang/String" "value" "[B") (.int 7)) (.int 108)) (by decide +kernel)
      | j + 8, hj => exact absurd hj (by simp [snLen]))
    | 3, _ => (match j, hj with
      | 0, _ => exact hs (.eq (.elem (.field (Jvm.Term.string "RunForIt$Parser" 103) "java/lang/String" "value" "[B") (.int 0)) (.int 116)) (by decide +kernel)
      | 1, _ => exact hs (.eq (.elem (.field (Jvm.Term.string "RunForIt$Parser" 103) "java/lang/String" "value" "[B") (.int 1)) (.int 110)) (by decide +kernel)
      | 2, _ => exact hs (.eq (.elem (.field (Jvm.Term.string "RunForIt$Parser" 103) "java/lang/String" "value" "[B") (.int 2)) (.int 100)) (by decide +kernel)
      | 3, _ => exact hs (.eq (.elem (.field (Jvm.Term.string "RunForIt$Parser" 103) "java/lang/String" "value" "[B") (.int 3)) (.int 101)) (by decide +kernel)
      | 4, _ => exact hs (.eq (.elem (.field (Jvm.Term.string "RunForIt$Parser" 103) "java/lang/String" "value" "[B") (.int 4)) (.int 122)) (by decide +kernel)
      | 5, _ => exact hs (.eq (.elem (.field (Jvm.Term.string "RunForIt$Parser" 103) "java/lang/String" "value" "[B") (.int 5)) (.int 114)) (by decide +kernel)
      | 6, _ => exact hs (.eq (.elem (.field (Jvm.Term.string "RunForIt$Parser" 103) "java/lang/String" "value" "[B") (.int 6)) (.int 112)) (by decide +kernel)
      | 7, _ => exact hs (.eq (.elem (.field (Jvm.Term.string "RunForIt$Parser" 103) "java/lang/String" "value" "[B") (.int 7)) (.int 113)) (by decide +kernel)
      | 8, _ => exact hs (.eq (.elem (.field (Jvm.Term.string "RunForIt$Parser" 103) "java/lang/String" "value" "[B") (.int 8)) (.int 107)) (by decide +kernel)
      | 9, _ => exact hs (.eq (.elem (.field (Jvm.Term.string "RunForIt$Parser" 103) "java/lang/String" "value" "[B") (.int 9)) (.int 97)) (by decide +kernel)
      | j + 10, hj => exact absurd hj (by simp [snLen]))
    | 4, _ => (match j, hj with
      | 0, _ => exact hs (.eq (.elem (.field (Jvm.Term.string "RunForIt" 145) "java/lang/String" "value" "[B") (.int 0)) (.int 97)) (by decide +kernel)
      | j + 1, hj => exact absurd hj (by simp [snLen]))
    | i + 5, hi => omega
  · match i, j, hi, hj, h with
    | 0, 0, _, _, h => exact absurd rfl h
    | 0, 1, _, _, _ => exact Or.inl (hs (.not (.eq (Jvm.Term.string "RunForIt$Parser" 25) (Jvm.Term.string "RunForIt$Street" 34))) (by decide +kernel))
    | 0, 2, _, _, _ => exact Or.inl (hs (.not (.eq (Jvm.Term.string "RunForIt$Parser" 25) (Jvm.Term.string "RunForIt" 133))) (by decide +kernel))
    | 0, 3, _, _, _ => exact Or.inl (hs (.not (.eq (Jvm.Term.string "RunForIt$Parser" 25) (Jvm.Term.string "RunForIt$Parser" 103))) (by decide +kernel))
    | 0, 4, _, _, _ => exact Or.inl (hs (.not (.eq (Jvm.Term.string "RunForIt$Parser" 25) (Jvm.Term.string "RunForIt" 145))) (by decide +kernel))
    | 1, 0, _, _, _ => exact Or.inr (hs (.not (.eq (Jvm.Term.string "RunForIt$Parser" 25) (Jvm.Term.string "RunForIt$Street" 34))) (by decide +kernel))
    | 1, 1, _, _, h => exact absurd rfl h
    | 1, 2, _, _, _ => exact Or.inl (hs (.not (.eq (Jvm.Term.string "RunForIt$Street" 34) (Jvm.Term.string "RunForIt" 133))) (by decide +kernel))
    | 1, 3, _, _, _ => exact Or.inl (hs (.not (.eq (Jvm.Term.string "RunForIt$Street" 34) (Jvm.Term.string "RunForIt$Parser" 103))) (by decide +kernel))
    | 1, 4, _, _, _ => exact Or.inl (hs (.not (.eq (Jvm.Term.string "RunForIt$Street" 34) (Jvm.Term.string "RunForIt" 145))) (by decide +kernel))
    | 2, 0, _, _, _ => exact Or.inr (hs (.not (.eq (Jvm.Term.string "RunForIt$Parser" 25) (Jvm.Term.string "RunForIt" 133))) (by decide +kernel))
    | 2, 1, _, _, _ => exact Or.inr (hs (.not (.eq (Jvm.Term.string "RunForIt$Street" 34) (Jvm.Term.string "RunForIt" 133))) (by decide +kernel))
    | 2, 2, _, _, h => exact absurd rfl h
    | 2, 3, _, _, _ => exact Or.inl (hs (.not (.eq (Jvm.Term.string "RunForIt" 133) (Jvm.Term.string "RunForIt$Parser" 103))) (by decide +kernel))
    | 2, 4, _, _, _ => exact Or.inl (hs (.not (.eq (Jvm.Term.string "RunForIt" 133) (Jvm.Term.string "RunForIt" 145))) (by decide +kernel))
    | 3, 0, _, _, _ => exact Or.inr (hs (.not (.eq (Jvm.Term.string "RunForIt$Parser" 25) (Jvm.Term.string "RunForIt$Parser" 103))) (by decide +kernel))
    | 3, 1, _, _, _ => exact Or.inr (hs (.not (.eq (Jvm.Term.string "RunForIt$Street" 34) (Jvm.Term.string "RunForIt$Parser" 103))) (by decide +kernel))
    | 3, 2, _, _, _ => exact Or.inr (hs (.not (.eq (Jvm.Term.string "RunForIt" 133) (Jvm.Term.string "RunForIt$Parser" 103))) (by decide +kernel))
    | 3, 3, _, _, h => exact absurd rfl h
    | 3, 4, _, _, _ => exact Or.inl (hs (.not (.eq (Jvm.Term.string "RunForIt$Parser" 103) (Jvm.Term.string "RunForIt" 145))) (by decide +kernel))
    | 4, 0, _, _, _ => exact Or.inr (hs (.not (.eq (Jvm.Term.string "RunForIt$Parser" 25) (Jvm.Term.string "RunForIt" 145))) (by decide +kernel))
    | 4, 1, _, _, _ => exact Or.inr (hs (.not (.eq (Jvm.Term.string "RunForIt$Street" 34) (Jvm.Term.string "RunForIt" 145))) (by decide +kernel))
    | 4, 2, _, _, _ => exact Or.inr (hs (.not (.eq (Jvm.Term.string "RunForIt" 133) (Jvm.Term.string "RunForIt" 145))) (by decide +kernel))
    | 4, 3, _, _, _ => exact Or.inr (hs (.not (.eq (Jvm.Term.string "RunForIt$Parser" 103) (Jvm.Term.string "RunForIt" 145))) (by decide +kernel))
    | 4, 4, _, _, h => exact absurd rfl h
    | i + 5, _, hi, _, _ => omega
    | _, j + 5, _, hj, _ => omega
end SS
