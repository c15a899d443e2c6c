/-! ===== what an instruction may do: counts of cells, calls ===== -/
set_option maxHeartbeats 4000000 in
set_option maxRecDepth 20000 in
theorem zmX_le {i : zmI} {pc pc' : Nat} {L L' st st' : List Value} {x x' : zmH} (h : zmX i pc L st x = some (.inl (pc', L', st', x'))) : x.1.1 ≤ x'.1.1 := by
  obtain ⟨ins, len, r5, iv, lv⟩ := i
  cases ins <;> simp only [zmX, p1i, p2i, p1l, p2l, p1r, pix, zmLd1, zmLdl, zmLda] at h <;> (repeat' split at h) <;> first | (cases h; done) | (cases h; exact Nat.le_refl _) | (cases h; exact Nat.le_succ _) | (simp at h; done) | (simp at h; obtain ⟨-, -, -, rfl⟩ := h; exact Nat.le_refl _)
set_option maxHeartbeats 4000000 in
set_option maxRecDepth 20000 in
theorem zmX_call {ins : Instr} {len ra rb rc rd re pc ν : Nat} {iv : Int32} {lv : Int64} {L st as rest : List Value} {x : zmH} (h : zmX (ins, len, (ra, rb, rc, rd, re), iv, lv) pc L st x = some (.inr (.inr (ν, as, rest)))) :
    ν = rb ∧ zmLow rest = true ∧ zmFit rb as = true ∧ ((∃ k, ins = .invokestatic k ∧ ra = 0 ∧ as = (st.take rc).reverse ∧ rest = st.drop rc ∧ rc ≤ st.length) ∨ (∃ k b, ins = .invokevirtual k ∧ ra = 1 ∧ st.drop rc = .ref b :: rest ∧ as = .ref b :: (st.take rc).reverse ∧ zmRecv b rb x = true) ∨ (∃ k b, ins = .invokespecial k ∧ ra = 2 ∧ st.drop rc = .ref b :: rest ∧ as = .ref b :: (st.take rc).reverse ∧ zmRecv b rb x = true)) := by
  cases ins <;> simp only [zmX, p1i, p2i, p1l, p2l, p1r, pix, zmLd1, zmLdl, zmLda] at h <;> (repeat' split at h) <;> first | (cases h; done) | (simp at h; done) | skip
  all_goals first
    | (cases h; exact ⟨rfl, by simp_all, by simp_all, Or.inl ⟨_, rfl, rfl, rfl, rfl, by simp_all⟩⟩)
    | (cases h; exact ⟨rfl, by simp_all, by simp_all, Or.inr (Or.inl ⟨_, _, rfl, by simp_all, by assumption, rfl, by simp_all⟩)⟩)
    | (cases h; exact ⟨rfl, by simp_all, by simp_all, Or.inr (Or.inr ⟨_, _, rfl, rfl, by assumption, rfl, by simp_all⟩)⟩)
theorem zmRun_le : ∀ (k d μ pc : Nat) (L st : List Value) (x x' : zmH) (v : Option Value), zmRun k d μ pc L st x = some (v, x') → x.1.1 ≤ x'.1.1 := by
  intro k
  induction k with
  | zero => intro d μ pc L st x x' v h; cases h
  | succ k ih =>
    intro d μ pc L st x x' v h
    rw [zmRun_succ] at h
    cases hs : zmStep μ pc L st x with
    | none => rw [hs] at h; cases h
    | some t =>
      rw [hs] at h
      rcases t with ⟨pc1, L1, st1, x1⟩ | w | ⟨ν, as, rest⟩
      · have h1 : x.1.1 ≤ x1.1.1 := by
          unfold zmStep at hs
          cases hf : zmFetch μ pc with
          | none => rw [hf] at hs; cases hs
          | some i => rw [hf] at hs; exact zmX_le hs
        exact Nat.le_trans h1 (ih _ _ _ _ _ _ _ _ h)
      · cases h
        exact Nat.le_refl _
      · cases d with
        | zero => cases h
        | succ d =>
          simp only at h
          cases hc : zmRun k d ν 0 (zmIni ν as) [] x with
          | none => rw [hc] at h; cases h
          | some q =>
            obtain ⟨w, x1⟩ := q
            rw [hc] at h
            exact Nat.le_trans (ih _ _ _ _ _ _ _ _ hc) (ih _ _ _ _ _ _ _ _ h)
