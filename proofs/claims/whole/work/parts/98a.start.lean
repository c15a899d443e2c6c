/-! ===== both constructors, and the law up to its loop ===== -/
def nwI (c : Nat) (a : Nat → Nat → Int32) : Nat → Nat → Int32 := fun k j => if k = c then 0 else a k j
def nwL (c : Nat) (b : Nat → Nat → Int64) : Nat → Nat → Int64 := fun k j => if k = c then 0 else b k j
def nwR (c : Nat) (r : Nat → Nat → Option Nat) : Nat → Nat → Option Nat := fun k j => if k = c then none else r k j
theorem Den_anew {d μ pc c n : Nat} {L st : List Value} {v : Int32} {a : Nat → Nat → Int32} {b : Nat → Nat → Int64} {r : Nat → Nat → Option Nat} (hh : zmOne (zmFetch μ pc) (zmr (.anewarray 54) 3 10 0 0 262 0) = true) (hv : v = Int32.ofNat (zmLay c).2) (hk : (zmLay c).1 = 24) : Den d μ pc L (.int v :: st) ((c, n), a, b, r) = Den d μ (pc + 3) L (.ref c :: st) ((c + 1, n), nwI c a, nwL c b, nwR c r) := by
  apply Den_next
  rw [zmStep_of hh]
  show (if v = Int32.ofNat (zmLay c).2 ∧ (zmLay c).1 = 24 then _ else none) = _
  rw [if_pos ⟨hv, hk⟩]
  rfl
theorem Den_new (i : zmI) {d μ pc c n : Nat} {L st : List Value} {a : Nat → Nat → Int32} {b : Nat → Nat → Int64} {r : Nat → Nat → Option Nat} (hh : zmOne (zmFetch μ pc) i = true) (hk : (zmLay c).1 = i.2.2.1.1) (hs : zmX i pc L st ((c, n), a, b, r) = if (zmLay c).1 = i.2.2.1.1 then some (.inl (pc + i.2.1, L, .ref c :: st, ((c + 1, n), nwI c a, nwL c b, nwR c r))) else none) : Den d μ pc L st ((c, n), a, b, r) = Den d μ (pc + i.2.1) L (.ref c :: st) ((c + 1, n), nwI c a, nwL c b, nwR c r) := by
  apply Den_next
  rw [zmStep_of hh, hs, if_pos hk]
theorem Den_nw_int {d μ pc c n : Nat} {L st : List Value} {v : Int32} {a : Nat → Nat → Int32} {b : Nat → Nat → Int64} {r : Nat → Nat → Option Nat} (hh : zmOne (zmFetch μ pc) (zm0 (.newarray .int) 2) = true) (hv : v = Int32.ofNat (zmLay c).2) (hk : (zmLay c).1 = 20) : Den d μ pc L (.int v :: st) ((c, n), a, b, r) = Den d μ (pc + 2) L (.ref c :: st) ((c + 1, n), nwI c a, nwL c b, nwR c r) := by
  apply Den_next
  rw [zmStep_of hh]
  show (if v = Int32.ofNat (zmLay c).2 then _ else none) = _
  rw [if_pos hv]
  simp only [hk]
  rfl
theorem Den_nw_long {d μ pc c n : Nat} {L st : List Value} {v : Int32} {a : Nat → Nat → Int32} {b : Nat → Nat → Int64} {r : Nat → Nat → Option Nat} (hh : zmOne (zmFetch μ pc) (zm0 (.newarray .long) 2) = true) (hv : v = Int32.ofNat (zmLay c).2) (hk : (zmLay c).1 = 21) : Den d μ pc L (.int v :: st) ((c, n), a, b, r) = Den d μ (pc + 2) L (.ref c :: st) ((c + 1, n), nwI c a, nwL c b, nwR c r) := by
  apply Den_next
  rw [zmStep_of hh]
  show (if v = Int32.ofNat (zmLay c).2 then _ else none) = _
  rw [if_pos hv]
  simp only [hk]
  rfl
theorem Den_nw_byte {d μ pc c n : Nat} {L st : List Value} {v : Int32} {a : Nat → Nat → Int32} {b : Nat → Nat → Int64} {r : Nat → Nat → Option Nat} (hh : zmOne (zmFetch μ pc) (zm0 (.newarray .byte) 2) = true) (hv : v = Int32.ofNat (zmLay c).2) (hk : (zmLay c).1 = 22) : Den d μ pc L (.int v :: st) ((c, n), a, b, r) = Den d μ (pc + 2) L (.ref c :: st) ((c + 1, n), nwI c a, nwL c b, nwR c r) := by
  apply Den_next
  rw [zmStep_of hh]
  show (if v = Int32.ofNat (zmLay c).2 then _ else none) = _
  rw [if_pos hv]
  simp only [hk]
  rfl
theorem Den_nw_boolean {d μ pc c n : Nat} {L st : List Value} {v : Int32} {a : Nat → Nat → Int32} {b : Nat → Nat → Int64} {r : Nat → Nat → Option Nat} (hh : zmOne (zmFetch μ pc) (zm0 (.newarray .boolean) 2) = true) (hv : v = Int32.ofNat (zmLay c).2) (hk : (zmLay c).1 = 23) : Den d μ pc L (.int v :: st) ((c, n), a, b, r) = Den d μ (pc + 2) L (.ref c :: st) ((c + 1, n), nwI c a, nwL c b, nwR c r) := by
  apply Den_next
  rw [zmStep_of hh]
  show (if v = Int32.ofNat (zmLay c).2 then _ else none) = _
  rw [if_pos hv]
  simp only [hk]
  rfl
def iA_66_17 (a : Nat → Nat → Int32) : Nat → Nat → Int32 := (nwI 19 (nwI 18 (nwI 17 (uI (uI a 16 0 (iN 6)) 16 1 (iN 1)))))
def iB_66_17 (b : Nat → Nat → Int64) : Nat → Nat → Int64 := (nwL 19 (nwL 18 (nwL 17 b)))
def iR_66_17 (r : Nat → Nat → Option Nat) : Nat → Nat → Option Nat := (uR (nwR 19 (uR (nwR 18 (uR (nwR 17 r) 16 2 (some 17))) 16 3 (some 18))) 16 4 (some 19))
theorem iw_66_17 {d n : Nat} {a : Nat → Nat → Int32} {b : Nat → Nat → Int64} {r : Nat → Nat → Option Nat} : Den d 66 0 [.ref 16] [] ((17, n), a, b, r) = some (none, ((20, n), iA_66_17 a, iB_66_17 b, iR_66_17 r)) := by
  have s0 : ∀ (a : Nat → Nat → Int32) (b : Nat → Nat → Int64) (r : Nat → Nat → Option Nat), Den d 66 0 [.ref 16] [] ((17, n), a, b, r) = Den d 66 18 [.ref 16] [.int (iN 30), .ref 16] ((17, n), (uI (uI a 16 0 (iN 6)) 16 1 (iN 1)), b, r) := fun a b r => Den_blk [zm0 (.aload_n 0) 1, zmr (.invokespecial 3) 3 3 0 0 126 0, zm0 (.aload_n 0) 1, zmi (.bipush 6) 2 6, zmr (.putfield 9) 3 8 0 0 127 0, zm0 (.aload_n 0) 1, zmi (.iconst 1) 1 1, zmr (.putfield 15) 3 8 1 0 131 0, zm0 (.aload_n 0) 1, zmi (.bipush 30) 2 30] (by decide +kernel) rfl
  have s1 : ∀ (a : Nat → Nat → Int32) (b : Nat → Nat → Int64) (r : Nat → Nat → Option Nat), Den d 66 18 [.ref 16] [.int (iN 30), .ref 16] ((17, n), a, b, r) = Den d 66 20 [.ref 16] [.ref 17, .ref 16] ((18, n), nwI 17 a, nwL 17 b, nwR 17 r) := fun a b r => Den_nw_int (by decide +kernel) (by decide +kernel) (by decide +kernel)
  have s2 : ∀ (a : Nat → Nat → Int32) (b : Nat → Nat → Int64) (r : Nat → Nat → Option Nat), Den d 66 20 [.ref 16] [.ref 17, .ref 16] ((18, n), a, b, r) = Den d 66 26 [.ref 16] [.int (iN 40), .ref 16] ((18, n), a, b, (uR r 16 2 (some 17))) := fun a b r => Den_blk [zmr (.putfield 18) 3 8 2 2 133 0, zm0 (.aload_n 0) 1, zmi (.bipush 40) 2 40] (by decide +kernel) rfl
  have s3 : ∀ (a : Nat → Nat → Int32) (b : Nat → Nat → Int64) (r : Nat → Nat → Option Nat), Den d 66 26 [.ref 16] [.int (iN 40), .ref 16] ((18, n), a, b, r) = Den d 66 28 [.ref 16] [.ref 18, .ref 16] ((19, n), nwI 18 a, nwL 18 b, nwR 18 r) := fun a b r => Den_nw_int (by decide +kernel) (by decide +kernel) (by decide +kernel)
  have s4 : ∀ (a : Nat → Nat → Int32) (b : Nat → Nat → Int64) (r : Nat → Nat → Option Nat), Den d 66 28 [.ref 16] [.ref 18, .ref 16] ((19, n), a, b, r) = Den d 66 33 [.ref 16] [.int (iN 4), .ref 16] ((19, n), a, b, (uR r 16 3 (some 18))) := fun a b r => Den_blk [zmr (.putfield 22) 3 8 3 2 134 0, zm0 (.aload_n 0) 1, zmi (.iconst 4) 1 4] (by decide +kernel) rfl
  have s5 : ∀ (a : Nat → Nat → Int32) (b : Nat → Nat → Int64) (r : Nat → Nat → Option Nat), Den d 66 33 [.ref 16] [.int (iN 4), .ref 16] ((19, n), a, b, r) = Den d 66 35 [.ref 16] [.ref 19, .ref 16] ((20, n), nwI 19 a, nwL 19 b, nwR 19 r) := fun a b r => Den_nw_int (by decide +kernel) (by decide +kernel) (by decide +kernel)
  have s6 : ∀ (a : Nat → Nat → Int32) (b : Nat → Nat → Int64) (r : Nat → Nat → Option Nat), Den d 66 35 [.ref 16] [.ref 19, .ref 16] ((20, n), a, b, r) = Den d 66 38 [.ref 16] [] ((20, n), a, b, (uR r 16 4 (some 19))) := fun a b r => Den_blk [zmr (.putfield 25) 3 8 4 2 135 0] (by decide +kernel) rfl
  rw [s0]
  rw [s1]
  rw [s2]
  rw [s3]
  rw [s4]
  rw [s5]
  rw [s6]
  exact Den_retE (zm0 (.return_) 1) (by decide +kernel) rfl
def iA_66_21 (a : Nat → Nat → Int32) : Nat → Nat → Int32 := (nwI 23 (nwI 22 (nwI 21 (uI (uI a 20 0 (iN 6)) 20 1 (iN 1)))))
def iB_66_21 (b : Nat → Nat → Int64) : Nat → Nat → Int64 := (nwL 23 (nwL 22 (nwL 21 b)))
def iR_66_21 (r : Nat → Nat → Option Nat) : Nat → Nat → Option Nat := (uR (nwR 23 (uR (nwR 22 (uR (nwR 21 r) 20 2 (some 21))) 20 3 (some 22))) 20 4 (some 23))
theorem iw_66_21 {d n : Nat} {a : Nat → Nat → Int32} {b : Nat → Nat → Int64} {r : Nat → Nat → Option Nat} : Den d 66 0 [.ref 20] [] ((21, n), a, b, r) = some (none, ((24, n), iA_66_21 a, iB_66_21 b, iR_66_21 r)) := by
  have s0 : ∀ (a : Nat → Nat → Int32) (b : Nat → Nat → Int64) (r : Nat → Nat → Option Nat), Den d 66 0 [.ref 20] [] ((21, n), a, b, r) = Den d 66 18 [.ref 20] [.int (iN 30), .ref 20] ((21, n), (uI (uI a 20 0 (iN 6)) 20 1 (iN 1)), b, r) := fun a b r => Den_blk [zm0 (.aload_n 0) 1, zmr (.invokespecial 3) 3 3 0 0 126 0, zm0 (.aload_n 0) 1, zmi (.bipush 6) 2 6, zmr (.putfield 9) 3 8 0 0 127 0, zm0 (.aload_n 0) 1, zmi (.iconst 1) 1 1, zmr (.putfield 15) 3 8 1 0 131 0, zm0 (.aload_n 0) 1, zmi (.bipush 30) 2 30] (by decide +kernel) rfl
  have s1 : ∀ (a : Nat → Nat → Int32) (b : Nat → Nat → Int64) (r : Nat → Nat → Option Nat), Den d 66 18 [.ref 20] [.int (iN 30), .ref 20] ((21, n), a, b, r) = Den d 66 20 [.ref 20] [.ref 21, .ref 20] ((22, n), nwI 21 a, nwL 21 b, nwR 21 r) := fun a b r => Den_nw_int (by decide +kernel) (by decide +kernel) (by decide +kernel)
  have s2 : ∀ (a : Nat → Nat → Int32) (b : Nat → Nat → Int64) (r : Nat → Nat → Option Nat), Den d 66 20 [.ref 20] [.ref 21, .ref 20] ((22, n), a, b, r) = Den d 66 26 [.ref 20] [.int (iN 40), .ref 20] ((22, n), a, b, (uR r 20 2 (some 21))) := fun a b r => Den_blk [zmr (.putfield 18) 3 8 2 2 133 0, zm0 (.aload_n 0) 1, zmi (.bipush 40) 2 40] (by decide +kernel) rfl
  have s3 : ∀ (a : Nat → Nat → Int32) (b : Nat → Nat → Int64) (r : Nat → Nat → Option Nat), Den d 66 26 [.ref 20] [.int (iN 40), .ref 20] ((22, n), a, b, r) = Den d 66 28 [.ref 20] [.ref 22, .ref 20] ((23, n), nwI 22 a, nwL 22 b, nwR 22 r) := fun a b r => Den_nw_int (by decide +kernel) (by decide +kernel) (by decide +kernel)
  have s4 : ∀ (a : Nat → Nat → Int32) (b : Nat → Nat → Int64) (r : Nat → Nat → Option Nat), Den d 66 28 [.ref 20] [.ref 22, .ref 20] ((23, n), a, b, r) = Den d 66 33 [.ref 20] [.int (iN 4), .ref 20] ((23, n), a, b, (uR r 20 3 (some 22))) := fun a b r => Den_blk [zmr (.putfield 22) 3 8 3 2 134 0, zm0 (.aload_n 0) 1, zmi (.iconst 4) 1 4] (by decide +kernel) rfl
  have s5 : ∀ (a : Nat → Nat → Int32) (b : Nat → Nat → Int64) (r : Nat → Nat → Option Nat), Den d 66 33 [.ref 20] [.int (iN 4), .ref 20] ((23, n), a, b, r) = Den d 66 35 [.ref 20] [.ref 23, .ref 20] ((24, n), nwI 23 a, nwL 23 b, nwR 23 r) := fun a b r => Den_nw_int (by decide +kernel) (by decide +kernel) (by decide +kernel)
  have s6 : ∀ (a : Nat → Nat → Int32) (b : Nat → Nat → Int64) (r : Nat → Nat → Option Nat), Den d 66 35 [.ref 20] [.ref 23, .ref 20] ((24, n), a, b, r) = Den d 66 38 [.ref 20] [] ((24, n), a, b, (uR r 20 4 (some 23))) := fun a b r => Den_blk [zmr (.putfield 25) 3 8 4 2 135 0] (by decide +kernel) rfl
  rw [s0]
  rw [s1]
  rw [s2]
  rw [s3]
  rw [s4]
  rw [s5]
  rw [s6]
  exact Den_retE (zm0 (.return_) 1) (by decide +kernel) rfl
def iA_77_25 (a : Nat → Nat → Int32) : Nat → Nat → Int32 := (nwI 26 (nwI 25 (uI a 24 0 (iN 0))))
def iB_77_25 (b : Nat → Nat → Int64) : Nat → Nat → Int64 := (nwL 26 (nwL 25 b))
def iR_77_25 (r : Nat → Nat → Option Nat) : Nat → Nat → Option Nat := (uR (nwR 26 (uR (nwR 25 r) 24 1 (some 25))) 24 2 (some 26))
theorem iw_77_25 {d n : Nat} {a : Nat → Nat → Int32} {b : Nat → Nat → Int64} {r : Nat → Nat → Option Nat} : Den d 77 0 [.ref 24] [] ((25, n), a, b, r) = some (none, ((27, n), iA_77_25 a, iB_77_25 b, iR_77_25 r)) := by
  have s0 : ∀ (a : Nat → Nat → Int32) (b : Nat → Nat → Int64) (r : Nat → Nat → Option Nat), Den d 77 0 [.ref 24] [] ((25, n), a, b, r) = Den d 77 12 [.ref 24] [.int (iN 121), .ref 24] ((25, n), (uI a 24 0 (iN 0)), b, r) := fun a b r => Den_blk [zm0 (.aload_n 0) 1, zmr (.invokespecial 3) 3 3 0 0 154 0, zm0 (.aload_n 0) 1, zmi (.iconst 0) 1 0, zmr (.putfield 9) 3 9 0 0 155 0, zm0 (.aload_n 0) 1, zmi (.bipush 121) 2 121] (by decide +kernel) rfl
  have s1 : ∀ (a : Nat → Nat → Int32) (b : Nat → Nat → Int64) (r : Nat → Nat → Option Nat), Den d 77 12 [.ref 24] [.int (iN 121), .ref 24] ((25, n), a, b, r) = Den d 77 14 [.ref 24] [.ref 25, .ref 24] ((26, n), nwI 25 a, nwL 25 b, nwR 25 r) := fun a b r => Den_nw_int (by decide +kernel) (by decide +kernel) (by decide +kernel)
  have s2 : ∀ (a : Nat → Nat → Int32) (b : Nat → Nat → Int64) (r : Nat → Nat → Option Nat), Den d 77 14 [.ref 24] [.ref 25, .ref 24] ((26, n), a, b, r) = Den d 77 20 [.ref 24] [.int (iN 120), .ref 24] ((26, n), a, b, (uR r 24 1 (some 25))) := fun a b r => Den_blk [zmr (.putfield 15) 3 9 1 2 157 0, zm0 (.aload_n 0) 1, zmi (.bipush 120) 2 120] (by decide +kernel) rfl
  have s3 : ∀ (a : Nat → Nat → Int32) (b : Nat → Nat → Int64) (r : Nat → Nat → Option Nat), Den d 77 20 [.ref 24] [.int (iN 120), .ref 24] ((26, n), a, b, r) = Den d 77 22 [.ref 24] [.ref 26, .ref 24] ((27, n), nwI 26 a, nwL 26 b, nwR 26 r) := fun a b r => Den_nw_int (by decide +kernel) (by decide +kernel) (by decide +kernel)
  have s4 : ∀ (a : Nat → Nat → Int32) (b : Nat → Nat → Int64) (r : Nat → Nat → Option Nat), Den d 77 22 [.ref 24] [.ref 26, .ref 24] ((27, n), a, b, r) = Den d 77 25 [.ref 24] [] ((27, n), a, b, (uR r 24 2 (some 26))) := fun a b r => Den_blk [zmr (.putfield 19) 3 9 2 2 160 0] (by decide +kernel) rfl
  rw [s0]
  rw [s1]
  rw [s2]
  rw [s3]
  rw [s4]
  exact Den_retE (zm0 (.return_) 1) (by decide +kernel) rfl
def iA_52_28 (a : Nat → Nat → Int32) : Nat → Nat → Int32 := (nwI 28 (uI (uI a 27 0 (iN 0)) 27 1 (iN 0)))
def iB_52_28 (b : Nat → Nat → Int64) : Nat → Nat → Int64 := (nwL 28 b)
def iR_52_28 (r : Nat → Nat → Option Nat) : Nat → Nat → Option Nat := (uR (nwR 28 r) 27 2 (some 28))
theorem iw_52_28 {d n : Nat} {a : Nat → Nat → Int32} {b : Nat → Nat → Int64} {r : Nat → Nat → Option Nat} : Den d 52 0 [.ref 27] [] ((28, n), a, b, r) = some (none, ((29, n), iA_52_28 a, iB_52_28 b, iR_52_28 r)) := by
  have s0 : ∀ (a : Nat → Nat → Int32) (b : Nat → Nat → Int64) (r : Nat → Nat → Option Nat), Den d 52 0 [.ref 27] [] ((28, n), a, b, r) = Den d 52 17 [.ref 27] [.int (iN 100), .ref 27] ((28, n), (uI (uI a 27 0 (iN 0)) 27 1 (iN 0)), b, r) := fun a b r => Den_blk [zm0 (.aload_n 0) 1, zmr (.invokespecial 1) 3 3 0 0 173 0, zm0 (.aload_n 0) 1, zmi (.iconst 0) 1 0, zmr (.putfield 7) 3 6 0 0 174 0, zm0 (.aload_n 0) 1, zmi (.iconst 0) 1 0, zmr (.putfield 13) 3 6 1 0 176 0, zm0 (.aload_n 0) 1, zmi (.bipush 100) 2 100] (by decide +kernel) rfl
  have s1 : ∀ (a : Nat → Nat → Int32) (b : Nat → Nat → Int64) (r : Nat → Nat → Option Nat), Den d 52 17 [.ref 27] [.int (iN 100), .ref 27] ((28, n), a, b, r) = Den d 52 19 [.ref 27] [.ref 28, .ref 27] ((29, n), nwI 28 a, nwL 28 b, nwR 28 r) := fun a b r => Den_nw_int (by decide +kernel) (by decide +kernel) (by decide +kernel)
  have s2 : ∀ (a : Nat → Nat → Int32) (b : Nat → Nat → Int64) (r : Nat → Nat → Option Nat), Den d 52 19 [.ref 27] [.ref 28, .ref 27] ((29, n), a, b, r) = Den d 52 22 [.ref 27] [] ((29, n), a, b, (uR r 27 2 (some 28))) := fun a b r => Den_blk [zmr (.putfield 16) 3 6 2 2 179 0] (by decide +kernel) rfl
  rw [s0]
  rw [s1]
  rw [s2]
  exact Den_retE (zm0 (.return_) 1) (by decide +kernel) rfl
def iA_82_32 (a : Nat → Nat → Int32) : Nat → Nat → Int32 := (nwI 36 (nwI 35 (nwI 34 (nwI 33 (nwI 32 (uI (uI (uI a 31 0 (iN 0)) 31 1 (iN 0)) 31 2 (iN 0)))))))
def iB_82_32 (b : Nat → Nat → Int64) : Nat → Nat → Int64 := (nwL 36 (nwL 35 (nwL 34 (nwL 33 (nwL 32 b)))))
def iR_82_32 (r : Nat → Nat → Option Nat) : Nat → Nat → Option Nat := (uR (nwR 36 (uR (nwR 35 (uR (nwR 34 (uR (nwR 33 (uR (nwR 32 r) 31 3 (some 32))) 31 4 (some 33))) 31 5 (some 34))) 31 6 (some 35))) 31 7 (some 36))
theorem iw_82_32 {d n : Nat} {a : Nat → Nat → Int32} {b : Nat → Nat → Int64} {r : Nat → Nat → Option Nat} : Den d 82 0 [.ref 31] [] ((32, n), a, b, r) = some (none, ((37, n), iA_82_32 a, iB_82_32 b, iR_82_32 r)) := by
  have s0 : ∀ (a : Nat → Nat → Int32) (b : Nat → Nat → Int64) (r : Nat → Nat → Option Nat), Den d 82 0 [.ref 31] [] ((32, n), a, b, r) = Den d 82 23 [.ref 31] [.int (iN 480), .ref 31] ((32, n), (uI (uI (uI a 31 0 (iN 0)) 31 1 (iN 0)) 31 2 (iN 0)), b, r) := fun a b r => Den_blk [zm0 (.aload_n 0) 1, zmr (.invokespecial 3) 3 3 0 0 200 0, zm0 (.aload_n 0) 1, zmi (.iconst 0) 1 0, zmr (.putfield 9) 3 10 0 0 201 0, zm0 (.aload_n 0) 1, zmi (.iconst 0) 1 0, zmr (.putfield 15) 3 10 1 0 205 0, zm0 (.aload_n 0) 1, zmi (.iconst 0) 1 0, zmr (.putfield 18) 3 10 2 0 207 0, zm0 (.aload_n 0) 1, zmi (.sipush 480) 3 480] (by decide +kernel) rfl
  have s1 : ∀ (a : Nat → Nat → Int32) (b : Nat → Nat → Int64) (r : Nat → Nat → Option Nat), Den d 82 23 [.ref 31] [.int (iN 480), .ref 31] ((32, n), a, b, r) = Den d 82 25 [.ref 31] [.ref 32, .ref 31] ((33, n), nwI 32 a, nwL 32 b, nwR 32 r) := fun a b r => Den_nw_int (by decide +kernel) (by decide +kernel) (by decide +kernel)
  have s2 : ∀ (a : Nat → Nat → Int32) (b : Nat → Nat → Int64) (r : Nat → Nat → Option Nat), Den d 82 25 [.ref 31] [.ref 32, .ref 31] ((33, n), a, b, r) = Den d 82 31 [.ref 31] [.int (iN 16), .ref 31] ((33, n), a, b, (uR r 31 3 (some 32))) := fun a b r => Den_blk [zmr (.putfield 21) 3 10 3 2 208 0, zm0 (.aload_n 0) 1, zmi (.bipush 16) 2 16] (by decide +kernel) rfl
  have s3 : ∀ (a : Nat → Nat → Int32) (b : Nat → Nat → Int64) (r : Nat → Nat → Option Nat), Den d 82 31 [.ref 31] [.int (iN 16), .ref 31] ((33, n), a, b, r) = Den d 82 33 [.ref 31] [.ref 33, .ref 31] ((34, n), nwI 33 a, nwL 33 b, nwR 33 r) := fun a b r => Den_nw_int (by decide +kernel) (by decide +kernel) (by decide +kernel)
  have s4 : ∀ (a : Nat → Nat → Int32) (b : Nat → Nat → Int64) (r : Nat → Nat → Option Nat), Den d 82 33 [.ref 31] [.ref 33, .ref 31] ((34, n), a, b, r) = Den d 82 39 [.ref 31] [.int (iN 16), .ref 31] ((34, n), a, b, (uR r 31 4 (some 33))) := fun a b r => Den_blk [zmr (.putfield 25) 3 10 4 2 209 0, zm0 (.aload_n 0) 1, zmi (.bipush 16) 2 16] (by decide +kernel) rfl
  have s5 : ∀ (a : Nat → Nat → Int32) (b : Nat → Nat → Int64) (r : Nat → Nat → Option Nat), Den d 82 39 [.ref 31] [.int (iN 16), .ref 31] ((34, n), a, b, r) = Den d 82 41 [.ref 31] [.ref 34, .ref 31] ((35, n), nwI 34 a, nwL 34 b, nwR 34 r) := fun a b r => Den_nw_int (by decide +kernel) (by decide +kernel) (by decide +kernel)
  have s6 : ∀ (a : Nat → Nat → Int32) (b : Nat → Nat → Int64) (r : Nat → Nat → Option Nat), Den d 82 41 [.ref 31] [.ref 34, .ref 31] ((35, n), a, b, r) = Den d 82 47 [.ref 31] [.int (iN 16), .ref 31] ((35, n), a, b, (uR r 31 5 (some 34))) := fun a b r => Den_blk [zmr (.putfield 28) 3 10 5 2 211 0, zm0 (.aload_n 0) 1, zmi (.bipush 16) 2 16] (by decide +kernel) rfl
  have s7 : ∀ (a : Nat → Nat → Int32) (b : Nat → Nat → Int64) (r : Nat → Nat → Option Nat), Den d 82 47 [.ref 31] [.int (iN 16), .ref 31] ((35, n), a, b, r) = Den d 82 49 [.ref 31] [.ref 35, .ref 31] ((36, n), nwI 35 a, nwL 35 b, nwR 35 r) := fun a b r => Den_nw_int (by decide +kernel) (by decide +kernel) (by decide +kernel)
  have s8 : ∀ (a : Nat → Nat → Int32) (b : Nat → Nat → Int64) (r : Nat → Nat → Option Nat), Den d 82 49 [.ref 31] [.ref 35, .ref 31] ((36, n), a, b, r) = Den d 82 55 [.ref 31] [.int (iN 32), .ref 31] ((36, n), a, b, (uR r 31 6 (some 35))) := fun a b r => Den_blk [zmr (.putfield 31) 3 10 6 2 213 0, zm0 (.aload_n 0) 1, zmi (.bipush 32) 2 32] (by decide +kernel) rfl
  have s9 : ∀ (a : Nat → Nat → Int32) (b : Nat → Nat → Int64) (r : Nat → Nat → Option Nat), Den d 82 55 [.ref 31] [.int (iN 32), .ref 31] ((36, n), a, b, r) = Den d 82 57 [.ref 31] [.ref 36, .ref 31] ((37, n), nwI 36 a, nwL 36 b, nwR 36 r) := fun a b r => Den_nw_int (by decide +kernel) (by decide +kernel) (by decide +kernel)
  have s10 : ∀ (a : Nat → Nat → Int32) (b : Nat → Nat → Int64) (r : Nat → Nat → Option Nat), Den d 82 57 [.ref 31] [.ref 36, .ref 31] ((37, n), a, b, r) = Den d 82 60 [.ref 31] [] ((37, n), a, b, (uR r 31 7 (some 36))) := fun a b r => Den_blk [zmr (.putfield 34) 3 10 7 2 215 0] (by decide +kernel) rfl
  rw [s0]
  rw [s1]
  rw [s2]
  rw [s3]
  rw [s4]
  rw [s5]
  rw [s6]
  rw [s7]
  rw [s8]
  rw [s9]
  rw [s10]
  exact Den_retE (zm0 (.return_) 1) (by decide +kernel) rfl
def iA_56_30 (a : Nat → Nat → Int32) : Nat → Nat → Int32 := (uI (uI (iA_82_32 (nwI 31 (nwI 30 a))) 29 5 (iN 0)) 29 6 (iN 0))
def iB_56_30 (b : Nat → Nat → Int64) : Nat → Nat → Int64 := (iB_82_32 (nwL 31 (nwL 30 b)))
def iR_56_30 (r : Nat → Nat → Option Nat) : Nat → Nat → Option Nat := (uR (uR (uR (uR (iR_82_32 (nwR 31 (uR (nwR 30 r) 29 3 (some 30)))) 29 4 (some 31)) 29 0 (some 24)) 29 1 (some 27)) 29 2 (some 16))
theorem iw_56_30 {d n : Nat} {a : Nat → Nat → Int32} {b : Nat → Nat → Int64} {r : Nat → Nat → Option Nat} : Den (d + 1) 56 0 [.ref 29, .ref 24, .ref 27, .ref 16] [] ((30, n), a, b, r) = some (none, ((37, n), iA_56_30 a, iB_56_30 b, iR_56_30 r)) := by
  have s0 : ∀ (a : Nat → Nat → Int32) (b : Nat → Nat → Int64) (r : Nat → Nat → Option Nat), Den (d + 1) 56 0 [.ref 29, .ref 24, .ref 27, .ref 16] [] ((30, n), a, b, r) = Den (d + 1) 56 7 [.ref 29, .ref 24, .ref 27, .ref 16] [.int (iN 10), .ref 29] ((30, n), a, b, r) := fun a b r => Den_blk [zm0 (.aload_n 0) 1, zmr (.invokespecial 3) 3 3 0 0 194 0, zm0 (.aload_n 0) 1, zmi (.bipush 10) 2 10] (by decide +kernel) rfl
  have s1 : ∀ (a : Nat → Nat → Int32) (b : Nat → Nat → Int64) (r : Nat → Nat → Option Nat), Den (d + 1) 56 7 [.ref 29, .ref 24, .ref 27, .ref 16] [.int (iN 10), .ref 29] ((30, n), a, b, r) = Den (d + 1) 56 9 [.ref 29, .ref 24, .ref 27, .ref 16] [.ref 30, .ref 29] ((31, n), nwI 30 a, nwL 30 b, nwR 30 r) := fun a b r => Den_nw_int (by decide +kernel) (by decide +kernel) (by decide +kernel)
  have s2 : ∀ (a : Nat → Nat → Int32) (b : Nat → Nat → Int64) (r : Nat → Nat → Option Nat), Den (d + 1) 56 9 [.ref 29, .ref 24, .ref 27, .ref 16] [.ref 30, .ref 29] ((31, n), a, b, r) = Den (d + 1) 56 13 [.ref 29, .ref 24, .ref 27, .ref 16] [.ref 29] ((31, n), a, b, (uR r 29 3 (some 30))) := fun a b r => Den_blk [zmr (.putfield 9) 3 7 3 2 236 0, zm0 (.aload_n 0) 1] (by decide +kernel) rfl
  have s3 : ∀ (a : Nat → Nat → Int32) (b : Nat → Nat → Int64) (r : Nat → Nat → Option Nat), Den (d + 1) 56 13 [.ref 29, .ref 24, .ref 27, .ref 16] [.ref 29] ((31, n), a, b, r) = Den (d + 1) 56 16 [.ref 29, .ref 24, .ref 27, .ref 16] [.ref 31, .ref 29] ((32, n), nwI 31 a, nwL 31 b, nwR 31 r) := fun a b r => Den_new (zmr (.new 15) 3 10 0 0 195 0) (by decide +kernel) (by decide +kernel) rfl
  have s4 : ∀ (a : Nat → Nat → Int32) (b : Nat → Nat → Int64) (r : Nat → Nat → Option Nat), Den (d + 1) 56 16 [.ref 29, .ref 24, .ref 27, .ref 16] [.ref 31, .ref 29] ((32, n), a, b, r) = Den (d + 1) 56 17 [.ref 29, .ref 24, .ref 27, .ref 16] [.ref 31, .ref 31, .ref 29] ((32, n), a, b, r) := fun a b r => Den_blk [zm0 (.dup) 1] (by decide +kernel) rfl
  have s5 : ∀ (a : Nat → Nat → Int32) (b : Nat → Nat → Int64) (r : Nat → Nat → Option Nat), Den (d + 1) 56 17 [.ref 29, .ref 24, .ref 27, .ref 16] [.ref 31, .ref 31, .ref 29] ((32, n), a, b, r) = Den (d + 1) 56 20 [.ref 29, .ref 24, .ref 27, .ref 16] [.ref 31, .ref 29] ((37, n), iA_82_32 a, iB_82_32 b, iR_82_32 r) := fun a b r => by
    rw [Den_callE (zmr (.invokespecial 17) 3 2 82 0 197 1) (by decide +kernel) rfl rfl]
    show Option.bind (Den d 82 0 [.ref 31] [] ((32, n), a, b, r)) _ = _
    rw [iw_82_32]
    rfl
  have s6 : ∀ (a : Nat → Nat → Int32) (b : Nat → Nat → Int64) (r : Nat → Nat → Option Nat), Den (d + 1) 56 20 [.ref 29, .ref 24, .ref 27, .ref 16] [.ref 31, .ref 29] ((37, n), a, b, r) = Den (d + 1) 56 48 [.ref 29, .ref 24, .ref 27, .ref 16] [] ((37, n), (uI (uI a 29 5 (iN 0)) 29 6 (iN 0)), b, (uR (uR (uR (uR r 29 4 (some 31)) 29 0 (some 24)) 29 1 (some 27)) 29 2 (some 16))) := fun a b r => Den_blk [zmr (.putfield 18) 3 7 4 2 237 0, zm0 (.aload_n 0) 1, zmi (.iconst 0) 1 0, zmr (.putfield 22) 3 7 5 0 241 0, zm0 (.aload_n 0) 1, zmi (.iconst 0) 1 0, zmr (.putfield 26) 3 7 6 0 243 0, zm0 (.aload_n 0) 1, zm0 (.aload_n 1) 1, zmr (.putfield 29) 3 7 0 2 233 0, zm0 (.aload_n 0) 1, zm0 (.aload_n 2) 1, zmr (.putfield 33) 3 7 1 2 234 0, zm0 (.aload_n 0) 1, zm0 (.aload_n 3) 1, zmr (.putfield 37) 3 7 2 2 235 0] (by decide +kernel) rfl
  rw [s0]
  rw [s1]
  rw [s2]
  rw [s3]
  rw [s4]
  rw [s5]
  rw [s6]
  exact Den_retE (zm0 (.return_) 1) (by decide +kernel) rfl
def iA_82_39 (a : Nat → Nat → Int32) : Nat → Nat → Int32 := (nwI 43 (nwI 42 (nwI 41 (nwI 40 (nwI 39 (uI (uI (uI a 38 0 (iN 0)) 38 1 (iN 0)) 38 2 (iN 0)))))))
def iB_82_39 (b : Nat → Nat → Int64) : Nat → Nat → Int64 := (nwL 43 (nwL 42 (nwL 41 (nwL 40 (nwL 39 b)))))
def iR_82_39 (r : Nat → Nat → Option Nat) : Nat → Nat → Option Nat := (uR (nwR 43 (uR (nwR 42 (uR (nwR 41 (uR (nwR 40 (uR (nwR 39 r) 38 3 (some 39))) 38 4 (some 40))) 38 5 (some 41))) 38 6 (some 42))) 38 7 (some 43))
theorem iw_82_39 {d n : Nat} {a : Nat → Nat → Int32} {b : Nat → Nat → Int64} {r : Nat → Nat → Option Nat} : Den d 82 0 [.ref 38] [] ((39, n), a, b, r) = some (none, ((44, n), iA_82_39 a, iB_82_39 b, iR_82_39 r)) := by
  have s0 : ∀ (a : Nat → Nat → Int32) (b : Nat → Nat → Int64) (r : Nat → Nat → Option Nat), Den d 82 0 [.ref 38] [] ((39, n), a, b, r) = Den d 82 23 [.ref 38] [.int (iN 480), .ref 38] ((39, n), (uI (uI (uI a 38 0 (iN 0)) 38 1 (iN 0)) 38 2 (iN 0)), b, r) := fun a b r => Den_blk [zm0 (.aload_n 0) 1, zmr (.invokespecial 3) 3 3 0 0 200 0, zm0 (.aload_n 0) 1, zmi (.iconst 0) 1 0, zmr (.putfield 9) 3 10 0 0 201 0, zm0 (.aload_n 0) 1, zmi (.iconst 0) 1 0, zmr (.putfield 15) 3 10 1 0 205 0, zm0 (.aload_n 0) 1, zmi (.iconst 0) 1 0, zmr (.putfield 18) 3 10 2 0 207 0, zm0 (.aload_n 0) 1, zmi (.sipush 480) 3 480] (by decide +kernel) rfl
  have s1 : ∀ (a : Nat → Nat → Int32) (b : Nat → Nat → Int64) (r : Nat → Nat → Option Nat), Den d 82 23 [.ref 38] [.int (iN 480), .ref 38] ((39, n), a, b, r) = Den d 82 25 [.ref 38] [.ref 39, .ref 38] ((40, n), nwI 39 a, nwL 39 b, nwR 39 r) := fun a b r => Den_nw_int (by decide +kernel) (by decide +kernel) (by decide +kernel)
  have s2 : ∀ (a : Nat → Nat → Int32) (b : Nat → Nat → Int64) (r : Nat → Nat → Option Nat), Den d 82 25 [.ref 38] [.ref 39, .ref 38] ((40, n), a, b, r) = Den d 82 31 [.ref 38] [.int (iN 16), .ref 38] ((40, n), a, b, (uR r 38 3 (some 39))) := fun a b r => Den_blk [zmr (.putfield 21) 3 10 3 2 208 0, zm0 (.aload_n 0) 1, zmi (.bipush 16) 2 16] (by decide +kernel) rfl
  have s3 : ∀ (a : Nat → Nat → Int32) (b : Nat → Nat → Int64) (r : Nat → Nat → Option Nat), Den d 82 31 [.ref 38] [.int (iN 16), .ref 38] ((40, n), a, b, r) = Den d 82 33 [.ref 38] [.ref 40, .ref 38] ((41, n), nwI 40 a, nwL 40 b, nwR 40 r) := fun a b r => Den_nw_int (by decide +kernel) (by decide +kernel) (by decide +kernel)
  have s4 : ∀ (a : Nat → Nat → Int32) (b : Nat → Nat → Int64) (r : Nat → Nat → Option Nat), Den d 82 33 [.ref 38] [.ref 40, .ref 38] ((41, n), a, b, r) = Den d 82 39 [.ref 38] [.int (iN 16), .ref 38] ((41, n), a, b, (uR r 38 4 (some 40))) := fun a b r => Den_blk [zmr (.putfield 25) 3 10 4 2 209 0, zm0 (.aload_n 0) 1, zmi (.bipush 16) 2 16] (by decide +kernel) rfl
  have s5 : ∀ (a : Nat → Nat → Int32) (b : Nat → Nat → Int64) (r : Nat → Nat → Option Nat), Den d 82 39 [.ref 38] [.int (iN 16), .ref 38] ((41, n), a, b, r) = Den d 82 41 [.ref 38] [.ref 41, .ref 38] ((42, n), nwI 41 a, nwL 41 b, nwR 41 r) := fun a b r => Den_nw_int (by decide +kernel) (by decide +kernel) (by decide +kernel)
  have s6 : ∀ (a : Nat → Nat → Int32) (b : Nat → Nat → Int64) (r : Nat → Nat → Option Nat), Den d 82 41 [.ref 38] [.ref 41, .ref 38] ((42, n), a, b, r) = Den d 82 47 [.ref 38] [.int (iN 16), .ref 38] ((42, n), a, b, (uR r 38 5 (some 41))) := fun a b r => Den_blk [zmr (.putfield 28) 3 10 5 2 211 0, zm0 (.aload_n 0) 1, zmi (.bipush 16) 2 16] (by decide +kernel) rfl
  have s7 : ∀ (a : Nat → Nat → Int32) (b : Nat → Nat → Int64) (r : Nat → Nat → Option Nat), Den d 82 47 [.ref 38] [.int (iN 16), .ref 38] ((42, n), a, b, r) = Den d 82 49 [.ref 38] [.ref 42, .ref 38] ((43, n), nwI 42 a, nwL 42 b, nwR 42 r) := fun a b r => Den_nw_int (by decide +kernel) (by decide +kernel) (by decide +kernel)
  have s8 : ∀ (a : Nat → Nat → Int32) (b : Nat → Nat → Int64) (r : Nat → Nat → Option Nat), Den d 82 49 [.ref 38] [.ref 42, .ref 38] ((43, n), a, b, r) = Den d 82 55 [.ref 38] [.int (iN 32), .ref 38] ((43, n), a, b, (uR r 38 6 (some 42))) := fun a b r => Den_blk [zmr (.putfield 31) 3 10 6 2 213 0, zm0 (.aload_n 0) 1, zmi (.bipush 32) 2 32] (by decide +kernel) rfl
  have s9 : ∀ (a : Nat → Nat → Int32) (b : Nat → Nat → Int64) (r : Nat → Nat → Option Nat), Den d 82 55 [.ref 38] [.int (iN 32), .ref 38] ((43, n), a, b, r) = Den d 82 57 [.ref 38] [.ref 43, .ref 38] ((44, n), nwI 43 a, nwL 43 b, nwR 43 r) := fun a b r => Den_nw_int (by decide +kernel) (by decide +kernel) (by decide +kernel)
  have s10 : ∀ (a : Nat → Nat → Int32) (b : Nat → Nat → Int64) (r : Nat → Nat → Option Nat), Den d 82 57 [.ref 38] [.ref 43, .ref 38] ((44, n), a, b, r) = Den d 82 60 [.ref 38] [] ((44, n), a, b, (uR r 38 7 (some 43))) := fun a b r => Den_blk [zmr (.putfield 34) 3 10 7 2 215 0] (by decide +kernel) rfl
  rw [s0]
  rw [s1]
  rw [s2]
  rw [s3]
  rw [s4]
  rw [s5]
  rw [s6]
  rw [s7]
  rw [s8]
  rw [s9]
  rw [s10]
  exact Den_retE (zm0 (.return_) 1) (by decide +kernel) rfl
def iA_82_47 (a : Nat → Nat → Int32) : Nat → Nat → Int32 := (nwI 51 (nwI 50 (nwI 49 (nwI 48 (nwI 47 (uI (uI (uI a 46 0 (iN 0)) 46 1 (iN 0)) 46 2 (iN 0)))))))
def iB_82_47 (b : Nat → Nat → Int64) : Nat → Nat → Int64 := (nwL 51 (nwL 50 (nwL 49 (nwL 48 (nwL 47 b)))))
def iR_82_47 (r : Nat → Nat → Option Nat) : Nat → Nat → Option Nat := (uR (nwR 51 (uR (nwR 50 (uR (nwR 49 (uR (nwR 48 (uR (nwR 47 r) 46 3 (some 47))) 46 4 (some 48))) 46 5 (some 49))) 46 6 (some 50))) 46 7 (some 51))
theorem iw_82_47 {d n : Nat} {a : Nat → Nat → Int32} {b : Nat → Nat → Int64} {r : Nat → Nat → Option Nat} : Den d 82 0 [.ref 46] [] ((47, n), a, b, r) = some (none, ((52, n), iA_82_47 a, iB_82_47 b, iR_82_47 r)) := by
  have s0 : ∀ (a : Nat → Nat → Int32) (b : Nat → Nat → Int64) (r : Nat → Nat → Option Nat), Den d 82 0 [.ref 46] [] ((47, n), a, b, r) = Den d 82 23 [.ref 46] [.int (iN 480), .ref 46] ((47, n), (uI (uI (uI a 46 0 (iN 0)) 46 1 (iN 0)) 46 2 (iN 0)), b, r) := fun a b r => Den_blk [zm0 (.aload_n 0) 1, zmr (.invokespecial 3) 3 3 0 0 200 0, zm0 (.aload_n 0) 1, zmi (.iconst 0) 1 0, zmr (.putfield 9) 3 10 0 0 201 0, zm0 (.aload_n 0) 1, zmi (.iconst 0) 1 0, zmr (.putfield 15) 3 10 1 0 205 0, zm0 (.aload_n 0) 1, zmi (.iconst 0) 1 0, zmr (.putfield 18) 3 10 2 0 207 0, zm0 (.aload_n 0) 1, zmi (.sipush 480) 3 480] (by decide +kernel) rfl
  have s1 : ∀ (a : Nat → Nat → Int32) (b : Nat → Nat → Int64) (r : Nat → Nat → Option Nat), Den d 82 23 [.ref 46] [.int (iN 480), .ref 46] ((47, n), a, b, r) = Den d 82 25 [.ref 46] [.ref 47, .ref 46] ((48, n), nwI 47 a, nwL 47 b, nwR 47 r) := fun a b r => Den_nw_int (by decide +kernel) (by decide +kernel) (by decide +kernel)
  have s2 : ∀ (a : Nat → Nat → Int32) (b : Nat → Nat → Int64) (r : Nat → Nat → Option Nat), Den d 82 25 [.ref 46] [.ref 47, .ref 46] ((48, n), a, b, r) = Den d 82 31 [.ref 46] [.int (iN 16), .ref 46] ((48, n), a, b, (uR r 46 3 (some 47))) := fun a b r => Den_blk [zmr (.putfield 21) 3 10 3 2 208 0, zm0 (.aload_n 0) 1, zmi (.bipush 16) 2 16] (by decide +kernel) rfl
  have s3 : ∀ (a : Nat → Nat → Int32) (b : Nat → Nat → Int64) (r : Nat → Nat → Option Nat), Den d 82 31 [.ref 46] [.int (iN 16), .ref 46] ((48, n), a, b, r) = Den d 82 33 [.ref 46] [.ref 48, .ref 46] ((49, n), nwI 48 a, nwL 48 b, nwR 48 r) := fun a b r => Den_nw_int (by decide +kernel) (by decide +kernel) (by decide +kernel)
  have s4 : ∀ (a : Nat → Nat → Int32) (b : Nat → Nat → Int64) (r : Nat → Nat → Option Nat), Den d 82 33 [.ref 46] [.ref 48, .ref 46] ((49, n), a, b, r) = Den d 82 39 [.ref 46] [.int (iN 16), .ref 46] ((49, n), a, b, (uR r 46 4 (some 48))) := fun a b r => Den_blk [zmr (.putfield 25) 3 10 4 2 209 0, zm0 (.aload_n 0) 1, zmi (.bipush 16) 2 16] (by decide +kernel) rfl
  have s5 : ∀ (a : Nat → Nat → Int32) (b : Nat → Nat → Int64) (r : Nat → Nat → Option Nat), Den d 82 39 [.ref 46] [.int (iN 16), .ref 46] ((49, n), a, b, r) = Den d 82 41 [.ref 46] [.ref 49, .ref 46] ((50, n), nwI 49 a, nwL 49 b, nwR 49 r) := fun a b r => Den_nw_int (by decide +kernel) (by decide +kernel) (by decide +kernel)
  have s6 : ∀ (a : Nat → Nat → Int32) (b : Nat → Nat → Int64) (r : Nat → Nat → Option Nat), Den d 82 41 [.ref 46] [.ref 49, .ref 46] ((50, n), a, b, r) = Den d 82 47 [.ref 46] [.int (iN 16), .ref 46] ((50, n), a, b, (uR r 46 5 (some 49))) := fun a b r => Den_blk [zmr (.putfield 28) 3 10 5 2 211 0, zm0 (.aload_n 0) 1, zmi (.bipush 16) 2 16] (by decide +kernel) rfl
  have s7 : ∀ (a : Nat → Nat → Int32) (b : Nat → Nat → Int64) (r : Nat → Nat → Option Nat), Den d 82 47 [.ref 46] [.int (iN 16), .ref 46] ((50, n), a, b, r) = Den d 82 49 [.ref 46] [.ref 50, .ref 46] ((51, n), nwI 50 a, nwL 50 b, nwR 50 r) := fun a b r => Den_nw_int (by decide +kernel) (by decide +kernel) (by decide +kernel)
  have s8 : ∀ (a : Nat → Nat → Int32) (b : Nat → Nat → Int64) (r : Nat → Nat → Option Nat), Den d 82 49 [.ref 46] [.ref 50, .ref 46] ((51, n), a, b, r) = Den d 82 55 [.ref 46] [.int (iN 32), .ref 46] ((51, n), a, b, (uR r 46 6 (some 50))) := fun a b r => Den_blk [zmr (.putfield 31) 3 10 6 2 213 0, zm0 (.aload_n 0) 1, zmi (.bipush 32) 2 32] (by decide +kernel) rfl
  have s9 : ∀ (a : Nat → Nat → Int32) (b : Nat → Nat → Int64) (r : Nat → Nat → Option Nat), Den d 82 55 [.ref 46] [.int (iN 32), .ref 46] ((51, n), a, b, r) = Den d 82 57 [.ref 46] [.ref 51, .ref 46] ((52, n), nwI 51 a, nwL 51 b, nwR 51 r) := fun a b r => Den_nw_int (by decide +kernel) (by decide +kernel) (by decide +kernel)
  have s10 : ∀ (a : Nat → Nat → Int32) (b : Nat → Nat → Int64) (r : Nat → Nat → Option Nat), Den d 82 57 [.ref 46] [.ref 51, .ref 46] ((52, n), a, b, r) = Den d 82 60 [.ref 46] [] ((52, n), a, b, (uR r 46 7 (some 51))) := fun a b r => Den_blk [zmr (.putfield 34) 3 10 7 2 215 0] (by decide +kernel) rfl
  rw [s0]
  rw [s1]
  rw [s2]
  rw [s3]
  rw [s4]
  rw [s5]
  rw [s6]
  rw [s7]
  rw [s8]
  rw [s9]
  rw [s10]
  exact Den_retE (zm0 (.return_) 1) (by decide +kernel) rfl
def iA_34_45 (a : Nat → Nat → Int32) : Nat → Nat → Int32 := (iA_82_47 (nwI 46 (uI (uI (uI (nwI 45 a) 44 1 (iN 0)) 44 2 (iN 0)) 44 3 (iN 0))))
def iB_34_45 (b : Nat → Nat → Int64) : Nat → Nat → Int64 := (iB_82_47 (nwL 46 (nwL 45 b)))
def iR_34_45 (r : Nat → Nat → Option Nat) : Nat → Nat → Option Nat := (uR (iR_82_47 (nwR 46 (uR (uR (nwR 45 r) 44 0 (some 45)) 44 4 (some 4)))) 44 5 (some 46))
theorem iw_34_45 {d n : Nat} {a : Nat → Nat → Int32} {b : Nat → Nat → Int64} {r : Nat → Nat → Option Nat} : Den (d + 1) 34 0 [.ref 44] [] ((45, n), a, b, r) = some (none, ((52, n), iA_34_45 a, iB_34_45 b, iR_34_45 r)) := by
  have s0 : ∀ (a : Nat → Nat → Int32) (b : Nat → Nat → Int64) (r : Nat → Nat → Option Nat), Den (d + 1) 34 0 [.ref 44] [] ((45, n), a, b, r) = Den (d + 1) 34 6 [.ref 44] [.int (iN 0), .ref 44] ((45, n), a, b, r) := fun a b r => Den_blk [zm0 (.aload_n 0) 1, zmr (.invokespecial 3) 3 3 0 0 270 0, zm0 (.aload_n 0) 1, zmi (.iconst 0) 1 0] (by decide +kernel) rfl
  have s1 : ∀ (a : Nat → Nat → Int32) (b : Nat → Nat → Int64) (r : Nat → Nat → Option Nat), Den (d + 1) 34 6 [.ref 44] [.int (iN 0), .ref 44] ((45, n), a, b, r) = Den (d + 1) 34 8 [.ref 44] [.ref 45, .ref 44] ((46, n), nwI 45 a, nwL 45 b, nwR 45 r) := fun a b r => Den_nw_int (by decide +kernel) (by decide +kernel) (by decide +kernel)
  have s2 : ∀ (a : Nat → Nat → Int32) (b : Nat → Nat → Int64) (r : Nat → Nat → Option Nat), Den (d + 1) 34 8 [.ref 44] [.ref 45, .ref 44] ((46, n), a, b, r) = Den (d + 1) 34 33 [.ref 44] [.ref 44] ((46, n), (uI (uI (uI a 44 1 (iN 0)) 44 2 (iN 0)) 44 3 (iN 0)), b, (uR (uR r 44 0 (some 45)) 44 4 (some 4))) := fun a b r => Den_blk [zmr (.putfield 9) 3 4 0 2 274 0, zm0 (.aload_n 0) 1, zmi (.iconst 0) 1 0, zmr (.putfield 15) 3 4 1 0 275 0, zm0 (.aload_n 0) 1, zmi (.iconst 0) 1 0, zmr (.putfield 19) 3 4 2 0 276 0, zm0 (.aload_n 0) 1, zmi (.iconst 0) 1 0, zmr (.putfield 22) 3 4 3 0 277 0, zm0 (.aload_n 0) 1, zmr (.ldc 25) 2 4 1 0 271 0, zmr (.putfield 27) 3 4 4 2 278 0, zm0 (.aload_n 0) 1] (by decide +kernel) rfl
  have s3 : ∀ (a : Nat → Nat → Int32) (b : Nat → Nat → Int64) (r : Nat → Nat → Option Nat), Den (d + 1) 34 33 [.ref 44] [.ref 44] ((46, n), a, b, r) = Den (d + 1) 34 36 [.ref 44] [.ref 46, .ref 44] ((47, n), nwI 46 a, nwL 46 b, nwR 46 r) := fun a b r => Den_new (zmr (.new 31) 3 10 0 0 272 0) (by decide +kernel) (by decide +kernel) rfl
  have s4 : ∀ (a : Nat → Nat → Int32) (b : Nat → Nat → Int64) (r : Nat → Nat → Option Nat), Den (d + 1) 34 36 [.ref 44] [.ref 46, .ref 44] ((47, n), a, b, r) = Den (d + 1) 34 37 [.ref 44] [.ref 46, .ref 46, .ref 44] ((47, n), a, b, r) := fun a b r => Den_blk [zm0 (.dup) 1] (by decide +kernel) rfl
  have s5 : ∀ (a : Nat → Nat → Int32) (b : Nat → Nat → Int64) (r : Nat → Nat → Option Nat), Den (d + 1) 34 37 [.ref 44] [.ref 46, .ref 46, .ref 44] ((47, n), a, b, r) = Den (d + 1) 34 40 [.ref 44] [.ref 46, .ref 44] ((52, n), iA_82_47 a, iB_82_47 b, iR_82_47 r) := fun a b r => by
    rw [Den_callE (zmr (.invokespecial 33) 3 2 82 0 273 1) (by decide +kernel) rfl rfl]
    show Option.bind (Den d 82 0 [.ref 46] [] ((47, n), a, b, r)) _ = _
    rw [iw_82_47]
    rfl
  have s6 : ∀ (a : Nat → Nat → Int32) (b : Nat → Nat → Int64) (r : Nat → Nat → Option Nat), Den (d + 1) 34 40 [.ref 44] [.ref 46, .ref 44] ((52, n), a, b, r) = Den (d + 1) 34 43 [.ref 44] [] ((52, n), a, b, (uR r 44 5 (some 46))) := fun a b r => Den_blk [zmr (.putfield 34) 3 4 5 2 279 0] (by decide +kernel) rfl
  rw [s0]
  rw [s1]
  rw [s2]
  rw [s3]
  rw [s4]
  rw [s5]
  rw [s6]
  exact Den_retE (zm0 (.return_) 1) (by decide +kernel) rfl
def iA_1_53 (a : Nat → Nat → Int32) : Nat → Nat → Int32 := (uI (nwI 54 (nwI 53 a)) 52 3 (iN 0))
def iB_1_53 (b : Nat → Nat → Int64) : Nat → Nat → Int64 := (nwL 54 (nwL 53 b))
def iR_1_53 (r : Nat → Nat → Option Nat) : Nat → Nat → Option Nat := (uR (uR (nwR 54 (uR (nwR 53 r) 52 1 (some 53))) 52 2 (some 54)) 52 0 (some 29))
theorem iw_1_53 {d n : Nat} {a : Nat → Nat → Int32} {b : Nat → Nat → Int64} {r : Nat → Nat → Option Nat} : Den d 1 0 [.ref 52, .ref 29] [] ((53, n), a, b, r) = some (none, ((55, n), iA_1_53 a, iB_1_53 b, iR_1_53 r)) := by
  have s0 : ∀ (a : Nat → Nat → Int32) (b : Nat → Nat → Int64) (r : Nat → Nat → Option Nat), Den d 1 0 [.ref 52, .ref 29] [] ((53, n), a, b, r) = Den d 1 7 [.ref 52, .ref 29] [.int (iN 38720), .ref 52] ((53, n), a, b, r) := fun a b r => Den_blk [zm0 (.aload_n 0) 1, zmr (.invokespecial 3) 3 3 0 0 299 0, zm0 (.aload_n 0) 1, zmc (.ldc 9) 2 38720 300] (by decide +kernel) rfl
  have s1 : ∀ (a : Nat → Nat → Int32) (b : Nat → Nat → Int64) (r : Nat → Nat → Option Nat), Den d 1 7 [.ref 52, .ref 29] [.int (iN 38720), .ref 52] ((53, n), a, b, r) = Den d 1 9 [.ref 52, .ref 29] [.ref 53, .ref 52] ((54, n), nwI 53 a, nwL 53 b, nwR 53 r) := fun a b r => Den_nw_long (by decide +kernel) (by decide +kernel) (by decide +kernel)
  have s2 : ∀ (a : Nat → Nat → Int32) (b : Nat → Nat → Int64) (r : Nat → Nat → Option Nat), Den d 1 9 [.ref 52, .ref 29] [.ref 53, .ref 52] ((54, n), a, b, r) = Den d 1 15 [.ref 52, .ref 29] [.int (iN 38720), .ref 52] ((54, n), a, b, (uR r 52 1 (some 53))) := fun a b r => Den_blk [zmr (.putfield 10) 3 0 1 2 302 0, zm0 (.aload_n 0) 1, zmc (.ldc 9) 2 38720 300] (by decide +kernel) rfl
  have s3 : ∀ (a : Nat → Nat → Int32) (b : Nat → Nat → Int64) (r : Nat → Nat → Option Nat), Den d 1 15 [.ref 52, .ref 29] [.int (iN 38720), .ref 52] ((54, n), a, b, r) = Den d 1 17 [.ref 52, .ref 29] [.ref 54, .ref 52] ((55, n), nwI 54 a, nwL 54 b, nwR 54 r) := fun a b r => Den_nw_int (by decide +kernel) (by decide +kernel) (by decide +kernel)
  have s4 : ∀ (a : Nat → Nat → Int32) (b : Nat → Nat → Int64) (r : Nat → Nat → Option Nat), Den d 1 17 [.ref 52, .ref 29] [.ref 54, .ref 52] ((55, n), a, b, r) = Den d 1 30 [.ref 52, .ref 29] [] ((55, n), (uI a 52 3 (iN 0)), b, (uR (uR r 52 2 (some 54)) 52 0 (some 29))) := fun a b r => Den_blk [zmr (.putfield 16) 3 0 2 2 303 0, zm0 (.aload_n 0) 1, zmi (.iconst 0) 1 0, zmr (.putfield 20) 3 0 3 0 304 0, zm0 (.aload_n 0) 1, zm0 (.aload_n 1) 1, zmr (.putfield 24) 3 0 0 2 301 0] (by decide +kernel) rfl
  rw [s0]
  rw [s1]
  rw [s2]
  rw [s3]
  rw [s4]
  exact Den_retE (zm0 (.return_) 1) (by decide +kernel) rfl
def iA_8_56 (a : Nat → Nat → Int32) : Nat → Nat → Int32 := (uI (uI (nwI 61 (nwI 60 (nwI 59 (nwI 58 (nwI 57 (nwI 56 a)))))) 55 8 (-1)) 55 9 (-1))
def iB_8_56 (b : Nat → Nat → Int64) : Nat → Nat → Int64 := (uL (nwL 61 (nwL 60 (nwL 59 (nwL 58 (nwL 57 (nwL 56 b)))))) 55 7 0)
def iR_8_56 (r : Nat → Nat → Option Nat) : Nat → Nat → Option Nat := (uR (uR (nwR 61 (uR (nwR 60 (uR (nwR 59 (uR (nwR 58 (uR (nwR 57 (uR (nwR 56 r) 55 1 (some 56))) 55 2 (some 57))) 55 3 (some 58))) 55 4 (some 59))) 55 5 (some 60))) 55 6 (some 61)) 55 0 (some 29))
theorem iw_8_56 {d n : Nat} {a : Nat → Nat → Int32} {b : Nat → Nat → Int64} {r : Nat → Nat → Option Nat} : Den d 8 0 [.ref 55, .ref 29] [] ((56, n), a, b, r) = some (none, ((62, n), iA_8_56 a, iB_8_56 b, iR_8_56 r)) := by
  have s0 : ∀ (a : Nat → Nat → Int32) (b : Nat → Nat → Int64) (r : Nat → Nat → Option Nat), Den d 8 0 [.ref 55, .ref 29] [] ((56, n), a, b, r) = Den d 8 7 [.ref 55, .ref 29] [.int (iN 9), .ref 55] ((56, n), a, b, r) := fun a b r => Den_blk [zm0 (.aload_n 0) 1, zmr (.invokespecial 3) 3 3 0 0 320 0, zm0 (.aload_n 0) 1, zmi (.bipush 9) 2 9] (by decide +kernel) rfl
  have s1 : ∀ (a : Nat → Nat → Int32) (b : Nat → Nat → Int64) (r : Nat → Nat → Option Nat), Den d 8 7 [.ref 55, .ref 29] [.int (iN 9), .ref 55] ((56, n), a, b, r) = Den d 8 9 [.ref 55, .ref 29] [.ref 56, .ref 55] ((57, n), nwI 56 a, nwL 56 b, nwR 56 r) := fun a b r => Den_nw_int (by decide +kernel) (by decide +kernel) (by decide +kernel)
  have s2 : ∀ (a : Nat → Nat → Int32) (b : Nat → Nat → Int64) (r : Nat → Nat → Option Nat), Den d 8 9 [.ref 55, .ref 29] [.ref 56, .ref 55] ((57, n), a, b, r) = Den d 8 15 [.ref 55, .ref 29] [.int (iN 90), .ref 55] ((57, n), a, b, (uR r 55 1 (some 56))) := fun a b r => Den_blk [zmr (.putfield 9) 3 1 1 2 322 0, zm0 (.aload_n 0) 1, zmi (.bipush 90) 2 90] (by decide +kernel) rfl
  have s3 : ∀ (a : Nat → Nat → Int32) (b : Nat → Nat → Int64) (r : Nat → Nat → Option Nat), Den d 8 15 [.ref 55, .ref 29] [.int (iN 90), .ref 55] ((57, n), a, b, r) = Den d 8 17 [.ref 55, .ref 29] [.ref 57, .ref 55] ((58, n), nwI 57 a, nwL 57 b, nwR 57 r) := fun a b r => Den_nw_int (by decide +kernel) (by decide +kernel) (by decide +kernel)
  have s4 : ∀ (a : Nat → Nat → Int32) (b : Nat → Nat → Int64) (r : Nat → Nat → Option Nat), Den d 8 17 [.ref 55, .ref 29] [.ref 57, .ref 55] ((58, n), a, b, r) = Den d 8 23 [.ref 55, .ref 29] [.int (iN 90), .ref 55] ((58, n), a, b, (uR r 55 2 (some 57))) := fun a b r => Den_blk [zmr (.putfield 15) 3 1 2 2 323 0, zm0 (.aload_n 0) 1, zmi (.bipush 90) 2 90] (by decide +kernel) rfl
  have s5 : ∀ (a : Nat → Nat → Int32) (b : Nat → Nat → Int64) (r : Nat → Nat → Option Nat), Den d 8 23 [.ref 55, .ref 29] [.int (iN 90), .ref 55] ((58, n), a, b, r) = Den d 8 25 [.ref 55, .ref 29] [.ref 58, .ref 55] ((59, n), nwI 58 a, nwL 58 b, nwR 58 r) := fun a b r => Den_nw_long (by decide +kernel) (by decide +kernel) (by decide +kernel)
  have s6 : ∀ (a : Nat → Nat → Int32) (b : Nat → Nat → Int64) (r : Nat → Nat → Option Nat), Den d 8 25 [.ref 55, .ref 29] [.ref 58, .ref 55] ((59, n), a, b, r) = Den d 8 31 [.ref 55, .ref 29] [.int (iN 45), .ref 55] ((59, n), a, b, (uR r 55 3 (some 58))) := fun a b r => Den_blk [zmr (.putfield 18) 3 1 3 2 324 0, zm0 (.aload_n 0) 1, zmi (.bipush 45) 2 45] (by decide +kernel) rfl
  have s7 : ∀ (a : Nat → Nat → Int32) (b : Nat → Nat → Int64) (r : Nat → Nat → Option Nat), Den d 8 31 [.ref 55, .ref 29] [.int (iN 45), .ref 55] ((59, n), a, b, r) = Den d 8 33 [.ref 55, .ref 29] [.ref 59, .ref 55] ((60, n), nwI 59 a, nwL 59 b, nwR 59 r) := fun a b r => Den_nw_long (by decide +kernel) (by decide +kernel) (by decide +kernel)
  have s8 : ∀ (a : Nat → Nat → Int32) (b : Nat → Nat → Int64) (r : Nat → Nat → Option Nat), Den d 8 33 [.ref 55, .ref 29] [.ref 59, .ref 55] ((60, n), a, b, r) = Den d 8 38 [.ref 55, .ref 29] [.int (iN 4), .ref 55] ((60, n), a, b, (uR r 55 4 (some 59))) := fun a b r => Den_blk [zmr (.putfield 22) 3 1 4 2 325 0, zm0 (.aload_n 0) 1, zmi (.iconst 4) 1 4] (by decide +kernel) rfl
  have s9 : ∀ (a : Nat → Nat → Int32) (b : Nat → Nat → Int64) (r : Nat → Nat → Option Nat), Den d 8 38 [.ref 55, .ref 29] [.int (iN 4), .ref 55] ((60, n), a, b, r) = Den d 8 40 [.ref 55, .ref 29] [.ref 60, .ref 55] ((61, n), nwI 60 a, nwL 60 b, nwR 60 r) := fun a b r => Den_nw_int (by decide +kernel) (by decide +kernel) (by decide +kernel)
  have s10 : ∀ (a : Nat → Nat → Int32) (b : Nat → Nat → Int64) (r : Nat → Nat → Option Nat), Den d 8 40 [.ref 55, .ref 29] [.ref 60, .ref 55] ((61, n), a, b, r) = Den d 8 45 [.ref 55, .ref 29] [.int (iN 4), .ref 55] ((61, n), a, b, (uR r 55 5 (some 60))) := fun a b r => Den_blk [zmr (.putfield 25) 3 1 5 2 326 0, zm0 (.aload_n 0) 1, zmi (.iconst 4) 1 4] (by decide +kernel) rfl
  have s11 : ∀ (a : Nat → Nat → Int32) (b : Nat → Nat → Int64) (r : Nat → Nat → Option Nat), Den d 8 45 [.ref 55, .ref 29] [.int (iN 4), .ref 55] ((61, n), a, b, r) = Den d 8 47 [.ref 55, .ref 29] [.ref 61, .ref 55] ((62, n), nwI 61 a, nwL 61 b, nwR 61 r) := fun a b r => Den_nw_int (by decide +kernel) (by decide +kernel) (by decide +kernel)
  have s12 : ∀ (a : Nat → Nat → Int32) (b : Nat → Nat → Int64) (r : Nat → Nat → Option Nat), Den d 8 47 [.ref 55, .ref 29] [.ref 61, .ref 55] ((62, n), a, b, r) = Den d 8 70 [.ref 55, .ref 29] [] ((62, n), (uI (uI a 55 8 (-1)) 55 9 (-1)), (uL b 55 7 0), (uR (uR r 55 6 (some 61)) 55 0 (some 29))) := fun a b r => Den_blk [zmr (.putfield 28) 3 1 6 2 327 0, zm0 (.aload_n 0) 1, zml (.lconst 0) 1 0, zmr (.putfield 31) 3 1 7 1 329 0, zm0 (.aload_n 0) 1, zmi (.iconst (-1)) 1 (-1), zmr (.putfield 35) 3 1 8 0 331 0, zm0 (.aload_n 0) 1, zmi (.iconst (-1)) 1 (-1), zmr (.putfield 39) 3 1 9 0 332 0, zm0 (.aload_n 0) 1, zm0 (.aload_n 1) 1, zmr (.putfield 42) 3 1 0 2 321 0] (by decide +kernel) rfl
  rw [s0]
  rw [s1]
  rw [s2]
  rw [s3]
  rw [s4]
  rw [s5]
  rw [s6]
  rw [s7]
  rw [s8]
  rw [s9]
  rw [s10]
  rw [s11]
  rw [s12]
  exact Den_retE (zm0 (.return_) 1) (by decide +kernel) rfl
def iA_20_63 (a : Nat → Nat → Int32) : Nat → Nat → Int32 := (nwI 64 (nwI 63 (uI (uI a 62 2 (iN 0)) 62 3 (iN 0))))
def iB_20_63 (b : Nat → Nat → Int64) : Nat → Nat → Int64 := (nwL 64 (nwL 63 b))
def iR_20_63 (r : Nat → Nat → Option Nat) : Nat → Nat → Option Nat := (uR (uR (uR (nwR 64 (uR (nwR 63 r) 62 4 (some 63))) 62 5 (some 64)) 62 0 (some 29)) 62 1 (some 16))
theorem iw_20_63 {d n : Nat} {a : Nat → Nat → Int32} {b : Nat → Nat → Int64} {r : Nat → Nat → Option Nat} : Den d 20 0 [.ref 62, .ref 29, .ref 16] [] ((63, n), a, b, r) = some (none, ((65, n), iA_20_63 a, iB_20_63 b, iR_20_63 r)) := by
  have s0 : ∀ (a : Nat → Nat → Int32) (b : Nat → Nat → Int64) (r : Nat → Nat → Option Nat), Den d 20 0 [.ref 62, .ref 29, .ref 16] [] ((63, n), a, b, r) = Den d 20 17 [.ref 62, .ref 29, .ref 16] [.int (iN 8), .ref 62] ((63, n), (uI (uI a 62 2 (iN 0)) 62 3 (iN 0)), b, r) := fun a b r => Den_blk [zm0 (.aload_n 0) 1, zmr (.invokespecial 3) 3 3 0 0 359 0, zm0 (.aload_n 0) 1, zmi (.iconst 0) 1 0, zmr (.putfield 9) 3 2 2 0 362 0, zm0 (.aload_n 0) 1, zmi (.iconst 0) 1 0, zmr (.putfield 15) 3 2 3 0 364 0, zm0 (.aload_n 0) 1, zmi (.bipush 8) 2 8] (by decide +kernel) rfl
  have s1 : ∀ (a : Nat → Nat → Int32) (b : Nat → Nat → Int64) (r : Nat → Nat → Option Nat), Den d 20 17 [.ref 62, .ref 29, .ref 16] [.int (iN 8), .ref 62] ((63, n), a, b, r) = Den d 20 19 [.ref 62, .ref 29, .ref 16] [.ref 63, .ref 62] ((64, n), nwI 63 a, nwL 63 b, nwR 63 r) := fun a b r => Den_nw_int (by decide +kernel) (by decide +kernel) (by decide +kernel)
  have s2 : ∀ (a : Nat → Nat → Int32) (b : Nat → Nat → Int64) (r : Nat → Nat → Option Nat), Den d 20 19 [.ref 62, .ref 29, .ref 16] [.ref 63, .ref 62] ((64, n), a, b, r) = Den d 20 25 [.ref 62, .ref 29, .ref 16] [.int (iN 9), .ref 62] ((64, n), a, b, (uR r 62 4 (some 63))) := fun a b r => Den_blk [zmr (.putfield 18) 3 2 4 2 366 0, zm0 (.aload_n 0) 1, zmi (.bipush 9) 2 9] (by decide +kernel) rfl
  have s3 : ∀ (a : Nat → Nat → Int32) (b : Nat → Nat → Int64) (r : Nat → Nat → Option Nat), Den d 20 25 [.ref 62, .ref 29, .ref 16] [.int (iN 9), .ref 62] ((64, n), a, b, r) = Den d 20 27 [.ref 62, .ref 29, .ref 16] [.ref 64, .ref 62] ((65, n), nwI 64 a, nwL 64 b, nwR 64 r) := fun a b r => Den_nw_int (by decide +kernel) (by decide +kernel) (by decide +kernel)
  have s4 : ∀ (a : Nat → Nat → Int32) (b : Nat → Nat → Int64) (r : Nat → Nat → Option Nat), Den d 20 27 [.ref 62, .ref 29, .ref 16] [.ref 64, .ref 62] ((65, n), a, b, r) = Den d 20 40 [.ref 62, .ref 29, .ref 16] [] ((65, n), a, b, (uR (uR (uR r 62 5 (some 64)) 62 0 (some 29)) 62 1 (some 16))) := fun a b r => Den_blk [zmr (.putfield 22) 3 2 5 2 367 0, zm0 (.aload_n 0) 1, zm0 (.aload_n 1) 1, zmr (.putfield 25) 3 2 0 2 360 0, zm0 (.aload_n 0) 1, zm0 (.aload_n 2) 1, zmr (.putfield 29) 3 2 1 2 361 0] (by decide +kernel) rfl
  rw [s0]
  rw [s1]
  rw [s2]
  rw [s3]
  rw [s4]
  exact Den_retE (zm0 (.return_) 1) (by decide +kernel) rfl
def iA_27_66 (a : Nat → Nat → Int32) : Nat → Nat → Int32 := a
def iB_27_66 (b : Nat → Nat → Int64) : Nat → Nat → Int64 := (uL (uL b 65 1 0) 65 2 1)
def iR_27_66 (r : Nat → Nat → Option Nat) : Nat → Nat → Option Nat := (uR r 65 0 (some 29))
theorem iw_27_66 {d n : Nat} {a : Nat → Nat → Int32} {b : Nat → Nat → Int64} {r : Nat → Nat → Option Nat} : Den d 27 0 [.ref 65, .ref 29] [] ((66, n), a, b, r) = some (none, ((66, n), iA_27_66 a, iB_27_66 b, iR_27_66 r)) := by
  have s0 : ∀ (a : Nat → Nat → Int32) (b : Nat → Nat → Int64) (r : Nat → Nat → Option Nat), Den d 27 0 [.ref 65, .ref 29] [] ((66, n), a, b, r) = Den d 27 19 [.ref 65, .ref 29] [] ((66, n), a, (uL (uL b 65 1 0) 65 2 1), (uR r 65 0 (some 29))) := fun a b r => Den_blk [zm0 (.aload_n 0) 1, zmr (.invokespecial 3) 3 3 0 0 386 0, zm0 (.aload_n 0) 1, zml (.lconst 0) 1 0, zmr (.putfield 9) 3 3 1 1 388 0, zm0 (.aload_n 0) 1, zml (.lconst 1) 1 1, zmr (.putfield 15) 3 3 2 1 389 0, zm0 (.aload_n 0) 1, zm0 (.aload_n 1) 1, zmr (.putfield 18) 3 3 0 2 387 0] (by decide +kernel) rfl
  rw [s0]
  exact Den_retE (zm0 (.return_) 1) (by decide +kernel) rfl
def iA_48_67 (a : Nat → Nat → Int32) : Nat → Nat → Int32 := (nwI 67 a)
def iB_48_67 (b : Nat → Nat → Int64) : Nat → Nat → Int64 := (nwL 67 b)
def iR_48_67 (r : Nat → Nat → Option Nat) : Nat → Nat → Option Nat := (uR (nwR 67 r) 66 0 (some 67))
theorem iw_48_67 {d n : Nat} {a : Nat → Nat → Int32} {b : Nat → Nat → Int64} {r : Nat → Nat → Option Nat} : Den d 48 0 [.ref 66] [] ((67, n), a, b, r) = some (none, ((68, n), iA_48_67 a, iB_48_67 b, iR_48_67 r)) := by
  have s0 : ∀ (a : Nat → Nat → Int32) (b : Nat → Nat → Int64) (r : Nat → Nat → Option Nat), Den d 48 0 [.ref 66] [] ((67, n), a, b, r) = Den d 48 7 [.ref 66] [.int (iN 16), .ref 66] ((67, n), a, b, r) := fun a b r => Den_blk [zm0 (.aload_n 0) 1, zmr (.invokespecial 3) 3 3 0 0 402 0, zm0 (.aload_n 0) 1, zmi (.bipush 16) 2 16] (by decide +kernel) rfl
  have s1 : ∀ (a : Nat → Nat → Int32) (b : Nat → Nat → Int64) (r : Nat → Nat → Option Nat), Den d 48 7 [.ref 66] [.int (iN 16), .ref 66] ((67, n), a, b, r) = Den d 48 9 [.ref 66] [.ref 67, .ref 66] ((68, n), nwI 67 a, nwL 67 b, nwR 67 r) := fun a b r => Den_nw_int (by decide +kernel) (by decide +kernel) (by decide +kernel)
  have s2 : ∀ (a : Nat → Nat → Int32) (b : Nat → Nat → Int64) (r : Nat → Nat → Option Nat), Den d 48 9 [.ref 66] [.ref 67, .ref 66] ((68, n), a, b, r) = Den d 48 12 [.ref 66] [] ((68, n), a, b, (uR r 66 0 (some 67))) := fun a b r => Den_blk [zmr (.putfield 9) 3 5 0 2 403 0] (by decide +kernel) rfl
  rw [s0]
  rw [s1]
  rw [s2]
  exact Den_retE (zm0 (.return_) 1) (by decide +kernel) rfl
def iA_48_69 (a : Nat → Nat → Int32) : Nat → Nat → Int32 := (nwI 69 a)
def iB_48_69 (b : Nat → Nat → Int64) : Nat → Nat → Int64 := (nwL 69 b)
def iR_48_69 (r : Nat → Nat → Option Nat) : Nat → Nat → Option Nat := (uR (nwR 69 r) 68 0 (some 69))
theorem iw_48_69 {d n : Nat} {a : Nat → Nat → Int32} {b : Nat → Nat → Int64} {r : Nat → Nat → Option Nat} : Den d 48 0 [.ref 68] [] ((69, n), a, b, r) = some (none, ((70, n), iA_48_69 a, iB_48_69 b, iR_48_69 r)) := by
  have s0 : ∀ (a : Nat → Nat → Int32) (b : Nat → Nat → Int64) (r : Nat → Nat → Option Nat), Den d 48 0 [.ref 68] [] ((69, n), a, b, r) = Den d 48 7 [.ref 68] [.int (iN 16), .ref 68] ((69, n), a, b, r) := fun a b r => Den_blk [zm0 (.aload_n 0) 1, zmr (.invokespecial 3) 3 3 0 0 402 0, zm0 (.aload_n 0) 1, zmi (.bipush 16) 2 16] (by decide +kernel) rfl
  have s1 : ∀ (a : Nat → Nat → Int32) (b : Nat → Nat → Int64) (r : Nat → Nat → Option Nat), Den d 48 7 [.ref 68] [.int (iN 16), .ref 68] ((69, n), a, b, r) = Den d 48 9 [.ref 68] [.ref 69, .ref 68] ((70, n), nwI 69 a, nwL 69 b, nwR 69 r) := fun a b r => Den_nw_int (by decide +kernel) (by decide +kernel) (by decide +kernel)
  have s2 : ∀ (a : Nat → Nat → Int32) (b : Nat → Nat → Int64) (r : Nat → Nat → Option Nat), Den d 48 9 [.ref 68] [.ref 69, .ref 68] ((70, n), a, b, r) = Den d 48 12 [.ref 68] [] ((70, n), a, b, (uR r 68 0 (some 69))) := fun a b r => Den_blk [zmr (.putfield 9) 3 5 0 2 403 0] (by decide +kernel) rfl
  rw [s0]
  rw [s1]
  rw [s2]
  exact Den_retE (zm0 (.return_) 1) (by decide +kernel) rfl
def iA_82_71 (a : Nat → Nat → Int32) : Nat → Nat → Int32 := (nwI 75 (nwI 74 (nwI 73 (nwI 72 (nwI 71 (uI (uI (uI a 70 0 (iN 0)) 70 1 (iN 0)) 70 2 (iN 0)))))))
def iB_82_71 (b : Nat → Nat → Int64) : Nat → Nat → Int64 := (nwL 75 (nwL 74 (nwL 73 (nwL 72 (nwL 71 b)))))
def iR_82_71 (r : Nat → Nat → Option Nat) : Nat → Nat → Option Nat := (uR (nwR 75 (uR (nwR 74 (uR (nwR 73 (uR (nwR 72 (uR (nwR 71 r) 70 3 (some 71))) 70 4 (some 72))) 70 5 (some 73))) 70 6 (some 74))) 70 7 (some 75))
theorem iw_82_71 {d n : Nat} {a : Nat → Nat → Int32} {b : Nat → Nat → Int64} {r : Nat → Nat → Option Nat} : Den d 82 0 [.ref 70] [] ((71, n), a, b, r) = some (none, ((76, n), iA_82_71 a, iB_82_71 b, iR_82_71 r)) := by
  have s0 : ∀ (a : Nat → Nat → Int32) (b : Nat → Nat → Int64) (r : Nat → Nat → Option Nat), Den d 82 0 [.ref 70] [] ((71, n), a, b, r) = Den d 82 23 [.ref 70] [.int (iN 480), .ref 70] ((71, n), (uI (uI (uI a 70 0 (iN 0)) 70 1 (iN 0)) 70 2 (iN 0)), b, r) := fun a b r => Den_blk [zm0 (.aload_n 0) 1, zmr (.invokespecial 3) 3 3 0 0 200 0, zm0 (.aload_n 0) 1, zmi (.iconst 0) 1 0, zmr (.putfield 9) 3 10 0 0 201 0, zm0 (.aload_n 0) 1, zmi (.iconst 0) 1 0, zmr (.putfield 15) 3 10 1 0 205 0, zm0 (.aload_n 0) 1, zmi (.iconst 0) 1 0, zmr (.putfield 18) 3 10 2 0 207 0, zm0 (.aload_n 0) 1, zmi (.sipush 480) 3 480] (by decide +kernel) rfl
  have s1 : ∀ (a : Nat → Nat → Int32) (b : Nat → Nat → Int64) (r : Nat → Nat → Option Nat), Den d 82 23 [.ref 70] [.int (iN 480), .ref 70] ((71, n), a, b, r) = Den d 82 25 [.ref 70] [.ref 71, .ref 70] ((72, n), nwI 71 a, nwL 71 b, nwR 71 r) := fun a b r => Den_nw_int (by decide +kernel) (by decide +kernel) (by decide +kernel)
  have s2 : ∀ (a : Nat → Nat → Int32) (b : Nat → Nat → Int64) (r : Nat → Nat → Option Nat), Den d 82 25 [.ref 70] [.ref 71, .ref 70] ((72, n), a, b, r) = Den d 82 31 [.ref 70] [.int (iN 16), .ref 70] ((72, n), a, b, (uR r 70 3 (some 71))) := fun a b r => Den_blk [zmr (.putfield 21) 3 10 3 2 208 0, zm0 (.aload_n 0) 1, zmi (.bipush 16) 2 16] (by decide +kernel) rfl
  have s3 : ∀ (a : Nat → Nat → Int32) (b : Nat → Nat → Int64) (r : Nat → Nat → Option Nat), Den d 82 31 [.ref 70] [.int (iN 16), .ref 70] ((72, n), a, b, r) = Den d 82 33 [.ref 70] [.ref 72, .ref 70] ((73, n), nwI 72 a, nwL 72 b, nwR 72 r) := fun a b r => Den_nw_int (by decide +kernel) (by decide +kernel) (by decide +kernel)
  have s4 : ∀ (a : Nat → Nat → Int32) (b : Nat → Nat → Int64) (r : Nat → Nat → Option Nat), Den d 82 33 [.ref 70] [.ref 72, .ref 70] ((73, n), a, b, r) = Den d 82 39 [.ref 70] [.int (iN 16), .ref 70] ((73, n), a, b, (uR r 70 4 (some 72))) := fun a b r => Den_blk [zmr (.putfield 25) 3 10 4 2 209 0, zm0 (.aload_n 0) 1, zmi (.bipush 16) 2 16] (by decide +kernel) rfl
  have s5 : ∀ (a : Nat → Nat → Int32) (b : Nat → Nat → Int64) (r : Nat → Nat → Option Nat), Den d 82 39 [.ref 70] [.int (iN 16), .ref 70] ((73, n), a, b, r) = Den d 82 41 [.ref 70] [.ref 73, .ref 70] ((74, n), nwI 73 a, nwL 73 b, nwR 73 r) := fun a b r => Den_nw_int (by decide +kernel) (by decide +kernel) (by decide +kernel)
  have s6 : ∀ (a : Nat → Nat → Int32) (b : Nat → Nat → Int64) (r : Nat → Nat → Option Nat), Den d 82 41 [.ref 70] [.ref 73, .ref 70] ((74, n), a, b, r) = Den d 82 47 [.ref 70] [.int (iN 16), .ref 70] ((74, n), a, b, (uR r 70 5 (some 73))) := fun a b r => Den_blk [zmr (.putfield 28) 3 10 5 2 211 0, zm0 (.aload_n 0) 1, zmi (.bipush 16) 2 16] (by decide +kernel) rfl
  have s7 : ∀ (a : Nat → Nat → Int32) (b : Nat → Nat → Int64) (r : Nat → Nat → Option Nat), Den d 82 47 [.ref 70] [.int (iN 16), .ref 70] ((74, n), a, b, r) = Den d 82 49 [.ref 70] [.ref 74, .ref 70] ((75, n), nwI 74 a, nwL 74 b, nwR 74 r) := fun a b r => Den_nw_int (by decide +kernel) (by decide +kernel) (by decide +kernel)
  have s8 : ∀ (a : Nat → Nat → Int32) (b : Nat → Nat → Int64) (r : Nat → Nat → Option Nat), Den d 82 49 [.ref 70] [.ref 74, .ref 70] ((75, n), a, b, r) = Den d 82 55 [.ref 70] [.int (iN 32), .ref 70] ((75, n), a, b, (uR r 70 6 (some 74))) := fun a b r => Den_blk [zmr (.putfield 31) 3 10 6 2 213 0, zm0 (.aload_n 0) 1, zmi (.bipush 32) 2 32] (by decide +kernel) rfl
  have s9 : ∀ (a : Nat → Nat → Int32) (b : Nat → Nat → Int64) (r : Nat → Nat → Option Nat), Den d 82 55 [.ref 70] [.int (iN 32), .ref 70] ((75, n), a, b, r) = Den d 82 57 [.ref 70] [.ref 75, .ref 70] ((76, n), nwI 75 a, nwL 75 b, nwR 75 r) := fun a b r => Den_nw_int (by decide +kernel) (by decide +kernel) (by decide +kernel)
  have s10 : ∀ (a : Nat → Nat → Int32) (b : Nat → Nat → Int64) (r : Nat → Nat → Option Nat), Den d 82 57 [.ref 70] [.ref 75, .ref 70] ((76, n), a, b, r) = Den d 82 60 [.ref 70] [] ((76, n), a, b, (uR r 70 7 (some 75))) := fun a b r => Den_blk [zmr (.putfield 34) 3 10 7 2 215 0] (by decide +kernel) rfl
  rw [s0]
  rw [s1]
  rw [s2]
  rw [s3]
  rw [s4]
  rw [s5]
  rw [s6]
  rw [s7]
  rw [s8]
  rw [s9]
  rw [s10]
  exact Den_retE (zm0 (.return_) 1) (by decide +kernel) rfl
def iA_82_77 (a : Nat → Nat → Int32) : Nat → Nat → Int32 := (nwI 81 (nwI 80 (nwI 79 (nwI 78 (nwI 77 (uI (uI (uI a 76 0 (iN 0)) 76 1 (iN 0)) 76 2 (iN 0)))))))
def iB_82_77 (b : Nat → Nat → Int64) : Nat → Nat → Int64 := (nwL 81 (nwL 80 (nwL 79 (nwL 78 (nwL 77 b)))))
def iR_82_77 (r : Nat → Nat → Option Nat) : Nat → Nat → Option Nat := (uR (nwR 81 (uR (nwR 80 (uR (nwR 79 (uR (nwR 78 (uR (nwR 77 r) 76 3 (some 77))) 76 4 (some 78))) 76 5 (some 79))) 76 6 (some 80))) 76 7 (some 81))
theorem iw_82_77 {d n : Nat} {a : Nat → Nat → Int32} {b : Nat → Nat → Int64} {r : Nat → Nat → Option Nat} : Den d 82 0 [.ref 76] [] ((77, n), a, b, r) = some (none, ((82, n), iA_82_77 a, iB_82_77 b, iR_82_77 r)) := by
  have s0 : ∀ (a : Nat → Nat → Int32) (b : Nat → Nat → Int64) (r : Nat → Nat → Option Nat), Den d 82 0 [.ref 76] [] ((77, n), a, b, r) = Den d 82 23 [.ref 76] [.int (iN 480), .ref 76] ((77, n), (uI (uI (uI a 76 0 (iN 0)) 76 1 (iN 0)) 76 2 (iN 0)), b, r) := fun a b r => Den_blk [zm0 (.aload_n 0) 1, zmr (.invokespecial 3) 3 3 0 0 200 0, zm0 (.aload_n 0) 1, zmi (.iconst 0) 1 0, zmr (.putfield 9) 3 10 0 0 201 0, zm0 (.aload_n 0) 1, zmi (.iconst 0) 1 0, zmr (.putfield 15) 3 10 1 0 205 0, zm0 (.aload_n 0) 1, zmi (.iconst 0) 1 0, zmr (.putfield 18) 3 10 2 0 207 0, zm0 (.aload_n 0) 1, zmi (.sipush 480) 3 480] (by decide +kernel) rfl
  have s1 : ∀ (a : Nat → Nat → Int32) (b : Nat → Nat → Int64) (r : Nat → Nat → Option Nat), Den d 82 23 [.ref 76] [.int (iN 480), .ref 76] ((77, n), a, b, r) = Den d 82 25 [.ref 76] [.ref 77, .ref 76] ((78, n), nwI 77 a, nwL 77 b, nwR 77 r) := fun a b r => Den_nw_int (by decide +kernel) (by decide +kernel) (by decide +kernel)
  have s2 : ∀ (a : Nat → Nat → Int32) (b : Nat → Nat → Int64) (r : Nat → Nat → Option Nat), Den d 82 25 [.ref 76] [.ref 77, .ref 76] ((78, n), a, b, r) = Den d 82 31 [.ref 76] [.int (iN 16), .ref 76] ((78, n), a, b, (uR r 76 3 (some 77))) := fun a b r => Den_blk [zmr (.putfield 21) 3 10 3 2 208 0, zm0 (.aload_n 0) 1, zmi (.bipush 16) 2 16] (by decide +kernel) rfl
  have s3 : ∀ (a : Nat → Nat → Int32) (b : Nat → Nat → Int64) (r : Nat → Nat → Option Nat), Den d 82 31 [.ref 76] [.int (iN 16), .ref 76] ((78, n), a, b, r) = Den d 82 33 [.ref 76] [.ref 78, .ref 76] ((79, n), nwI 78 a, nwL 78 b, nwR 78 r) := fun a b r => Den_nw_int (by decide +kernel) (by decide +kernel) (by decide +kernel)
  have s4 : ∀ (a : Nat → Nat → Int32) (b : Nat → Nat → Int64) (r : Nat → Nat → Option Nat), Den d 82 33 [.ref 76] [.ref 78, .ref 76] ((79, n), a, b, r) = Den d 82 39 [.ref 76] [.int (iN 16), .ref 76] ((79, n), a, b, (uR r 76 4 (some 78))) := fun a b r => Den_blk [zmr (.putfield 25) 3 10 4 2 209 0, zm0 (.aload_n 0) 1, zmi (.bipush 16) 2 16] (by decide +kernel) rfl
  have s5 : ∀ (a : Nat → Nat → Int32) (b : Nat → Nat → Int64) (r : Nat → Nat → Option Nat), Den d 82 39 [.ref 76] [.int (iN 16), .ref 76] ((79, n), a, b, r) = Den d 82 41 [.ref 76] [.ref 79, .ref 76] ((80, n), nwI 79 a, nwL 79 b, nwR 79 r) := fun a b r => Den_nw_int (by decide +kernel) (by decide +kernel) (by decide +kernel)
  have s6 : ∀ (a : Nat → Nat → Int32) (b : Nat → Nat → Int64) (r : Nat → Nat → Option Nat), Den d 82 41 [.ref 76] [.ref 79, .ref 76] ((80, n), a, b, r) = Den d 82 47 [.ref 76] [.int (iN 16), .ref 76] ((80, n), a, b, (uR r 76 5 (some 79))) := fun a b r => Den_blk [zmr (.putfield 28) 3 10 5 2 211 0, zm0 (.aload_n 0) 1, zmi (.bipush 16) 2 16] (by decide +kernel) rfl
  have s7 : ∀ (a : Nat → Nat → Int32) (b : Nat → Nat → Int64) (r : Nat → Nat → Option Nat), Den d 82 47 [.ref 76] [.int (iN 16), .ref 76] ((80, n), a, b, r) = Den d 82 49 [.ref 76] [.ref 80, .ref 76] ((81, n), nwI 80 a, nwL 80 b, nwR 80 r) := fun a b r => Den_nw_int (by decide +kernel) (by decide +kernel) (by decide +kernel)
  have s8 : ∀ (a : Nat → Nat → Int32) (b : Nat → Nat → Int64) (r : Nat → Nat → Option Nat), Den d 82 49 [.ref 76] [.ref 80, .ref 76] ((81, n), a, b, r) = Den d 82 55 [.ref 76] [.int (iN 32), .ref 76] ((81, n), a, b, (uR r 76 6 (some 80))) := fun a b r => Den_blk [zmr (.putfield 31) 3 10 6 2 213 0, zm0 (.aload_n 0) 1, zmi (.bipush 32) 2 32] (by decide +kernel) rfl
  have s9 : ∀ (a : Nat → Nat → Int32) (b : Nat → Nat → Int64) (r : Nat → Nat → Option Nat), Den d 82 55 [.ref 76] [.int (iN 32), .ref 76] ((81, n), a, b, r) = Den d 82 57 [.ref 76] [.ref 81, .ref 76] ((82, n), nwI 81 a, nwL 81 b, nwR 81 r) := fun a b r => Den_nw_int (by decide +kernel) (by decide +kernel) (by decide +kernel)
  have s10 : ∀ (a : Nat → Nat → Int32) (b : Nat → Nat → Int64) (r : Nat → Nat → Option Nat), Den d 82 57 [.ref 76] [.ref 81, .ref 76] ((82, n), a, b, r) = Den d 82 60 [.ref 76] [] ((82, n), a, b, (uR r 76 7 (some 81))) := fun a b r => Den_blk [zmr (.putfield 34) 3 10 7 2 215 0] (by decide +kernel) rfl
  rw [s0]
  rw [s1]
  rw [s2]
  rw [s3]
  rw [s4]
  rw [s5]
  rw [s6]
  rw [s7]
  rw [s8]
  rw [s9]
  rw [s10]
  exact Den_retE (zm0 (.return_) 1) (by decide +kernel) rfl
def iA_82_83 (a : Nat → Nat → Int32) : Nat → Nat → Int32 := (nwI 87 (nwI 86 (nwI 85 (nwI 84 (nwI 83 (uI (uI (uI a 82 0 (iN 0)) 82 1 (iN 0)) 82 2 (iN 0)))))))
def iB_82_83 (b : Nat → Nat → Int64) : Nat → Nat → Int64 := (nwL 87 (nwL 86 (nwL 85 (nwL 84 (nwL 83 b)))))
def iR_82_83 (r : Nat → Nat → Option Nat) : Nat → Nat → Option Nat := (uR (nwR 87 (uR (nwR 86 (uR (nwR 85 (uR (nwR 84 (uR (nwR 83 r) 82 3 (some 83))) 82 4 (some 84))) 82 5 (some 85))) 82 6 (some 86))) 82 7 (some 87))
theorem iw_82_83 {d n : Nat} {a : Nat → Nat → Int32} {b : Nat → Nat → Int64} {r : Nat → Nat → Option Nat} : Den d 82 0 [.ref 82] [] ((83, n), a, b, r) = some (none, ((88, n), iA_82_83 a, iB_82_83 b, iR_82_83 r)) := by
  have s0 : ∀ (a : Nat → Nat → Int32) (b : Nat → Nat → Int64) (r : Nat → Nat → Option Nat), Den d 82 0 [.ref 82] [] ((83, n), a, b, r) = Den d 82 23 [.ref 82] [.int (iN 480), .ref 82] ((83, n), (uI (uI (uI a 82 0 (iN 0)) 82 1 (iN 0)) 82 2 (iN 0)), b, r) := fun a b r => Den_blk [zm0 (.aload_n 0) 1, zmr (.invokespecial 3) 3 3 0 0 200 0, zm0 (.aload_n 0) 1, zmi (.iconst 0) 1 0, zmr (.putfield 9) 3 10 0 0 201 0, zm0 (.aload_n 0) 1, zmi (.iconst 0) 1 0, zmr (.putfield 15) 3 10 1 0 205 0, zm0 (.aload_n 0) 1, zmi (.iconst 0) 1 0, zmr (.putfield 18) 3 10 2 0 207 0, zm0 (.aload_n 0) 1, zmi (.sipush 480) 3 480] (by decide +kernel) rfl
  have s1 : ∀ (a : Nat → Nat → Int32) (b : Nat → Nat → Int64) (r : Nat → Nat → Option Nat), Den d 82 23 [.ref 82] [.int (iN 480), .ref 82] ((83, n), a, b, r) = Den d 82 25 [.ref 82] [.ref 83, .ref 82] ((84, n), nwI 83 a, nwL 83 b, nwR 83 r) := fun a b r => Den_nw_int (by decide +kernel) (by decide +kernel) (by decide +kernel)
  have s2 : ∀ (a : Nat → Nat → Int32) (b : Nat → Nat → Int64) (r : Nat → Nat → Option Nat), Den d 82 25 [.ref 82] [.ref 83, .ref 82] ((84, n), a, b, r) = Den d 82 31 [.ref 82] [.int (iN 16), .ref 82] ((84, n), a, b, (uR r 82 3 (some 83))) := fun a b r => Den_blk [zmr (.putfield 21) 3 10 3 2 208 0, zm0 (.aload_n 0) 1, zmi (.bipush 16) 2 16] (by decide +kernel) rfl
  have s3 : ∀ (a : Nat → Nat → Int32) (b : Nat → Nat → Int64) (r : Nat → Nat → Option Nat), Den d 82 31 [.ref 82] [.int (iN 16), .ref 82] ((84, n), a, b, r) = Den d 82 33 [.ref 82] [.ref 84, .ref 82] ((85, n), nwI 84 a, nwL 84 b, nwR 84 r) := fun a b r => Den_nw_int (by decide +kernel) (by decide +kernel) (by decide +kernel)
  have s4 : ∀ (a : Nat → Nat → Int32) (b : Nat → Nat → Int64) (r : Nat → Nat → Option Nat), Den d 82 33 [.ref 82] [.ref 84, .ref 82] ((85, n), a, b, r) = Den d 82 39 [.ref 82] [.int (iN 16), .ref 82] ((85, n), a, b, (uR r 82 4 (some 84))) := fun a b r => Den_blk [zmr (.putfield 25) 3 10 4 2 209 0, zm0 (.aload_n 0) 1, zmi (.bipush 16) 2 16] (by decide +kernel) rfl
  have s5 : ∀ (a : Nat → Nat → Int32) (b : Nat → Nat → Int64) (r : Nat → Nat → Option Nat), Den d 82 39 [.ref 82] [.int (iN 16), .ref 82] ((85, n), a, b, r) = Den d 82 41 [.ref 82] [.ref 85, .ref 82] ((86, n), nwI 85 a, nwL 85 b, nwR 85 r) := fun a b r => Den_nw_int (by decide +kernel) (by decide +kernel) (by decide +kernel)
  have s6 : ∀ (a : Nat → Nat → Int32) (b : Nat → Nat → Int64) (r : Nat → Nat → Option Nat), Den d 82 41 [.ref 82] [.ref 85, .ref 82] ((86, n), a, b, r) = Den d 82 47 [.ref 82] [.int (iN 16), .ref 82] ((86, n), a, b, (uR r 82 5 (some 85))) := fun a b r => Den_blk [zmr (.putfield 28) 3 10 5 2 211 0, zm0 (.aload_n 0) 1, zmi (.bipush 16) 2 16] (by decide +kernel) rfl
  have s7 : ∀ (a : Nat → Nat → Int32) (b : Nat → Nat → Int64) (r : Nat → Nat → Option Nat), Den d 82 47 [.ref 82] [.int (iN 16), .ref 82] ((86, n), a, b, r) = Den d 82 49 [.ref 82] [.ref 86, .ref 82] ((87, n), nwI 86 a, nwL 86 b, nwR 86 r) := fun a b r => Den_nw_int (by decide +kernel) (by decide +kernel) (by decide +kernel)
  have s8 : ∀ (a : Nat → Nat → Int32) (b : Nat → Nat → Int64) (r : Nat → Nat → Option Nat), Den d 82 49 [.ref 82] [.ref 86, .ref 82] ((87, n), a, b, r) = Den d 82 55 [.ref 82] [.int (iN 32), .ref 82] ((87, n), a, b, (uR r 82 6 (some 86))) := fun a b r => Den_blk [zmr (.putfield 31) 3 10 6 2 213 0, zm0 (.aload_n 0) 1, zmi (.bipush 32) 2 32] (by decide +kernel) rfl
  have s9 : ∀ (a : Nat → Nat → Int32) (b : Nat → Nat → Int64) (r : Nat → Nat → Option Nat), Den d 82 55 [.ref 82] [.int (iN 32), .ref 82] ((87, n), a, b, r) = Den d 82 57 [.ref 82] [.ref 87, .ref 82] ((88, n), nwI 87 a, nwL 87 b, nwR 87 r) := fun a b r => Den_nw_int (by decide +kernel) (by decide +kernel) (by decide +kernel)
  have s10 : ∀ (a : Nat → Nat → Int32) (b : Nat → Nat → Int64) (r : Nat → Nat → Option Nat), Den d 82 57 [.ref 82] [.ref 87, .ref 82] ((88, n), a, b, r) = Den d 82 60 [.ref 82] [] ((88, n), a, b, (uR r 82 7 (some 87))) := fun a b r => Den_blk [zmr (.putfield 34) 3 10 7 2 215 0] (by decide +kernel) rfl
  rw [s0]
  rw [s1]
  rw [s2]
  rw [s3]
  rw [s4]
  rw [s5]
  rw [s6]
  rw [s7]
  rw [s8]
  rw [s9]
  rw [s10]
  exact Den_retE (zm0 (.return_) 1) (by decide +kernel) rfl
def iA_82_89 (a : Nat → Nat → Int32) : Nat → Nat → Int32 := (nwI 93 (nwI 92 (nwI 91 (nwI 90 (nwI 89 (uI (uI (uI a 88 0 (iN 0)) 88 1 (iN 0)) 88 2 (iN 0)))))))
def iB_82_89 (b : Nat → Nat → Int64) : Nat → Nat → Int64 := (nwL 93 (nwL 92 (nwL 91 (nwL 90 (nwL 89 b)))))
def iR_82_89 (r : Nat → Nat → Option Nat) : Nat → Nat → Option Nat := (uR (nwR 93 (uR (nwR 92 (uR (nwR 91 (uR (nwR 90 (uR (nwR 89 r) 88 3 (some 89))) 88 4 (some 90))) 88 5 (some 91))) 88 6 (some 92))) 88 7 (some 93))
theorem iw_82_89 {d n : Nat} {a : Nat → Nat → Int32} {b : Nat → Nat → Int64} {r : Nat → Nat → Option Nat} : Den d 82 0 [.ref 88] [] ((89, n), a, b, r) = some (none, ((94, n), iA_82_89 a, iB_82_89 b, iR_82_89 r)) := by
  have s0 : ∀ (a : Nat → Nat → Int32) (b : Nat → Nat → Int64) (r : Nat → Nat → Option Nat), Den d 82 0 [.ref 88] [] ((89, n), a, b, r) = Den d 82 23 [.ref 88] [.int (iN 480), .ref 88] ((89, n), (uI (uI (uI a 88 0 (iN 0)) 88 1 (iN 0)) 88 2 (iN 0)), b, r) := fun a b r => Den_blk [zm0 (.aload_n 0) 1, zmr (.invokespecial 3) 3 3 0 0 200 0, zm0 (.aload_n 0) 1, zmi (.iconst 0) 1 0, zmr (.putfield 9) 3 10 0 0 201 0, zm0 (.aload_n 0) 1, zmi (.iconst 0) 1 0, zmr (.putfield 15) 3 10 1 0 205 0, zm0 (.aload_n 0) 1, zmi (.iconst 0) 1 0, zmr (.putfield 18) 3 10 2 0 207 0, zm0 (.aload_n 0) 1, zmi (.sipush 480) 3 480] (by decide +kernel) rfl
  have s1 : ∀ (a : Nat → Nat → Int32) (b : Nat → Nat → Int64) (r : Nat → Nat → Option Nat), Den d 82 23 [.ref 88] [.int (iN 480), .ref 88] ((89, n), a, b, r) = Den d 82 25 [.ref 88] [.ref 89, .ref 88] ((90, n), nwI 89 a, nwL 89 b, nwR 89 r) := fun a b r => Den_nw_int (by decide +kernel) (by decide +kernel) (by decide +kernel)
  have s2 : ∀ (a : Nat → Nat → Int32) (b : Nat → Nat → Int64) (r : Nat → Nat → Option Nat), Den d 82 25 [.ref 88] [.ref 89, .ref 88] ((90, n), a, b, r) = Den d 82 31 [.ref 88] [.int (iN 16), .ref 88] ((90, n), a, b, (uR r 88 3 (some 89))) := fun a b r => Den_blk [zmr (.putfield 21) 3 10 3 2 208 0, zm0 (.aload_n 0) 1, zmi (.bipush 16) 2 16] (by decide +kernel) rfl
  have s3 : ∀ (a : Nat → Nat → Int32) (b : Nat → Nat → Int64) (r : Nat → Nat → Option Nat), Den d 82 31 [.ref 88] [.int (iN 16), .ref 88] ((90, n), a, b, r) = Den d 82 33 [.ref 88] [.ref 90, .ref 88] ((91, n), nwI 90 a, nwL 90 b, nwR 90 r) := fun a b r => Den_nw_int (by decide +kernel) (by decide +kernel) (by decide +kernel)
  have s4 : ∀ (a : Nat → Nat → Int32) (b : Nat → Nat → Int64) (r : Nat → Nat → Option Nat), Den d 82 33 [.ref 88] [.ref 90, .ref 88] ((91, n), a, b, r) = Den d 82 39 [.ref 88] [.int (iN 16), .ref 88] ((91, n), a, b, (uR r 88 4 (some 90))) := fun a b r => Den_blk [zmr (.putfield 25) 3 10 4 2 209 0, zm0 (.aload_n 0) 1, zmi (.bipush 16) 2 16] (by decide +kernel) rfl
  have s5 : ∀ (a : Nat → Nat → Int32) (b : Nat → Nat → Int64) (r : Nat → Nat → Option Nat), Den d 82 39 [.ref 88] [.int (iN 16), .ref 88] ((91, n), a, b, r) = Den d 82 41 [.ref 88] [.ref 91, .ref 88] ((92, n), nwI 91 a, nwL 91 b, nwR 91 r) := fun a b r => Den_nw_int (by decide +kernel) (by decide +kernel) (by decide +kernel)
  have s6 : ∀ (a : Nat → Nat → Int32) (b : Nat → Nat → Int64) (r : Nat → Nat → Option Nat), Den d 82 41 [.ref 88] [.ref 91, .ref 88] ((92, n), a, b, r) = Den d 82 47 [.ref 88] [.int (iN 16), .ref 88] ((92, n), a, b, (uR r 88 5 (some 91))) := fun a b r => Den_blk [zmr (.putfield 28) 3 10 5 2 211 0, zm0 (.aload_n 0) 1, zmi (.bipush 16) 2 16] (by decide +kernel) rfl
  have s7 : ∀ (a : Nat → Nat → Int32) (b : Nat → Nat → Int64) (r : Nat → Nat → Option Nat), Den d 82 47 [.ref 88] [.int (iN 16), .ref 88] ((92, n), a, b, r) = Den d 82 49 [.ref 88] [.ref 92, .ref 88] ((93, n), nwI 92 a, nwL 92 b, nwR 92 r) := fun a b r => Den_nw_int (by decide +kernel) (by decide +kernel) (by decide +kernel)
  have s8 : ∀ (a : Nat → Nat → Int32) (b : Nat → Nat → Int64) (r : Nat → Nat → Option Nat), Den d 82 49 [.ref 88] [.ref 92, .ref 88] ((93, n), a, b, r) = Den d 82 55 [.ref 88] [.int (iN 32), .ref 88] ((93, n), a, b, (uR r 88 6 (some 92))) := fun a b r => Den_blk [zmr (.putfield 31) 3 10 6 2 213 0, zm0 (.aload_n 0) 1, zmi (.bipush 32) 2 32] (by decide +kernel) rfl
  have s9 : ∀ (a : Nat → Nat → Int32) (b : Nat → Nat → Int64) (r : Nat → Nat → Option Nat), Den d 82 55 [.ref 88] [.int (iN 32), .ref 88] ((93, n), a, b, r) = Den d 82 57 [.ref 88] [.ref 93, .ref 88] ((94, n), nwI 93 a, nwL 93 b, nwR 93 r) := fun a b r => Den_nw_int (by decide +kernel) (by decide +kernel) (by decide +kernel)
  have s10 : ∀ (a : Nat → Nat → Int32) (b : Nat → Nat → Int64) (r : Nat → Nat → Option Nat), Den d 82 57 [.ref 88] [.ref 93, .ref 88] ((94, n), a, b, r) = Den d 82 60 [.ref 88] [] ((94, n), a, b, (uR r 88 7 (some 93))) := fun a b r => Den_blk [zmr (.putfield 34) 3 10 7 2 215 0] (by decide +kernel) rfl
  rw [s0]
  rw [s1]
  rw [s2]
  rw [s3]
  rw [s4]
  rw [s5]
  rw [s6]
  rw [s7]
  rw [s8]
  rw [s9]
  rw [s10]
  exact Den_retE (zm0 (.return_) 1) (by decide +kernel) rfl
def iA_92_15 (a : Nat → Nat → Int32) : Nat → Nat → Int32 := (iA_82_89 (nwI 88 (iA_82_83 (nwI 82 (iA_82_77 (nwI 76 (iA_82_71 (nwI 70 (iA_48_69 (nwI 68 (iA_48_67 (nwI 66 (iA_27_66 (nwI 65 (iA_20_63 (nwI 62 (iA_8_56 (nwI 55 (iA_1_53 (nwI 52 (iA_34_45 (nwI 44 (iA_82_39 (nwI 38 (nwI 37 (iA_56_30 (nwI 29 (iA_52_28 (nwI 27 (iA_77_25 (nwI 24 (uI (iA_66_21 (nwI 20 (iA_66_17 (nwI 16 (uI (nwI 15 a) 14 1 (iN 0)))))) 14 4 (iN 0)))))))))))))))))))))))))))))))))
def iB_92_15 (b : Nat → Nat → Int64) : Nat → Nat → Int64 := (iB_82_89 (nwL 88 (iB_82_83 (nwL 82 (iB_82_77 (nwL 76 (iB_82_71 (nwL 70 (iB_48_69 (nwL 68 (iB_48_67 (nwL 66 (iB_27_66 (nwL 65 (iB_20_63 (nwL 62 (iB_8_56 (nwL 55 (iB_1_53 (nwL 52 (iB_34_45 (nwL 44 (iB_82_39 (nwL 38 (nwL 37 (iB_56_30 (nwL 29 (iB_52_28 (nwL 27 (iB_77_25 (nwL 24 (iB_66_21 (nwL 20 (iB_66_17 (nwL 16 (nwL 15 b))))))))))))))))))))))))))))))))))))
def iR_92_15 (r : Nat → Nat → Option Nat) : Nat → Nat → Option Nat := (uR (iR_82_89 (nwR 88 (uR (iR_82_83 (nwR 82 (uR (iR_82_77 (nwR 76 (uR (iR_82_71 (nwR 70 (uR (iR_48_69 (nwR 68 (uR (iR_48_67 (nwR 66 (uR (iR_27_66 (nwR 65 (uR (iR_20_63 (nwR 62 (uR (iR_8_56 (nwR 55 (uR (iR_1_53 (nwR 52 (uR (iR_34_45 (nwR 44 (uR (iR_82_39 (nwR 38 (uR (nwR 37 (uR (iR_56_30 (nwR 29 (uR (iR_52_28 (nwR 27 (uR (iR_77_25 (nwR 24 (uR (iR_66_21 (nwR 20 (uR (iR_66_17 (nwR 16 (uR (nwR 15 r) 14 0 (some 15)))) 14 2 (some 16)))) 14 3 (some 20)))) 14 5 (some 24)))) 14 6 (some 27)))) 14 7 (some 29))) 14 8 (some 37)))) 14 9 (some 38)))) 14 10 (some 44)))) 14 11 (some 52)))) 14 12 (some 55)))) 14 13 (some 62)))) 14 14 (some 65)))) 14 15 (some 66)))) 14 16 (some 68)))) 37 0 (some 70)))) 37 1 (some 76)))) 37 2 (some 82)))) 37 3 (some 88))
theorem iw_92_15 {d n : Nat} {a : Nat → Nat → Int32} {b : Nat → Nat → Int64} {r : Nat → Nat → Option Nat} : Den (d + 2) 92 0 [.ref 14, zmJ] [] ((15, n), a, b, r) = some (none, ((94, n), iA_92_15 a, iB_92_15 b, iR_92_15 r)) := by
  have s0 : ∀ (a : Nat → Nat → Int32) (b : Nat → Nat → Int64) (r : Nat → Nat → Option Nat), Den (d + 2) 92 0 [.ref 14, zmJ] [] ((15, n), a, b, r) = Den (d + 2) 92 8 [.ref 14, zmJ] [.int (iN 260), .ref 14] ((15, n), a, b, r) := fun a b r => Den_blk [zm0 (.aload_n 0) 1, zmr (.invokespecial 3) 3 3 0 0 118 0, zm0 (.aload_n 0) 1, zmi (.sipush 260) 3 260] (by decide +kernel) rfl
  have s1 : ∀ (a : Nat → Nat → Int32) (b : Nat → Nat → Int64) (r : Nat → Nat → Option Nat), Den (d + 2) 92 8 [.ref 14, zmJ] [.int (iN 260), .ref 14] ((15, n), a, b, r) = Den (d + 2) 92 10 [.ref 14, zmJ] [.ref 15, .ref 14] ((16, n), nwI 15 a, nwL 15 b, nwR 15 r) := fun a b r => Den_nw_int (by decide +kernel) (by decide +kernel) (by decide +kernel)
  have s2 : ∀ (a : Nat → Nat → Int32) (b : Nat → Nat → Int64) (r : Nat → Nat → Option Nat), Den (d + 2) 92 10 [.ref 14, zmJ] [.ref 15, .ref 14] ((16, n), a, b, r) = Den (d + 2) 92 19 [.ref 14, zmJ] [.ref 14] ((16, n), (uI a 14 1 (iN 0)), b, (uR r 14 0 (some 15))) := fun a b r => Den_blk [zmr (.putfield 9) 3 11 0 2 407 0, zm0 (.aload_n 0) 1, zmi (.iconst 0) 1 0, zmr (.putfield 13) 3 11 1 0 408 0, zm0 (.aload_n 0) 1] (by decide +kernel) rfl
  have s3 : ∀ (a : Nat → Nat → Int32) (b : Nat → Nat → Int64) (r : Nat → Nat → Option Nat), Den (d + 2) 92 19 [.ref 14, zmJ] [.ref 14] ((16, n), a, b, r) = Den (d + 2) 92 22 [.ref 14, zmJ] [.ref 16, .ref 14] ((17, n), nwI 16 a, nwL 16 b, nwR 16 r) := fun a b r => Den_new (zmr (.new 17) 3 8 0 0 121 0) (by decide +kernel) (by decide +kernel) rfl
  have s4 : ∀ (a : Nat → Nat → Int32) (b : Nat → Nat → Int64) (r : Nat → Nat → Option Nat), Den (d + 2) 92 22 [.ref 14, zmJ] [.ref 16, .ref 14] ((17, n), a, b, r) = Den (d + 2) 92 23 [.ref 14, zmJ] [.ref 16, .ref 16, .ref 14] ((17, n), a, b, r) := fun a b r => Den_blk [zm0 (.dup) 1] (by decide +kernel) rfl
  have s5 : ∀ (a : Nat → Nat → Int32) (b : Nat → Nat → Int64) (r : Nat → Nat → Option Nat), Den (d + 2) 92 23 [.ref 14, zmJ] [.ref 16, .ref 16, .ref 14] ((17, n), a, b, r) = Den (d + 2) 92 26 [.ref 14, zmJ] [.ref 16, .ref 14] ((20, n), iA_66_17 a, iB_66_17 b, iR_66_17 r) := fun a b r => by
    rw [Den_callE (zmr (.invokespecial 19) 3 2 66 0 123 1) (by decide +kernel) rfl rfl]
    show Option.bind (Den (d + 1) 66 0 [.ref 16] [] ((17, n), a, b, r)) _ = _
    rw [iw_66_17]
    rfl
  have s6 : ∀ (a : Nat → Nat → Int32) (b : Nat → Nat → Int64) (r : Nat → Nat → Option Nat), Den (d + 2) 92 26 [.ref 14, zmJ] [.ref 16, .ref 14] ((20, n), a, b, r) = Den (d + 2) 92 30 [.ref 14, zmJ] [.ref 14] ((20, n), a, b, (uR r 14 2 (some 16))) := fun a b r => Den_blk [zmr (.putfield 20) 3 11 2 2 409 0, zm0 (.aload_n 0) 1] (by decide +kernel) rfl
  have s7 : ∀ (a : Nat → Nat → Int32) (b : Nat → Nat → Int64) (r : Nat → Nat → Option Nat), Den (d + 2) 92 30 [.ref 14, zmJ] [.ref 14] ((20, n), a, b, r) = Den (d + 2) 92 33 [.ref 14, zmJ] [.ref 20, .ref 14] ((21, n), nwI 20 a, nwL 20 b, nwR 20 r) := fun a b r => Den_new (zmr (.new 17) 3 8 0 0 121 0) (by decide +kernel) (by decide +kernel) rfl
  have s8 : ∀ (a : Nat → Nat → Int32) (b : Nat → Nat → Int64) (r : Nat → Nat → Option Nat), Den (d + 2) 92 33 [.ref 14, zmJ] [.ref 20, .ref 14] ((21, n), a, b, r) = Den (d + 2) 92 34 [.ref 14, zmJ] [.ref 20, .ref 20, .ref 14] ((21, n), a, b, r) := fun a b r => Den_blk [zm0 (.dup) 1] (by decide +kernel) rfl
  have s9 : ∀ (a : Nat → Nat → Int32) (b : Nat → Nat → Int64) (r : Nat → Nat → Option Nat), Den (d + 2) 92 34 [.ref 14, zmJ] [.ref 20, .ref 20, .ref 14] ((21, n), a, b, r) = Den (d + 2) 92 37 [.ref 14, zmJ] [.ref 20, .ref 14] ((24, n), iA_66_21 a, iB_66_21 b, iR_66_21 r) := fun a b r => by
    rw [Den_callE (zmr (.invokespecial 19) 3 2 66 0 123 1) (by decide +kernel) rfl rfl]
    show Option.bind (Den (d + 1) 66 0 [.ref 20] [] ((21, n), a, b, r)) _ = _
    rw [iw_66_21]
    rfl
  have s10 : ∀ (a : Nat → Nat → Int32) (b : Nat → Nat → Int64) (r : Nat → Nat → Option Nat), Den (d + 2) 92 37 [.ref 14, zmJ] [.ref 20, .ref 14] ((24, n), a, b, r) = Den (d + 2) 92 46 [.ref 14, zmJ] [.ref 14] ((24, n), (uI a 14 4 (iN 0)), b, (uR r 14 3 (some 20))) := fun a b r => Den_blk [zmr (.putfield 24) 3 11 3 2 410 0, zm0 (.aload_n 0) 1, zmi (.iconst 0) 1 0, zmr (.putfield 27) 3 11 4 3 411 0, zm0 (.aload_n 0) 1] (by decide +kernel) rfl
  have s11 : ∀ (a : Nat → Nat → Int32) (b : Nat → Nat → Int64) (r : Nat → Nat → Option Nat), Den (d + 2) 92 46 [.ref 14, zmJ] [.ref 14] ((24, n), a, b, r) = Den (d + 2) 92 49 [.ref 14, zmJ] [.ref 24, .ref 14] ((25, n), nwI 24 a, nwL 24 b, nwR 24 r) := fun a b r => Den_new (zmr (.new 31) 3 9 0 0 149 0) (by decide +kernel) (by decide +kernel) rfl
  have s12 : ∀ (a : Nat → Nat → Int32) (b : Nat → Nat → Int64) (r : Nat → Nat → Option Nat), Den (d + 2) 92 49 [.ref 14, zmJ] [.ref 24, .ref 14] ((25, n), a, b, r) = Den (d + 2) 92 50 [.ref 14, zmJ] [.ref 24, .ref 24, .ref 14] ((25, n), a, b, r) := fun a b r => Den_blk [zm0 (.dup) 1] (by decide +kernel) rfl
  have s13 : ∀ (a : Nat → Nat → Int32) (b : Nat → Nat → Int64) (r : Nat → Nat → Option Nat), Den (d + 2) 92 50 [.ref 14, zmJ] [.ref 24, .ref 24, .ref 14] ((25, n), a, b, r) = Den (d + 2) 92 53 [.ref 14, zmJ] [.ref 24, .ref 14] ((27, n), iA_77_25 a, iB_77_25 b, iR_77_25 r) := fun a b r => by
    rw [Den_callE (zmr (.invokespecial 33) 3 2 77 0 151 1) (by decide +kernel) rfl rfl]
    show Option.bind (Den (d + 1) 77 0 [.ref 24] [] ((25, n), a, b, r)) _ = _
    rw [iw_77_25]
    rfl
  have s14 : ∀ (a : Nat → Nat → Int32) (b : Nat → Nat → Int64) (r : Nat → Nat → Option Nat), Den (d + 2) 92 53 [.ref 14, zmJ] [.ref 24, .ref 14] ((27, n), a, b, r) = Den (d + 2) 92 57 [.ref 14, zmJ] [.ref 14] ((27, n), a, b, (uR r 14 5 (some 24))) := fun a b r => Den_blk [zmr (.putfield 34) 3 11 5 2 412 0, zm0 (.aload_n 0) 1] (by decide +kernel) rfl
  have s15 : ∀ (a : Nat → Nat → Int32) (b : Nat → Nat → Int64) (r : Nat → Nat → Option Nat), Den (d + 2) 92 57 [.ref 14, zmJ] [.ref 14] ((27, n), a, b, r) = Den (d + 2) 92 60 [.ref 14, zmJ] [.ref 27, .ref 14] ((28, n), nwI 27 a, nwL 27 b, nwR 27 r) := fun a b r => Den_new (zmr (.new 38) 3 6 0 0 168 0) (by decide +kernel) (by decide +kernel) rfl
  have s16 : ∀ (a : Nat → Nat → Int32) (b : Nat → Nat → Int64) (r : Nat → Nat → Option Nat), Den (d + 2) 92 60 [.ref 14, zmJ] [.ref 27, .ref 14] ((28, n), a, b, r) = Den (d + 2) 92 61 [.ref 14, zmJ] [.ref 27, .ref 27, .ref 14] ((28, n), a, b, r) := fun a b r => Den_blk [zm0 (.dup) 1] (by decide +kernel) rfl
  have s17 : ∀ (a : Nat → Nat → Int32) (b : Nat → Nat → Int64) (r : Nat → Nat → Option Nat), Den (d + 2) 92 61 [.ref 14, zmJ] [.ref 27, .ref 27, .ref 14] ((28, n), a, b, r) = Den (d + 2) 92 64 [.ref 14, zmJ] [.ref 27, .ref 14] ((29, n), iA_52_28 a, iB_52_28 b, iR_52_28 r) := fun a b r => by
    rw [Den_callE (zmr (.invokespecial 40) 3 2 52 0 170 1) (by decide +kernel) rfl rfl]
    show Option.bind (Den (d + 1) 52 0 [.ref 27] [] ((28, n), a, b, r)) _ = _
    rw [iw_52_28]
    rfl
  have s18 : ∀ (a : Nat → Nat → Int32) (b : Nat → Nat → Int64) (r : Nat → Nat → Option Nat), Den (d + 2) 92 64 [.ref 14, zmJ] [.ref 27, .ref 14] ((29, n), a, b, r) = Den (d + 2) 92 68 [.ref 14, zmJ] [.ref 14] ((29, n), a, b, (uR r 14 6 (some 27))) := fun a b r => Den_blk [zmr (.putfield 41) 3 11 6 2 413 0, zm0 (.aload_n 0) 1] (by decide +kernel) rfl
  have s19 : ∀ (a : Nat → Nat → Int32) (b : Nat → Nat → Int64) (r : Nat → Nat → Option Nat), Den (d + 2) 92 68 [.ref 14, zmJ] [.ref 14] ((29, n), a, b, r) = Den (d + 2) 92 71 [.ref 14, zmJ] [.ref 29, .ref 14] ((30, n), nwI 29 a, nwL 29 b, nwR 29 r) := fun a b r => Den_new (zmr (.new 45) 3 7 0 0 189 0) (by decide +kernel) (by decide +kernel) rfl
  have s20 : ∀ (a : Nat → Nat → Int32) (b : Nat → Nat → Int64) (r : Nat → Nat → Option Nat), Den (d + 2) 92 71 [.ref 14, zmJ] [.ref 29, .ref 14] ((30, n), a, b, r) = Den (d + 2) 92 73 [.ref 14, zmJ] [.ref 14, .ref 29, .ref 29, .ref 14] ((30, n), a, b, r) := fun a b r => Den_blk [zm0 (.dup) 1, zm0 (.aload_n 0) 1] (by decide +kernel) rfl
  have s21 : ∀ (a : Nat → Nat → Int32) (b : Nat → Nat → Int64) (r : Nat → Nat → Option Nat), r 14 5 = some 24 → Den (d + 2) 92 73 [.ref 14, zmJ] [.ref 14, .ref 29, .ref 29, .ref 14] ((30, n), a, b, r) = Den (d + 2) 92 76 [.ref 14, zmJ] [.ref 24, .ref 29, .ref 29, .ref 14] ((30, n), a, b, r) := fun a b r hr => (Den_blk [zmr (.getfield 34) 3 11 5 2 412 0] (st' := [zmRf (r 14 5), .ref 29, .ref 29, .ref 14]) (by decide +kernel) rfl).trans (Den_rw hr)
  have s22 : ∀ (a : Nat → Nat → Int32) (b : Nat → Nat → Int64) (r : Nat → Nat → Option Nat), Den (d + 2) 92 76 [.ref 14, zmJ] [.ref 24, .ref 29, .ref 29, .ref 14] ((30, n), a, b, r) = Den (d + 2) 92 77 [.ref 14, zmJ] [.ref 14, .ref 24, .ref 29, .ref 29, .ref 14] ((30, n), a, b, r) := fun a b r => Den_blk [zm0 (.aload_n 0) 1] (by decide +kernel) rfl
  have s23 : ∀ (a : Nat → Nat → Int32) (b : Nat → Nat → Int64) (r : Nat → Nat → Option Nat), r 14 6 = some 27 → Den (d + 2) 92 77 [.ref 14, zmJ] [.ref 14, .ref 24, .ref 29, .ref 29, .ref 14] ((30, n), a, b, r) = Den (d + 2) 92 80 [.ref 14, zmJ] [.ref 27, .ref 24, .ref 29, .ref 29, .ref 14] ((30, n), a, b, r) := fun a b r hr => (Den_blk [zmr (.getfield 41) 3 11 6 2 413 0] (st' := [zmRf (r 14 6), .ref 24, .ref 29, .ref 29, .ref 14]) (by decide +kernel) rfl).trans (Den_rw hr)
  have s24 : ∀ (a : Nat → Nat → Int32) (b : Nat → Nat → Int64) (r : Nat → Nat → Option Nat), Den (d + 2) 92 80 [.ref 14, zmJ] [.ref 27, .ref 24, .ref 29, .ref 29, .ref 14] ((30, n), a, b, r) = Den (d + 2) 92 81 [.ref 14, zmJ] [.ref 14, .ref 27, .ref 24, .ref 29, .ref 29, .ref 14] ((30, n), a, b, r) := fun a b r => Den_blk [zm0 (.aload_n 0) 1] (by decide +kernel) rfl
  have s25 : ∀ (a : Nat → Nat → Int32) (b : Nat → Nat → Int64) (r : Nat → Nat → Option Nat), r 14 2 = some 16 → Den (d + 2) 92 81 [.ref 14, zmJ] [.ref 14, .ref 27, .ref 24, .ref 29, .ref 29, .ref 14] ((30, n), a, b, r) = Den (d + 2) 92 84 [.ref 14, zmJ] [.ref 16, .ref 27, .ref 24, .ref 29, .ref 29, .ref 14] ((30, n), a, b, r) := fun a b r hr => (Den_blk [zmr (.getfield 20) 3 11 2 2 409 0] (st' := [zmRf (r 14 2), .ref 27, .ref 24, .ref 29, .ref 29, .ref 14]) (by decide +kernel) rfl).trans (Den_rw hr)
  have s26 : ∀ (a : Nat → Nat → Int32) (b : Nat → Nat → Int64) (r : Nat → Nat → Option Nat), Den (d + 2) 92 84 [.ref 14, zmJ] [.ref 16, .ref 27, .ref 24, .ref 29, .ref 29, .ref 14] ((30, n), a, b, r) = Den (d + 2) 92 87 [.ref 14, zmJ] [.ref 29, .ref 14] ((37, n), iA_56_30 a, iB_56_30 b, iR_56_30 r) := fun a b r => by
    rw [Den_callE (zmr (.invokespecial 47) 3 2 56 3 191 0) (by decide +kernel) rfl rfl]
    show Option.bind (Den (d + 1) 56 0 [.ref 29, .ref 24, .ref 27, .ref 16] [] ((30, n), a, b, r)) _ = _
    rw [iw_56_30]
    rfl
  have s27 : ∀ (a : Nat → Nat → Int32) (b : Nat → Nat → Int64) (r : Nat → Nat → Option Nat), Den (d + 2) 92 87 [.ref 14, zmJ] [.ref 29, .ref 14] ((37, n), a, b, r) = Den (d + 2) 92 92 [.ref 14, zmJ] [.int (iN 4), .ref 14] ((37, n), a, b, (uR r 14 7 (some 29))) := fun a b r => Den_blk [zmr (.putfield 50) 3 11 7 2 414 0, zm0 (.aload_n 0) 1, zmi (.iconst 4) 1 4] (by decide +kernel) rfl
  have s28 : ∀ (a : Nat → Nat → Int32) (b : Nat → Nat → Int64) (r : Nat → Nat → Option Nat), Den (d + 2) 92 92 [.ref 14, zmJ] [.int (iN 4), .ref 14] ((37, n), a, b, r) = Den (d + 2) 92 95 [.ref 14, zmJ] [.ref 37, .ref 14] ((38, n), nwI 37 a, nwL 37 b, nwR 37 r) := fun a b r => Den_anew (by decide +kernel) (by decide +kernel) (by decide +kernel)
  have s29 : ∀ (a : Nat → Nat → Int32) (b : Nat → Nat → Int64) (r : Nat → Nat → Option Nat), Den (d + 2) 92 95 [.ref 14, zmJ] [.ref 37, .ref 14] ((38, n), a, b, r) = Den (d + 2) 92 99 [.ref 14, zmJ] [.ref 14] ((38, n), a, b, (uR r 14 8 (some 37))) := fun a b r => Den_blk [zmr (.putfield 56) 3 11 8 2 415 0, zm0 (.aload_n 0) 1] (by decide +kernel) rfl
  have s30 : ∀ (a : Nat → Nat → Int32) (b : Nat → Nat → Int64) (r : Nat → Nat → Option Nat), Den (d + 2) 92 99 [.ref 14, zmJ] [.ref 14] ((38, n), a, b, r) = Den (d + 2) 92 102 [.ref 14, zmJ] [.ref 38, .ref 14] ((39, n), nwI 38 a, nwL 38 b, nwR 38 r) := fun a b r => Den_new (zmr (.new 54) 3 10 0 0 262 0) (by decide +kernel) (by decide +kernel) rfl
  have s31 : ∀ (a : Nat → Nat → Int32) (b : Nat → Nat → Int64) (r : Nat → Nat → Option Nat), Den (d + 2) 92 102 [.ref 14, zmJ] [.ref 38, .ref 14] ((39, n), a, b, r) = Den (d + 2) 92 103 [.ref 14, zmJ] [.ref 38, .ref 38, .ref 14] ((39, n), a, b, r) := fun a b r => Den_blk [zm0 (.dup) 1] (by decide +kernel) rfl
  have s32 : ∀ (a : Nat → Nat → Int32) (b : Nat → Nat → Int64) (r : Nat → Nat → Option Nat), Den (d + 2) 92 103 [.ref 14, zmJ] [.ref 38, .ref 38, .ref 14] ((39, n), a, b, r) = Den (d + 2) 92 106 [.ref 14, zmJ] [.ref 38, .ref 14] ((44, n), iA_82_39 a, iB_82_39 b, iR_82_39 r) := fun a b r => by
    rw [Den_callE (zmr (.invokespecial 60) 3 2 82 0 264 1) (by decide +kernel) rfl rfl]
    show Option.bind (Den (d + 1) 82 0 [.ref 38] [] ((39, n), a, b, r)) _ = _
    rw [iw_82_39]
    rfl
  have s33 : ∀ (a : Nat → Nat → Int32) (b : Nat → Nat → Int64) (r : Nat → Nat → Option Nat), Den (d + 2) 92 106 [.ref 14, zmJ] [.ref 38, .ref 14] ((44, n), a, b, r) = Den (d + 2) 92 110 [.ref 14, zmJ] [.ref 14] ((44, n), a, b, (uR r 14 9 (some 38))) := fun a b r => Den_blk [zmr (.putfield 61) 3 11 9 2 416 0, zm0 (.aload_n 0) 1] (by decide +kernel) rfl
  have s34 : ∀ (a : Nat → Nat → Int32) (b : Nat → Nat → Int64) (r : Nat → Nat → Option Nat), Den (d + 2) 92 110 [.ref 14, zmJ] [.ref 14] ((44, n), a, b, r) = Den (d + 2) 92 113 [.ref 14, zmJ] [.ref 44, .ref 14] ((45, n), nwI 44 a, nwL 44 b, nwR 44 r) := fun a b r => Den_new (zmr (.new 65) 3 4 0 0 265 0) (by decide +kernel) (by decide +kernel) rfl
  have s35 : ∀ (a : Nat → Nat → Int32) (b : Nat → Nat → Int64) (r : Nat → Nat → Option Nat), Den (d + 2) 92 113 [.ref 14, zmJ] [.ref 44, .ref 14] ((45, n), a, b, r) = Den (d + 2) 92 114 [.ref 14, zmJ] [.ref 44, .ref 44, .ref 14] ((45, n), a, b, r) := fun a b r => Den_blk [zm0 (.dup) 1] (by decide +kernel) rfl
  have s36 : ∀ (a : Nat → Nat → Int32) (b : Nat → Nat → Int64) (r : Nat → Nat → Option Nat), Den (d + 2) 92 114 [.ref 14, zmJ] [.ref 44, .ref 44, .ref 14] ((45, n), a, b, r) = Den (d + 2) 92 117 [.ref 14, zmJ] [.ref 44, .ref 14] ((52, n), iA_34_45 a, iB_34_45 b, iR_34_45 r) := fun a b r => by
    rw [Den_callE (zmr (.invokespecial 67) 3 2 34 0 267 1) (by decide +kernel) rfl rfl]
    show Option.bind (Den (d + 1) 34 0 [.ref 44] [] ((45, n), a, b, r)) _ = _
    rw [iw_34_45]
    rfl
  have s37 : ∀ (a : Nat → Nat → Int32) (b : Nat → Nat → Int64) (r : Nat → Nat → Option Nat), Den (d + 2) 92 117 [.ref 14, zmJ] [.ref 44, .ref 14] ((52, n), a, b, r) = Den (d + 2) 92 121 [.ref 14, zmJ] [.ref 14] ((52, n), a, b, (uR r 14 10 (some 44))) := fun a b r => Den_blk [zmr (.putfield 68) 3 11 10 2 417 0, zm0 (.aload_n 0) 1] (by decide +kernel) rfl
  have s38 : ∀ (a : Nat → Nat → Int32) (b : Nat → Nat → Int64) (r : Nat → Nat → Option Nat), Den (d + 2) 92 121 [.ref 14, zmJ] [.ref 14] ((52, n), a, b, r) = Den (d + 2) 92 124 [.ref 14, zmJ] [.ref 52, .ref 14] ((53, n), nwI 52 a, nwL 52 b, nwR 52 r) := fun a b r => Den_new (zmr (.new 72) 3 0 0 0 294 0) (by decide +kernel) (by decide +kernel) rfl
  have s39 : ∀ (a : Nat → Nat → Int32) (b : Nat → Nat → Int64) (r : Nat → Nat → Option Nat), Den (d + 2) 92 124 [.ref 14, zmJ] [.ref 52, .ref 14] ((53, n), a, b, r) = Den (d + 2) 92 126 [.ref 14, zmJ] [.ref 14, .ref 52, .ref 52, .ref 14] ((53, n), a, b, r) := fun a b r => Den_blk [zm0 (.dup) 1, zm0 (.aload_n 0) 1] (by decide +kernel) rfl
  have s40 : ∀ (a : Nat → Nat → Int32) (b : Nat → Nat → Int64) (r : Nat → Nat → Option Nat), r 14 7 = some 29 → Den (d + 2) 92 126 [.ref 14, zmJ] [.ref 14, .ref 52, .ref 52, .ref 14] ((53, n), a, b, r) = Den (d + 2) 92 129 [.ref 14, zmJ] [.ref 29, .ref 52, .ref 52, .ref 14] ((53, n), a, b, r) := fun a b r hr => (Den_blk [zmr (.getfield 50) 3 11 7 2 414 0] (st' := [zmRf (r 14 7), .ref 52, .ref 52, .ref 14]) (by decide +kernel) rfl).trans (Den_rw hr)
  have s41 : ∀ (a : Nat → Nat → Int32) (b : Nat → Nat → Int64) (r : Nat → Nat → Option Nat), Den (d + 2) 92 129 [.ref 14, zmJ] [.ref 29, .ref 52, .ref 52, .ref 14] ((53, n), a, b, r) = Den (d + 2) 92 132 [.ref 14, zmJ] [.ref 52, .ref 14] ((55, n), iA_1_53 a, iB_1_53 b, iR_1_53 r) := fun a b r => by
    rw [Den_callE (zmr (.invokespecial 74) 3 2 1 1 296 0) (by decide +kernel) rfl rfl]
    show Option.bind (Den (d + 1) 1 0 [.ref 52, .ref 29] [] ((53, n), a, b, r)) _ = _
    rw [iw_1_53]
    rfl
  have s42 : ∀ (a : Nat → Nat → Int32) (b : Nat → Nat → Int64) (r : Nat → Nat → Option Nat), Den (d + 2) 92 132 [.ref 14, zmJ] [.ref 52, .ref 14] ((55, n), a, b, r) = Den (d + 2) 92 136 [.ref 14, zmJ] [.ref 14] ((55, n), a, b, (uR r 14 11 (some 52))) := fun a b r => Den_blk [zmr (.putfield 77) 3 11 11 2 418 0, zm0 (.aload_n 0) 1] (by decide +kernel) rfl
  have s43 : ∀ (a : Nat → Nat → Int32) (b : Nat → Nat → Int64) (r : Nat → Nat → Option Nat), Den (d + 2) 92 136 [.ref 14, zmJ] [.ref 14] ((55, n), a, b, r) = Den (d + 2) 92 139 [.ref 14, zmJ] [.ref 55, .ref 14] ((56, n), nwI 55 a, nwL 55 b, nwR 55 r) := fun a b r => Den_new (zmr (.new 81) 3 1 0 0 315 0) (by decide +kernel) (by decide +kernel) rfl
  have s44 : ∀ (a : Nat → Nat → Int32) (b : Nat → Nat → Int64) (r : Nat → Nat → Option Nat), Den (d + 2) 92 139 [.ref 14, zmJ] [.ref 55, .ref 14] ((56, n), a, b, r) = Den (d + 2) 92 141 [.ref 14, zmJ] [.ref 14, .ref 55, .ref 55, .ref 14] ((56, n), a, b, r) := fun a b r => Den_blk [zm0 (.dup) 1, zm0 (.aload_n 0) 1] (by decide +kernel) rfl
  have s45 : ∀ (a : Nat → Nat → Int32) (b : Nat → Nat → Int64) (r : Nat → Nat → Option Nat), r 14 7 = some 29 → Den (d + 2) 92 141 [.ref 14, zmJ] [.ref 14, .ref 55, .ref 55, .ref 14] ((56, n), a, b, r) = Den (d + 2) 92 144 [.ref 14, zmJ] [.ref 29, .ref 55, .ref 55, .ref 14] ((56, n), a, b, r) := fun a b r hr => (Den_blk [zmr (.getfield 50) 3 11 7 2 414 0] (st' := [zmRf (r 14 7), .ref 55, .ref 55, .ref 14]) (by decide +kernel) rfl).trans (Den_rw hr)
  have s46 : ∀ (a : Nat → Nat → Int32) (b : Nat → Nat → Int64) (r : Nat → Nat → Option Nat), Den (d + 2) 92 144 [.ref 14, zmJ] [.ref 29, .ref 55, .ref 55, .ref 14] ((56, n), a, b, r) = Den (d + 2) 92 147 [.ref 14, zmJ] [.ref 55, .ref 14] ((62, n), iA_8_56 a, iB_8_56 b, iR_8_56 r) := fun a b r => by
    rw [Den_callE (zmr (.invokespecial 83) 3 2 8 1 317 0) (by decide +kernel) rfl rfl]
    show Option.bind (Den (d + 1) 8 0 [.ref 55, .ref 29] [] ((56, n), a, b, r)) _ = _
    rw [iw_8_56]
    rfl
  have s47 : ∀ (a : Nat → Nat → Int32) (b : Nat → Nat → Int64) (r : Nat → Nat → Option Nat), Den (d + 2) 92 147 [.ref 14, zmJ] [.ref 55, .ref 14] ((62, n), a, b, r) = Den (d + 2) 92 151 [.ref 14, zmJ] [.ref 14] ((62, n), a, b, (uR r 14 12 (some 55))) := fun a b r => Den_blk [zmr (.putfield 84) 3 11 12 2 419 0, zm0 (.aload_n 0) 1] (by decide +kernel) rfl
  have s48 : ∀ (a : Nat → Nat → Int32) (b : Nat → Nat → Int64) (r : Nat → Nat → Option Nat), Den (d + 2) 92 151 [.ref 14, zmJ] [.ref 14] ((62, n), a, b, r) = Den (d + 2) 92 154 [.ref 14, zmJ] [.ref 62, .ref 14] ((63, n), nwI 62 a, nwL 62 b, nwR 62 r) := fun a b r => Den_new (zmr (.new 88) 3 2 0 0 354 0) (by decide +kernel) (by decide +kernel) rfl
  have s49 : ∀ (a : Nat → Nat → Int32) (b : Nat → Nat → Int64) (r : Nat → Nat → Option Nat), Den (d + 2) 92 154 [.ref 14, zmJ] [.ref 62, .ref 14] ((63, n), a, b, r) = Den (d + 2) 92 156 [.ref 14, zmJ] [.ref 14, .ref 62, .ref 62, .ref 14] ((63, n), a, b, r) := fun a b r => Den_blk [zm0 (.dup) 1, zm0 (.aload_n 0) 1] (by decide +kernel) rfl
  have s50 : ∀ (a : Nat → Nat → Int32) (b : Nat → Nat → Int64) (r : Nat → Nat → Option Nat), r 14 7 = some 29 → Den (d + 2) 92 156 [.ref 14, zmJ] [.ref 14, .ref 62, .ref 62, .ref 14] ((63, n), a, b, r) = Den (d + 2) 92 159 [.ref 14, zmJ] [.ref 29, .ref 62, .ref 62, .ref 14] ((63, n), a, b, r) := fun a b r hr => (Den_blk [zmr (.getfield 50) 3 11 7 2 414 0] (st' := [zmRf (r 14 7), .ref 62, .ref 62, .ref 14]) (by decide +kernel) rfl).trans (Den_rw hr)
  have s51 : ∀ (a : Nat → Nat → Int32) (b : Nat → Nat → Int64) (r : Nat → Nat → Option Nat), Den (d + 2) 92 159 [.ref 14, zmJ] [.ref 29, .ref 62, .ref 62, .ref 14] ((63, n), a, b, r) = Den (d + 2) 92 160 [.ref 14, zmJ] [.ref 14, .ref 29, .ref 62, .ref 62, .ref 14] ((63, n), a, b, r) := fun a b r => Den_blk [zm0 (.aload_n 0) 1] (by decide +kernel) rfl
  have s52 : ∀ (a : Nat → Nat → Int32) (b : Nat → Nat → Int64) (r : Nat → Nat → Option Nat), r 14 2 = some 16 → Den (d + 2) 92 160 [.ref 14, zmJ] [.ref 14, .ref 29, .ref 62, .ref 62, .ref 14] ((63, n), a, b, r) = Den (d + 2) 92 163 [.ref 14, zmJ] [.ref 16, .ref 29, .ref 62, .ref 62, .ref 14] ((63, n), a, b, r) := fun a b r hr => (Den_blk [zmr (.getfield 20) 3 11 2 2 409 0] (st' := [zmRf (r 14 2), .ref 29, .ref 62, .ref 62, .ref 14]) (by decide +kernel) rfl).trans (Den_rw hr)
  have s53 : ∀ (a : Nat → Nat → Int32) (b : Nat → Nat → Int64) (r : Nat → Nat → Option Nat), Den (d + 2) 92 163 [.ref 14, zmJ] [.ref 16, .ref 29, .ref 62, .ref 62, .ref 14] ((63, n), a, b, r) = Den (d + 2) 92 166 [.ref 14, zmJ] [.ref 62, .ref 14] ((65, n), iA_20_63 a, iB_20_63 b, iR_20_63 r) := fun a b r => by
    rw [Den_callE (zmr (.invokespecial 90) 3 2 20 2 356 0) (by decide +kernel) rfl rfl]
    show Option.bind (Den (d + 1) 20 0 [.ref 62, .ref 29, .ref 16] [] ((63, n), a, b, r)) _ = _
    rw [iw_20_63]
    rfl
  have s54 : ∀ (a : Nat → Nat → Int32) (b : Nat → Nat → Int64) (r : Nat → Nat → Option Nat), Den (d + 2) 92 166 [.ref 14, zmJ] [.ref 62, .ref 14] ((65, n), a, b, r) = Den (d + 2) 92 170 [.ref 14, zmJ] [.ref 14] ((65, n), a, b, (uR r 14 13 (some 62))) := fun a b r => Den_blk [zmr (.putfield 93) 3 11 13 2 420 0, zm0 (.aload_n 0) 1] (by decide +kernel) rfl
  have s55 : ∀ (a : Nat → Nat → Int32) (b : Nat → Nat → Int64) (r : Nat → Nat → Option Nat), Den (d + 2) 92 170 [.ref 14, zmJ] [.ref 14] ((65, n), a, b, r) = Den (d + 2) 92 173 [.ref 14, zmJ] [.ref 65, .ref 14] ((66, n), nwI 65 a, nwL 65 b, nwR 65 r) := fun a b r => Den_new (zmr (.new 97) 3 3 0 0 381 0) (by decide +kernel) (by decide +kernel) rfl
  have s56 : ∀ (a : Nat → Nat → Int32) (b : Nat → Nat → Int64) (r : Nat → Nat → Option Nat), Den (d + 2) 92 173 [.ref 14, zmJ] [.ref 65, .ref 14] ((66, n), a, b, r) = Den (d + 2) 92 175 [.ref 14, zmJ] [.ref 14, .ref 65, .ref 65, .ref 14] ((66, n), a, b, r) := fun a b r => Den_blk [zm0 (.dup) 1, zm0 (.aload_n 0) 1] (by decide +kernel) rfl
  have s57 : ∀ (a : Nat → Nat → Int32) (b : Nat → Nat → Int64) (r : Nat → Nat → Option Nat), r 14 7 = some 29 → Den (d + 2) 92 175 [.ref 14, zmJ] [.ref 14, .ref 65, .ref 65, .ref 14] ((66, n), a, b, r) = Den (d + 2) 92 178 [.ref 14, zmJ] [.ref 29, .ref 65, .ref 65, .ref 14] ((66, n), a, b, r) := fun a b r hr => (Den_blk [zmr (.getfield 50) 3 11 7 2 414 0] (st' := [zmRf (r 14 7), .ref 65, .ref 65, .ref 14]) (by decide +kernel) rfl).trans (Den_rw hr)
  have s58 : ∀ (a : Nat → Nat → Int32) (b : Nat → Nat → Int64) (r : Nat → Nat → Option Nat), Den (d + 2) 92 178 [.ref 14, zmJ] [.ref 29, .ref 65, .ref 65, .ref 14] ((66, n), a, b, r) = Den (d + 2) 92 181 [.ref 14, zmJ] [.ref 65, .ref 14] ((66, n), iA_27_66 a, iB_27_66 b, iR_27_66 r) := fun a b r => by
    rw [Den_callE (zmr (.invokespecial 99) 3 2 27 1 383 0) (by decide +kernel) rfl rfl]
    show Option.bind (Den (d + 1) 27 0 [.ref 65, .ref 29] [] ((66, n), a, b, r)) _ = _
    rw [iw_27_66]
    rfl
  have s59 : ∀ (a : Nat → Nat → Int32) (b : Nat → Nat → Int64) (r : Nat → Nat → Option Nat), Den (d + 2) 92 181 [.ref 14, zmJ] [.ref 65, .ref 14] ((66, n), a, b, r) = Den (d + 2) 92 185 [.ref 14, zmJ] [.ref 14] ((66, n), a, b, (uR r 14 14 (some 65))) := fun a b r => Den_blk [zmr (.putfield 100) 3 11 14 2 421 0, zm0 (.aload_n 0) 1] (by decide +kernel) rfl
  have s60 : ∀ (a : Nat → Nat → Int32) (b : Nat → Nat → Int64) (r : Nat → Nat → Option Nat), Den (d + 2) 92 185 [.ref 14, zmJ] [.ref 14] ((66, n), a, b, r) = Den (d + 2) 92 188 [.ref 14, zmJ] [.ref 66, .ref 14] ((67, n), nwI 66 a, nwL 66 b, nwR 66 r) := fun a b r => Den_new (zmr (.new 104) 3 5 0 0 397 0) (by decide +kernel) (by decide +kernel) rfl
  have s61 : ∀ (a : Nat → Nat → Int32) (b : Nat → Nat → Int64) (r : Nat → Nat → Option Nat), Den (d + 2) 92 188 [.ref 14, zmJ] [.ref 66, .ref 14] ((67, n), a, b, r) = Den (d + 2) 92 189 [.ref 14, zmJ] [.ref 66, .ref 66, .ref 14] ((67, n), a, b, r) := fun a b r => Den_blk [zm0 (.dup) 1] (by decide +kernel) rfl
  have s62 : ∀ (a : Nat → Nat → Int32) (b : Nat → Nat → Int64) (r : Nat → Nat → Option Nat), Den (d + 2) 92 189 [.ref 14, zmJ] [.ref 66, .ref 66, .ref 14] ((67, n), a, b, r) = Den (d + 2) 92 192 [.ref 14, zmJ] [.ref 66, .ref 14] ((68, n), iA_48_67 a, iB_48_67 b, iR_48_67 r) := fun a b r => by
    rw [Den_callE (zmr (.invokespecial 106) 3 2 48 0 399 1) (by decide +kernel) rfl rfl]
    show Option.bind (Den (d + 1) 48 0 [.ref 66] [] ((67, n), a, b, r)) _ = _
    rw [iw_48_67]
    rfl
  have s63 : ∀ (a : Nat → Nat → Int32) (b : Nat → Nat → Int64) (r : Nat → Nat → Option Nat), Den (d + 2) 92 192 [.ref 14, zmJ] [.ref 66, .ref 14] ((68, n), a, b, r) = Den (d + 2) 92 196 [.ref 14, zmJ] [.ref 14] ((68, n), a, b, (uR r 14 15 (some 66))) := fun a b r => Den_blk [zmr (.putfield 107) 3 11 15 2 422 0, zm0 (.aload_n 0) 1] (by decide +kernel) rfl
  have s64 : ∀ (a : Nat → Nat → Int32) (b : Nat → Nat → Int64) (r : Nat → Nat → Option Nat), Den (d + 2) 92 196 [.ref 14, zmJ] [.ref 14] ((68, n), a, b, r) = Den (d + 2) 92 199 [.ref 14, zmJ] [.ref 68, .ref 14] ((69, n), nwI 68 a, nwL 68 b, nwR 68 r) := fun a b r => Den_new (zmr (.new 104) 3 5 0 0 397 0) (by decide +kernel) (by decide +kernel) rfl
  have s65 : ∀ (a : Nat → Nat → Int32) (b : Nat → Nat → Int64) (r : Nat → Nat → Option Nat), Den (d + 2) 92 199 [.ref 14, zmJ] [.ref 68, .ref 14] ((69, n), a, b, r) = Den (d + 2) 92 200 [.ref 14, zmJ] [.ref 68, .ref 68, .ref 14] ((69, n), a, b, r) := fun a b r => Den_blk [zm0 (.dup) 1] (by decide +kernel) rfl
  have s66 : ∀ (a : Nat → Nat → Int32) (b : Nat → Nat → Int64) (r : Nat → Nat → Option Nat), Den (d + 2) 92 200 [.ref 14, zmJ] [.ref 68, .ref 68, .ref 14] ((69, n), a, b, r) = Den (d + 2) 92 203 [.ref 14, zmJ] [.ref 68, .ref 14] ((70, n), iA_48_69 a, iB_48_69 b, iR_48_69 r) := fun a b r => by
    rw [Den_callE (zmr (.invokespecial 106) 3 2 48 0 399 1) (by decide +kernel) rfl rfl]
    show Option.bind (Den (d + 1) 48 0 [.ref 68] [] ((69, n), a, b, r)) _ = _
    rw [iw_48_69]
    rfl
  have s67 : ∀ (a : Nat → Nat → Int32) (b : Nat → Nat → Int64) (r : Nat → Nat → Option Nat), Den (d + 2) 92 203 [.ref 14, zmJ] [.ref 68, .ref 14] ((70, n), a, b, r) = Den (d + 2) 92 210 [.ref 14, .int (iN 0)] [.ref 14, .int (iN 0)] ((70, n), a, b, (uR r 14 16 (some 68))) := fun a b r => Den_blk [zmr (.putfield 111) 3 11 16 2 423 0, zmi (.iconst 0) 1 0, zm0 (.istore_n 1) 1, zm0 (.iload_n 1) 1, zm0 (.aload_n 0) 1] (by decide +kernel) rfl
  have s68 : ∀ (a : Nat → Nat → Int32) (b : Nat → Nat → Int64) (r : Nat → Nat → Option Nat), r 14 8 = some 37 → Den (d + 2) 92 210 [.ref 14, .int (iN 0)] [.ref 14, .int (iN 0)] ((70, n), a, b, r) = Den (d + 2) 92 213 [.ref 14, .int (iN 0)] [.ref 37, .int (iN 0)] ((70, n), a, b, r) := fun a b r hr => (Den_blk [zmr (.getfield 56) 3 11 8 2 415 0] (st' := [zmRf (r 14 8), .int (iN 0)]) (by decide +kernel) rfl).trans (Den_rw hr)
  have s69 : ∀ (a : Nat → Nat → Int32) (b : Nat → Nat → Int64) (r : Nat → Nat → Option Nat), Den (d + 2) 92 213 [.ref 14, .int (iN 0)] [.ref 37, .int (iN 0)] ((70, n), a, b, r) = Den (d + 2) 92 217 [.ref 14, .int (iN 0)] [] ((70, n), a, b, r) := fun a b r => (Den_blk [zm0 (.arraylength) 1, zm0 (.if_icmp .ge 22) 3] (pc' := if (iN 0) < (iN 4) then 217 else 236) (L' := [.ref 14, .int (iN 0)]) (st' := []) (x' := ((70, n), a, b, r)) (by decide +kernel) rfl).trans ((Den_ite _).trans (if_pos (by decide +kernel)))
  have s70 : ∀ (a : Nat → Nat → Int32) (b : Nat → Nat → Int64) (r : Nat → Nat → Option Nat), Den (d + 2) 92 217 [.ref 14, .int (iN 0)] [] ((70, n), a, b, r) = Den (d + 2) 92 218 [.ref 14, .int (iN 0)] [.ref 14] ((70, n), a, b, r) := fun a b r => Den_blk [zm0 (.aload_n 0) 1] (by decide +kernel) rfl
  have s71 : ∀ (a : Nat → Nat → Int32) (b : Nat → Nat → Int64) (r : Nat → Nat → Option Nat), r 14 8 = some 37 → Den (d + 2) 92 218 [.ref 14, .int (iN 0)] [.ref 14] ((70, n), a, b, r) = Den (d + 2) 92 221 [.ref 14, .int (iN 0)] [.ref 37] ((70, n), a, b, r) := fun a b r hr => (Den_blk [zmr (.getfield 56) 3 11 8 2 415 0] (st' := [zmRf (r 14 8)]) (by decide +kernel) rfl).trans (Den_rw hr)
  have s72 : ∀ (a : Nat → Nat → Int32) (b : Nat → Nat → Int64) (r : Nat → Nat → Option Nat), Den (d + 2) 92 221 [.ref 14, .int (iN 0)] [.ref 37] ((70, n), a, b, r) = Den (d + 2) 92 222 [.ref 14, .int (iN 0)] [.int (iN 0), .ref 37] ((70, n), a, b, r) := fun a b r => Den_blk [zm0 (.iload_n 1) 1] (by decide +kernel) rfl
  have s73 : ∀ (a : Nat → Nat → Int32) (b : Nat → Nat → Int64) (r : Nat → Nat → Option Nat), Den (d + 2) 92 222 [.ref 14, .int (iN 0)] [.int (iN 0), .ref 37] ((70, n), a, b, r) = Den (d + 2) 92 225 [.ref 14, .int (iN 0)] [.ref 70, .int (iN 0), .ref 37] ((71, n), nwI 70 a, nwL 70 b, nwR 70 r) := fun a b r => Den_new (zmr (.new 54) 3 10 0 0 262 0) (by decide +kernel) (by decide +kernel) rfl
  have s74 : ∀ (a : Nat → Nat → Int32) (b : Nat → Nat → Int64) (r : Nat → Nat → Option Nat), Den (d + 2) 92 225 [.ref 14, .int (iN 0)] [.ref 70, .int (iN 0), .ref 37] ((71, n), a, b, r) = Den (d + 2) 92 226 [.ref 14, .int (iN 0)] [.ref 70, .ref 70, .int (iN 0), .ref 37] ((71, n), a, b, r) := fun a b r => Den_blk [zm0 (.dup) 1] (by decide +kernel) rfl
  have s75 : ∀ (a : Nat → Nat → Int32) (b : Nat → Nat → Int64) (r : Nat → Nat → Option Nat), Den (d + 2) 92 226 [.ref 14, .int (iN 0)] [.ref 70, .ref 70, .int (iN 0), .ref 37] ((71, n), a, b, r) = Den (d + 2) 92 229 [.ref 14, .int (iN 0)] [.ref 70, .int (iN 0), .ref 37] ((76, n), iA_82_71 a, iB_82_71 b, iR_82_71 r) := fun a b r => by
    rw [Den_callE (zmr (.invokespecial 60) 3 2 82 0 264 1) (by decide +kernel) rfl rfl]
    show Option.bind (Den (d + 1) 82 0 [.ref 70] [] ((71, n), a, b, r)) _ = _
    rw [iw_82_71]
    rfl
  have s76 : ∀ (a : Nat → Nat → Int32) (b : Nat → Nat → Int64) (r : Nat → Nat → Option Nat), Den (d + 2) 92 229 [.ref 14, .int (iN 0)] [.ref 70, .int (iN 0), .ref 37] ((76, n), a, b, r) = Den (d + 2) 92 230 [.ref 14, .int (iN 0)] [] ((76, n), a, b, uR r 37 0 (some 70)) := fun a b r => (Den_if1 (zm0 (.aastore) 1) (c := zmIn ((iN 0)) 4 = true) (by decide +kernel) rfl).trans (if_pos (by decide +kernel))
  have s77 : ∀ (a : Nat → Nat → Int32) (b : Nat → Nat → Int64) (r : Nat → Nat → Option Nat), Den (d + 2) 92 230 [.ref 14, .int (iN 0)] [] ((76, n), a, b, r) = Den (d + 2) 92 208 [.ref 14, .int ((iN 0) + iN 1)] [] ((76, n), a, b, r) := fun a b r => Den_blk [zmi (.iinc 1 1) 3 1, zm0 (.goto (-25)) 3] (by decide +kernel) rfl
  have s78 : ∀ (a : Nat → Nat → Int32) (b : Nat → Nat → Int64) (r : Nat → Nat → Option Nat), Den (d + 2) 92 208 [.ref 14, .int ((iN 0) + iN 1)] [] ((76, n), a, b, r) = Den (d + 2) 92 210 [.ref 14, .int ((iN 0) + iN 1)] [.ref 14, .int ((iN 0) + iN 1)] ((76, n), a, b, r) := fun a b r => Den_blk [zm0 (.iload_n 1) 1, zm0 (.aload_n 0) 1] (by decide +kernel) rfl
  have s79 : ∀ (a : Nat → Nat → Int32) (b : Nat → Nat → Int64) (r : Nat → Nat → Option Nat), r 14 8 = some 37 → Den (d + 2) 92 210 [.ref 14, .int ((iN 0) + iN 1)] [.ref 14, .int ((iN 0) + iN 1)] ((76, n), a, b, r) = Den (d + 2) 92 213 [.ref 14, .int ((iN 0) + iN 1)] [.ref 37, .int ((iN 0) + iN 1)] ((76, n), a, b, r) := fun a b r hr => (Den_blk [zmr (.getfield 56) 3 11 8 2 415 0] (st' := [zmRf (r 14 8), .int ((iN 0) + iN 1)]) (by decide +kernel) rfl).trans (Den_rw hr)
  have s80 : ∀ (a : Nat → Nat → Int32) (b : Nat → Nat → Int64) (r : Nat → Nat → Option Nat), Den (d + 2) 92 213 [.ref 14, .int ((iN 0) + iN 1)] [.ref 37, .int ((iN 0) + iN 1)] ((76, n), a, b, r) = Den (d + 2) 92 217 [.ref 14, .int ((iN 0) + iN 1)] [] ((76, n), a, b, r) := fun a b r => (Den_blk [zm0 (.arraylength) 1, zm0 (.if_icmp .ge 22) 3] (pc' := if ((iN 0) + iN 1) < (iN 4) then 217 else 236) (L' := [.ref 14, .int ((iN 0) + iN 1)]) (st' := []) (x' := ((76, n), a, b, r)) (by decide +kernel) rfl).trans ((Den_ite _).trans (if_pos (by decide +kernel)))
  have s81 : ∀ (a : Nat → Nat → Int32) (b : Nat → Nat → Int64) (r : Nat → Nat → Option Nat), Den (d + 2) 92 217 [.ref 14, .int ((iN 0) + iN 1)] [] ((76, n), a, b, r) = Den (d + 2) 92 218 [.ref 14, .int ((iN 0) + iN 1)] [.ref 14] ((76, n), a, b, r) := fun a b r => Den_blk [zm0 (.aload_n 0) 1] (by decide +kernel) rfl
  have s82 : ∀ (a : Nat → Nat → Int32) (b : Nat → Nat → Int64) (r : Nat → Nat → Option Nat), r 14 8 = some 37 → Den (d + 2) 92 218 [.ref 14, .int ((iN 0) + iN 1)] [.ref 14] ((76, n), a, b, r) = Den (d + 2) 92 221 [.ref 14, .int ((iN 0) + iN 1)] [.ref 37] ((76, n), a, b, r) := fun a b r hr => (Den_blk [zmr (.getfield 56) 3 11 8 2 415 0] (st' := [zmRf (r 14 8)]) (by decide +kernel) rfl).trans (Den_rw hr)
  have s83 : ∀ (a : Nat → Nat → Int32) (b : Nat → Nat → Int64) (r : Nat → Nat → Option Nat), Den (d + 2) 92 221 [.ref 14, .int ((iN 0) + iN 1)] [.ref 37] ((76, n), a, b, r) = Den (d + 2) 92 222 [.ref 14, .int ((iN 0) + iN 1)] [.int ((iN 0) + iN 1), .ref 37] ((76, n), a, b, r) := fun a b r => Den_blk [zm0 (.iload_n 1) 1] (by decide +kernel) rfl
  have s84 : ∀ (a : Nat → Nat → Int32) (b : Nat → Nat → Int64) (r : Nat → Nat → Option Nat), Den (d + 2) 92 222 [.ref 14, .int ((iN 0) + iN 1)] [.int ((iN 0) + iN 1), .ref 37] ((76, n), a, b, r) = Den (d + 2) 92 225 [.ref 14, .int ((iN 0) + iN 1)] [.ref 76, .int ((iN 0) + iN 1), .ref 37] ((77, n), nwI 76 a, nwL 76 b, nwR 76 r) := fun a b r => Den_new (zmr (.new 54) 3 10 0 0 262 0) (by decide +kernel) (by decide +kernel) rfl
  have s85 : ∀ (a : Nat → Nat → Int32) (b : Nat → Nat → Int64) (r : Nat → Nat → Option Nat), Den (d + 2) 92 225 [.ref 14, .int ((iN 0) + iN 1)] [.ref 76, .int ((iN 0) + iN 1), .ref 37] ((77, n), a, b, r) = Den (d + 2) 92 226 [.ref 14, .int ((iN 0) + iN 1)] [.ref 76, .ref 76, .int ((iN 0) + iN 1), .ref 37] ((77, n), a, b, r) := fun a b r => Den_blk [zm0 (.dup) 1] (by decide +kernel) rfl
  have s86 : ∀ (a : Nat → Nat → Int32) (b : Nat → Nat → Int64) (r : Nat → Nat → Option Nat), Den (d + 2) 92 226 [.ref 14, .int ((iN 0) + iN 1)] [.ref 76, .ref 76, .int ((iN 0) + iN 1), .ref 37] ((77, n), a, b, r) = Den (d + 2) 92 229 [.ref 14, .int ((iN 0) + iN 1)] [.ref 76, .int ((iN 0) + iN 1), .ref 37] ((82, n), iA_82_77 a, iB_82_77 b, iR_82_77 r) := fun a b r => by
    rw [Den_callE (zmr (.invokespecial 60) 3 2 82 0 264 1) (by decide +kernel) rfl rfl]
    show Option.bind (Den (d + 1) 82 0 [.ref 76] [] ((77, n), a, b, r)) _ = _
    rw [iw_82_77]
    rfl
  have s87 : ∀ (a : Nat → Nat → Int32) (b : Nat → Nat → Int64) (r : Nat → Nat → Option Nat), Den (d + 2) 92 229 [.ref 14, .int ((iN 0) + iN 1)] [.ref 76, .int ((iN 0) + iN 1), .ref 37] ((82, n), a, b, r) = Den (d + 2) 92 230 [.ref 14, .int ((iN 0) + iN 1)] [] ((82, n), a, b, uR r 37 1 (some 76)) := fun a b r => (Den_if1 (zm0 (.aastore) 1) (c := zmIn (((iN 0) + iN 1)) 4 = true) (by decide +kernel) rfl).trans (if_pos (by decide +kernel))
  have s88 : ∀ (a : Nat → Nat → Int32) (b : Nat → Nat → Int64) (r : Nat → Nat → Option Nat), Den (d + 2) 92 230 [.ref 14, .int ((iN 0) + iN 1)] [] ((82, n), a, b, r) = Den (d + 2) 92 208 [.ref 14, .int (((iN 0) + iN 1) + iN 1)] [] ((82, n), a, b, r) := fun a b r => Den_blk [zmi (.iinc 1 1) 3 1, zm0 (.goto (-25)) 3] (by decide +kernel) rfl
  have s89 : ∀ (a : Nat → Nat → Int32) (b : Nat → Nat → Int64) (r : Nat → Nat → Option Nat), Den (d + 2) 92 208 [.ref 14, .int (((iN 0) + iN 1) + iN 1)] [] ((82, n), a, b, r) = Den (d + 2) 92 210 [.ref 14, .int (((iN 0) + iN 1) + iN 1)] [.ref 14, .int (((iN 0) + iN 1) + iN 1)] ((82, n), a, b, r) := fun a b r => Den_blk [zm0 (.iload_n 1) 1, zm0 (.aload_n 0) 1] (by decide +kernel) rfl
  have s90 : ∀ (a : Nat → Nat → Int32) (b : Nat → Nat → Int64) (r : Nat → Nat → Option Nat), r 14 8 = some 37 → Den (d + 2) 92 210 [.ref 14, .int (((iN 0) + iN 1) + iN 1)] [.ref 14, .int (((iN 0) + iN 1) + iN 1)] ((82, n), a, b, r) = Den (d + 2) 92 213 [.ref 14, .int (((iN 0) + iN 1) + iN 1)] [.ref 37, .int (((iN 0) + iN 1) + iN 1)] ((82, n), a, b, r) := fun a b r hr => (Den_blk [zmr (.getfield 56) 3 11 8 2 415 0] (st' := [zmRf (r 14 8), .int (((iN 0) + iN 1) + iN 1)]) (by decide +kernel) rfl).trans (Den_rw hr)
  have s91 : ∀ (a : Nat → Nat → Int32) (b : Nat → Nat → Int64) (r : Nat → Nat → Option Nat), Den (d + 2) 92 213 [.ref 14, .int (((iN 0) + iN 1) + iN 1)] [.ref 37, .int (((iN 0) + iN 1) + iN 1)] ((82, n), a, b, r) = Den (d + 2) 92 217 [.ref 14, .int (((iN 0) + iN 1) + iN 1)] [] ((82, n), a, b, r) := fun a b r => (Den_blk [zm0 (.arraylength) 1, zm0 (.if_icmp .ge 22) 3] (pc' := if (((iN 0) + iN 1) + iN 1) < (iN 4) then 217 else 236) (L' := [.ref 14, .int (((iN 0) + iN 1) + iN 1)]) (st' := []) (x' := ((82, n), a, b, r)) (by decide +kernel) rfl).trans ((Den_ite _).trans (if_pos (by decide +kernel)))
  have s92 : ∀ (a : Nat → Nat → Int32) (b : Nat → Nat → Int64) (r : Nat → Nat → Option Nat), Den (d + 2) 92 217 [.ref 14, .int (((iN 0) + iN 1) + iN 1)] [] ((82, n), a, b, r) = Den (d + 2) 92 218 [.ref 14, .int (((iN 0) + iN 1) + iN 1)] [.ref 14] ((82, n), a, b, r) := fun a b r => Den_blk [zm0 (.aload_n 0) 1] (by decide +kernel) rfl
  have s93 : ∀ (a : Nat → Nat → Int32) (b : Nat → Nat → Int64) (r : Nat → Nat → Option Nat), r 14 8 = some 37 → Den (d + 2) 92 218 [.ref 14, .int (((iN 0) + iN 1) + iN 1)] [.ref 14] ((82, n), a, b, r) = Den (d + 2) 92 221 [.ref 14, .int (((iN 0) + iN 1) + iN 1)] [.ref 37] ((82, n), a, b, r) := fun a b r hr => (Den_blk [zmr (.getfield 56) 3 11 8 2 415 0] (st' := [zmRf (r 14 8)]) (by decide +kernel) rfl).trans (Den_rw hr)
  have s94 : ∀ (a : Nat → Nat → Int32) (b : Nat → Nat → Int64) (r : Nat → Nat → Option Nat), Den (d + 2) 92 221 [.ref 14, .int (((iN 0) + iN 1) + iN 1)] [.ref 37] ((82, n), a, b, r) = Den (d + 2) 92 222 [.ref 14, .int (((iN 0) + iN 1) + iN 1)] [.int (((iN 0) + iN 1) + iN 1), .ref 37] ((82, n), a, b, r) := fun a b r => Den_blk [zm0 (.iload_n 1) 1] (by decide +kernel) rfl
  have s95 : ∀ (a : Nat → Nat → Int32) (b : Nat → Nat → Int64) (r : Nat → Nat → Option Nat), Den (d + 2) 92 222 [.ref 14, .int (((iN 0) + iN 1) + iN 1)] [.int (((iN 0) + iN 1) + iN 1), .ref 37] ((82, n), a, b, r) = Den (d + 2) 92 225 [.ref 14, .int (((iN 0) + iN 1) + iN 1)] [.ref 82, .int (((iN 0) + iN 1) + iN 1), .ref 37] ((83, n), nwI 82 a, nwL 82 b, nwR 82 r) := fun a b r => Den_new (zmr (.new 54) 3 10 0 0 262 0) (by decide +kernel) (by decide +kernel) rfl
  have s96 : ∀ (a : Nat → Nat → Int32) (b : Nat → Nat → Int64) (r : Nat → Nat → Option Nat), Den (d + 2) 92 225 [.ref 14, .int (((iN 0) + iN 1) + iN 1)] [.ref 82, .int (((iN 0) + iN 1) + iN 1), .ref 37] ((83, n), a, b, r) = Den (d + 2) 92 226 [.ref 14, .int (((iN 0) + iN 1) + iN 1)] [.ref 82, .ref 82, .int (((iN 0) + iN 1) + iN 1), .ref 37] ((83, n), a, b, r) := fun a b r => Den_blk [zm0 (.dup) 1] (by decide +kernel) rfl
  have s97 : ∀ (a : Nat → Nat → Int32) (b : Nat → Nat → Int64) (r : Nat → Nat → Option Nat), Den (d + 2) 92 226 [.ref 14, .int (((iN 0) + iN 1) + iN 1)] [.ref 82, .ref 82, .int (((iN 0) + iN 1) + iN 1), .ref 37] ((83, n), a, b, r) = Den (d + 2) 92 229 [.ref 14, .int (((iN 0) + iN 1) + iN 1)] [.ref 82, .int (((iN 0) + iN 1) + iN 1), .ref 37] ((88, n), iA_82_83 a, iB_82_83 b, iR_82_83 r) := fun a b r => by
    rw [Den_callE (zmr (.invokespecial 60) 3 2 82 0 264 1) (by decide +kernel) rfl rfl]
    show Option.bind (Den (d + 1) 82 0 [.ref 82] [] ((83, n), a, b, r)) _ = _
    rw [iw_82_83]
    rfl
  have s98 : ∀ (a : Nat → Nat → Int32) (b : Nat → Nat → Int64) (r : Nat → Nat → Option Nat), Den (d + 2) 92 229 [.ref 14, .int (((iN 0) + iN 1) + iN 1)] [.ref 82, .int (((iN 0) + iN 1) + iN 1), .ref 37] ((88, n), a, b, r) = Den (d + 2) 92 230 [.ref 14, .int (((iN 0) + iN 1) + iN 1)] [] ((88, n), a, b, uR r 37 2 (some 82)) := fun a b r => (Den_if1 (zm0 (.aastore) 1) (c := zmIn ((((iN 0) + iN 1) + iN 1)) 4 = true) (by decide +kernel) rfl).trans (if_pos (by decide +kernel))
  have s99 : ∀ (a : Nat → Nat → Int32) (b : Nat → Nat → Int64) (r : Nat → Nat → Option Nat), Den (d + 2) 92 230 [.ref 14, .int (((iN 0) + iN 1) + iN 1)] [] ((88, n), a, b, r) = Den (d + 2) 92 208 [.ref 14, .int ((((iN 0) + iN 1) + iN 1) + iN 1)] [] ((88, n), a, b, r) := fun a b r => Den_blk [zmi (.iinc 1 1) 3 1, zm0 (.goto (-25)) 3] (by decide +kernel) rfl
  have s100 : ∀ (a : Nat → Nat → Int32) (b : Nat → Nat → Int64) (r : Nat → Nat → Option Nat), Den (d + 2) 92 208 [.ref 14, .int ((((iN 0) + iN 1) + iN 1) + iN 1)] [] ((88, n), a, b, r) = Den (d + 2) 92 210 [.ref 14, .int ((((iN 0) + iN 1) + iN 1) + iN 1)] [.ref 14, .int ((((iN 0) + iN 1) + iN 1) + iN 1)] ((88, n), a, b, r) := fun a b r => Den_blk [zm0 (.iload_n 1) 1, zm0 (.aload_n 0) 1] (by decide +kernel) rfl
  have s101 : ∀ (a : Nat → Nat → Int32) (b : Nat → Nat → Int64) (r : Nat → Nat → Option Nat), r 14 8 = some 37 → Den (d + 2) 92 210 [.ref 14, .int ((((iN 0) + iN 1) + iN 1) + iN 1)] [.ref 14, .int ((((iN 0) + iN 1) + iN 1) + iN 1)] ((88, n), a, b, r) = Den (d + 2) 92 213 [.ref 14, .int ((((iN 0) + iN 1) + iN 1) + iN 1)] [.ref 37, .int ((((iN 0) + iN 1) + iN 1) + iN 1)] ((88, n), a, b, r) := fun a b r hr => (Den_blk [zmr (.getfield 56) 3 11 8 2 415 0] (st' := [zmRf (r 14 8), .int ((((iN 0) + iN 1) + iN 1) + iN 1)]) (by decide +kernel) rfl).trans (Den_rw hr)
  have s102 : ∀ (a : Nat → Nat → Int32) (b : Nat → Nat → Int64) (r : Nat → Nat → Option Nat), Den (d + 2) 92 213 [.ref 14, .int ((((iN 0) + iN 1) + iN 1) + iN 1)] [.ref 37, .int ((((iN 0) + iN 1) + iN 1) + iN 1)] ((88, n), a, b, r) = Den (d + 2) 92 217 [.ref 14, .int ((((iN 0) + iN 1) + iN 1) + iN 1)] [] ((88, n), a, b, r) := fun a b r => (Den_blk [zm0 (.arraylength) 1, zm0 (.if_icmp .ge 22) 3] (pc' := if ((((iN 0) + iN 1) + iN 1) + iN 1) < (iN 4) then 217 else 236) (L' := [.ref 14, .int ((((iN 0) + iN 1) + iN 1) + iN 1)]) (st' := []) (x' := ((88, n), a, b, r)) (by decide +kernel) rfl).trans ((Den_ite _).trans (if_pos (by decide +kernel)))
  have s103 : ∀ (a : Nat → Nat → Int32) (b : Nat → Nat → Int64) (r : Nat → Nat → Option Nat), Den (d + 2) 92 217 [.ref 14, .int ((((iN 0) + iN 1) + iN 1) + iN 1)] [] ((88, n), a, b, r) = Den (d + 2) 92 218 [.ref 14, .int ((((iN 0) + iN 1) + iN 1) + iN 1)] [.ref 14] ((88, n), a, b, r) := fun a b r => Den_blk [zm0 (.aload_n 0) 1] (by decide +kernel) rfl
  have s104 : ∀ (a : Nat → Nat → Int32) (b : Nat → Nat → Int64) (r : Nat → Nat → Option Nat), r 14 8 = some 37 → Den (d + 2) 92 218 [.ref 14, .int ((((iN 0) + iN 1) + iN 1) + iN 1)] [.ref 14] ((88, n), a, b, r) = Den (d + 2) 92 221 [.ref 14, .int ((((iN 0) + iN 1) + iN 1) + iN 1)] [.ref 37] ((88, n), a, b, r) := fun a b r hr => (Den_blk [zmr (.getfield 56) 3 11 8 2 415 0] (st' := [zmRf (r 14 8)]) (by decide +kernel) rfl).trans (Den_rw hr)
  have s105 : ∀ (a : Nat → Nat → Int32) (b : Nat → Nat → Int64) (r : Nat → Nat → Option Nat), Den (d + 2) 92 221 [.ref 14, .int ((((iN 0) + iN 1) + iN 1) + iN 1)] [.ref 37] ((88, n), a, b, r) = Den (d + 2) 92 222 [.ref 14, .int ((((iN 0) + iN 1) + iN 1) + iN 1)] [.int ((((iN 0) + iN 1) + iN 1) + iN 1), .ref 37] ((88, n), a, b, r) := fun a b r => Den_blk [zm0 (.iload_n 1) 1] (by decide +kernel) rfl
  have s106 : ∀ (a : Nat → Nat → Int32) (b : Nat → Nat → Int64) (r : Nat → Nat → Option Nat), Den (d + 2) 92 222 [.ref 14, .int ((((iN 0) + iN 1) + iN 1) + iN 1)] [.int ((((iN 0) + iN 1) + iN 1) + iN 1), .ref 37] ((88, n), a, b, r) = Den (d + 2) 92 225 [.ref 14, .int ((((iN 0) + iN 1) + iN 1) + iN 1)] [.ref 88, .int ((((iN 0) + iN 1) + iN 1) + iN 1), .ref 37] ((89, n), nwI 88 a, nwL 88 b, nwR 88 r) := fun a b r => Den_new (zmr (.new 54) 3 10 0 0 262 0) (by decide +kernel) (by decide +kernel) rfl
  have s107 : ∀ (a : Nat → Nat → Int32) (b : Nat → Nat → Int64) (r : Nat → Nat → Option Nat), Den (d + 2) 92 225 [.ref 14, .int ((((iN 0) + iN 1) + iN 1) + iN 1)] [.ref 88, .int ((((iN 0) + iN 1) + iN 1) + iN 1), .ref 37] ((89, n), a, b, r) = Den (d + 2) 92 226 [.ref 14, .int ((((iN 0) + iN 1) + iN 1) + iN 1)] [.ref 88, .ref 88, .int ((((iN 0) + iN 1) + iN 1) + iN 1), .ref 37] ((89, n), a, b, r) := fun a b r => Den_blk [zm0 (.dup) 1] (by decide +kernel) rfl
  have s108 : ∀ (a : Nat → Nat → Int32) (b : Nat → Nat → Int64) (r : Nat → Nat → Option Nat), Den (d + 2) 92 226 [.ref 14, .int ((((iN 0) + iN 1) + iN 1) + iN 1)] [.ref 88, .ref 88, .int ((((iN 0) + iN 1) + iN 1) + iN 1), .ref 37] ((89, n), a, b, r) = Den (d + 2) 92 229 [.ref 14, .int ((((iN 0) + iN 1) + iN 1) + iN 1)] [.ref 88, .int ((((iN 0) + iN 1) + iN 1) + iN 1), .ref 37] ((94, n), iA_82_89 a, iB_82_89 b, iR_82_89 r) := fun a b r => by
    rw [Den_callE (zmr (.invokespecial 60) 3 2 82 0 264 1) (by decide +kernel) rfl rfl]
    show Option.bind (Den (d + 1) 82 0 [.ref 88] [] ((89, n), a, b, r)) _ = _
    rw [iw_82_89]
    rfl
  have s109 : ∀ (a : Nat → Nat → Int32) (b : Nat → Nat → Int64) (r : Nat → Nat → Option Nat), Den (d + 2) 92 229 [.ref 14, .int ((((iN 0) + iN 1) + iN 1) + iN 1)] [.ref 88, .int ((((iN 0) + iN 1) + iN 1) + iN 1), .ref 37] ((94, n), a, b, r) = Den (d + 2) 92 230 [.ref 14, .int ((((iN 0) + iN 1) + iN 1) + iN 1)] [] ((94, n), a, b, uR r 37 3 (some 88)) := fun a b r => (Den_if1 (zm0 (.aastore) 1) (c := zmIn (((((iN 0) + iN 1) + iN 1) + iN 1)) 4 = true) (by decide +kernel) rfl).trans (if_pos (by decide +kernel))
  have s110 : ∀ (a : Nat → Nat → Int32) (b : Nat → Nat → Int64) (r : Nat → Nat → Option Nat), Den (d + 2) 92 230 [.ref 14, .int ((((iN 0) + iN 1) + iN 1) + iN 1)] [] ((94, n), a, b, r) = Den (d + 2) 92 208 [.ref 14, .int (((((iN 0) + iN 1) + iN 1) + iN 1) + iN 1)] [] ((94, n), a, b, r) := fun a b r => Den_blk [zmi (.iinc 1 1) 3 1, zm0 (.goto (-25)) 3] (by decide +kernel) rfl
  have s111 : ∀ (a : Nat → Nat → Int32) (b : Nat → Nat → Int64) (r : Nat → Nat → Option Nat), Den (d + 2) 92 208 [.ref 14, .int (((((iN 0) + iN 1) + iN 1) + iN 1) + iN 1)] [] ((94, n), a, b, r) = Den (d + 2) 92 210 [.ref 14, .int (((((iN 0) + iN 1) + iN 1) + iN 1) + iN 1)] [.ref 14, .int (((((iN 0) + iN 1) + iN 1) + iN 1) + iN 1)] ((94, n), a, b, r) := fun a b r => Den_blk [zm0 (.iload_n 1) 1, zm0 (.aload_n 0) 1] (by decide +kernel) rfl
  have s112 : ∀ (a : Nat → Nat → Int32) (b : Nat → Nat → Int64) (r : Nat → Nat → Option Nat), r 14 8 = some 37 → Den (d + 2) 92 210 [.ref 14, .int (((((iN 0) + iN 1) + iN 1) + iN 1) + iN 1)] [.ref 14, .int (((((iN 0) + iN 1) + iN 1) + iN 1) + iN 1)] ((94, n), a, b, r) = Den (d + 2) 92 213 [.ref 14, .int (((((iN 0) + iN 1) + iN 1) + iN 1) + iN 1)] [.ref 37, .int (((((iN 0) + iN 1) + iN 1) + iN 1) + iN 1)] ((94, n), a, b, r) := fun a b r hr => (Den_blk [zmr (.getfield 56) 3 11 8 2 415 0] (st' := [zmRf (r 14 8), .int (((((iN 0) + iN 1) + iN 1) + iN 1) + iN 1)]) (by decide +kernel) rfl).trans (Den_rw hr)
  have s113 : ∀ (a : Nat → Nat → Int32) (b : Nat → Nat → Int64) (r : Nat → Nat → Option Nat), Den (d + 2) 92 213 [.ref 14, .int (((((iN 0) + iN 1) + iN 1) + iN 1) + iN 1)] [.ref 37, .int (((((iN 0) + iN 1) + iN 1) + iN 1) + iN 1)] ((94, n), a, b, r) = Den (d + 2) 92 236 [.ref 14, .int (((((iN 0) + iN 1) + iN 1) + iN 1) + iN 1)] [] ((94, n), a, b, r) := fun a b r => (Den_blk [zm0 (.arraylength) 1, zm0 (.if_icmp .ge 22) 3] (pc' := if (((((iN 0) + iN 1) + iN 1) + iN 1) + iN 1) < (iN 4) then 217 else 236) (L' := [.ref 14, .int (((((iN 0) + iN 1) + iN 1) + iN 1) + iN 1)]) (st' := []) (x' := ((94, n), a, b, r)) (by decide +kernel) rfl).trans ((Den_ite _).trans (if_neg (by decide +kernel)))
  rw [s0]
  rw [s1]
  rw [s2]
  rw [s3]
  rw [s4]
  rw [s5]
  rw [s6]
  rw [s7]
  rw [s8]
  rw [s9]
  rw [s10]
  rw [s11]
  rw [s12]
  rw [s13]
  rw [s14]
  rw [s15]
  rw [s16]
  rw [s17]
  rw [s18]
  rw [s19]
  rw [s20]
  rw [s21 _ _ _ (by rfl)]
  rw [s22]
  rw [s23 _ _ _ (by rfl)]
  rw [s24]
  rw [s25 _ _ _ (by rfl)]
  rw [s26]
  rw [s27]
  rw [s28]
  rw [s29]
  rw [s30]
  rw [s31]
  rw [s32]
  rw [s33]
  rw [s34]
  rw [s35]
  rw [s36]
  rw [s37]
  rw [s38]
  rw [s39]
  rw [s40 _ _ _ (by rfl)]
  rw [s41]
  rw [s42]
  rw [s43]
  rw [s44]
  rw [s45 _ _ _ (by rfl)]
  rw [s46]
  rw [s47]
  rw [s48]
  rw [s49]
  rw [s50 _ _ _ (by rfl)]
  rw [s51]
  rw [s52 _ _ _ (by rfl)]
  rw [s53]
  rw [s54]
  rw [s55]
  rw [s56]
  rw [s57 _ _ _ (by rfl)]
  rw [s58]
  rw [s59]
  rw [s60]
  rw [s61]
  rw [s62]
  rw [s63]
  rw [s64]
  rw [s65]
  rw [s66]
  rw [s67]
  rw [s68 _ _ _ (by rfl)]
  rw [s69]
  rw [s70]
  rw [s71 _ _ _ (by rfl)]
  rw [s72]
  rw [s73]
  rw [s74]
  rw [s75]
  rw [s76]
  rw [s77]
  rw [s78]
  rw [s79 _ _ _ (by rfl)]
  rw [s80]
  rw [s81]
  rw [s82 _ _ _ (by rfl)]
  rw [s83]
  rw [s84]
  rw [s85]
  rw [s86]
  rw [s87]
  rw [s88]
  rw [s89]
  rw [s90 _ _ _ (by rfl)]
  rw [s91]
  rw [s92]
  rw [s93 _ _ _ (by rfl)]
  rw [s94]
  rw [s95]
  rw [s96]
  rw [s97]
  rw [s98]
  rw [s99]
  rw [s100]
  rw [s101 _ _ _ (by rfl)]
  rw [s102]
  rw [s103]
  rw [s104 _ _ _ (by rfl)]
  rw [s105]
  rw [s106]
  rw [s107]
  rw [s108]
  rw [s109]
  rw [s110]
  rw [s111]
  rw [s112 _ _ _ (by rfl)]
  rw [s113]
  exact Den_retE (zm0 (.return_) 1) (by decide +kernel) rfl
def iA_149_95 (a : Nat → Nat → Int32) : Nat → Nat → Int32 := (uI (uI (uI (nwI 146 (nwI 145 (nwI 144 (nwI 143 (nwI 142 (nwI 141 (nwI 140 (nwI 139 (nwI 138 (nwI 137 (nwI 136 (nwI 135 (nwI 134 (nwI 133 (nwI 132 (nwI 131 (nwI 130 (nwI 129 (nwI 128 (nwI 127 (nwI 126 (nwI 125 (nwI 124 (nwI 123 (nwI 122 (nwI 121 (nwI 120 (nwI 119 (nwI 118 (nwI 117 (nwI 116 (nwI 115 (nwI 114 (nwI 113 (nwI 112 (nwI 111 (nwI 110 (nwI 109 (nwI 108 (nwI 107 (nwI 106 (nwI 105 (nwI 104 (nwI 103 (nwI 102 (nwI 101 (nwI 100 (nwI 99 (nwI 98 (nwI 97 (nwI 96 (nwI 95 a)))))))))))))))))))))))))))))))))))))))))))))))))))) 94 0 (iN 6)) 94 1 (iN 1)) 94 74 (iN 0))
def iB_149_95 (b : Nat → Nat → Int64) : Nat → Nat → Int64 := (nwL 146 (nwL 145 (nwL 144 (nwL 143 (nwL 142 (nwL 141 (nwL 140 (nwL 139 (nwL 138 (nwL 137 (nwL 136 (nwL 135 (nwL 134 (nwL 133 (nwL 132 (nwL 131 (nwL 130 (nwL 129 (nwL 128 (nwL 127 (nwL 126 (nwL 125 (nwL 124 (nwL 123 (nwL 122 (nwL 121 (nwL 120 (nwL 119 (nwL 118 (nwL 117 (nwL 116 (nwL 115 (nwL 114 (nwL 113 (nwL 112 (nwL 111 (nwL 110 (nwL 109 (nwL 108 (nwL 107 (nwL 106 (nwL 105 (nwL 104 (nwL 103 (nwL 102 (nwL 101 (nwL 100 (nwL 99 (nwL 98 (nwL 97 (nwL 96 (nwL 95 b))))))))))))))))))))))))))))))))))))))))))))))))))))
def iR_149_95 (r : Nat → Nat → Option Nat) : Nat → Nat → Option Nat := (uR (nwR 146 (uR (nwR 145 (uR (nwR 144 (uR (nwR 143 (uR (nwR 142 (uR (nwR 141 (uR (nwR 140 (uR (nwR 139 (uR (nwR 138 (uR (nwR 137 (uR (nwR 136 (uR (nwR 135 (uR (nwR 134 (uR (nwR 133 (uR (nwR 132 (uR (nwR 131 (uR (nwR 130 (uR (nwR 129 (uR (nwR 128 (uR (nwR 127 (uR (nwR 126 (uR (nwR 125 (uR (nwR 124 (uR (nwR 123 (uR (nwR 122 (uR (nwR 121 (uR (nwR 120 (uR (nwR 119 (uR (nwR 118 (uR (nwR 117 (uR (nwR 116 (uR (nwR 115 (uR (nwR 114 (uR (nwR 113 (uR (nwR 112 (uR (nwR 111 (uR (nwR 110 (uR (nwR 109 (uR (nwR 108 (uR (nwR 107 (uR (nwR 106 (uR (nwR 105 (uR (nwR 104 (uR (nwR 103 (uR (nwR 102 (uR (nwR 101 (uR (nwR 100 (uR (nwR 99 (uR (nwR 98 (uR (nwR 97 (uR (nwR 96 (uR (nwR 95 r) 94 7 (some 95))) 94 13 (some 96))) 94 14 (some 97))) 94 15 (some 98))) 94 16 (some 99))) 94 21 (some 100))) 94 22 (some 101))) 94 23 (some 102))) 94 24 (some 103))) 94 25 (some 104))) 94 26 (some 105))) 94 27 (some 106))) 94 28 (some 107))) 94 29 (some 108))) 94 30 (some 109))) 94 31 (some 110))) 94 32 (some 111))) 94 33 (some 112))) 94 34 (some 113))) 94 36 (some 114))) 94 37 (some 115))) 94 38 (some 116))) 94 43 (some 117))) 94 44 (some 118))) 94 45 (some 119))) 94 46 (some 120))) 94 47 (some 121))) 94 48 (some 122))) 94 58 (some 123))) 94 59 (some 124))) 94 60 (some 125))) 94 61 (some 126))) 94 66 (some 127))) 94 67 (some 128))) 94 68 (some 129))) 94 69 (some 130))) 94 70 (some 131))) 94 71 (some 132))) 94 72 (some 133))) 94 75 (some 134))) 94 76 (some 135))) 94 77 (some 136))) 94 78 (some 137))) 94 79 (some 138))) 94 85 (some 139))) 94 86 (some 140))) 94 87 (some 141))) 94 88 (some 142))) 94 89 (some 143))) 94 90 (some 144))) 94 91 (some 145))) 94 92 (some 146))
theorem iw_149_95 {d n : Nat} {a : Nat → Nat → Int32} {b : Nat → Nat → Int64} {r : Nat → Nat → Option Nat} : Den d 149 0 [.ref 94] [] ((95, n), a, b, r) = some (none, ((147, n), iA_149_95 a, iB_149_95 b, iR_149_95 r)) := by
  have s0 : ∀ (a : Nat → Nat → Int32) (b : Nat → Nat → Int64) (r : Nat → Nat → Option Nat), Den d 149 0 [.ref 94] [] ((95, n), a, b, r) = Den d 149 8 [.ref 94] [.int (iN 260), .ref 94] ((95, n), a, b, r) := fun a b r => Den_blk [zm0 (.aload_n 0) 1, zmr (.invokespecial 1) 3 3 0 0 1179 0, zm0 (.aload_n 0) 1, zmi (.sipush 260) 3 260] (by decide +kernel) rfl
  have s1 : ∀ (a : Nat → Nat → Int32) (b : Nat → Nat → Int64) (r : Nat → Nat → Option Nat), Den d 149 8 [.ref 94] [.int (iN 260), .ref 94] ((95, n), a, b, r) = Den d 149 10 [.ref 94] [.ref 95, .ref 94] ((96, n), nwI 95 a, nwL 95 b, nwR 95 r) := fun a b r => Den_nw_byte (by decide +kernel) (by decide +kernel) (by decide +kernel)
  have s2 : ∀ (a : Nat → Nat → Int32) (b : Nat → Nat → Int64) (r : Nat → Nat → Option Nat), Den d 149 10 [.ref 94] [.ref 95, .ref 94] ((96, n), a, b, r) = Den d 149 16 [.ref 94] [.int (iN 120), .ref 94] ((96, n), a, b, (uR r 94 7 (some 95))) := fun a b r => Den_blk [zmr (.putfield 7) 3 12 7 2 1188 0, zm0 (.aload_n 0) 1, zmi (.bipush 120) 2 120] (by decide +kernel) rfl
  have s3 : ∀ (a : Nat → Nat → Int32) (b : Nat → Nat → Int64) (r : Nat → Nat → Option Nat), Den d 149 16 [.ref 94] [.int (iN 120), .ref 94] ((96, n), a, b, r) = Den d 149 18 [.ref 94] [.ref 96, .ref 94] ((97, n), nwI 96 a, nwL 96 b, nwR 96 r) := fun a b r => Den_nw_int (by decide +kernel) (by decide +kernel) (by decide +kernel)
  have s4 : ∀ (a : Nat → Nat → Int32) (b : Nat → Nat → Int64) (r : Nat → Nat → Option Nat), Den d 149 18 [.ref 94] [.ref 96, .ref 94] ((97, n), a, b, r) = Den d 149 24 [.ref 94] [.int (iN 120), .ref 94] ((97, n), a, b, (uR r 94 13 (some 96))) := fun a b r => Den_blk [zmr (.putfield 13) 3 12 13 2 1194 0, zm0 (.aload_n 0) 1, zmi (.bipush 120) 2 120] (by decide +kernel) rfl
  have s5 : ∀ (a : Nat → Nat → Int32) (b : Nat → Nat → Int64) (r : Nat → Nat → Option Nat), Den d 149 24 [.ref 94] [.int (iN 120), .ref 94] ((97, n), a, b, r) = Den d 149 26 [.ref 94] [.ref 97, .ref 94] ((98, n), nwI 97 a, nwL 97 b, nwR 97 r) := fun a b r => Den_nw_int (by decide +kernel) (by decide +kernel) (by decide +kernel)
  have s6 : ∀ (a : Nat → Nat → Int32) (b : Nat → Nat → Int64) (r : Nat → Nat → Option Nat), Den d 149 26 [.ref 94] [.ref 97, .ref 94] ((98, n), a, b, r) = Den d 149 32 [.ref 94] [.int (iN 16), .ref 94] ((98, n), a, b, (uR r 94 14 (some 97))) := fun a b r => Den_blk [zmr (.putfield 17) 3 12 14 2 1195 0, zm0 (.aload_n 0) 1, zmi (.bipush 16) 2 16] (by decide +kernel) rfl
  have s7 : ∀ (a : Nat → Nat → Int32) (b : Nat → Nat → Int64) (r : Nat → Nat → Option Nat), Den d 149 32 [.ref 94] [.int (iN 16), .ref 94] ((98, n), a, b, r) = Den d 149 34 [.ref 94] [.ref 98, .ref 94] ((99, n), nwI 98 a, nwL 98 b, nwR 98 r) := fun a b r => Den_nw_int (by decide +kernel) (by decide +kernel) (by decide +kernel)
  have s8 : ∀ (a : Nat → Nat → Int32) (b : Nat → Nat → Int64) (r : Nat → Nat → Option Nat), Den d 149 34 [.ref 94] [.ref 98, .ref 94] ((99, n), a, b, r) = Den d 149 40 [.ref 94] [.int (iN 16), .ref 94] ((99, n), a, b, (uR r 94 15 (some 98))) := fun a b r => Den_blk [zmr (.putfield 20) 3 12 15 2 1196 0, zm0 (.aload_n 0) 1, zmi (.bipush 16) 2 16] (by decide +kernel) rfl
  have s9 : ∀ (a : Nat → Nat → Int32) (b : Nat → Nat → Int64) (r : Nat → Nat → Option Nat), Den d 149 40 [.ref 94] [.int (iN 16), .ref 94] ((99, n), a, b, r) = Den d 149 42 [.ref 94] [.ref 99, .ref 94] ((100, n), nwI 99 a, nwL 99 b, nwR 99 r) := fun a b r => Den_nw_int (by decide +kernel) (by decide +kernel) (by decide +kernel)
  have s10 : ∀ (a : Nat → Nat → Int32) (b : Nat → Nat → Int64) (r : Nat → Nat → Option Nat), Den d 149 42 [.ref 94] [.ref 99, .ref 94] ((100, n), a, b, r) = Den d 149 49 [.ref 94] [.int (iN 260), .ref 94] ((100, n), a, b, (uR r 94 16 (some 99))) := fun a b r => Den_blk [zmr (.putfield 23) 3 12 16 2 1197 0, zm0 (.aload_n 0) 1, zmi (.sipush 260) 3 260] (by decide +kernel) rfl
  have s11 : ∀ (a : Nat → Nat → Int32) (b : Nat → Nat → Int64) (r : Nat → Nat → Option Nat), Den d 149 49 [.ref 94] [.int (iN 260), .ref 94] ((100, n), a, b, r) = Den d 149 51 [.ref 94] [.ref 100, .ref 94] ((101, n), nwI 100 a, nwL 100 b, nwR 100 r) := fun a b r => Den_nw_int (by decide +kernel) (by decide +kernel) (by decide +kernel)
  have s12 : ∀ (a : Nat → Nat → Int32) (b : Nat → Nat → Int64) (r : Nat → Nat → Option Nat), Den d 149 51 [.ref 94] [.ref 100, .ref 94] ((101, n), a, b, r) = Den d 149 58 [.ref 94] [.int (iN 260), .ref 94] ((101, n), a, b, (uR r 94 21 (some 100))) := fun a b r => Den_blk [zmr (.putfield 26) 3 12 21 2 1202 0, zm0 (.aload_n 0) 1, zmi (.sipush 260) 3 260] (by decide +kernel) rfl
  have s13 : ∀ (a : Nat → Nat → Int32) (b : Nat → Nat → Int64) (r : Nat → Nat → Option Nat), Den d 149 58 [.ref 94] [.int (iN 260), .ref 94] ((101, n), a, b, r) = Den d 149 60 [.ref 94] [.ref 101, .ref 94] ((102, n), nwI 101 a, nwL 101 b, nwR 101 r) := fun a b r => Den_nw_int (by decide +kernel) (by decide +kernel) (by decide +kernel)
  have s14 : ∀ (a : Nat → Nat → Int32) (b : Nat → Nat → Int64) (r : Nat → Nat → Option Nat), Den d 149 60 [.ref 94] [.ref 101, .ref 94] ((102, n), a, b, r) = Den d 149 66 [.ref 94] [.int (iN 16), .ref 94] ((102, n), a, b, (uR r 94 22 (some 101))) := fun a b r => Den_blk [zmr (.putfield 29) 3 12 22 2 1203 0, zm0 (.aload_n 0) 1, zmi (.bipush 16) 2 16] (by decide +kernel) rfl
  have s15 : ∀ (a : Nat → Nat → Int32) (b : Nat → Nat → Int64) (r : Nat → Nat → Option Nat), Den d 149 66 [.ref 94] [.int (iN 16), .ref 94] ((102, n), a, b, r) = Den d 149 68 [.ref 94] [.ref 102, .ref 94] ((103, n), nwI 102 a, nwL 102 b, nwR 102 r) := fun a b r => Den_nw_int (by decide +kernel) (by decide +kernel) (by decide +kernel)
  have s16 : ∀ (a : Nat → Nat → Int32) (b : Nat → Nat → Int64) (r : Nat → Nat → Option Nat), Den d 149 68 [.ref 94] [.ref 102, .ref 94] ((103, n), a, b, r) = Den d 149 74 [.ref 94] [.int (iN 16), .ref 94] ((103, n), a, b, (uR r 94 23 (some 102))) := fun a b r => Den_blk [zmr (.putfield 32) 3 12 23 2 1204 0, zm0 (.aload_n 0) 1, zmi (.bipush 16) 2 16] (by decide +kernel) rfl
  have s17 : ∀ (a : Nat → Nat → Int32) (b : Nat → Nat → Int64) (r : Nat → Nat → Option Nat), Den d 149 74 [.ref 94] [.int (iN 16), .ref 94] ((103, n), a, b, r) = Den d 149 76 [.ref 94] [.ref 103, .ref 94] ((104, n), nwI 103 a, nwL 103 b, nwR 103 r) := fun a b r => Den_nw_int (by decide +kernel) (by decide +kernel) (by decide +kernel)
  have s18 : ∀ (a : Nat → Nat → Int32) (b : Nat → Nat → Int64) (r : Nat → Nat → Option Nat), Den d 149 76 [.ref 94] [.ref 103, .ref 94] ((104, n), a, b, r) = Den d 149 82 [.ref 94] [.int (iN 16), .ref 94] ((104, n), a, b, (uR r 94 24 (some 103))) := fun a b r => Den_blk [zmr (.putfield 35) 3 12 24 2 1205 0, zm0 (.aload_n 0) 1, zmi (.bipush 16) 2 16] (by decide +kernel) rfl
  have s19 : ∀ (a : Nat → Nat → Int32) (b : Nat → Nat → Int64) (r : Nat → Nat → Option Nat), Den d 149 82 [.ref 94] [.int (iN 16), .ref 94] ((104, n), a, b, r) = Den d 149 84 [.ref 94] [.ref 104, .ref 94] ((105, n), nwI 104 a, nwL 104 b, nwR 104 r) := fun a b r => Den_nw_int (by decide +kernel) (by decide +kernel) (by decide +kernel)
  have s20 : ∀ (a : Nat → Nat → Int32) (b : Nat → Nat → Int64) (r : Nat → Nat → Option Nat), Den d 149 84 [.ref 94] [.ref 104, .ref 94] ((105, n), a, b, r) = Den d 149 90 [.ref 94] [.int (iN 16), .ref 94] ((105, n), a, b, (uR r 94 25 (some 104))) := fun a b r => Den_blk [zmr (.putfield 38) 3 12 25 2 1206 0, zm0 (.aload_n 0) 1, zmi (.bipush 16) 2 16] (by decide +kernel) rfl
  have s21 : ∀ (a : Nat → Nat → Int32) (b : Nat → Nat → Int64) (r : Nat → Nat → Option Nat), Den d 149 90 [.ref 94] [.int (iN 16), .ref 94] ((105, n), a, b, r) = Den d 149 92 [.ref 94] [.ref 105, .ref 94] ((106, n), nwI 105 a, nwL 105 b, nwR 105 r) := fun a b r => Den_nw_int (by decide +kernel) (by decide +kernel) (by decide +kernel)
  have s22 : ∀ (a : Nat → Nat → Int32) (b : Nat → Nat → Int64) (r : Nat → Nat → Option Nat), Den d 149 92 [.ref 94] [.ref 105, .ref 94] ((106, n), a, b, r) = Den d 149 99 [.ref 94] [.int (iN 1300), .ref 94] ((106, n), a, b, (uR r 94 26 (some 105))) := fun a b r => Den_blk [zmr (.putfield 41) 3 12 26 2 1207 0, zm0 (.aload_n 0) 1, zmi (.sipush 1300) 3 1300] (by decide +kernel) rfl
  have s23 : ∀ (a : Nat → Nat → Int32) (b : Nat → Nat → Int64) (r : Nat → Nat → Option Nat), Den d 149 99 [.ref 94] [.int (iN 1300), .ref 94] ((106, n), a, b, r) = Den d 149 101 [.ref 94] [.ref 106, .ref 94] ((107, n), nwI 106 a, nwL 106 b, nwR 106 r) := fun a b r => Den_nw_int (by decide +kernel) (by decide +kernel) (by decide +kernel)
  have s24 : ∀ (a : Nat → Nat → Int32) (b : Nat → Nat → Int64) (r : Nat → Nat → Option Nat), Den d 149 101 [.ref 94] [.ref 106, .ref 94] ((107, n), a, b, r) = Den d 149 106 [.ref 94] [.int (iN 5), .ref 94] ((107, n), a, b, (uR r 94 27 (some 106))) := fun a b r => Den_blk [zmr (.putfield 44) 3 12 27 2 1208 0, zm0 (.aload_n 0) 1, zmi (.iconst 5) 1 5] (by decide +kernel) rfl
  have s25 : ∀ (a : Nat → Nat → Int32) (b : Nat → Nat → Int64) (r : Nat → Nat → Option Nat), Den d 149 106 [.ref 94] [.int (iN 5), .ref 94] ((107, n), a, b, r) = Den d 149 108 [.ref 94] [.ref 107, .ref 94] ((108, n), nwI 107 a, nwL 107 b, nwR 107 r) := fun a b r => Den_nw_int (by decide +kernel) (by decide +kernel) (by decide +kernel)
  have s26 : ∀ (a : Nat → Nat → Int32) (b : Nat → Nat → Int64) (r : Nat → Nat → Option Nat), Den d 149 108 [.ref 94] [.ref 107, .ref 94] ((108, n), a, b, r) = Den d 149 114 [.ref 94] [.int (iN 80), .ref 94] ((108, n), a, b, (uR r 94 28 (some 107))) := fun a b r => Den_blk [zmr (.putfield 47) 3 12 28 2 1209 0, zm0 (.aload_n 0) 1, zmi (.bipush 80) 2 80] (by decide +kernel) rfl
  have s27 : ∀ (a : Nat → Nat → Int32) (b : Nat → Nat → Int64) (r : Nat → Nat → Option Nat), Den d 149 114 [.ref 94] [.int (iN 80), .ref 94] ((108, n), a, b, r) = Den d 149 116 [.ref 94] [.ref 108, .ref 94] ((109, n), nwI 108 a, nwL 108 b, nwR 108 r) := fun a b r => Den_nw_int (by decide +kernel) (by decide +kernel) (by decide +kernel)
  have s28 : ∀ (a : Nat → Nat → Int32) (b : Nat → Nat → Int64) (r : Nat → Nat → Option Nat), Den d 149 116 [.ref 94] [.ref 108, .ref 94] ((109, n), a, b, r) = Den d 149 122 [.ref 94] [.int (iN 80), .ref 94] ((109, n), a, b, (uR r 94 29 (some 108))) := fun a b r => Den_blk [zmr (.putfield 50) 3 12 29 2 1210 0, zm0 (.aload_n 0) 1, zmi (.bipush 80) 2 80] (by decide +kernel) rfl
  have s29 : ∀ (a : Nat → Nat → Int32) (b : Nat → Nat → Int64) (r : Nat → Nat → Option Nat), Den d 149 122 [.ref 94] [.int (iN 80), .ref 94] ((109, n), a, b, r) = Den d 149 124 [.ref 94] [.ref 109, .ref 94] ((110, n), nwI 109 a, nwL 109 b, nwR 109 r) := fun a b r => Den_nw_int (by decide +kernel) (by decide +kernel) (by decide +kernel)
  have s30 : ∀ (a : Nat → Nat → Int32) (b : Nat → Nat → Int64) (r : Nat → Nat → Option Nat), Den d 149 124 [.ref 94] [.ref 109, .ref 94] ((110, n), a, b, r) = Den d 149 130 [.ref 94] [.int (iN 80), .ref 94] ((110, n), a, b, (uR r 94 30 (some 109))) := fun a b r => Den_blk [zmr (.putfield 53) 3 12 30 2 1211 0, zm0 (.aload_n 0) 1, zmi (.bipush 80) 2 80] (by decide +kernel) rfl
  have s31 : ∀ (a : Nat → Nat → Int32) (b : Nat → Nat → Int64) (r : Nat → Nat → Option Nat), Den d 149 130 [.ref 94] [.int (iN 80), .ref 94] ((110, n), a, b, r) = Den d 149 132 [.ref 94] [.ref 110, .ref 94] ((111, n), nwI 110 a, nwL 110 b, nwR 110 r) := fun a b r => Den_nw_int (by decide +kernel) (by decide +kernel) (by decide +kernel)
  have s32 : ∀ (a : Nat → Nat → Int32) (b : Nat → Nat → Int64) (r : Nat → Nat → Option Nat), Den d 149 132 [.ref 94] [.ref 110, .ref 94] ((111, n), a, b, r) = Den d 149 138 [.ref 94] [.int (iN 80), .ref 94] ((111, n), a, b, (uR r 94 31 (some 110))) := fun a b r => Den_blk [zmr (.putfield 56) 3 12 31 2 1212 0, zm0 (.aload_n 0) 1, zmi (.bipush 80) 2 80] (by decide +kernel) rfl
  have s33 : ∀ (a : Nat → Nat → Int32) (b : Nat → Nat → Int64) (r : Nat → Nat → Option Nat), Den d 149 138 [.ref 94] [.int (iN 80), .ref 94] ((111, n), a, b, r) = Den d 149 140 [.ref 94] [.ref 111, .ref 94] ((112, n), nwI 111 a, nwL 111 b, nwR 111 r) := fun a b r => Den_nw_int (by decide +kernel) (by decide +kernel) (by decide +kernel)
  have s34 : ∀ (a : Nat → Nat → Int32) (b : Nat → Nat → Int64) (r : Nat → Nat → Option Nat), Den d 149 140 [.ref 94] [.ref 111, .ref 94] ((112, n), a, b, r) = Den d 149 147 [.ref 94] [.int (iN 260), .ref 94] ((112, n), a, b, (uR r 94 32 (some 111))) := fun a b r => Den_blk [zmr (.putfield 59) 3 12 32 2 1213 0, zm0 (.aload_n 0) 1, zmi (.sipush 260) 3 260] (by decide +kernel) rfl
  have s35 : ∀ (a : Nat → Nat → Int32) (b : Nat → Nat → Int64) (r : Nat → Nat → Option Nat), Den d 149 147 [.ref 94] [.int (iN 260), .ref 94] ((112, n), a, b, r) = Den d 149 149 [.ref 94] [.ref 112, .ref 94] ((113, n), nwI 112 a, nwL 112 b, nwR 112 r) := fun a b r => Den_nw_int (by decide +kernel) (by decide +kernel) (by decide +kernel)
  have s36 : ∀ (a : Nat → Nat → Int32) (b : Nat → Nat → Int64) (r : Nat → Nat → Option Nat), Den d 149 149 [.ref 94] [.ref 112, .ref 94] ((113, n), a, b, r) = Den d 149 155 [.ref 94] [.int (iN 10), .ref 94] ((113, n), a, b, (uR r 94 33 (some 112))) := fun a b r => Den_blk [zmr (.putfield 62) 3 12 33 2 1214 0, zm0 (.aload_n 0) 1, zmi (.bipush 10) 2 10] (by decide +kernel) rfl
  have s37 : ∀ (a : Nat → Nat → Int32) (b : Nat → Nat → Int64) (r : Nat → Nat → Option Nat), Den d 149 155 [.ref 94] [.int (iN 10), .ref 94] ((113, n), a, b, r) = Den d 149 157 [.ref 94] [.ref 113, .ref 94] ((114, n), nwI 113 a, nwL 113 b, nwR 113 r) := fun a b r => Den_nw_int (by decide +kernel) (by decide +kernel) (by decide +kernel)
  have s38 : ∀ (a : Nat → Nat → Int32) (b : Nat → Nat → Int64) (r : Nat → Nat → Option Nat), Den d 149 157 [.ref 94] [.ref 113, .ref 94] ((114, n), a, b, r) = Den d 149 163 [.ref 94] [.int (iN 43560), .ref 94] ((114, n), a, b, (uR r 94 34 (some 113))) := fun a b r => Den_blk [zmr (.putfield 65) 3 12 34 2 1215 0, zm0 (.aload_n 0) 1, zmc (.ldc 68) 2 43560 1180] (by decide +kernel) rfl
  have s39 : ∀ (a : Nat → Nat → Int32) (b : Nat → Nat → Int64) (r : Nat → Nat → Option Nat), Den d 149 163 [.ref 94] [.int (iN 43560), .ref 94] ((114, n), a, b, r) = Den d 149 165 [.ref 94] [.ref 114, .ref 94] ((115, n), nwI 114 a, nwL 114 b, nwR 114 r) := fun a b r => Den_nw_boolean (by decide +kernel) (by decide +kernel) (by decide +kernel)
  have s40 : ∀ (a : Nat → Nat → Int32) (b : Nat → Nat → Int64) (r : Nat → Nat → Option Nat), Den d 149 165 [.ref 94] [.ref 114, .ref 94] ((115, n), a, b, r) = Den d 149 171 [.ref 94] [.int (iN 43560), .ref 94] ((115, n), a, b, (uR r 94 36 (some 114))) := fun a b r => Den_blk [zmr (.putfield 69) 3 12 36 2 1217 0, zm0 (.aload_n 0) 1, zmc (.ldc 68) 2 43560 1180] (by decide +kernel) rfl
  have s41 : ∀ (a : Nat → Nat → Int32) (b : Nat → Nat → Int64) (r : Nat → Nat → Option Nat), Den d 149 171 [.ref 94] [.int (iN 43560), .ref 94] ((115, n), a, b, r) = Den d 149 173 [.ref 94] [.ref 115, .ref 94] ((116, n), nwI 115 a, nwL 115 b, nwR 115 r) := fun a b r => Den_nw_long (by decide +kernel) (by decide +kernel) (by decide +kernel)
  have s42 : ∀ (a : Nat → Nat → Int32) (b : Nat → Nat → Int64) (r : Nat → Nat → Option Nat), Den d 149 173 [.ref 94] [.ref 115, .ref 94] ((116, n), a, b, r) = Den d 149 179 [.ref 94] [.int (iN 43560), .ref 94] ((116, n), a, b, (uR r 94 37 (some 115))) := fun a b r => Den_blk [zmr (.putfield 73) 3 12 37 2 1218 0, zm0 (.aload_n 0) 1, zmc (.ldc 68) 2 43560 1180] (by decide +kernel) rfl
  have s43 : ∀ (a : Nat → Nat → Int32) (b : Nat → Nat → Int64) (r : Nat → Nat → Option Nat), Den d 149 179 [.ref 94] [.int (iN 43560), .ref 94] ((116, n), a, b, r) = Den d 149 181 [.ref 94] [.ref 116, .ref 94] ((117, n), nwI 116 a, nwL 116 b, nwR 116 r) := fun a b r => Den_nw_byte (by decide +kernel) (by decide +kernel) (by decide +kernel)
  have s44 : ∀ (a : Nat → Nat → Int32) (b : Nat → Nat → Int64) (r : Nat → Nat → Option Nat), Den d 149 181 [.ref 94] [.ref 116, .ref 94] ((117, n), a, b, r) = Den d 149 187 [.ref 94] [.int (iN 20), .ref 94] ((117, n), a, b, (uR r 94 38 (some 116))) := fun a b r => Den_blk [zmr (.putfield 77) 3 12 38 2 1219 0, zm0 (.aload_n 0) 1, zmi (.bipush 20) 2 20] (by decide +kernel) rfl
  have s45 : ∀ (a : Nat → Nat → Int32) (b : Nat → Nat → Int64) (r : Nat → Nat → Option Nat), Den d 149 187 [.ref 94] [.int (iN 20), .ref 94] ((117, n), a, b, r) = Den d 149 189 [.ref 94] [.ref 117, .ref 94] ((118, n), nwI 117 a, nwL 117 b, nwR 117 r) := fun a b r => Den_nw_int (by decide +kernel) (by decide +kernel) (by decide +kernel)
  have s46 : ∀ (a : Nat → Nat → Int32) (b : Nat → Nat → Int64) (r : Nat → Nat → Option Nat), Den d 149 189 [.ref 94] [.ref 117, .ref 94] ((118, n), a, b, r) = Den d 149 195 [.ref 94] [.int (iN 20), .ref 94] ((118, n), a, b, (uR r 94 43 (some 117))) := fun a b r => Den_blk [zmr (.putfield 80) 3 12 43 2 1224 0, zm0 (.aload_n 0) 1, zmi (.bipush 20) 2 20] (by decide +kernel) rfl
  have s47 : ∀ (a : Nat → Nat → Int32) (b : Nat → Nat → Int64) (r : Nat → Nat → Option Nat), Den d 149 195 [.ref 94] [.int (iN 20), .ref 94] ((118, n), a, b, r) = Den d 149 197 [.ref 94] [.ref 118, .ref 94] ((119, n), nwI 118 a, nwL 118 b, nwR 118 r) := fun a b r => Den_nw_int (by decide +kernel) (by decide +kernel) (by decide +kernel)
  have s48 : ∀ (a : Nat → Nat → Int32) (b : Nat → Nat → Int64) (r : Nat → Nat → Option Nat), Den d 149 197 [.ref 94] [.ref 118, .ref 94] ((119, n), a, b, r) = Den d 149 202 [.ref 94] [.int (iN 4), .ref 94] ((119, n), a, b, (uR r 94 44 (some 118))) := fun a b r => Den_blk [zmr (.putfield 83) 3 12 44 2 1225 0, zm0 (.aload_n 0) 1, zmi (.iconst 4) 1 4] (by decide +kernel) rfl
  have s49 : ∀ (a : Nat → Nat → Int32) (b : Nat → Nat → Int64) (r : Nat → Nat → Option Nat), Den d 149 202 [.ref 94] [.int (iN 4), .ref 94] ((119, n), a, b, r) = Den d 149 204 [.ref 94] [.ref 119, .ref 94] ((120, n), nwI 119 a, nwL 119 b, nwR 119 r) := fun a b r => Den_nw_int (by decide +kernel) (by decide +kernel) (by decide +kernel)
  have s50 : ∀ (a : Nat → Nat → Int32) (b : Nat → Nat → Int64) (r : Nat → Nat → Option Nat), Den d 149 204 [.ref 94] [.ref 119, .ref 94] ((120, n), a, b, r) = Den d 149 209 [.ref 94] [.int (iN 4), .ref 94] ((120, n), a, b, (uR r 94 45 (some 119))) := fun a b r => Den_blk [zmr (.putfield 86) 3 12 45 2 1226 0, zm0 (.aload_n 0) 1, zmi (.iconst 4) 1 4] (by decide +kernel) rfl
  have s51 : ∀ (a : Nat → Nat → Int32) (b : Nat → Nat → Int64) (r : Nat → Nat → Option Nat), Den d 149 209 [.ref 94] [.int (iN 4), .ref 94] ((120, n), a, b, r) = Den d 149 211 [.ref 94] [.ref 120, .ref 94] ((121, n), nwI 120 a, nwL 120 b, nwR 120 r) := fun a b r => Den_nw_int (by decide +kernel) (by decide +kernel) (by decide +kernel)
  have s52 : ∀ (a : Nat → Nat → Int32) (b : Nat → Nat → Int64) (r : Nat → Nat → Option Nat), Den d 149 211 [.ref 94] [.ref 120, .ref 94] ((121, n), a, b, r) = Den d 149 217 [.ref 94] [.int (iN 20), .ref 94] ((121, n), a, b, (uR r 94 46 (some 120))) := fun a b r => Den_blk [zmr (.putfield 89) 3 12 46 2 1227 0, zm0 (.aload_n 0) 1, zmi (.bipush 20) 2 20] (by decide +kernel) rfl
  have s53 : ∀ (a : Nat → Nat → Int32) (b : Nat → Nat → Int64) (r : Nat → Nat → Option Nat), Den d 149 217 [.ref 94] [.int (iN 20), .ref 94] ((121, n), a, b, r) = Den d 149 219 [.ref 94] [.ref 121, .ref 94] ((122, n), nwI 121 a, nwL 121 b, nwR 121 r) := fun a b r => Den_nw_long (by decide +kernel) (by decide +kernel) (by decide +kernel)
  have s54 : ∀ (a : Nat → Nat → Int32) (b : Nat → Nat → Int64) (r : Nat → Nat → Option Nat), Den d 149 219 [.ref 94] [.ref 121, .ref 94] ((122, n), a, b, r) = Den d 149 225 [.ref 94] [.int (iN 20), .ref 94] ((122, n), a, b, (uR r 94 47 (some 121))) := fun a b r => Den_blk [zmr (.putfield 92) 3 12 47 2 1228 0, zm0 (.aload_n 0) 1, zmi (.bipush 20) 2 20] (by decide +kernel) rfl
  have s55 : ∀ (a : Nat → Nat → Int32) (b : Nat → Nat → Int64) (r : Nat → Nat → Option Nat), Den d 149 225 [.ref 94] [.int (iN 20), .ref 94] ((122, n), a, b, r) = Den d 149 227 [.ref 94] [.ref 122, .ref 94] ((123, n), nwI 122 a, nwL 122 b, nwR 122 r) := fun a b r => Den_nw_long (by decide +kernel) (by decide +kernel) (by decide +kernel)
  have s56 : ∀ (a : Nat → Nat → Int32) (b : Nat → Nat → Int64) (r : Nat → Nat → Option Nat), Den d 149 227 [.ref 94] [.ref 122, .ref 94] ((123, n), a, b, r) = Den d 149 234 [.ref 94] [.int (iN 200), .ref 94] ((123, n), a, b, (uR r 94 48 (some 122))) := fun a b r => Den_blk [zmr (.putfield 95) 3 12 48 2 1229 0, zm0 (.aload_n 0) 1, zmi (.sipush 200) 3 200] (by decide +kernel) rfl
  have s57 : ∀ (a : Nat → Nat → Int32) (b : Nat → Nat → Int64) (r : Nat → Nat → Option Nat), Den d 149 234 [.ref 94] [.int (iN 200), .ref 94] ((123, n), a, b, r) = Den d 149 236 [.ref 94] [.ref 123, .ref 94] ((124, n), nwI 123 a, nwL 123 b, nwR 123 r) := fun a b r => Den_nw_int (by decide +kernel) (by decide +kernel) (by decide +kernel)
  have s58 : ∀ (a : Nat → Nat → Int32) (b : Nat → Nat → Int64) (r : Nat → Nat → Option Nat), Den d 149 236 [.ref 94] [.ref 123, .ref 94] ((124, n), a, b, r) = Den d 149 243 [.ref 94] [.int (iN 200), .ref 94] ((124, n), a, b, (uR r 94 58 (some 123))) := fun a b r => Den_blk [zmr (.putfield 98) 3 12 58 2 1239 0, zm0 (.aload_n 0) 1, zmi (.sipush 200) 3 200] (by decide +kernel) rfl
  have s59 : ∀ (a : Nat → Nat → Int32) (b : Nat → Nat → Int64) (r : Nat → Nat → Option Nat), Den d 149 243 [.ref 94] [.int (iN 200), .ref 94] ((124, n), a, b, r) = Den d 149 245 [.ref 94] [.ref 124, .ref 94] ((125, n), nwI 124 a, nwL 124 b, nwR 124 r) := fun a b r => Den_nw_int (by decide +kernel) (by decide +kernel) (by decide +kernel)
  have s60 : ∀ (a : Nat → Nat → Int32) (b : Nat → Nat → Int64) (r : Nat → Nat → Option Nat), Den d 149 245 [.ref 94] [.ref 124, .ref 94] ((125, n), a, b, r) = Den d 149 252 [.ref 94] [.int (iN 200), .ref 94] ((125, n), a, b, (uR r 94 59 (some 124))) := fun a b r => Den_blk [zmr (.putfield 101) 3 12 59 2 1240 0, zm0 (.aload_n 0) 1, zmi (.sipush 200) 3 200] (by decide +kernel) rfl
  have s61 : ∀ (a : Nat → Nat → Int32) (b : Nat → Nat → Int64) (r : Nat → Nat → Option Nat), Den d 149 252 [.ref 94] [.int (iN 200), .ref 94] ((125, n), a, b, r) = Den d 149 254 [.ref 94] [.ref 125, .ref 94] ((126, n), nwI 125 a, nwL 125 b, nwR 125 r) := fun a b r => Den_nw_long (by decide +kernel) (by decide +kernel) (by decide +kernel)
  have s62 : ∀ (a : Nat → Nat → Int32) (b : Nat → Nat → Int64) (r : Nat → Nat → Option Nat), Den d 149 254 [.ref 94] [.ref 125, .ref 94] ((126, n), a, b, r) = Den d 149 261 [.ref 94] [.int (iN 200), .ref 94] ((126, n), a, b, (uR r 94 60 (some 125))) := fun a b r => Den_blk [zmr (.putfield 104) 3 12 60 2 1241 0, zm0 (.aload_n 0) 1, zmi (.sipush 200) 3 200] (by decide +kernel) rfl
  have s63 : ∀ (a : Nat → Nat → Int32) (b : Nat → Nat → Int64) (r : Nat → Nat → Option Nat), Den d 149 261 [.ref 94] [.int (iN 200), .ref 94] ((126, n), a, b, r) = Den d 149 263 [.ref 94] [.ref 126, .ref 94] ((127, n), nwI 126 a, nwL 126 b, nwR 126 r) := fun a b r => Den_nw_long (by decide +kernel) (by decide +kernel) (by decide +kernel)
  have s64 : ∀ (a : Nat → Nat → Int32) (b : Nat → Nat → Int64) (r : Nat → Nat → Option Nat), Den d 149 263 [.ref 94] [.ref 126, .ref 94] ((127, n), a, b, r) = Den d 149 269 [.ref 94] [.int (iN 8), .ref 94] ((127, n), a, b, (uR r 94 61 (some 126))) := fun a b r => Den_blk [zmr (.putfield 107) 3 12 61 2 1242 0, zm0 (.aload_n 0) 1, zmi (.bipush 8) 2 8] (by decide +kernel) rfl
  have s65 : ∀ (a : Nat → Nat → Int32) (b : Nat → Nat → Int64) (r : Nat → Nat → Option Nat), Den d 149 269 [.ref 94] [.int (iN 8), .ref 94] ((127, n), a, b, r) = Den d 149 271 [.ref 94] [.ref 127, .ref 94] ((128, n), nwI 127 a, nwL 127 b, nwR 127 r) := fun a b r => Den_nw_int (by decide +kernel) (by decide +kernel) (by decide +kernel)
  have s66 : ∀ (a : Nat → Nat → Int32) (b : Nat → Nat → Int64) (r : Nat → Nat → Option Nat), Den d 149 271 [.ref 94] [.ref 127, .ref 94] ((128, n), a, b, r) = Den d 149 277 [.ref 94] [.int (iN 8), .ref 94] ((128, n), a, b, (uR r 94 66 (some 127))) := fun a b r => Den_blk [zmr (.putfield 110) 3 12 66 2 1247 0, zm0 (.aload_n 0) 1, zmi (.bipush 8) 2 8] (by decide +kernel) rfl
  have s67 : ∀ (a : Nat → Nat → Int32) (b : Nat → Nat → Int64) (r : Nat → Nat → Option Nat), Den d 149 277 [.ref 94] [.int (iN 8), .ref 94] ((128, n), a, b, r) = Den d 149 279 [.ref 94] [.ref 128, .ref 94] ((129, n), nwI 128 a, nwL 128 b, nwR 128 r) := fun a b r => Den_nw_int (by decide +kernel) (by decide +kernel) (by decide +kernel)
  have s68 : ∀ (a : Nat → Nat → Int32) (b : Nat → Nat → Int64) (r : Nat → Nat → Option Nat), Den d 149 279 [.ref 94] [.ref 128, .ref 94] ((129, n), a, b, r) = Den d 149 285 [.ref 94] [.int (iN 8), .ref 94] ((129, n), a, b, (uR r 94 67 (some 128))) := fun a b r => Den_blk [zmr (.putfield 113) 3 12 67 2 1248 0, zm0 (.aload_n 0) 1, zmi (.bipush 8) 2 8] (by decide +kernel) rfl
  have s69 : ∀ (a : Nat → Nat → Int32) (b : Nat → Nat → Int64) (r : Nat → Nat → Option Nat), Den d 149 285 [.ref 94] [.int (iN 8), .ref 94] ((129, n), a, b, r) = Den d 149 287 [.ref 94] [.ref 129, .ref 94] ((130, n), nwI 129 a, nwL 129 b, nwR 129 r) := fun a b r => Den_nw_int (by decide +kernel) (by decide +kernel) (by decide +kernel)
  have s70 : ∀ (a : Nat → Nat → Int32) (b : Nat → Nat → Int64) (r : Nat → Nat → Option Nat), Den d 149 287 [.ref 94] [.ref 129, .ref 94] ((130, n), a, b, r) = Den d 149 293 [.ref 94] [.int (iN 8), .ref 94] ((130, n), a, b, (uR r 94 68 (some 129))) := fun a b r => Den_blk [zmr (.putfield 116) 3 12 68 2 1249 0, zm0 (.aload_n 0) 1, zmi (.bipush 8) 2 8] (by decide +kernel) rfl
  have s71 : ∀ (a : Nat → Nat → Int32) (b : Nat → Nat → Int64) (r : Nat → Nat → Option Nat), Den d 149 293 [.ref 94] [.int (iN 8), .ref 94] ((130, n), a, b, r) = Den d 149 295 [.ref 94] [.ref 130, .ref 94] ((131, n), nwI 130 a, nwL 130 b, nwR 130 r) := fun a b r => Den_nw_int (by decide +kernel) (by decide +kernel) (by decide +kernel)
  have s72 : ∀ (a : Nat → Nat → Int32) (b : Nat → Nat → Int64) (r : Nat → Nat → Option Nat), Den d 149 295 [.ref 94] [.ref 130, .ref 94] ((131, n), a, b, r) = Den d 149 301 [.ref 94] [.int (iN 10), .ref 94] ((131, n), a, b, (uR r 94 69 (some 130))) := fun a b r => Den_blk [zmr (.putfield 119) 3 12 69 2 1250 0, zm0 (.aload_n 0) 1, zmi (.bipush 10) 2 10] (by decide +kernel) rfl
  have s73 : ∀ (a : Nat → Nat → Int32) (b : Nat → Nat → Int64) (r : Nat → Nat → Option Nat), Den d 149 301 [.ref 94] [.int (iN 10), .ref 94] ((131, n), a, b, r) = Den d 149 303 [.ref 94] [.ref 131, .ref 94] ((132, n), nwI 131 a, nwL 131 b, nwR 131 r) := fun a b r => Den_nw_int (by decide +kernel) (by decide +kernel) (by decide +kernel)
  have s74 : ∀ (a : Nat → Nat → Int32) (b : Nat → Nat → Int64) (r : Nat → Nat → Option Nat), Den d 149 303 [.ref 94] [.ref 131, .ref 94] ((132, n), a, b, r) = Den d 149 309 [.ref 94] [.int (iN 10), .ref 94] ((132, n), a, b, (uR r 94 70 (some 131))) := fun a b r => Den_blk [zmr (.putfield 122) 3 12 70 2 1251 0, zm0 (.aload_n 0) 1, zmi (.bipush 10) 2 10] (by decide +kernel) rfl
  have s75 : ∀ (a : Nat → Nat → Int32) (b : Nat → Nat → Int64) (r : Nat → Nat → Option Nat), Den d 149 309 [.ref 94] [.int (iN 10), .ref 94] ((132, n), a, b, r) = Den d 149 311 [.ref 94] [.ref 132, .ref 94] ((133, n), nwI 132 a, nwL 132 b, nwR 132 r) := fun a b r => Den_nw_int (by decide +kernel) (by decide +kernel) (by decide +kernel)
  have s76 : ∀ (a : Nat → Nat → Int32) (b : Nat → Nat → Int64) (r : Nat → Nat → Option Nat), Den d 149 311 [.ref 94] [.ref 132, .ref 94] ((133, n), a, b, r) = Den d 149 317 [.ref 94] [.int (iN 10), .ref 94] ((133, n), a, b, (uR r 94 71 (some 132))) := fun a b r => Den_blk [zmr (.putfield 125) 3 12 71 2 1252 0, zm0 (.aload_n 0) 1, zmi (.bipush 10) 2 10] (by decide +kernel) rfl
  have s77 : ∀ (a : Nat → Nat → Int32) (b : Nat → Nat → Int64) (r : Nat → Nat → Option Nat), Den d 149 317 [.ref 94] [.int (iN 10), .ref 94] ((133, n), a, b, r) = Den d 149 319 [.ref 94] [.ref 133, .ref 94] ((134, n), nwI 133 a, nwL 133 b, nwR 133 r) := fun a b r => Den_nw_int (by decide +kernel) (by decide +kernel) (by decide +kernel)
  have s78 : ∀ (a : Nat → Nat → Int32) (b : Nat → Nat → Int64) (r : Nat → Nat → Option Nat), Den d 149 319 [.ref 94] [.ref 133, .ref 94] ((134, n), a, b, r) = Den d 149 325 [.ref 94] [.int (iN 9), .ref 94] ((134, n), a, b, (uR r 94 72 (some 133))) := fun a b r => Den_blk [zmr (.putfield 128) 3 12 72 2 1253 0, zm0 (.aload_n 0) 1, zmi (.bipush 9) 2 9] (by decide +kernel) rfl
  have s79 : ∀ (a : Nat → Nat → Int32) (b : Nat → Nat → Int64) (r : Nat → Nat → Option Nat), Den d 149 325 [.ref 94] [.int (iN 9), .ref 94] ((134, n), a, b, r) = Den d 149 327 [.ref 94] [.ref 134, .ref 94] ((135, n), nwI 134 a, nwL 134 b, nwR 134 r) := fun a b r => Den_nw_int (by decide +kernel) (by decide +kernel) (by decide +kernel)
  have s80 : ∀ (a : Nat → Nat → Int32) (b : Nat → Nat → Int64) (r : Nat → Nat → Option Nat), Den d 149 327 [.ref 94] [.ref 134, .ref 94] ((135, n), a, b, r) = Den d 149 333 [.ref 94] [.int (iN 8), .ref 94] ((135, n), a, b, (uR r 94 75 (some 134))) := fun a b r => Den_blk [zmr (.putfield 131) 3 12 75 2 1256 0, zm0 (.aload_n 0) 1, zmi (.bipush 8) 2 8] (by decide +kernel) rfl
  have s81 : ∀ (a : Nat → Nat → Int32) (b : Nat → Nat → Int64) (r : Nat → Nat → Option Nat), Den d 149 333 [.ref 94] [.int (iN 8), .ref 94] ((135, n), a, b, r) = Den d 149 335 [.ref 94] [.ref 135, .ref 94] ((136, n), nwI 135 a, nwL 135 b, nwR 135 r) := fun a b r => Den_nw_int (by decide +kernel) (by decide +kernel) (by decide +kernel)
  have s82 : ∀ (a : Nat → Nat → Int32) (b : Nat → Nat → Int64) (r : Nat → Nat → Option Nat), Den d 149 335 [.ref 94] [.ref 135, .ref 94] ((136, n), a, b, r) = Den d 149 340 [.ref 94] [.int (iN 4), .ref 94] ((136, n), a, b, (uR r 94 76 (some 135))) := fun a b r => Den_blk [zmr (.putfield 134) 3 12 76 2 1257 0, zm0 (.aload_n 0) 1, zmi (.iconst 4) 1 4] (by decide +kernel) rfl
  have s83 : ∀ (a : Nat → Nat → Int32) (b : Nat → Nat → Int64) (r : Nat → Nat → Option Nat), Den d 149 340 [.ref 94] [.int (iN 4), .ref 94] ((136, n), a, b, r) = Den d 149 342 [.ref 94] [.ref 136, .ref 94] ((137, n), nwI 136 a, nwL 136 b, nwR 136 r) := fun a b r => Den_nw_int (by decide +kernel) (by decide +kernel) (by decide +kernel)
  have s84 : ∀ (a : Nat → Nat → Int32) (b : Nat → Nat → Int64) (r : Nat → Nat → Option Nat), Den d 149 342 [.ref 94] [.ref 136, .ref 94] ((137, n), a, b, r) = Den d 149 348 [.ref 94] [.int (iN 64), .ref 94] ((137, n), a, b, (uR r 94 77 (some 136))) := fun a b r => Den_blk [zmr (.putfield 137) 3 12 77 2 1258 0, zm0 (.aload_n 0) 1, zmi (.bipush 64) 2 64] (by decide +kernel) rfl
  have s85 : ∀ (a : Nat → Nat → Int32) (b : Nat → Nat → Int64) (r : Nat → Nat → Option Nat), Den d 149 348 [.ref 94] [.int (iN 64), .ref 94] ((137, n), a, b, r) = Den d 149 350 [.ref 94] [.ref 137, .ref 94] ((138, n), nwI 137 a, nwL 137 b, nwR 137 r) := fun a b r => Den_nw_int (by decide +kernel) (by decide +kernel) (by decide +kernel)
  have s86 : ∀ (a : Nat → Nat → Int32) (b : Nat → Nat → Int64) (r : Nat → Nat → Option Nat), Den d 149 350 [.ref 94] [.ref 137, .ref 94] ((138, n), a, b, r) = Den d 149 356 [.ref 94] [.int (iN 64), .ref 94] ((138, n), a, b, (uR r 94 78 (some 137))) := fun a b r => Den_blk [zmr (.putfield 140) 3 12 78 2 1259 0, zm0 (.aload_n 0) 1, zmi (.bipush 64) 2 64] (by decide +kernel) rfl
  have s87 : ∀ (a : Nat → Nat → Int32) (b : Nat → Nat → Int64) (r : Nat → Nat → Option Nat), Den d 149 356 [.ref 94] [.int (iN 64), .ref 94] ((138, n), a, b, r) = Den d 149 358 [.ref 94] [.ref 138, .ref 94] ((139, n), nwI 138 a, nwL 138 b, nwR 138 r) := fun a b r => Den_nw_int (by decide +kernel) (by decide +kernel) (by decide +kernel)
  have s88 : ∀ (a : Nat → Nat → Int32) (b : Nat → Nat → Int64) (r : Nat → Nat → Option Nat), Den d 149 358 [.ref 94] [.ref 138, .ref 94] ((139, n), a, b, r) = Den d 149 364 [.ref 94] [.int (iN 8), .ref 94] ((139, n), a, b, (uR r 94 79 (some 138))) := fun a b r => Den_blk [zmr (.putfield 143) 3 12 79 2 1260 0, zm0 (.aload_n 0) 1, zmi (.bipush 8) 2 8] (by decide +kernel) rfl
  have s89 : ∀ (a : Nat → Nat → Int32) (b : Nat → Nat → Int64) (r : Nat → Nat → Option Nat), Den d 149 364 [.ref 94] [.int (iN 8), .ref 94] ((139, n), a, b, r) = Den d 149 366 [.ref 94] [.ref 139, .ref 94] ((140, n), nwI 139 a, nwL 139 b, nwR 139 r) := fun a b r => Den_nw_int (by decide +kernel) (by decide +kernel) (by decide +kernel)
  have s90 : ∀ (a : Nat → Nat → Int32) (b : Nat → Nat → Int64) (r : Nat → Nat → Option Nat), Den d 149 366 [.ref 94] [.ref 139, .ref 94] ((140, n), a, b, r) = Den d 149 372 [.ref 94] [.int (iN 8), .ref 94] ((140, n), a, b, (uR r 94 85 (some 139))) := fun a b r => Den_blk [zmr (.putfield 146) 3 12 85 2 1266 0, zm0 (.aload_n 0) 1, zmi (.bipush 8) 2 8] (by decide +kernel) rfl
  have s91 : ∀ (a : Nat → Nat → Int32) (b : Nat → Nat → Int64) (r : Nat → Nat → Option Nat), Den d 149 372 [.ref 94] [.int (iN 8), .ref 94] ((140, n), a, b, r) = Den d 149 374 [.ref 94] [.ref 140, .ref 94] ((141, n), nwI 140 a, nwL 140 b, nwR 140 r) := fun a b r => Den_nw_int (by decide +kernel) (by decide +kernel) (by decide +kernel)
  have s92 : ∀ (a : Nat → Nat → Int32) (b : Nat → Nat → Int64) (r : Nat → Nat → Option Nat), Den d 149 374 [.ref 94] [.ref 140, .ref 94] ((141, n), a, b, r) = Den d 149 380 [.ref 94] [.int (iN 8), .ref 94] ((141, n), a, b, (uR r 94 86 (some 140))) := fun a b r => Den_blk [zmr (.putfield 149) 3 12 86 2 1267 0, zm0 (.aload_n 0) 1, zmi (.bipush 8) 2 8] (by decide +kernel) rfl
  have s93 : ∀ (a : Nat → Nat → Int32) (b : Nat → Nat → Int64) (r : Nat → Nat → Option Nat), Den d 149 380 [.ref 94] [.int (iN 8), .ref 94] ((141, n), a, b, r) = Den d 149 382 [.ref 94] [.ref 141, .ref 94] ((142, n), nwI 141 a, nwL 141 b, nwR 141 r) := fun a b r => Den_nw_int (by decide +kernel) (by decide +kernel) (by decide +kernel)
  have s94 : ∀ (a : Nat → Nat → Int32) (b : Nat → Nat → Int64) (r : Nat → Nat → Option Nat), Den d 149 382 [.ref 94] [.ref 141, .ref 94] ((142, n), a, b, r) = Den d 149 388 [.ref 94] [.int (iN 8), .ref 94] ((142, n), a, b, (uR r 94 87 (some 141))) := fun a b r => Den_blk [zmr (.putfield 152) 3 12 87 2 1268 0, zm0 (.aload_n 0) 1, zmi (.bipush 8) 2 8] (by decide +kernel) rfl
  have s95 : ∀ (a : Nat → Nat → Int32) (b : Nat → Nat → Int64) (r : Nat → Nat → Option Nat), Den d 149 388 [.ref 94] [.int (iN 8), .ref 94] ((142, n), a, b, r) = Den d 149 390 [.ref 94] [.ref 142, .ref 94] ((143, n), nwI 142 a, nwL 142 b, nwR 142 r) := fun a b r => Den_nw_int (by decide +kernel) (by decide +kernel) (by decide +kernel)
  have s96 : ∀ (a : Nat → Nat → Int32) (b : Nat → Nat → Int64) (r : Nat → Nat → Option Nat), Den d 149 390 [.ref 94] [.ref 142, .ref 94] ((143, n), a, b, r) = Den d 149 396 [.ref 94] [.int (iN 10), .ref 94] ((143, n), a, b, (uR r 94 88 (some 142))) := fun a b r => Den_blk [zmr (.putfield 155) 3 12 88 2 1269 0, zm0 (.aload_n 0) 1, zmi (.bipush 10) 2 10] (by decide +kernel) rfl
  have s97 : ∀ (a : Nat → Nat → Int32) (b : Nat → Nat → Int64) (r : Nat → Nat → Option Nat), Den d 149 396 [.ref 94] [.int (iN 10), .ref 94] ((143, n), a, b, r) = Den d 149 398 [.ref 94] [.ref 143, .ref 94] ((144, n), nwI 143 a, nwL 143 b, nwR 143 r) := fun a b r => Den_nw_int (by decide +kernel) (by decide +kernel) (by decide +kernel)
  have s98 : ∀ (a : Nat → Nat → Int32) (b : Nat → Nat → Int64) (r : Nat → Nat → Option Nat), Den d 149 398 [.ref 94] [.ref 143, .ref 94] ((144, n), a, b, r) = Den d 149 404 [.ref 94] [.int (iN 10), .ref 94] ((144, n), a, b, (uR r 94 89 (some 143))) := fun a b r => Den_blk [zmr (.putfield 158) 3 12 89 2 1270 0, zm0 (.aload_n 0) 1, zmi (.bipush 10) 2 10] (by decide +kernel) rfl
  have s99 : ∀ (a : Nat → Nat → Int32) (b : Nat → Nat → Int64) (r : Nat → Nat → Option Nat), Den d 149 404 [.ref 94] [.int (iN 10), .ref 94] ((144, n), a, b, r) = Den d 149 406 [.ref 94] [.ref 144, .ref 94] ((145, n), nwI 144 a, nwL 144 b, nwR 144 r) := fun a b r => Den_nw_int (by decide +kernel) (by decide +kernel) (by decide +kernel)
  have s100 : ∀ (a : Nat → Nat → Int32) (b : Nat → Nat → Int64) (r : Nat → Nat → Option Nat), Den d 149 406 [.ref 94] [.ref 144, .ref 94] ((145, n), a, b, r) = Den d 149 412 [.ref 94] [.int (iN 10), .ref 94] ((145, n), a, b, (uR r 94 90 (some 144))) := fun a b r => Den_blk [zmr (.putfield 161) 3 12 90 2 1271 0, zm0 (.aload_n 0) 1, zmi (.bipush 10) 2 10] (by decide +kernel) rfl
  have s101 : ∀ (a : Nat → Nat → Int32) (b : Nat → Nat → Int64) (r : Nat → Nat → Option Nat), Den d 149 412 [.ref 94] [.int (iN 10), .ref 94] ((145, n), a, b, r) = Den d 149 414 [.ref 94] [.ref 145, .ref 94] ((146, n), nwI 145 a, nwL 145 b, nwR 145 r) := fun a b r => Den_nw_int (by decide +kernel) (by decide +kernel) (by decide +kernel)
  have s102 : ∀ (a : Nat → Nat → Int32) (b : Nat → Nat → Int64) (r : Nat → Nat → Option Nat), Den d 149 414 [.ref 94] [.ref 145, .ref 94] ((146, n), a, b, r) = Den d 149 419 [.ref 94] [.int (iN 4), .ref 94] ((146, n), a, b, (uR r 94 91 (some 145))) := fun a b r => Den_blk [zmr (.putfield 164) 3 12 91 2 1272 0, zm0 (.aload_n 0) 1, zmi (.iconst 4) 1 4] (by decide +kernel) rfl
  have s103 : ∀ (a : Nat → Nat → Int32) (b : Nat → Nat → Int64) (r : Nat → Nat → Option Nat), Den d 149 419 [.ref 94] [.int (iN 4), .ref 94] ((146, n), a, b, r) = Den d 149 421 [.ref 94] [.ref 146, .ref 94] ((147, n), nwI 146 a, nwL 146 b, nwR 146 r) := fun a b r => Den_nw_int (by decide +kernel) (by decide +kernel) (by decide +kernel)
  have s104 : ∀ (a : Nat → Nat → Int32) (b : Nat → Nat → Int64) (r : Nat → Nat → Option Nat), Den d 149 421 [.ref 94] [.ref 146, .ref 94] ((147, n), a, b, r) = Den d 149 440 [.ref 94] [] ((147, n), (uI (uI (uI a 94 0 (iN 6)) 94 1 (iN 1)) 94 74 (iN 0)), b, (uR r 94 92 (some 146))) := fun a b r => Den_blk [zmr (.putfield 167) 3 12 92 2 1273 0, zm0 (.aload_n 0) 1, zmi (.bipush 6) 2 6, zmr (.putfield 170) 3 12 0 0 1181 0, zm0 (.aload_n 0) 1, zmi (.iconst 1) 1 1, zmr (.putfield 174) 3 12 1 0 1182 0, zm0 (.aload_n 0) 1, zmi (.iconst 0) 1 0, zmr (.putfield 177) 3 12 74 0 1255 0] (by decide +kernel) rfl
  rw [s0]
  rw [s1]
  rw [s2]
  rw [s3]
  rw [s4]
  rw [s5]
  rw [s6]
  rw [s7]
  rw [s8]
  rw [s9]
  rw [s10]
  rw [s11]
  rw [s12]
  rw [s13]
  rw [s14]
  rw [s15]
  rw [s16]
  rw [s17]
  rw [s18]
  rw [s19]
  rw [s20]
  rw [s21]
  rw [s22]
  rw [s23]
  rw [s24]
  rw [s25]
  rw [s26]
  rw [s27]
  rw [s28]
  rw [s29]
  rw [s30]
  rw [s31]
  rw [s32]
  rw [s33]
  rw [s34]
  rw [s35]
  rw [s36]
  rw [s37]
  rw [s38]
  rw [s39]
  rw [s40]
  rw [s41]
  rw [s42]
  rw [s43]
  rw [s44]
  rw [s45]
  rw [s46]
  rw [s47]
  rw [s48]
  rw [s49]
  rw [s50]
  rw [s51]
  rw [s52]
  rw [s53]
  rw [s54]
  rw [s55]
  rw [s56]
  rw [s57]
  rw [s58]
  rw [s59]
  rw [s60]
  rw [s61]
  rw [s62]
  rw [s63]
  rw [s64]
  rw [s65]
  rw [s66]
  rw [s67]
  rw [s68]
  rw [s69]
  rw [s70]
  rw [s71]
  rw [s72]
  rw [s73]
  rw [s74]
  rw [s75]
  rw [s76]
  rw [s77]
  rw [s78]
  rw [s79]
  rw [s80]
  rw [s81]
  rw [s82]
  rw [s83]
  rw [s84]
  rw [s85]
  rw [s86]
  rw [s87]
  rw [s88]
  rw [s89]
  rw [s90]
  rw [s91]
  rw [s92]
  rw [s93]
  rw [s94]
  rw [s95]
  rw [s96]
  rw [s97]
  rw [s98]
  rw [s99]
  rw [s100]
  rw [s101]
  rw [s102]
  rw [s103]
  rw [s104]
  exact Den_retE (zm0 (.return_) 1) (by decide +kernel) rfl
def iA_law (a : Nat → Nat → Int32) : Nat → Nat → Int32 := (iA_149_95 (nwI 94 (iA_92_15 (nwI 14 a))))
def iB_law (b : Nat → Nat → Int64) : Nat → Nat → Int64 := (iB_149_95 (nwL 94 (iB_92_15 (nwL 14 b))))
def iR_law (r : Nat → Nat → Option Nat) : Nat → Nat → Option Nat := (iR_149_95 (nwR 94 (iR_92_15 (nwR 14 r))))
theorem iw_law {d n : Nat} {a : Nat → Nat → Int32} {b : Nat → Nat → Int64} {r : Nat → Nat → Option Nat} : Den (d + 3) 0 0 [.ref 0, zmJ, zmJ, zmJ] [] ((14, n), a, b, r) = Den (d + 3) 0 18 [.ref 0, .ref 14, .ref 94, .int (iN 0)] [] ((147, n), iA_law a, iB_law b, iR_law r) := by
  have s0 : ∀ (a : Nat → Nat → Int32) (b : Nat → Nat → Int64) (r : Nat → Nat → Option Nat), Den (d + 3) 0 0 [.ref 0, zmJ, zmJ, zmJ] [] ((14, n), a, b, r) = Den (d + 3) 0 3 [.ref 0, zmJ, zmJ, zmJ] [.ref 14] ((15, n), nwI 14 a, nwL 14 b, nwR 14 r) := fun a b r => Den_new (zmr (.new 7) 3 11 0 0 113 0) (by decide +kernel) (by decide +kernel) rfl
  have s1 : ∀ (a : Nat → Nat → Int32) (b : Nat → Nat → Int64) (r : Nat → Nat → Option Nat), Den (d + 3) 0 3 [.ref 0, zmJ, zmJ, zmJ] [.ref 14] ((15, n), a, b, r) = Den (d + 3) 0 4 [.ref 0, zmJ, zmJ, zmJ] [.ref 14, .ref 14] ((15, n), a, b, r) := fun a b r => Den_blk [zm0 (.dup) 1] (by decide +kernel) rfl
  have s2 : ∀ (a : Nat → Nat → Int32) (b : Nat → Nat → Int64) (r : Nat → Nat → Option Nat), Den (d + 3) 0 4 [.ref 0, zmJ, zmJ, zmJ] [.ref 14, .ref 14] ((15, n), a, b, r) = Den (d + 3) 0 7 [.ref 0, zmJ, zmJ, zmJ] [.ref 14] ((94, n), iA_92_15 a, iB_92_15 b, iR_92_15 r) := fun a b r => by
    rw [Den_callE (zmr (.invokespecial 9) 3 2 92 0 115 0) (by decide +kernel) rfl rfl]
    show Option.bind (Den (d + 2) 92 0 [.ref 14, zmJ] [] ((15, n), a, b, r)) _ = _
    rw [iw_92_15]
    rfl
  have s3 : ∀ (a : Nat → Nat → Int32) (b : Nat → Nat → Int64) (r : Nat → Nat → Option Nat), Den (d + 3) 0 7 [.ref 0, zmJ, zmJ, zmJ] [.ref 14] ((94, n), a, b, r) = Den (d + 3) 0 8 [.ref 0, .ref 14, zmJ, zmJ] [] ((94, n), a, b, r) := fun a b r => Den_blk [zm0 (.astore_n 1) 1] (by decide +kernel) rfl
  have s4 : ∀ (a : Nat → Nat → Int32) (b : Nat → Nat → Int64) (r : Nat → Nat → Option Nat), Den (d + 3) 0 8 [.ref 0, .ref 14, zmJ, zmJ] [] ((94, n), a, b, r) = Den (d + 3) 0 11 [.ref 0, .ref 14, zmJ, zmJ] [.ref 94] ((95, n), nwI 94 a, nwL 94 b, nwR 94 r) := fun a b r => Den_new (zmr (.new 10) 3 12 0 0 1174 0) (by decide +kernel) (by decide +kernel) rfl
  have s5 : ∀ (a : Nat → Nat → Int32) (b : Nat → Nat → Int64) (r : Nat → Nat → Option Nat), Den (d + 3) 0 11 [.ref 0, .ref 14, zmJ, zmJ] [.ref 94] ((95, n), a, b, r) = Den (d + 3) 0 12 [.ref 0, .ref 14, zmJ, zmJ] [.ref 94, .ref 94] ((95, n), a, b, r) := fun a b r => Den_blk [zm0 (.dup) 1] (by decide +kernel) rfl
  have s6 : ∀ (a : Nat → Nat → Int32) (b : Nat → Nat → Int64) (r : Nat → Nat → Option Nat), Den (d + 3) 0 12 [.ref 0, .ref 14, zmJ, zmJ] [.ref 94, .ref 94] ((95, n), a, b, r) = Den (d + 3) 0 15 [.ref 0, .ref 14, zmJ, zmJ] [.ref 94] ((147, n), iA_149_95 a, iB_149_95 b, iR_149_95 r) := fun a b r => by
    rw [Den_callE (zmr (.invokespecial 12) 3 2 149 0 1176 0) (by decide +kernel) rfl rfl]
    show Option.bind (Den (d + 2) 149 0 [.ref 94] [] ((95, n), a, b, r)) _ = _
    rw [iw_149_95]
    rfl
  have s7 : ∀ (a : Nat → Nat → Int32) (b : Nat → Nat → Int64) (r : Nat → Nat → Option Nat), Den (d + 3) 0 15 [.ref 0, .ref 14, zmJ, zmJ] [.ref 94] ((147, n), a, b, r) = Den (d + 3) 0 18 [.ref 0, .ref 14, .ref 94, .int (iN 0)] [] ((147, n), a, b, r) := fun a b r => Den_blk [zm0 (.astore_n 2) 1, zmi (.iconst 0) 1 0, zm0 (.istore_n 3) 1] (by decide +kernel) rfl
  rw [s0]
  rw [s1]
  rw [s2]
  rw [s3]
  rw [s4]
  rw [s5]
  rw [s6]
  rw [s7]
  rfl
