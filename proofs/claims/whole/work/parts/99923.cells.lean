/-! ===== the cells: what the tables say of the classes ===== -/
def snLayT : List (List Nat) := [[305, 307, 309, 311],
  [333, 335, 337, 339, 341, 343, 345, 347, 349, 351],
  [368, 370, 372, 374, 376, 378],
  [390, 392, 394],
  [280, 282, 284, 286, 288, 290],
  [404],
  [182, 184, 186],
  [247, 249, 251, 253, 255, 257, 259],
  [137, 139, 141, 143, 145],
  [161, 163, 165],
  [216, 218, 220, 222, 224, 226, 228, 230],
  [424, 426, 428, 430, 432, 434, 436, 438, 440, 442, 444, 446, 448, 450, 452, 454, 456],
  [1274, 1276, 1278, 1280, 1282, 1284, 1286, 1288, 1290, 1292, 1294, 1296, 1298, 1300, 1302, 1304, 1306, 1308, 1310, 1312, 1314, 1316, 1318, 1320, 1322, 1324, 1326, 1328, 1330, 1332, 1334, 1336, 1338, 1340, 1342, 1344, 1346, 1348, 1350, 1352, 1354, 1356, 1358, 1360, 1362, 1364, 1366, 1368, 1370, 1372, 1374, 1376, 1378, 1380, 1382, 1384, 1386, 1388, 1390, 1392, 1394, 1396, 1398, 1400, 1402, 1404, 1406, 1408, 1410, 1412, 1414, 1416, 1418, 1420, 1422, 1424, 1426, 1428, 1430, 1432, 1434, 1436, 1438, 1440, 1442, 1444, 1446, 1448, 1450, 1452, 1454, 1456, 1458]]
def snLayP (c j : Nat) : Nat := (snLayT.getD c []).getD j 9999
def snTyF (c : Nat) : Nat → FieldType := [tyX0, tyX1, tyX2, tyX3, tyX4, tyX5, tyX6, tyX7, tyX8, tyX9, tyX10, tyX11, tyX12].getD c tyX0
def snLays (c : Nat) : Bool := (List.range (snC c).2.2).all fun j => snW (snLayP c j) (u_lay (snC c).1 (snC c).2.1 j) && Nat.beq (snFt (snTyF c j)) (snTy c j)
theorem sn13 {P : Nat → Prop} (h0 : P 0) (h1 : P 1) (h2 : P 2) (h3 : P 3) (h4 : P 4) (h5 : P 5) (h6 : P 6) (h7 : P 7) (h8 : P 8) (h9 : P 9) (h10 : P 10) (h11 : P 11) (h12 : P 12) {c : Nat} (hc : c < 13) : P c := by
  have h : c = 0 ∨ c = 1 ∨ c = 2 ∨ c = 3 ∨ c = 4 ∨ c = 5 ∨ c = 6 ∨ c = 7 ∨ c = 8 ∨ c = 9 ∨ c = 10 ∨ c = 11 ∨ c = 12 := by omega
  rcases h with rfl | rfl | rfl | rfl | rfl | rfl | rfl | rfl | rfl | rfl | rfl | rfl | rfl <;> assumption
theorem snLays_ok {c : Nat} (hc : c < 13) : snLays c = true := by
  refine sn13 (P := fun c => snLays c = true) ?_ ?_ ?_ ?_ ?_ ?_ ?_ ?_ ?_ ?_ ?_ ?_ ?_ hc <;> decide +kernel
theorem snC_at {c : Nat} (hc : c < 13) : vwCl[c]? = some ((snC c).1, (snC c).2.1, (snC c).2.2) := by
  refine sn13 (P := fun c => vwCl[c]? = some ((snC c).1, (snC c).2.1, (snC c).2.2)) ?_ ?_ ?_ ?_ ?_ ?_ ?_ ?_ ?_ ?_ ?_ ?_ ?_ hc <;> rfl
theorem snTyF_ok {c : Nat} (hc : c < 13) : ∀ k, k < (snC c).2.2 → parseFieldDescriptor ((snC c).2.1 k).2.2.1 = some (snTyF c k) :=
  sn13 (P := fun c => ∀ k, k < (snC c).2.2 → parseFieldDescriptor ((snC c).2.1 k).2.2.1 = some (snTyF c k)) tyX0_ok tyX1_ok tyX2_ok tyX3_ok tyX4_ok tyX5_ok tyX6_ok tyX7_ok tyX8_ok tyX9_ok tyX10_ok tyX11_ok tyX12_ok hc
theorem snNm_ok {c : Nat} (hc : c < 13) : ∀ a, a < (snC c).2.2 → ∀ b, b < (snC c).2.2 → a ≠ b → ((snC c).2.1 a).2.1 ≠ ((snC c).2.1 b).2.1 :=
  sn13 (P := fun c => ∀ a, a < (snC c).2.2 → ∀ b, b < (snC c).2.2 → a ≠ b → ((snC c).2.1 a).2.1 ≠ ((snC c).2.1 b).2.1) nmX0 nmX1 nmX2 nmX3 nmX4 nmX5 nmX6 nmX7 nmX8 nmX9 nmX10 nmX11 nmX12 hc
def snPlan : Bool := (List.range 147).all fun k => Nat.ble (zmLay k).2 43560 && ((bif Nat.blt (zmLay k).1 13 then Nat.ble 14 k && Nat.beq (zmLay k).2 (snC (zmLay k).1).2.2 else true) && ((bif Nat.blt (zmLay k).1 25 then Nat.ble 14 k else Nat.blt k 14) && ((bif Nat.beq (zmLay k).1 30 then Nat.ble 4 k && Nat.ble k 8 else true) && ((bif Nat.beq (zmLay k).1 40 then Nat.ble k 1 else true) && ((bif Nat.beq (zmLay k).1 41 then Nat.ble 2 k && Nat.ble k 3 else true) && (bif Nat.beq (zmLay k).1 42 then Nat.ble 9 k && (Nat.ble k 13 && Nat.beq (zmLay k).2 (snSl (k - 9))) else true))))))
theorem snPlan_ok : snPlan = true := by decide +kernel
theorem zmLay_out {k : Nat} (h : 147 ≤ k) : zmLay k = (99, 0) := by
  unfold zmLay zmAt
  by_cases h2 : k < 160
  · have h3 : k = 147 ∨ k = 148 ∨ k = 149 ∨ k = 150 ∨ k = 151 ∨ k = 152 ∨ k = 153 ∨ k = 154 ∨ k = 155 ∨ k = 156 ∨ k = 157 ∨ k = 158 ∨ k = 159 := by omega
    rcases h3 with rfl | rfl | rfl | rfl | rfl | rfl | rfl | rfl | rfl | rfl | rfl | rfl | rfl <;> rfl
  · have h4 : zmLayT.length ≤ k / 16 := by
      have : zmLayT.length = 10 := by rfl
      omega
    rw [List.getD_eq_getElem?_getD (l := zmLayT), List.getElem?_eq_none h4]
    simp
theorem zmLay_lt {k : Nat} (h : (zmLay k).1 ≠ 99) : k < 147 := by
  rcases Nat.lt_or_ge k 147 with q | q
  · exact q
  · exact absurd (by rw [zmLay_out q]) h
theorem snPlan_at {k : Nat} (h : k < 147) : (zmLay k).2 ≤ 43560 ∧ ((zmLay k).1 < 13 → 14 ≤ k ∧ (zmLay k).2 = (snC (zmLay k).1).2.2) ∧ ((zmLay k).1 < 25 → 14 ≤ k) ∧ ((zmLay k).1 = 30 → 4 ≤ k ∧ k ≤ 8) ∧ ((zmLay k).1 = 40 → k ≤ 1) ∧ ((zmLay k).1 = 41 → 2 ≤ k ∧ k ≤ 3) ∧ ((zmLay k).1 = 42 → 9 ≤ k ∧ k ≤ 13 ∧ (zmLay k).2 = snSl (k - 9)) := by
  have h1 := List.all_eq_true.mp snPlan_ok k (List.mem_range.mpr h)
  obtain ⟨a1, h1⟩ := snB2 h1
  obtain ⟨a2, h1⟩ := snB2 h1
  obtain ⟨a3, h1⟩ := snB2 h1
  obtain ⟨a4, h1⟩ := snB2 h1
  obtain ⟨a5, h1⟩ := snB2 h1
  obtain ⟨a6, a7⟩ := snB2 h1
  refine ⟨Nat.le_of_ble_eq_true a1, fun q => ?_, fun q => ?_, fun q => ?_, fun q => ?_, fun q => ?_, fun q => ?_⟩
  · rw [show Nat.blt (zmLay k).1 13 = true from Nat.ble_eq_true_of_le q] at a2
    obtain ⟨b1, b2⟩ := snB2 a2
    exact ⟨Nat.le_of_ble_eq_true b1, Nat.eq_of_beq_eq_true b2⟩
  · rw [show Nat.blt (zmLay k).1 25 = true from Nat.ble_eq_true_of_le q] at a3
    exact Nat.le_of_ble_eq_true a3
  · rw [q] at a4
    obtain ⟨b1, b2⟩ := snB2 a4
    exact ⟨Nat.le_of_ble_eq_true b1, Nat.le_of_ble_eq_true b2⟩
  · rw [q] at a5
    exact Nat.le_of_ble_eq_true a5
  · rw [q] at a6
    obtain ⟨b1, b2⟩ := snB2 a6
    exact ⟨Nat.le_of_ble_eq_true b1, Nat.le_of_ble_eq_true b2⟩
  · rw [q] at a7
    obtain ⟨b1, b2⟩ := snB2 a7
    obtain ⟨b2, b3⟩ := snB2 b2
    exact ⟨Nat.le_of_ble_eq_true b1, Nat.le_of_ble_eq_true b2, Nat.eq_of_beq_eq_true b3⟩
theorem zmKd_spec {a k : Nat} {x : zmH} (h : zmKd a x = k) (hk : k ≠ 99) : a < x.1.1 ∧ (zmLay a).1 = k ∧ a < 147 := by
  unfold zmKd at h
  cases hb : Nat.blt a x.1.1 with
  | false => rw [hb] at h; exact absurd h.symm hk
  | true =>
    rw [hb] at h
    have h : (zmLay a).1 = k := h
    exact ⟨Nat.le_of_ble_eq_true hb, h, zmLay_lt (by rw [h]; exact hk)⟩
theorem zmIn_in {j : Int32} {n : Nat} (h : zmIn j n = true) : vp_in j n := by
  unfold zmIn at h
  intro q
  rcases q with q | q <;> simp [q] at h
section SE
variable {od : Nat → Nat} {sz0 : Nat} {tyc : Nat → ClassId}
theorem snE_obj {x : zmH} {a c : Nat} (h : (zmLay a).1 = c) (hc : c < 13) : snE od sz0 tyc x a = .inr (c, (List.range (zmLay a).2).map (fun j => snV od sz0 (zmRd (snTy c j) a j x))) := by
  unfold snE
  rw [h]
  exact sn13 (P := fun c => (match c with
    | 20 => (.inl (tyc 0, ((zmLay a).2, .inl (fun j => gI x a j))) : va_E)
    | 21 => .inl (tyc 1, ((zmLay a).2, .inr (.inl (fun j => gL x a j))))
    | 22 => .inl (tyc 2, ((zmLay a).2, .inl (fun j => gI x a j)))
    | 23 => .inl (tyc 3, ((zmLay a).2, .inl (fun j => gI x a j)))
    | 24 => .inl (tyc 4, ((zmLay a).2, .inr (.inr (.inr (.inr (fun j => (gR x a j).map (snAd od sz0)))))))
    | c => .inr (c, (List.range (zmLay a).2).map (fun j => snV od sz0 (zmRd (snTy c j) a j x)))) = .inr (c, (List.range (zmLay a).2).map (fun j => snV od sz0 (zmRd (snTy c j) a j x)))) rfl rfl rfl rfl rfl rfl rfl rfl rfl rfl rfl rfl rfl hc
theorem snE_20 {x : zmH} {a : Nat} (h : (zmLay a).1 = 20) : snE od sz0 tyc x a = .inl (tyc 0, ((zmLay a).2, .inl (fun j => gI x a j))) := by unfold snE; rw [h]; rfl
theorem snE_21 {x : zmH} {a : Nat} (h : (zmLay a).1 = 21) : snE od sz0 tyc x a = .inl (tyc 1, ((zmLay a).2, .inr (.inl (fun j => gL x a j)))) := by unfold snE; rw [h]; rfl
theorem snE_22 {x : zmH} {a : Nat} (h : (zmLay a).1 = 22) : snE od sz0 tyc x a = .inl (tyc 2, ((zmLay a).2, .inl (fun j => gI x a j))) := by unfold snE; rw [h]; rfl
theorem snE_23 {x : zmH} {a : Nat} (h : (zmLay a).1 = 23) : snE od sz0 tyc x a = .inl (tyc 3, ((zmLay a).2, .inl (fun j => gI x a j))) := by unfold snE; rw [h]; rfl
theorem snE_24 {x : zmH} {a : Nat} (h : (zmLay a).1 = 24) : snE od sz0 tyc x a = .inl (tyc 4, ((zmLay a).2, .inr (.inr (.inr (.inr (fun j => (gR x a j).map (snAd od sz0))))))) := by unfold snE; rw [h]; rfl
/-- a cell's picture speaks of that cell alone -/
theorem snE_cong {x x' : zmH} {k : Nat} (h1 : ∀ j, gI x' k j = gI x k j) (h2 : ∀ j, gL x' k j = gL x k j) (h3 : ∀ j, gR x' k j = gR x k j) : snE od sz0 tyc x' k = snE od sz0 tyc x k := by
  have h4 : ∀ t j, zmRd t k j x' = zmRd t k j x := by
    intro t j
    unfold zmRd
    rw [h1, h2, h3]
  unfold snE
  simp only [h1, h2, h3, h4]
theorem snE_sI {x : zmH} {a j k : Nat} {v : Int32} (h : k ≠ a) : snE od sz0 tyc (sI x a j v) k = snE od sz0 tyc x k :=
  snE_cong (fun i => if_neg (fun q => h q.1)) (fun _ => rfl) (fun _ => rfl)
theorem snE_sL {x : zmH} {a j k : Nat} {v : Int64} (h : k ≠ a) : snE od sz0 tyc (sL x a j v) k = snE od sz0 tyc x k :=
  snE_cong (fun _ => rfl) (fun i => if_neg (fun q => h q.1)) (fun _ => rfl)
theorem snE_sR {x : zmH} {a j k : Nat} {v : Option Nat} (h : k ≠ a) : snE od sz0 tyc (sR x a j v) k = snE od sz0 tyc x k :=
  snE_cong (fun _ => rfl) (fun _ => rfl) (fun i => if_neg (fun q => h q.1))
/-- a field is written: the row of the fields -/
theorem snFs_set {n rb : Nat} {f g : Nat → Value} {v : Value} (h1 : g rb = v) (h2 : ∀ j, j ≠ rb → g j = f j) : (List.range n).map g = ((List.range n).map f).set rb v := by
  apply List.ext_getElem?
  intro i
  rw [List.getElem?_set]
  by_cases e : rb = i
  · subst e
    rw [if_pos rfl]
    by_cases hl : rb < n
    · rw [List.getElem?_map, List.getElem?_range hl, if_pos (by simpa using hl)]
      show some (g rb) = some v
      rw [h1]
    · rw [if_neg (by simpa using hl), List.getElem?_eq_none (by simpa using hl)]
  · rw [if_neg e, List.getElem?_map, List.getElem?_map]
    cases hr : (List.range n)[i]? with
    | none => rfl
    | some j =>
      have hj := (List.getElem?_eq_some_iff.mp hr).2
      rw [List.getElem_range] at hj
      subst hj
      show some (g i) = some (f i)
      rw [h2 i (fun q => e q.symm)]
theorem snOld_sI {Ls : Nat} {oI : Nat → Nat → Int32} {oL : Nat → Nat → Int64} {x : zmH} {a j : Nat} {v : Int32} (h : snOld Ls oI oL x) (ha : 14 ≤ a) : snOld Ls oI oL (sI x a j v) := by
  refine ⟨h.1, h.2.1, fun k hk => ⟨?_, (h.2.2 k hk).2⟩⟩
  rw [← (h.2.2 k hk).1]
  funext b
  exact if_neg (fun q => by omega)
theorem snOld_sL {Ls : Nat} {oI : Nat → Nat → Int32} {oL : Nat → Nat → Int64} {x : zmH} {a j : Nat} {v : Int64} (h : snOld Ls oI oL x) (ha : 14 ≤ a) : snOld Ls oI oL (sL x a j v) := by
  refine ⟨h.1, h.2.1, fun k hk => ⟨(h.2.2 k hk).1, ?_⟩⟩
  rw [← (h.2.2 k hk).2]
  funext b
  exact if_neg (fun q => by omega)
theorem snOld_sR {Ls : Nat} {oI : Nat → Nat → Int32} {oL : Nat → Nat → Int64} {x : zmH} {a j : Nat} {v : Option Nat} (h : snOld Ls oI oL x) : snOld Ls oI oL (sR x a j v) := h
theorem snRf (o : Option Nat) : va_rf (o.map (snAd od sz0)) = snV od sz0 (zmRf o) := by cases o <;> rfl
end SE
