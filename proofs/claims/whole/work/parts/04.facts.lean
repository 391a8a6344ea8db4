/-! 04: closed facts of the classes and of the words -/
def sT : List Cond := lw_tbl.filter goodWord
theorem sT_in {w : Cond} {n : Nat} (h : lw_tbl[n]? = some w) (hg : goodWord w = true) : w ∈ sT := List.mem_filter.mpr ⟨List.mem_of_getElem? h, hg⟩
theorem sT_good {w : Cond} (h : w ∈ sT) : (w.onTables && w.keeps) = true ∨ ∃ ty, w = .arrayClass ty := good_of_word (List.mem_filter.mp h).2
def kLp : Nat → List Nat := fun n => match n with
  | 0 => [553, 555, 557, 559, 561, 563, 565, 567, 569, 571, 573, 575]
  | 1 => [597, 599, 601, 603, 605, 607, 609, 611, 613, 615, 617]
  | 2 => [241, 243, 245, 247, 249]
  | 3 => [200, 202, 204, 206, 208, 210, 212]
  | 4 => [332, 334, 336, 338, 340, 342, 344, 346, 348, 350, 352]
  | 5 => [490, 492, 494, 496]
  | 6 => [454, 456, 458, 460, 462, 464, 466, 468, 470, 472, 474, 476]
  | 7 => [420, 422, 424]
  | 8 => [387, 389, 391, 393, 395, 397, 399, 401, 403]
  | 9 => [514, 516, 518, 520, 522, 524]
  | 10 => [277, 279, 281, 283, 285, 287]
  | 11 => [635, 637, 639, 641, 643, 645, 647, 649, 651, 653, 655, 657, 659, 661, 663]
  | 12 => [1504, 1506, 1508, 1510, 1512, 1514, 1516, 1518, 1520, 1522, 1524, 1526, 1528, 1530, 1532, 1534, 1536, 1538, 1540, 1542, 1544, 1546, 1548, 1550, 1552, 1554, 1556, 1558, 1560, 1562, 1564, 1566, 1568, 1570, 1572, 1574, 1576, 1578, 1580, 1582, 1584, 1586, 1588, 1590, 1592, 1594, 1596, 1598, 1600]
  | _ => []
theorem kU0 : ∀ s, s < 12 → lw_tbl[(kLp 0).getD s 0]? = some (u_lay RX0 TX0 s) ∧ goodWord (u_lay RX0 TX0 s) = true := by decide +kernel
theorem kU1 : ∀ s, s < 11 → lw_tbl[(kLp 1).getD s 0]? = some (u_lay RX1 TX1 s) ∧ goodWord (u_lay RX1 TX1 s) = true := by decide +kernel
theorem kU2 : ∀ s, s < 5 → lw_tbl[(kLp 2).getD s 0]? = some (u_lay RX2 TX2 s) ∧ goodWord (u_lay RX2 TX2 s) = true := by decide +kernel
theorem kU3 : ∀ s, s < 7 → lw_tbl[(kLp 3).getD s 0]? = some (u_lay RX3 TX3 s) ∧ goodWord (u_lay RX3 TX3 s) = true := by decide +kernel
theorem kU4 : ∀ s, s < 11 → lw_tbl[(kLp 4).getD s 0]? = some (u_lay RX4 TX4 s) ∧ goodWord (u_lay RX4 TX4 s) = true := by decide +kernel
theorem kU5 : ∀ s, s < 4 → lw_tbl[(kLp 5).getD s 0]? = some (u_lay RX5 TX5 s) ∧ goodWord (u_lay RX5 TX5 s) = true := by decide +kernel
theorem kU6 : ∀ s, s < 12 → lw_tbl[(kLp 6).getD s 0]? = some (u_lay RX6 TX6 s) ∧ goodWord (u_lay RX6 TX6 s) = true := by decide +kernel
theorem kU7 : ∀ s, s < 3 → lw_tbl[(kLp 7).getD s 0]? = some (u_lay RX7 TX7 s) ∧ goodWord (u_lay RX7 TX7 s) = true := by decide +kernel
theorem kU8 : ∀ s, s < 9 → lw_tbl[(kLp 8).getD s 0]? = some (u_lay RX8 TX8 s) ∧ goodWord (u_lay RX8 TX8 s) = true := by decide +kernel
theorem kU9 : ∀ s, s < 6 → lw_tbl[(kLp 9).getD s 0]? = some (u_lay RX9 TX9 s) ∧ goodWord (u_lay RX9 TX9 s) = true := by decide +kernel
theorem kU10 : ∀ s, s < 6 → lw_tbl[(kLp 10).getD s 0]? = some (u_lay RX10 TX10 s) ∧ goodWord (u_lay RX10 TX10 s) = true := by decide +kernel
theorem kU11 : ∀ s, s < 15 → lw_tbl[(kLp 11).getD s 0]? = some (u_lay RX11 TX11 s) ∧ goodWord (u_lay RX11 TX11 s) = true := by decide +kernel
theorem kU12 : ∀ s, s < 49 → lw_tbl[(kLp 12).getD s 0]? = some (u_lay RX12 TX12 s) ∧ goodWord (u_lay RX12 TX12 s) = true := by decide +kernel
theorem kUin {C : String} {T : u_T} {N : Nat} {f : Nat → Nat} (h : ∀ s, s < N → lw_tbl[f s]? = some (u_lay C T s) ∧ goodWord (u_lay C T s) = true) : ∀ w ∈ u_ws C T N, w ∈ sT := by
  intro w hw
  obtain ⟨s, hs, rfl⟩ := List.mem_map.mp hw
  have hl := List.mem_range.mp hs
  exact sT_in (h s hl).1 (h s hl).2
theorem kU (n : Nat) (hn : n < 13) : ∀ w ∈ u_ws (kRn n) (kTt n) (knf (n + 1)), w ∈ sT := match n, hn with
  | 0, _ => kUin kU0
  | 1, _ => kUin kU1
  | 2, _ => kUin kU2
  | 3, _ => kUin kU3
  | 4, _ => kUin kU4
  | 5, _ => kUin kU5
  | 6, _ => kUin kU6
  | 7, _ => kUin kU7
  | 8, _ => kUin kU8
  | 9, _ => kUin kU9
  | 10, _ => kUin kU10
  | 11, _ => kUin kU11
  | 12, _ => kUin kU12
  | n + 13, hn => absurd hn (by omega)
theorem kcl (n : Nat) (hn : n < 13) : vwCl[n]? = some (kRn n, kTt n, knf (n + 1)) := match n, hn with
  | 0, _ => rfl
  | 1, _ => rfl
  | 2, _ => rfl
  | 3, _ => rfl
  | 4, _ => rfl
  | 5, _ => rfl
  | 6, _ => rfl
  | 7, _ => rfl
  | 8, _ => rfl
  | 9, _ => rfl
  | 10, _ => rfl
  | 11, _ => rfl
  | 12, _ => rfl
  | n + 13, hn => absurd hn (by omega)
theorem kty (n : Nat) (hn : n < 13) : ∀ k, k < knf (n + 1) → parseFieldDescriptor (kTt n k).2.2.1 = some (kTy n k) := match n, hn with
  | 0, _ => tyX0_ok
  | 1, _ => tyX1_ok
  | 2, _ => tyX2_ok
  | 3, _ => tyX3_ok
  | 4, _ => tyX4_ok
  | 5, _ => tyX5_ok
  | 6, _ => tyX6_ok
  | 7, _ => tyX7_ok
  | 8, _ => tyX8_ok
  | 9, _ => tyX9_ok
  | 10, _ => tyX10_ok
  | 11, _ => tyX11_ok
  | 12, _ => tyX12_ok
  | n + 13, hn => absurd hn (by omega)
theorem knm (n : Nat) (hn : n < 13) : ∀ a, a < knf (n + 1) → ∀ b, b < knf (n + 1) → a ≠ b → (kTt n a).2.1 ≠ (kTt n b).2.1 := match n, hn with
  | 0, _ => nmX0
  | 1, _ => nmX1
  | 2, _ => nmX2
  | 3, _ => nmX3
  | 4, _ => nmX4
  | 5, _ => nmX5
  | 6, _ => nmX6
  | 7, _ => nmX7
  | 8, _ => nmX8
  | 9, _ => nmX9
  | 10, _ => nmX10
  | 11, _ => nmX11
  | 12, _ => nmX12
  | n + 13, hn => absurd hn (by omega)
def ftc : FieldType → Nat := fun t => match t with
  | .int => 0
  | .long => 1
  | .boolean => 4
  | .object _ => 3
  | _ => 6
theorem kfc : ∀ n, n < 13 → ∀ s, s < knf (n + 1) → (kTt n s).1 = kRn n ∧ (kft (n + 1) s = 2 ∨ ((kTt n s).2.2.2 = false ∧ kft (n + 1) s = ftc (kTy n s))) := by decide +kernel
theorem kfdl : ∀ k, k < 80 → ∀ s, s < 60 → kft k s = 2 → ∀ i, i < kni k → (kfd k s i).2 < kni (kfd k s i).1 := by decide +kernel
theorem kael : ∀ k, k < 80 → kar k = 4 → ∀ j, j < kln k → (kae k).2 + j < kni (kae k).1 := by decide +kernel
theorem kft_big (k s : Nat) (h : 60 ≤ s) : kft k s = 9 := by
  unfold kft
  split <;> (first | rfl | (split <;> first | rfl | omega))
theorem kFLok0 : ∀ q ∈ kFL0, lw_tbl[q.1]? = some (Cond.fieldLink (kRn q.2.1) q.2.2.1 (kRn q.2.2.2.1) (kTt q.2.2.2.1 q.2.2.2.2).2.1 (kTt q.2.2.2.1 q.2.2.2.2).2.2.1) ∧ q.2.2.2.1 < 13 ∧ q.2.2.2.2 < knf (q.2.2.2.1 + 1) := by decide +kernel
theorem kFLok1 : ∀ q ∈ kFL1, lw_tbl[q.1]? = some (Cond.fieldLink (kRn q.2.1) q.2.2.1 (kRn q.2.2.2.1) (kTt q.2.2.2.1 q.2.2.2.2).2.1 (kTt q.2.2.2.1 q.2.2.2.2).2.2.1) ∧ q.2.2.2.1 < 13 ∧ q.2.2.2.2 < knf (q.2.2.2.1 + 1) := by decide +kernel
theorem kFLok2 : ∀ q ∈ kFL2, lw_tbl[q.1]? = some (Cond.fieldLink (kRn q.2.1) q.2.2.1 (kRn q.2.2.2.1) (kTt q.2.2.2.1 q.2.2.2.2).2.1 (kTt q.2.2.2.1 q.2.2.2.2).2.2.1) ∧ q.2.2.2.1 < 13 ∧ q.2.2.2.2 < knf (q.2.2.2.1 + 1) := by decide +kernel
theorem kFLok3 : ∀ q ∈ kFL3, lw_tbl[q.1]? = some (Cond.fieldLink (kRn q.2.1) q.2.2.1 (kRn q.2.2.2.1) (kTt q.2.2.2.1 q.2.2.2.2).2.1 (kTt q.2.2.2.1 q.2.2.2.2).2.2.1) ∧ q.2.2.2.1 < 13 ∧ q.2.2.2.2 < knf (q.2.2.2.1 + 1) := by decide +kernel
theorem kFLok4 : ∀ q ∈ kFL4, lw_tbl[q.1]? = some (Cond.fieldLink (kRn q.2.1) q.2.2.1 (kRn q.2.2.2.1) (kTt q.2.2.2.1 q.2.2.2.2).2.1 (kTt q.2.2.2.1 q.2.2.2.2).2.2.1) ∧ q.2.2.2.1 < 13 ∧ q.2.2.2.2 < knf (q.2.2.2.1 + 1) := by decide +kernel
theorem kFLok : ∀ q ∈ kFL, lw_tbl[q.1]? = some (Cond.fieldLink (kRn q.2.1) q.2.2.1 (kRn q.2.2.2.1) (kTt q.2.2.2.1 q.2.2.2.2).2.1 (kTt q.2.2.2.1 q.2.2.2.2).2.2.1) ∧ q.2.2.2.1 < 13 ∧ q.2.2.2.2 < knf (q.2.2.2.1 + 1) := by
  intro q hq
  unfold kFL at hq
  simp only [List.mem_append] at hq
  rcases hq with (((h0 | h1) | h2) | h3) | h4
  · exact kFLok0 q h0
  · exact kFLok1 q h1
  · exact kFLok2 q h2
  · exact kFLok3 q h3
  · exact kFLok4 q h4
theorem kCIok : ∀ q ∈ kCI, lw_tbl[q.1]? = some (Cond.constant (kRn q.2.1) q.2.2.1 q.2.2.2) := by decide +kernel
theorem kCLok : ∀ q ∈ kCL, lw_tbl[q.1]? = some (Cond.constantLong (kRn q.2.1) q.2.2.1 q.2.2.2) := by decide +kernel
