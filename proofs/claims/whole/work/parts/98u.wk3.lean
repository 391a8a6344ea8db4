/-! 98u: WEEKS that are read: the rest of each STEP -/
section C98u
variable {B : Int} {μ ν : sM} {b : Nat → Int32} {n i m K K1 s S Q d : Nat} {V : Int64}
/-- what stands when the rest of a STEP is to be read -/
def RS (B : Int) (μ ν : sM) (S Q K : Nat) : Prop := (rR μ 10 0 1 = 1 ∧ rR μ 10 0 2 = 1 ∧ rI μ 10 0 3 = nI Q ∧ Q < 60 ∧ S < 30) ∧ (rI μ 43 4 Q = nI K ∧ rI μ 45 4 Q = 0 ∧ rI ν 61 0 (1470 + 9 * S) = sWd K) ∧ RelR B μ 0 ν 0
theorem rr_c (h : RelR B μ 0 ν 0) : ∃ c0 c1 c2 : Nat, c0 ≤ 6 ∧ c1 ≤ 6 ∧ c2 ≤ 6 ∧ rI μ 4 0 0 = nI c0 ∧ rI μ 3 0 0 = nI c1 ∧ rI μ 11 0 0 = nI c2 ∧ rI ν 61 0 0 = nI c0 ∧ rI ν 61 0 1 = nI c1 ∧ rI ν 61 0 2 = nI c2 := by
  obtain ⟨hR, ok, -⟩ := h
  obtain ⟨c0, e0, l0, -⟩ := rg_nI (b := 6) ok.1.1
  obtain ⟨c1, e1, l1, -⟩ := rg_nI (b := 6) ok.1.2.1
  obtain ⟨c2, e2, l2, -⟩ := rg_nI (b := 6) ok.1.2.2
  exact ⟨c0, c1, c2, l0, l1, l2, hR.1.1.trans e0, hR.1.2.1.trans e1, hR.1.2.2.1.trans e2, e0, e1, e2⟩
theorem restN (h : CS μ ν b n i m K1 V s) (r : RS B μ ν S Q K) {lo hi : Nat} (hk : (K = 14 ∧ lo = 1 ∧ hi = 24) ∨ (K = 24 ∧ lo = 1 ∧ hi = 99)) : RR μ ν b n i S Q (X9_takeNumber (nI lo) (nI hi) μ) (bI (X12_count (nI lo) (nI hi) ν) fun x ρ => some (wI ρ 61 0 (1470 + 9 * S + 1) x)) := by
  obtain ⟨⟨r1, r2, r3, r4, r5⟩, ⟨r6, r7, r8⟩, r9⟩ := r
  rcases num9 h (lo := lo) (hi := hi) (by omega) (by omega) r1 r3 r4 with ⟨μ', ν', b1, b2, q, f3, g3⟩ | ⟨v, μ3, ν3, m3, K3, V3, s3, v1, v2, b1, b2, C3, f3, g3⟩
  · exact Or.inl ⟨μ', wI ν' 61 0 (1470 + 9 * S + 1) 0, b1, by rw [b2, bI_s], FS_61 q, FA_x f3, FB_w (FB_x g3) (by omega)⟩
  · have tv := nI_toInt (n := v) (by omega)
    have e43 : rI (wI μ3 45 4 Q (nI v)) 43 4 Q = nI K := by rw [rI_k (by decide), (f3.1 43 4 Q rfl).1]; exact r6
    have s0 : stp (vv (wI ν3 61 0 (1470 + 9 * S + 1) (nI v))) 0 S 0 = sWd K := by rw [vv_s r5 (by omega), rI_j (by omega), (g3 61 0 _ rfl).1]; exact r8
    have s1 : stp (vv (wI ν3 61 0 (1470 + 9 * S + 1) (nI v))) 0 S 1 = nI v := by rw [vv_s r5 (by omega), rI_s]
    refine Or.inr ⟨_, wI ν3 61 0 (1470 + 9 * S + 1) (nI v), i + 1, m3, K3, V3, s3, by omega, b1, by rw [b2, bI_s], CS_61 C3, ?_, FA_w (FA_x f3) (by omega), FB_w (FB_x g3) (by omega)⟩
    unfold RowR
    rw [s0, s1, e43, rI_s]
    rcases hk with ⟨rfl, rfl, rfl⟩ | ⟨rfl, rfl, rfl⟩
    · exact Or.inl ⟨rfl, rfl, rfl, by unfold rg; omega⟩
    · exact Or.inr (Or.inr (Or.inr (Or.inr (Or.inr (Or.inr (Or.inr (Or.inr (Or.inl ⟨rfl, rfl, rfl, by unfold rg; omega⟩))))))))
theorem restG (h : CS μ ν b n i m K1 V s) (r : RS B μ ν S Q K) (hk : K = 6) {c : Nat} (hc : rI ν 61 0 0 = nI c) (c6 : c ≤ 6) : RR μ ν b n i S Q (bI (X9_takeName_28 0 (nI c) μ) fun x3 μ4 => if x3 = 0 then some (0, μ4) else bI (X9_takeNumber (nI 0) (nI 99) μ4) fun x5 μ6 => if x5 = 0 then some (0, μ6) else some (1, μ6)) (bI (X12_readTold (nI 0) (nI 0) ν) fun x1 μ2 => bI (X12_count (nI 0) (nI 99) (wI μ2 61 0 (1470 + 9 * S + 1) x1)) fun x3 μ4 => some (wI μ4 61 0 (1470 + 9 * S + 2) x3)) := by
  obtain ⟨⟨r1, r2, r3, r4, r5⟩, ⟨r6, r7, r8⟩, r9⟩ := r
  rcases nm28 h r9.2.2.1 hc c6 r1 r3 r4 with ⟨μ', ν', b1, b2, q, f3, g3⟩ | ⟨j, μ1, ν1, m1, K1', V1, s1, hj, b1, b2, C1, f1, g1⟩
  · obtain ⟨f, f1', f7', q'⟩ := FS_b q
    exact Or.inl ⟨μ', wI (wI ν' 61 0 (1470 + 9 * S + 1) 0) 61 0 (1470 + 9 * S + 2) 0, by rw [b1, bI_s, if_pos rfl], by rw [b2, bI_s, b_count (b12 q') f1' f7', bI_s], FS_61 (FS_61 q), FA_x f3, FB_w (FB_w (FB_x g3) (by omega)) (by omega)⟩
  · have C2 : CS μ1 (wI ν1 61 0 (1470 + 9 * S + 1) (nI j)) b n (i + 1) m1 K1' V1 s1 := CS_61 C1
    have F1 : FA Q μ μ1 := FA_t (FA_w ⟨kq_r, fun _ _ _ => rfl⟩ (by omega)) (FA_x f1)
    have G1 : kq (qB1 S) ν (wI ν1 61 0 (1470 + 9 * S + 1) (nI j)) := FB_w (FB_x g1) (by omega)
    have h3' : rI μ1 10 0 3 = nI Q := by rw [(f1.1 10 0 3 rfl).1, rI_k (by decide)]; exact r3
    rcases num9 C2 (lo := 0) (hi := 99) (by omega) (by omega) ((f1.2 10 0 1).trans r1) h3' r4 with ⟨μ', ν', d1, d2, q, f3, g3⟩ | ⟨v, μ3, ν3, m3, K3, V3, s3, v1, v2, d1, d2, C3, f3, g3⟩
    · exact Or.inl ⟨μ', wI ν' 61 0 (1470 + 9 * S + 2) 0, by rw [b1, bI_s, if_neg n10, d1, bI_s, if_pos rfl], by rw [b2, bI_s, d2, bI_s], FS_61 q, FA_t F1 (FA_x f3), FB_w (kq_t G1 (FB_x g3)) (by omega)⟩
    · have tv := nI_toInt (n := v) (by omega)
      have tj := nI_toInt (n := j) (by omega)
      have tc := nI_toInt (n := c) (by omega)
      have e43 : rI (wI μ3 45 4 Q (nI v)) 43 4 Q = nI K := by rw [rI_k (by decide), (f3.1 43 4 Q rfl).1, (f1.1 43 4 Q rfl).1, rI_k (by decide)]; exact r6
      have e44 : rI (wI μ3 45 4 Q (nI v)) 44 4 Q = nI j := by rw [rI_k (by decide), (f3.1 44 4 Q rfl).1, (f1.1 44 4 Q rfl).1, rI_s]
      have s0 : stp (vv (wI ν3 61 0 (1470 + 9 * S + 2) (nI v))) 0 S 0 = sWd K := by rw [vv_s r5 (by omega), rI_j (by omega), (g3 61 0 _ rfl).1, rI_j (by omega), (g1 61 0 _ rfl).1]; exact r8
      have s1' : stp (vv (wI ν3 61 0 (1470 + 9 * S + 2) (nI v))) 0 S 1 = nI j := by rw [vv_s r5 (by omega), rI_j (by omega), (g3 61 0 _ rfl).1, rI_s]
      have s2 : stp (vv (wI ν3 61 0 (1470 + 9 * S + 2) (nI v))) 0 S 2 = nI v := by rw [vv_s r5 (by omega), rI_s]
      have cc : rI (vv (wI ν3 61 0 (1470 + 9 * S + 2) (nI v))) 61 0 (348 * 0) = nI c := by
        rw [vv_c (by omega), rI_j (by omega), (g3 61 0 _ rfl).1, rI_j (by omega), (g1 61 0 _ rfl).1]; exact hc
      refine Or.inr ⟨_, wI ν3 61 0 (1470 + 9 * S + 2) (nI v), i + 1 + 1, m3, K3, V3, s3, by omega, by rw [b1, bI_s, if_neg n10, d1, bI_s, if_neg n10], by rw [b2, bI_s, d2, bI_s], CS_61 C3, ?_, FA_w (FA_t F1 (FA_x f3)) (by omega), FB_w (kq_t G1 (FB_x g3)) (by omega)⟩
      unfold RowR
      rw [s0, s1', s2, e43, e44, rI_s, cc, hk]
      refine Or.inr (Or.inr (Or.inr (Or.inl ⟨rfl, rfl, rfl, rfl, ?_, ?_, ?_⟩)))
      · unfold rg; omega
      · omega
      · omega
theorem restW (h : CS μ ν b n i m K1 V s) (r : RS B μ ν S Q K) (hk : K = 15) : RR μ ν b n i S Q (X9_readWind μ) (bI (X12_readTold (nI 0) (nI 2) ν) fun x5 μ6 => bI (X12_isBack (wI μ6 61 0 (1470 + 9 * S + 1) x5)) fun x7 μ8 => bI (X12_perhaps x7 μ8) fun x9 μ10 => if x9 = 0 then some (wI μ10 61 0 (1470 + 9 * S + 2) 0) else some (wI μ10 61 0 (1470 + 9 * S + 2) 1)) := by
  obtain ⟨⟨r1, r2, r3, r4, r5⟩, ⟨r6, r7, r8⟩, r9⟩ := r
  obtain ⟨c0, c1, c, -, -, c6, -, -, hx, -, -, hc⟩ := rr_c r9
  unfold X9_readWind
  rw [r2, if_pos rfl, if_pos rfl, hx]
  rcases nm50 h r9.2.2.1 hc c6 r1 r3 r4 with ⟨μ', ν', b1, b2, q, f3, g3⟩ | ⟨j, μ1, ν1, m1, K1', V1, s1, hj, b1, b2, C1, f1, g1⟩
  · obtain ⟨f, f1', f7', q'⟩ := FS_b q
    obtain ⟨x, ex⟩ := so_Back (wI ν' 61 0 (1470 + 9 * S + 1) 0)
    exact Or.inl ⟨μ', wI (wI ν' 61 0 (1470 + 9 * S + 1) 0) 61 0 (1470 + 9 * S + 2) 0, by rw [b1, bI_s, if_pos rfl], by rw [b2, bI_s, ex, bI_s, b_perhaps (b12 q') f1' f7', bI_s, if_pos rfl], FS_61 (FS_61 q), FA_x f3, FB_w (FB_w (FB_x g3) (by omega)) (by omega)⟩
  · have C2 : CS μ1 (wI ν1 61 0 (1470 + 9 * S + 1) (nI j)) b n (i + 1) m1 K1' V1 s1 := CS_61 C1
    have F1 : FA Q μ μ1 := FA_t (FA_w ⟨kq_r, fun _ _ _ => rfl⟩ (by omega)) (FA_x f1)
    have G1 : kq (qB1 S) ν (wI ν1 61 0 (1470 + 9 * S + 1) (nI j)) := FB_w (FB_x g1) (by omega)
    have h3' : rI μ1 10 0 3 = nI Q := by rw [(f1.1 10 0 3 rfl).1, rI_k (by decide)]; exact r3
    have r1' : rR μ1 10 0 1 = 1 := (f1.2 10 0 1).trans r1
    have tj := nI_toInt (n := j) (by omega)
    have tc := nI_toInt (n := c) (by omega)
    have e43 : rI μ1 43 4 Q = nI K := by rw [(f1.1 43 4 Q rfl).1, rI_k (by decide)]; exact r6
    have e44 : rI μ1 44 4 Q = nI j := by rw [(f1.1 44 4 Q rfl).1, rI_s]
    have e45 : rI μ1 45 4 Q = 0 := by rw [(f1.1 45 4 Q rfl).1, rI_k (by decide)]; exact r7
    have d0 : rI ν1 61 0 (1470 + 9 * S) = sWd K := ((g1 61 0 _ rfl).1).trans r8
    have d2 : rI ν1 61 0 2 = nI c := ((g1 61 0 _ rfl).1).trans hc
    have row : ∀ (μ' ν' : sM) (x : Int32), x = 0 ∨ x = 1 → rI μ' 43 4 Q = nI K → rI μ' 44 4 Q = nI j → rI μ' 45 4 Q = x → rI ν' 61 0 (1470 + 9 * S) = sWd K → rI ν' 61 0 (1470 + 9 * S + 1) = nI j → rI ν' 61 0 (1470 + 9 * S + 2) = x → rI ν' 61 0 2 = nI c → RowR μ' 4 (vv ν') 0 S Q := by
      intro μ' ν' x hx' p1 p2 p3 p4 p5 p6 p7
      unfold RowR
      rw [vv_s r5 (show 0 < 9 by omega), vv_s r5 (show 1 < 9 by omega), vv_s r5 (show 2 < 9 by omega), Nat.add_zero, p1, p2, p3, p4, p5, p6, show rI (vv ν') 61 0 (348 * 0 + 2) = nI c from (vv_c (by omega)).trans p7, hk]
      exact Or.inr (Or.inl ⟨rfl, rfl, rfl, rfl, hx', by omega, by omega⟩)
    rw [b1, bI_s, if_neg n10, r1', if_pos rfl, C1.2.2.1.1, b2, bI_s, is_Back C2.2.2.2.2.1, bI_s, perh C2]
    by_cases c16 : K1' = 16
    · have C3 : CS (wI μ1 45 4 Q 1) (wI ν1 61 0 (1470 + 9 * S + 1) (nI j)) b n (i + 1) m1 K1' V1 s1 := CS_c C2 (kq_wI rfl kq_r) kq_r
      obtain ⟨μ2, ν2, m2, K2, V2, s2, a1, a2, C4, f4, g4, -⟩ := adv2 C3 (by omega)
      refine Or.inr ⟨μ2, wI ν2 61 0 (1470 + 9 * S + 2) 1, i + 1 + 1, m2, K2, V2, s2, by omega, ?_, ?_, CS_61 C4, row _ _ 1 (Or.inr rfl) ?_ ?_ ?_ ?_ ?_ rI_s ?_, FA_t (FA_w F1 (by omega)) (FA_x f4), FB_w (kq_t G1 (FB_x g4)) (by omega)⟩
      · rw [if_pos (show nI K1' = 16 by rw [c16]; rfl), h3', if_pos (inb_nI r4 (by omega)), if_pos rfl, ix_nI (by omega), a1, bV_s]
      · rw [if_pos c16, a2, bV_s, bI_s, if_neg n10]
      · rw [(f4.1 43 4 Q rfl).1, rI_k (by decide)]; exact e43
      · rw [(f4.1 44 4 Q rfl).1, rI_k (by decide)]; exact e44
      · rw [(f4.1 45 4 Q rfl).1, rI_s]
      · rw [rI_j (by omega), (g4 61 0 _ rfl).1, rI_j (by omega)]; exact d0
      · rw [rI_j (by omega), (g4 61 0 _ rfl).1, rI_s]
      · rw [rI_j (by omega), (g4 61 0 _ rfl).1, rI_j (by omega)]; exact d2
    · have k8 := C1.2.2.2.1
      refine Or.inr ⟨μ1, wI (wI ν1 61 0 (1470 + 9 * S + 1) (nI j)) 61 0 (1470 + 9 * S + 2) 0, i + 1, m1, K1', V1, s1, by omega, ?_, ?_, CS_61 C2, row _ _ 0 (Or.inl rfl) e43 e44 e45 ?_ ?_ rI_s ?_, F1, FB_w G1 (by omega)⟩
      · rw [if_neg (show ¬ nI K1' = 16 from fun z => c16 ((nI_eq (b := 16) (by omega) (by omega)).mp z))]
      · rw [if_neg c16, bI_s, if_pos rfl]
      · rw [rI_j (by omega), rI_j (by omega)]; exact d0
      · rw [rI_j (by omega), rI_s]
      · rw [rI_j (by omega), rI_j (by omega)]; exact d2
/-! a TEST -/
theorem tst_row {μ' ν' : sM} {j v c : Nat} {sg : Int32} (hS : S < 30) (p0 : rI ν' 61 0 (1470 + 9 * S) = 7) (p43 : rI μ' 43 4 Q = 20) (hsg : sg = 60 ∨ sg = 61 ∨ sg = 62) (p44 : rI μ' 44 4 Q = nI j) (q1 : rI ν' 61 0 (1470 + 9 * S + 1) = nI j) (p45 : rI μ' 45 4 Q = nI v) (q2 : rI ν' 61 0 (1470 + 9 * S + 2) = nI v) (p47 : rI μ' 47 4 Q = sg) (q7 : rI ν' 61 0 (1470 + 9 * S + 7) = sg) (hj : j < c) (c6 : c ≤ 6)
    (ht : (rI μ' 46 4 Q = 21 ∧ rI ν' 61 0 (1470 + 9 * S + 6) = 0 ∧ rI ν' 61 0 0 = nI c) ∨ (rI μ' 46 4 Q = 22 ∧ rI ν' 61 0 (1470 + 9 * S + 6) = 1 ∧ rI ν' 61 0 1 = nI c)) : RowR μ' 4 (vv ν') 0 S Q := by
  have tj := nI_toInt (n := j) (by omega)
  have tc := nI_toInt (n := c) (by omega)
  unfold RowR
  rw [vv_s hS (show 0 < 9 by omega), vv_s hS (show 1 < 9 by omega), vv_s hS (show 2 < 9 by omega), vv_s hS (show 6 < 9 by omega), vv_s hS (show 7 < 9 by omega), Nat.add_zero, p0, p43, p44, q1, p45, q2, p47, q7]
  refine Or.inr (Or.inr (Or.inr (Or.inr (Or.inr (Or.inr (Or.inr (Or.inl ⟨rfl, rfl, ?_⟩)))))))
  rcases ht with ⟨h1, h2, h3⟩ | ⟨h1, h2, h3⟩
  · rw [h1, h2, show rI (vv ν') 61 0 (348 * 0) = nI c from (vv_c (by omega)).trans h3]
    exact Or.inr (Or.inl ⟨rfl, rfl, rfl, rfl, rfl, by omega, by omega, hsg⟩)
  · rw [h1, h2, show rI (vv ν') 61 0 (348 * 0 + 1) = nI c from (vv_c (by omega)).trans h3]
    exact Or.inr (Or.inr ⟨rfl, rfl, rfl, rfl, rfl, by omega, by omega, hsg⟩)
theorem restT (h : CS μ ν b n i m K1 V s) (r : RS B μ ν S Q K) (hk : K = 20) : RR μ ν b n i S Q (X9_readTest μ) (X12_readTest (nI (1470 + 9 * S)) ν) := by
  obtain ⟨⟨r1, r2, r3, r4, r5⟩, ⟨r6, r7, r8⟩, r9⟩ := r
  obtain ⟨c0, c1, c2, l0, l1, -, x0, x1, -, y0, y1, -⟩ := rr_c r9
  have h5 := h.2.2.1.1
  have h8 := h.2.2.2.1
  have hT := h.2.2.2.2.1
  have w6 := ix_w r5 (x := 6) (by omega)
  have w1 := ix_w r5 (x := 1) (by omega)
  have w2 := ix_w r5 (x := 2) (by omega)
  have w7 := ix_w r5 (x := 7) (by omega)
  have p0 : rI ν 61 0 (1470 + 9 * S) = 7 := by rw [r8, hk]; rfl
  have p43 : rI μ 43 4 Q = 20 := by rw [r6, hk]; rfl
  have C0 : CS (wI μ 46 4 Q (nI K1)) ν b n i m K1 V s := CS_c h (kq_wI rfl kq_r) kq_r
  have F0 : FA Q μ (wI μ 46 4 Q (nI K1)) := FA_w ⟨kq_r, fun _ _ _ => rfl⟩ (by omega)
  unfold X9_readTest X12_readTest
  rw [r1, if_pos rfl, r3, if_pos (inb_nI r4 (by omega)), if_pos rfl, if_pos rfl, if_pos rfl, if_pos rfl, ix_nI (by omega), h5, testW hT, bI_s]
  -- names and numbers behind the TEST's word
  have body : ∀ (t hi : Nat), ((t = 0 ∧ hi = 999 ∧ K1 = 21) ∨ (t = 1 ∧ hi = 9999 ∧ K1 = 22)) → ∀ (X : sM → Option (Int32 × sM)) (cnt : Nat), cnt ≤ 6 →
      (∀ μ1 ν1 m1 K' V1 s1, CS μ1 ν1 b n (i + 1) m1 K' V1 s1 → RelN μ1 0 ν1 0 → rI ν1 61 0 t = nI cnt → rR μ1 10 0 1 = 1 → rI μ1 10 0 3 = nI Q → (∃ μ' ν', X μ1 = some (0, μ') ∧ X12_readTold (nI 0) (nI t) ν1 = some (0, ν') ∧ FS μ' ν' ∧ FX μ1 μ' ∧ kq qMt ν1 ν') ∨ (∃ j μ' ν' m' K' V' s', j < cnt ∧ X μ1 = some (1, μ') ∧ X12_readTold (nI 0) (nI t) ν1 = some (nI j, ν') ∧ CS μ' ν' b n (i + 1 + 1) m' K' V' s' ∧ FX (wI μ1 44 4 Q (nI j)) μ' ∧ kq qMt ν1 ν')) →
      rI ν 61 0 t = nI cnt →
      RR μ ν b n i S Q (bV (X6_advance (wI μ 46 4 Q (nI K1))) fun μ5 => bI (X μ5) fun x8 μ9 => if x8 = 0 then some (0, μ9) else bI (X9_takeComparison μ9) fun x10 μ11 => if x10 = 0 then some (0, μ11) else bI (X9_takeNumber (nI 0) (nI hi) μ11) fun x12 μ13 => if x12 = 0 then some (0, μ13) else some (1, μ13)) (X12_readTest_J15 (nI (1470 + 9 * S)) (nI t) 1 ν) := by
    intro t hi ht X cnt c6 hX hcnt
    obtain ⟨μ1, ν1, m1, K', V1, s1, a1, a2, C1, f1, g1, -⟩ := adv2 C0 (by omega)
    have Fa : FA Q μ μ1 := FA_t F0 (FA_x f1)
    have r1' : rR μ1 10 0 1 = 1 := (f1.2 10 0 1).trans r1
    have h3' : rI μ1 10 0 3 = nI Q := by rw [(f1.1 10 0 3 rfl).1, rI_k (by decide)]; exact r3
    have C1' : CS μ1 (wI ν1 61 0 (1470 + 9 * S + 6) (nI t)) b n (i + 1) m1 K' V1 s1 := CS_61 C1
    have R1 : RelR B μ1 0 (wI ν1 61 0 (1470 + 9 * S + 6) (nI t)) 0 := by
      have q : qR 0 0 61 0 (1470 + 9 * S + 6) = false := by
        apply Bool.eq_false_iff.mpr
        intro z
        unfold qR rk at z
        simp only [Bool.or_eq_true, Bool.and_eq_true, beq_iff_eq, Nat.ble_eq] at z
        omega
      exact RelR_c r9 (kq_t (kq_wI rfl kq_r) (kq_m f1.1 qR0_x)) (kq_wI q (kq_m g1 qR0_m)) (Int.le_refl B)
    have G1 : kq (qB1 S) ν (wI ν1 61 0 (1470 + 9 * S + 6) (nI t)) := FB_w (FB_x g1) (by omega)
    have eM : X12_readTest_J15 (nI (1470 + 9 * S)) (nI t) 1 ν = bI (X12_readTold (nI 0) (nI t) (wI ν1 61 0 (1470 + 9 * S + 6) (nI t))) fun x3 μ4 => cmpM (nI (1470 + 9 * S)) (nI t) x3 μ4 := by
      unfold X12_readTest_J15
      rw [must1 h, if_neg n10, a2, bV_s, bV_s, n6, w6.2, if_pos w6.1, C1.2.2.2.2.2.2.1, if_neg (by decide +kernel), if_neg (show ¬ nI t = 2 from fun z => absurd ((nI_eq (b := 2) (by omega) (by omega)).mp z) (by omega))]
      have i1 : inb (nI (1470 + 9 * S) + 1) 1740 = true := by rw [n1]; exact w1.1
      simp only [i1, ↓reduceIte]
      rfl
    have hcnt1 : rI (wI ν1 61 0 (1470 + 9 * S + 6) (nI t)) 61 0 t = nI cnt := by rw [rI_j (by omega), (g1 61 0 _ rfl).1]; exact hcnt
    rw [a1, bV_s, eM]
    rcases hX μ1 _ m1 K' V1 s1 C1' R1.2.2.1 hcnt1 r1' h3' with ⟨μ', ν', b1, b2, q, f3, g3⟩ | ⟨j, μ2, ν2, m2, K2, V2, s2, hj, b1, b2, C2, f2, g2⟩
    · obtain ⟨f, f1', f7', q'⟩ := FS_b q
      have eC : ∃ ν'', cmpM (nI (1470 + 9 * S)) (nI t) 0 ν' = some ν'' ∧ FS μ' ν'' ∧ kq (qB1 S) ν' ν'' := by
        show ∃ ν'', (if (rI ν' 13 0 14) = 3 then _ else _) = some ν'' ∧ FS μ' ν'' ∧ kq (qB1 S) ν' ν''
        rw [n1, n7, w1.2]
        by_cases c : rI ν' 13 0 14 = 3
        · rw [if_pos c]
          exact ⟨_, b_79 (b12 q') f1' f7' w7.1 (by rw [n2]; exact w2.1), FS_61 (FS_61 (FS_61 q)), by rw [n2, w2.2, w7.2]; exact FB_w (FB_w (FB_w kq_r (by omega)) (by omega)) (by omega)⟩
        · rw [if_neg c]
          exact ⟨_, b_79 (b12 q') f1' f7' w7.1 (by rw [n2]; exact w2.1), FS_61 (FS_61 (FS_61 q)), by rw [n2, w2.2, w7.2]; exact FB_w (FB_w (FB_w kq_r (by omega)) (by omega)) (by omega)⟩
      obtain ⟨ν'', e'', q'', g''⟩ := eC
      exact Or.inl ⟨μ', ν'', by rw [b1, bI_s, if_pos rfl], by rw [b2, bI_s, e''], q'', FA_t Fa (FA_x f3), kq_t G1 (kq_t (FB_x g3) g'')⟩
    · have F2 : FA Q μ μ2 := FA_t Fa (FA_t (FA_w ⟨kq_r, fun _ _ _ => rfl⟩ (by omega)) (FA_x f2))
      have G2 : kq (qB1 S) ν ν2 := kq_t G1 (FB_x g2)
      have r1'' : rR μ2 10 0 1 = 1 := (f2.2 10 0 1).trans r1'
      have h3'' : rI μ2 10 0 3 = nI Q := by rw [(f2.1 10 0 3 rfl).1, rI_k (by decide)]; exact h3'
      rcases cmp9 C2 r1'' h3'' r4 r5 (t := t) (j := j) (hi := hi) (by omega) with ⟨μ', ν', d1, d2, q, f3, g3⟩ | ⟨sg, v, μ3, μ', ν', m', K'', V', s', hsg, d1, d2, d3, C', z1, z2, z3, z4, z5, z6, z7, z8, f3, g3⟩
      · refine Or.inl ⟨μ', ν', ?_, by rw [b2, bI_s, d2], q, FA_t F2 f3, kq_t G2 g3⟩
        rcases d1 with d1 | ⟨μ3, d1, d1'⟩
        · rw [b1, bI_s, if_neg n10, d1, bI_s, if_pos rfl]
        · rw [b1, bI_s, if_neg n10, d1, bI_s, if_neg n10, d1', bI_s, if_pos rfl]
      · refine Or.inr ⟨μ', ν', i + 1 + 1 + 2, m', K'', V', s', by omega, by rw [b1, bI_s, if_neg n10, d1, bI_s, if_neg n10, d2, bI_s, if_neg n10], by rw [b2, bI_s, d3], C', ?_, FA_t F2 f3, kq_t G2 g3⟩
        have m43 : rI μ' 43 4 Q = 20 := by
          rw [(f3.1 43 4 Q rfl).1, (f2.1 43 4 Q rfl).1, rI_k (by decide), (f1.1 43 4 Q rfl).1, rI_k (by decide)]
          exact p43
        have m46 : rI μ' 46 4 Q = nI K1 := by
          rw [z7, (f2.1 46 4 Q rfl).1, rI_k (by decide), (f1.1 46 4 Q rfl).1, rI_s]
        have m44 : rI μ' 44 4 Q = nI j := by
          rw [z6, (f2.1 44 4 Q rfl).1, rI_s]
        have gl : ∀ j', qB1 S 61 0 j' = true → rI ν' 61 0 j' = rI ν 61 0 j' := fun j' hq' => by
          rw [(g3 61 0 j' hq').1, (G2 61 0 j' hq').1]
        have ql : ∀ j', j' ≤ 1470 + 9 * S → qB1 S 61 0 j' = true := by
          intro j' hj'
          unfold qB1
          have : Nat.ble (1470 + 9 * S + 1) j' = false := by
            apply Bool.eq_false_iff.mpr
            intro z
            have := Nat.le_of_ble_eq_true z
            omega
          simp [this]
        have n6v : rI ν' 61 0 (1470 + 9 * S + 6) = nI t := by
          rw [z8, (g2 61 0 _ rfl).1, rI_s]
        refine tst_row (j := j) (v := v) (c := cnt) (sg := sg) r5 ?_ m43 hsg m44 z5 z3 z4 z1 z2 hj c6 ?_
        · rw [gl _ (ql _ (by omega))]; exact p0
        · rcases ht with ⟨rfl, -, rfl⟩ | ⟨rfl, -, rfl⟩
          · exact Or.inl ⟨m46, n6v, by rw [gl _ (ql _ (by omega))]; exact hcnt⟩
          · exact Or.inr ⟨m46, n6v, by rw [gl _ (ql _ (by omega))]; exact hcnt⟩
  by_cases c21 : K1 = 21
  · have z := body 0 999 (Or.inl ⟨rfl, rfl, c21⟩) (fun ρ => X9_takeName_28 0 (nI c0) ρ) c0 l0 (fun μ1 ν1 m1 K' V1 s1 C1 N1 hc q1 q3 => nm28 C1 N1 hc l0 q1 q3 r4) y0
    rw [if_pos (show nI K1 = 21 by rw [c21]; rfl)]
    rw [show teW K1 = 0 by rw [c21]; rfl, if_neg (by decide +kernel)]
    have eX : (bV (X6_advance (wI μ 46 4 Q (nI K1))) fun μ5 => if (rR μ5 10 0 2) = 1 then if (rR μ5 10 0 2) = 1 then bI (X9_takeName_28 0 (rI μ5 4 0 0) μ5) fun x8 μ9 => if x8 = 0 then some ((0 : Int32), μ9) else bI (X9_takeComparison μ9) fun x10 μ11 => if x10 = 0 then some (0, μ11) else bI (X9_takeNumber 0 999 μ11) fun x12 μ13 => if x12 = 0 then some (0, μ13) else some (1, μ13) else none else none) = (bV (X6_advance (wI μ 46 4 Q (nI K1))) fun μ5 => bI (X9_takeName_28 0 (nI c0) μ5) fun x8 μ9 => if x8 = 0 then some (0, μ9) else bI (X9_takeComparison μ9) fun x10 μ11 => if x10 = 0 then some (0, μ11) else bI (X9_takeNumber (nI 0) (nI 999) μ11) fun x12 μ13 => if x12 = 0 then some (0, μ13) else some (1, μ13)) := by
      obtain ⟨μ1, ν1, m1, K', V1, s1, a1, a2, C1, f1, g1, -⟩ := adv2 C0 (by omega)
      have e4 : rI μ1 4 0 0 = nI c0 := by rw [(f1.1 4 0 0 rfl).1, rI_k (by decide)]; exact x0
      rw [a1, bV_s, bV_s, f1.2, show rR (wI μ 46 4 Q (nI K1)) 10 0 2 = 1 from r2, if_pos rfl, if_pos rfl, e4]
      rfl
    exact Eq.mpr (congrArg (fun X => RR μ ν b n i S Q X (X12_readTest_J15 (nI (1470 + 9 * S)) (nI 0) 1 ν)) eX) z
  · rw [if_neg (show ¬ nI K1 = 21 from fun z => c21 ((nI_eq (b := 21) (by omega) (by omega)).mp z))]
    by_cases c22 : K1 = 22
    · have z := body 1 9999 (Or.inr ⟨rfl, rfl, c22⟩) (fun ρ => X9_takeName_24 0 (nI c1) ρ) c1 l1 (fun μ1 ν1 m1 K' V1 s1 C1 N1 hc q1 q3 => nm24 C1 N1 hc l1 q1 q3 r4) y1
      rw [if_pos (show nI K1 = 22 by rw [c22]; rfl)]
      rw [show teW K1 = 1 by rw [c22]; rfl, if_neg (by decide +kernel)]
      have eX : (bV (X6_advance (wI μ 46 4 Q (nI K1))) fun μ16 => if (rR μ16 10 0 2) = 1 then if (rR μ16 10 0 2) = 1 then bI (X9_takeName_24 0 (rI μ16 3 0 0) μ16) fun x19 μ20 => if x19 = 0 then some ((0 : Int32), μ20) else bI (X9_takeComparison μ20) fun x21 μ22 => if x21 = 0 then some (0, μ22) else bI (X9_takeNumber 0 9999 μ22) fun x23 μ24 => if x23 = 0 then some (0, μ24) else some (1, μ24) else none else none) = (bV (X6_advance (wI μ 46 4 Q (nI K1))) fun μ5 => bI (X9_takeName_24 0 (nI c1) μ5) fun x8 μ9 => if x8 = 0 then some (0, μ9) else bI (X9_takeComparison μ9) fun x10 μ11 => if x10 = 0 then some (0, μ11) else bI (X9_takeNumber (nI 0) (nI 9999) μ11) fun x12 μ13 => if x12 = 0 then some (0, μ13) else some (1, μ13)) := by
        obtain ⟨μ1, ν1, m1, K', V1, s1, a1, a2, C1, f1, g1, -⟩ := adv2 C0 (by omega)
        have e4 : rI μ1 3 0 0 = nI c1 := by rw [(f1.1 3 0 0 rfl).1, rI_k (by decide)]; exact x1
        rw [a1, bV_s, bV_s, f1.2, show rR (wI μ 46 4 Q (nI K1)) 10 0 2 = 1 from r2, if_pos rfl, if_pos rfl, e4]
        rfl
      exact Eq.mpr (congrArg (fun X => RR μ ν b n i S Q X (X12_readTest_J15 (nI (1470 + 9 * S)) (nI 1) 1 ν)) eX) z
    · rw [if_neg (show ¬ nI K1 = 22 from fun z => c22 ((nI_eq (b := 22) (by omega) (by omega)).mp z))]
      have hw := takeW C0 (k := 23) (by omega)
      rcases hw with ⟨c23, μ1, ν1, m1, K', V1, s1, a1, a2, C1, f1, g1⟩ | ⟨μ', ν', a1, a2, q, f1, g1⟩
      · refine Or.inr ⟨μ1, wI ν1 61 0 (1470 + 9 * S + 6) 2, i + 1, m1, K', V1, s1, by omega, ?_, ?_, CS_61 C1, ?_, FA_t F0 (FA_x f1), FB_w (FB_x g1) (by omega)⟩
        · rw [show (23 : Int32) = nI 23 from rfl, a1, bI_s]
          rfl
        · rw [if_pos c23] at a2
          rw [show teW K1 = 2 by rw [c23]; rfl, if_neg (by decide +kernel)]
          unfold X12_readTest_J15
          rw [a2, bV_s, n6, w6.2, if_pos w6.1, C1.2.2.2.2.2.2.1, if_neg (by decide +kernel), if_pos rfl]
        · have s0 : stp (vv (wI ν1 61 0 (1470 + 9 * S + 6) 2)) 0 S 0 = 7 := by
            rw [vv_s r5 (by omega)]
            show rI (wI ν1 61 0 (1470 + 9 * S + 6) 2) 61 0 (1470 + 9 * S) = 7
            rw [rI_j (by omega), (g1 61 0 _ rfl).1]
            exact p0
          have s6 : stp (vv (wI ν1 61 0 (1470 + 9 * S + 6) 2)) 0 S 6 = 2 := by rw [vv_s r5 (by omega), rI_s]
          have m43 : rI μ1 43 4 Q = 20 := by rw [(f1.1 43 4 Q rfl).1, rI_k (by decide)]; exact p43
          have m46 : rI μ1 46 4 Q = 23 := by rw [(f1.1 46 4 Q rfl).1, rI_s, c23]; rfl
          unfold RowR
          rw [s0, s6, m43, m46]
          exact Or.inr (Or.inr (Or.inr (Or.inr (Or.inr (Or.inr (Or.inr (Or.inl ⟨rfl, rfl, Or.inl ⟨rfl, rfl⟩⟩)))))))
      · by_cases c23 : K1 = 23
        · exfalso
          subst c23
          unfold X6_takeWord at a1
          rw [C0.2.2.1.1, if_pos rfl] at a1
          obtain ⟨μ1, ν1, m1, K', V1, s1, b1, -⟩ := adv2 C0 (by omega)
          rw [b1, bV_s] at a1
          injection a1 with a1
          injection a1 with a1 a1'
          exact absurd a1 (by decide +kernel)
        · obtain ⟨f, f1', f7', q'⟩ := FS_b q
          have e1 : teW K1 = -1 := by
            unfold teW
            rw [if_neg c21, if_neg c22, if_neg c23]
          rw [if_neg c23] at a2
          refine Or.inl ⟨μ', wI ν' 61 0 (1470 + 9 * S + 6) (-1), ?_, ?_, FS_61 q, FA_t F0 (FA_x f1), FB_w (FB_x g1) (by omega)⟩
          · rw [show (23 : Int32) = nI 23 from rfl, a1, bI_s]
            rfl
          · rw [e1, if_pos (by decide +kernel)]
            unfold X12_readTest_J15
            rw [a2, bV_s, n6, w6.2, if_pos w6.1, q', if_pos (fs_pos f1' f7').2.2]
/-- the rest of any STEP -/
theorem restS {fl : Nat} (h : CS μ ν b n i m K1 V s) (r : RS B μ ν S Q K) (hk : stk K fl) : RR μ ν b n i S Q (X9_readRest μ) (X12_readRest (nI (1470 + 9 * S)) ν) := by
  have r' := r
  obtain ⟨⟨r1, r2, r3, r4, r5⟩, ⟨r6, r7, r8⟩, r9⟩ := r'
  have w0 := ix_w r5 (x := 0) (by omega)
  rw [Nat.add_zero] at w0
  have w1 := ix_w r5 (x := 1) (by omega)
  have w2 := ix_w r5 (x := 2) (by omega)
  have stand : ∀ (k : Nat), K = k → (k = 2 ∨ k = 17 ∨ k = 18 ∨ k = 19 ∨ k = 26) → RR μ ν b n i S Q (some (1, μ)) (some ν) := by
    intro k e hk'
    refine Or.inr ⟨μ, ν, i, m, K1, V, s, Nat.le_refl i, rfl, rfl, h, ?_, ⟨kq_r, fun _ _ _ => rfl⟩, kq_r⟩
    unfold RowR
    rw [vv_s r5 (show 0 < 9 by omega), Nat.add_zero, r8, r6, e]
    rcases hk' with rfl | rfl | rfl | rfl | rfl
    · exact Or.inr (Or.inr (Or.inr (Or.inr (Or.inl ⟨rfl, rfl⟩))))
    · exact Or.inr (Or.inr (Or.inl ⟨rfl, rfl⟩))
    · exact Or.inr (Or.inr (Or.inr (Or.inr (Or.inr (Or.inl ⟨rfl, rfl⟩)))))
    · exact Or.inr (Or.inr (Or.inr (Or.inr (Or.inr (Or.inr (Or.inl ⟨rfl, rfl⟩))))))
    · exact Or.inr (Or.inr (Or.inr (Or.inr (Or.inr (Or.inr (Or.inr (Or.inr (Or.inr ⟨rfl, rfl⟩))))))))
  have ckR : ∀ {X : Option (Int32 × sM)} {M : Option sM}, RR μ ν b n i S Q X M → RR μ ν b n i S Q (bI X ckI) M := by
    intro X M hh
    rcases hh with ⟨μ', ν', e1, e2, q⟩ | ⟨μ', ν', i', m', K', V', s', q1, e1, e2, q⟩
    · exact Or.inl ⟨μ', ν', by rw [e1, bI_s]; rfl, e2, q⟩
    · exact Or.inr ⟨μ', ν', i', m', K', V', s', q1, by rw [e1, bI_s]; rfl, e2, q⟩
  unfold X9_readRest X12_readRest
  rw [r3, if_pos (inb_nI r4 (by omega)), ix_nI (show Q < 2 ^ 31 by omega), r6, if_pos w0.1, w0.2, r8, n1, n2, w1.2, w2.2]
  simp only [w1.1, w2.1, ↓reduceIte]
  rcases hk with ⟨hk, -⟩ | ⟨hk, -⟩
  · rcases hk with e | e
    · rw [e]
      rw [if_neg (by decide +kernel), if_neg (by decide +kernel), if_neg (by decide +kernel), if_pos (show nI 20 = 20 from rfl), if_neg (by decide +kernel), if_neg (by decide +kernel), if_pos (show sWd 20 = 7 from rfl)]
      have z := ckR (restT h r e)
      rcases z with ⟨μ', ν', e1, e2, q⟩ | ⟨μ', ν', i', m', K', V', s', q1, e1, e2, q⟩
      · exact Or.inl ⟨μ', ν', e1, by rw [e2, bV_s], q⟩
      · exact Or.inr ⟨μ', ν', i', m', K', V', s', q1, e1, by rw [e2, bV_s], q⟩
    · rw [e]
      rw [if_neg (by decide +kernel), if_neg (by decide +kernel), if_neg (by decide +kernel), if_neg (by decide +kernel), if_pos (show nI 24 = 24 from rfl), if_neg (by decide +kernel), if_pos (show sWd 24 = 8 from rfl)]
      exact ckR (restN h r (lo := 1) (hi := 99) (Or.inr ⟨e, rfl, rfl⟩))
  · rcases hk with e | e | e | e | e | e | e | e
    · rw [e]
      rw [if_neg (by decide +kernel), if_neg (by decide +kernel), if_neg (by decide +kernel), if_neg (by decide +kernel), if_neg (by decide +kernel), if_neg (by decide +kernel), if_neg (by decide +kernel), if_neg (by decide +kernel), if_neg (by decide +kernel), if_neg (by decide +kernel)]
      exact stand 2 e (by omega)
    · obtain ⟨c0, c1, c2, l0, -, -, x0, -, -, y0, -, -⟩ := rr_c r9
      rw [e]
      rw [if_pos (show nI 6 = 6 from rfl), r2, if_pos rfl, if_pos rfl, x0, if_neg (show ¬ sWd 6 = 0 by decide +kernel), if_neg (show ¬ sWd 6 = 8 by decide +kernel), if_neg (show ¬ sWd 6 = 7 by decide +kernel), if_neg (show ¬ sWd 6 = 1 by decide +kernel), if_pos (show sWd 6 = 3 from rfl)]
      exact restG h r e y0 l0
    · rw [e]
      rw [if_neg (by decide +kernel), if_pos (show nI 14 = 14 from rfl), if_pos (show sWd 14 = 0 from rfl)]
      exact ckR (restN h r (lo := 1) (hi := 24) (Or.inl ⟨e, rfl, rfl⟩))
    · rw [e]
      rw [if_neg (by decide +kernel), if_neg (by decide +kernel), if_pos (show nI 15 = 15 from rfl), if_neg (by decide +kernel), if_neg (by decide +kernel), if_neg (by decide +kernel), if_pos (show sWd 15 = 1 from rfl)]
      unfold X12_readRest_J109
      rw [w2.2]
      have z := ckR (restW h r e)
      simp only [w2.1, ↓reduceIte]
      exact z
    · rw [e]
      rw [if_neg (by decide +kernel), if_neg (by decide +kernel), if_neg (by decide +kernel), if_neg (by decide +kernel), if_neg (by decide +kernel), if_neg (by decide +kernel), if_neg (by decide +kernel), if_neg (by decide +kernel), if_neg (by decide +kernel), if_neg (by decide +kernel)]
      exact stand 17 e (by omega)
    · rw [e]
      rw [if_neg (by decide +kernel), if_neg (by decide +kernel), if_neg (by decide +kernel), if_neg (by decide +kernel), if_neg (by decide +kernel), if_neg (by decide +kernel), if_neg (by decide +kernel), if_neg (by decide +kernel), if_neg (by decide +kernel), if_neg (by decide +kernel)]
      exact stand 18 e (by omega)
    · rw [e]
      rw [if_neg (by decide +kernel), if_neg (by decide +kernel), if_neg (by decide +kernel), if_neg (by decide +kernel), if_neg (by decide +kernel), if_neg (by decide +kernel), if_neg (by decide +kernel), if_neg (by decide +kernel), if_neg (by decide +kernel), if_neg (by decide +kernel)]
      exact stand 19 e (by omega)
    · rw [e]
      rw [if_neg (by decide +kernel), if_neg (by decide +kernel), if_neg (by decide +kernel), if_neg (by decide +kernel), if_neg (by decide +kernel), if_neg (by decide +kernel), if_neg (by decide +kernel), if_neg (by decide +kernel), if_neg (by decide +kernel), if_neg (by decide +kernel)]
      exact stand 26 e (by omega)
end C98u
