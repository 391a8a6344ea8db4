/-! 98t: WEEKS that are read: the rest of a STEP -/
section C98t
variable {B : Int} {μ ν : sM} {b : Nat → Int32} {n i m K K1 s S Q d : Nat} {V : Int64}
/-- the reference's STEPS that are read, as if they stood already -/
abbrev vv (ν : sM) : sM := sC ν 61 0 (fun j => if 78 ≤ j ∧ j < 348 then rI ν 61 0 (1392 + j) else rI ν 61 0 j)
theorem vv_s {s x : Nat} (hs : s < 30) (hx : x < 9) : stp (vv ν) 0 s x = rI ν 61 0 (1470 + 9 * s + x) := by
  rw [stp0, sC_s, if_pos (by omega), show 1392 + (78 + 9 * s + x) = 1470 + 9 * s + x by omega]
theorem vv_c {j : Nat} (hj : j < 78) : rI (vv ν) 61 0 j = rI ν 61 0 j := by
  rw [sC_s, if_neg (by omega)]
def qA1 (Q k i j : Nat) : Bool := !((k == 7 && (Nat.ble 2 j && Nat.ble j 7)) || (Nat.ble 44 k && (Nat.ble k 47 && (i == 4 && j == Q))))
def qB1 (S k _ j : Nat) : Bool := !((k == 13 && (Nat.ble 12 j && Nat.ble j 19)) || (k == 61 && (Nat.ble (1470 + 9 * S + 1) j && Nat.ble j (1470 + 9 * S + 7))))
theorem qA1_t : ∀ k i j, qA1 Q k i j = true → qXt k i j = true := by
  intro k i j h
  unfold qA1 at h
  unfold qXt
  cases e : (k == 7 && (Nat.ble 2 j && Nat.ble j 7)) with
  | false => rfl
  | true => rw [e] at h; cases h
theorem qB1_t : ∀ k i j, qB1 S k i j = true → qMt k i j = true := by
  intro k i j h
  unfold qB1 at h
  unfold qMt
  cases e : (k == 13 && (Nat.ble 12 j && Nat.ble j 19)) with
  | false => rfl
  | true => rw [e] at h; cases h
theorem qA1_w {k : Nat} (h : 44 ≤ k ∧ k ≤ 47) : qA1 Q k 4 Q = false := by
  unfold qA1
  simp [Nat.ble_eq_true_of_le h.1, Nat.ble_eq_true_of_le h.2]
theorem qB1_w {j : Nat} (h : 1470 + 9 * S + 1 ≤ j ∧ j ≤ 1470 + 9 * S + 7) : qB1 S 61 0 j = false := by
  unfold qB1
  simp [Nat.ble_eq_true_of_le h.1, Nat.ble_eq_true_of_le h.2]
def FA (Q : Nat) (μ μ' : sM) : Prop := kq (qA1 Q) μ μ' ∧ ∀ k i j, rR μ' k i j = rR μ k i j
theorem FA_t {μ1 μ2 : sM} (h : FA Q μ μ1) (h' : FA Q μ1 μ2) : FA Q μ μ2 := ⟨kq_t h.1 h'.1, fun k i j => (h'.2 k i j).trans (h.2 k i j)⟩
theorem FA_x {μ1 : sM} (h : FX μ μ1) : FA Q μ μ1 := ⟨kq_m h.1 qA1_t, h.2⟩
theorem FA_w {μ1 : sM} {k : Nat} {v : Int32} (h : FA Q μ μ1) (hk : 44 ≤ k ∧ k ≤ 47) : FA Q μ (wI μ1 k 4 Q v) := ⟨kq_wI (qA1_w hk) h.1, h.2⟩
theorem FB_x {ν1 : sM} (h : kq qMt ν ν1) : kq (qB1 S) ν ν1 := kq_m h qB1_t
theorem FB_w {ν1 : sM} {j : Nat} {v : Int32} (h : kq (qB1 S) ν ν1) (hj : 1470 + 9 * S + 1 ≤ j ∧ j ≤ 1470 + 9 * S + 7) : kq (qB1 S) ν (wI ν1 61 0 j v) := kq_wI (qB1_w hj) h
theorem FS_61 {j : Nat} {v : Int32} (h : FS μ ν) : FS μ (wI ν 61 0 j v) := by
  obtain ⟨f, s', w1, w2, w3, w4, w5, w6⟩ := h
  exact ⟨f, s', w1, w2, w3, w4, by rw [rI_k (by decide)]; exact w5, by rw [rI_k (by decide)]; exact w6⟩
theorem b12 {f j : Nat} {v : Int32} (h : rI ν 13 0 12 = nI f) : rI (wI ν 61 0 j v) 13 0 12 = nI f := by rw [rI_k (by decide)]; exact h
theorem CS_61 {j : Nat} {v : Int32} (h : CS μ ν b n i m K V s) : CS μ (wI ν 61 0 j v) b n i m K V s := CS_c h kq_r (kq_wI rfl kq_r)
/-- what the rest of a STEP gives -/
def RR (μ ν : sM) (b : Nat → Int32) (n i S Q : Nat) (X : Option (Int32 × sM)) (M : Option sM) : Prop :=
  (∃ μ' ν', X = some (0, μ') ∧ M = some ν' ∧ FS μ' ν' ∧ FA Q μ μ' ∧ kq (qB1 S) ν ν') ∨ (∃ μ' ν' i' m' K' V' s', i ≤ i' ∧ X = some (1, μ') ∧ M = some ν' ∧ CS μ' ν' b n i' m' K' V' s' ∧ RowR μ' 4 (vv ν') 0 S Q ∧ FA Q μ μ' ∧ kq (qB1 S) ν ν')
theorem ix_w {S x : Nat} (hS : S < 30) (hx : x < 9) : inb (nI (1470 + 9 * S + x)) 1740 = true ∧ ix (nI (1470 + 9 * S + x)) = 1470 + 9 * S + x := ⟨inb_nI (by omega) (by omega), ix_nI (by omega)⟩
/-! comparison and NUMBER of a TEST -/
abbrev cmpM (w v2 x3 : Int32) (ρ : sM) : Option sM := if (rI ρ 13 0 14) = 3 then X12_readTest_J79 w v2 (rI ρ 13 0 17) (w + 7) (wI ρ 61 0 (ix (w + 1)) x3) else X12_readTest_J79 w v2 0 (w + 7) (wI ρ 61 0 (ix (w + 1)) x3)
theorem b_113 {f : Nat} {w v2 x : Int32} {hi : Nat} (h : rI ν 13 0 12 = nI f) (f1 : 1 ≤ f) (f7 : f ≤ 7) (hw : inb (w + 2) 1740 = true) : X12_readTest_J113 w v2 x ν = some (wI ν 61 0 (ix (w + 2)) 0) := by
  unfold X12_readTest_J113 X12_readTest_J138
  rw [b_must h f1 f7, bV_s]
  by_cases c : v2 = 0
  · rw [if_pos c, b_count h f1 f7, bI_s, if_pos hw]
  · rw [if_neg c, b_count h f1 f7, bI_s, if_pos hw]
theorem b_79 {f : Nat} {w v2 x y : Int32} (h : rI ν 13 0 12 = nI f) (f1 : 1 ≤ f) (f7 : f ≤ 7) (hy : inb y 1740 = true) (hw : inb (w + 2) 1740 = true) : X12_readTest_J79 w v2 x y ν = some (wI (wI ν 61 0 (ix y) x) 61 0 (ix (w + 2)) 0) := by
  unfold X12_readTest_J79 X12_readTest_J108
  rw [if_pos hy]
  obtain ⟨x1, e1⟩ := so_Sign 60 (wI ν 61 0 (ix y) x)
  obtain ⟨x2, e2⟩ := so_Sign 62 (wI ν 61 0 (ix y) x)
  obtain ⟨x3, e3⟩ := so_Sign 61 (wI ν 61 0 (ix y) x)
  rw [e1, bI_s, e2, bI_s, e3, bI_s, b_113 (hi := 0) (b12 h) f1 f7 hw, b_113 (hi := 0) (b12 h) f1 f7 hw]
  by_cases c1 : x1 = 0
  · rw [if_pos c1]
    by_cases c2 : x2 = 0
    · rw [if_pos c2]
      by_cases c3 : x3 = 0
      · rw [if_pos c3]
      · rw [if_neg c3]
    · rw [if_neg c2]
  · rw [if_neg c1]
theorem cmp9 (h : CS μ ν b n i m K V s) (r1 : rR μ 10 0 1 = 1) (h3 : rI μ 10 0 3 = nI Q) (hq : Q < 60) (hS : S < 30) {t j hi : Nat} (ht : (t = 0 ∧ hi = 999) ∨ (t = 1 ∧ hi = 9999)) :
    (∃ μ' ν', (X9_takeComparison μ = some (0, μ') ∨ ∃ μ1, X9_takeComparison μ = some (1, μ1) ∧ X9_takeNumber (nI 0) (nI hi) μ1 = some (0, μ')) ∧ cmpM (nI (1470 + 9 * S)) (nI t) (nI j) ν = some ν' ∧ FS μ' ν' ∧ FA Q μ μ' ∧ kq (qB1 S) ν ν') ∨
    (∃ sg v μ1 μ' ν' m' K' V' s', (sg = 60 ∨ sg = 61 ∨ sg = 62) ∧ X9_takeComparison μ = some (1, μ1) ∧ X9_takeNumber (nI 0) (nI hi) μ1 = some (1, μ') ∧ cmpM (nI (1470 + 9 * S)) (nI t) (nI j) ν = some ν' ∧ CS μ' ν' b n (i + 2) m' K' V' s' ∧ rI μ' 47 4 Q = sg ∧ rI ν' 61 0 (1470 + 9 * S + 7) = sg ∧ rI μ' 45 4 Q = nI v ∧ rI ν' 61 0 (1470 + 9 * S + 2) = nI v ∧ rI ν' 61 0 (1470 + 9 * S + 1) = nI j ∧ rI μ' 44 4 Q = rI μ 44 4 Q ∧ rI μ' 46 4 Q = rI μ 46 4 Q ∧ rI ν' 61 0 (1470 + 9 * S + 6) = rI ν 61 0 (1470 + 9 * S + 6) ∧ FA Q μ μ' ∧ kq (qB1 S) ν ν') := by
  have h5 := h.2.2.1.1
  have h6 := h.2.2.1.2.1
  have h8 := h.2.2.2.1
  have hT := h.2.2.2.2.1
  have w1 := ix_w hS (x := 1) (by omega)
  have w2 := ix_w hS (x := 2) (by omega)
  have w7 := ix_w hS (x := 7) (by omega)
  -- the reference, whatever sign is kept
  obtain ⟨sg, hsg, eM⟩ : ∃ sg : Int32, (K = 30 → sg = rI ν 13 0 17) ∧ cmpM (nI (1470 + 9 * S)) (nI t) (nI j) ν = X12_readTest_J79 (nI (1470 + 9 * S)) (nI t) sg (nI (1470 + 9 * S + 7)) (wI ν 61 0 (1470 + 9 * S + 1) (nI j)) := by
    by_cases c : rI ν 13 0 14 = 3
    · refine ⟨rI ν 13 0 17, fun _ => rfl, ?_⟩
      show (if (rI ν 13 0 14) = 3 then _ else _) = _
      rw [if_pos c, n1, n7, w1.2]
    · refine ⟨0, fun z => ?_, ?_⟩
      · exfalso
        apply c
        rcases hT with ⟨k, -⟩ | ⟨k, -⟩ | ⟨-, k, -⟩ | ⟨k, -⟩ | ⟨k, -⟩
        · omega
        · omega
        · exact k
        · omega
        · omega
      · show (if (rI ν 13 0 14) = 3 then _ else _) = _
        rw [if_neg c, n1, n7, w1.2]
  have C0 : CS μ (wI (wI ν 61 0 (1470 + 9 * S + 1) (nI j)) 61 0 (1470 + 9 * S + 7) sg) b n i m K V s := CS_61 (CS_61 h)
  have T0 := C0.2.2.2.2.1
  have k0 : kq (qB1 S) ν (wI (wI ν 61 0 (1470 + 9 * S + 1) (nI j)) 61 0 (1470 + 9 * S + 7) sg) := FB_w (FB_w kq_r (by omega)) (by omega)
  have eS : ∀ x : Nat, x = 60 ∨ x = 61 ∨ x = 62 → X12_isSign (nI x) (wI (wI ν 61 0 (1470 + 9 * S + 1) (nI j)) 61 0 (1470 + 9 * S + 7) sg) = some (if K = 30 ∧ V = lN x then 1 else 0, wI (wI ν 61 0 (1470 + 9 * S + 1) (nI j)) 61 0 (1470 + 9 * S + 7) sg) := fun x hx => is_Sign T0 (by omega)
  have eJ : cmpM (nI (1470 + 9 * S)) (nI t) (nI j) ν = if K = 30 ∧ (V = lN 60 ∨ V = lN 61 ∨ V = lN 62) then X12_readTest_J113 (nI (1470 + 9 * S)) (nI t) 1 (wI (wI ν 61 0 (1470 + 9 * S + 1) (nI j)) 61 0 (1470 + 9 * S + 7) sg) else X12_readTest_J113 (nI (1470 + 9 * S)) (nI t) 0 (wI (wI ν 61 0 (1470 + 9 * S + 1) (nI j)) 61 0 (1470 + 9 * S + 7) sg) := by
    rw [eM]
    unfold X12_readTest_J79 X12_readTest_J108
    rw [if_pos w7.1, w7.2, show (60 : Int32) = nI 60 from rfl, show (61 : Int32) = nI 61 from rfl, show (62 : Int32) = nI 62 from rfl, eS 60 (by omega), bI_s]
    by_cases c1 : K = 30 ∧ V = lN 60
    · rw [if_pos c1, if_neg n10, if_pos ⟨c1.1, Or.inl c1.2⟩]
    · rw [if_neg c1, if_pos rfl, eS 62 (by omega), bI_s]
      by_cases c2 : K = 30 ∧ V = lN 62
      · rw [if_pos c2, if_neg n10, if_pos ⟨c2.1, Or.inr (Or.inr c2.2)⟩]
      · rw [if_neg c2, if_pos rfl, eS 61 (by omega), bI_s]
        by_cases c3 : K = 30 ∧ V = lN 61
        · rw [if_pos c3, if_neg n10, if_pos ⟨c3.1, Or.inr (Or.inl c3.2)⟩]
        · rw [if_neg c3, if_pos rfl, if_neg]
          intro z
          rcases z.2 with y | y | y
          · exact c1 ⟨z.1, y⟩
          · exact c3 ⟨z.1, y⟩
          · exact c2 ⟨z.1, y⟩
  unfold X9_takeComparison X9_takeComparison_J26
  rw [r1, if_pos rfl, if_pos rfl, if_pos rfl, if_pos rfl, h5, h6, h3, if_pos (inb_nI hq (by omega)), ix_nI (show Q < 2 ^ 31 by omega), eJ]
  by_cases c30 : K = 30 ∧ (V = lN 60 ∨ V = lN 61 ∨ V = lN 62)
  · have v59 : ¬ lg_cmp V 59 = 0 := by
      intro z
      have y : V = lN 59 := (lgE V 59).mp z
      rcases c30.2 with q | q | q <;> exact absurd (y.symm.trans q) (by decide +kernel)
    have s32 : ∃ x : Nat, (x = 60 ∨ x = 61 ∨ x = 62) ∧ V = lN x ∧ rI ν 13 0 17 = nI x := by
      have z17 : V = (rI ν 13 0 17).toInt64 := by
        rcases hT with ⟨k, -⟩ | ⟨k, -⟩ | ⟨-, -, k, -⟩ | ⟨k, -⟩ | ⟨k, -⟩
        · omega
        · omega
        · exact k
        · omega
        · omega
      have cv : ∀ x : Nat, x < 100 → V = lN x → rI ν 13 0 17 = nI x := fun x hx e => by
        apply Int32.toInt_inj.mp
        have w := congrArg Int64.toInt (z17.symm.trans e)
        rw [tX, lN_toInt (by omega)] at w
        rw [w, nI_toInt (by omega)]
      rcases c30.2 with q | q | q
      · exact ⟨60, Or.inl rfl, q, cv 60 (by omega) q⟩
      · exact ⟨61, Or.inr (Or.inl rfl), q, cv 61 (by omega) q⟩
      · exact ⟨62, Or.inr (Or.inr rfl), q, cv 62 (by omega) q⟩
    obtain ⟨x, hx, hVx, h17⟩ := s32
    have sgx : sg = nI x := (hsg c30.1).trans h17
    rw [if_pos (show nI K = 30 by rw [c30.1]; rfl), if_neg v59, if_pos c30]
    have C1 : CS (wI μ 47 4 Q (nI x)) (wI (wI ν 61 0 (1470 + 9 * S + 1) (nI j)) 61 0 (1470 + 9 * S + 7) sg) b n i m K V s := CS_c C0 (kq_wI rfl kq_r) kq_r
    obtain ⟨μ1, ν1, m1, K1, V1, s1, a1, a2, C2, g1, g2, -⟩ := adv2 C1 (by omega)
    have r1' : rR μ1 10 0 1 = 1 := (g1.2 10 0 1).trans r1
    have h3' : rI μ1 10 0 3 = nI Q := by rw [(g1.1 10 0 3 rfl).1, rI_k (by decide)]; exact h3
    have mu : X12_readTest_J113 (nI (1470 + 9 * S)) (nI t) 1 (wI (wI ν 61 0 (1470 + 9 * S + 1) (nI j)) 61 0 (1470 + 9 * S + 7) sg) = bI (X12_count (nI 0) (nI hi) ν1) fun x1 μ2 => some (wI μ2 61 0 (1470 + 9 * S + 2) x1) := by
      unfold X12_readTest_J113 X12_readTest_J138
      rw [must1 C0, if_neg n10, a2, bV_s, bV_s, n2, w2.1, w2.2]
      rcases ht with ⟨rfl, rfl⟩ | ⟨rfl, rfl⟩
      · rw [if_pos (show nI 0 = 0 from rfl)]
        rfl
      · rw [if_neg (show ¬ nI 1 = 0 by decide +kernel)]
        rfl
    have eT : V.toInt32 = nI x := by rw [hVx, lN_i]
    rw [mu, eT, a1, bV_s]
    have F1 : FA Q μ μ1 := FA_t (FA_w ⟨kq_r, fun _ _ _ => rfl⟩ (by omega)) (FA_x g1)
    have G1 : kq (qB1 S) ν ν1 := kq_t k0 (FB_x g2)
    have e61 : ∀ j', rI ν1 61 0 j' = rI (wI (wI ν 61 0 (1470 + 9 * S + 1) (nI j)) 61 0 (1470 + 9 * S + 7) sg) 61 0 j' := fun j' => (g2 61 0 j' rfl).1
    rcases num9 C2 (lo := 0) (hi := hi) (by omega) (by omega) r1' h3' hq with ⟨μ', ν', b1, b2, r, f3, g3⟩ | ⟨v, μ3, ν3, m3, K3, V3, s3, -, -, b1, b2, C3, f3, g3⟩
    · refine Or.inl ⟨μ', wI ν' 61 0 (1470 + 9 * S + 2) 0, Or.inr ⟨μ1, rfl, b1⟩, by rw [b2, bI_s], FS_61 r, FA_t F1 (FA_x f3), FB_w (kq_t G1 (FB_x g3)) (by omega)⟩
    · refine Or.inr ⟨nI x, v, μ1, _, wI ν3 61 0 (1470 + 9 * S + 2) (nI v), m3, K3, V3, s3, ?_, rfl, b1, by rw [b2, bI_s], CS_61 C3, ?_, ?_, rI_s, rI_s, ?_, ?_, ?_, ?_, FA_w (FA_t F1 (FA_x f3)) (by omega), FB_w (kq_t G1 (FB_x g3)) (by omega)⟩
      · rcases hx with rfl | rfl | rfl
        · exact Or.inl rfl
        · exact Or.inr (Or.inl rfl)
        · exact Or.inr (Or.inr rfl)
      · rw [rI_k (by decide), (f3.1 47 4 Q rfl).1, (g1.1 47 4 Q rfl).1, rI_s]
      · rw [rI_j (by omega), (g3 61 0 _ rfl).1, e61, rI_s, sgx]
      · rw [rI_j (by omega), (g3 61 0 _ rfl).1, e61, rI_j (by omega), rI_s]
      · rw [rI_k (by decide), (f3.1 44 4 Q rfl).1, (g1.1 44 4 Q rfl).1, rI_k (by decide)]
      · rw [rI_k (by decide), (f3.1 46 4 Q rfl).1, (g1.1 46 4 Q rfl).1, rI_k (by decide)]
      · rw [rI_j (by omega), (g3 61 0 _ rfl).1, e61, rI_j (by omega), rI_j (by omega)]
  · obtain ⟨μ', ν', t1, t2, r, f1, g1⟩ := amiss2 C0
    obtain ⟨f, f1', f7', q⟩ := FS_b r
    refine Or.inl ⟨μ', wI ν' 61 0 (1470 + 9 * S + 2) 0, Or.inl ?_, ?_, FS_61 r, FA_x f1, FB_w (kq_t k0 (FB_x g1)) (by omega)⟩
    · by_cases d30 : K = 30
      · have v59 : lg_cmp V 59 = 0 := by
          apply (lgE V 59).mpr
          rcases hT with ⟨k, -⟩ | ⟨k, -⟩ | ⟨-, -, k, k'⟩ | ⟨k, -⟩ | ⟨k, -⟩
          · omega
          · omega
          · rcases k' with z | z | z | z
            · rw [k, z]; rfl
            · exact absurd ⟨d30, Or.inl (by rw [k, z]; rfl)⟩ c30
            · exact absurd ⟨d30, Or.inr (Or.inr (by rw [k, z]; rfl))⟩ c30
            · exact absurd ⟨d30, Or.inr (Or.inl (by rw [k, z]; rfl))⟩ c30
          · omega
          · omega
        rw [if_pos (show nI K = 30 by rw [d30]; rfl), if_pos v59, t1, bI_s]
        rfl
      · rw [if_neg (show ¬ nI K = 30 from fun z => d30 ((nI_eq (b := 30) (by omega) (by omega)).mp z)), t1, bI_s]
        rfl
    · rw [if_neg c30]
      unfold X12_readTest_J113 X12_readTest_J138
      rw [must1 C0, if_pos rfl, t2, bV_s, bV_s, n2, w2.1, w2.2]
      by_cases c : nI t = 0
      · rw [if_pos c, b_count q f1' f7', bI_s, if_pos rfl]
      · rw [if_neg c, b_count q f1' f7', bI_s, if_pos rfl]
end C98t
