/-! 98q: MILLS, WINDERS, a PART, all PARTS -/
section C98q
variable {μ ν : sM} {b : Nat → Int32} {n i m K s : Nat} {V : Int64}
theorem told_ok {bk so j : Nat} {ν' : sM} (h : CS μ ν b n i m K V s) (hK : K = 27) (hn : X12_named (nI bk) (nI so) ν = some (nI j, ν)) (hj : j < 6) (ha : X12_advance ν = some ν') : X12_readTold (nI bk) (nI so) ν = some (nI j, ν') := by
  have h11 := h.2.2.2.2.2.2.1
  unfold X12_readTold X12_readTold_J18 X12_readTold_J47
  rw [h11, if_pos rfl, is_Name h.2.2.2.2.1, bI_s, if_pos hK, if_neg n10, h11, if_pos (Int32.le_refl 0), hn, bI_s, if_pos (nI_pos' (by omega)), must1 h, if_neg n10, ha, bV_s, bV_s]
  show some (imx 0 (nI j), ν') = _
  rw [show imx 0 (nI j) = nI j from ?_]
  show (if (0 : Int32) < nI j then nI j else 0) = nI j
  by_cases c : j = 0
  · subst c
    decide +kernel
  · rw [if_pos (show (0 : Int32) < nI j from nI_lt (a := 0) (by omega) (by omega))]
theorem told_no {bk so f : Nat} {ν' : sM} (h : CS μ ν b n i m K V s) (hK : K = 27) (hn : X12_named (nI bk) (nI so) ν = some (-1, ν)) (hf : X12_fail (nI 3) (rI ν 13 0 15) ν = some ν') (hb : rI ν' 13 0 12 = nI f) (f1 : 1 ≤ f) (f7 : f ≤ 7) : X12_readTold (nI bk) (nI so) ν = some (0, ν') := by
  have h11 := h.2.2.2.2.2.2.1
  unfold X12_readTold X12_readTold_J18 X12_readTold_J47
  rw [h11, if_pos rfl, is_Name h.2.2.2.2.1, bI_s, if_pos hK, if_neg n10, h11, if_pos (Int32.le_refl 0), hn, bI_s, if_neg (by decide +kernel), show (3 : Int32) = nI 3 from rfl, hf, bV_s, b_must hb f1 f7, bV_s]
  rfl
theorem told_am {bk so f : Nat} {ν' : sM} (h : CS μ ν b n i m K V s) (hK : K ≠ 27) (hf : X12_amiss ν = some ν') (hb : rI ν' 13 0 12 = nI f) (f1 : 1 ≤ f) (f7 : f ≤ 7) : X12_readTold (nI bk) (nI so) ν = some (0, ν') := by
  have h11 := h.2.2.2.2.2.2.1
  unfold X12_readTold X12_readTold_J18
  rw [h11, if_pos rfl, is_Name h.2.2.2.2.1, bI_s, if_neg hK, if_pos rfl, hf, bV_s, hb, if_neg (fs_pos f1 f7).1]
theorem tr_nm (h : TR K V ν) (hK : K = 27) : nmR V (rL ν 13 0 19) := by
  rcases h with ⟨-, -, -, z⟩ | ⟨z, -⟩ | ⟨z, -⟩ | ⟨z, -⟩ | ⟨z, -⟩
  · rcases z with ⟨z, -⟩ | ⟨-, -, z⟩
    · omega
    · exact z
  · omega
  · omega
  · omega
  · omega
/-! MILLS -/
abbrev mT4 (x1 x7 x11 : Int32) (μ12 : sM) : Option sM := if (rI μ12 13 0 12) ≤ 0 then if inb (1426 + x1) 1740 = true then if inb (1432 + x1) 1740 = true then some (wI (wI (wI μ12 61 0 (ix (1426 + x1)) x7) 61 0 (ix (1432 + x1)) x11) 61 0 1393 ((rI (wI (wI μ12 61 0 (ix (1426 + x1)) x7) 61 0 (ix (1432 + x1)) x11) 61 0 1393) + 1)) else none else none else some μ12
abbrev mT3 (x1 x7 : Int32) (ρ : sM) : Option sM := bI (X12_isNeeds ρ) fun x9 μ10 => bI (X12_behindWord x9 1 99 μ10) fun x11 μ12 => mT4 x1 x7 x11 μ12
abbrev mT2 (x1 : Int32) (ρ : sM) : Option sM := bI (X12_readTold 4 0 ρ) fun x7 μ8 => mT3 x1 x7 μ8
abbrev mT1 (x1 : Int32) (ρ : sM) : Option sM := bI (X12_isAt ρ) fun x3 μ4 => bV (X12_must x3 μ4) fun μ6 => mT2 x1 μ6
theorem b_mT4 {f : Nat} (h : rI ν 13 0 12 = nI f) (f1 : 1 ≤ f) (f7 : f ≤ 7) (x y z : Int32) : mT4 x y z ν = some ν := by
  show (if (rI ν 13 0 12) ≤ 0 then _ else _) = _
  rw [h, if_neg (fs_pos f1 f7).1]
theorem b_mT3 {f : Nat} (h : rI ν 13 0 12 = nI f) (f1 : 1 ≤ f) (f7 : f ≤ 7) (x y : Int32) : mT3 x y ν = some ν := by
  obtain ⟨w, e⟩ := so_Needs ν
  show bI (X12_isNeeds ν) _ = _
  rw [e, bI_s, b_behind h f1 f7, bI_s, b_mT4 h f1 f7]
theorem b_mT2 {f : Nat} (h : rI ν 13 0 12 = nI f) (f1 : 1 ≤ f) (f7 : f ≤ 7) (x : Int32) : mT2 x ν = some ν := by
  show bI (X12_readTold 4 0 ν) _ = _
  rw [b_told h f1 f7, bI_s, b_mT3 h f1 f7]
theorem b_mT1 {f : Nat} (h : rI ν 13 0 12 = nI f) (f1 : 1 ≤ f) (f7 : f ≤ 7) (x : Int32) : mT1 x ν = some ν := by
  obtain ⟨w, e⟩ := so_At ν
  show bI (X12_isAt ν) _ = _
  rw [e, bI_s, b_must h f1 f7, bV_s, b_mT2 h f1 f7]
theorem rdMill (h : CS μ ν b n i m K V s) (hR : RV μ ν) (hK : K < 31) : PRr μ ν b n i (X5_readMill μ) (bV (X12_readMill ν) endM) := by
  have r0 := hR.2.1.2.1
  have r1 := hR.2.1.2.2
  obtain ⟨c0, c1, c2, l0, l1, l2, -, x0, -, y00, y0, -⟩ := RV_n hR
  have eM : X12_readMill ν = bI (X12_readNew (nI 1) ν) (fun x1 ρ => mT1 x1 ρ) := rfl
  have fail : ∀ {μ' ν' : sM}, X5_readMill μ = some (0, μ') → X12_readMill ν = some ν' → FS μ' ν' → FXr μ μ' → kq qMr ν ν' → PRr μ ν b n i (X5_readMill μ) (bV (X12_readMill ν) endM) := by
    intro μ' ν' e1 e2 r f1 g1
    obtain ⟨f, f1', f7', q⟩ := FS_b r
    exact Or.inr ⟨μ', ν', e1, by rw [e2, bV_s, b_end q f1' f7'], r, f1, g1⟩
  rcases newN h hR hK (so := 1) (k := c1) (by omega) y0 l1 with ⟨k6, μ', ν', e1, e2, r, f1, g1⟩ | ⟨k6, μ4, e0, hn⟩
  · obtain ⟨f, f1', f7', q⟩ := FS_b r
    refine fail ?_ (by rw [eM, e2, bI_s, b_mT1 q f1' f7']) r f1 g1
    unfold X5_readMill
    rw [r1, if_pos rfl, x0, k6, if_neg (by decide +kernel), r0, if_pos rfl, e1, bI_s]
    rfl
  · have eX : X5_readMill μ = bI (X5_takeNewName μ4) fun x5 μ6 => if x5 = 0 then some (0, μ6) else if (rR μ6 6 0 0) = 1 then bI (X6_takeWord 9 μ6) fun x8 μ9 => if x8 = 0 then some (0, μ9) else if (rR μ9 6 0 0) = 1 then if (rI μ9 7 0 4) = 27 then if (rR μ9 6 0 0) = 1 then if (rR μ9 6 0 1) = 5 then if (rR μ9 6 0 1) = 5 then bI (X4_placeOf_28 (rL μ9 7 0 5) 4 (rI μ9 4 4 0) μ9) fun x14 μ15 => if x14 = (-1) then if (rR μ15 6 0 0) = 1 then bI (X6_fail 3 μ15) ckI else none else if (rR μ15 6 0 0) = 1 then bV (X6_advance μ15) fun μ18 => if (rR μ18 6 0 0) = 1 then bI (X6_takeWord 10 μ18) fun x20 μ21 => if x20 = 0 then some (0, μ21) else if (rR μ21 6 0 0) = 1 then bI (X6_takeNumber 1 99 μ21) fun x23 μ24 => if x23 = 0 then some (0, μ24) else if (rR μ24 6 0 1) = 5 then if (rR μ24 6 0 0) = 1 then bV (X2_add 4 (rL μ24 6 0 2) x14 (rI μ24 7 0 6) μ24) fun μ28 => if (rR μ28 6 0 0) = 1 then bI (X6_takeEnd μ28) ckI else none else none else none else none else none else none else none else none else none else if (rR μ9 6 0 0) = 1 then bI (X6_failToStand μ9) ckI else none else none else none := by
      unfold X5_readMill
      rw [r1, if_pos rfl, x0, if_pos (show nI c1 < 6 from nI_lt (b := 6) k6 (by omega)), r0, if_pos rfl, e0, bV_s]
    rcases hn with ⟨μ', ν', e1, e2, r, f1, g1⟩ | ⟨μ6, ν6, m6, K6, V6, s6, e1, e2, C6, R6, nm6, f6, g6, k61⟩
    · obtain ⟨f, f1', f7', q⟩ := FS_b r
      exact fail (by rw [eX, e1, bI_s, if_pos rfl]) (by rw [eM, e2, bI_s, b_mT1 q f1' f7']) r f1 g1
    · rw [e1, bI_s, if_neg n10, R6.2.1.2.1, if_pos rfl] at eX
      have eM1 : X12_readMill ν = bV (X12_must (if K6 = 9 then 1 else 0) ν6) fun μ6 => mT2 (nI c1) μ6 := by
        rw [eM, e2, bI_s]
        show bI (X12_isAt ν6) _ = _
        rw [is_At C6.2.2.2.2.1, bI_s]
      rcases takeW C6 (k := 9) (by omega) with ⟨-, μ9, ν9, m9, K9, V9, s9, a1, a2, C9, f9, g9⟩ | ⟨μ', ν', a1, a2, r, f9, g9⟩
      · have R9 := RV_t R6 f9 g9
        rw [show (9 : Int32) = nI 9 from rfl, a1, bI_s, if_neg n10, R9.2.1.2.1, R9.2.1.2.2, if_pos rfl, C9.2.2.1.1] at eX
        rw [a2, bV_s] at eM1
        have F9 : FXr μ μ9 := FXr_t f6 (FX_x f9)
        have G9 : kq qMr ν ν9 := kq_t g6 (FM_x g9)
        by_cases c27 : K9 = 27
        · have y9 : rI ν9 61 0 1392 = nI c0 := by rw [(g9 61 0 _ rfl).1, k61]; exact y00
          have y91 : rI ν9 61 0 1393 = nI c1 := by rw [(g9 61 0 _ rfl).1, k61]; exact y0
          have x9 : rI μ9 4 4 0 = nI c0 := R9.1.1.1.1.trans y9
          obtain ⟨d0, d1, d2, n0, n1', n2', -, -, -, z0, z1, z2⟩ := RV_n R9
          have ed : d0 = c0 := (nI_eq (by omega) (by omega)).mp (z0.symm.trans y9)
          subst ed
          obtain ⟨w0, -, -⟩ := RelN4 R9.1.2.2.1 z0 z1 z2 n0 n1' n2'
          obtain ⟨x, p1, p2, p3⟩ := place28 (μ := μ9) (ν := ν9) (r := 4) (bk := 4) (so := 0) n0 (by omega) (by omega) w0 z0 (tr_nm C9.2.2.2.2.1 c27)
          rw [if_pos (show nI K9 = 27 by rw [c27]; rfl), if_pos rfl, if_pos rfl, if_pos rfl, C9.2.2.1.2.1, x9, p1, bI_s, R9.2.1.2.1, if_pos rfl, if_pos rfl] at eX
          rcases m1_e p3 n0 with ⟨q1, -, -⟩ | ⟨j, q1, q2, q3, -, -⟩
          · obtain ⟨μ', ν', t1, t2, r, f1, g1⟩ := fail2 C9 (f := 3) (by omega) (by omega)
            obtain ⟨f, f1', f7', q⟩ := FS_b r
            have to := told_no (bk := 4) (so := 0) C9 c27 (by rw [p2, q1]) t2 q f1' f7'
            refine fail ?_ ?_ r (FXr_t F9 (FX_x f1)) (kq_t G9 (FM_x g1))
            · rw [eX, if_pos q1, show (3 : Int32) = nI 3 from rfl, t1, bI_s]
              rfl
            · rw [eM1]
              show bI (X12_readTold (nI 4) (nI 0) ν9) _ = _
              rw [to, bI_s, b_mT3 q f1' f7']
          · obtain ⟨μ18, ν18, m18, K18, V18, s18, t1, t2, C18, f18, g18, -⟩ := adv2 C9 (by omega)
            have R18 := RV_t R9 f18 g18
            have to := told_ok (bk := 4) (so := 0) C9 c27 (by rw [p2, q2]) (by omega) t2
            rw [if_neg q3, t1, bV_s, R18.2.1.2.1, if_pos rfl, q2] at eX
            have eM2 : X12_readMill ν = bI (X12_behindWord (if K18 = 10 then 1 else 0) (nI 1) (nI 99) ν18) fun x11 μ12 => mT4 (nI c1) (nI j) x11 μ12 := by
              rw [eM1]
              show bI (X12_readTold (nI 4) (nI 0) ν9) _ = _
              rw [to, bI_s]
              show bI (X12_isNeeds ν18) _ = _
              rw [is_Needs C18.2.2.2.2.1, bI_s]
              rfl
            have F18 : FXr μ μ18 := FXr_t F9 (FX_x f18)
            have G18 : kq qMr ν ν18 := kq_t G9 (FM_x g18)
            rcases behW C18 (k := 10) (lo := 1) (hi := 99) (by omega) (by omega) (by omega) with ⟨μ', ν', eA, eB, r, f1, g1⟩ | ⟨G, μ21, μ24, ν24, m24, K24, V24, s24, G1, G9', b1, f21, b2, b3, b4, C24, f24, g24⟩
            · obtain ⟨f, f1', f7', q⟩ := FS_b r
              refine fail ?_ (by rw [eM2, eB, bI_s, b_mT4 q f1' f7']) r (FXr_t F18 (FX_x f1)) (kq_t G18 (FM_x g1))
              rcases eA with eA | ⟨μ21, eA, f21, eA2⟩
              · rw [eX, show (10 : Int32) = nI 10 from rfl, eA, bI_s, if_pos rfl]
              · rw [eX, show (10 : Int32) = nI 10 from rfl, eA, bI_s, if_neg n10, f21.2, R18.2.1.2.1, if_pos rfl, show X6_takeNumber 1 99 μ21 = some (0, μ') from eA2, bI_s, if_pos rfl]
            · have R24 := RV_t R18 f24 g24
              rw [show (10 : Int32) = nI 10 from rfl, b1, bI_s, if_neg n10, f21.2, R18.2.1.2.1, if_pos rfl, show X6_takeNumber 1 99 μ21 = some (1, μ24) from b2, bI_s, if_neg n10, R24.2.1.2.1, R24.2.1.2.2, if_pos rfl, if_pos rfl, b4] at eX
              rw [b3, bI_s] at eM2
              have FF : FX μ6 μ24 := FX_t f9 (FX_t f18 f24)
              have GG : kq qMt ν6 ν24 := kq_t g9 (kq_t g18 g24)
              have yA : rI ν24 61 0 1393 = nI c1 := by rw [(GG 61 0 _ rfl).1, k61]; exact y0
              have yB : rI ν24 61 0 1392 = nI d0 := by rw [(GG 61 0 _ rfl).1, k61]; exact y00
              have xA : rI μ24 3 4 0 = nI c1 := R24.1.1.1.2.1.trans yA
              have hnm : nmR (rL μ24 6 0 2) (rL ν24 64 0 (78 + c1)) := by
                rw [(FF.1 6 0 2 rfl).2, (GG 64 0 _ rfl).2]
                exact nm6
              obtain ⟨ea, Ra⟩ := addM R24 xA yA k6 d0 yB q1 n0 G1 G9' hnm
              have Ca : CS (adMx μ24 c1 j G) (adMm ν24 c1 j G) b n (i + 2 + 1 + 1 + 2) m24 K24 V24 s24 := CS_c C24 (kq_wI rfl (kq_wI rfl (kq_wI rfl (kq_wI rfl (kq_wL rfl kq_r))))) (kq_wI rfl (kq_wI rfl (kq_wI rfl kq_r)))
              have q4 : ∀ kk j, rk kk = true → qXr kk 4 j = false := fun kk j hk => qXr_R (nR_s hk)
              have q61 : ∀ j, 1392 ≤ j → qMr 61 0 j = false := fun j hj => by unfold qMr; simp [Nat.ble_eq_true_of_le hj]
              have fx : FXr μ (adMx μ24 c1 j G) := FXr_t (FXr_t f6 (FX_x FF)) ⟨kq_wI (q4 _ _ rfl) (kq_wI (q4 _ _ rfl) (kq_wI (q4 _ _ rfl) (kq_wI (q4 _ _ rfl) (kq_wL (q4 _ _ rfl) kq_r)))), fun _ _ _ => rfl⟩
              have fm : kq qMr ν (adMm ν24 c1 j G) := kq_t (kq_t g6 (FM_x GG)) (kq_wI (q61 _ (by omega)) (kq_wI (q61 _ (by omega)) (kq_wI (q61 _ (by omega)) kq_r)))
              have z := endR (μ := μ) (ν := ν) (i := i) Ca Ra (by omega) fx fm
              have e1' : X5_readMill μ = bI (X6_takeEnd (adMx μ24 c1 j G)) ckI := by
                rw [eX, ea, bV_s, Ra.2.1.2.1, if_pos rfl]
              have e2' : X12_readMill ν = some (adMm ν24 c1 j G) := by
                rw [eM2]
                show (if (rI ν24 13 0 12) ≤ 0 then _ else _) = _
                rw [C24.2.2.2.2.2.2.1, if_pos (Int32.le_refl 0), show (1426 : Int32) = nI 1426 from rfl, show (1432 : Int32) = nI 1432 from rfl, nI_add, nI_add, if_pos (inb_nI (by omega) (by omega)), if_pos (inb_nI (by omega) (by omega)), ix_nI (by omega), ix_nI (by omega), rI_j (show 1393 ≠ 1432 + c1 by omega), rI_j (show 1393 ≠ 1426 + c1 by omega), yA, nI_1]
              rw [e1', e2', bV_s]
              exact z
        · obtain ⟨μ', ν', t1, t2, r, f1, g1⟩ := amiss2 C9
          obtain ⟨f, f1', f7', q⟩ := FS_b r
          have to := told_am (bk := 4) (so := 0) C9 c27 t2 q f1' f7'
          have k8 := C9.2.2.2.1
          refine fail ?_ ?_ r (FXr_t F9 (FX_x f1)) (kq_t G9 (FM_x g1))
          · rw [eX, if_neg (show ¬ nI K9 = 27 from fun z => c27 ((nI_eq (b := 27) (by omega) (by omega)).mp z)), if_pos rfl, t1, bI_s]
            rfl
          · rw [eM1]
            show bI (X12_readTold (nI 4) (nI 0) ν9) _ = _
            rw [to, bI_s, b_mT3 q f1' f7']
      · obtain ⟨f, f1', f7', q⟩ := FS_b r
        exact fail (by rw [eX, show (9 : Int32) = nI 9 from rfl, a1, bI_s, if_pos rfl]) (by rw [eM1, a2, bV_s, b_mT2 q f1' f7']) r (FXr_t f6 (FX_x f9)) (kq_t g6 (FM_x g9))
/-! WINDERS -/
abbrev wT2 (x1 x5 : Int32) (ρ : sM) : Option sM := bI (X12_isWage ρ) fun x7 μ8 => bI (X12_perhaps x7 μ8) fun x9 μ10 => if x9 = 0 then X12_readWinder_J40 x1 x5 1 μ10 else bI (X12_count 0 99 μ10) fun x11 μ12 => X12_readWinder_J40 x1 x5 x11 μ12
abbrev wT1 (x1 : Int32) (ρ : sM) : Option sM := bI (X12_isStrength ρ) fun x3 μ4 => bI (X12_behindWord x3 1 40 μ4) fun x5 μ6 => wT2 x1 x5 μ6
theorem b_J40 {f : Nat} (h : rI ν 13 0 12 = nI f) (f1 : 1 ≤ f) (f7 : f ≤ 7) (x y z : Int32) : X12_readWinder_J40 x y z ν = some ν := by
  unfold X12_readWinder_J40
  rw [h, if_neg (fs_pos f1 f7).1]
theorem b_wT2 {f : Nat} (h : rI ν 13 0 12 = nI f) (f1 : 1 ≤ f) (f7 : f ≤ 7) (x y : Int32) : wT2 x y ν = some ν := by
  obtain ⟨w, e⟩ := so_Wage ν
  show bI (X12_isWage ν) _ = _
  rw [e, bI_s, b_perhaps h f1 f7, bI_s, if_pos rfl, b_J40 h f1 f7]
theorem b_wT1 {f : Nat} (h : rI ν 13 0 12 = nI f) (f1 : 1 ≤ f) (f7 : f ≤ 7) (x : Int32) : wT1 x ν = some ν := by
  obtain ⟨w, e⟩ := so_Strength ν
  show bI (X12_isStrength ν) _ = _
  rw [e, bI_s, b_behind h f1 f7, bI_s, b_wT2 h f1 f7]
theorem rdWinder (h : CS μ ν b n i m K V s) (hR : RV μ ν) (hK : K < 31) : PRr μ ν b n i (X5_readWinder μ) (bV (X12_readWinder ν) endM) := by
  have r0 := hR.2.1.2.1
  have r1 := hR.2.1.2.2
  obtain ⟨c0, c1, c2, l0, l1, l2, -, -, x0, -, -, y0⟩ := RV_n hR
  have eM : X12_readWinder ν = bI (X12_readNew (nI 2) ν) (fun x1 ρ => wT1 x1 ρ) := rfl
  have fail : ∀ {μ' ν' : sM}, X5_readWinder μ = some (0, μ') → X12_readWinder ν = some ν' → FS μ' ν' → FXr μ μ' → kq qMr ν ν' → PRr μ ν b n i (X5_readWinder μ) (bV (X12_readWinder ν) endM) := by
    intro μ' ν' e1 e2 r f1 g1
    obtain ⟨f, f1', f7', q⟩ := FS_b r
    exact Or.inr ⟨μ', ν', e1, by rw [e2, bV_s, b_end q f1' f7'], r, f1, g1⟩
  rcases newN h hR hK (so := 2) (k := c2) (by omega) y0 l2 with ⟨k6, μ', ν', e1, e2, r, f1, g1⟩ | ⟨k6, μ4, e0, hn⟩
  · obtain ⟨f, f1', f7', q⟩ := FS_b r
    refine fail ?_ (by rw [eM, e2, bI_s, b_wT1 q f1' f7']) r f1 g1
    unfold X5_readWinder
    rw [r1, if_pos rfl, x0, k6, if_neg (by decide +kernel), r0, if_pos rfl, e1, bI_s]
    rfl
  · have eX : X5_readWinder μ = bI (X5_takeNewName μ4) fun x5 μ6 => if x5 = 0 then some (0, μ6) else if (rR μ6 6 0 0) = 1 then bI (X6_takeWord 12 μ6) fun x8 μ9 => if x8 = 0 then some (0, μ9) else if (rR μ9 6 0 0) = 1 then bI (X6_takeNumber 1 40 μ9) fun x11 μ12 => if x11 = 0 then some (0, μ12) else if (rR μ12 6 0 0) = 1 then if (rR μ12 6 0 0) = 1 then if (rI μ12 7 0 4) = 13 then if (rR μ12 6 0 0) = 1 then bV (X6_advance μ12) fun μ17 => if (rR μ17 6 0 0) = 1 then bI (X6_takeNumber 0 99 μ17) fun x19 μ20 => if x19 = 0 then some (0, μ20) else if (rR μ20 6 0 0) = 1 then X5_readWinder_J118 (rI μ12 7 0 6) (rI μ20 7 0 6) μ20 else none else none else none else X5_readWinder_J118 (rI μ12 7 0 6) 1 μ12 else none else none else none else none := by
      unfold X5_readWinder
      rw [r1, if_pos rfl, x0, if_pos (show nI c2 < 6 from nI_lt (b := 6) k6 (by omega)), r0, if_pos rfl, e0, bV_s]
    rcases hn with ⟨μ', ν', e1, e2, r, f1, g1⟩ | ⟨μ6, ν6, m6, K6, V6, s6, e1, e2, C6, R6, nm6, f6, g6, k61⟩
    · obtain ⟨f, f1', f7', q⟩ := FS_b r
      exact fail (by rw [eX, e1, bI_s, if_pos rfl]) (by rw [eM, e2, bI_s, b_wT1 q f1' f7']) r f1 g1
    · rw [e1, bI_s, if_neg n10, R6.2.1.2.1, if_pos rfl] at eX
      have eM1 : X12_readWinder ν = bI (X12_behindWord (if K6 = 12 then 1 else 0) (nI 1) (nI 40) ν6) fun x5 μ6 => wT2 (nI c2) x5 μ6 := by
        rw [eM, e2, bI_s]
        show bI (X12_isStrength ν6) _ = _
        rw [is_Strength C6.2.2.2.2.1, bI_s]
        rfl
      rcases behW C6 (k := 12) (lo := 1) (hi := 40) (by omega) (by omega) (by omega) with ⟨μ', ν', eA, eB, r, f1, g1⟩ | ⟨P, μ9, μ12, ν12, m12, K12, V12, s12, P1, P9, a1, f9, a2, a3, a4, C12, f12, g12⟩
      · obtain ⟨f, f1', f7', q⟩ := FS_b r
        refine fail ?_ (by rw [eM1, eB, bI_s, b_wT2 q f1' f7']) r (FXr_t f6 (FX_x f1)) (kq_t g6 (FM_x g1))
        rcases eA with eA | ⟨μ9, eA, f9, eA2⟩
        · rw [eX, show (12 : Int32) = nI 12 from rfl, eA, bI_s, if_pos rfl]
        · rw [eX, show (12 : Int32) = nI 12 from rfl, eA, bI_s, if_neg n10, f9.2, R6.2.1.2.1, if_pos rfl, show X6_takeNumber 1 40 μ9 = some (0, μ') from eA2, bI_s, if_pos rfl]
      · have R12 := RV_t R6 f12 g12
        rw [show (12 : Int32) = nI 12 from rfl, a1, bI_s, if_neg n10, f9.2, R6.2.1.2.1, if_pos rfl, show X6_takeNumber 1 40 μ9 = some (1, μ12) from a2, bI_s, if_neg n10, R12.2.1.2.1, if_pos rfl, if_pos rfl, a4, C12.2.2.1.1] at eX
        have eM3 : X12_readWinder ν = if K12 = 13 then bV (X12_advance ν12) (fun ρ => bI (X12_count (nI 0) (nI 99) ρ) fun x15 μ16 => X12_readWinder_J40 (nI c2) (nI P) x15 μ16) else X12_readWinder_J40 (nI c2) (nI P) 1 ν12 := by
          rw [eM1, a3, bI_s]
          show bI (X12_isWage ν12) _ = _
          rw [is_Wage C12.2.2.2.2.1, bI_s, perh C12]
          by_cases c7 : K12 = 13
          · rw [if_pos c7, if_pos c7]
            cases X12_advance ν12 with
            | none => rfl
            | some ρ => rw [bV_s, bI_s, if_neg n10, bV_s]; rfl
          · rw [if_neg c7, if_neg c7, bI_s, if_pos rfl]
        have kν : kq qMr ν ν12 := kq_t g6 (FM_x g12)
        have kμ : FXr μ μ12 := FXr_t f6 (FX_x f12)
        have fin : ∀ {μ1 ν1 : sM} {i1 m1 K1 s1 : Nat} {V1 : Int64} {G : Nat}, CS μ1 ν1 b n i1 m1 K1 V1 s1 → RV μ1 ν1 → FXr μ μ1 → kq qMr ν ν1 → i + 1 ≤ i1 → G ≤ 99 → (∀ j, rI ν1 61 0 j = rI ν6 61 0 j) → nmR (rL μ1 6 0 2) (rL ν1 64 0 (84 + c2)) → X5_readWinder μ = X5_readWinder_J118 (nI P) (nI G) μ1 → X12_readWinder ν = X12_readWinder_J40 (nI c2) (nI P) (nI G) ν1 → PRr μ ν b n i (X5_readWinder μ) (bV (X12_readWinder ν) endM) := by
          intro μ1 ν1 i1 m1 K1 s1 V1 G C1 R1 kx km hi hG h61 hnm eX' eM'
          have y1 : rI ν1 61 0 1394 = nI c2 := by rw [h61, k61]; exact y0
          have x1 : rI μ1 11 4 0 = nI c2 := R1.1.1.1.2.2.1.trans y1
          obtain ⟨ea, Ra⟩ := addW R1 x1 y1 k6 P1 P9 hG hnm
          have Ca : CS (adWx μ1 c2 P G) (adWm ν1 c2 P G) b n i1 m1 K1 V1 s1 := CS_c C1 (kq_wI rfl (kq_wI rfl (kq_wI rfl (kq_wI rfl (kq_wI rfl (kq_wL rfl kq_r)))))) (kq_wI rfl (kq_wI rfl (kq_wI rfl kq_r)))
          have q4 : ∀ kk j, rk kk = true → qXr kk 4 j = false := fun kk j hk => qXr_R (nR_s hk)
          have q61 : ∀ j, 1392 ≤ j → qMr 61 0 j = false := fun j hj => by unfold qMr; simp [Nat.ble_eq_true_of_le hj]
          have fx : FXr μ (adWx μ1 c2 P G) := FXr_t kx ⟨kq_wI (q4 _ _ rfl) (kq_wI (q4 _ _ rfl) (kq_wI (q4 _ _ rfl) (kq_wI (q4 _ _ rfl) (kq_wI (q4 _ _ rfl) (kq_wL (q4 _ _ rfl) kq_r))))), fun _ _ _ => rfl⟩
          have fm : kq qMr ν (adWm ν1 c2 P G) := kq_t km (kq_wI (q61 _ (by omega)) (kq_wI (q61 _ (by omega)) (kq_wI (q61 _ (by omega)) kq_r)))
          have z := endR (μ := μ) (ν := ν) (i := i) Ca Ra hi fx fm
          have e1' : X5_readWinder μ = bI (X6_takeEnd (adWx μ1 c2 P G)) ckI := by
            rw [eX']
            unfold X5_readWinder_J118
            rw [R1.2.1.2.2, if_pos rfl, ea, bV_s, Ra.2.1.2.1, if_pos rfl]
          have e2' : X12_readWinder ν = some (adWm ν1 c2 P G) := by
            rw [eM']
            unfold X12_readWinder_J40
            rw [C1.2.2.2.2.2.2.1, if_pos (Int32.le_refl 0), show (1444 : Int32) = nI 1444 from rfl, show (1450 : Int32) = nI 1450 from rfl, nI_add, nI_add, if_pos (inb_nI (by omega) (by omega)), if_pos (inb_nI (by omega) (by omega)), ix_nI (by omega), ix_nI (by omega), rI_j (show 1394 ≠ 1450 + c2 by omega), rI_j (show 1394 ≠ 1444 + c2 by omega), y1, nI_1]
          rw [e1', e2', bV_s]
          exact z
        have nmX : ∀ {μ1 ν1 : sM}, FX μ6 μ1 → kq qMt ν6 ν1 → nmR (rL μ1 6 0 2) (rL ν1 64 0 (84 + c2)) := by
          intro μ1 ν1 a c
          rw [(a.1 6 0 2 rfl).2, (c 64 0 _ rfl).2]
          exact nm6
        by_cases c7 : K12 = 13
        · obtain ⟨μ17, ν17, m17, K17, V17, s17, d1, d2, C17, f17, g17, -⟩ := adv2 C12 (by omega)
          have R17 := RV_t R12 f17 g17
          rw [c7, if_pos (show nI 13 = 13 from rfl), if_pos rfl, d1, bV_s, R17.2.1.2.1, if_pos rfl] at eX
          rw [if_pos c7, d2, bV_s] at eM3
          rcases takeN C17 (lo := 0) (hi := 99) (by omega) (by omega) with ⟨G, μ20, ν20, m20, K20, V20, s20, -, hG, w1, w2, w3, C20, f20, g20⟩ | ⟨μ', ν', w1, w2, r, f20, g20⟩
          · have R20 := RV_t R17 f20 g20
            have F20 : FX μ6 μ20 := FX_t f12 (FX_t f17 f20)
            have G20 : kq qMt ν6 ν20 := kq_t g12 (kq_t g17 g20)
            refine fin (G := G) C20 R20 (FXr_t f6 (FX_x F20)) (kq_t g6 (FM_x G20)) (by omega) hG (fun j => (G20 61 0 j rfl).1) (nmX F20 G20) ?_ ?_
            · rw [eX, show X6_takeNumber 0 99 μ17 = some (1, μ20) from w1, bI_s, if_neg n10, R20.2.1.2.1, if_pos rfl, w3]
            · rw [eM3, w2, bI_s]
          · obtain ⟨f, f1', f7', q⟩ := FS_b r
            refine fail ?_ (by rw [eM3, w2, bI_s, b_J40 q f1' f7']) r (FXr_t kμ (FXr_t (FX_x f17) (FX_x f20))) (kq_t kν (kq_t (FM_x g17) (FM_x g20)))
            rw [eX, show X6_takeNumber 0 99 μ17 = some (0, μ') from w1, bI_s, if_pos rfl]
        · have n7' : ¬ nI K12 = 13 := fun z => c7 ((nI_eq (b := 13) (by have := C12.2.2.2.1; omega) (by omega)).mp z)
          rw [if_neg n7'] at eX
          rw [if_neg c7] at eM3
          exact fin (G := 1) C12 R12 kμ kν (by omega) (by omega) (fun j => (g12 61 0 j rfl).1) (nmX f12 g12) eX eM3
/-! a PART -/
theorem PRr_ck {X : Option (Int32 × sM)} {M : Option sM} (h : PRr μ ν b n i X M) : PRr μ ν b n i (bI X ckI) M := by
  rcases h with ⟨μ', ν', i', m', K', V', s', h1, e1, e2, r⟩ | ⟨μ', ν', e1, e2, r⟩
  · exact Or.inl ⟨μ', ν', i', m', K', V', s', h1, by rw [e1, bI_s]; rfl, e2, r⟩
  · exact Or.inr ⟨μ', ν', by rw [e1, bI_s]; rfl, e2, r⟩
theorem bV_id (X : Option sM) (F : sM → Option sM) : bV (bV X fun μ => some μ) F = bV X F := by
  cases X with
  | none => rfl
  | some ρ => rfl
theorem rdPart (h : CS μ ν b n i m K V s) (hR : RV μ ν) : PRr μ ν b n i (X5_readPart μ) (bV (X12_readPart ν) endM) := by
  have r0 := hR.2.1.2.1
  have h5 := h.2.2.1.1
  have h8 := h.2.2.2.1
  have hT := h.2.2.2.2.1
  have ne : ∀ {k : Nat}, k < 33 → K ≠ k → ¬ nI K = nI k := fun hk c z => c ((nI_eq (by omega) (by omega)).mp z)
  unfold X5_readPart X12_readPart
  rw [r0, if_pos rfl, if_pos rfl, h5, is_Turns hT, bI_s]
  by_cases c0 : K = 0
  · rw [if_pos (show nI K = 0 by rw [c0]; rfl), if_pos c0, if_neg n10, bV_id]
    exact PRr_ck (rdSet (bit := 0) (cell := 9) (p := 0) (most := 60) h hR c0 (by omega))
  rw [if_neg (show ¬ nI K = 0 from ne (k := 0) (by omega) c0), if_neg c0, if_pos rfl, is_Slack hT, bI_s]
  by_cases c1 : K = 1
  · rw [if_pos (show nI K = 1 by rw [c1]; rfl), if_pos c1, if_neg n10, bV_id]
    exact PRr_ck (rdSet (bit := 1) (cell := 3) (p := 1) (most := 9) h hR c1 (by omega))
  rw [if_neg (show ¬ nI K = 1 from ne (k := 1) (by omega) c1), if_neg c1, if_pos rfl, stepW hT, bI_s]
  by_cases c2 : K = 2
  · rw [if_pos (show nI K = 2 by rw [c2]; rfl), if_pos (show sWd K = 4 by rw [c2]; rfl), bV_id]
    exact PRr_ck (rdSet (bit := 2) (cell := 4) (p := 2) (most := 99) h hR c2 (by omega))
  have sw4 : ¬ sWd K = 4 := by
    unfold sWd
    by_cases d0 : K = 14
    · rw [if_pos d0]; decide +kernel
    by_cases d1 : K = 15
    · rw [if_neg d0, if_pos d1]; decide +kernel
    by_cases d2 : K = 17
    · rw [if_neg d0, if_neg d1, if_pos d2]; decide +kernel
    by_cases d3 : K = 6
    · rw [if_neg d0, if_neg d1, if_neg d2, if_pos d3]; decide +kernel
    rw [if_neg d0, if_neg d1, if_neg d2, if_neg d3, if_neg c2]
    by_cases d5 : K = 18
    · rw [if_pos d5]; decide +kernel
    by_cases d6 : K = 19
    · rw [if_neg d5, if_pos d6]; decide +kernel
    by_cases d7 : K = 20
    · rw [if_neg d5, if_neg d6, if_pos d7]; decide +kernel
    by_cases d8 : K = 24
    · rw [if_neg d5, if_neg d6, if_neg d7, if_pos d8]; decide +kernel
    by_cases d9 : K = 26
    · rw [if_neg d5, if_neg d6, if_neg d7, if_neg d8, if_pos d9]; decide +kernel
    rw [if_neg d5, if_neg d6, if_neg d7, if_neg d8, if_neg d9]; decide +kernel
  rw [if_neg (show ¬ nI K = 2 from ne (k := 2) (by omega) c2), if_neg sw4, is_Odds hT, bI_s]
  by_cases c3 : K = 3
  · rw [if_pos (show nI K = 3 by rw [c3]; rfl), if_pos c3, if_neg n10, bV_id]
    exact PRr_ck (rdSet (bit := 3) (cell := 5) (p := 3) (most := 16) h hR c3 (by omega))
  rw [if_neg (show ¬ nI K = 3 from ne (k := 3) (by omega) c3), if_neg c3, if_pos rfl, is_Reach hT, bI_s]
  by_cases c4 : K = 4
  · rw [if_pos (show nI K = 4 by rw [c4]; rfl), if_pos c4, if_neg n10, bV_id]
    exact PRr_ck (rdReach h hR (by omega))
  rw [if_neg (show ¬ nI K = 4 from ne (k := 4) (by omega) c4), if_neg c4, if_pos rfl, is_Mill hT, bI_s]
  by_cases c8 : K = 8
  · rw [if_pos (show nI K = 8 by rw [c8]; rfl), if_pos c8, if_neg n10, bV_id]
    exact PRr_ck (rdMill h hR (by omega))
  rw [if_neg (show ¬ nI K = 8 from ne (k := 8) (by omega) c8), if_neg c8, if_pos rfl, is_Winder hT, bI_s]
  by_cases c11 : K = 11
  · rw [if_pos (show nI K = 11 by rw [c11]; rfl), if_pos c11, if_neg n10, bV_id]
    exact PRr_ck (rdWinder h hR (by omega))
  rw [if_neg (show ¬ nI K = 11 from ne (k := 11) (by omega) c11), if_neg c11, if_pos rfl, bV_id]
  obtain ⟨μ', ν', t1, t2, r, f1, g1⟩ := amiss2 h
  obtain ⟨f, f1', f7', q⟩ := FS_b r
  exact Or.inr ⟨μ', ν', by rw [t1, bI_s]; rfl, by rw [t2, bV_s, b_end q f1' f7'], r, FX_x f1, FM_x g1⟩
theorem tr0 (h : TR K V ν) : rI ν 13 0 14 = 0 ↔ K = 32 := by
  rcases h with ⟨k, t, -⟩ | ⟨rfl, t, -⟩ | ⟨rfl, t, -⟩ | ⟨rfl, t⟩ | ⟨rfl, t⟩
  · rw [t]; exact ⟨fun z => absurd z (by decide +kernel), fun z => by omega⟩
  · rw [t]; exact ⟨fun z => absurd z (by decide +kernel), fun z => by omega⟩
  · rw [t]; exact ⟨fun z => absurd z (by decide +kernel), fun z => by omega⟩
  · rw [t]; exact ⟨fun z => absurd z (by decide +kernel), fun z => by omega⟩
  · exact ⟨fun _ => rfl, fun _ => t⟩
/-- all PARTS -/
theorem rdAll : ∀ (k i c fu fu' : Nat) (μ ν : sM) (m K s : Nat) (V : Int64), n ≤ i + k → k + 1 < fu → k + 1 < fu' → 2 * c ≤ i → CS μ ν b n i m K V s → RV μ ν →
    (∃ μ' ν', X5_readInto_L24 fu (nI c) μ = some (1, μ') ∧ X12_river_L33 fu' ν = X12_river_J64 ν' ∧ RV μ' ν' ∧ rI ν' 13 0 12 = 0 ∧ (rI μ' 7 0 2 = 0 ∧ rI μ' 7 0 3 = -1) ∧ FXr μ μ' ∧ kq qMr ν ν') ∨
    (∃ μ' ν', X5_readInto_L24 fu (nI c) μ = some (0, μ') ∧ X12_river_L33 fu' ν = X12_river_J64 ν' ∧ FS μ' ν' ∧ FXr μ μ' ∧ kq qMr ν ν') := by
  intro k
  induction k with
  | zero =>
    intro i c fu fu' μ ν m K s V hi hf hf' hc h hR
    obtain ⟨fu, rfl⟩ : ∃ f, fu = f + 1 := ⟨fu - 1, by omega⟩
    obtain ⟨fu', rfl⟩ : ∃ f, fu' = f + 1 := ⟨fu' - 1, by omega⟩
    have hn := h.1.2.1
    have him := h.2.1.2.2.1
    have h8 := h.2.2.2.1
    rw [X5_readInto_L24, X12_river_L33]
    rw [if_neg (show ¬ (900 : Int32) ≤ nI c from nI_ge (b := 900) (by omega) (by omega)), hR.2.1.2.1, if_pos rfl, h.2.2.1.1, h.2.2.2.2.2.2.1, if_pos rfl]
    by_cases c32 : K = 32
    · rw [if_pos (show nI K = 32 by rw [c32]; rfl), if_pos ((tr0 h.2.2.2.2.1).mpr c32)]
      exact Or.inl ⟨μ, ν, rfl, rfl, hR, h.2.2.2.2.2.2.1, h.2.1.2.2.2, ⟨kq_r, fun _ _ _ => rfl⟩, kq_r⟩
    · rw [if_neg (show ¬ nI K = 32 from fun z => c32 ((nI_eq (b := 32) (by omega) (by omega)).mp z)), if_neg (fun z => c32 ((tr0 h.2.2.2.2.1).mp z))]
      rcases rdPart h hR with ⟨μ', ν', i', m', K', V', s', h1, e1, e2, C', R', f1, g1⟩ | ⟨μ', ν', e1, e2, r, f1, g1⟩
      · exfalso
        have := C'.2.1.2.2.1
        omega
      · obtain ⟨f, f1', f7', q⟩ := FS_b r
        obtain ⟨fu', rfl⟩ : ∃ f, fu' = f := ⟨fu', rfl⟩
        refine Or.inr ⟨μ', ν', by rw [e1, bI_s, if_pos rfl], ?_, r, f1, g1⟩
        cases z : X12_readPart ν with
        | none => rw [z] at e2; cases e2
        | some ρ =>
          rw [z, bV_s] at e2
          obtain ⟨x, ex⟩ := so_Sign 59 ρ
          have e2' : X12_must x ρ = some ν' := by
            have : bI (X12_isSign 59 ρ) (fun x ρ' => X12_must x ρ') = some ν' := e2
            rw [ex, bI_s] at this
            exact this
          rw [bV_s, ex, bI_s, e2', bV_s]
          cases fu' with
          | zero => exact absurd hf' (by omega)
          | succ w =>
            rw [X12_river_L33]
            rw [q, if_neg (fs_pos f1' f7').2.1]
  | succ k ih =>
    intro i c fu fu' μ ν m K s V hi hf hf' hc h hR
    obtain ⟨fu, rfl⟩ : ∃ f, fu = f + 1 := ⟨fu - 1, by omega⟩
    obtain ⟨fu', rfl⟩ : ∃ f, fu' = f + 1 := ⟨fu' - 1, by omega⟩
    have hn := h.1.2.1
    have him := h.2.1.2.2.1
    have h8 := h.2.2.2.1
    rw [X5_readInto_L24, X12_river_L33]
    rw [if_neg (show ¬ (900 : Int32) ≤ nI c from nI_ge (b := 900) (by omega) (by omega)), hR.2.1.2.1, if_pos rfl, h.2.2.1.1, h.2.2.2.2.2.2.1, if_pos rfl]
    by_cases c32 : K = 32
    · rw [if_pos (show nI K = 32 by rw [c32]; rfl), if_pos ((tr0 h.2.2.2.2.1).mpr c32)]
      exact Or.inl ⟨μ, ν, rfl, rfl, hR, h.2.2.2.2.2.2.1, h.2.1.2.2.2, ⟨kq_r, fun _ _ _ => rfl⟩, kq_r⟩
    · rw [if_neg (show ¬ nI K = 32 from fun z => c32 ((nI_eq (b := 32) (by omega) (by omega)).mp z)), if_neg (fun z => c32 ((tr0 h.2.2.2.2.1).mp z))]
      have mEq : ∀ ν', bV (X12_readPart ν) endM = some ν' → (bV (X12_readPart ν) fun μ2 => bI (X12_isSign 59 μ2) fun x3 μ4 => bV (X12_must x3 μ4) fun μ6 => X12_river_L33 fu' μ6) = X12_river_L33 fu' ν' := by
        intro ν' e2
        cases z : X12_readPart ν with
        | none => rw [z] at e2; cases e2
        | some ρ =>
          rw [z, bV_s] at e2
          obtain ⟨x, ex⟩ := so_Sign 59 ρ
          have e2' : X12_must x ρ = some ν' := by
            have : bI (X12_isSign 59 ρ) (fun x ρ' => X12_must x ρ') = some ν' := e2
            rw [ex, bI_s] at this
            exact this
          rw [bV_s, ex, bI_s, e2', bV_s]
      rcases rdPart h hR with ⟨μ', ν', i', m', K', V', s', h1, e1, e2, C', R', f1, g1⟩ | ⟨μ', ν', e1, e2, r, f1, g1⟩
      · rw [e1, bI_s, if_neg n10, nI_1, mEq ν' e2]
        rcases ih i' (c + 1) fu fu' μ' ν' m' K' s' V' (by omega) (by omega) (by omega) (by omega) C' R' with ⟨μ2, ν2, w1, w2, w3, w4, w5, w6, w7⟩ | ⟨μ2, ν2, w1, w2, w3, w6, w7⟩
        · exact Or.inl ⟨μ2, ν2, w1, w2, w3, w4, w5, FXr_t f1 w6, kq_t g1 w7⟩
        · exact Or.inr ⟨μ2, ν2, w1, w2, w3, FXr_t f1 w6, kq_t g1 w7⟩
      · obtain ⟨f, f1', f7', q⟩ := FS_b r
        rw [e1, bI_s, if_pos rfl, mEq ν' e2]
        refine Or.inr ⟨μ', ν', rfl, ?_, r, f1, g1⟩
        obtain ⟨w, rfl⟩ : ∃ w, fu' = w + 1 := ⟨fu' - 1, by omega⟩
        rw [X12_river_L33]
        rw [q, if_neg (fs_pos f1' f7').2.1]
end C98q
