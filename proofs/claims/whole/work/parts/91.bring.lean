/-! 91: bring, build -/
def qZ (k i j : Nat) : Bool := qF k i j || (qT k i j || (qP k i j || (qV k i j || qK k i j)))
theorem Rel_z {B B' : Int} {μ ν μ' ν' : sM} (h : Rel B μ ν) (a : kq qZ μ μ') (c : kq qZ ν ν') (s : rI μ' 12 0 0 = rI ν' 13 0 0) (R : RelR B' μ' 0 ν' 0) (W : RelW μ' 0 ν' 0) (hb : B ≤ B') : Rel B' μ' ν' := by
  obtain ⟨h0, h1, h2, h3, h4, h5, h6, h7⟩ := h
  exact ⟨s, RelF_c h1 (kq_m a (fun k i j z => by unfold qZ; simp [z])) (kq_m c (fun k i j z => by unfold qZ; simp [z])), RelT_c h2 (kq_m a (fun k i j z => by unfold qZ; simp [z])) (kq_m c (fun k i j z => by unfold qZ; simp [z])), RelP_c h3 (kq_m a (fun k i j z => by unfold qZ; simp [z])) (kq_m c (fun k i j z => by unfold qZ; simp [z])), R, W, RelK_c h6 (kq_m a (fun k i j z => by unfold qZ; simp [z])) (kq_m c (fun k i j z => by unfold qZ; simp [z])) hb, RelV_c h7 (kq_m a (fun k i j z => by unfold qZ; simp [z])) (kq_m c (fun k i j z => by unfold qZ; simp [z]))⟩
/-- the kinds that a row of numbers shows -/
def rv (k : Nat) : Bool := k == 3 || (k == 4 || (k == 5 || (k == 11 || ((Nat.ble 25 k && Nat.ble k 27) || ((Nat.ble 29 k && Nat.ble k 31) || (k == 34 || (Nat.ble 51 k && Nat.ble k 54)))))))
section C91
variable {B : Int} {μ ν : sM}
theorem Riv_d {μ' : sM} {r : Nat} {f g : Nat → Int32} (h : Riv μ r f) (a : ∀ k j, rv k = true → rI μ' k r j = rI μ k r j ∧ rL μ' k r j = rL μ k r j) (e : ∀ j, j < 76 → g j = f j) (h0 : (f 0).toInt ≤ 6) (h1 : (f 1).toInt ≤ 6) (h2 : (f 2).toInt ≤ 6) : Riv μ' r g := by
  obtain ⟨⟨c0, c1, c2, c3, c4, c5, c6, c7, c8, c9⟩, hw, hr, hm, hd⟩ := h
  refine ⟨⟨?_, ?_, ?_, ?_, ?_, ?_, ?_, ?_, ?_, ?_⟩, fun j hj => ?_, fun j hj => ?_, fun j hj => ?_, fun j hj => ?_⟩
  · rw [(a 4 0 rfl).1, e 0 (by omega)]; exact c0
  · rw [(a 3 0 rfl).1, e 1 (by omega)]; exact c1
  · rw [(a 11 0 rfl).1, e 2 (by omega)]; exact c2
  · rw [(a 5 1 rfl).1, e 3 (by omega)]; exact c3
  · rw [(a 5 2 rfl).1, e 4 (by omega)]; exact c4
  · rw [(a 5 3 rfl).1, e 5 (by omega)]; exact c5
  · rw [(a 5 4 rfl).1, e 6 (by omega)]; exact c6
  · rw [(a 5 6 rfl).1, e 7 (by omega)]; exact c7
  · rw [(a 5 5 rfl).1, e 8 (by omega)]; exact c8
  · rw [(a 5 0 rfl).1, e 9 (by omega)]; exact c9
  · rw [(a 34 j rfl).2, e (10 + j) (by omega)]; exact hw j hj
  · rw [e 0 (by omega)] at hj
    rw [(a 29 j rfl).1, (a 30 j rfl).1, (a 31 j rfl).1, e (16 + j) (by omega), e (22 + j) (by omega), e (28 + j) (by omega)]; exact hr j hj
  · rw [e 1 (by omega)] at hj
    rw [(a 25 j rfl).1, (a 26 j rfl).1, (a 27 j rfl).1, e (34 + j) (by omega), e (40 + j) (by omega), e (46 + j) (by omega)]; exact hm j hj
  · rw [e 2 (by omega)] at hj
    rw [(a 51 j rfl).1, (a 52 j rfl).1, (a 53 j rfl).1, (a 54 j rfl).1, e (52 + j) (by omega), e (58 + j) (by omega), e (64 + j) (by omega), e (70 + j) (by omega)]; exact hd j hj
theorem Riv_w {r j : Nat} {f : Nat → Int32} {v : Int32} {w : Int64} (h : Riv μ r f) (ok : ∃ B, OkR B f) (hj : j < 6) (hv : w = v.toInt64) : Riv (wL μ 34 r j w) r (upd f (10 + j) v) := by
  obtain ⟨B, ok⟩ := ok
  have u0 := ok.1.1
  have u1 := ok.1.2.1
  have u2 := ok.1.2.2
  unfold rg at u0 u1 u2
  have e : ∀ i, i < 10 ∨ 16 ≤ i → upd f (10 + j) v i = f i := fun i hi => upd_n (by omega)
  obtain ⟨hc, hw, hr, hm, hd⟩ := h
  refine ⟨?_, fun i hi => ?_, fun i hi => ?_, fun i hi => ?_, fun i hi => ?_⟩
  · rw [e 0 (by omega), e 1 (by omega), e 2 (by omega), e 3 (by omega), e 4 (by omega), e 5 (by omega), e 6 (by omega), e 7 (by omega), e 8 (by omega), e 9 (by omega)]; exact hc
  · by_cases z : i = j
    · subst z
      rw [rL_s, upd_s, hv]
    · rw [rL_j z, upd_n (by omega)]; exact hw i hi
  · rw [e 0 (by omega)] at hi
    rw [e (16 + i) (by omega), e (22 + i) (by omega), e (28 + i) (by omega)]; exact hr i hi
  · rw [e 1 (by omega)] at hi
    rw [e (34 + i) (by omega), e (40 + i) (by omega), e (46 + i) (by omega)]; exact hm i hi
  · rw [e 2 (by omega)] at hi
    rw [e (52 + i) (by omega), e (58 + i) (by omega), e (64 + i) (by omega), e (70 + i) (by omega)]; exact hd i hi
theorem sgm_one {g : Nat → Int32} {p : Nat} : ∀ (k i : Nat), i ≤ p → p < i + k → (∀ j, i ≤ j → j < i + k → j ≠ p → g j = 0) → sgm g i k = g p
  | 0, i, h1, h2, _ => by omega
  | k + 1, i, h1, h2, h => by
    unfold sgm
    by_cases e : i = p
    · subst e
      have z : ∀ (k i' : Nat), i < i' → i' + k ≤ i + (k + 1) + (i' - i - 1) → (∀ j, i' ≤ j → j < i' + k → g j = 0) → sgm g i' k = 0 := by
        intro k
        induction k with
        | zero => intro _ _ _ _; rfl
        | succ k ih =>
          intro i' a b c
          unfold sgm
          rw [c i' (Nat.le_refl _) (by omega), ih (i' + 1) (by omega) (by omega) (fun j x y => c j (by omega) (by omega))]
          rfl
      rw [z k (i + 1) (by omega) (by omega) (fun j a b => h j (by omega) (by omega) (by omega)), Int32.add_zero]
    · rw [h i (Nat.le_refl _) (by omega) e, Int32.zero_add]
      exact sgm_one k (i + 1) (by omega) (by omega) (fun j a b c => h j (by omega) (by omega) c)
theorem m_bring (hB : 0 ≤ B ∧ B ≤ 900000000) (a c : Int32) : BoI B (X11_bring a c) (X12_bring a c) := fun μ ν h => by
  obtain ⟨-, hR, ok, h9, hx⟩ := Rel_i h
  have u0 := ok.1.1
  have u1 := ok.1.2.1
  have u2 := ok.1.2.2
  unfold rg at u0 u1 u2
  have e0 : rI μ 4 0 0 = rI ν 61 0 0 := hR.1.1
  unfold X11_bring X12_bring
  rw [hasR_e, bI_s, isR_e _ _ (by rw [m0_k (by decide)]; omega), bI_s, e0, m0_k (by decide)]
  by_cases c1 : 0 ≤ a.toInt ∧ a.toInt < (rI ν 61 0 0).toInt
  · rw [if_pos c1, if_neg n10, if_neg n10, isIn_i, bI_s]
    simp only [lt_i, le_i, t0, show (-999 : Int64).toInt = -999 from rfl, show (999 : Int64).toInt = 999 from rfl, show (999 : Int32).toInt = 999 from rfl, show (-999 : Int32).toInt = -999 from rfl]
    by_cases c2 : -999 ≤ c.toInt ∧ c.toInt ≤ 999
    · by_cases c3 : c = 0
      · refine ⟨-1, _, _, ?_, ?_, re_b h 5⟩
        · rw [if_pos c3]; rfl
        · rw [if_pos c2, if_neg n10, if_pos c3]; rfl
      · obtain ⟨p, rfl, hp, hp'⟩ := seg_nI c1.1 (n := 6) (by omega) (by omega)
        obtain ⟨n, hn, n6, hn'⟩ := rg_nI (b := 6) ok.1.1
        have i6 : inb (nI p) 6 = true := inb_nI hp (by omega)
        have i28 : inb (nI (28 + p)) 1740 = true := inb_nI (by omega) (by omega)
        have i16 : inb (nI (16 + p)) 1740 = true := inb_nI (by omega) (by omega)
        have z := hR.2.2.1 p (by omega)
        have ko := ok.2.2.2.1 p (by omega)
        obtain ⟨k1, k2, k3, k4⟩ := ko
        unfold rg at k1 k2
        have g1 : ¬ 999 < c.toInt := by omega
        have th : (rI ν 61 0 (28 + p) + c).toInt = (rI ν 61 0 (28 + p)).toInt + c.toInt := tA (by omega) (by omega)
        rw [if_neg c3, if_neg g1, if_pos c2.1, if_pos i6, if_pos c2, if_neg n10, if_neg c3, l28, l16, if_pos i28, ix_nI (by omega), ix_nI (by omega), ix_nI (by omega), m0_k (by decide), z.2.2]
        by_cases c4 : 0 ≤ (rI ν 61 0 (28 + p) + c).toInt
        · have hc : rI (wI μ 31 0 p (rI ν 61 0 (28 + p) + c)) 4 0 0 = nI n := by rw [rI_k (by decide)]; exact e0.trans hn
          have spo : ∀ j, j < n → j ≠ p → spl (wI μ 31 0 p (rI ν 61 0 (28 + p) + c)) 0 j = 0 := by
            intro j hj hne
            have zj := hR.2.2.1 j (by omega)
            have kj := ok.2.2.2.1 j (by omega)
            have kr := kj.1
            unfold rg at kr
            show imx 0 (rI _ 31 0 j - rI _ 29 0 j) = 0
            rw [rI_j hne, rI_k (by decide), zj.1, zj.2.2]
            apply Int32.toInt_inj.mp
            rw [tmx, tS (by omega) (by omega), t0]
            omega
          have spp : spl (wI μ 31 0 p (rI ν 61 0 (28 + p) + c)) 0 p = imx 0 (rI ν 61 0 (28 + p) + c - rI ν 61 0 (16 + p)) := by
            show imx 0 (rI _ 31 0 p - rI _ 29 0 p) = _
            rw [rI_s, rI_k (by decide), z.1]
          have ssum := sgm_one (g := spl (wI μ 31 0 p (rI ν 61 0 (28 + p) + c)) 0) (p := p) n 0 (by omega) (by omega) (fun j _ hj hne => spo j (by omega) hne)
          rw [if_pos i6, if_pos i6, spill_e n6 hc, bI_s, if_pos i6, if_pos c4, if_pos c4, if_pos i16, if_pos i16, if_pos i28, if_pos i28, ssum, spp]
          obtain ⟨S, hS⟩ : ∃ S, S = imx 0 (rI ν 61 0 (28 + p) + c - rI ν 61 0 (16 + p)) := ⟨_, rfl⟩
          have tS' : S.toInt = max 0 ((rI ν 61 0 (28 + p)).toInt + c.toInt - (rI ν 61 0 (16 + p)).toInt) := by
            rw [hS, tmx, t0, tS (by omega) (by omega), th]
          obtain ⟨H, hH⟩ : ∃ H, H = imn (rI ν 61 0 (16 + p)) (rI ν 61 0 (28 + p) + c) := ⟨_, rfl⟩
          have tH' : H.toInt = min (rI ν 61 0 (16 + p)).toInt ((rI ν 61 0 (28 + p)).toInt + c.toInt) := by
            rw [hH, tmn, th]
          have eH : rI ν 61 0 (28 + p) + c - S = H := by
            apply Int32.toInt_inj.mp
            rw [tS (by omega) (by omega), th, tS', tH']
            omega
          have m61 : ∀ j, rI (wI (m0 ν) 61 0 13 (rI (m0 ν) 61 0 13 + S)) 61 0 j = if j = 13 then rI ν 61 0 13 + S else rI ν 61 0 j := by
            intro j
            by_cases e : j = 13
            · rw [e, if_pos rfl, rI_s, m0_k (by decide)]
            · rw [if_neg e, rI_j e, m0_k (by decide)]
          rw [← hS]
          have mb := m0_k (ν := ν) (k := 61) (i := 0) (j := 16 + p) (by decide)
          rw [mb, ← hS, m61 (16 + p), if_neg (by omega), ← hH]
          have b13 : rg (rI ν 61 0 13) _ _ := ok.2.2.1 3 (by omega)
          unfold rg at b13
          have b6 := ok.2.1.2.2.2.1
          unfold rg at b6
          have ts : (rI ν 61 0 13 + S).toInt = (rI ν 61 0 13).toInt + S.toInt := tA (by omega) (by omega)
          have okA : OkR (B + 2000) (upd (rI ν 61 0) 13 (rI ν 61 0 13 + S)) := OkR_u (OkR_mono ok (by omega)) (Or.inr (Or.inr (Or.inr (Or.inr (Or.inr (Or.inr (Or.inl ⟨by omega, by omega, by unfold rg; omega⟩)))))))
          have okB : OkR (B + 2000) (upd (upd (rI ν 61 0) 13 (rI ν 61 0 13 + S)) (28 + p) H) := OkR_u okA (Or.inr (Or.inr (Or.inr (Or.inr (Or.inr (Or.inr (Or.inr (Or.inr (Or.inl ⟨by omega, by omega, by omega, by rw [show 28 + p - 12 = 16 + p by omega, upd_n (by omega)]; omega⟩)))))))))
          have ew : rL μ 34 0 3 + S.toInt64 = (rI ν 61 0 13 + S).toInt64 := by
            rw [hR.2.1 3 (by omega)]
            exact wat_a (x := rI ν 61 0 13) (by omega) (by omega)
          have R1 := Riv_w (j := 3) (v := rI ν 61 0 13 + S) (w := rL μ 34 0 3 + S.toInt64) hR ⟨_, ok⟩ (by omega) ew
          have R2 := Riv_u (j := 16 + 6 * 2 + p) (v := H) R1 ⟨_, okA⟩ (by omega)
          obtain ⟨a1, a2⟩ := clk_p 2 p (by omega) hp (k := 31) rfl
          rw [a1, a2] at R2
          have row : ∀ j, (if j < n then rI (wI μ 31 0 p (rI ν 61 0 (28 + p) + c)) 31 0 j - spl (wI μ 31 0 p (rI ν 61 0 (28 + p) + c)) 0 j else rI (wI μ 31 0 p (rI ν 61 0 (28 + p) + c)) 31 0 j) = if j = p then H else rI μ 31 0 j := by
            intro j
            by_cases e : j = p
            · rw [e, if_pos (by omega), if_pos rfl, rI_s, spp, ← hS, eH]
            · rw [if_neg e]
              by_cases d : j < n
              · rw [if_pos d, spo j d e, rI_j e, Int32.sub_zero]
              · rw [if_neg d, rI_j e]
          have ec : rI (wI (wI (m0 ν) 61 0 13 (rI (m0 ν) 61 0 13 + S)) 61 0 (28 + p) H) 61 0 = upd (upd (rI ν 61 0) 13 (rI ν 61 0 13 + S)) (28 + p) H := by
            rw [wI_upd, wI_upd, m0_c]
          refine ⟨H, _, wI (wI (m0 ν) 61 0 13 (rI (m0 ν) 61 0 13 + S)) 61 0 (28 + p) H, ?_, ?_, Rel_w (μ1 := (wL (sC (sC (wI μ 31 0 p (rI ν 61 0 (28 + p) + c)) 33 0 (fun j => if j < n then spl (wI μ 31 0 p (rI ν 61 0 (28 + p) + c)) 0 j else rI (wI μ 31 0 p (rI ν 61 0 (28 + p) + c)) 33 0 j)) 31 0 (fun j => if j < n then rI (wI μ 31 0 p (rI ν 61 0 (28 + p) + c)) 31 0 j - spl (wI μ 31 0 p (rI ν 61 0 (28 + p) + c)) 0 j else rI (wI μ 31 0 p (rI ν 61 0 (28 + p) + c)) 31 0 j)) 34 0 3 (rL μ 34 0 3 + S.toInt64))) (f := upd (upd (rI ν 61 0) 13 (rI ν 61 0 13 + S)) (28 + p) H) h (Riv_d R2 (fun k j hk => ⟨?_, ?_⟩) (fun _ _ => rfl) okB.1.1.2 okB.1.2.1.2 okB.1.2.2.2) okB (by rw [upd_n (by omega), upd_n (by omega)]; exact h9) ?_ ?_ ec ?_⟩
          · unfold X11_give
            rw [bI_s, sC_s, row p, if_pos rfl]
          · rw [rI_s]
          · rw [rI_wL]
            by_cases k31 : k = 31
            · subst k31
              rw [sC_s, row j]
              by_cases e : j = p
              · rw [if_pos e, e, rI_s]
              · rw [if_neg e, rI_j e, rI_wL]
            · rw [sC_k k31, sC_k (fun q => by rw [q] at hk; cases hk), rI_k k31, rI_k k31, rI_wL]
          · rfl
          · refine kq_wL rfl (kq_sC (fun j hj => by cases hj) (kq_sC (fun j hj => by cases hj) (kq_wI rfl kq_r)))
          · exact kq_wI (qA_c (by omega) (by omega)) (kq_wI (qA_c (by omega) (by omega)) (kq_wI rfl (kq_wI rfl kq_r)))
          · rw [rI_k (by decide), rI_k (by decide), rI_s]
        · refine ⟨-1, _, _, ?_, ?_, re_b h 9⟩
          · rw [if_neg c4]; rfl
          · rw [if_neg c4]; rfl
    · refine ⟨-1, _, _, ?_, ?_, re_b h 5⟩
      · by_cases d : c = 0
        · rw [if_pos d]; rfl
        · rw [if_neg d]
          by_cases e : 999 < c.toInt
          · rw [if_pos e]; rfl
          · rw [if_neg e, if_neg (by omega)]; rfl
      · rw [if_neg c2]; rfl
  · refine ⟨-1, _, _, ?_, ?_, re_b h 2⟩
    · rw [if_neg c1]; rfl
    · rw [if_neg c1]; rfl
end C91
