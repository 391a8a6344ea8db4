/-! 95: HOURS tried out, where the two rows are alike as far as an HOUR looks -/
section C95
variable {B : Int} {μ ν : sM} {f c P : Nat → Int32} {r n m : Nat}
def ag (ν : sM) (f : Nat → Int32) : Prop := ∀ j, j < 64 → rI ν 61 0 j = f j
theorem flow_c (a : ∀ j, j < 64 → c j = f j) : ∀ j, j < 64 → flowF c P n j = flowF f P n j := by
  intro j hj
  unfold flowF
  rw [a 9 (by omega)]
  by_cases z : f 9 < 0
  · rw [if_pos z, if_pos z]
    simp only [upF, a 12 (by omega), a 11 (by omega), a 9 (by omega), a j hj]
  · rw [if_neg z, if_neg z]
    simp only [dnF, a 10 (by omega), a 14 (by omega), a 9 (by omega), a j hj]
theorem dr_c (a : ∀ j, j < 64 → c j = f j) : drF c = drF f := by
  unfold drF
  rw [a 7 (by omega), a 4 (by omega)]
theorem fl_c (a : ∀ j, j < 64 → c j = f j) {j : Nat} (hj : j < 6) : flF c j = flF f j := by
  unfold flF
  rw [dr_c a, a (28 + j) (by omega), a (16 + j) (by omega)]
theorem rn_c (a : ∀ j, j < 64 → c j = f j) (hn : n ≤ 6) : ∀ j, j < 64 → rnF c n j = rnF f n j := by
  intro j hj
  unfold rnF
  rw [a 15 (by omega), a 13 (by omega), a j hj, dr_c a, sgm_c n 0 (fun i _ hi => fl_c a (j := i) (by omega))]
  by_cases z : j = 15
  · rw [if_pos z, if_pos z]
  · rw [if_neg z, if_neg z]
    by_cases y : j = 13
    · rw [if_pos y, if_pos y]
    · rw [if_neg y, if_neg y]
      by_cases x : 28 ≤ j ∧ j < 28 + n
      · rw [if_pos x, if_pos x, fl_c a (j := j - 28) (by omega)]
      · rw [if_neg x, if_neg x]
theorem gr_c (a : ∀ j, j < 64 → c j = f j) {j : Nat} (hj : j < 6) : grF c P j ↔ grF f P j := by
  unfold grF
  rw [a (40 + j) (by omega), a (34 + j) (by omega)]
theorem gd1_c (a : ∀ j, j < 64 → c j = f j) {j : Nat} (hj : j < 6) : gd1 c P j = gd1 f P j := by
  unfold gd1
  by_cases z : grF f P j
  · rw [if_pos z, if_pos ((gr_c a hj).mpr z)]
  · rw [if_neg z, if_neg (fun q => z ((gr_c a hj).mp q))]
theorem gd_c (a : ∀ j, j < 64 → c j = f j) (hm : m ≤ 6) : ∀ j, j < 64 → gdF c P m j = gdF f P m j := by
  intro j hj
  unfold gdF
  rw [a j hj]
  by_cases z : 46 ≤ j ∧ j < 46 + m ∧ grF f P (j - 46)
  · rw [if_pos z, if_pos ⟨z.1, z.2.1, (gr_c a (j := j - 46) (by omega)).mpr z.2.2⟩]
  · rw [if_neg z, if_neg (fun q => z ⟨q.1, q.2.1, (gr_c a (j := j - 46) (by omega)).mp q.2.2⟩)]
theorem en_c (a : ∀ j, j < 64 → c j = f j) : ∀ j, j < 64 → enF c j = enF f j := by
  intro j hj
  unfold enF
  rw [a 6 (by omega), a 8 (by omega), a 9 (by omega), a 3 (by omega), a j hj]
theorem hr_c (a : ∀ j, j < 64 → c j = f j) (hn : n ≤ 6) (hm : m ≤ 6) : ∀ j, j < 64 → hrF c P n m j = hrF f P n m j := en_c (gd_c (rn_c (flow_c a) hn) hm)
theorem hr_hi (n6 : n ≤ 6) (m6 : m ≤ 6) {j : Nat} (hj : 64 ≤ j) : hrF c P n m j = c j := by
  unfold hrF enF
  rw [if_neg (by omega), if_neg (by omega), if_neg (by omega)]
  unfold gdF
  rw [if_neg (by omega), rnflow_o n6 (by omega)]
theorem hourW (R : Riv μ r f) (ok : OkR B f) (a : ag ν f) (hB : 0 ≤ B ∧ B ≤ 1000000000) (h6 : (f 6).toInt ≤ 10599) :
    ∃ g μ' ν' f', X4_passHour r μ = some (g, μ') ∧ X12_goesHour ν = some (g, ν') ∧ Riv μ' r f' ∧ OkR B f' ∧ ag ν' f' ∧ (f' 6).toInt = (f 6).toInt + 1 ∧ (∀ j : Nat, (j : Int) < (f 0).toInt → rI μ' 33 r j = rI ν' 66 0 j) ∧ mfr ν ν' ∧ (0 ≤ g.toInt ∧ g.toInt ≤ (f 1).toInt) ∧ (∀ j, j < 6 ∨ j = 7 ∨ (16 ≤ j ∧ j < 28) ∨ (34 ≤ j ∧ j < 46) ∨ 52 ≤ j → f' j = f j) ∧ ∀ j, 64 ≤ j → rI ν' 61 0 j = rI ν 61 0 j := by
  obtain ⟨n, hn, n6, hn'⟩ := rg_nI (b := 6) ok.1.1
  obtain ⟨m, hm, m6, hm'⟩ := rg_nI (b := 6) ok.1.2.1
  obtain ⟨P, hP⟩ : ∃ P : Nat → Int32, P = fun j => if j < n then paF (rI ν 61 0) j else rI ν 65 0 j := ⟨_, rfl⟩
  have hy : Hyp B f P n m := ⟨ok, hn, hm, n6, m6, h6, hB, fun j hj => by
    rw [hP]
    show (if j < n then paF (rI ν 61 0) j else _) = _
    rw [if_pos hj]
    unfold paF
    rw [a (22 + j) (by omega), a (28 + j) (by omega)]⟩
  obtain ⟨μ', e1, R1, s1⟩ := hourX hy R
  have e2 := hourM_e (ν := ν) n6 m6 ((a 0 (by omega)).trans hn) ((a 1 (by omega)).trans hm) (fun j hj => by
    have z := ok.2.2.2.2.1 j (by omega)
    rw [a (34 + j) (by omega)]
    exact inb_of z.1 (by omega)) P hP
  have eg : sgm (gd1 (rnF (flowF (rI ν 61 0) P n) n) P) 0 m = sgm (gd1 (rnF (flowF f P n) n) P) 0 m := sgm_c m 0 (fun j _ hj => gd1_c (rn_c (flow_c a) n6) (by omega))
  rw [eg] at e2
  refine ⟨_, μ', _, hrF f P n m, e1, e2, R1, OkR_hr hy, fun j hj => by rw [nf_c]; exact hr_c a n6 m6 j hj, ?_, fun j hj => ?_, ⟨fun k i j x y z => ?_, fun _ _ _ => rfl, fun _ _ _ => rfl⟩, ?_, fun j hj => ?_, fun j hj => ?_⟩
  · have b6 := ok.2.1.2.2.2.1
    unfold rg at b6
    rw [hr_6 hy, tA (by rw [t1]; omega) (by rw [t1]; omega), t1]
  · rw [nf_q, if_pos (by omega), s1 j (by omega)]
    exact (fl_c (flow_c a) (by omega)).symm
  · by_cases w : k = 61
    · subst w
      by_cases wi : i = 0
      · subst wi
        rw [nf_c]
        have hj : 76 ≤ j := by omega
        exact hr_hi n6 m6 (by omega)
      · unfold nf
        rw [rI_sC, if_neg (fun q => wi q.2), sC_k (by decide), sC_k (by decide)]
    · unfold nf
      rw [sC_k w, sC_k z, sC_k y]
  · have sb := sgm_b (g := gd1 (rnF (flowF f P n) n) P) (M := 1) (by omega) m 0 m6 (by omega) (fun j _ _ => by
      unfold gd1
      by_cases z : grF (rnF (flowF f P n) n) P j
      · rw [if_pos z, t1]; omega
      · rw [if_neg z, t0]; omega)
    omega
  · exact hr_o hy (by omega) (by omega) (by omega)
  · rw [nf_c]
    exact hr_hi n6 m6 hj
theorem hoursW (hB : 0 ≤ B ∧ B ≤ 1000000000) : ∀ (k : Nat) (μ ν : sM) (f : Nat → Int32), Riv μ r f → OkR B f → ag ν f → (f 6).toInt + k ≤ 10600 →
    ∃ g μ' ν' f', HX r k μ = some (g, μ') ∧ HM k ν = some (g, ν') ∧ Riv μ' r f' ∧ OkR B f' ∧ ag ν' f' ∧ (f' 6).toInt = (f 6).toInt + k ∧ mfr ν ν' ∧ (k ≤ 1000 → 0 ≤ g.toInt ∧ g.toInt ≤ k * (f 1).toInt) ∧ (∀ j, j < 6 ∨ j = 7 ∨ (16 ≤ j ∧ j < 28) ∨ (34 ≤ j ∧ j < 46) ∨ 52 ≤ j → f' j = f j) ∧ (∀ j, 64 ≤ j → rI ν' 61 0 j = rI ν 61 0 j)
  | 0, μ, ν, f, R, ok, a, _ => ⟨0, μ, ν, f, rfl, rfl, R, ok, a, by omega, mfr_r ν, fun _ => by rw [t0]; omega, fun _ _ => rfl, fun _ _ => rfl⟩
  | k + 1, μ, ν, f, R, ok, a, h6 => by
    obtain ⟨g, μ1, ν1, f1, e1, e2, R1, ok1, a1, s6, -, fr, gb, k1, hi⟩ := hourW R ok a hB (by omega)
    obtain ⟨g', μ', ν', f', e3, e4, R2, ok2, a2, u6, fr2, gb2, k2, hi2⟩ := hoursW hB k μ1 ν1 f1 R1 ok1 a1 (by omega)
    refine ⟨g + g', μ', ν', f', ?_, ?_, R2, ok2, a2, by omega, mfr_t fr fr2, fun hk => ?_, fun j hj => (k2 j hj).trans (k1 j hj), fun j hj => (hi2 j hj).trans (hi j hj)⟩
    · unfold HX
      rw [e1, bI_s, e3, bI_s]
    · unfold HM
      rw [e2, bI_s, e4, bI_s]
    · have b := gb2 (by omega)
      rw [k1 1 (by omega)] at b
      have c1 := ok.1.2.1
      unfold rg at c1
      have e : ((k + 1 : Nat) : Int) * (f 1).toInt = k * (f 1).toInt + (f 1).toInt := by
        rw [Int.natCast_add, Int.add_mul]
        simp
      have q : (k : Int) * (f 1).toInt ≤ 1000 * 6 := Int.mul_le_mul (by omega) (by omega) (by omega) (by omega)
      rw [tA (by omega) (by omega), e]
      omega
/-- n HOURS of a trial, on both sides -/
theorem tryN (hB : 0 ≤ B ∧ B ≤ 900000000) (R : Riv μ r f) (ok : OkR B f) (a : ag ν f) {n : Nat} (hn : n ≤ 1000) (h6 : (f 6).toInt + n ≤ 10600) : ∃ g μ' ν' f', X4_passHours r (nI n) μ = some (g, μ') ∧ HM n ν = some (g, ν') ∧ Riv μ' r f' ∧ OkR B f' ∧ ag ν' f' ∧ (f' 6).toInt = (f 6).toInt + n ∧ mfr ν ν' ∧ (0 ≤ g.toInt ∧ g.toInt ≤ n * (f 1).toInt) ∧ (∀ j, j < 6 ∨ j = 7 ∨ (16 ≤ j ∧ j < 28) ∨ (34 ≤ j ∧ j < 46) ∨ 52 ≤ j → f' j = f j) ∧ (∀ j, 64 ≤ j → rI ν' 61 0 j = rI ν 61 0 j) ∧ keep (nQ r) μ μ' := by
  obtain ⟨g, μ', ν', f', e1, e2, R1, ok1, a1, s6, fr, gb, k1, hi⟩ := hoursW (r := r) (by omega) n μ ν f R ok a h6
  have e5 := passHours_e (by omega) e1
  exact ⟨g, μ', ν', f', e5, e2, R1, ok1, a1, s6, fr, gb hn, k1, hi, X4_passHours_fq r (nI n) μ g μ' e5⟩
/-- what the relation speaks of is kept, but the row's first cells -/
def kM (ν ν1 : sM) : Prop := (∀ k i j, qB k i j = true → rL ν1 k i j = rL ν k i j) ∧ ∀ k i j, qB k i j = true → (k ≠ 61 ∨ 76 ≤ j ∨ i ≠ 0) → rI ν1 k i j = rI ν k i j
theorem kM_r : kM ν ν := ⟨fun _ _ _ _ => rfl, fun _ _ _ _ _ => rfl⟩
theorem kM_t {ν1 ν2 : sM} (h : kM ν ν1) (h' : kM ν1 ν2) : kM ν ν2 := ⟨fun k i j hq => (h'.1 k i j hq).trans (h.1 k i j hq), fun k i j hq hk => (h'.2 k i j hq hk).trans (h.2 k i j hq hk)⟩
theorem kM_m {ν1 : sM} (h : mfr ν ν1) : kM ν ν1 := ⟨fun k i j _ => h.2.1 k i j, fun k i j hq hk => h.1 k i j hk (qB_n hq).2.1 (qB_n hq).2.2⟩
theorem kM_wI {ν1 : sM} {k i j : Nat} {v : Int32} (hk : qB k i j = false ∨ (k = 61 ∧ i = 0 ∧ j < 76)) (h : kM ν ν1) : kM ν (wI ν1 k i j v) := ⟨h.1, fun a b c ha hb => by
  rw [rI_wI, if_neg (fun q => by
    rcases hk with hk | hk
    · rw [q.1, q.2.1, q.2.2, hk] at ha; cases ha
    · omega)]
  exact h.2 a b c ha hb⟩
theorem kM_sC {ν1 : sM} {k i : Nat} {F : Nat → Int32} (hk : ∀ j, qB k i j = true → (k ≠ 61 ∨ 76 ≤ j ∨ i ≠ 0) → F j = rI ν k i j) (h : kM ν ν1) : kM ν (sC ν1 k i F) := ⟨h.1, fun a b c ha hb => by
  rw [rI_sC]
  by_cases q : a = k ∧ b = i
  · rw [if_pos q]
    rw [q.1, q.2] at ha hb ⊢
    exact hk c ha hb
  · rw [if_neg q]
    exact h.2 a b c ha hb⟩
theorem kM_q {ν1 : sM} (h : kq qB ν ν1) : kM ν ν1 := ⟨fun k i j hq => (h k i j hq).2, fun k i j hq _ => (h k i j hq).1⟩
theorem kM_B {ν1 : sM} (h : kM ν ν1) (e : ∀ j, j < 76 → rI ν1 61 0 j = rI ν 61 0 j) : kq qB ν ν1 := by
  intro k i j hq
  refine ⟨?_, h.1 k i j hq⟩
  by_cases z : k = 61 ∧ j < 76 ∧ i = 0
  · rw [z.1, z.2.2]
    exact e j z.2.1
  · exact h.2 k i j hq (by omega)
theorem kM_pt {ν1 : sM} (h : kM ν ν1) : kM ν (pt ν1) := kM_sC (fun j hq => by exact absurd hq (by rw [show qB 62 0 j = false from rfl]; simp)) h
theorem kM_gt {ν1 : sM} (h : kM ν ν1) : kM ν (gt ν1) := kM_sC (fun j hq hb => by
  rw [if_neg (by omega)]
  exact h.2 61 0 j hq hb) h
/-- taken back to where it was -/
theorem Rel_k {μ' ν1 : sM} {s : Int32} (h : Rel B μ ν) (a : kq qB μ μ') (k : kM ν ν1) (e : ∀ j, j < 76 → rI ν1 61 0 j = rI ν 61 0 j) (z : rI ν1 13 0 0 = s) : Rel (B + 2000) (wI μ' 12 0 0 s) ν1 :=
  Rel_q h (kq_wI rfl a) (kM_B k e) (by rw [rI_s, z]) (by omega)
end C95
