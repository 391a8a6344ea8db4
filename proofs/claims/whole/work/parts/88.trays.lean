/-! 88: TRAYS -/
def qG (f t p v : Bool) (k i j : Nat) : Bool := (f && qF k i j) || ((t && qT k i j) || ((p && qP k i j) || ((v && qV k i j) || (qR 0 0 k i j || (qW 0 0 k i j || qK k i j)))))
theorem Rel_g {B B' : Int} {μ ν μ' ν' : sM} (f t p v : Bool) (h : Rel B μ ν) (a : kq (qG f t p v) μ μ') (c : kq (qG f t p v) ν ν') (s : rI μ' 12 0 0 = rI ν' 13 0 0) (hF : f = false → RelF μ' ν') (hT : t = false → RelT μ' ν') (hP : p = false → RelP μ' ν') (hV : v = false → RelV μ' ν') (hb : B ≤ B') : Rel B' μ' ν' := by
  obtain ⟨h0, h1, h2, h3, h4, h5, h6, h7⟩ := h
  refine ⟨s, ?_, ?_, ?_, RelR_c h4 (kq_m a (fun k i j z => by unfold qG; simp [z])) (kq_m c (fun k i j z => by unfold qG; simp [z])) hb, RelW_c h5 (kq_m a (fun k i j z => by unfold qG; simp [z])) (kq_m c (fun k i j z => by unfold qG; simp [z])), RelK_c h6 (kq_m a (fun k i j z => by unfold qG; simp [z])) (kq_m c (fun k i j z => by unfold qG; simp [z])) hb, ?_⟩
  · cases f with
    | false => exact hF rfl
    | true => exact RelF_c h1 (kq_m a (fun k i j z => by unfold qG; simp [z])) (kq_m c (fun k i j z => by unfold qG; simp [z]))
  · cases t with
    | false => exact hT rfl
    | true => exact RelT_c h2 (kq_m a (fun k i j z => by unfold qG; simp [z])) (kq_m c (fun k i j z => by unfold qG; simp [z]))
  · cases p with
    | false => exact hP rfl
    | true => exact RelP_c h3 (kq_m a (fun k i j z => by unfold qG; simp [z])) (kq_m c (fun k i j z => by unfold qG; simp [z]))
  · cases v with
    | false => exact hV rfl
    | true => exact RelV_c h7 (kq_m a (fun k i j z => by unfold qG; simp [z])) (kq_m c (fun k i j z => by unfold qG; simp [z]))
theorem q40 {f p v : Bool} {t j : Nat} : qG f false p v 40 t j = false := by
  unfold qG qF qP qV qR qW qK
  simp [rk, show Nat.ble 40 34 = false from rfl, show Nat.ble 43 40 = false from rfl]
/-- a cell's longs, all at once -/
def sD (μ : sM) (k i : Nat) (F : Nat → Int64) : sM := (μ.1, fun a b c => if a = k ∧ b = i then F c else μ.2.1 a b c, μ.2.2)
theorem rI_sD (μ : sM) (k i : Nat) (F : Nat → Int64) (a b c : Nat) : rI (sD μ k i F) a b c = rI μ a b c := rfl
theorem rL_sD (μ : sM) (k i : Nat) (F : Nat → Int64) (a b c : Nat) : rL (sD μ k i F) a b c = if a = k ∧ b = i then F c else rL μ a b c := rfl
theorem sD_s {μ : sM} {k i : Nat} {F : Nat → Int64} {c : Nat} : rL (sD μ k i F) k i c = F c := if_pos ⟨rfl, rfl⟩
theorem sD_k {μ : sM} {k i : Nat} {F : Nat → Int64} {a b c : Nat} (h : a ≠ k) : rL (sD μ k i F) a b c = rL μ a b c := if_neg (fun q => h q.1)
theorem sD_id (μ : sM) (k i : Nat) (F : Nat → Int64) (h : ∀ j, F j = rL μ k i j) : sD μ k i F = μ := by
  refine sM_ext (fun _ _ _ => rfl) (fun a b c => ?_) (fun _ _ _ => rfl)
  rw [rL_sD]
  by_cases q : a = k ∧ b = i
  · rw [if_pos q, q.1, q.2, h]
  · rw [if_neg q]
theorem sD_wL (μ : sM) (k i j : Nat) (v : Int64) (F : Nat → Int64) : sD (wL μ k i j v) k i F = sD μ k i F := by
  refine sM_ext (fun _ _ _ => rfl) (fun a b c => ?_) (fun _ _ _ => rfl)
  rw [rL_sD, rL_sD]
  by_cases q : a = k ∧ b = i
  · rw [if_pos q, if_pos q]
  · rw [if_neg q, if_neg q, rL_wL, if_neg (fun z => q ⟨z.1, z.2.2⟩)]
theorem sD_c (μ : sM) (k i : Nat) {F G : Nat → Int64} (h : ∀ j, F j = G j) : sD μ k i F = sD μ k i G := by rw [funext h]
theorem wL_sD (μ : sM) (k i j : Nat) (v : Int64) (F : Nat → Int64) : wL (sD μ k i F) k i j v = sD μ k i (fun c => if c = j then v else F c) := by
  refine sM_ext (fun _ _ _ => rfl) (fun a b c => ?_) (fun _ _ _ => rfl)
  rw [rL_sD, rL_wL, rL_sD]
  by_cases q : a = k ∧ b = i
  · rw [if_pos q, if_pos q]
    by_cases h : c = j
    · rw [if_pos ⟨q.1, h, q.2⟩, if_pos h]
    · rw [if_neg (fun z => h z.2.1), if_neg h]
  · rw [if_neg q, if_neg q, if_neg (fun z => q ⟨z.1, z.2.2⟩)]
theorem kq_sD {P : Nat → Nat → Nat → Bool} {μ ν : sM} {k i : Nat} {F : Nat → Int64} (hk : ∀ j, P k i j = false) (h : kq P μ ν) : kq P μ (sD ν k i F) := fun a b c ha => ⟨(h a b c ha).1, by
  rw [rL_sD]
  by_cases q : a = k ∧ b = i
  · rw [q.1, q.2, hk c] at ha; cases ha
  · rw [if_neg q]
    exact (h a b c ha).2⟩
/-- one tray changed -/
theorem RelT_t {μ ν μ' ν' : sM} (h : RelT μ ν) (t : Nat) (o : ∀ u, u < 4 → u ≠ t → (rI μ' 42 0 u = rI μ 42 0 u ∧ rI μ' 41 0 u = rI μ 41 0 u ∧ ∀ j, rL μ' 40 u j = rL μ 40 u j) ∧ rI ν' 58 0 u = rI ν 58 0 u ∧ rI ν' 57 0 u = rI ν 57 0 u ∧ ∀ j, j < 60 → rL ν' 59 0 (60 * u + j) = rL ν 59 0 (60 * u + j))
    (n : rI μ' 42 0 t = rI ν' 58 0 t ∧ (rI ν' 58 0 t = -1 ∨ (rg (rI ν' 58 0 t) 0 60 ∧ rI μ' 41 0 t = rI ν' 57 0 t ∧ rg (rI ν' 57 0 t) 0 3 ∧ ∀ j : Nat, (j : Int) < (rI ν' 58 0 t).toInt → rL μ' 40 t j = rL ν' 59 0 (60 * t + j)))) : RelT μ' ν' := by
  intro u hu
  by_cases e : u = t
  · rw [e]; exact n
  · obtain ⟨⟨o1, o2, o3⟩, o4, o5, o6⟩ := o u hu e
    rw [o1, o2, o4, o5]
    refine ⟨(h u hu).1, (h u hu).2.elim Or.inl (fun z => Or.inr ⟨z.1, z.2.1, z.2.2.1, fun j hj => ?_⟩)⟩
    have q := z.1
    unfold rg at q
    rw [o3, o6 j (by omega)]
    exact z.2.2.2 j hj
section C88
variable {B : Int} {μ ν : sM}
theorem isT_e (a : Int32) (μ : sM) : X7_isTray a μ = some (if 0 ≤ a.toInt ∧ a.toInt < 4 then 1 else 0, μ) := by
  unfold X7_isTray
  simp only [le_i, lt_i, t0, show (4 : Int32).toInt = 4 from rfl]
  by_cases c : a.toInt < 0
  · rw [if_pos c, if_neg (by omega)]
  · rw [if_neg c]
    by_cases d : 4 ≤ a.toInt
    · rw [if_pos d, if_neg (by omega)]
    · rw [if_neg d, if_pos (by omega)]
theorem renew_l {t n : Nat} (ht : t < 4) (hn : n ≤ 60) : ∀ (k i fu : Nat) (μ : sM), i + k = n → k < fu → X7_renew_L17 fu (nI t) (nI n) (nI i) μ = some (sD μ 40 t (fun j => if i ≤ j ∧ j < n then 0 else rL μ 40 t j))
  | 0, i, fu + 1, μ, h, _ => by
    unfold X7_renew_L17
    rw [if_pos (nI_le (by omega) (by omega)), sD_id]
    intro j
    rw [if_neg (by omega)]
  | k + 1, i, fu + 1, μ, h, hf => by
    unfold X7_renew_L17
    rw [if_neg (nI_ge (by omega) (by omega)), if_pos (inb_nI ht (by omega)), if_pos (inb_nI (by omega) (by omega)), ix_nI (by omega), ix_nI (by omega), Nat.zero_add, nI_1, renew_l ht hn k (i + 1) fu _ (by omega) (by omega), sD_wL]
    congr 1
    apply sD_c
    intro j
    by_cases e : j = i
    · subst e
      rw [if_neg (by omega), if_pos ⟨Nat.le_refl j, by omega⟩, rL_s]
    · rw [rL_j e]
      by_cases q : i + 1 ≤ j ∧ j < n
      · rw [if_pos q, if_pos ⟨by omega, q.2⟩]
      · rw [if_neg q, if_neg (by omega)]
theorem l60 (t j : Nat) : (60 : Int32) * nI t + nI j = nI (60 * t + j) := by
  rw [show (60 : Int32) = nI 60 from rfl, pk_mul, nI_add]
theorem trayM_l {t n : Nat} (ht : t < 4) (hn : n ≤ 60) : ∀ (k i fu : Nat) (μ : sM), i + k = n → k < fu → X12_tray_L74 fu (nI t) (nI n) (nI i) μ = some (1, sD μ 59 0 (fun j => if 60 * t + i ≤ j ∧ j < 60 * t + n then 0 else rL μ 59 0 j))
  | 0, i, fu + 1, μ, h, _ => by
    unfold X12_tray_L74
    rw [if_pos (nI_le (by omega) (by omega)), sD_id]
    intro j
    rw [if_neg (by omega)]
  | k + 1, i, fu + 1, μ, h, hf => by
    unfold X12_tray_L74
    rw [if_neg (nI_ge (by omega) (by omega)), l60, if_pos (inb_nI (by omega) (by omega)), ix_nI (by omega), nI_1, trayM_l ht hn k (i + 1) fu _ (by omega) (by omega), sD_wL]
    congr 2
    apply sD_c
    intro j
    by_cases e : j = 60 * t + i
    · subst e
      rw [if_neg (by omega), if_pos ⟨Nat.le_refl _, by omega⟩, rL_s]
    · rw [rL_j e]
      by_cases q : 60 * t + (i + 1) ≤ j ∧ j < 60 * t + n
      · rw [if_pos q, if_pos ⟨by omega, q.2⟩]
      · rw [if_neg q, if_neg (by omega)]
theorem m_tray (a b c : Int32) : BoI B (X11_tray a b c) (X12_tray a b c) := fun μ ν h => by
  unfold X11_tray X12_tray
  rw [isT_e, bI_s]
  simp only [lt_i, le_i, t0, show (4 : Int32).toInt = 4 from rfl, show (3 : Int32).toInt = 3 from rfl, show (60 : Int32).toInt = 60 from rfl]
  by_cases c1 : 0 ≤ a.toInt ∧ a.toInt < 4
  · have f1 : ¬ a.toInt < 0 := by omega
    have f2 : ¬ 4 ≤ a.toInt := by omega
    by_cases c2 : 0 ≤ b.toInt ∧ b.toInt ≤ 3
    · have f3 : ¬ b.toInt < 0 := by omega
      have f4 : b.toInt < 4 := by omega
      by_cases c3 : c.toInt ≤ 60
      · by_cases c4 : 0 ≤ c.toInt
        · obtain ⟨t, rfl, ht, ht'⟩ := seg_nI c1.1 (n := 4) (by omega) (by omega)
          obtain ⟨n, rfl, hn, hn'⟩ := seg_nI (a := c) c4 (n := 61) (by omega) (by omega)
          have i4 : inb (nI t) 4 = true := inb_nI ht (by omega)
          have rx := fun μ => renew_l ht (n := n) (by omega) n 0 fuN μ (by omega) (fuN_6 (by omega))
          have rm := fun μ => trayM_l ht (n := n) (by omega) n 0 fuN μ (by omega) (fuN_6 (by omega))
          rw [nI_0] at rx rm
          unfold X7_renew
          simp only [c1, c2, c3, c4, f1, f2, f3, f4, n10, i4, and_self, ↓reduceIte, rx, rm, bV_s, ix_nI (show t < 2 ^ 31 by omega)]
          refine ⟨1, _, _, rfl, rfl, Rel_g true false true true h ?_ ?_ ?_ (by simp) (fun _ => ?_) (by simp) (by simp) (by omega)⟩
          · exact kq_wI rfl (kq_sD (fun j => q40) (kq_wI rfl (kq_wI rfl kq_r)))
          · exact kq_sD (fun j => rfl) (kq_wI rfl (kq_wI rfl (kq_wI rfl (kq_wI rfl kq_r))))
          · rw [rI_s, rI_sD, rI_k (by decide), rI_k (by decide), rI_s]
          · refine RelT_t h.2.2.1 t (fun u hu ne => ⟨⟨?_, ?_, fun j => ?_⟩, ?_, ?_, fun j hj => ?_⟩) ⟨?_, Or.inr ⟨?_, ?_, ?_, fun j hj => ?_⟩⟩
            · rw [rI_k (by decide), rI_sD, rI_j ne, rI_k (by decide)]
            · rw [rI_k (by decide), rI_sD, rI_k (by decide), rI_j ne]
            · show rL (sD _ 40 t _) 40 u j = _
              rw [rL_sD, if_neg (fun q => ne q.2)]
              rfl
            · rw [rI_sD, rI_j ne, rI_k (by decide), m0_k (by decide)]
            · rw [rI_sD, rI_k (by decide), rI_j ne, m0_k (by decide)]
            · rw [sD_s, if_neg (by omega)]
              rfl
            · rw [rI_k (by decide), rI_sD, rI_sD, rI_s, rI_s]
            · rw [rI_sD, rI_s]
              exact ⟨c4, c3⟩
            · rw [rI_k (by decide), rI_sD, rI_k (by decide), rI_s, rI_sD, rI_k (by decide), rI_s]
            · rw [rI_sD, rI_k (by decide), rI_s]
              exact c2
            · rw [rI_sD, rI_s] at hj
              show rL (sD _ 40 t _) 40 t j = rL (sD _ 59 0 _) 59 0 _
              rw [sD_s, sD_s, if_pos (by omega), if_pos (by omega)]
        · refine ⟨0, _, _, ?_, ?_, re_b h 6⟩
          · simp only [c1, c3, c4, f3, f4, n10, and_self, ↓reduceIte]; rfl
          · simp only [f1, f2, c2, c3, c4, f3, ↓reduceIte]; rfl
      · refine ⟨0, _, _, ?_, ?_, re_b h 5⟩
        · simp only [c1, c3, f3, f4, n10, and_self, ↓reduceIte]; rfl
        · simp only [f1, f2, c2, c3, f3, ↓reduceIte]; rfl
    · refine ⟨0, _, _, ?_, ?_, re_b h 1⟩
      · rw [if_pos c1, if_neg n10]
        by_cases f3 : b.toInt < 0
        · rw [if_pos f3]; rfl
        · rw [if_neg f3, if_neg (by omega)]; rfl
      · rw [if_neg f1, if_neg f2]
        by_cases f3 : b.toInt < 0
        · rw [if_pos f3]; rfl
        · rw [if_neg f3, if_neg (by omega)]; rfl
  · refine ⟨0, _, _, ?_, ?_, re_b h 1⟩
    · rw [if_neg c1]; rfl
    · by_cases f1 : a.toInt < 0
      · rw [if_pos f1]; rfl
      · rw [if_neg f1, if_pos (by omega)]; rfl
end C88
