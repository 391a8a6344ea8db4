/-! 73: an HOUR as a function of the row, and the reference's HOUR by it -/
def paF (f : Nat → Int32) (j : Nat) : Int32 := imn (f (22 + j)) (f (28 + j))
def dnF (f p : Nat → Int32) (n : Nat) : Nat → Int32 := fun j => if j = 10 then f 10 + (if n = 0 then f 9 else p (n - 1)) else if j = 14 then f 14 + f 9 else if 28 ≤ j ∧ j < 28 + n then f j + ((if j = 28 then f 9 else p (j - 29)) - p (j - 28)) else f j
def upF (f p : Nat → Int32) (n : Nat) : Nat → Int32 := fun j => if j = 12 then f 12 + (if n = 0 then -(f 9) else p 0) else if j = 11 then f 11 + (-(f 9)) else if 28 ≤ j ∧ j < 28 + n then f j + ((if j + 1 = 28 + n then -(f 9) else p (j - 27)) - p (j - 28)) else f j
def drF (f : Nat → Int32) : Int32 := f 7 * f 4
def flF (f : Nat → Int32) (j : Nat) : Int32 := imx 0 ((f (28 + j) + drF f) - f (16 + j))
def rnF (f : Nat → Int32) (n : Nat) : Nat → Int32 := fun j => if j = 15 then f 15 + sgm (fun _ => drF f) 0 n else if j = 13 then f 13 + sgm (flF f) 0 n else if 28 ≤ j ∧ j < 28 + n then f j + (drF f - flF f (j - 28)) else f j
abbrev grF (f p : Nat → Int32) (j : Nat) : Prop := f (40 + j) ≤ p (ix (f (34 + j)))
def gd1 (f p : Nat → Int32) (j : Nat) : Int32 := if grF f p j then 1 else 0
def gdF (f p : Nat → Int32) (m : Nat) : Nat → Int32 := fun j => if 46 ≤ j ∧ j < 46 + m ∧ grF f p (j - 46) then f j + 1 else f j
def slM (t b : Int32) : Int32 := if t ≤ 0 then imn 0 (t + b) else imx 0 (t - b)
def enF (f : Nat → Int32) : Nat → Int32 := fun j => if j = 6 then f 6 + 1 else if j = 8 then imx 0 (f 8 - 1) else if j = 9 then slM (f 9) (slk (f 3) (f 8)) else f j
/-- the row behind the water's run, with p what passed -/
def flowF (f p : Nat → Int32) (n : Nat) : Nat → Int32 := if f 9 < 0 then upF f p n else dnF f p n
def hrF (f p : Nat → Int32) (n m : Nat) : Nat → Int32 := enF (gdF (rnF (flowF f p n) n) p m)
/-- a memory of the reference by its three rows -/
def nf (ν : sM) (P Q F : Nat → Int32) : sM := sC (sC (sC ν 65 0 P) 66 0 Q) 61 0 F
theorem nf_c {ν : sM} {P Q F : Nat → Int32} {j : Nat} : rI (nf ν P Q F) 61 0 j = F j := sC_s
theorem nf_p {ν : sM} {P Q F : Nat → Int32} {j : Nat} : rI (nf ν P Q F) 65 0 j = P j := by
  unfold nf
  rw [sC_k (by decide), sC_k (by decide), sC_s]
theorem nf_q {ν : sM} {P Q F : Nat → Int32} {j : Nat} : rI (nf ν P Q F) 66 0 j = Q j := by
  unfold nf
  rw [sC_k (by decide), sC_s]
theorem nf_w (ν : sM) (P Q F : Nat → Int32) (j : Nat) (v : Int32) : wI (nf ν P Q F) 61 0 j v = nf ν P Q (upd F j v) := wI_sC _ _ _ _ _ _
theorem nf_sc (ν : sM) (P Q F G : Nat → Int32) : sC (nf ν P Q F) 61 0 G = nf ν P Q G := sC_sC _ _ _ _ _
theorem nf_sq (ν : sM) (P Q F G : Nat → Int32) : sC (nf ν P Q F) 66 0 G = nf ν P G F := by
  unfold nf
  rw [sC_cm _ _ _ _ _ (by decide), sC_sC]
theorem nf_sp (ν : sM) (P Q F G : Nat → Int32) : sC (nf ν P Q F) 65 0 G = nf ν G Q F := by
  unfold nf
  rw [sC_cm _ _ _ _ _ (by decide), sC_cm (sC ν 65 0 P) _ _ _ _ (by decide), sC_sC]
theorem nf_id (ν : sM) : nf ν (rI ν 65 0) (rI ν 66 0) (rI ν 61 0) = ν := by
  unfold nf
  rw [sC_id ν 65 0 _ (fun _ => rfl), sC_id ν 66 0 _ (fun _ => rfl), sC_id ν 61 0 _ (fun _ => rfl)]
theorem nf_e {ν : sM} {P P' Q Q' F F' : Nat → Int32} (h1 : ∀ j, P j = P' j) (h2 : ∀ j, Q j = Q' j) (h3 : ∀ j, F j = F' j) : nf ν P Q F = nf ν P' Q' F' := by
  rw [funext h1, funext h2, funext h3]
theorem flowsDown_nf {ν : sM} {P Q F : Nat → Int32} {n : Nat} (hn : n ≤ 6) (hc : F 0 = nI n) : X12_flowsDown (nf ν P Q F) = some (nf ν P Q (dnF F P n)) := by
  unfold X12_flowsDown
  rw [nf_w, nf_c, nf_c]
  have h := flowsDown_l n hn n 0 fuN (F 9) (nf ν P Q (upd F 14 (F 14 + F 9))) (by omega) (fuN_6 (by omega)) (by rw [nf_c, upd_n (by decide)]; exact hc)
  rw [nI_0] at h
  rw [h, nf_sc, nf_w]
  congr 1
  refine nf_e (fun _ => rfl) (fun _ => rfl) (fun j => ?_)
  unfold dnF
  simp only [nf_c, nf_p]
  by_cases a : j = 10
  · rw [if_pos a, a, upd_s, upd_n (by decide)]
  · rw [if_neg a, upd_n a]
    by_cases b : j = 14
    · rw [if_pos b, b, if_neg (by omega), upd_s]
    · rw [if_neg b]
      by_cases q : 28 ≤ j ∧ j < 28 + n
      · rw [if_pos q, if_pos (show 28 + 0 ≤ j ∧ j < 28 + n from q), upd_n b]
      · rw [if_neg q, if_neg (show ¬ (28 + 0 ≤ j ∧ j < 28 + n) from q), upd_n b]
theorem flowsUp_nf {ν : sM} {P Q F : Nat → Int32} {n : Nat} (hn : n ≤ 6) (hc : F 0 = nI n) : X12_flowsUp (nf ν P Q F) = some (nf ν P Q (upF F P n)) := by
  unfold X12_flowsUp
  rw [nf_w, nf_c, nf_c, nf_c, hc]
  rw [flowsUp_l n hn n fuN (-(F 9)) (nf ν P Q (upd F 11 (F 11 + (-(F 9))))) (Nat.le_refl n) (fuN_6 (by omega))]
  rw [nf_sc, nf_w]
  congr 1
  refine nf_e (fun _ => rfl) (fun _ => rfl) (fun j => ?_)
  unfold upF
  simp only [nf_c, nf_p]
  by_cases a : j = 12
  · rw [if_pos a, a, upd_s, upd_n (by decide)]
  · rw [if_neg a, upd_n a]
    by_cases b : j = 11
    · rw [if_pos b, b, if_neg (by omega), upd_s]
    · rw [if_neg b]
      by_cases q : 28 ≤ j ∧ j < 28 + n
      · rw [if_pos q, if_pos q, upd_n b]
      · rw [if_neg q, if_neg q, upd_n b]
theorem rain_nf {ν : sM} {P Q F : Nat → Int32} {n : Nat} (hn : n ≤ 6) (hc : F 0 = nI n) : X12_rainsAndFloods (nf ν P Q F) = some (nf ν P (fun j => if j < n then flF F j else Q j) (rnF F n)) := by
  rw [rain_e hn (by rw [nf_c]; exact hc), nf_sq, nf_sc]
  congr 1
theorem grM_nf {ν : sM} {P Q F : Nat → Int32} {j : Nat} : grM (nf ν P Q F) j ↔ grF F P j := by
  show rI _ 61 0 (40 + j) ≤ rI _ 65 0 (ix (rI _ 61 0 (34 + j))) ↔ _
  rw [nf_c, nf_c, nf_p]
theorem l58_nf {ν : sM} {P Q F : Nat → Int32} {m : Nat} (hm : m ≤ 6) (hc : F 1 = nI m) (ha : ∀ j, j < m → inb (F (34 + j)) 6 = true) : X12_goesHour_L58 fuN 0 0 (nf ν P Q F) = some (sgm (gd1 F P) 0 m, nf ν P Q (enF (gdF F P m))) := by
  have h := hourM_l58 m hm m 0 fuN 0 (nf ν P Q F) (by omega) (fuN_6 (by omega)) (by rw [nf_c]; exact hc) (fun j hj => by rw [nf_c]; exact ha j hj)
  rw [nI_0] at h
  rw [h, nf_sc]
  have eg : sgm (gM1 (nf ν P Q F)) 0 m = sgm (gd1 F P) 0 m := sgm_c m 0 (fun j _ _ => by
    show (if grM _ j then (1 : Int32) else 0) = _
    unfold gd1
    simp only [grM_nf])
  have ec : nf ν P Q (fun j => if 46 + 0 ≤ j ∧ j < 46 + m ∧ grM (nf ν P Q F) (j - 46) then rI (nf ν P Q F) 61 0 j + 1 else rI (nf ν P Q F) 61 0 j) = nf ν P Q (gdF F P m) := by
    refine nf_e (fun _ => rfl) (fun _ => rfl) (fun j => ?_)
    unfold gdF
    simp only [grM_nf, nf_c, Nat.add_zero]
  rw [eg, ec, Int32.zero_add]
  obtain ⟨w, hw⟩ : ∃ w, fuN - m = w + 1 := ⟨fuN - m - 1, by have := fuN_6 (k := m) (by omega); omega⟩
  rw [hw, X12_goesHour_L58]
  have g1 : gdF F P m 1 = nI m := by unfold gdF; rw [if_neg (by omega)]; exact hc
  rw [nf_c, g1, if_pos (nI_le (Nat.le_refl m) (by omega))]
  have es : X12_slackNow (rI (nf ν P Q (gdF F P m)) 61 0 8) (nf ν P Q (gdF F P m)) = some (slk (gdF F P m 3) (gdF F P m 8), nf ν P Q (gdF F P m)) := by
    unfold X12_slackNow
    rw [nf_c, nf_c]
    by_cases z : gdF F P m 8 ≤ 0
    · rw [if_pos z, show slk (gdF F P m 3) (gdF F P m 8) = _ from if_pos z]
    · rw [if_neg z, show slk (gdF F P m 3) (gdF F P m 8) = _ from if_neg z]
  rw [es, bI_s]
  have et : ∀ b, X12_slackened (rI (nf ν P Q (gdF F P m)) 61 0 9) b (nf ν P Q (gdF F P m)) = some (slM (gdF F P m 9) b, nf ν P Q (gdF F P m)) := by
    intro b
    unfold X12_slackened slM
    rw [nf_c]
    by_cases z : gdF F P m 9 ≤ 0
    · rw [if_pos z, if_pos z]
    · rw [if_neg z, if_neg z]
  rw [et, bI_s, nf_w, nf_w, nf_w, nf_c, nf_c]
  congr 2
/-- the reference's HOUR, whole -/
theorem hourM_e {ν : sM} {n m : Nat} (hn : n ≤ 6) (hm : m ≤ 6) (hc : rI ν 61 0 0 = nI n) (hd : rI ν 61 0 1 = nI m) (ha : ∀ j, j < m → inb (rI ν 61 0 (34 + j)) 6 = true) (P : Nat → Int32) (hP : P = fun j => if j < n then paF (rI ν 61 0) j else rI ν 65 0 j) :
    X12_goesHour ν = some (sgm (gd1 (rnF (flowF (rI ν 61 0) P n) n) P) 0 m, nf ν P (fun j => if j < n then flF (flowF (rI ν 61 0) P n) j else rI ν 66 0 j) (hrF (rI ν 61 0) P n m)) := by
  unfold X12_goesHour
  have h := hourM_l2 n hn n 0 fuN ν (by omega) (fuN_6 (by omega)) hc
  rw [nI_0] at h
  have e0 : sC ν 65 0 (fun j => if 0 ≤ j ∧ j < n then imn (rI ν 61 0 (22 + j)) (rI ν 61 0 (28 + j)) else rI ν 65 0 j) = nf ν P (rI ν 66 0) (rI ν 61 0) := by
    have e1 := nf_sp ν (rI ν 65 0) (rI ν 66 0) (rI ν 61 0) P
    rw [nf_id] at e1
    rw [← e1, hP]
    apply sC_c
    intro j
    simp only [Nat.zero_le, true_and]
    rfl
  rw [h, e0]
  obtain ⟨w, hw⟩ : ∃ w, fuN - n = w + 1 := ⟨fuN - n - 1, by have := fuN_6 (k := n) (by omega); omega⟩
  rw [hw, X12_goesHour_L2, nf_c, hc, if_pos (nI_le (Nat.le_refl n) (by omega)), nf_c]
  have fl0 : ∀ F : Nat → Int32, (F = upF (rI ν 61 0) P n ∨ F = dnF (rI ν 61 0) P n) → (∀ j, j < 10 → F j = rI ν 61 0 j) ∧ (∀ j, j < 6 → F (34 + j) = rI ν 61 0 (34 + j)) := by
    intro F hF
    rcases hF with rfl | rfl
    · constructor
      · intro j hj
        unfold upF
        rw [if_neg (by omega), if_neg (by omega), if_neg (by omega)]
      · intro j hj
        unfold upF
        rw [if_neg (by omega), if_neg (by omega), if_neg (by omega)]
    · constructor
      · intro j hj
        unfold dnF
        rw [if_neg (by omega), if_neg (by omega), if_neg (by omega)]
      · intro j hj
        unfold dnF
        rw [if_neg (by omega), if_neg (by omega), if_neg (by omega)]
  have tail : ∀ F : Nat → Int32, (F = upF (rI ν 61 0) P n ∨ F = dnF (rI ν 61 0) P n) → X12_goesHour_J50 (nf ν P (rI ν 66 0) F) = some (sgm (gd1 (rnF F n) P) 0 m, nf ν P (fun j => if j < n then flF F j else rI ν 66 0 j) (enF (gdF (rnF F n) P m))) := by
    intro F hF
    obtain ⟨a1, a2⟩ := fl0 F hF
    unfold X12_goesHour_J50
    rw [rain_nf hn (by rw [a1 0 (by omega)]; exact hc), bV_s]
    have r1 : rnF F n 1 = nI m := by
      unfold rnF
      rw [if_neg (by decide), if_neg (by decide), if_neg (by omega), a1 1 (by omega)]
      exact hd
    rw [l58_nf hm r1 (fun j hj => by
      unfold rnF
      rw [if_neg (by omega), if_neg (by omega), if_neg (by omega), a2 j (by omega)]
      exact ha j hj)]
  by_cases t : rI ν 61 0 9 < 0
  · rw [if_pos t, flowsUp_nf hn hc, bV_s, tail _ (Or.inl rfl)]
    unfold hrF flowF
    rw [if_pos t]
  · rw [if_neg t, flowsDown_nf hn hc, bV_s, tail _ (Or.inr rfl)]
    unfold hrF flowF
    rw [if_neg t]
