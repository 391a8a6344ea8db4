/-! 82: calls, one after another -/
/-- both answer alike, and the relation goes on -/
def BoI (B : Int) (X M : sM → Option (Int32 × sM)) : Prop := ∀ μ ν, Rel B μ ν → ∃ a μ' ν', X μ = some (a, μ') ∧ M ν = some (a, ν') ∧ Rel (B + 2000) μ' ν'
def BoL (B : Int) (X M : sM → Option (Int64 × sM)) : Prop := ∀ μ ν, Rel B μ ν → ∃ a μ' ν', X μ = some (a, μ') ∧ M ν = some (a, ν') ∧ Rel (B + 2000) μ' ν'
abbrev m0 (ν : sM) : sM := wI (wI ν 13 0 1 0) 13 0 0 0
theorem m0_k {ν : sM} {k i j : Nat} (h : k ≠ 13) : rI (m0 ν) k i j = rI ν k i j := by rw [rI_k h, rI_k h]
theorem m0_c (ν : sM) : rI (m0 ν) 61 0 = rI ν 61 0 := funext fun _ => m0_k (by decide)
theorem m0_q {ν : sM} : kq qB ν (m0 ν) := kq_wI rfl (kq_wI rfl kq_r)
section C82
variable {B : Int} {μ ν : sM}
theorem re_b (h : Rel B μ ν) (s : Int32) : Rel (B + 2000) (wI μ 12 0 0 s) (wI (m0 ν) 13 0 0 s) :=
  Rel_q h (kq_wI rfl kq_r) (kq_wI rfl m0_q) (by rw [rI_s, rI_s]) (by omega)
theorem gi_b (h : Rel B μ ν) : Rel (B + 2000) (wI μ 12 0 0 0) (m0 ν) :=
  Rel_q h (kq_wI rfl kq_r) m0_q (by rw [rI_s, rI_s]) (by omega)
theorem m_status : BoI B X11_status X12_status := fun μ ν h => ⟨_, _, _, rfl, by unfold X12_status; rw [h.1], Rel_q h kq_r (kq_wI rfl kq_r) (by rw [rI_j (by decide)]; exact h.1) (by omega)⟩
theorem m_top : BoL B X11_top X12_top := fun μ ν h => ⟨_, _, _, rfl, by unfold X12_top; rw [h.2.1.1], Rel_q h kq_r (kq_wI rfl kq_r) (by rw [rI_j (by decide)]; exact h.1) (by omega)⟩
theorem m_bottom : BoL B X11_bottom X12_bottom := fun μ ν h => ⟨_, _, _, rfl, by unfold X12_bottom; rw [h.2.1.2], Rel_q h kq_r (kq_wI rfl kq_r) (by rw [rI_j (by decide)]; exact h.1) (by omega)⟩
theorem m_turnsLeft : BoI B X11_turnsLeft X12_turnsLeft := fun μ ν h => by
  obtain ⟨-, hR, -, -, -⟩ := Rel_i h
  refine ⟨rI μ 5 0 0, _, _, rfl, ?_, gi_b h⟩
  unfold X12_turnsLeft
  rw [hR.1.2.2.2.2.2.2.2.2.2]
/-! ranges as the two ask for them -/
theorem isIn_e (a l h : Int64) (ν : sM) : X12_isIn a l h ν = some (if l ≤ a ∧ a ≤ h then 1 else 0, ν) := by
  unfold X12_isIn
  by_cases c1 : lg_cmp a l < 0
  · have : a < l := by
      rcases Int64.lt_or_le a l with z | z
      · exact z
      · exact absurd ((lg_cmp_ge a l).mpr z) (Int32.not_le.mpr c1)
    rw [if_pos c1, if_neg (fun z => absurd z.1 (Int64.not_le.mpr this))]
  · have la : l ≤ a := (lg_cmp_ge a l).mp (Int32.not_lt.mp c1)
    rw [if_neg c1]
    by_cases c2 : 0 < lg_cmp a h
    · rw [if_pos c2, if_neg]
      intro z
      unfold lg_cmp at c2
      rw [if_neg (show ¬ a > h from Int64.not_lt.mpr z.2)] at c2
      by_cases e : a = h
      · rw [if_pos e] at c2
        exact absurd c2 (by decide +kernel)
      · rw [if_neg e] at c2
        exact absurd c2 (by decide +kernel)
    · have ah : a ≤ h := by
        rcases Int64.lt_or_le h a with z | z
        · exfalso
          apply c2
          unfold lg_cmp
          rw [if_pos (show a > h from z)]
          decide +kernel
        · exact z
      rw [if_neg c2, if_pos ⟨la, ah⟩]
theorem isIn_i (a : Int32) (l h : Int64) (ν : sM) : X12_isIn a.toInt64 l h ν = some (if l.toInt ≤ a.toInt ∧ a.toInt ≤ h.toInt then 1 else 0, ν) := by
  rw [isIn_e]
  simp only [Int64.le_iff_toInt_le, tX]
theorem isR_e (a : Int32) (ν : sM) (h : 0 ≤ (rI ν 61 0 0).toInt) : X12_isReachAt a ν = some (if 0 ≤ a.toInt ∧ a.toInt < (rI ν 61 0 0).toInt then 1 else 0, ν) := by
  unfold X12_isReachAt
  have e : (rI ν 61 0 0 - 1).toInt = (rI ν 61 0 0).toInt - 1 := by
    have := Int32.toInt_lt (rI ν 61 0 0)
    rw [tS (by rw [t1]; omega) (by rw [t1]; omega), t1]
  rw [isIn_i, bI_s, tX, e, show (0 : Int64).toInt = 0 from rfl]
  have q : (if 0 ≤ a.toInt ∧ a.toInt ≤ (rI ν 61 0 0).toInt - 1 then (1 : Int32) else 0) = if 0 ≤ a.toInt ∧ a.toInt < (rI ν 61 0 0).toInt then 1 else 0 := by
    by_cases c : 0 ≤ a.toInt ∧ a.toInt < (rI ν 61 0 0).toInt
    · rw [if_pos c, if_pos ⟨c.1, by omega⟩]
    · rw [if_neg c, if_neg (by omega)]
  rw [q]
  by_cases c : 0 ≤ a.toInt ∧ a.toInt < (rI ν 61 0 0).toInt
  · rw [if_pos c]
    rfl
  · rw [if_neg c]
    rfl
theorem isM_e (a : Int32) (ν : sM) (h : 0 ≤ (rI ν 61 0 1).toInt) : X12_isMillAt a ν = some (if 0 ≤ a.toInt ∧ a.toInt < (rI ν 61 0 1).toInt then 1 else 0, ν) := by
  unfold X12_isMillAt
  have e : (rI ν 61 0 1 - 1).toInt = (rI ν 61 0 1).toInt - 1 := by
    have := Int32.toInt_lt (rI ν 61 0 1)
    rw [tS (by rw [t1]; omega) (by rw [t1]; omega), t1]
  rw [isIn_i, bI_s, tX, e, show (0 : Int64).toInt = 0 from rfl]
  have q : (if 0 ≤ a.toInt ∧ a.toInt ≤ (rI ν 61 0 1).toInt - 1 then (1 : Int32) else 0) = if 0 ≤ a.toInt ∧ a.toInt < (rI ν 61 0 1).toInt then 1 else 0 := by
    by_cases c : 0 ≤ a.toInt ∧ a.toInt < (rI ν 61 0 1).toInt
    · rw [if_pos c, if_pos ⟨c.1, by omega⟩]
    · rw [if_neg c, if_neg (by omega)]
  rw [q]
  by_cases c : 0 ≤ a.toInt ∧ a.toInt < (rI ν 61 0 1).toInt
  · rw [if_pos c]
    rfl
  · rw [if_neg c]
    rfl
theorem isW_e (a : Int32) (ν : sM) (h : 0 ≤ (rI ν 61 0 2).toInt) : X12_isWinderAt a ν = some (if 0 ≤ a.toInt ∧ a.toInt < (rI ν 61 0 2).toInt then 1 else 0, ν) := by
  unfold X12_isWinderAt
  have e : (rI ν 61 0 2 - 1).toInt = (rI ν 61 0 2).toInt - 1 := by
    have := Int32.toInt_lt (rI ν 61 0 2)
    rw [tS (by rw [t1]; omega) (by rw [t1]; omega), t1]
  rw [isIn_i, bI_s, tX, e, show (0 : Int64).toInt = 0 from rfl]
  have q : (if 0 ≤ a.toInt ∧ a.toInt ≤ (rI ν 61 0 2).toInt - 1 then (1 : Int32) else 0) = if 0 ≤ a.toInt ∧ a.toInt < (rI ν 61 0 2).toInt then 1 else 0 := by
    by_cases c : 0 ≤ a.toInt ∧ a.toInt < (rI ν 61 0 2).toInt
    · rw [if_pos c, if_pos ⟨c.1, by omega⟩]
    · rw [if_neg c, if_neg (by omega)]
  rw [q]
  by_cases c : 0 ≤ a.toInt ∧ a.toInt < (rI ν 61 0 2).toInt
  · rw [if_pos c]
    rfl
  · rw [if_neg c]
    rfl
theorem le_i (a b : Int32) : a ≤ b ↔ a.toInt ≤ b.toInt := Int32.le_iff_toInt_le
theorem lt_i (a b : Int32) : a < b ↔ a.toInt < b.toInt := Int32.lt_iff_toInt_lt
theorem hasR_e (r : Nat) (a : Int32) (μ : sM) : X4_hasReach r a μ = some (if 0 ≤ a.toInt ∧ a.toInt < (rI μ 4 r 0).toInt then 1 else 0, μ) := by
  unfold X4_hasReach
  simp only [le_i, lt_i, t0]
  by_cases c : a.toInt < 0
  · rw [if_pos c, if_neg (by omega)]
  · rw [if_neg c]
    by_cases d : (rI μ 4 r 0).toInt ≤ a.toInt
    · rw [if_pos d, if_neg (by omega)]
    · rw [if_neg d, if_pos (by omega)]
theorem hasM_e (r : Nat) (a : Int32) (μ : sM) : X4_hasMill r a μ = some (if 0 ≤ a.toInt ∧ a.toInt < (rI μ 3 r 0).toInt then 1 else 0, μ) := by
  unfold X4_hasMill
  simp only [le_i, lt_i, t0]
  by_cases c : a.toInt < 0
  · rw [if_pos c, if_neg (by omega)]
  · rw [if_neg c]
    by_cases d : (rI μ 3 r 0).toInt ≤ a.toInt
    · rw [if_pos d, if_neg (by omega)]
    · rw [if_neg d, if_pos (by omega)]
theorem hasW_e (r : Nat) (a : Int32) (μ : sM) : X4_hasWinder r a μ = some (if 0 ≤ a.toInt ∧ a.toInt < (rI μ 11 r 0).toInt then 1 else 0, μ) := by
  unfold X4_hasWinder
  simp only [le_i, lt_i, t0]
  by_cases c : a.toInt < 0
  · rw [if_pos c, if_neg (by omega)]
  · rw [if_neg c]
    by_cases d : (rI μ 11 r 0).toInt ≤ a.toInt
    · rw [if_pos d, if_neg (by omega)]
    · rw [if_neg d, if_pos (by omega)]
end C82
