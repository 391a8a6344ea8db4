/-! 59: what a method leaves alone -/
def pM (k _ : Nat) : Bool := k == 0 || (k == 13 || Nat.ble 57 k)
def pX (k _ : Nat) : Bool := Nat.ble k 12 || (Nat.ble 20 k && Nat.ble k 56)
def keep (P : Nat → Nat → Bool) (μ ρ : sM) : Prop := ∀ k i, P k i = true → ∀ j, rI ρ k i j = rI μ k i j ∧ rL ρ k i j = rL μ k i j ∧ rR ρ k i j = rR μ k i j
theorem keep_r {P : Nat → Nat → Bool} {μ : sM} : keep P μ μ := fun _ _ _ _ => ⟨rfl, rfl, rfl⟩
theorem keep_t {P : Nat → Nat → Bool} {μ ν ρ : sM} (h : keep P μ ν) (h' : keep P ν ρ) : keep P μ ρ := fun k i hk j => ⟨(h' k i hk j).1.trans (h k i hk j).1, (h' k i hk j).2.1.trans (h k i hk j).2.1, (h' k i hk j).2.2.trans (h k i hk j).2.2⟩
theorem keep_wI {P : Nat → Nat → Bool} {μ ν : sM} {k i j : Nat} {v : Int32} (hk : P k i = false) (h : keep P μ ν) : keep P μ (wI ν k i j v) := fun a b ha c => ⟨by
  rw [rI_wI, if_neg (fun q => by rw [q.1, q.2.2, hk] at ha; cases ha)]
  exact (h a b ha c).1, (h a b ha c).2⟩
theorem keep_wL {P : Nat → Nat → Bool} {μ ν : sM} {k i j : Nat} {v : Int64} (hk : P k i = false) (h : keep P μ ν) : keep P μ (wL ν k i j v) := fun a b ha c => ⟨(h a b ha c).1, by
  rw [rL_wL, if_neg (fun q => by rw [q.1, q.2.2, hk] at ha; cases ha)]
  exact (h a b ha c).2.1, (h a b ha c).2.2⟩
theorem keep_wR {P : Nat → Nat → Bool} {μ ν : sM} {k i j : Nat} {v : Nat} (hk : P k i = false) (h : keep P μ ν) : keep P μ (wR ν k i j v) := fun a b ha c => ⟨(h a b ha c).1, (h a b ha c).2.1, by
  rw [rR_wR, if_neg (fun q => by rw [q.1, q.2.2, hk] at ha; cases ha)]
  exact (h a b ha c).2.2⟩
theorem keep_cI {P : Nat → Nat → Bool} {μ ν : sM} {k i sp k' i' dp n : Nat} (hk : P k' i' = false) (h : keep P μ ν) : keep P μ (cI ν k i sp k' i' dp n) := fun a b ha c => ⟨by
  rw [rI_cI, if_neg (fun q => by rw [q.1, q.2.1, hk] at ha; cases ha)]
  exact (h a b ha c).1, (h a b ha c).2⟩
theorem keep_cL {P : Nat → Nat → Bool} {μ ν : sM} {k i sp k' i' dp n : Nat} (hk : P k' i' = false) (h : keep P μ ν) : keep P μ (cL ν k i sp k' i' dp n) := fun a b ha c => ⟨(h a b ha c).1, by
  rw [rL_cL, if_neg (fun q => by rw [q.1, q.2.1, hk] at ha; cases ha)]
  exact (h a b ha c).2.1, (h a b ha c).2.2⟩
def kI (P : Nat → Nat → Bool) (μ : sM) (o : Option (Int32 × sM)) : Prop := ∀ x ρ, o = some (x, ρ) → keep P μ ρ
def kL (P : Nat → Nat → Bool) (μ : sM) (o : Option (Int64 × sM)) : Prop := ∀ x ρ, o = some (x, ρ) → keep P μ ρ
def kA (P : Nat → Nat → Bool) (μ : sM) (o : Option (Nat × sM)) : Prop := ∀ x ρ, o = some (x, ρ) → keep P μ ρ
def kV (P : Nat → Nat → Bool) (μ : sM) (o : Option sM) : Prop := ∀ ρ, o = some ρ → keep P μ ρ
theorem kI_none {P : Nat → Nat → Bool} {μ : sM} : kI P μ none := fun _ _ h => by cases h
theorem kI_some {P : Nat → Nat → Bool} {μ ρ : sM} {x : Int32} (h : keep P μ ρ) : kI P μ (some (x, ρ)) := fun _ _ e => by
  cases e
  exact h
theorem kI_ite {P : Nat → Nat → Bool} {μ : sM} {c : Prop} [Decidable c] {a b : Option (Int32 × sM)} (ha : kI P μ a) (hb : kI P μ b) : kI P μ (if c then a else b) := by
  by_cases h : c
  · rw [if_pos h]
    exact ha
  · rw [if_neg h]
    exact hb
theorem kI_ck {P : Nat → Nat → Bool} {μ : sM} {c : Prop} [Decidable c] {a : Option (Int32 × sM)} (ha : kI P μ a) : kI P μ (if c then a else none) := kI_ite ha kI_none
theorem kI_cn {P : Nat → Nat → Bool} {μ : sM} {c : Prop} [Decidable c] {a : Option (Int32 × sM)} (ha : kI P μ a) : kI P μ (if c then none else a) := kI_ite kI_none ha
theorem kI_to {P : Nat → Nat → Bool} {μ ν : sM} {a : Option (Int32 × sM)} (h : keep P μ ν) (ha : kI P ν a) : kI P μ a := fun x ρ e => keep_t h (ha x ρ e)
theorem kI_bI {P : Nat → Nat → Bool} {μ ν : sM} {f : Option (Int32 × sM)} {kk : Int32 → sM → Option (Int32 × sM)} (h : keep P μ ν) (hf : kI P ν f) (hk : ∀ x ρ, keep P μ ρ → kI P μ (kk x ρ)) : kI P μ (bI f kk) := by
  cases f with
  | none => exact kI_none
  | some z =>
    obtain ⟨x, ρ⟩ := z
    exact hk x ρ (keep_t h (hf x ρ rfl))
theorem kI_bL {P : Nat → Nat → Bool} {μ ν : sM} {f : Option (Int64 × sM)} {kk : Int64 → sM → Option (Int32 × sM)} (h : keep P μ ν) (hf : kL P ν f) (hk : ∀ x ρ, keep P μ ρ → kI P μ (kk x ρ)) : kI P μ (bL f kk) := by
  cases f with
  | none => exact kI_none
  | some z =>
    obtain ⟨x, ρ⟩ := z
    exact hk x ρ (keep_t h (hf x ρ rfl))
theorem kI_bA {P : Nat → Nat → Bool} {μ ν : sM} {f : Option (Nat × sM)} {kk : Nat → sM → Option (Int32 × sM)} (h : keep P μ ν) (hf : kA P ν f) (hk : ∀ x ρ, keep P μ ρ → kI P μ (kk x ρ)) : kI P μ (bA f kk) := by
  cases f with
  | none => exact kI_none
  | some z =>
    obtain ⟨x, ρ⟩ := z
    exact hk x ρ (keep_t h (hf x ρ rfl))
theorem kI_bV {P : Nat → Nat → Bool} {μ ν : sM} {f : Option (sM)} {kk : sM → Option (Int32 × sM)} (h : keep P μ ν) (hf : kV P ν f) (hk : ∀ ρ, keep P μ ρ → kI P μ (kk ρ)) : kI P μ (bV f kk) := by
  cases f with
  | none => exact kI_none
  | some z =>
    exact hk z (keep_t h (hf z rfl))
theorem kL_none {P : Nat → Nat → Bool} {μ : sM} : kL P μ none := fun _ _ h => by cases h
theorem kL_some {P : Nat → Nat → Bool} {μ ρ : sM} {x : Int64} (h : keep P μ ρ) : kL P μ (some (x, ρ)) := fun _ _ e => by
  cases e
  exact h
theorem kL_ite {P : Nat → Nat → Bool} {μ : sM} {c : Prop} [Decidable c] {a b : Option (Int64 × sM)} (ha : kL P μ a) (hb : kL P μ b) : kL P μ (if c then a else b) := by
  by_cases h : c
  · rw [if_pos h]
    exact ha
  · rw [if_neg h]
    exact hb
theorem kL_ck {P : Nat → Nat → Bool} {μ : sM} {c : Prop} [Decidable c] {a : Option (Int64 × sM)} (ha : kL P μ a) : kL P μ (if c then a else none) := kL_ite ha kL_none
theorem kL_cn {P : Nat → Nat → Bool} {μ : sM} {c : Prop} [Decidable c] {a : Option (Int64 × sM)} (ha : kL P μ a) : kL P μ (if c then none else a) := kL_ite kL_none ha
theorem kL_to {P : Nat → Nat → Bool} {μ ν : sM} {a : Option (Int64 × sM)} (h : keep P μ ν) (ha : kL P ν a) : kL P μ a := fun x ρ e => keep_t h (ha x ρ e)
theorem kL_bI {P : Nat → Nat → Bool} {μ ν : sM} {f : Option (Int32 × sM)} {kk : Int32 → sM → Option (Int64 × sM)} (h : keep P μ ν) (hf : kI P ν f) (hk : ∀ x ρ, keep P μ ρ → kL P μ (kk x ρ)) : kL P μ (bI f kk) := by
  cases f with
  | none => exact kL_none
  | some z =>
    obtain ⟨x, ρ⟩ := z
    exact hk x ρ (keep_t h (hf x ρ rfl))
theorem kL_bL {P : Nat → Nat → Bool} {μ ν : sM} {f : Option (Int64 × sM)} {kk : Int64 → sM → Option (Int64 × sM)} (h : keep P μ ν) (hf : kL P ν f) (hk : ∀ x ρ, keep P μ ρ → kL P μ (kk x ρ)) : kL P μ (bL f kk) := by
  cases f with
  | none => exact kL_none
  | some z =>
    obtain ⟨x, ρ⟩ := z
    exact hk x ρ (keep_t h (hf x ρ rfl))
theorem kL_bA {P : Nat → Nat → Bool} {μ ν : sM} {f : Option (Nat × sM)} {kk : Nat → sM → Option (Int64 × sM)} (h : keep P μ ν) (hf : kA P ν f) (hk : ∀ x ρ, keep P μ ρ → kL P μ (kk x ρ)) : kL P μ (bA f kk) := by
  cases f with
  | none => exact kL_none
  | some z =>
    obtain ⟨x, ρ⟩ := z
    exact hk x ρ (keep_t h (hf x ρ rfl))
theorem kL_bV {P : Nat → Nat → Bool} {μ ν : sM} {f : Option (sM)} {kk : sM → Option (Int64 × sM)} (h : keep P μ ν) (hf : kV P ν f) (hk : ∀ ρ, keep P μ ρ → kL P μ (kk ρ)) : kL P μ (bV f kk) := by
  cases f with
  | none => exact kL_none
  | some z =>
    exact hk z (keep_t h (hf z rfl))
theorem kA_none {P : Nat → Nat → Bool} {μ : sM} : kA P μ none := fun _ _ h => by cases h
theorem kA_some {P : Nat → Nat → Bool} {μ ρ : sM} {x : Nat} (h : keep P μ ρ) : kA P μ (some (x, ρ)) := fun _ _ e => by
  cases e
  exact h
theorem kA_ite {P : Nat → Nat → Bool} {μ : sM} {c : Prop} [Decidable c] {a b : Option (Nat × sM)} (ha : kA P μ a) (hb : kA P μ b) : kA P μ (if c then a else b) := by
  by_cases h : c
  · rw [if_pos h]
    exact ha
  · rw [if_neg h]
    exact hb
theorem kA_ck {P : Nat → Nat → Bool} {μ : sM} {c : Prop} [Decidable c] {a : Option (Nat × sM)} (ha : kA P μ a) : kA P μ (if c then a else none) := kA_ite ha kA_none
theorem kA_cn {P : Nat → Nat → Bool} {μ : sM} {c : Prop} [Decidable c] {a : Option (Nat × sM)} (ha : kA P μ a) : kA P μ (if c then none else a) := kA_ite kA_none ha
theorem kA_to {P : Nat → Nat → Bool} {μ ν : sM} {a : Option (Nat × sM)} (h : keep P μ ν) (ha : kA P ν a) : kA P μ a := fun x ρ e => keep_t h (ha x ρ e)
theorem kA_bI {P : Nat → Nat → Bool} {μ ν : sM} {f : Option (Int32 × sM)} {kk : Int32 → sM → Option (Nat × sM)} (h : keep P μ ν) (hf : kI P ν f) (hk : ∀ x ρ, keep P μ ρ → kA P μ (kk x ρ)) : kA P μ (bI f kk) := by
  cases f with
  | none => exact kA_none
  | some z =>
    obtain ⟨x, ρ⟩ := z
    exact hk x ρ (keep_t h (hf x ρ rfl))
theorem kA_bL {P : Nat → Nat → Bool} {μ ν : sM} {f : Option (Int64 × sM)} {kk : Int64 → sM → Option (Nat × sM)} (h : keep P μ ν) (hf : kL P ν f) (hk : ∀ x ρ, keep P μ ρ → kA P μ (kk x ρ)) : kA P μ (bL f kk) := by
  cases f with
  | none => exact kA_none
  | some z =>
    obtain ⟨x, ρ⟩ := z
    exact hk x ρ (keep_t h (hf x ρ rfl))
theorem kA_bA {P : Nat → Nat → Bool} {μ ν : sM} {f : Option (Nat × sM)} {kk : Nat → sM → Option (Nat × sM)} (h : keep P μ ν) (hf : kA P ν f) (hk : ∀ x ρ, keep P μ ρ → kA P μ (kk x ρ)) : kA P μ (bA f kk) := by
  cases f with
  | none => exact kA_none
  | some z =>
    obtain ⟨x, ρ⟩ := z
    exact hk x ρ (keep_t h (hf x ρ rfl))
theorem kA_bV {P : Nat → Nat → Bool} {μ ν : sM} {f : Option (sM)} {kk : sM → Option (Nat × sM)} (h : keep P μ ν) (hf : kV P ν f) (hk : ∀ ρ, keep P μ ρ → kA P μ (kk ρ)) : kA P μ (bV f kk) := by
  cases f with
  | none => exact kA_none
  | some z =>
    exact hk z (keep_t h (hf z rfl))
theorem kV_none {P : Nat → Nat → Bool} {μ : sM} : kV P μ none := fun _ h => by cases h
theorem kV_some {P : Nat → Nat → Bool} {μ ρ : sM} (h : keep P μ ρ) : kV P μ (some ρ) := fun _ e => by
  cases e
  exact h
theorem kV_ite {P : Nat → Nat → Bool} {μ : sM} {c : Prop} [Decidable c] {a b : Option (sM)} (ha : kV P μ a) (hb : kV P μ b) : kV P μ (if c then a else b) := by
  by_cases h : c
  · rw [if_pos h]
    exact ha
  · rw [if_neg h]
    exact hb
theorem kV_ck {P : Nat → Nat → Bool} {μ : sM} {c : Prop} [Decidable c] {a : Option (sM)} (ha : kV P μ a) : kV P μ (if c then a else none) := kV_ite ha kV_none
theorem kV_cn {P : Nat → Nat → Bool} {μ : sM} {c : Prop} [Decidable c] {a : Option (sM)} (ha : kV P μ a) : kV P μ (if c then none else a) := kV_ite kV_none ha
theorem kV_to {P : Nat → Nat → Bool} {μ ν : sM} {a : Option (sM)} (h : keep P μ ν) (ha : kV P ν a) : kV P μ a := fun ρ e => keep_t h (ha ρ e)
theorem kV_bI {P : Nat → Nat → Bool} {μ ν : sM} {f : Option (Int32 × sM)} {kk : Int32 → sM → Option (sM)} (h : keep P μ ν) (hf : kI P ν f) (hk : ∀ x ρ, keep P μ ρ → kV P μ (kk x ρ)) : kV P μ (bI f kk) := by
  cases f with
  | none => exact kV_none
  | some z =>
    obtain ⟨x, ρ⟩ := z
    exact hk x ρ (keep_t h (hf x ρ rfl))
theorem kV_bL {P : Nat → Nat → Bool} {μ ν : sM} {f : Option (Int64 × sM)} {kk : Int64 → sM → Option (sM)} (h : keep P μ ν) (hf : kL P ν f) (hk : ∀ x ρ, keep P μ ρ → kV P μ (kk x ρ)) : kV P μ (bL f kk) := by
  cases f with
  | none => exact kV_none
  | some z =>
    obtain ⟨x, ρ⟩ := z
    exact hk x ρ (keep_t h (hf x ρ rfl))
theorem kV_bA {P : Nat → Nat → Bool} {μ ν : sM} {f : Option (Nat × sM)} {kk : Nat → sM → Option (sM)} (h : keep P μ ν) (hf : kA P ν f) (hk : ∀ x ρ, keep P μ ρ → kV P μ (kk x ρ)) : kV P μ (bA f kk) := by
  cases f with
  | none => exact kV_none
  | some z =>
    obtain ⟨x, ρ⟩ := z
    exact hk x ρ (keep_t h (hf x ρ rfl))
theorem kV_bV {P : Nat → Nat → Bool} {μ ν : sM} {f : Option (sM)} {kk : sM → Option (sM)} (h : keep P μ ν) (hf : kV P ν f) (hk : ∀ ρ, keep P μ ρ → kV P μ (kk ρ)) : kV P μ (bV f kk) := by
  cases f with
  | none => exact kV_none
  | some z =>
    exact hk z (keep_t h (hf z rfl))
/-- kinds of a RIVER's cells that change as it runs -/
def rk (k : Nat) : Bool := k == 3 || (k == 4 || (k == 5 || (k == 11 || ((Nat.ble 24 k && Nat.ble k 34) || (Nat.ble 50 k && Nat.ble k 54)))))
/-- all but the river r -/
def nR (r k i : Nat) : Bool := !(rk k && i == r)
theorem nR_s {r k : Nat} (h : rk k = true) : nR r k r = false := by
  unfold nR
  rw [h]
  simp
/-- all but what Ahead tries out -/
def nA (k i : Nat) : Bool := !(k == 1 || (k == 21 || (k == 22 || (rk k && Nat.ble 4 i))))
theorem nA_s {k n : Nat} (h : rk k = true) : nA k (4 + n) = false := by
  unfold nA
  rw [h, Nat.ble_eq_true_of_le (Nat.le_add_right 4 n)]
  simp
theorem keep_m {P P' : Nat → Nat → Bool} {μ ρ : sM} (h : keep P' μ ρ) (hP : ∀ k i, P k i = true → P' k i = true) : keep P μ ρ := fun k i hk j => h k i (hP k i hk) j
theorem nA_nR {r : Nat} (hr : 4 ≤ r) : ∀ k i, nA k i = true → nR r k i = true := by
  intro k i h
  unfold nA at h
  unfold nR
  by_cases hk : rk k = true
  · by_cases hi : i = r
    · subst hi
      rw [hk, Nat.ble_eq_true_of_le hr] at h
      simp at h
    · simp [hi]
  · simp [hk]
theorem kI_m {P P' : Nat → Nat → Bool} {μ : sM} {o : Option (Int32 × sM)} (h : kI P' μ o) (hP : ∀ k i, P k i = true → P' k i = true) : kI P μ o := fun x ρ e => keep_m (h x ρ e) hP
theorem kL_m {P P' : Nat → Nat → Bool} {μ : sM} {o : Option (Int64 × sM)} (h : kL P' μ o) (hP : ∀ k i, P k i = true → P' k i = true) : kL P μ o := fun x ρ e => keep_m (h x ρ e) hP
theorem kA_m {P P' : Nat → Nat → Bool} {μ : sM} {o : Option (Nat × sM)} (h : kA P' μ o) (hP : ∀ k i, P k i = true → P' k i = true) : kA P μ o := fun x ρ e => keep_m (h x ρ e) hP
theorem kV_m {P P' : Nat → Nat → Bool} {μ : sM} {o : Option (sM)} (h : kV P' μ o) (hP : ∀ k i, P k i = true → P' k i = true) : kV P μ o := fun ρ e => keep_m (h ρ e) hP
/-- the same without NAMES -/
def rk2 (k : Nat) : Bool := k == 3 || (k == 4 || (k == 5 || (k == 11 || ((Nat.ble 25 k && Nat.ble k 27) || ((Nat.ble 29 k && Nat.ble k 34) || (Nat.ble 51 k && Nat.ble k 54))))))
def nQ (r k i : Nat) : Bool := !(rk2 k && i == r)
theorem nQ_s {r k : Nat} (h : rk2 k = true) : nQ r k r = false := by
  unfold nQ
  rw [h]
  simp
