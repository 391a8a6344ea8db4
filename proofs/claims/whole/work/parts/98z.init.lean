/-! 98z: the memory as the constructors leave it -/
section C98z
/-- before the reference's last call: all is 0 but these -/
def mB (xs : Nat → Int32) (L : Nat) : sM := (fun k i j => bif k == 0 then (bif i == 0 then xs j else (bif i == 1 then Int32.ofNat L else 0))
    else bif k == 5 then (bif j == 1 then 1 else bif j == 2 then 5 else bif j == 3 then 4 else 0)
    else bif k == 7 then (bif j == 2 || j == 3 then -1 else 0)
    else bif k == 13 then (bif j == 10 || j == 11 then -1 else 0)
    else bif k == 42 || k == 58 then (bif Nat.ble j 3 then -1 else 0) else 0,
  fun k _ j => bif (k == 12 && j == 2) || (k == 13 && j == 3) then 1 else 0, fun _ _ _ => 0)
abbrev mA (xs : Nat → Int32) (L : Nat) : sM := empM (mB xs L) 0
variable {xs : Nat → Int32} {L : Nat}
theorem mA_k {k i j : Nat} (h : k ≠ 61) : rI (mA xs L) k i j = rI (mB xs L) k i j := by
  rw [rI_k h, rI_k h, rI_k h, sC_k h]
theorem mA_l {k i j : Nat} : rL (mA xs L) k i j = rL (mB xs L) k i j := rfl
theorem mA_61 : ∀ j, j < 348 → rI (mA xs L) 61 0 (348 * 0 + j) = f00 j := by
  intro j hj
  unfold f00
  by_cases c5 : j = 5
  · subst c5
    exact rI_s
  · rw [rI_j (by omega)]
    by_cases c4 : j = 4
    · subst c4
      exact rI_s
    · rw [rI_j (by omega)]
      by_cases c3 : j = 3
      · subst c3
        exact rI_s
      · rw [rI_j (by omega), sC_s, if_pos (by omega), if_neg c3, if_neg c4, if_neg c5]
theorem riv0 : Riv (mA xs L) 0 f00 := by
  refine ⟨⟨?_, ?_, ?_, ?_, ?_, ?_, ?_, ?_, ?_, ?_⟩, fun j hj => ?_, fun j hj => ?_, fun j hj => ?_, fun j hj => ?_⟩
  · rw [mA_k (by decide)]; rfl
  · rw [mA_k (by decide)]; rfl
  · rw [mA_k (by decide)]; rfl
  · rw [mA_k (by decide)]; rfl
  · rw [mA_k (by decide)]; rfl
  · rw [mA_k (by decide)]; rfl
  · rw [mA_k (by decide)]; rfl
  · rw [mA_k (by decide)]; rfl
  · rw [mA_k (by decide)]; rfl
  · rw [mA_k (by decide)]; rfl
  · have e : f00 (10 + j) = 0 := by unfold f00; rw [if_neg (by omega), if_neg (by omega), if_neg (by omega)]
    rw [e]
    rfl
  · exact absurd hj (by rw [show (f00 0).toInt = 0 from rfl]; omega)
  · exact absurd hj (by rw [show (f00 1).toInt = 0 from rfl]; omega)
  · exact absurd hj (by rw [show (f00 2).toInt = 0 from rfl]; omega)
theorem Rel_0 : Rel 0 (mA xs L) (mA xs L) := by
  have e : ∀ j, j < 76 → rI (mA xs L) 61 0 (348 * 0 + j) = f00 j := fun j hj => mA_61 j (by omega)
  have z : ∀ j, j < 348 → (j < 3 ∨ 5 < j) → rI (mA xs L) 61 0 (348 * 0 + j) = 0 := fun j hj h => by
    rw [mA_61 j hj]
    unfold f00
    rw [if_neg (by omega), if_neg (by omega), if_neg (by omega)]
  have z0 : (rI (mA xs L) 61 0 (348 * 0)).toInt = 0 := by rw [show 348 * 0 = 348 * 0 + 0 from rfl, z 0 (by omega) (by omega)]; rfl
  have z1 : (rI (mA xs L) 61 0 (348 * 0 + 1)).toInt = 0 := by rw [z 1 (by omega) (by omega)]; rfl
  have z2 : (rI (mA xs L) 61 0 (348 * 0 + 2)).toInt = 0 := by rw [z 2 (by omega) (by omega)]; rfl
  have k0 : ∀ k j : Nat, k ≠ 61 → rI (mB xs L) k 0 j = 0 → rI (mA xs L) k 0 j = 0 := fun k j h q => (mA_k h).trans q
  refine ⟨?_, ⟨rfl, rfl⟩, fun t ht => ?_, ⟨⟨?_, ?_, fun j hj => ?_⟩, ?_, ?_⟩, ⟨Riv_c riv0 (fun _ _ _ => ⟨rfl, rfl⟩) e (by decide +kernel) (by decide +kernel) (by decide +kernel), OkR_c ok00 e, ⟨fun j hj => ?_, fun j hj => ?_, fun j hj => ?_⟩, ?_⟩, ⟨?_, ?_, Or.inl ?_, ?_⟩, ⟨?_, 0, ?_, by omega, fun i hi => by omega⟩, ?_, Or.inl ?_, fun h => ?_⟩
  · rw [mA_k (by decide), mA_k (by decide)]; rfl
  · rw [mA_k (by decide), mA_k (by decide)]
    have c : t = 0 ∨ t = 1 ∨ t = 2 ∨ t = 3 := by omega
    rcases c with rfl | rfl | rfl | rfl <;> exact ⟨rfl, Or.inl rfl⟩
  · rw [mA_k (by decide), mA_k (by decide)]; rfl
  · rw [mA_k (by decide)]
    exact ⟨(by decide +kernel : 0 ≤ (0 : Int32).toInt), (by decide +kernel : (0 : Int32).toInt ≤ 900)⟩
  · rw [mA_k (by decide)] at hj
    exact absurd hj (by show ¬ ((j : Int) < (0 : Int32).toInt); rw [t0]; omega)
  · rw [mA_k (by decide), mA_k (by decide)]; rfl
  · rw [mA_k (by decide), mA_k (by decide)]; rfl
  · omega
  · omega
  · omega
  · rw [z 6 (by omega) (by omega)]; decide +kernel
  · rw [mA_k (by decide), z 76 (by omega) (by omega)]; rfl
  · rw [mA_k (by decide), z 77 (by omega) (by omega)]; rfl
  · rw [mA_k (by decide)]; rfl
  · rw [mA_k (by decide)]
    exact ⟨(by decide +kernel : 0 ≤ (0 : Int32).toInt), (by decide +kernel : (0 : Int32).toInt ≤ 60)⟩
  · rw [mA_k (by decide), mA_k (by decide)]; rfl
  · rw [mA_k (by decide)]; rfl
  · rw [mA_k (by decide), mA_k (by decide)]; rfl
  · rw [mA_k (by decide)]; rfl
  · rw [mA_k (by decide)] at h
    cases h
/-- the law's loop, from the constructors' memory -/
theorem law3 (hL : L ≤ 3072) : ∃ ρ, L_law_L18 fuN 0 (mA xs L) = some (1, ρ) := by
  have h := law2 (len := L) (by omega) 600 0 fuN (mA xs L) (by omega) (by omega) (fuN_6 (by omega)) (by rw [mA_k (by decide)]; rfl) Rel_0
  exact h
end C98z
