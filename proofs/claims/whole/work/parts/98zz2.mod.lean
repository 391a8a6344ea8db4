/-! 98zz2: the reference's constructor, to its end -/
section C98zz2
variable {E : sE} {xs : Nat → Int32}
theorem modEnd (xs : Nat → Int32) (L d : Nat) (h2 : 2 ≤ d) : sOk 12 cX12_init 2 d false 158 [(1, vi 4), (0, vr 13 0)] [] (mB xs L) (oV (bV (X12_empties 0 (mB xs L)) fun μ2 => some μ2)) := by
  refine sBk (lo' := [(1, vi 4), (0, vr 13 0)]) (st' := [vi 0, vr 13 0]) (μ' := mB xs L) (pc' := 160) [(.aload_n 0, 0, 0, 0, 0), (.iconst 0, 0, 0, 0, 0)] (by decide +kernel) rfl rfl ?_
  refine sCvV oV rfl (ci := 12) (q := (13, 0)) (avs := [vi 0]) (rest := []) (tX12_empties 0 (mB xs L)) (by omega) (by decide +kernel) lk_12_68 yv_X12_empties rfl (by decide) rfl rfl rfl (Nat.le_of_ble_eq_true rfl) (fun μ2 => ?_)
  exact sRv (by decide +kernel)
theorem kof_13 : kof 13 0 = 242 := by decide +kernel
theorem kof_12 : kof 12 0 = 0 := by decide +kernel
theorem sad_13 : sad E (13, 0) = ad E 242 := by
  unfold sad
  rw [if_neg (by decide)]
  show _ + kof 13 0 = _
  rw [kof_13]
theorem sad_12 : sad E (12, 0) = ad E 0 := by
  unfold sad
  rw [if_neg (by decide)]
  show _ + kof 12 0 = _
  rw [kof_12]
def mQc (E : sE) (μ : sM) : Array Value → State → Outcome → State → Prop := fun _ _ oc t => oc = .returned none ∧ (eS E).WarmedH t.vm ∧ sW E μ t.heap
set_option maxRecDepth 100000 in
set_option maxHeartbeats 4000000 in
theorem kMod {l : Launch} (hE : sEn E) (hX : va_X (eB E) (eL E) xs (eS E) (eS E).heap) : Met l yX12_init (.code yX12_init cX12_init 2 none :: sT) (cRm 3 15 3548) (cPc E 242 (oX11 E 0 ++ [.inr (12, bX12)])) (mQc E (mA xs (eL E))) 15 3548 (sA E) := by
  refine Met.ofW (cc := cX12_init) (maxL := 2) (ret := none) (by decide +kernel) rfl ?_
  intro p e s m args below meth c s₁ B hml hv
  obtain ⟨rfl, hwm, hP⟩ := hv
  have hts := atoms_spec (ws := .code yX12_init cX12_init 2 none :: sT) B.pre
  have hts' : ∀ w ∈ sT, w.before #[Value.ref (ad E 242)] s = true := fun w hw => hts w (List.mem_cons_of_mem _ hw)
  have hl := lv_entry [Value.ref (ad E 242)] (n := 2) (Nat.le_of_ble_eq_true rfl)
  have hnm : meth.name = "<init>" := (name_of_methodNamed B.named B.method).1
  have hown : s.vm.findClass (kRn 12) = some m.cls := findClass_of_methodNamed B.named
  have hsz : (eS E).heap.size ≤ s.heap.size := by rw [hP.2.1]; omega
  rw [show (#[Value.ref (ad E 242)] : Array Value) = [Value.ref (ad E 242)].toArray from rfl, lg_entry_eq]
  have hmr := B.returns
  have hlk := B.notSynchronized
  refine k_X12 (d := 3) (by decide) (oX11 E 0) 242 rfl ⟨hE, ⟨B.exec, B.bytes, hml, hown, hts', hwm, hP.2.2, hsz, Nat.le_refl _, Nat.le_refl _⟩, fun _ => hnm⟩ ⟨rfl, rfl⟩ ?_ _ _ ⟨hP, va_S.rf⟩ hl
  intro H locs ls A hl
  have hW := fini hX A.1
  refine modEnd xs (eL E) 3 (by decide) none (mA xs (eL E)) ?_ E p l e _ s m _ below meth c 15 3548 _ ⟨hE, ⟨B.exec, B.bytes, hml, hown, hts', hwm, hP.2.2, hsz⟩, ⟨Nat.le_refl _, Nat.le_refl _, Nat.le_refl _, Nat.le_refl _⟩, ?_⟩ H locs ls ⟨hW, A.2, (fun v h => by cases h), ?_, ?_⟩
  · have e := empt_e (a := 0) (by omega) (mB xs (eL E))
    rw [nI_0] at e
    rw [e]
    rfl
  · intro H locs pc ls hW1 hS1 hret _
    exact W.vret B.exec B.bytes hmr (fun t ht hw => ⟨rfl, hwm.trans hw, by rw [ht]; exact hW1⟩) hS1.2.2 hret hlk
  · intro q hq
    simp at hq
    rcases hq with rfl | rfl
    · trivial
    · exact Or.inl (by decide +kernel)
  · show lv_has ls 2 [(1, .int 4), (0, .ref (sad E (13, 0)))]
    rw [sad_13]
    exact hl
end C98zz2
