/-! 98zu2: an array of arrays -/
section C98zu2
variable {E : sE} {own : Nat} {cc : ByteArray} {nL d : Nat} {p : Program} {l : Launch} {e : Env} {R : Room} {s : State} {m : MethodId} {args : Array Value} {below : List Frame} {meth : Method} {c : Code} {H : Heap} {locs : List Loc} {cells slots : Nat} {Q : State → Prop} {pc : Nat} {ls : Array Slot} {rest : List Value}
variable {ws0 t : List va_E} {n : Nat}
theorem cMul (hX : cX E) (C : cCx E own cc nL d p R s m args meth c) (hn : ws0.length = n) (A : cAt E s (ws0 ++ t) H locs) {k idx : Nat} (hk : t.length = k) (hcl : Cond.classLink (kRn own) idx "[[J" ∈ sT) (hcells : cells + 5 ≤ R.cells) (hslots : slots + 244 ≤ R.slots) (hd : decode cc pc = .ok (.multianewarray idx 2, 4))
    (K : ∀ (H : Heap) (locs : List Loc), cAt E s (ws0 ++ (t ++ [aQ E 5 4 (fun j => if j < 4 then some (ad E (n + (k + 1 + j))) else none), aL E 60, aL E 60, aL E 60, aL E 60])) H locs → W p l e R s m args below meth c H locs (cells + 5) (slots + 244) Q (F0 m (pc + 4) ls (.ref (ad E (n + k)) :: rest))) : W p l e R s m args below meth c H locs cells slots Q (F0 m pc ls (.int 60 :: .int 4 :: rest)) := by
  obtain ⟨hE, ⟨hx, hcc, hml, hown, hts, hwm, hlow, hsz, -, -⟩, hnm⟩ := C
  obtain ⟨hP, hS0⟩ := A
  obtain ⟨aa, hXw⟩ := hX
  obtain ⟨comp, c5, k5, f1, -, hk5, hkind5, f5⟩ := arrayOverA_spec (hXw (Cond.arrayOver (.array .long)) (List.mem_of_getElem? (i := 413) (by decide +kernel)))
  have e5 : c5 = eT E 5 := Option.some.inj (f5.symm.trans (hE.1.2 5 _ rfl).2)
  have e1 : comp = eT E 1 := Option.some.inj (f1.symm.trans (hE.1.2 1 _ rfl).2)
  subst e5
  subst e1
  obtain ⟨-, k1, hk1, comp1, hkind1⟩ := (hE.1.2 1 _ rfl).1 0 (fun _ => .null)
  have hal := hwm.alike
  obtain ⟨k5', hk5', he5⟩ := hal.2.2 _ _ hk5
  obtain ⟨k1', hk1', he1⟩ := hal.2.2 _ _ hk1
  have hkind5' : k5'.kind = .array (eT E 1) (.array .long) := by rw [he5]; exact hkind5
  have hkind1' : k1'.kind = .array comp1 .long := by rw [he1]; exact hkind1
  have hf5 : s.vm.findClass "[[J" = some (eT E 5) := by rw [hal.findClass]; exact f5
  have hsz2 : H.size = ad E (n + k) := by rw [hP.2.1, t_ln hn hk]
  intro T hT X
  obtain ⟨T', L, q, X', hL, z, o, gq, gn, hqe, go⟩ := mu_st X hx hown (hts _ hcl) hf5 hk5' hkind5' hk1' hkind1' (g := F0 m pc ls (.int 60 :: .int 4 :: rest)) rfl (by rw [hcc]; exact hd) rfl hcells hslots
  rw [hT] at z o gq gn hqe hL
  have hcP : cP E (ws0 ++ (t ++ [aQ E 5 4 (fun j => if j < 4 then some (ad E (n + (k + 1 + j))) else none), aL E 60, aL E 60, aL E 60, aL E 60])) T'.heap := by
    rw [← List.append_assoc]
    refine ⟨fun j y hy => ?_, by rw [z, hP.2.1, List.length_append (as := ws0 ++ t)]; rfl, fun x hx => by rw [o x (by rw [hsz2]; show _ < _ + _; omega)]; exact hP.2.2 x hx⟩
    by_cases hj : j < (ws0 ++ t).length
    · rw [List.getElem?_append_left hj] at hy
      exact (hP.1 j y hy).kept (o _ (by rw [hP.2.1]; show _ + _ < _; omega))
    · rw [List.getElem?_append_right (by omega)] at hy
      have hln := t_ln hn hk
      have hz : j - (ws0 ++ t).length < 5 := (List.getElem?_eq_some_iff.mp hy).1
      have inn : ∀ i, i < 4 → va_at (eD E) vwCl (ad E (n + k + 1 + i), aL E 60) T'.heap := fun i hi => by
        show T'.heap[(eS E).heap.size + (n + k + 1 + i)]? = some (vp_cell _ _)
        rw [show (eS E).heap.size + (n + k + 1 + i) = H.size + 1 + i by rw [hsz2]; show _ = _ + _ + _ + _; omega, gn i hi, vp_cell_l, ← arrV_new]
      have cj : j = n + k ∨ j = n + k + 1 + 0 ∨ j = n + k + 1 + 1 ∨ j = n + k + 1 + 2 ∨ j = n + k + 1 + 3 := by omega
      rcases cj with rfl | rfl | rfl | rfl | rfl
      · rw [show n + k - (ws0 ++ t).length = 0 by omega] at hy
        cases hy
        show T'.heap[(eS E).heap.size + (n + k)]? = some (vp_cell _ _)
        rw [show (eS E).heap.size + (n + k) = H.size by rw [hsz2], gq, hqe, vp_cell_q, o0, arrV_new, arrV_store, arrV_store, arrV_store, arrV_store]
        congr 2
        funext i
        by_cases c3 : i = 3
        · subst c3
          rw [hsz2]
          simp [updV, va_rf]
          exact show ((eS E).heap.size + (n + k) + 4 : Nat) = (eS E).heap.size + (n + (k + 1 + 3)) by omega
        · by_cases c2 : i = 2
          · subst c2
            rw [hsz2]
            simp [updV, va_rf]
            exact show ((eS E).heap.size + (n + k) + 3 : Nat) = (eS E).heap.size + (n + (k + 1 + 2)) by omega
          · by_cases c1 : i = 1
            · subst c1
              rw [hsz2]
              simp [updV, va_rf]
              exact show ((eS E).heap.size + (n + k) + 2 : Nat) = (eS E).heap.size + (n + (k + 1 + 1)) by omega
            · by_cases c0 : i = 0
              · subst c0
                rw [hsz2]
                simp [updV, va_rf]
                exact show ((eS E).heap.size + (n + k) + 1 : Nat) = (eS E).heap.size + (n + (k + 1 + 0)) by omega
              · simp [updV, va_rf, c0, c1, c2, c3, show ¬ i < 4 by omega]
      · rw [show n + k + 1 + 0 - (ws0 ++ t).length = 1 by omega] at hy
        cases hy
        exact inn 0 (by omega)
      · rw [show n + k + 1 + 1 - (ws0 ++ t).length = 2 by omega] at hy
        cases hy
        exact inn 1 (by omega)
      · rw [show n + k + 1 + 2 - (ws0 ++ t).length = 3 by omega] at hy
        cases hy
        exact inn 2 (by omega)
      · rw [show n + k + 1 + 3 - (ws0 ++ t).length = 4 by omega] at hy
        cases hy
        exact inn 3 (by omega)
  have hS1 : va_S (sA E) s.heap T'.heap (locs ++ L) := by
    refine ⟨Nat.le_trans hS0.1 (by omega), fun x h1 h2 => (o x (Nat.lt_of_lt_of_le h1 hS0.1)).trans (hS0.2.1 x h1 h2), fun x hx => ?_⟩
    rcases List.mem_append.mp hx with h | h
    · exact hS0.2.2 x h
    · show _ ≤ x.base
      rw [hL x h, hsz2]
      exact Nat.le_add_right _ _
  obtain ⟨t2, a1, b1⟩ := K T'.heap (locs ++ L) ⟨hcP, hS1⟩ T' rfl X'
  refine ⟨t2, go t2 ?_, b1⟩
  rw [hT, hsz2]
  exact a1
end C98zu2
