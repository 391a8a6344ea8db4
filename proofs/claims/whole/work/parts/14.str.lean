/-! 14: the words' String: its methods, and the rules of length() and charAt() -/
section W14
/-- the formatter that checkIndex gets: a reference or null -/
def sSx (E : sE) : Prop := ∃ v : Value, va_Z "jdk/internal/util/Preconditions" "SIOOBE_FORMATTER" "Ljava/util/function/BiFunction;" v (sA E) (eS E) (eS E).heap ∧ v.category = 1
def wPc (E : sE) (as : List Value) : Array Value → State → Prop := fun v U => v = as.toArray ∧ (eS E).WarmedH U.vm ∧ (∀ q : Nat, q < (eS E).heap.size → U.heap[q]? = (eS E).heap[q]?) ∧ (eS E).heap.size ≤ U.heap.size
def wQc (E : sE) (r : Option Value) : Array Value → State → Outcome → State → Prop := fun _ u oc t => oc = .returned r ∧ (eS E).WarmedH t.vm ∧ t.heap = u.heap
def wM (l : Launch) (E : sE) (y : MethodName) (cc : ByteArray) (nL : Nat) (ret : Option FieldType) (d : Nat) (as : List Value) (r : Option Value) : Prop := Met l y (.code y cc nL ret :: sT) (sRm d) (wPc E as) (wQc E r) 0 0 (sA E)
theorem wPc_blind (E : sE) (as : List Value) : FrameBlind (wPc E as) := fun _ _ _ _ h => h
/-- where a walk stands that changes nothing -/
def wCx (E : sE) (own : String) (cc : ByteArray) (nL d : Nat) (p : Program) (R : Room) (s : State) (m : MethodId) (args : Array Value) (c : Code) : Prop :=
  p.tables.exec = Jvm.exec ∧ c.code = cc ∧ c.maxLocals = nL ∧ s.vm.findClass own = some m.cls ∧ (∀ w ∈ sT, w.before args s = true) ∧ (eS E).WarmedH s.vm ∧ (∀ q : Nat, q < (eS E).heap.size → s.heap[q]? = (eS E).heap[q]?) ∧ (eS E).heap.size ≤ s.heap.size ∧ d ≤ R.frames ∧ 64 * d ≤ R.locals
def wRt (ret : Option FieldType) (r : Option Value) : Prop := (r = none ∧ ret = none) ∨ ∃ x ty, r = some (.int x) ∧ ret = some ty ∧ narrow ty (.int x) = .int x
theorem wM_of {l : Launch} {E : sE} {y : MethodName} {cc : ByteArray} {nL : Nat} {ret : Option FieldType} {d : Nat} {as : List Value} {r : Option Value} (hy : plainName y.cls = true) (hz : (lg_sl as).length ≤ nL) (hr : wRt ret r)
    (k : ∀ (p : Program) (e : Env) (R : Room) (s : State) (m : MethodId) (args : Array Value) (below : List Frame) (meth : Method) (c : Code) (Q : State → Prop), wCx E y.cls cc nL d p R s m args c →
      (∀ (locs : List Loc) (pc : Nat) (ls : Array Slot), va_S (sA E) s.heap s.heap locs → (r = none → decode cc pc = .ok (.return_, 1)) → (¬ r = none → decode cc pc = .ok (.ireturn, 1)) → W p l e R s m args below meth c s.heap locs 0 0 Q (F0 m pc ls r.toList)) →
      ∀ ls : Array Slot, lv_has ls nL (lv_args 0 as) → W p l e R s m args below meth c s.heap [] 0 0 Q (F0 m 0 ls [])) : wM l E y cc nL ret d as r := by
  refine Met.ofW (cc := cc) (maxL := nL) (ret := ret) hy rfl ?_
  intro p e s m args below meth c s₁ B hml hv
  obtain ⟨rfl, hwm, hlow, hsz⟩ := hv
  have hts := atoms_spec (ws := .code y cc nL ret :: sT) B.pre
  have hl := lv_entry as (n := nL) hz
  rw [lg_entry_eq]
  have hmr := B.returns
  have hlk := B.notSynchronized
  refine k p e _ s m _ below meth c _ ⟨B.exec, B.bytes, hml, findClass_of_methodNamed B.named, fun w hw => hts w (List.mem_cons_of_mem _ hw), hwm, hlow, hsz, Nat.le_refl _, Nat.le_refl _⟩ ?_ _ hl
  intro locs pc ls hS1 h0 h1
  have hq : ∀ t : State, t.heap = s.heap → s.WarmedH t.vm → wQc E r as.toArray s (.returned r) t := fun t ht hw => ⟨rfl, hwm.trans hw, ht⟩
  rcases hr with ⟨rfl, hro⟩ | ⟨x, ty, rfl, hro, hn⟩
  · exact W.vret B.exec B.bytes (hmr.trans hro) hq hS1.2.2 (h0 rfl) hlk
  · exact W.zret B.exec B.bytes (hmr.trans hro) hn hq hS1.2.2 (h1 (fun q => by cases q)) hlk
section
variable {E : sE} {own : String} {cc : ByteArray} {nL d : Nat} {p : Program} {l : Launch} {e : Env} {R : Room} {s : State} {m : MethodId} {args : Array Value} {below : List Frame} {meth : Method} {c : Code} {H : Heap} {locs : List Loc} {cells slots : Nat} {Q : State → Prop} {pc : Nat} {ls : Array Slot} {stk rest : List Value} {r : Option Value} {a : Array Value}
variable {y : MethodName} {cc' : ByteArray} {nL' d' n idx : Nat} {ret : Option FieldType} {as : List Value}
theorem wBh (hr : va_Run p l e R s m args below meth c H locs cells slots 0 0 (F0 m pc ls stk) rest (wQc E r a) (sA E)) (hS : va_S (sA E) s.heap H locs)
    (K : ∀ locs, va_S (sA E) s.heap H locs → W p l e R s m args below meth c H locs cells slots Q (F0 m (pc + 3) ls (r.toList ++ rest))) : W p l e R s m args below meth c H locs cells slots Q (F0 m pc ls stk) := by
  intro T hT X
  obtain ⟨v, u₀, t, T', L, h0, X', hL, e1, e2, ⟨hv, hw1, hh⟩, go⟩ := hr T hT X
  cases hv
  have hS1 : va_S (sA E) s.heap H (locs ++ L) := ⟨hS.1, hS.2.1, fun q hq => (List.mem_append.mp hq).elim (hS.2.2 q) (hL q)⟩
  obtain ⟨t2, a1, b1⟩ := K (locs ++ L) hS1 T' (by rw [e1, hh, h0]) X'
  exact ⟨t2, go t2 a1, b1⟩
theorem wCs (C : wCx E own cc nL d p R s m args c) (hHl : ∀ q : Nat, q < (eS E).heap.size → H[q]? = (eS E).heap[q]?) (hHs : (eS E).heap.size ≤ H.size) (hM : wM l E y cc' nL' ret d' as r) (hd' : d' + 1 ≤ d) (hdec : decode cc pc = .ok (.invokestatic idx, 3)) (hlink : Cond.methodLink own idx y ∈ sT) (hy : yS y cc' nL' ret n) (hn : as.length = n)
    (hst : stk = as.reverse ++ rest) (hrm : (rest.map fun v => v.category).sum ≤ 8) (hls : ls.size = nL) (hcs : cells ≤ R.cells ∧ slots ≤ R.slots) (hS : va_S (sA E) s.heap H locs)
    (K : ∀ locs, va_S (sA E) s.heap H locs → W p l e R s m args below meth c H locs cells slots Q (F0 m (pc + 3) ls (r.toList ++ rest))) : W p l e R s m args below meth c H locs cells slots Q (F0 m pc ls stk) := by
  obtain ⟨hx, hcc, hml, hown, hts, hwm, hlow, hsz, hf, hlo⟩ := C
  obtain ⟨⟨w1, w2, w3, w4⟩, w5⟩ := hy
  have hcb := callB_of (R := R) (s := s) (args := args) (own := own) (index := idx) (maxL := nL') n hts (sT_GoodIn y cc' nL' ret w1) rfl (rm := sRm d') rfl rfl (hts _ w2) (hts _ hlink) w3 ⟨by show d' + 1 ≤ _; omega, by show 8 + (nL' + 11) + 64 * d' ≤ _; omega⟩
  refine wBh (a := as.toArray) (va_runS (As := as) (nL := nL) (Ts := sT) (own := own) (cc := cc) ⟨hx, hcc, hml, hown, hts⟩ hM ⟨hcb, hts _ w5⟩ ⟨wPc_blind E _, fun U hU hw => ⟨rfl, hwm.trans hw, by rw [hU]; exact hHl, by rw [hU]; exact hHs⟩⟩ rfl hn hls hst (lv_room hrm) hdec ⟨hcs.1, hcs.2⟩) hS K
theorem wCv {b : Nat} (C : wCx E own cc nL d p R s m args c) (hHl : ∀ q : Nat, q < (eS E).heap.size → H[q]? = (eS E).heap[q]?) (hHs : (eS E).heap.size ≤ H.size) (hM : wM l E y cc' nL' ret d' (.ref b :: as) r) (hd' : d' + 1 ≤ d) (hdec : decode cc pc = .ok (.invokevirtual idx, 3)) (hlink : Cond.methodLink own idx y ∈ sT) (hy : yV y cc' nL' ret n) (hn : as.length = n)
    (hb : ∃ cell : Cell, H[b]? = some cell ∧ cell.vm.isStatics = false ∧ s.vm.findClass y.cls = some cell.cls)
    (hst : stk = as.reverse ++ .ref b :: rest) (hrm : (rest.map fun v => v.category).sum ≤ 8) (hls : ls.size = nL) (hcs : cells ≤ R.cells ∧ slots ≤ R.slots) (hS : va_S (sA E) s.heap H locs)
    (K : ∀ locs, va_S (sA E) s.heap H locs → W p l e R s m args below meth c H locs cells slots Q (F0 m (pc + 3) ls (r.toList ++ rest))) : W p l e R s m args below meth c H locs cells slots Q (F0 m pc ls stk) := by
  obtain ⟨hx, hcc, hml, hown, hts, hwm, hlow, hsz, hf, hlo⟩ := C
  obtain ⟨⟨w1, w2, w3, w4⟩, w5, w6⟩ := hy
  have hcb := callB_of (R := R) (s := s) (args := args) (own := own) (index := idx) (maxL := nL') n hts (sT_GoodIn y cc' nL' ret w1) rfl (rm := sRm d') rfl rfl (hts _ w2) (hts _ hlink) w3 ⟨by show d' + 1 ≤ _; omega, by show 8 + (nL' + 11) + 64 * d' ≤ _; omega⟩
  refine wBh (a := (Value.ref b :: as).toArray) (va_runV (C := y.cls) (b := b) (As := as) (nL := nL) (Ts := sT) (own := own) (cc := cc) ⟨hx, hcc, hml, hown, hts⟩ hM ⟨hcb, hts _ w5, hts _ w6⟩ ⟨wPc_blind E _, hb, fun U hU hw => ⟨rfl, hwm.trans hw, by rw [hU]; exact hHl, by rw [hU]; exact hHs⟩⟩ rfl hn hls hst (lv_room hrm) hdec ⟨hcs.1, hcs.2⟩) hS K
end
/-! what is known of the String, wherever a walk is -/
theorem sS_at {E : sE} (hE : sSt E) {s : State} {H : Heap} (hwm : (eS E).WarmedH s.vm) (hl : ∀ q : Nat, q < (eS E).heap.size → H[q]? = (eS E).heap[q]?) : vk_S 1 [147] [kWb] (fun _ => eW E) (fun _ => eV E) (sA E) s H := (hE.2.1.moved hwm.alike).kept (fun a ha _ => hl a ha)
theorem sZ_at {E : sE} (hE : sSt E) {s : State} {H : Heap} (hwm : (eS E).WarmedH s.vm) (hl : ∀ q : Nat, q < (eS E).heap.size → H[q]? = (eS E).heap[q]?) : va_Z "java/lang/String" "COMPACT_STRINGS" "Z" (.int 1) (sA E) s H := (hE.2.2.1.moved hwm.alike).kept (fun a ha _ => hl a ha)
theorem j_38 : Cond.fieldLink RJ0 38 "java/lang/String" "COMPACT_STRINGS" "Z" ∈ sT := sT_in (n := 783) (by decide +kernel) rfl
theorem j_15 : Cond.fieldLink RJ0 15 "java/lang/String" "coder" "B" ∈ sT := sT_in (n := 2237) (by decide +kernel) rfl
theorem j_9 : Cond.fieldLink RJ0 9 "java/lang/String" "value" "[B" ∈ sT := sT_in (n := 2236) (by decide +kernel) rfl
theorem j_1053 : Cond.fieldLink RJ0 1053 "jdk/internal/util/Preconditions" "SIOOBE_FORMATTER" "Ljava/util/function/BiFunction;" ∈ sT := sT_in (n := 799) (by decide +kernel) rfl
theorem jv_coder : yV yJ0_coder_7d493 cJ0_coder_7d493 1 (some .byte) 0 := ⟨⟨sT_in (n := 782) (by decide +kernel) rfl, sT_in (n := 152) (by decide +kernel) rfl, by decide +kernel, by decide⟩, sT_in (n := 780) (by decide +kernel) rfl, sT_in (n := 781) (by decide +kernel) rfl⟩
theorem jv_isLatin1 : yV yJ0_isLatin1_aae02 cJ0_isLatin1_aae02 1 (some .boolean) 0 := ⟨⟨sT_in (n := 792) (by decide +kernel) rfl, sT_in (n := 152) (by decide +kernel) rfl, by decide +kernel, by decide⟩, sT_in (n := 790) (by decide +kernel) rfl, sT_in (n := 791) (by decide +kernel) rfl⟩
theorem jv_length : yV yJ0_length_8abf5 cJ0_length_8abf5 1 (some .int) 0 := ⟨⟨sT_in (n := 778) (by decide +kernel) rfl, sT_in (n := 152) (by decide +kernel) rfl, by decide +kernel, by decide⟩, sT_in (n := 776) (by decide +kernel) rfl, sT_in (n := 777) (by decide +kernel) rfl⟩
theorem jv_charAt : yV yJ0_charAt_5068e cJ0_charAt_5068e 2 (some .char) 1 := ⟨⟨sT_in (n := 788) (by decide +kernel) rfl, sT_in (n := 152) (by decide +kernel) rfl, by decide +kernel, by decide⟩, sT_in (n := 786) (by decide +kernel) rfl, sT_in (n := 787) (by decide +kernel) rfl⟩
theorem js_checkIndex : yS yJ0_checkIndex_df160 cJ0_checkIndex_df160 2 none 2 := ⟨⟨sT_in (n := 798) (by decide +kernel) rfl, sT_in (n := 152) (by decide +kernel) rfl, by decide +kernel, by decide⟩, sT_in (n := 797) (by decide +kernel) rfl⟩
theorem js_charAt : yS yJ1_charAt_3b067 cJ1_charAt_3b067 2 (some .char) 2 := ⟨⟨sT_in (n := 795) (by decide +kernel) rfl, sT_in (n := 153) (by decide +kernel) rfl, by decide +kernel, by decide⟩, sT_in (n := 794) (by decide +kernel) rfl⟩
theorem js_check3 : yS yJ3_checkIndex_8e157 cJ3_checkIndex_8e157 3 (some .int) 3 := ⟨⟨sT_in (n := 803) (by decide +kernel) rfl, sT_in (n := 154) (by decide +kernel) rfl, by decide +kernel, by decide⟩, sT_in (n := 802) (by decide +kernel) rfl⟩
theorem jl_99 : Cond.methodLink (kRn 6) 99 yJ0_length_8abf5 ∈ sT := sT_in (n := 775) (by decide +kernel) rfl
theorem jl_105 : Cond.methodLink (kRn 6) 105 yJ0_charAt_5068e ∈ sT := sT_in (n := 785) (by decide +kernel) rfl
theorem jl_335 : Cond.methodLink RJ0 335 yJ0_coder_7d493 ∈ sT := sT_in (n := 779) (by decide +kernel) rfl
theorem jl_492 : Cond.methodLink RJ0 492 yJ0_isLatin1_aae02 ∈ sT := sT_in (n := 789) (by decide +kernel) rfl
theorem jl_495 : Cond.methodLink RJ0 495 yJ1_charAt_3b067 ∈ sT := sT_in (n := 793) (by decide +kernel) rfl
theorem jl_9 : Cond.methodLink RJ1 9 yJ0_checkIndex_df160 ∈ sT := sT_in (n := 796) (by decide +kernel) rfl
theorem jl_1059 : Cond.methodLink RJ0 1059 yJ3_checkIndex_8e157 ∈ sT := sT_in (n := 801) (by decide +kernel) rfl
theorem c_coder (l : Launch) {E : sE} (hE : sSt E) : wM l E yJ0_coder_7d493 cJ0_coder_7d493 1 (some .byte) 0 [.ref (eW E)] (some (.int 0)) := by
  refine wM_of (by decide +kernel) (Nat.le_of_ble_eq_true rfl) (Or.inr ⟨0, .byte, rfl, rfl, by decide +kernel⟩) ?_
  intro p e R s m args below meth c Q C fin ls hl
  obtain ⟨hx, hb, hml, hown, hts, hwm, hlow, hsz, hf, hlo⟩ := id C
  have hl : lv_has ls 1 [(0, .ref (eW E))] := hl
  have hS : va_S (sA E) s.heap s.heap [] := va_S.rf
  have h1 := (sS_at hE hwm hlow).1 0 (by decide)
  refine va_gets (C := "java/lang/String") (own := RJ0) (ref := "java/lang/String") (index := 38) hx hb (sZ_at hE hwm hlow) hS hown (hts _ j_38) (fun _ h => h) (by decide +kernel) ?_
  refine lv_if_eq (off := 10) (tgt := 13) hx hb (by decide +kernel) (by decide) (fun h => absurd h (by decide)) (fun _ => ?_)
  refine lv_aload_n (k := 0) hx hb (by decide +kernel) rfl (lv_at hl 0 rfl) ?_
  refine vk_getf (own := RJ0) (ref := "java/lang/String") (index := 15) hx hb h1.2.1 hS hown (hts _ j_15) (fun _ h => h) (by decide +kernel) ?_
  refine lv_goto (off := 4) (tgt := 14) hx hb (by decide +kernel) (by decide) ?_
  exact fin [] 14 ls hS (fun h => by cases h) (fun _ => by decide +kernel)
theorem c_isLatin1 (l : Launch) {E : sE} (hE : sSt E) : wM l E yJ0_isLatin1_aae02 cJ0_isLatin1_aae02 1 (some .boolean) 0 [.ref (eW E)] (some (.int 1)) := by
  refine wM_of (by decide +kernel) (Nat.le_of_ble_eq_true rfl) (Or.inr ⟨1, .boolean, rfl, rfl, by decide +kernel⟩) ?_
  intro p e R s m args below meth c Q C fin ls hl
  obtain ⟨hx, hb, hml, hown, hts, hwm, hlow, hsz, hf, hlo⟩ := id C
  have hl : lv_has ls 1 [(0, .ref (eW E))] := hl
  have hS : va_S (sA E) s.heap s.heap [] := va_S.rf
  have h1 := (sS_at hE hwm hlow).1 0 (by decide)
  refine va_gets (C := "java/lang/String") (own := RJ0) (ref := "java/lang/String") (index := 38) hx hb (sZ_at hE hwm hlow) hS hown (hts _ j_38) (fun _ h => h) (by decide +kernel) ?_
  refine lv_if_eq (off := 14) (tgt := 17) hx hb (by decide +kernel) (by decide) (fun h => absurd h (by decide)) (fun _ => ?_)
  refine lv_aload_n (k := 0) hx hb (by decide +kernel) rfl (lv_at hl 0 rfl) ?_
  refine vk_getf (own := RJ0) (ref := "java/lang/String") (index := 15) hx hb h1.2.1 hS hown (hts _ j_15) (fun _ h => h) (by decide +kernel) ?_
  refine lv_if_ne (off := 7) (tgt := 17) hx hb (by decide +kernel) (by decide) (fun h => absurd rfl h) (fun _ => ?_)
  refine lv_iconst (n := 1) (v := 1) hx hb (by decide +kernel) (by decide) ?_
  refine lv_goto (off := 4) (tgt := 18) hx hb (by decide +kernel) (by decide) ?_
  exact fin [] 18 ls hS (fun h => by cases h) (fun _ => by decide +kernel)
theorem c_length (l : Launch) {E : sE} (hE : sSt E) : wM l E yJ0_length_8abf5 cJ0_length_8abf5 1 (some .int) 1 [.ref (eW E)] (some (.int 147)) := by
  refine wM_of (by decide +kernel) (Nat.le_of_ble_eq_true rfl) (Or.inr ⟨147, .int, rfl, rfl, by decide +kernel⟩) ?_
  intro p e R s m args below meth c Q C fin ls hl
  obtain ⟨hx, hb, hml, hown, hts, hwm, hlow, hsz, hf, hlo⟩ := id C
  have hl : lv_has ls 1 [(0, .ref (eW E))] := hl
  have hS : va_S (sA E) s.heap s.heap [] := va_S.rf
  have hS1 := sS_at hE hwm hlow
  have h1 := hS1.1 0 (by decide)
  refine lv_aload_n (k := 0) hx hb (by decide +kernel) rfl (lv_at hl 0 rfl) ?_
  refine vk_getf (own := RJ0) (ref := "java/lang/String") (index := 9) hx hb h1.2.2.1 hS hown (hts _ j_9) (fun _ h => h) (by decide +kernel) ?_
  refine va_tlen (v := 147) hx hb h1.2.2.2 hS (by decide) (by decide +kernel) ?_
  refine lv_aload_n (k := 0) hx hb (by decide +kernel) rfl (lv_at hl 0 rfl) ?_
  refine wCv (b := eW E) (as := []) (rest := [.int 147]) C hlow hsz (c_coder l hE) (by omega) (by decide +kernel) jl_335 jv_coder rfl (vk_recv hS1 (i := 0) (by decide) hS) rfl (by decide) hl.1 ⟨Nat.zero_le _, Nat.zero_le _⟩ hS (fun locs hS => ?_)
  refine lv_ishr hx hb (by decide +kernel) ?_
  exact fin locs 10 ls hS (fun h => by cases h) (fun _ => by decide +kernel)
theorem c_check3 (l : Launch) {E : sE} {i n : Int32} {v : Value} (hv : v.category = 1) (h0 : ¬ i < 0) (h1 : i < n) : wM l E yJ3_checkIndex_8e157 cJ3_checkIndex_8e157 3 (some .int) 0 [.int i, .int n, v] (some (.int i)) := by
  refine wM_of (by decide +kernel) ?_ (Or.inr ⟨i, .int, rfl, rfl, rfl⟩) ?_
  · cases v <;> first | exact Nat.le_of_ble_eq_true rfl | exact absurd (show (2 : Nat) = 1 from hv) (by decide)
  intro p e R s m args below meth c Q C fin ls hl
  obtain ⟨hx, hb, hml, hown, hts, hwm, hlow, hsz, hf, hlo⟩ := id C
  have hl : lv_has ls 3 [(0, .int i), (1, .int n), (2, v)] := hl
  have hS : va_S (sA E) s.heap s.heap [] := va_S.rf
  refine lv_iload_n (k := 0) hx hb (by decide +kernel) rfl (lv_at hl 0 rfl) ?_
  refine lv_if_lt (off := 8) (tgt := 9) hx hb (by decide +kernel) (by decide) (fun h => absurd h h0) (fun _ => ?_)
  refine lv_iload_n (k := 0) hx hb (by decide +kernel) rfl (lv_at hl 0 rfl) ?_
  refine lv_iload_n (k := 1) hx hb (by decide +kernel) rfl (lv_at hl 1 rfl) ?_
  refine lv_icmp_lt (off := 10) (tgt := 16) hx hb (by decide +kernel) (by decide) (fun _ => ?_) (fun h => absurd h1 h)
  refine lv_iload_n (k := 0) hx hb (by decide +kernel) rfl (lv_at hl 0 rfl) ?_
  exact fin [] 17 ls hS (fun h => by cases h) (fun _ => by decide +kernel)
theorem c_check (l : Launch) {E : sE} (hX : sSx E) {i n : Int32} (h0 : ¬ i < 0) (h1 : i < n) : wM l E yJ0_checkIndex_df160 cJ0_checkIndex_df160 2 none 1 [.int i, .int n] none := by
  refine wM_of (by decide +kernel) (Nat.le_of_ble_eq_true rfl) (Or.inl ⟨rfl, rfl⟩) ?_
  intro p e R s m args below meth c Q C fin ls hl
  obtain ⟨hx, hb, hml, hown, hts, hwm, hlow, hsz, hf, hlo⟩ := id C
  have hl : lv_has ls 2 [(0, .int i), (1, .int n)] := hl
  have hS : va_S (sA E) s.heap s.heap [] := va_S.rf
  obtain ⟨v, hZ, hv⟩ := hX
  have hZ1 : va_Z "jdk/internal/util/Preconditions" "SIOOBE_FORMATTER" "Ljava/util/function/BiFunction;" v (sA E) s s.heap := (hZ.moved hwm.alike).kept (fun a ha _ => hlow a ha)
  refine lv_iload_n (k := 0) hx hb (by decide +kernel) rfl (lv_at hl 0 rfl) ?_
  refine lv_iload_n (k := 1) hx hb (by decide +kernel) rfl (lv_at hl 1 rfl) ?_
  refine va_gets (C := "jdk/internal/util/Preconditions") (own := RJ0) (ref := "jdk/internal/util/Preconditions") (index := 1053) hx hb hZ1 hS hown (hts _ j_1053) (fun _ h => h) (by decide +kernel) ?_
  refine wCs (as := [.int i, .int n, v]) (rest := []) C hlow hsz (c_check3 l hv h0 h1) (by omega) (by decide +kernel) jl_1059 js_check3 rfl rfl (by decide) hl.1 ⟨Nat.zero_le _, Nat.zero_le _⟩ hS (fun locs hS => ?_)
  refine lv_pop hx hb (by decide +kernel) rfl ?_
  exact fin locs 9 ls hS (fun _ => by decide +kernel) (fun h => absurd rfl h)
theorem kWb_ok : ∀ j, j < 147 → (((kWb.getD j 0) &&& 255).toUInt32 % 65536).toInt32 = kWb.getD j 0 ∧ narrow .char (.int (kWb.getD j 0)) = .int (kWb.getD j 0) := by decide +kernel
theorem c_latin (l : Launch) {E : sE} (hE : sSt E) (hX : sSx E) {i : Int32} (hi : inb i 147 = true) : wM l E yJ1_charAt_3b067 cJ1_charAt_3b067 2 (some .char) 2 [.ref (eV E), .int i] (some (.int (kWb.getD (ix i) 0))) := by
  have hin : vp_in i 147 := inb_in hi
  have h0 : ¬ i < 0 := fun h => hin (Or.inl h)
  have hlt : i.toNatClampNeg < 147 := Nat.not_le.mp fun q => hin (Or.inr q)
  have h1 : i < 147 := by
    rw [Int32.lt_iff_toInt_lt]
    have a0 : (0 : Int) ≤ i.toInt := by
      have := Int32.not_lt.mp h0
      rw [Int32.le_iff_toInt_le] at this
      simpa using this
    have a1 : (i.toNatClampNeg : Int) = i.toInt := by
      rw [Int32.toNatClampNeg]
      omega
    show i.toInt < 147
    omega
  refine wM_of (by decide +kernel) (Nat.le_of_ble_eq_true rfl) (Or.inr ⟨_, .char, rfl, rfl, (kWb_ok _ hlt).2⟩) ?_
  intro p e R s m args below meth c Q C fin ls hl
  obtain ⟨hx, hb, hml, hown, hts, hwm, hlow, hsz, hf, hlo⟩ := id C
  have hl : lv_has ls 2 [(0, .ref (eV E)), (1, .int i)] := hl
  have hS : va_S (sA E) s.heap s.heap [] := va_S.rf
  have hT := ((sS_at hE hwm hlow).1 0 (by decide)).2.2.2
  refine lv_iload_n (k := 1) hx hb (by decide +kernel) rfl (lv_at hl 1 rfl) ?_
  refine lv_aload_n (k := 0) hx hb (by decide +kernel) rfl (lv_at hl 0 rfl) ?_
  refine va_tlen (v := 147) hx hb hT hS (by decide) (by decide +kernel) ?_
  refine wCs (as := [.int i, .int 147]) (rest := []) C hlow hsz (c_check l hX h0 h1) (by omega) (by decide +kernel) jl_9 js_checkIndex rfl rfl (by decide) hl.1 ⟨Nat.zero_le _, Nat.zero_le _⟩ hS (fun locs hS => ?_)
  refine lv_aload_n (k := 0) hx hb (by decide +kernel) rfl (lv_at hl 0 rfl) ?_
  refine lv_iload_n (k := 1) hx hb (by decide +kernel) rfl (lv_at hl 1 rfl) ?_
  refine va_tb (v := .int (kWb.getD (ix i) 0)) hx hb hT hS hin rfl (by decide +kernel) ?_
  refine lv_sipush (n := 255) (v := 255) hx hb (by decide +kernel) (by decide) ?_
  refine lv_iand hx hb (by decide +kernel) ?_
  refine lv_i2c (v := kWb.getD (ix i) 0) hx hb (by decide +kernel) (kWb_ok _ hlt).1 ?_
  exact fin locs 14 ls hS (fun h => by cases h) (fun _ => by decide +kernel)
theorem c_charAt (l : Launch) {E : sE} (hE : sSt E) (hX : sSx E) {i : Int32} (hi : inb i 147 = true) : wM l E yJ0_charAt_5068e cJ0_charAt_5068e 2 (some .char) 3 [.ref (eW E), .int i] (some (.int (kWb.getD (ix i) 0))) := by
  have hin : vp_in i 147 := inb_in hi
  have hlt : i.toNatClampNeg < 147 := Nat.not_le.mp fun q => hin (Or.inr q)
  refine wM_of (by decide +kernel) (Nat.le_of_ble_eq_true rfl) (Or.inr ⟨_, .char, rfl, rfl, (kWb_ok _ hlt).2⟩) ?_
  intro p e R s m args below meth c Q C fin ls hl
  obtain ⟨hx, hb, hml, hown, hts, hwm, hlow, hsz, hf, hlo⟩ := id C
  have hl : lv_has ls 2 [(0, .ref (eW E)), (1, .int i)] := hl
  have hS : va_S (sA E) s.heap s.heap [] := va_S.rf
  have hS1 := sS_at hE hwm hlow
  have h1 := hS1.1 0 (by decide)
  refine lv_aload_n (k := 0) hx hb (by decide +kernel) rfl (lv_at hl 0 rfl) ?_
  refine wCv (b := eW E) (as := []) (rest := []) C hlow hsz (c_isLatin1 l hE) (by omega) (by decide +kernel) jl_492 jv_isLatin1 rfl (vk_recv hS1 (i := 0) (by decide) hS) rfl (by decide) hl.1 ⟨Nat.zero_le _, Nat.zero_le _⟩ hS (fun locs hS => ?_)
  refine lv_if_eq (off := 12) (tgt := 16) hx hb (by decide +kernel) (by decide) (fun h => absurd h (by decide)) (fun _ => ?_)
  refine lv_aload_n (k := 0) hx hb (by decide +kernel) rfl (lv_at hl 0 rfl) ?_
  refine vk_getf (own := RJ0) (ref := "java/lang/String") (index := 9) hx hb h1.2.2.1 hS hown (hts _ j_9) (fun _ h => h) (by decide +kernel) ?_
  refine lv_iload_n (k := 1) hx hb (by decide +kernel) rfl (lv_at hl 1 rfl) ?_
  refine wCs (as := [.ref (eV E), .int i]) (rest := []) C hlow hsz (c_latin l hE hX hi) (by omega) (by decide +kernel) jl_495 js_charAt rfl rfl (by decide) hl.1 ⟨Nat.zero_le _, Nat.zero_le _⟩ hS (fun locs hS => ?_)
  exact fin locs 15 ls hS (fun h => by cases h) (fun _ => by decide +kernel)
section
variable {cc : ByteArray} {nL d : Nat} {bl : Bool} {pc : Nat} {lo : sL} {t : List sV} {μ : sM} {o : Option (Option sV × sM)} {i : Int32}
theorem wCx_of {E : sE} {own : Nat} {p : Program} {R : Room} {s : State} {m : MethodId} {args : Array Value} {c : Code} (C : sCx E p s m args c own cc nL) (hf : d ≤ R.frames) (hl : 64 * d ≤ R.locals) : wCx E (kRn own) cc nL d p R s m args c := by
  obtain ⟨hx, hcc, hml, hown, hts, hwm, hlow, hsz⟩ := C
  exact ⟨hx, hcc, hml, hown, hts, hwm, hlow, hsz, hf, hl⟩
theorem sLdW (hd : decode cc pc = .ok (.ldc 97, 2)) (k : sOk 6 cc nL d bl (pc + 2) lo (.inr (.inr (0, 1)) :: t) μ o) : sOk 6 cc nL d bl pc lo t μ o := by
  intro r ρ ho E p l e R s m args below meth c cells slots Q G H locs ls A
  have K := k r ρ ho E p l e R s m args below meth c cells slots Q G
  obtain ⟨hE, C, hR, -⟩ := G
  obtain ⟨hx, hcc, hml, hown, hts, hwm, hlow, hsz⟩ := C
  exact va_ldcS (own := kRn 6) (tx := kWt) (q := eW E) hx hcc hown (vk_R.warm hwm hE.2.2.2.1) hd (K H locs ls ⟨A.1, A.2.1, sl_cons (Or.inr rfl) A.2.2.1, A.2.2.2⟩)
theorem sWl (hd : decode cc pc = .ok (.invokevirtual 99, 3)) (h4 : 4 ≤ d) (hrm : scat t ≤ 8) (k : sOk 6 cc nL d bl (pc + 3) lo (.inl 147 :: t) μ o) : sOk 6 cc nL d bl pc lo (.inr (.inr (0, 1)) :: t) μ o := by
  intro r ρ ho E p l e R s m args below meth c cells slots Q G H locs ls A
  have K := k r ρ ho E p l e R s m args below meth c cells slots Q G
  obtain ⟨hE, C, hR, -⟩ := G
  have hst := hE.2.2.2
  have hlo : ∀ q : Nat, q < (eS E).heap.size → H[q]? = (eS E).heap[q]? := A.1.2.2.1
  refine wCv (b := eW E) (as := []) (rest := t.map (gm E)) (wCx_of C hR.1 hR.2.1) hlo (Nat.le_trans C.2.2.2.2.2.2.2 A.2.1.1) (c_length l hst) (by omega) hd jl_99 jv_length rfl ?_ rfl (by rw [scat_gm]; exact hrm) A.2.2.2.2.1 ⟨hR.2.2.1, hR.2.2.2⟩ A.2.1 (fun locs hS => K H locs ls ⟨A.1, hS, sl_cons trivial (sl_tail A.2.2.1), A.2.2.2⟩)
  obtain ⟨cell, g1, g2, g3, -⟩ := ((sS_at hst C.2.2.2.2.2.1 hlo).1 0 (by decide)).1
  exact ⟨cell, g1, g2, g3⟩
theorem sWc (hd : decode cc pc = .ok (.invokevirtual 105, 3)) (h4 : 4 ≤ d) (hrm : scat t ≤ 8) (hi : inb i 147 = true) (k : sOk 6 cc nL d bl (pc + 3) lo (.inl (kWb.getD (ix i) 0) :: t) μ o) : sOk 6 cc nL d bl pc lo (.inl i :: .inr (.inr (0, 1)) :: t) μ o := by
  intro r ρ ho E p l e R s m args below meth c cells slots Q G H locs ls A
  have K := k r ρ ho E p l e R s m args below meth c cells slots Q G
  obtain ⟨hE, C, hR, -⟩ := G
  have hst := hE.2.2.2
  have hlo : ∀ q : Nat, q < (eS E).heap.size → H[q]? = (eS E).heap[q]? := A.1.2.2.1
  refine wCv (b := eW E) (as := [.int i]) (rest := t.map (gm E)) (wCx_of C hR.1 hR.2.1) hlo (Nat.le_trans C.2.2.2.2.2.2.2 A.2.1.1) (c_charAt l hst hst.2.2.2 hi) (by omega) hd jl_105 jv_charAt rfl ?_ rfl (by rw [scat_gm]; exact hrm) A.2.2.2.2.1 ⟨hR.2.2.1, hR.2.2.2⟩ A.2.1 (fun locs hS => K H locs ls ⟨A.1, hS, sl_cons trivial (sl_tail (sl_tail A.2.2.1)), A.2.2.2⟩)
  obtain ⟨cell, g1, g2, g3, -⟩ := ((sS_at hst C.2.2.2.2.2.1 hlo).1 0 (by decide)).1
  exact ⟨cell, g1, g2, g3⟩
end
end W14
