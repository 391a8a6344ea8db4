/-! 98zz: an array of arrays, at the machine -/
section C98zz
variable {E : CtlPost} {e : Env} {d : Bool} {acts : List Action} {s : State}
theorem mu_1 {c1 comp1 : ClassId} {k1 : Class} (hk : s.vm.classes[c1]? = some k1) (hkind : k1.kind = .array comp1 .long) (hlim : ¬ 60 > e.platform.arrayLengthLimit) (hheap : ¬ 60 * componentBytes .long > e.platform.maxHeapBytes) (hcells : s.heap.size < e.platform.maxCells) (hslots : s.slotsUsed + 60 ≤ e.platform.maxSlots) {Q : Addr → Pre}
    (hq : ∀ acts', Q s.heap.size d acts' (s.pushCell { cls := c1, slots := Array.replicate 60 (.long 0) })) : wp (multianewarray.make c1 [60]) Q E e d acts s := by
  unfold multianewarray.make
  rw [if_neg (by decide)]
  simp only [wp_bind', wp_pure', W.theClass]
  refine ⟨k1, hk, ?_⟩
  rw [hkind]
  exact W.newArray_of (init := .long 0) hk hkind hlim hheap hcells hslots rfl hq
abbrev i0 (c1 : ClassId) : Cell := { cls := c1, slots := Array.replicate 60 (.long 0) }
abbrev o0 (c5 : ClassId) : Cell := { cls := c5, slots := Array.replicate 4 .null }
abbrev mS (S : State) (c1 : ClassId) (a : Addr) (cell : Cell) (i : Nat) : State := (S.pushCell (i0 c1)).setCell a (cell.setSlot i (.ref S.heap.size))
theorem mu_s {S : State} {c5 c1 comp1 : ClassId} {k5 k1 : Class} {a : Addr} {cell : Cell} {i : Nat} (hk5 : S.vm.classes[c5]? = some k5) (hkind5 : k5.kind = .array c1 (.array .long)) (hk : S.vm.classes[c1]? = some k1) (hkind : k1.kind = .array comp1 .long) (hlim : ¬ 60 > e.platform.arrayLengthLimit) (hheap : ¬ 60 * componentBytes .long > e.platform.maxHeapBytes) (hr : S.heap.size < e.platform.maxCells ∧ S.slotsUsed + 60 ≤ e.platform.maxSlots)
    (hcell : S.heap[a]? = some cell) (hcc : cell.cls = c5) (hvm : cell.vm = .none) (hsz : i < cell.slots.size) {Q : ForInStep PUnit → Pre} (hq : ∀ acts' d', Q (ForInStep.yield PUnit.unit) d' acts' (mS S c1 a cell i)) : wp (do let x ← multianewarray.make c1 [60]; writeLoc a i (Value.ref x); Pure.pure (ForInStep.yield PUnit.unit)) Q E e d acts S := by
  simp only [wp_bind']
  refine mu_1 hk hkind hlim hheap hr.1 hr.2 (fun acts' => ?_)
  simp only [wp_bind', W.writeLoc, wp_pure']
  have hlt : a < S.heap.size := (Array.getElem?_eq_some_iff.mp hcell).1
  have hnu : cell.vm ≠ .unknown := by rw [hvm]; exact fun h => by cases h
  refine ⟨cell, ?_, hnu, hsz, ?_, hq _ _⟩
  · show (S.heap.push _)[a]? = _
    rw [Array.getElem?_push, if_neg (Nat.ne_of_lt hlt)]
    exact hcell
  · have h5 : (S.pushCell (i0 c1)).vm.classes[c5]? = some k5 := hk5
    simp [State.fitsSlot, State.slotType?, hcc, hk5, hkind5, hvm, fits]
theorem mu_2 {c5 c1 comp1 : ClassId} {k5 k1 : Class} (hk5 : s.vm.classes[c5]? = some k5) (hkind5 : k5.kind = .array c1 (.array .long)) (hk : s.vm.classes[c1]? = some k1) (hkind : k1.kind = .array comp1 .long) (hlim : ¬ 60 > e.platform.arrayLengthLimit) (hheap : ¬ 60 * componentBytes .long > e.platform.maxHeapBytes)
    {S1 S2 S3 S4 S5 : State} {q1 q2 q3 : Cell} (h1 : S1 = s.pushCell (o0 c5)) (e1 : q1 = (o0 c5).setSlot 0 (.ref S1.heap.size)) (h2 : S2 = mS S1 c1 s.heap.size (o0 c5) 0) (e2 : q2 = q1.setSlot 1 (.ref S2.heap.size)) (h3 : S3 = mS S2 c1 s.heap.size q1 1) (e3 : q3 = q2.setSlot 2 (.ref S3.heap.size)) (h4 : S4 = mS S3 c1 s.heap.size q2 2) (h5 : S5 = mS S4 c1 s.heap.size q3 3)
    (r0 : s.heap.size < e.platform.maxCells ∧ s.slotsUsed + 4 ≤ e.platform.maxSlots) (r1 : S1.heap.size < e.platform.maxCells ∧ S1.slotsUsed + 60 ≤ e.platform.maxSlots) (r2 : S2.heap.size < e.platform.maxCells ∧ S2.slotsUsed + 60 ≤ e.platform.maxSlots) (r3 : S3.heap.size < e.platform.maxCells ∧ S3.slotsUsed + 60 ≤ e.platform.maxSlots) (r4 : S4.heap.size < e.platform.maxCells ∧ S4.slotsUsed + 60 ≤ e.platform.maxSlots) {Q : Addr → Pre}
    (hq : ∀ acts' d', Q s.heap.size d' acts' S5) : wp (multianewarray.make c5 [4, 60]) Q E e d acts s := by
  have v1 : S1.vm = s.vm := by rw [h1]; rfl
  have v2 : S2.vm = s.vm := by rw [h2]; exact v1
  have v3 : S3.vm = s.vm := by rw [h3]; exact v2
  have v4 : S4.vm = s.vm := by rw [h4]; exact v3
  have g1 : S1.heap[s.heap.size]? = some (o0 c5) := by rw [h1]; show (s.heap.push _)[_]? = _; rw [Array.getElem?_push_size]
  have st : ∀ {S : State} {q : Cell} {i : Nat}, S.heap[s.heap.size]? = some q → (mS S c1 s.heap.size q i).heap[s.heap.size]? = some (q.setSlot i (.ref S.heap.size)) := by
    intro S q i hg
    have hlt : s.heap.size < S.heap.size := (Array.getElem?_eq_some_iff.mp hg).1
    exact heapAt_setCell_self _ (by show _ < (S.heap.push _).size; rw [Array.size_push]; omega)
  have g2 : S2.heap[s.heap.size]? = some q1 := by rw [h2, e1]; exact st g1
  have g3 : S3.heap[s.heap.size]? = some q2 := by rw [h3, e2]; exact st g2
  have g4 : S4.heap[s.heap.size]? = some q3 := by rw [h4, e3]; exact st g3
  have z1 : q1.slots.size = 4 := by rw [e1]; simp [Cell.setSlot]
  have z2 : q2.slots.size = 4 := by rw [e2]; simp [Cell.setSlot, z1]
  have z3 : q3.slots.size = 4 := by rw [e3]; simp [Cell.setSlot, z2]
  have c1' : q1.cls = c5 ∧ q1.vm = .none := by rw [e1]; exact ⟨rfl, rfl⟩
  have c2' : q2.cls = c5 ∧ q2.vm = .none := by rw [e2]; exact c1'
  have c3' : q3.cls = c5 ∧ q3.vm = .none := by rw [e3]; exact c2'
  unfold multianewarray.make
  rw [if_neg (by decide)]
  simp only [wp_bind', wp_pure', W.theClass]
  refine ⟨k5, hk5, ?_⟩
  rw [hkind5]
  simp only [wp_bind']
  refine W.newArray_of (init := .null) hk5 hkind5 (by show ¬ 4 > _; omega) (by show ¬ 4 * 4 > _; have : ¬ 60 * 8 > e.platform.maxHeapBytes := hheap; omega) r0.1 (by show _ + 4 ≤ _; exact r0.2) rfl (fun acts' => ?_)
  rw [if_neg (by decide)]
  rw [show ((4 : Int32).toNatClampNeg) = 4 from by decide]
  simp only [Std.Legacy.Range.forIn_eq_forIn_range', Std.Legacy.Range.size]
  rw [show List.range' 0 ((4 - 0 + 1 - 1) / 1) = [0, 1, 2, 3] from rfl]
  rw [← h1]
  rw [wp_bind', List.forIn_cons, wp_bind']
  refine mu_s (cell := o0 c5) (by rw [v1]; exact hk5) hkind5 (by rw [v1]; exact hk) hkind hlim hheap r1 g1 rfl rfl (by simp) (fun acts' d' => ?_)
  rw [← h2]
  show wp (forIn [1, 2, 3] PUnit.unit _) _ E e _ _ _
  rw [List.forIn_cons, wp_bind']
  refine mu_s (cell := q1) (by rw [v2]; exact hk5) hkind5 (by rw [v2]; exact hk) hkind hlim hheap r2 g2 c1'.1 c1'.2 (by omega) (fun acts' d' => ?_)
  rw [← h3]
  show wp (forIn [2, 3] PUnit.unit _) _ E e _ _ _
  rw [List.forIn_cons, wp_bind']
  refine mu_s (cell := q2) (by rw [v3]; exact hk5) hkind5 (by rw [v3]; exact hk) hkind hlim hheap r3 g3 c2'.1 c2'.2 (by omega) (fun acts' d' => ?_)
  rw [← h4]
  show wp (forIn [3] PUnit.unit _) _ E e _ _ _
  rw [List.forIn_cons, wp_bind']
  refine mu_s (cell := q3) (by rw [v4]; exact hk5) hkind5 (by rw [v4]; exact hk) hkind hlim hheap r4 g4 c3'.1 c3'.2 (by omega) (fun acts' d' => ?_)
  rw [← h5]
  exact hq _ _
variable {p : Program} {l : Launch} {R : Room} {m : MethodId} {args : Array Value} {below : List Frame} {meth : Method} {c : Code} {T : State} {locs : List Loc} {cells slots : Nat}
theorem mu_cold {index cl : Nat} {vm' : Vm} {f : JFrame} {Q : Unit → Pre} (hs : s.topJava?.isSome) (hg : (Jvm.resolveClass f.method.cls index).Gives e.toSetting s.vm (.ok cl) vm') (hr : vm'.classReady f.method.cls index cl) (hsz : vm'.classes.size ≤ s.vm.classes.size) :
    wp (multianewarray.sem index 2) Q E e d acts (s.setTop f) ↔ wp (multianewarray.sem index 2) Q E e d acts ((s.setVm vm').setTop f) := by
  simp only [multianewarray.sem, wp_bind']
  exact W.resolveClassAt_transfer (s := s.setTop f) (State.method?_setTop f hs) hg hr hsz
theorem mu_rd {index cl : Nat} {f : JFrame} {rest : List Value} {Q : Unit → Pre} (hs : s.topJava?.isSome) (hr : s.vm.classReady f.method.cls index cl) (hst : f.stack = .int 60 :: .int 4 :: rest)
    (hq : wp (multianewarray.make cl [4, 60]) (fun a d' acts' s' => ∀ d'' acts'', Q () d'' acts'' s') E e true acts (s.setTop { f with stack := rest })) : wp (multianewarray.sem index 2) Q E e d acts (s.setTop f) := by
  simp only [multianewarray.sem, wp_bind', W.resolveClassAt_ready (State.method?_setTop f hs) hr]
  rw [show (2 : Nat) = ([.int 4, .int 60] : List Value).length from rfl, popN_top hs (args := [.int 4, .int 60]) (rest := rest) hst]
  simp only [List.mapM_cons, List.mapM_nil, wp_bind', wp_pure']
  skip
end C98zz
