/-! 98zz: an array of arrays, at the machine -/
section C98zz
variable {E : CtlPost} {e : Env} {d : Bool} {acts : List Action} {s : State}
theorem mu_1 {c1 comp1 : ClassId} {k1 : Class} (hk : s.vm.classes[c1]? = some k1) (hkind : k1.kind = .array comp1 .long) (hlim : ¬ 60 > e.platform.arrayLengthLimit) (hheap : ¬ 60 * componentBytes .long > e.platform.maxHeapBytes) (hcells : s.heap.size < e.platform.maxCells) (hslots : s.slotsUsed + 60 ≤ e.platform.maxSlots) {Q : Addr → Pre}
    (hq : ∀ acts', Q s.heap.size d acts' (s.pushCell { cls := c1, slots := Array.replicate 60 (.long 0) })) : wp (multianewarray.make c1 [60]) Q E e d acts s := by
  unfold multianewarray.make
  rw [if_neg (by decide)]
  simp only [wp_bind', wp_pure', W.theClass]
  refine ⟨k1, hk, ?_⟩
  rw [hkind]
  exact W.newArray_of (init := .long 0) hk hkind hlim hheap hcells hslots rfl hq
abbrev i0 (c1 : ClassId) : Cell := { cls := c1, slots := Array.replicate 60 (.long 0) }
abbrev o0 (c5 : ClassId) : Cell := { cls := c5, slots := Array.replicate 4 .null }
abbrev mS (S : State) (c1 : ClassId) (a : Addr) (cell : Cell) (i : Nat) : State := (S.pushCell (i0 c1)).setCell a (cell.setSlot i (.ref S.heap.size))
theorem mu_s {S : State} {c5 c1 comp1 : ClassId} {k5 k1 : Class} {a : Addr} {cell : Cell} {i : Nat} (hk5 : S.vm.classes[c5]? = some k5) (hkind5 : k5.kind = .array c1 (.array .long)) (hk : S.vm.classes[c1]? = some k1) (hkind : k1.kind = .array comp1 .long) (hlim : ¬ 60 > e.platform.arrayLengthLimit) (hheap : ¬ 60 * componentBytes .long > e.platform.maxHeapBytes) (hr : S.heap.size < e.platform.maxCells ∧ S.slotsUsed + 60 ≤ e.platform.maxSlots)
    (hcell : S.heap[a]? = some cell) (hcc : cell.cls = c5) (hvm : cell.vm = .none) (hsz : i < cell.slots.size) {Q : ForInStep PUnit → Pre} (hq : ∀ acts' d', Q (ForInStep.yield PUnit.unit) d' acts' (mS S c1 a cell i)) : wp (do let x ← multianewarray.make c1 [60]; writeLoc a i (Value.ref x); Pure.pure (ForInStep.yield PUnit.unit)) Q E e d acts S := by
  simp only [wp_bind']
  refine mu_1 hk hkind hlim hheap hr.1 hr.2 (fun acts' => ?_)
  simp only [wp_bind', W.writeLoc, wp_pure']
  have hlt : a < S.heap.size := (Array.getElem?_eq_some_iff.mp hcell).1
  have hnu : cell.vm ≠ .unknown := by rw [hvm]; exact fun h => by cases h
  refine ⟨cell, ?_, hnu, hsz, ?_, hq _ _⟩
  · show (S.heap.push _)[a]? = _
    rw [Array.getElem?_push, if_neg (Nat.ne_of_lt hlt)]
    exact hcell
  · have h5 : (S.pushCell (i0 c1)).vm.classes[c5]? = some k5 := hk5
    simp [State.fitsSlot, State.slotType?, hcc, hk5, hkind5, hvm, fits]
theorem mu_2 {c5 c1 comp1 : ClassId} {k5 k1 : Class} (hk5 : s.vm.classes[c5]? = some k5) (hkind5 : k5.kind = .array c1 (.array .long)) (hk : s.vm.classes[c1]? = some k1) (hkind : k1.kind = .array comp1 .long) (hlim : ¬ 60 > e.platform.arrayLengthLimit) (hheap : ¬ 60 * componentBytes .long > e.platform.maxHeapBytes)
    {S1 S2 S3 S4 S5 : State} {q1 q2 q3 : Cell} (h1 : S1 = s.pushCell (o0 c5)) (e1 : q1 = (o0 c5).setSlot 0 (.ref S1.heap.size)) (h2 : S2 = mS S1 c1 s.heap.size (o0 c5) 0) (e2 : q2 = q1.setSlot 1 (.ref S2.heap.size)) (h3 : S3 = mS S2 c1 s.heap.size q1 1) (e3 : q3 = q2.setSlot 2 (.ref S3.heap.size)) (h4 : S4 = mS S3 c1 s.heap.size q2 2) (h5 : S5 = mS S4 c1 s.heap.size q3 3)
    (r0 : s.heap.size < e.platform.maxCells ∧ s.slotsUsed + 4 ≤ e.platform.maxSlots) (r1 : S1.heap.size < e.platform.maxCells ∧ S1.slotsUsed + 60 ≤ e.platform.maxSlots) (r2 : S2.heap.size < e.platform.maxCells ∧ S2.slotsUsed + 60 ≤ e.platform.maxSlots) (r3 : S3.heap.size < e.platform.maxCells ∧ S3.slotsUsed + 60 ≤ e.platform.maxSlots) (r4 : S4.heap.size < e.platform.maxCells ∧ S4.slotsUsed + 60 ≤ e.platform.maxSlots) {Q : Addr → Pre}
    (hq : ∀ acts' d', Q s.heap.size d' acts' S5) : wp (multianewarray.make c5 [4, 60]) Q E e d acts s := by
  have v1 : S1.vm = s.vm := by rw [h1]; rfl
  have v2 : S2.vm = s.vm := by rw [h2]; exact v1
  have v3 : S3.vm = s.vm := by rw [h3]; exact v2
  have v4 : S4.vm = s.vm := by rw [h4]; exact v3
  have g1 : S1.heap[s.heap.size]? = some (o0 c5) := by rw [h1]; show (s.heap.push _)[_]? = _; rw [Array.getElem?_push_size]
  have st : ∀ {S : State} {q : Cell} {i : Nat}, S.heap[s.heap.size]? = some q → (mS S c1 s.heap.size q i).heap[s.heap.size]? = some (q.setSlot i (.ref S.heap.size)) := by
    intro S q i hg
    have hlt : s.heap.size < S.heap.size := (Array.getElem?_eq_some_iff.mp hg).1
    exact heapAt_setCell_self _ (by show _ < (S.heap.push _).size; rw [Array.size_push]; omega)
  have g2 : S2.heap[s.heap.size]? = some q1 := by rw [h2, e1]; exact st g1
  have g3 : S3.heap[s.heap.size]? = some q2 := by rw [h3, e2]; exact st g2
  have g4 : S4.heap[s.heap.size]? = some q3 := by rw [h4, e3]; exact st g3
  have z1 : q1.slots.size = 4 := by rw [e1]; simp [Cell.setSlot]
  have z2 : q2.slots.size = 4 := by rw [e2]; simp [Cell.setSlot, z1]
  have z3 : q3.slots.size = 4 := by rw [e3]; simp [Cell.setSlot, z2]
  have c1' : q1.cls = c5 ∧ q1.vm = .none := by rw [e1]; exact ⟨rfl, rfl⟩
  have c2' : q2.cls = c5 ∧ q2.vm = .none := by rw [e2]; exact c1'
  have c3' : q3.cls = c5 ∧ q3.vm = .none := by rw [e3]; exact c2'
  unfold multianewarray.make
  rw [if_neg (by decide)]
  simp only [wp_bind', wp_pure', W.theClass]
  refine ⟨k5, hk5, ?_⟩
  rw [hkind5]
  simp only [wp_bind']
  refine W.newArray_of (init := .null) hk5 hkind5 (by show ¬ 4 > _; omega) (by show ¬ 4 * 4 > _; have : ¬ 60 * 8 > e.platform.maxHeapBytes := hheap; omega) r0.1 (by show _ + 4 ≤ _; exact r0.2) rfl (fun acts' => ?_)
  rw [if_neg (by decide)]
  rw [show ((4 : Int32).toNatClampNeg) = 4 from by decide]
  simp only [Std.Legacy.Range.forIn_eq_forIn_range', Std.Legacy.Range.size]
  rw [show List.range' 0 ((4 - 0 + 1 - 1) / 1) = [0, 1, 2, 3] from rfl]
  rw [← h1]
  rw [wp_bind', List.forIn_cons, wp_bind']
  refine mu_s (cell := o0 c5) (by rw [v1]; exact hk5) hkind5 (by rw [v1]; exact hk) hkind hlim hheap r1 g1 rfl rfl (by simp) (fun acts' d' => ?_)
  rw [← h2]
  show wp (forIn [1, 2, 3] PUnit.unit _) _ E e _ _ _
  rw [List.forIn_cons, wp_bind']
  refine mu_s (cell := q1) (by rw [v2]; exact hk5) hkind5 (by rw [v2]; exact hk) hkind hlim hheap r2 g2 c1'.1 c1'.2 (by omega) (fun acts' d' => ?_)
  rw [← h3]
  show wp (forIn [2, 3] PUnit.unit _) _ E e _ _ _
  rw [List.forIn_cons, wp_bind']
  refine mu_s (cell := q2) (by rw [v3]; exact hk5) hkind5 (by rw [v3]; exact hk) hkind hlim hheap r3 g3 c2'.1 c2'.2 (by omega) (fun acts' d' => ?_)
  rw [← h4]
  show wp (forIn [3] PUnit.unit _) _ E e _ _ _
  rw [List.forIn_cons, wp_bind']
  refine mu_s (cell := q3) (by rw [v4]; exact hk5) hkind5 (by rw [v4]; exact hk) hkind hlim hheap r4 g4 c3'.1 c3'.2 (by omega) (fun acts' d' => ?_)
  rw [← h5]
  exact hq _ _
variable {p : Program} {l : Launch} {R : Room} {m : MethodId} {args : Array Value} {below : List Frame} {meth : Method} {c : Code} {T : State} {locs : List Loc} {cells slots : Nat}
theorem mu_cold {index cl : Nat} {vm' : Vm} {f : JFrame} {Q : Unit → Pre} (hs : s.topJava?.isSome) (hg : (Jvm.resolveClass f.method.cls index).Gives e.toSetting s.vm (.ok cl) vm') (hr : vm'.classReady f.method.cls index cl) (hsz : vm'.classes.size ≤ s.vm.classes.size) :
    wp (multianewarray.sem index 2) Q E e d acts (s.setTop f) ↔ wp (multianewarray.sem index 2) Q E e d acts ((s.setVm vm').setTop f) := by
  simp only [multianewarray.sem, wp_bind']
  exact W.resolveClassAt_transfer (s := s.setTop f) (State.method?_setTop f hs) hg hr hsz
theorem mu_rd {index c5 : Nat} {f : JFrame} {rest : List Value} {Q : Unit → Pre} (hs : s.topJava?.isSome) (hr : s.vm.classReady f.method.cls index c5) (hst : f.stack = .int 60 :: .int 4 :: rest)
    {c1 comp1 : ClassId} {k5 k1 : Class} (hk5 : s.vm.classes[c5]? = some k5) (hkind5 : k5.kind = .array c1 (.array .long)) (hk : s.vm.classes[c1]? = some k1) (hkind : k1.kind = .array comp1 .long) (hlim : ¬ 60 > e.platform.arrayLengthLimit) (hheap : ¬ 60 * componentBytes .long > e.platform.maxHeapBytes)
    {S1 S2 S3 S4 S5 : State} {q1 q2 q3 : Cell} (h1 : S1 = s.pushCell (o0 c5)) (e1 : q1 = (o0 c5).setSlot 0 (.ref S1.heap.size)) (h2 : S2 = mS S1 c1 s.heap.size (o0 c5) 0) (e2 : q2 = q1.setSlot 1 (.ref S2.heap.size)) (h3 : S3 = mS S2 c1 s.heap.size q1 1) (e3 : q3 = q2.setSlot 2 (.ref S3.heap.size)) (h4 : S4 = mS S3 c1 s.heap.size q2 2) (h5 : S5 = mS S4 c1 s.heap.size q3 3)
    (r0 : s.heap.size < e.platform.maxCells ∧ s.slotsUsed + 4 ≤ e.platform.maxSlots) (r1 : S1.heap.size < e.platform.maxCells ∧ S1.slotsUsed + 60 ≤ e.platform.maxSlots) (r2 : S2.heap.size < e.platform.maxCells ∧ S2.slotsUsed + 60 ≤ e.platform.maxSlots) (r3 : S3.heap.size < e.platform.maxCells ∧ S3.slotsUsed + 60 ≤ e.platform.maxSlots) (r4 : S4.heap.size < e.platform.maxCells ∧ S4.slotsUsed + 60 ≤ e.platform.maxSlots) (hs5 : S5.topJava?.isSome)
    (hq : ∀ acts', Q () true acts' (S5.setTop { f with stack := .ref s.heap.size :: rest })) : wp (multianewarray.sem index 2) Q E e d acts (s.setTop f) := by
  simp only [multianewarray.sem, wp_bind', W.resolveClassAt_ready (State.method?_setTop f hs) hr]
  rw [show (2 : Nat) = ([.int 4, .int 60] : List Value).length from rfl, popN_top hs (args := [.int 4, .int 60]) (rest := rest) hst]
  simp only [List.mapM_cons, List.mapM_nil, wp_bind', wp_pure']
  refine mu_2 (s := s.setTop { f with stack := rest }) (S1 := S1.setTop { f with stack := rest }) (S2 := S2.setTop { f with stack := rest }) (S3 := S3.setTop { f with stack := rest }) (S4 := S4.setTop { f with stack := rest }) (S5 := S5.setTop { f with stack := rest }) (q1 := q1) (q2 := q2) (q3 := q3) hk5 hkind5 hk hkind hlim hheap (by rw [h1]; rfl) e1 (by rw [h2]; rfl) e2 (by rw [h3]; rfl) e3 (by rw [h4]; rfl) (by rw [h5]; rfl) r0 r1 r2 r3 r4 (fun acts' d' => ?_)
  simp only [wp_bind', W.mark, W.pushRef, State.topJava?_setTop' _ hs5, Option.some.injEq, exists_eq_left', State.setTop_setTop]
  exact hq _
theorem mu_step {S : State} {q : Cell} {a : Addr} {c1 : ClassId} {i : Nat} (X : Stand p l e R s m args below meth c S locs cells slots) (hq : S.heap[a]? = some q) : Stand p l e R s m args below meth c (mS S c1 a q i) (locs ++ [⟨a, i⟩]) (cells + 1) (slots + 60) ∧ (mS S c1 a q i).heap.size = S.heap.size + 1 ∧ (mS S c1 a q i).heap[a]? = some (q.setSlot i (.ref S.heap.size)) ∧ (mS S c1 a q i).heap[S.heap.size]? = some (i0 c1) ∧ ∀ x : Nat, x < S.heap.size → x ≠ a → (mS S c1 a q i).heap[x]? = S.heap[x]? := by
  have hlt : a < S.heap.size := (Array.getElem?_eq_some_iff.mp hq).1
  have hp : (S.pushCell (i0 c1)).heap[a]? = some q := by
    show (S.heap.push _)[a]? = _
    rw [Array.getElem?_push, if_neg (Nat.ne_of_lt hlt)]
    exact hq
  have hz : (S.pushCell (i0 c1)).heap.size = S.heap.size + 1 := Array.size_push ..
  have X1 : Stand p l e R s m args below meth c (S.pushCell (i0 c1)) locs (cells + 1) (slots + 60) := by simpa using X.pushed (i0 c1)
  refine ⟨X1.stored hp i _, by rw [size_setCell, hz], heapAt_setCell_self _ (by rw [hz]; exact Nat.lt_succ_of_lt hlt), ?_, fun x hx hne => ?_⟩
  · rw [heapAt_setCell_ne _ (Nat.ne_of_lt hlt)]
    show (S.heap.push _)[S.heap.size]? = _
    rw [Array.getElem?_push_size]
  · rw [heapAt_setCell_ne _ (Ne.symm hne)]
    show (S.heap.push _)[x]? = _
    rw [Array.getElem?_push, if_neg (Nat.ne_of_lt hx)]
theorem mu_st (X : Stand p l e R s m args below meth c T locs cells slots) (hexec : p.tables.exec = Jvm.exec) {own : String} {index : Nat} (hown : s.vm.findClass own = some m.cls) (hclink : (Cond.classLink own index "[[J").before args s = true)
    {c5 c1 comp1 : ClassId} {k5 k1 : Class} (hf5 : s.vm.findClass "[[J" = some c5) (hk5 : s.vm.classes[c5]? = some k5) (hkind5 : k5.kind = .array c1 (.array .long)) (hk : s.vm.classes[c1]? = some k1) (hkind : k1.kind = .array comp1 .long)
    {g : JFrame} (hg : g.method = m) (hdg : decode c.code g.pc = .ok (.multianewarray index 2, 4)) {rest : List Value} (hst : g.stack = .int 60 :: .int 4 :: rest) (hcells : cells + 5 ≤ R.cells) (hslots : slots + 244 ≤ R.slots) :
    ∃ (T' : State) (L : List Loc) (q : Cell), Stand p l e R s m args below meth c T' (locs ++ L) (cells + 5) (slots + 244) ∧ (∀ x ∈ L, x.base = T.heap.size) ∧ T'.heap.size = T.heap.size + 5 ∧ (∀ x, x < T.heap.size → T'.heap[x]? = T.heap[x]?) ∧ T'.heap[T.heap.size]? = some q ∧ (∀ j, j < 4 → T'.heap[T.heap.size + 1 + j]? = some (i0 c1)) ∧ q = ((((o0 c5).setSlot 0 (.ref (T.heap.size + 1))).setSlot 1 (.ref (T.heap.size + 2))).setSlot 2 (.ref (T.heap.size + 3))).setSlot 3 (.ref (T.heap.size + 4)) ∧
      ∀ target, Steps p.tables e below (T'.setTop { g with pc := g.pc + 4, stack := .ref T.heap.size :: rest }) target → Steps p.tables e below (T.setTop g) target := by
  subst hg
  have hpl : e.platform.magicAccessors = ({} : Platform).magicAccessors := by rw [X.admits.platform]
  obtain ⟨cc', hfcc, hcl⟩ := Cond.classLink_spec hown hclink e.platform hpl
  cases hf5.symm.trans hfcc
  obtain ⟨hg₁, hwarm₁, hready₁⟩ := State.classEntry (e := e) X.warmed hcl
  have hsize₁ : (T.vm.noted g.method.cls index (.cls c5)).classes.size ≤ T.vm.classes.size := by no_record
  generalize T.vm.noted g.method.cls index (.cls c5) = vm₁ at hg₁ hwarm₁ hready₁ hsize₁
  have hal : s.vm.Alike vm₁ := hwarm₁.alike
  obtain ⟨k5', hk5', he5⟩ := hal.2.2 _ _ hk5
  obtain ⟨k1', hk1', he1⟩ := hal.2.2 _ _ hk
  have hkind5' : k5'.kind = .array c1 (.array .long) := by rw [he5]; exact hkind5
  have hkind1' : k1'.kind = .array comp1 .long := by rw [he1]; exact hkind
  have hlimit : ¬ 60 > e.platform.arrayLengthLimit := by rw [Launch.admits_arrayLengthLimit X.admits]; omega
  have hheap : ¬ 60 * componentBytes .long > e.platform.maxHeapBytes := by
    rw [Launch.admits_maxHeapBytes X.admits]; show ¬ 60 * 8 > 536870912; omega
  have X0 := X.noted hwarm₁
  obtain ⟨S0, hS0⟩ : ∃ S0, S0 = T.setVm vm₁ := ⟨_, rfl⟩
  rw [← hS0] at X0
  have a0 : S0.heap = T.heap := by rw [hS0]; rfl
  obtain ⟨S1, h1⟩ : ∃ S1, S1 = S0.pushCell (o0 c5) := ⟨_, rfl⟩
  have X1 : Stand p l e R s g.method args below meth c S1 locs (cells + 1) (slots + 4) := by rw [h1]; simpa using X0.pushed (o0 c5)
  have b1 : S1.heap.size = T.heap.size + 1 := by rw [h1]; show (S0.heap.push _).size = _; rw [Array.size_push, a0]
  have g1 : S1.heap[T.heap.size]? = some (o0 c5) := by rw [h1]; show (S0.heap.push _)[_]? = _; rw [← a0, Array.getElem?_push_size]
  have o1 : ∀ x, x < T.heap.size → S1.heap[x]? = T.heap[x]? := fun x hx => by rw [h1]; show (S0.heap.push _)[_]? = _; rw [Array.getElem?_push, if_neg (by rw [a0]; omega), a0]
  obtain ⟨X2, b2, g2, n2, o2⟩ := mu_step (c1 := c1) (i := 0) X1 g1
  obtain ⟨S2, h2⟩ : ∃ S2, S2 = mS S1 c1 T.heap.size (o0 c5) 0 := ⟨_, rfl⟩
  rw [← h2] at X2 b2 g2 n2 o2
  obtain ⟨X3, b3, g3, n3, o3⟩ := mu_step (c1 := c1) (i := 1) X2 g2
  obtain ⟨S3, h3⟩ : ∃ S3, S3 = mS S2 c1 T.heap.size ((o0 c5).setSlot 0 (.ref S1.heap.size)) 1 := ⟨_, rfl⟩
  rw [← h3] at X3 b3 g3 n3 o3
  obtain ⟨X4, b4, g4, n4, o4⟩ := mu_step (c1 := c1) (i := 2) X3 g3
  obtain ⟨S4, h4⟩ : ∃ S4, S4 = mS S3 c1 T.heap.size (((o0 c5).setSlot 0 (.ref S1.heap.size)).setSlot 1 (.ref S2.heap.size)) 2 := ⟨_, rfl⟩
  rw [← h4] at X4 b4 g4 n4 o4
  obtain ⟨X5, b5, g5, n5, o5⟩ := mu_step (c1 := c1) (i := 3) X4 g4
  obtain ⟨S5, h5⟩ : ∃ S5, S5 = mS S4 c1 T.heap.size ((((o0 c5).setSlot 0 (.ref S1.heap.size)).setSlot 1 (.ref S2.heap.size)).setSlot 2 (.ref S3.heap.size)) 3 := ⟨_, rfl⟩
  rw [← h5] at X5 b5 g5 n5 o5
  obtain ⟨u0, w0⟩ := X0.roomAbove (a := 1) (b := 4) (by omega) (by omega)
  obtain ⟨u1, w1⟩ := X1.roomAbove (a := 1) (b := 60) (by omega) (by omega)
  obtain ⟨u2, w2⟩ := X2.roomAbove (a := 1) (b := 60) (by omega) (by omega)
  obtain ⟨u3, w3⟩ := X3.roomAbove (a := 1) (b := 60) (by omega) (by omega)
  obtain ⟨u4, w4⟩ := X4.roomAbove (a := 1) (b := 60) (by omega) (by omega)
  refine ⟨S5, [⟨T.heap.size, 0⟩, ⟨T.heap.size, 1⟩, ⟨T.heap.size, 2⟩, ⟨T.heap.size, 3⟩], _, ?_, ?_, by omega, fun x hx => ?_, g5, fun j hj => ?_, ?_, fun target hrest => ?_⟩
  · simpa [List.append_assoc] using X5
  · intro x hx
    simp at hx
    rcases hx with rfl | rfl | rfl | rfl <;> rfl
  · rw [o5 x (by omega) (by omega), o4 x (by omega) (by omega), o3 x (by omega) (by omega), o2 x (by omega) (by omega), o1 x hx]
  · have cj : j = 0 ∨ j = 1 ∨ j = 2 ∨ j = 3 := by omega
    rcases cj with rfl | rfl | rfl | rfl
    · rw [o5 _ (by omega) (by omega), o4 _ (by omega) (by omega), o3 _ (by omega) (by omega), show T.heap.size + 1 + 0 = S1.heap.size by omega]
      exact n2
    · rw [o5 _ (by omega) (by omega), o4 _ (by omega) (by omega), show T.heap.size + 1 + 1 = S2.heap.size by omega]
      exact n3
    · rw [o5 _ (by omega) (by omega), show T.heap.size + 1 + 2 = S3.heap.size by omega]
      exact n4
    · rw [show T.heap.size + 1 + 3 = S4.heap.size by omega]
      exact n5
  · rw [show S1.heap.size = T.heap.size + 1 by omega, show S2.heap.size = T.heap.size + 2 by omega, show S3.heap.size = T.heap.size + 3 by omega, show S4.heap.size = T.heap.size + 4 by omega]
  · jvm_step X.here [hexec, hdg]
    rw [mu_cold X.here.top hg₁ hready₁ hsize₁, ← hS0]
    refine mu_rd (s := S0) X0.here.top (by rw [hS0]; exact hready₁) hst (by rw [hS0]; exact hk5') hkind5' (by rw [hS0]; exact hk1') hkind1' hlimit hheap h1 rfl (by rw [a0]; exact h2) rfl (by rw [a0]; exact h3) rfl (by rw [a0]; exact h4) (by rw [a0]; exact h5) ⟨by omega, w0⟩ ⟨by omega, w1⟩ ⟨by omega, w2⟩ ⟨by omega, w3⟩ ⟨by omega, w4⟩ X5.here.top (fun acts' => ?_)
    intro acts
    rw [afterInstr_ok, a0]
    exact hrest
end C98zz
