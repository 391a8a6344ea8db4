/-! 98zu: constructors: arrays, calls, contracts -/
section C98zu
variable {E : sE} {own : Nat} {cc : ByteArray} {nL d : Nat} {p : Program} {l : Launch} {e : Env} {R : Room} {s : State} {m : MethodId} {args : Array Value} {below : List Frame} {meth : Method} {c : Code} {H : Heap} {locs : List Loc} {cells slots : Nat} {Q : State → Prop} {pc : Nat} {ls : Array Slot} {rest : List Value}
variable {ws0 t : List va_E} {n : Nat}
abbrev aI (E : sE) (N : Nat) : va_E := .inl (eT E 0, N, .inl (fun _ => 0))
abbrev aL (E : sE) (N : Nat) : va_E := .inl (eT E 1, N, .inr (.inl (fun _ => 0)))
abbrev aB (E : sE) (N : Nat) : va_E := .inl (eT E 2, N, .inl (fun _ => 0))
abbrev aQ (E : sE) (k N : Nat) (f : Nat → Option Nat) : va_E := .inl (eT E k, N, .inr (.inr (.inr (.inr f))))
theorem cP_one {j : Nat} {x : va_E} (hn : ws0.length = n) (h : cP E (ws0 ++ t) H) (hj : t[j]? = some x) : va_P (eD E) vwCl [(ad E (n + j), x)] H := by
  intro k q hq
  have hz : k < 1 := (List.getElem?_eq_some_iff.mp hq).1
  rw [show k = 0 by omega] at hq
  cases hq
  exact h.1 _ _ (t_at hn hj)
/-- an array of numbers -/
theorem cArr (C : cCx E own cc nL d p R s m args meth c) (hn : ws0.length = n) (A : cAt E s (ws0 ++ t) H locs) {k t0 N : Nat} {ty : FieldType} {atype : ArrayType} {x : Int32} {a0 : vp_A} (hk : t.length = k) (hty : newarray.typeOf atype = ty) (hw : Cond.arrayClass ty ∈ sT) (ht : (tys E)[t0]? = some (eT E t0, ty)) (hra : va_RA s (eT E t0) ty → s.vm.findClass ("[" ++ ty.toString) = some (eT E t0)) (ha : ∀ cA : ClassId, vp_cell cA a0 = arrV cA N (fun _ => defaultValue ty)) (hx0 : ¬ x < 0) (hN : x.toNatClampNeg = N) (hbytes : N * componentBytes ty ≤ 536870912) (hcells : cells + 1 ≤ R.cells) (hslots : slots + N ≤ R.slots) (hd : decode cc pc = .ok (.newarray atype, 2))
    (K : ∀ (H : Heap), cAt E s (ws0 ++ (t ++ [.inl (eT E t0, a0)])) H locs → W p l e R s m args below meth c H locs (cells + 1) (slots + N) Q (F0 m (pc + 2) ls (.ref (ad E (n + k)) :: rest))) : W p l e R s m args below meth c H locs cells slots Q (F0 m pc ls (.int x :: rest)) := by
  obtain ⟨hE, ⟨hx, hcc, hml, hown, hts, hwm, hlow, hsz, -, -⟩, hnm⟩ := C
  obtain ⟨hP, hS0⟩ := A
  subst hty
  have hsz2 : H.size = ad E (n + k) := by rw [hP.2.1, t_ln hn hk]
  refine va_newaK hx hcc (hts _ hw) rfl hd rfl hx0 hN hbytes hcells hslots hsz2 fun H1 cA e1 z1 o1 _ hNm => ?_
  have hc : cA = eT E t0 := Option.some.inj (hNm.symm.trans (hra ((sK_at hE hwm).2 t0 _ ht).2))
  subst hc
  refine K H1 ⟨?_, cS_push hS0 (by rw [z1, hsz2]) (fun q hq => o1 q (by rw [← hsz2]; exact hq))⟩
  rw [← List.append_assoc]
  refine cP_push hP ?_ (by rw [z1, hsz2]) (fun q hq => o1 q (by rw [← hsz2]; exact hq))
  rw [t_ln hn hk]
  show H1[_]? = some (vp_cell _ _)
  rw [ha]
  exact e1
theorem w_aI : Cond.arrayClass .int ∈ sT := sT_in (n := 216) (by decide +kernel) rfl
theorem w_aL : Cond.arrayClass .long ∈ sT := sT_in (n := 215) (by decide +kernel) rfl
theorem w_aB : Cond.arrayClass .byte ∈ sT := sT_in (n := 479) (by decide +kernel) rfl
theorem cArI (C : cCx E own cc nL d p R s m args meth c) (hn : ws0.length = n) (A : cAt E s (ws0 ++ t) H locs) {k N : Nat} {x : Int32} (hk : t.length = k) (hd : decode cc pc = .ok (.newarray .int, 2)) (hx0 : ¬ x < 0) (hN : x.toNatClampNeg = N) (hb : N ≤ 2000) (hcells : cells + 1 ≤ R.cells) (hslots : slots + N ≤ R.slots)
    (K : ∀ (H : Heap), cAt E s (ws0 ++ (t ++ [aI E N])) H locs → W p l e R s m args below meth c H locs (cells + 1) (slots + N) Q (F0 m (pc + 2) ls (.ref (ad E (n + k)) :: rest))) : W p l e R s m args below meth c H locs cells slots Q (F0 m pc ls (.int x :: rest)) :=
  cArr (t0 := 0) (atype := .int) (ty := .int) (a0 := (N, .inl (fun _ => 0))) C hn A hk rfl w_aI rfl (fun h => h) (fun _ => rfl) hx0 hN (by show N * 4 ≤ _; omega) hcells hslots hd K
theorem cArL (C : cCx E own cc nL d p R s m args meth c) (hn : ws0.length = n) (A : cAt E s (ws0 ++ t) H locs) {k N : Nat} {x : Int32} (hk : t.length = k) (hd : decode cc pc = .ok (.newarray .long, 2)) (hx0 : ¬ x < 0) (hN : x.toNatClampNeg = N) (hb : N ≤ 2000) (hcells : cells + 1 ≤ R.cells) (hslots : slots + N ≤ R.slots)
    (K : ∀ (H : Heap), cAt E s (ws0 ++ (t ++ [aL E N])) H locs → W p l e R s m args below meth c H locs (cells + 1) (slots + N) Q (F0 m (pc + 2) ls (.ref (ad E (n + k)) :: rest))) : W p l e R s m args below meth c H locs cells slots Q (F0 m pc ls (.int x :: rest)) :=
  cArr (t0 := 1) (atype := .long) (ty := .long) (a0 := (N, .inr (.inl (fun _ => 0)))) C hn A hk rfl w_aL rfl (fun h => h) (fun _ => rfl) hx0 hN (by show N * 8 ≤ _; omega) hcells hslots hd K
theorem cArB (C : cCx E own cc nL d p R s m args meth c) (hn : ws0.length = n) (A : cAt E s (ws0 ++ t) H locs) {k N : Nat} {x : Int32} (hk : t.length = k) (hd : decode cc pc = .ok (.newarray .byte, 2)) (hx0 : ¬ x < 0) (hN : x.toNatClampNeg = N) (hb : N ≤ 2000) (hcells : cells + 1 ≤ R.cells) (hslots : slots + N ≤ R.slots)
    (K : ∀ (H : Heap), cAt E s (ws0 ++ (t ++ [aB E N])) H locs → W p l e R s m args below meth c H locs (cells + 1) (slots + N) Q (F0 m (pc + 2) ls (.ref (ad E (n + k)) :: rest))) : W p l e R s m args below meth c H locs cells slots Q (F0 m pc ls (.int x :: rest)) :=
  cArr (t0 := 2) (atype := .byte) (ty := .byte) (a0 := (N, .inl (fun _ => 0))) C hn A hk rfl w_aB rfl (fun h => h) (fun _ => rfl) hx0 hN (by show N * 1 ≤ _; omega) hcells hslots hd K
/-- the words that the start has, those too that a call does not hand on -/
def cX (E : sE) : Prop := ∃ a : Array Value, ∀ w ∈ lw_tbl, w.before a (eS E) = true
/-- an array of references -/
theorem cArQ {C0 : String} (hX : va_AO C0 (eS E)) (C : cCx E own cc nL d p R s m args meth c) (hn : ws0.length = n) (A : cAt E s (ws0 ++ t) H locs) {k t0 N idx : Nat} {x : Int32} (hk : t.length = k) (hcl : Cond.classLink (kRn own) idx C0 ∈ sT) (ht : (tys E)[t0]? = some (eT E t0, .object C0)) (hx0 : ¬ x < 0) (hN : x.toNatClampNeg = N) (hb : N ≤ 2000) (hcells : cells + 1 ≤ R.cells) (hslots : slots + N ≤ R.slots) (hd : decode cc pc = .ok (.anewarray idx, 3))
    (K : ∀ (H : Heap), cAt E s (ws0 ++ (t ++ [aQ E t0 N (fun _ => none)])) H locs → W p l e R s m args below meth c H locs (cells + 1) (slots + N) Q (F0 m (pc + 3) ls (.ref (ad E (n + k)) :: rest))) : W p l e R s m args below meth c H locs cells slots Q (F0 m pc ls (.int x :: rest)) := by
  obtain ⟨hE, ⟨hx, hcc, hml, hown, hts, hwm, hlow, hsz, -, -⟩, hnm⟩ := C
  obtain ⟨hP, hS0⟩ := A
  subst hN
  have hsz2 : H.size = ad E (n + k) := by rw [hP.2.1, t_ln hn hk]
  refine W.anew hx hcc hown (hts _ hcl) (va_AO.use (hX.moved hwm.alike)) rfl hd rfl hx0 (by omega) hcells hslots fun cA kA comp f1 f2 f3 f4 => ?_
  obtain ⟨-, kA', comp', -, -, -, g4⟩ := (sK_at hE hwm).2 t0 _ ht
  have hc : cA = eT E t0 := Option.some.inj (f1.symm.trans g4)
  subst hc
  generalize hH1 : H.push ({ cls := eT E t0, slots := Array.replicate x.toNatClampNeg .null, vm := .none } : Cell) = H1
  have z1 : H1.size = H.size + 1 := by rw [← hH1, Array.size_push]
  have e1 : H1[H.size]? = some (arrV (eT E t0) x.toNatClampNeg (fun _ => .null)) := by rw [← hH1, Array.getElem?_push_size, ← arrV_new]
  have o1 : ∀ q : Nat, q < H.size → H1[q]? = H[q]? := fun q hq => by rw [← hH1, Array.getElem?_push, if_neg (Nat.ne_of_lt hq)]
  have K1 := K H1 ⟨?_, cS_push hS0 z1 o1⟩
  · rw [← hsz2] at K1
    exact K1
  · rw [← List.append_assoc]
    refine cP_push hP ?_ z1 o1
    rw [t_ln hn hk, ← hsz2]
    show H1[H.size]? = some (vp_cell _ _)
    rw [vp_cell_q]
    exact e1
/-- a field that is read -/
theorem cGet (C : cCx E own cc nL d p R s m args meth c) (hn : ws0.length = n) (A : cAt E s (ws0 ++ t) H locs) {ci j sl idx : Nat} {fs : List Value} {v : Value} (hj : t[j]? = some (.inr (ci, fs))) (hci : ci < 13) (hsl : sl < knf (ci + 1)) (hlink : Cond.fieldLink (kRn own) idx (kRn ci) (kTt ci sl).2.1 (kTt ci sl).2.2.1 ∈ sT) (hv : fs[sl]? = some v) (hd : decode cc pc = .ok (.getfield idx, 3))
    (K : W p l e R s m args below meth c H locs cells slots Q (F0 m (pc + 3) ls (v :: rest))) : W p l e R s m args below meth c H locs cells slots Q (F0 m pc ls (.ref (ad E (n + j)) :: rest)) := by
  obtain ⟨hE, ⟨hx, hcc, hml, hown, hts, hwm, hlow, hsz, -, -⟩, hnm⟩ := C
  exact va_get hx hcc hts (kU ci hci) hown (sK_at hE hwm) (cP_one hn A.1 hj) 0 rfl (kcl ci hci) sl hsl (hts _ hlink) (fun x h => by rw [(kfc ci hci sl hsl).1] at h; exact h) hv hd K
/-- an array's length -/
theorem cAln (C : cCx E own cc nL d p R s m args meth c) (hn : ws0.length = n) (A : cAt E s (ws0 ++ t) H locs) {j t0 N : Nat} {f : Nat → Option Nat} {ty : FieldType} {v : Int32} (hj : t[j]? = some (aQ E t0 N f)) (ht : (tys E)[t0]? = some (eT E t0, ty)) (hv : Int32.ofNat N = v) (hd : decode cc pc = .ok (.arraylength, 1))
    (K : W p l e R s m args below meth c H locs cells slots Q (F0 m (pc + 1) ls (.int v :: rest))) : W p l e R s m args below meth c H locs cells slots Q (F0 m pc ls (.ref (ad E (n + j)) :: rest)) := by
  obtain ⟨hE, ⟨hx, hcc, hml, hown, hts, hwm, hlow, hsz, -, -⟩, hnm⟩ := C
  exact va_alen hx hcc (sK_at hE hwm) (cP_one hn A.1 hj) 0 t0 rfl ht hv hd K
/-- an int stored -/
theorem cIas (C : cCx E own cc nL d p R s m args meth c) (hn : ws0.length = n) (A : cAt E s (ws0 ++ t) H locs) {j N : Nat} {f : Nat → Int32} {i x : Int32} (hj : t[j]? = some (.inl (eT E 0, N, .inl f))) (hin : vp_in i N) (hd : decode cc pc = .ok (.iastore, 1))
    (K : ∀ (H : Heap) (locs : List Loc), cAt E s (ws0 ++ t.set j (.inl (eT E 0, N, .inl (upd f i.toNatClampNeg x)))) H locs → W p l e R s m args below meth c H locs cells slots Q (F0 m (pc + 1) ls rest)) : W p l e R s m args below meth c H locs cells slots Q (F0 m pc ls (.int x :: .int i :: .ref (ad E (n + j)) :: rest)) := by
  obtain ⟨hE, ⟨hx, hcc, hml, hown, hts, hwm, hlow, hsz, -, -⟩, hnm⟩ := C
  obtain ⟨hP, hS0⟩ := A
  have he := t_at hn hj
  refine W.iast hx hcc (hP.1 _ _ he) (((sK_at hE hwm).2 0 _ rfl).1 N (fun j => .int (f j))) (fun q => by cases q) (by show ¬ (i < 0 ∨ (arrV _ _ _).slots.size ≤ _); rw [arrV_size]; exact hin) rfl rfl hd fun H1 e1 z oq => ?_
  refine K H1 _ ⟨?_, hS0.put z oq (by show _ ≤ _ + _; omega)⟩
  rw [← t_st hn]
  refine cP_set hP he ?_ z oq
  show H1[_]? = some (vp_cell _ _)
  rw [e1, vp_cell_i, vp_cell_i, arrV_store]
  congr 2
  funext q
  by_cases hq : q = i.toNatClampNeg
  · subst hq
    simp [updV, upd]
  · simp [updV, upd, hq]
/-- a reference stored -/
theorem cAas (C : cCx E own cc nL d p R s m args meth c) (hn : ws0.length = n) (A : cAt E s (ws0 ++ t) H locs) {j jv t0 ci N : Nat} {f : Nat → Option Nat} {fs : List Value} {i : Int32} (hj : t[j]? = some (aQ E t0 N f)) (ht : (tys E)[t0]? = some (eT E t0, .object (kRn ci))) (hjv : t[jv]? = some (.inr (ci, fs))) (hci : ci < 13) (hin : vp_in i N) (hd : decode cc pc = .ok (.aastore, 1))
    (K : ∀ (H : Heap) (locs : List Loc), cAt E s (ws0 ++ t.set j (aQ E t0 N (va_up f i.toNatClampNeg (some (ad E (n + jv)))))) H locs → W p l e R s m args below meth c H locs cells slots Q (F0 m (pc + 1) ls rest)) : W p l e R s m args below meth c H locs cells slots Q (F0 m pc ls (.ref (ad E (n + jv)) :: .int i :: .ref (ad E (n + j)) :: rest)) := by
  obtain ⟨hE, ⟨hx, hcc, hml, hown, hts, hwm, hlow, hsz, -, -⟩, hnm⟩ := C
  obtain ⟨hP, hS0⟩ := A
  have he := t_at hn hj
  have hK := sK_at hE hwm
  have hlt : i.toNatClampNeg < N := Nat.not_le.mp fun q => hin (Or.inr q)
  have h0 : ¬ i < 0 := fun q => hin (Or.inl q)
  obtain ⟨r', hr', cellV, g1, g2, g3, -⟩ := hP.1 _ _ (t_at hn hjv)
  have hcls := (hK.1 ci _ (kcl ci hci)).2
  obtain ⟨kA, comp, k1, k2, k3, -⟩ := (hK.2 t0 _ ht).2
  have hcomp : comp = (eD E).1 ci := Option.some.inj (k3.symm.trans hcls.1)
  subst hcomp
  obtain ⟨kC, hkC, -⟩ := hcls.2
  refine W.aast hx hcc (hP.1 _ _ he) (fun q h => by cases h) (fun h => by cases h) k1 k2 rfl hkC ⟨h0, by show _ < (arrV _ _ _).slots.size; rw [arrV_size]; exact hlt⟩ g1 (fun q h => by rw [g3] at h; cases h) (by rw [g2]; exact hkC) (by rw [g2]; exact va_assign hcls) rfl rfl hd fun H1 e1 z oq => ?_
  refine K H1 _ ⟨?_, hS0.put z oq (by show _ ≤ _ + _; omega)⟩
  rw [← t_st hn]
  refine cP_set hP he ?_ z oq
  show H1[_]? = some (vp_cell _ _)
  rw [e1, vp_cell_q, vp_cell_q, arrV_store]
  congr 2
  funext q
  by_cases hq : q = i.toNatClampNeg
  · subst hq
    simp [updV, va_up, va_rf]
  · simp [updV, va_up, hq]
/-- Object's constructor -/
theorem w_o1 : Cond.instanceMethod objectInit ∈ sT := sT_in (n := 162) (by decide +kernel) rfl
theorem w_o2 : Cond.code objectInit ⟨#[0xb1]⟩ 1 none ∈ sT := sT_in (n := 163) (by decide +kernel) rfl
theorem cObj (C : cCx E own cc nL d p R s m args meth c) {idx a : Nat} (hlink : Cond.methodLink (kRn own) idx objectInit ∈ sT) (h1 : 1 ≤ d) (hls : ls.size = nL) (hrm : (rest.map fun v => v.category).sum ≤ 8) (hd : decode cc pc = .ok (.invokespecial idx, 3))
    (K : W p l e R s m args below meth c H locs cells slots Q (F0 m (pc + 3) ls rest)) : W p l e R s m args below meth c H locs cells slots Q (F0 m pc ls (.ref a :: rest)) := by
  obtain ⟨hE, ⟨hx, hcc, hml, hown, hts, hwm, hlow, hsz, hf, hlo⟩, hnm⟩ := C
  refine W.objInit hx hcc hown (hts _ hlink) (hts _ w_o1) (hts _ w_o2) rfl (by rw [hml]; exact hls) rfl hd (by omega) ?_ K
  show 2 * 0 + _ + 12 ≤ _
  omega
/-! contracts -/
def cPc (E : sE) (self : Nat) (ws : List va_E) : Array Value → State → Prop := fun v U => v = #[.ref (ad E self)] ∧ (eS E).WarmedH U.vm ∧ cP E ws U.heap
def cQc (E : sE) (ws : List va_E) : Array Value → State → Outcome → State → Prop := fun _ _ oc t => oc = .returned none ∧ (eS E).WarmedH t.vm ∧ cP E ws t.heap
def cRm (d mc ms : Nat) : Room := { frames := d, cells := mc, slots := ms, locals := 64 * d }
def cM (l : Launch) (E : sE) (y : MethodName) (cc : ByteArray) (nL d mc ms self : Nat) (ws ws' : List va_E) : Prop := Met l y (.code y cc nL none :: sT) (cRm d mc ms) (cPc E self ws) (cQc E ws') mc ms (sA E)
theorem cPc_blind (E : sE) (self : Nat) (ws : List va_E) : FrameBlind (cPc E self ws) := fun _ _ _ _ h => h
theorem cM_of {y : MethodName} {mc ms self : Nat} {ws ws' : List va_E} (hE : sEn E) (hy : plainName y.cls = true) (hown : kRn own = y.cls) (hi : y.name = "<init>") (hz : 1 ≤ nL)
    (k : ∀ (p : Program) (e : Env) (R : Room) (s : State) (m : MethodId) (args : Array Value) (below : List Frame) (meth : Method) (c : Code) (Q : State → Prop), cCx E own cc nL d p R s m args meth c → R.cells = mc ∧ R.slots = ms →
      (∀ (H : Heap) (locs : List Loc) (pc : Nat) (ls : Array Slot), cAt E s ws' H locs → decode cc pc = .ok (.return_, 1) → W p l e R s m args below meth c H locs mc ms Q (F0 m pc ls [])) →
      ∀ (H : Heap) (ls : Array Slot), cAt E s ws H [] → lv_has ls nL [(0, .ref (ad E self))] → W p l e R s m args below meth c H [] 0 0 Q (F0 m 0 ls [])) : cM l E y cc nL d mc ms self ws ws' := by
  refine Met.ofW (cc := cc) (maxL := nL) (ret := none) hy rfl ?_
  intro p e s m args below meth c s₁ B hml hv
  obtain ⟨rfl, hwm, hP⟩ := hv
  have hts := atoms_spec (ws := .code y cc nL none :: sT) B.pre
  have hl := lv_entry [Value.ref (ad E self)] (n := nL) hz
  have hnm : meth.name = "<init>" := (name_of_methodNamed B.named B.method).1.trans hi
  rw [show (#[Value.ref (ad E self)] : Array Value) = [Value.ref (ad E self)].toArray from rfl, lg_entry_eq]
  have hmr := B.returns
  have hlk := B.notSynchronized
  refine k p e _ s m _ below meth c _ ⟨hE, ⟨B.exec, B.bytes, hml, by rw [hown]; exact findClass_of_methodNamed B.named, fun w hw => hts w (List.mem_cons_of_mem _ hw), hwm, hP.2.2, by rw [hP.2.1]; omega, Nat.le_refl _, Nat.le_refl _⟩, fun _ => hnm⟩ ⟨rfl, rfl⟩ ?_ _ _ ⟨hP, va_S.rf⟩ hl
  intro H locs pc ls A hd
  exact W.vret B.exec B.bytes hmr (fun t ht hw => ⟨rfl, hwm.trans hw, by rw [ht]; exact A.1⟩) A.2.2.2 hd hlk
/-- what is known of a constructor -/
def yI (y : MethodName) (cc : ByteArray) (nL : Nat) : Prop := Cond.code y cc nL none ∈ sT ∧ Cond.initialized y.cls ∈ sT ∧ Cond.instanceMethod y ∈ sT ∧ (y.cls ≠ "java/lang/invoke/MethodHandle" ∧ y.cls ≠ "java/lang/invoke/VarHandle" ∧ (parseMethodDescriptor y.desc).map (fun d => d.parameters.length) = some 0) ∧ nL ≤ 40 ∧ y.name = "<init>"
variable {y : MethodName} {cc' : ByteArray} {nL' d' mc ms idx k : Nat} {t' : List va_E}
theorem cBh {stk : List Value} {a : Array Value} (C : cCx E own cc nL d p R s m args meth c) (A : cAt E s (ws0 ++ t) H locs) (hlen : t.length ≤ t'.length) (hr : va_Run p l e R s m args below meth c H locs cells slots mc ms (F0 m pc ls stk) rest (cQc E (ws0 ++ t') a) (sA E))
    (K : ∀ (H : Heap) (locs : List Loc), cAt E s (ws0 ++ t') H locs → W p l e R s m args below meth c H locs (cells + mc) (slots + ms) Q (F0 m (pc + 3) ls rest)) : W p l e R s m args below meth c H locs cells slots Q (F0 m pc ls stk) := by
  obtain ⟨hE, ⟨hx, hcc, hml, hown, hts, hwm, hlow, hsz, -, -⟩, hnm⟩ := C
  obtain ⟨hP, hS⟩ := A
  intro T hT X
  obtain ⟨v, u₀, t2, T', L, h0, X', hL, e1, e2, ⟨hv, hw1, hP1⟩, go⟩ := hr T hT X
  cases hv
  have hS1 : va_S (sA E) s.heap T'.heap (locs ++ L) := by
    refine ⟨?_, fun q h1 h2 => ?_, fun q hq => ?_⟩
    · have := hS.1
      rw [hP.2.1] at this
      rw [e1, hP1.2.1]
      simp only [List.length_append] at this ⊢
      omega
    · have hq : q < (eS E).heap.size := Nat.not_le.mp h2
      rw [e1, hP1.2.2 q hq, hlow q hq]
    · rcases List.mem_append.mp hq with h | h
      · exact hS.2.2 q h
      · exact hL q h
  obtain ⟨t3, a1, b1⟩ := K T'.heap (locs ++ L) ⟨by rw [e1]; exact hP1, hS1⟩ T' rfl X'
  exact ⟨t3, go t3 a1, b1⟩
theorem cCalN {host : String} (hX : va_Nw (.methodLinkNest (kRn own) idx y host) (eS E)) (C : cCx E own cc nL d p R s m args meth c) (A : cAt E s (ws0 ++ t) H locs) (hM : cM l E y cc' nL' d' mc ms (n + k) (ws0 ++ t) (ws0 ++ t')) (hd' : d' + 1 ≤ d) (hy : yI y cc' nL') (hlen : t.length ≤ t'.length) (hls : ls.size = nL) (hrm : (rest.map fun v => v.category).sum ≤ 8) (hcs : cells + mc ≤ R.cells ∧ slots + ms ≤ R.slots) (hdec : decode cc pc = .ok (.invokespecial idx, 3))
    (K : ∀ (H : Heap) (locs : List Loc), cAt E s (ws0 ++ t') H locs → W p l e R s m args below meth c H locs (cells + mc) (slots + ms) Q (F0 m (pc + 3) ls rest)) : W p l e R s m args below meth c H locs cells slots Q (F0 m pc ls (.ref (ad E (n + k)) :: rest)) := by
  obtain ⟨hE, ⟨hx, hcc, hml, hown, hts, hwm, hlow, hsz, hf, hlo⟩, hnm⟩ := id C
  obtain ⟨w1, w2, w3, w4, w5, w6⟩ := hy
  have hcb := va_cnB (R := R) (s := s) (args := args) (own := kRn own) (index := idx) (maxL := nL') (host := host) 0 hts (sT_GoodIn y cc' nL' none w1) rfl (rm := cRm d' mc ms) rfl rfl (va_Nw.warmM hwm hX) (hts _ w2) w4 ⟨by show d' + 1 ≤ _; omega, by show 8 + (nL' + 11) + 64 * d' ≤ _; omega⟩
  exact cBh C A hlen (va_runIN (b := ad E (n + k)) (As := []) (nL := nL) (Ts := sT) (own := kRn own) (cc := cc) ⟨hx, hcc, hml, hown, hts⟩ hM ⟨hcb, w6, hts _ w3⟩ ⟨cPc_blind E _ _, fun U hU hw => ⟨rfl, hwm.trans hw, by rw [hU]; exact A.1⟩⟩ rfl rfl hls rfl (lv_room hrm) hdec hcs) K
theorem cCal (hlink : Cond.methodLink (kRn own) idx y ∈ sT) (C : cCx E own cc nL d p R s m args meth c) (A : cAt E s (ws0 ++ t) H locs) (hM : cM l E y cc' nL' d' mc ms (n + k) (ws0 ++ t) (ws0 ++ t')) (hd' : d' + 1 ≤ d) (hy : yI y cc' nL') (hlen : t.length ≤ t'.length) (hls : ls.size = nL) (hrm : (rest.map fun v => v.category).sum ≤ 8) (hcs : cells + mc ≤ R.cells ∧ slots + ms ≤ R.slots) (hdec : decode cc pc = .ok (.invokespecial idx, 3))
    (K : ∀ (H : Heap) (locs : List Loc), cAt E s (ws0 ++ t') H locs → W p l e R s m args below meth c H locs (cells + mc) (slots + ms) Q (F0 m (pc + 3) ls rest)) : W p l e R s m args below meth c H locs cells slots Q (F0 m pc ls (.ref (ad E (n + k)) :: rest)) := by
  obtain ⟨hE, ⟨hx, hcc, hml, hown, hts, hwm, hlow, hsz, hf, hlo⟩, hnm⟩ := id C
  obtain ⟨w1, w2, w3, w4, w5, w6⟩ := hy
  have hcb := callB_of (R := R) (s := s) (args := args) (own := kRn own) (index := idx) (maxL := nL') 0 hts (sT_GoodIn y cc' nL' none w1) rfl (rm := cRm d' mc ms) rfl rfl (hts _ w2) (hts _ hlink) w4 ⟨by show d' + 1 ≤ _; omega, by show 8 + (nL' + 11) + 64 * d' ≤ _; omega⟩
  exact cBh C A hlen (va_runI (b := ad E (n + k)) (As := []) (nL := nL) (Ts := sT) (own := kRn own) (cc := cc) ⟨hx, hcc, hml, hown, hts⟩ hM ⟨hcb, w6, hts _ w3⟩ ⟨cPc_blind E _ _, fun U hU hw => ⟨rfl, hwm.trans hw, by rw [hU]; exact A.1⟩⟩ rfl rfl hls rfl (lv_room hrm) hdec hcs) K
end C98zu
