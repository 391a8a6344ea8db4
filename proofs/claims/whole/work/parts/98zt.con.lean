/-! 98zt: constructors: the rules. The cells made so far lie one behind another behind the start's heap -/
section C98zt
/-- cell n that was made is as ws has it -/
def cP (E : sE) (ws : List va_E) (H : Heap) : Prop := (∀ (n : Nat) (x : va_E), ws[n]? = some x → va_at (eD E) vwCl ((eS E).heap.size + n, x) H) ∧ H.size = (eS E).heap.size + ws.length ∧ ∀ q : Nat, q < (eS E).heap.size → H[q]? = (eS E).heap[q]?
abbrev ad (E : sE) (n : Nat) : Nat := (eS E).heap.size + n
/-- where a constructor's walk stands -/
def cCx (E : sE) (own : Nat) (cc : ByteArray) (nL d : Nat) (p : Program) (R : Room) (s : State) (m : MethodId) (args : Array Value) (meth : Method) (c : Code) : Prop :=
  sEn E ∧ wCx E (kRn own) cc nL d p R s m args c ∧ (own < 13 → meth.name = "<init>")
variable {E : sE} {own : Nat} {cc : ByteArray} {nL d : Nat} {p : Program} {l : Launch} {e : Env} {R : Room} {s : State} {m : MethodId} {args : Array Value} {below : List Frame} {meth : Method} {c : Code} {H : Heap} {locs : List Loc} {cells slots : Nat} {Q : State → Prop} {pc : Nat} {ls : Array Slot} {rest : List Value}
variable {ws0 t : List va_E} {n : Nat}
/-- what the rules carry along -/
def cAt (E : sE) (s : State) (ws : List va_E) (H : Heap) (locs : List Loc) : Prop := cP E ws H ∧ va_S (sA E) s.heap H locs
theorem cP_set {ws : List va_E} {k : Nat} {x x' : va_E} {H1 : Heap} (h : cP E ws H) (hk : ws[k]? = some x) (ha : va_at (eD E) vwCl (ad E k, x') H1) (z : H1.size = H.size) (oq : ∀ q : Nat, q ≠ ad E k → H1[q]? = H[q]?) : cP E (ws.set k x') H1 := by
  have hl := (List.getElem?_eq_some_iff.mp hk).1
  refine ⟨fun j y hy => ?_, by rw [z, h.2.1, List.length_set], fun q hq => by rw [oq q (by show q ≠ _ + _; omega)]; exact h.2.2 q hq⟩
  by_cases e : j = k
  · subst e
    rw [List.getElem?_set_self hl] at hy
    cases hy
    exact ha
  · rw [List.getElem?_set_ne (fun q => e q.symm)] at hy
    exact (h.1 j y hy).kept (oq _ (by show _ + _ ≠ _ + _; omega))
theorem cP_push {ws : List va_E} {x : va_E} {H1 : Heap} (h : cP E ws H) (ha : va_at (eD E) vwCl (ad E ws.length, x) H1) (z : H1.size = H.size + 1) (oq : ∀ q : Nat, q < H.size → H1[q]? = H[q]?) : cP E (ws ++ [x]) H1 := by
  refine ⟨fun j y hy => ?_, by rw [z, h.2.1, List.length_append]; rfl, fun q hq => by rw [oq q (by rw [h.2.1]; omega)]; exact h.2.2 q hq⟩
  by_cases e : j < ws.length
  · rw [List.getElem?_append_left e] at hy
    exact (h.1 j y hy).kept (oq _ (by rw [h.2.1]; show _ + _ < _; omega))
  · rw [List.getElem?_append_right (by omega)] at hy
    have hz : j - ws.length < 1 := (List.getElem?_eq_some_iff.mp hy).1
    rw [show j - ws.length = 0 by omega] at hy
    cases hy
    rw [show j = ws.length by omega]
    exact ha
theorem t_at {j : Nat} {x : va_E} (hn : ws0.length = n) (h : t[j]? = some x) : (ws0 ++ t)[n + j]? = some x := by
  rw [List.getElem?_append_right (by omega), show n + j - ws0.length = j by omega]
  exact h
theorem t_st {j : Nat} {x : va_E} (hn : ws0.length = n) : (ws0 ++ t).set (n + j) x = ws0 ++ t.set j x := by
  rw [List.set_append_right _ _ (by omega), show n + j - ws0.length = j by omega]
theorem t_ln {k : Nat} (hn : ws0.length = n) (hk : t.length = k) : (ws0 ++ t).length = n + k := by
  rw [List.length_append]
  omega
/-- a field that may change -/
theorem cPut (C : cCx E own cc nL d p R s m args meth c) (hn : ws0.length = n) (A : cAt E s (ws0 ++ t) H locs) {ci j sl idx : Nat} {fs : List Value} {v : Value} (hj : t[j]? = some (.inr (ci, fs))) (hci : ci < 13) (hsl : sl < knf (ci + 1)) (hlink : Cond.fieldLink (kRn own) idx (kRn ci) (kTt ci sl).2.1 (kTt ci sl).2.2.1 ∈ sT) (hfin : (kTt ci sl).2.2.2 = false) (hnv : narrow (kTy ci sl) v = v) (hfit : fits (kTy ci sl) v = true) (hl : sl < fs.length) (hd : decode cc pc = .ok (.putfield idx, 3))
    (K : ∀ (H : Heap) (locs : List Loc), cAt E s (ws0 ++ t.set j (.inr (ci, fs.set sl v))) H locs → W p l e R s m args below meth c H locs cells slots Q (F0 m (pc + 3) ls rest)) : W p l e R s m args below meth c H locs cells slots Q (F0 m pc ls (v :: .ref (ad E (n + j)) :: rest)) := by
  obtain ⟨hE, ⟨hx, hcc, hml, hown, hts, hwm, hlow, hsz, -, -⟩, hnm⟩ := C
  obtain ⟨hP, hS0⟩ := A
  have hK := sK_at hE hwm
  have he := t_at hn hj
  have hap := va_apart (own := kRn own) hts (kU ci hci) (kTy ci) (kty ci hci) (knm ci hci) hK (kcl ci hci)
  obtain ⟨r, h1, cell, q1, q2, q3, q4⟩ := hP.1 _ _ he
  have hr : r = (kRn ci, kTt ci, knf (ci + 1)) := Option.some.inj (h1.symm.trans (kcl ci hci))
  subst hr
  obtain ⟨hS, hfc, kC, hkC, hkind⟩ := hK.1 ci _ (kcl ci hci)
  obtain ⟨cf, kf, fi, f, hi, hslt⟩ := hS sl hsl
  have hlay := hts _ (kU ci hci _ (u_in_lay hsl))
  unfold u_lay at hlay
  rw [if_neg (by rw [hfin]; decide)] at hlay
  have hst := (u_facts hfc hkC (u_lays hts (kU ci hci) hsl) hi).1
  have h6 := u_store hfc hkC hkind hlay hi (kty ci hci sl hsl) hnv hfit
  refine W.putK hx hcc (f := f) ⟨hown, hts _ hlink, ⟨_, _, _, by rw [← (kfc ci hci sl hsl).1]; exact hi⟩, hst⟩ (by rw [q2]; exact h6) q1 q3 (by rw [hslt]; exact k2_hasslot (q4 sl hsl)) rfl rfl hd fun H' e1 e2 e3 => ?_
  rw [hslt] at e1 ⊢
  refine K H' _ ⟨?_, hS0.put e2 e3 (by show _ ≤ _ + _; omega)⟩
  rw [← t_st hn]
  exact cP_set hP he ⟨_, kcl ci hci, t_OB.to (V := updV (vp_V fs) sl v) ⟨_, e1, q2, q3, t_set q4 hap hsl v⟩ (fun j _ => vp_updV_set hl v j)⟩ e2 e3
/-- a final field -/
theorem cPutF (C : cCx E own cc nL d p R s m args meth c) (hn : ws0.length = n) (A : cAt E s (ws0 ++ t) H locs) {j sl idx : Nat} {fs : List Value} {v : Value} (hj : t[j]? = some (.inr (own, fs))) (hci : own < 13) (hsl : sl < knf (own + 1)) (hlink : Cond.fieldLink (kRn own) idx (kRn own) (kTt own sl).2.1 (kTt own sl).2.2.1 ∈ sT) (hfin : (kTt own sl).2.2.2 = true) (hnv : narrow (kTy own sl) v = v) (hfit : fits (kTy own sl) v = true) (hl : sl < fs.length) (hd : decode cc pc = .ok (.putfield idx, 3))
    (K : ∀ (H : Heap) (locs : List Loc), cAt E s (ws0 ++ t.set j (.inr (own, fs.set sl v))) H locs → W p l e R s m args below meth c H locs cells slots Q (F0 m (pc + 3) ls rest)) : W p l e R s m args below meth c H locs cells slots Q (F0 m pc ls (v :: .ref (ad E (n + j)) :: rest)) := by
  obtain ⟨hE, ⟨hx, hcc, hml, hown, hts, hwm, hlow, hsz, -, -⟩, hnm⟩ := C
  obtain ⟨hP, hS0⟩ := A
  have hK := sK_at hE hwm
  have he := t_at hn hj
  have hap := va_apart (own := kRn own) hts (kU own hci) (kTy own) (kty own hci) (knm own hci) hK (kcl own hci)
  obtain ⟨r, h1, cell, q1, q2, q3, q4⟩ := hP.1 _ _ he
  have hr : r = (kRn own, kTt own, knf (own + 1)) := Option.some.inj (h1.symm.trans (kcl own hci))
  subst hr
  obtain ⟨hS, hfc, kC, hkC, hkind⟩ := hK.1 own _ (kcl own hci)
  obtain ⟨cf, kf, fi, f, hi, hslt⟩ := hS sl hsl
  have hlay := hts _ (kU own hci _ (u_in_lay hsl))
  unfold u_lay at hlay
  rw [if_pos hfin] at hlay
  have hst := (u_facts hfc hkC (u_lays hts (kU own hci) hsl) hi).1
  have hcf : m.cls = cf := by
    obtain ⟨_, _, c', _, _, _, -, -, hf', -, -, -, hown2, -⟩ := Cond.laysFinal_spec hlay
    have e1 : c' = cf := by have := hi.symm.trans hf'; simp at this; exact this.1.symm
    rw [(kfc own hci sl hsl).1] at hown2
    rw [← e1]; exact Option.some.inj (hown.symm.trans hown2)
  have h6 := u_fits hfc hkC hkind (Or.inr hlay) hi (kty own hci sl hsl) hnv hfit
  refine W.putFinK hx hcc hown (hts _ hlink) (by rw [← (kfc own hci sl hsl).1]; exact hi) hst hcf (hnm hci) (by rw [q2]; exact h6) q1 q3 (by rw [hslt]; exact k2_hasslot (q4 sl hsl)) rfl rfl hd fun H' e1 e2 e3 => ?_
  rw [hslt] at e1 ⊢
  refine K H' _ ⟨?_, hS0.put e2 e3 (by show _ ≤ _ + _; omega)⟩
  rw [← t_st hn]
  exact cP_set hP he ⟨_, kcl own hci, t_OB.to (V := updV (vp_V fs) sl v) ⟨_, e1, q2, q3, t_set q4 hap hsl v⟩ (fun j _ => vp_updV_set hl v j)⟩ e2 e3
theorem cS_push {H1 : Heap} (hS : va_S (sA E) s.heap H locs) (z : H1.size = H.size + 1) (oq : ∀ q : Nat, q < H.size → H1[q]? = H[q]?) : va_S (sA E) s.heap H1 locs := ⟨Nat.le_trans hS.1 (by omega), fun x h1 h2 => (oq x (Nat.lt_of_lt_of_le h1 hS.1)).trans (hS.2.1 x h1 h2), hS.2.2⟩
/-- a new object -/
theorem cNew {ci NN : Nat} (hNN : knf (ci + 1) = NN) (C : cCx E own cc nL d p R s m args meth c) (hn : ws0.length = n) (A : cAt E s (ws0 ++ t) H locs) {k idx : Nat} {fs : List Value} (hk : t.length = k) (hci : ci < 13) (hcl : Cond.classLink (kRn own) idx (kRn ci) ∈ sT) (hinst : Cond.instantiable (kRn ci) (knf (ci + 1)) ∈ sT) (hini : Cond.initialized (kRn ci) ∈ sT) (hfs : ∀ j, j < knf (ci + 1) → defaultValue (kTy ci j) = vp_V fs j) (hcells : cells + 1 ≤ R.cells) (hslots : slots + NN ≤ R.slots) (hd : decode cc pc = .ok (.new idx, 3))
    (K : ∀ (H : Heap), cAt E s (ws0 ++ (t ++ [.inr (ci, fs)])) H locs → W p l e R s m args below meth c H locs (cells + 1) (slots + NN) Q (F0 m (pc + 3) ls (.ref (ad E (n + k)) :: rest))) : W p l e R s m args below meth c H locs cells slots Q (F0 m pc ls rest) := by
  subst hNN
  obtain ⟨hE, ⟨hx, hcc, hml, hown, hts, hwm, hlow, hsz, -, -⟩, hnm⟩ := C
  obtain ⟨hP, hS0⟩ := A
  have hKn := (sK_at hE hwm).1 ci _ (kcl ci hci)
  have hsz2 : H.size = ad E (n + k) := by rw [hP.2.1, t_ln hn hk]
  refine W.newcK hx hcc hown (hts _ hcl) (hts _ hinst) (hts _ hini) rfl hd hcells hslots hKn.2.1 hsz2 fun H1 kC hkC e1 z1 o1 => ?_
  refine K H1 ⟨?_, cS_push hS0 (by rw [z1, hsz2]) (fun q hq => o1 q (by rw [← hsz2]; exact hq))⟩
  rw [← List.append_assoc]
  refine cP_push hP ?_ (by rw [z1, hsz2]) (fun q hq => o1 q (by rw [← hsz2]; exact hq))
  rw [t_ln hn hk]
  exact ⟨_, kcl ci hci, (u_born (kTy ci) hts (kU ci hci) hKn hkC e1 (kty ci hci)).to hfs⟩
end C98zt
