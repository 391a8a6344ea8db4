/-! THE CLAIM OUT OF ONE WALK OF THE LAW'S BODY. Your part is whole_start (and what it stands on); all else here is the same for every law, but numbers. -/
def R_law : String := "ClockRiverLaw"
def lw_P (b : Addr) (xs : List Int32) (args : Array Value) (s : State) : Prop := args = #[.ref b] ∧ s.IntsAt b xs ∧ xs.length ≤ 3072 ∧ (Jvm.Cond.and given_1 narrow_1).before args s = true
def lw_Q (_ : Array Value) (s : State) (o : Outcome) (t : State) : Prop := o = .returned (some (.int 1)) ∧ Framed s o t [] 600000 7302250
def lw_Z (below : List Frame) (a : Array Value) (s : State) : State → Prop := fun t => ∃ o, t.status = .running ∧ Ended t below o ∧ lw_Q a s o t
/-- the law's own end, with 1 on the stack, nothing written that was there before, its room as the claim has it -/
theorem lw_ret {p : Program} {l : Launch} {e : Env} {s : State} {m : MethodId} {below : List Frame} {meth : Method} {c : Code} {b : Nat} (hx : p.tables.exec = Jvm.exec) (hb : c.code = code) (hr : meth.sig.returnType = ret) (hlocks : meth.locks = false) {pc : Nat} {H : Heap} {ls : Array Slot} (hdg : decode code pc = .ok (.ireturn, 1)) : W p l e room_1 s m #[Value.ref b] below meth c H [] 600000 7302250 (lw_Z below #[Value.ref b] s) (F0 m pc ls [.int 1]) := by
  intro T hT X
  obtain ⟨fs, hret, hrun, hended, hW, hframe⟩ := X.leave (v := some (.int 1)) (hlocks := hlocks) (fun h => by rw [hr] at h; cases h)
  have hmeth' : T.vm.method? m = some meth := X.method'
  refine ⟨T.setFrames fs, ?_, .returned (some (.int 1)), hrun, hended, rfl, ⟨_, rfl⟩, hW, hframe⟩
  jvm_step X.here [X.here.top, hx, hb, hdg, hmeth', hr, ret, narrow_b1]
  (try refine ⟨rfl, ?_⟩); (try refine ⟨rfl, ?_⟩)
  first | (intro acts; rw [hret _ acts rfl rfl rfl]) | rw [hret _ _ rfl rfl rfl]
  exact Steps.refl _
/-- what holds at the law's entry: the machine, the code, the tables' words (any of lw_tbl by 'hts w (by decide +kernel)'), the script of L ints xs at the cell b, what the Statement gives of the start (any of its parts by flat_of_before) -/
def lw_At (p : Program) (s : State) (m : MethodId) (meth : Method) (c : Code) (b L : Nat) (xs : Nat → Int32) : Prop :=
  p.tables.exec = Jvm.exec ∧ c.code = code ∧ meth.sig.returnType = ret ∧ c.maxLocals = 4 ∧ s.vm.findClass R_law = some m.cls ∧ (∀ w ∈ lw_tbl, w.before #[Value.ref b] s = true) ∧ va_X b L xs s s.heap ∧ b < s.heap.size ∧ meth.locks = false ∧ (Jvm.Cond.and given_1 narrow_1).before #[Value.ref b] s = true
/-! the reference's constructor, called from the law -/
section C98zz4
variable {E : sE} {cc : ByteArray} {nL d : Nat} {p : Program} {l : Launch} {e : Env} {R : Room} {s : State} {m : MethodId} {args : Array Value} {below : List Frame} {meth : Method} {c : Code} {H : Heap} {locs : List Loc} {cells slots : Nat} {Q : State → Prop} {pc : Nat} {ls : Array Slot} {rest : List Value} {xs : Nat → Int32}
theorem cCalM {idx : Nat} (hES : eS E = s) (hX : va_X (eB E) (eL E) xs (eS E) (eS E).heap) (hlink : Cond.methodLink (kRn 13) idx yX12_init ∈ sT) (C : cCx E 13 cc nL d p R s m args meth c) (A : cAt E s (oX11 E 0 ++ [.inr (12, bX12)]) H locs) (hd' : 4 ≤ d) (hls : ls.size = nL) (hrm : (rest.map fun v => v.category).sum ≤ 8) (hcs : cells + 15 ≤ R.cells ∧ slots + 3548 ≤ R.slots) (hdec : decode cc pc = .ok (.invokespecial idx, 3))
    (K : ∀ (H : Heap) (locs : List Loc), sW E (mA xs (eL E)) H → va_S (sA E) s.heap H locs → W p l e R s m args below meth c H locs (cells + 15) (slots + 3548) Q (F0 m (pc + 3) ls rest)) : W p l e R s m args below meth c H locs cells slots Q (F0 m pc ls (.ref (ad E 242) :: rest)) := by
  obtain ⟨hE, ⟨hx, hcc, hml, hown, hts, hwm, hlow, hsz, hf, hlo⟩, hnm⟩ := id C
  obtain ⟨w1, w2, w3, w4, w5, w6⟩ := yi12
  have hcb := callB_of (R := R) (s := s) (args := args) (own := kRn 13) (index := idx) (maxL := 2) 0 hts (sT_GoodIn yX12_init cX12_init 2 none w1) rfl (rm := cRm 3 15 3548) rfl rfl (hts _ w2) (hts _ hlink) w4 ⟨by show 3 + 1 ≤ _; omega, by show 8 + (2 + 11) + 64 * 3 ≤ _; omega⟩
  have hr := va_runI (meth := meth) (b := ad E 242) (As := []) (nL := nL) (Ts := sT) (own := kRn 13) (cc := cc) (g := F0 m pc ls (.ref (ad E 242) :: rest)) (rest := rest) (below := below) (e := e) (locs := locs) ⟨hx, hcc, hml, hown, hts⟩ (kMod (l := l) hE hX) ⟨hcb, w6, hts _ w3⟩ ⟨cPc_blind E _ _, fun U hU hw => ⟨rfl, hwm.trans hw, by rw [hU]; exact A.1⟩⟩ rfl rfl hls rfl (lv_room hrm) hdec hcs
  obtain ⟨hP, hS⟩ := A
  intro T hT X
  obtain ⟨v, u₀, t2, T', L, h0, X', hL, e1, e2, ⟨hv, hw1, hW⟩, go⟩ := hr T hT X
  cases hv
  have hS1 : va_S (sA E) s.heap T'.heap (locs ++ L) := by
    refine ⟨?_, fun q h1 h2 => ?_, fun q hq => ?_⟩
    · have := (hW.1 0 _ (wld_at E _ (k := 12) (i := 0) (by decide +kernel) |> fun h => by rw [kof_12] at h; exact h)).lt
      rw [e1, ← hES]
      show _ ≤ _
      have h2 : (eS E).heap.size + 0 < t2.heap.size := this
      omega
    · have hq : q < (eS E).heap.size := Nat.not_le.mp h2
      rw [e1, hW.2.2.1 q hq, hlow q hq]
    · rcases List.mem_append.mp hq with h | h
      · exact hS.2.2 q h
      · exact hL q h
  obtain ⟨t3, a1, b1⟩ := K T'.heap (locs ++ L) (by rw [e1]; exact hW) hS1 T' rfl X'
  exact ⟨t3, go t3 a1, b1⟩
end C98zz4
set_option maxRecDepth 100000 in
set_option maxHeartbeats 4000000 in
theorem whole_start {p : Program} {e : Env} {s : State} {m : MethodId} {below : List Frame} {meth : Method} {c : Code} (l : Launch) {b L : Nat} {xs : Nat → Int32} (hL : L ≤ 3072) (C0 : lw_At p s m meth c b L xs) : W p l e room_1 s m #[Value.ref b] below meth c s.heap [] 0 0 (lw_Z below #[Value.ref b] s) (entryFrame m ([Value.ref b] : List Value).toArray 4) := by
  obtain ⟨hx, hcc, hret, hml, hown, hts, hXX, hbl, hlk, hgv⟩ := C0
  obtain ⟨D, T, aw, av, hE⟩ := st_E (b := b) (L := L) hts hgv hbl hL
  have hX : cX ((s, b, L, D, T, aw, av) : sE) := ⟨_, hts⟩
  have hts' : ∀ w ∈ sT, w.before #[Value.ref b] s = true := fun w hw => hts w (List.mem_filter.mp hw).1
  obtain ⟨E, hEe⟩ : ∃ E : sE, E = (s, b, L, D, T, aw, av) := ⟨_, rfl⟩
  rw [← hEe] at hE hX
  have hES : eS E = s := by rw [hEe]; rfl
  have hEB : eB E = b := by rw [hEe]; rfl
  have hEL : eL E = L := by rw [hEe]; rfl
  have hl := lv_entry [Value.ref b] (n := 4) (Nat.le_of_ble_eq_true rfl)
  rw [lg_entry_eq]
  generalize (lg_sl [Value.ref b] ++ List.replicate (4 - (lg_sl [Value.ref b]).length) Slot.unset).toArray = ls at hl ⊢
  have hl : lv_has ls 4 [(0, .ref b)] := hl
  have hwm : (eS E).WarmedH s.vm := by rw [hES]; exact State.WarmedH.refl s
  have hlow : ∀ q : Nat, q < (eS E).heap.size → s.heap[q]? = (eS E).heap[q]? := fun q _ => by rw [hES]
  have hsz : (eS E).heap.size ≤ s.heap.size := by rw [hES]; exact Nat.le_refl _
  have C : cCx E 13 cL_law 4 30 p room_1 s m #[Value.ref b] meth c := ⟨hE, ⟨hx, hcc, hml, hown, hts', hwm, hlow, hsz, by decide, by decide⟩, fun h => absurd h (by decide)⟩
  have A : cAt E s (([] : List va_E) ++ ([] : List va_E)) s.heap [] := ⟨⟨fun n x h => by simp at h, by rw [hES]; rfl, fun q hq => hlow q hq⟩, va_S.rf⟩
  have hXX' : va_X (eB E) (eL E) xs (eS E) (eS E).heap := by rw [hES, hEB, hEL]; exact hXX
  refine cNew (idx := 7) (k := 0) (ci := 11) (fs := bX11) (NN := 15) (n := 0) rfl C rfl A rfl (by decide) (sT_in (n := 156) (by decide +kernel) rfl) (sT_in (n := 157) (by decide +kernel) rfl) (sT_in (n := 137) (by decide +kernel) rfl) df11 (by decide) (by decide) (by decide +kernel) (fun H A => ?_)
  have A : cAt E s (([] : List va_E) ++ [.inr (11, bX11)]) H [] := A
  refine lv_dup hx hcc (by decide +kernel) rfl ?_
  have M : cM l E yX11_init cX11_init 2 4 241 7026 (0 + 0) (([] : List va_E) ++ [.inr (11, bX11)]) (([] : List va_E) ++ oX11 E 0) := k_X11 hX (l := l) hE [] 0 rfl
  refine cCal (idx := 9) (y := yX11_init) (sT_in (n := 158) (by decide +kernel) rfl) C A M (by decide) yi11 (Nat.le_of_ble_eq_true rfl) hl.1 (by simp [Value.category]) ⟨by decide, by decide⟩ (by decide +kernel) (fun H locs A => ?_)
  refine lv_astore_n (k := 1) hx hcc (by decide +kernel) rfl hl (by decide) rfl (fun ls hl => ?_)
  have hl : lv_has ls 4 [(1, .ref (ad E 0)), (0, .ref b)] := hl
  refine cNew (idx := 10) (k := 242) (ci := 12) (fs := bX12) (NN := 49) (n := 0) rfl C rfl A rfl (by decide) (sT_in (n := 1445) (by decide +kernel) rfl) (sT_in (n := 1446) (by decide +kernel) rfl) (sT_in (n := 149) (by decide +kernel) rfl) df12 (by decide) (by decide) (by decide +kernel) (fun H A => ?_)
  have A : cAt E s (oX11 E 0 ++ [.inr (12, bX12)]) H locs := A
  refine lv_dup hx hcc (by decide +kernel) rfl ?_
  rw [show ad E (0 + 242) = ad E 242 from rfl]
  refine cCalM (idx := 12) hES hXX' (sT_in (n := 1447) (by decide +kernel) rfl) C A (by decide) hl.1 (by simp [Value.category]) ⟨by decide, by decide⟩ (by decide +kernel) (fun H locs hW hS => ?_)
  refine lv_astore_n (k := 2) hx hcc (by decide +kernel) rfl hl (by decide) rfl (fun ls hl => ?_)
  refine lv_iconst (n := 0) (v := 0) hx hcc (by decide +kernel) (by decide) ?_
  refine lv_istore_n (k := 3) hx hcc (by decide +kernel) rfl hl (by decide) rfl (fun ls hl => ?_)
  have hl : lv_has ls 4 [(3, .int 0), (2, .ref (ad E 242)), (1, .ref (ad E 0)), (0, .ref b)] := hl
  obtain ⟨ρ, hρ⟩ := law3 (xs := xs) (L := L) hL
  rw [hEL] at hW
  refine L_law_L18_ok fuN 0 (mA xs L) (some (vi 1)) ρ (by rw [hρ]; rfl) E p l e room_1 s m #[Value.ref b] below meth c _ _ _ ⟨hE, ⟨hx, hcc, hml, hown, hts', hwm, hlow, hsz⟩, ⟨by decide, by decide, by decide, by decide⟩, fun H locs pc ls hW1 hS1 hrt _ => ?_⟩ H locs ls ⟨hW, hS, (fun v h => by cases h), ?_, ?_⟩
  · refine va_forget (fun q hq => by
      have h : (eS E).heap.size ≤ q.base := hS1.2.2 q hq
      rw [hES] at h
      exact h) ?_
    refine W.widen (k := 600000) (n := 7302250) (by decide) (by decide) ?_
    exact lw_ret hx hcc hret hlk hrt.1
  · intro q hq
    simp at hq
    rcases hq with rfl | rfl | rfl | rfl
    · exact Or.inr rfl
    · exact Or.inl (by decide +kernel)
    · exact Or.inl (by decide +kernel)
    · trivial
  · show lv_has ls 4 [(0, .ref (sad E (0, 0))), (1, .ref (sad E (12, 0))), (2, .ref (sad E (13, 0))), (3, .int 0)]
    rw [sad_13, sad_12, show sad E (0, 0) = b from hEB]
    exact lv_sub hl [3, 2, 1, 0] rfl
