/-! 05: the plain machine's straight steps -/
abbrev sO : Type := Instr × Nat × Nat × Int32 × Int64
abbrev sL : Type := List (Nat × sV)
abbrev sS : Type := sL × List sV × sM
def lk (i : Nat) : sL → Option sV
  | [] => none
  | q :: t => if q.1 = i then some q.2 else lk i t
theorem lk_mem {i : Nat} {v : sV} : ∀ {lo : sL}, lk i lo = some v → (i, v) ∈ lo
  | [], h => by cases h
  | q :: t, h => by
    unfold lk at h
    by_cases e : q.1 = i
    · rw [if_pos e] at h
      cases h
      rw [← e]
      exact List.mem_cons_self
    · rw [if_neg e] at h
      exact List.mem_cons_of_mem _ (lk_mem h)
def ct2 (v : sV) : Bool := match v with
  | .inr (.inl _) => true
  | _ => false
theorem ct2_gm (E : sE) (v : sV) : ((gm E v).category == 2) = ct2 v := by
  rcases v with x | x | q <;> rfl
def ls1 (i : Nat) (v : sV) (lo : sL) : sL := (i, v) :: lo.filter (fun q => !(q.1 == i) && !(q.1 + 1 == i && ct2 q.2))
def ls2 (i : Nat) (v : sV) (lo : sL) : sL := (i, v) :: lo.filter (fun q => !(q.1 == i) && (!(q.1 == i + 1) && !(q.1 + 1 == i && ct2 q.2)))
theorem ls1_gm (E : sE) (i : Nat) (v : sV) (lo : sL) : (i, gm E v) :: (lo.map (gl E)).filter (fun q => !(q.1 == i) && !(q.1 + 1 == i && q.2.category == 2)) = (ls1 i v lo).map (gl E) := by
  unfold ls1
  rw [List.map_cons, List.filter_map]
  congr 2
  apply List.filter_congr
  intro q _
  simp only [Function.comp, gl, ct2_gm]
theorem ls2_gm (E : sE) (i : Nat) (v : sV) (lo : sL) : (i, gm E v) :: (lo.map (gl E)).filter (fun q => !(q.1 == i) && (!(q.1 == i + 1) && !(q.1 + 1 == i && q.2.category == 2))) = (ls2 i v lo).map (gl E) := by
  unfold ls2
  rw [List.map_cons, List.filter_map]
  congr 2
  apply List.filter_congr
  intro q _
  simp only [Function.comp, gl, ct2_gm]
def e_il (i : Nat) (lo : sL) (st : List sV) (μ : sM) : Option sS := match lk i lo with
  | some (.inl x) => some (lo, .inl x :: st, μ)
  | _ => none
def e_ll (i : Nat) (lo : sL) (st : List sV) (μ : sM) : Option sS := match lk i lo with
  | some (.inr (.inl x)) => some (lo, .inr (.inl x) :: st, μ)
  | _ => none
def e_al (i : Nat) (lo : sL) (st : List sV) (μ : sM) : Option sS := match lk i lo with
  | some (.inr (.inr q)) => some (lo, .inr (.inr q) :: st, μ)
  | _ => none
def e_is (nL i : Nat) (lo : sL) (st : List sV) (μ : sM) : Option sS := match st with
  | .inl x :: t => if i < nL then some (ls1 i (.inl x) lo, t, μ) else none
  | _ => none
def e_ls (nL i : Nat) (lo : sL) (st : List sV) (μ : sM) : Option sS := match st with
  | .inr (.inl x) :: t => if i + 1 < nL then some (ls2 i (.inr (.inl x)) lo, t, μ) else none
  | _ => none
def e_as (nL i : Nat) (lo : sL) (st : List sV) (μ : sM) : Option sS := match st with
  | .inr (.inr x) :: t => if i < nL then some (ls1 i (.inr (.inr x)) lo, t, μ) else none
  | _ => none
def e_inc (nL i : Nat) (c : Int32) (lo : sL) (st : List sV) (μ : sM) : Option sS := match lk i lo with
  | some (.inl x) => if i < nL then some (ls1 i (.inl (x + c)) lo, st, μ) else none
  | _ => none
def e_ii (f : Int32 → Int32 → Int32) (lo : sL) (st : List sV) (μ : sM) : Option sS := match st with
  | .inl y :: .inl x :: t => some (lo, .inl (f x y) :: t, μ)
  | _ => none
def e_id (f : Int32 → Int32 → Int32) (lo : sL) (st : List sV) (μ : sM) : Option sS := match st with
  | .inl y :: .inl x :: t => if y = 0 then none else some (lo, .inl (f x y) :: t, μ)
  | _ => none
def e_lL (f : Int64 → Int64 → Int64) (lo : sL) (st : List sV) (μ : sM) : Option sS := match st with
  | .inr (.inl y) :: .inr (.inl x) :: t => some (lo, .inr (.inl (f x y)) :: t, μ)
  | _ => none
def e_lD (f : Int64 → Int64 → Int64) (lo : sL) (st : List sV) (μ : sM) : Option sS := match st with
  | .inr (.inl y) :: .inr (.inl x) :: t => if y = 0 then none else some (lo, .inr (.inl (f x y)) :: t, μ)
  | _ => none
def e_u (f : Int32 → sV) (lo : sL) (st : List sV) (μ : sM) : Option sS := match st with
  | .inl x :: t => some (lo, f x :: t, μ)
  | _ => none
def e_U (f : Int64 → sV) (lo : sL) (st : List sV) (μ : sM) : Option sS := match st with
  | .inr (.inl x) :: t => some (lo, f x :: t, μ)
  | _ => none
def e_lcmp (lo : sL) (st : List sV) (μ : sM) : Option sS := match st with
  | .inr (.inl y) :: .inr (.inl x) :: t => some (lo, .inl (lg_cmp x y) :: t, μ)
  | _ => none
def e_lshl (lo : sL) (st : List sV) (μ : sM) : Option sS := match st with
  | .inl y :: .inr (.inl x) :: t => some (lo, .inr (.inl (x <<< (y.toInt64 &&& 63))) :: t, μ)
  | _ => none
def e_dup (lo : sL) (st : List sV) (μ : sM) : Option sS := match st with
  | v :: t => if ct2 v = false then some (lo, v :: v :: t, μ) else none
  | _ => none
def e_pop (lo : sL) (st : List sV) (μ : sM) : Option sS := match st with
  | v :: t => if ct2 v = false then some (lo, t, μ) else none
  | _ => none
def e_dup2 (lo : sL) (st : List sV) (μ : sM) : Option sS := match st with
  | v :: w :: t => if ct2 v = false ∧ ct2 w = false then some (lo, v :: w :: v :: w :: t, μ) else none
  | _ => none
def e_get (ci sl : Nat) (lo : sL) (st : List sV) (μ : sM) : Option sS := match st with
  | .inr (.inr q) :: t => if q.1 = ci + 1 then (match kft q.1 sl with
    | 0 => some (lo, .inl (rI μ q.1 q.2 sl) :: t, μ)
    | 4 => some (lo, .inl (rI μ q.1 q.2 sl) :: t, μ)
    | 1 => some (lo, .inr (.inl (rL μ q.1 q.2 sl)) :: t, μ)
    | 2 => some (lo, .inr (.inr (kfd q.1 sl q.2)) :: t, μ)
    | _ => none) else none
  | _ => none
def e_put (ci sl : Nat) (lo : sL) (st : List sV) (μ : sM) : Option sS := match st with
  | .inl x :: .inr (.inr q) :: t => if q.1 = ci + 1 then (match kft q.1 sl with
    | 0 => some (lo, t, wI μ q.1 q.2 sl x)
    | 4 => if x = 0 ∨ x = 1 then some (lo, t, wI μ q.1 q.2 sl x) else none
    | _ => none) else none
  | .inr (.inl x) :: .inr (.inr q) :: t => if q.1 = ci + 1 then (match kft q.1 sl with
    | 1 => some (lo, t, wL μ q.1 q.2 sl x)
    | _ => none) else none
  | .inr (.inr x) :: .inr (.inr q) :: t => if q.1 = ci + 1 then (match kft q.1 sl with
    | 3 => if x.1 = (kfr q.1 sl).1 ∧ x.1 ≠ 0 then some (lo, t, wR μ q.1 q.2 sl (x.2 + 1)) else none
    | _ => none) else none
  | _ => none
def e_iald (b : Nat) (lo : sL) (st : List sV) (μ : sM) : Option sS := match st with
  | .inl i :: .inr (.inr q) :: t => if kar q.1 = b then (if inb i (kln q.1) = true then some (lo, .inl (rI μ q.1 q.2 (ix i)) :: t, μ) else none) else none
  | _ => none
def e_lald (lo : sL) (st : List sV) (μ : sM) : Option sS := match st with
  | .inl i :: .inr (.inr q) :: t => if kar q.1 = 2 then (if inb i (kln q.1) = true then some (lo, .inr (.inl (rL μ q.1 q.2 (ix i))) :: t, μ) else none) else none
  | _ => none
def e_aald (lo : sL) (st : List sV) (μ : sM) : Option sS := match st with
  | .inl i :: .inr (.inr q) :: t => if kar q.1 = 4 then (if inb i (kln q.1) = true then some (lo, .inr (.inr ((kae q.1).1, (kae q.1).2 + ix i)) :: t, μ) else none) else none
  | _ => none
def e_iast (b : Nat) (f : Int32 → Int32) (lo : sL) (st : List sV) (μ : sM) : Option sS := match st with
  | .inl x :: .inl i :: .inr (.inr q) :: t => if kar q.1 = b then (if inb i (kln q.1) = true then some (lo, t, wI μ q.1 q.2 (ix i) (f x)) else none) else none
  | _ => none
def e_last (lo : sL) (st : List sV) (μ : sM) : Option sS := match st with
  | .inr (.inl x) :: .inl i :: .inr (.inr q) :: t => if kar q.1 = 2 then (if inb i (kln q.1) = true then some (lo, t, wL μ q.1 q.2 (ix i) x) else none) else none
  | _ => none
/-- one straight step: the operation, its class and slot, its constants -/
def ev1 (nL : Nat) (q : sO) (lo : sL) (st : List sV) (μ : sM) : Option sS := match q.1 with
  | .iload_n n => e_il n.val lo st μ
  | .iload n => e_il n lo st μ
  | .lload_n n => e_ll n.val lo st μ
  | .lload n => e_ll n lo st μ
  | .aload_n n => e_al n.val lo st μ
  | .aload n => e_al n lo st μ
  | .istore_n n => e_is nL n.val lo st μ
  | .istore n => e_is nL n lo st μ
  | .lstore_n n => e_ls nL n.val lo st μ
  | .lstore n => e_ls nL n lo st μ
  | .astore_n n => e_as nL n.val lo st μ
  | .astore n => e_as nL n lo st μ
  | .iinc i _ => e_inc nL i q.2.2.2.1 lo st μ
  | .iconst _ => some (lo, .inl q.2.2.2.1 :: st, μ)
  | .bipush _ => some (lo, .inl q.2.2.2.1 :: st, μ)
  | .sipush _ => some (lo, .inl q.2.2.2.1 :: st, μ)
  | .ldc _ => some (lo, .inl q.2.2.2.1 :: st, μ)
  | .ldc_w _ => some (lo, .inl q.2.2.2.1 :: st, μ)
  | .lconst _ => some (lo, .inr (.inl q.2.2.2.2) :: st, μ)
  | .ldc2_w _ => some (lo, .inr (.inl q.2.2.2.2) :: st, μ)
  | .iadd => e_ii (fun x y => x + y) lo st μ
  | .isub => e_ii (fun x y => x - y) lo st μ
  | .imul => e_ii (fun x y => x * y) lo st μ
  | .iand => e_ii (fun x y => x &&& y) lo st μ
  | .ior => e_ii (fun x y => x ||| y) lo st μ
  | .ishl => e_ii (fun x y => x <<< (y &&& 31)) lo st μ
  | .ishr => e_ii (fun x y => x >>> (y &&& 31)) lo st μ
  | .idiv => e_id (fun x y => x / y) lo st μ
  | .irem => e_id (fun x y => x - x / y * y) lo st μ
  | .ladd => e_lL (fun x y => x + y) lo st μ
  | .lsub => e_lL (fun x y => x - y) lo st μ
  | .lmul => e_lL (fun x y => x * y) lo st μ
  | .land => e_lL (fun x y => x &&& y) lo st μ
  | .lor => e_lL (fun x y => x ||| y) lo st μ
  | .ldiv => e_lD (fun x y => x / y) lo st μ
  | .lrem => e_lD (fun x y => x - x / y * y) lo st μ
  | .ineg => e_u (fun x => .inl (-x)) lo st μ
  | .i2l => e_u (fun x => .inr (.inl x.toInt64)) lo st μ
  | .i2b => e_u (fun x => .inl x.toInt8.toInt32) lo st μ
  | .i2s => e_u (fun x => .inl x.toInt16.toInt32) lo st μ
  | .l2i => e_U (fun x => .inl x.toInt32) lo st μ
  | .lneg => e_U (fun x => .inr (.inl (-x))) lo st μ
  | .lcmp => e_lcmp lo st μ
  | .lshl => e_lshl lo st μ
  | .dup => e_dup lo st μ
  | .pop => e_pop lo st μ
  | .dup2 => e_dup2 lo st μ
  | .getfield _ => e_get q.2.1 q.2.2.1 lo st μ
  | .putfield _ => e_put q.2.1 q.2.2.1 lo st μ
  | .iaload => e_iald 1 lo st μ
  | .baload => e_iald 3 lo st μ
  | .laload => e_lald lo st μ
  | .aaload => e_aald lo st μ
  | .iastore => e_iast 1 (fun x => x) lo st μ
  | .bastore => e_iast 3 (fun x => x.toInt8.toInt32) lo st μ
  | .lastore => e_last lo st μ
  | _ => none
def iln (i : Instr) : Nat := match i with
  | .iload _ => 2
  | .lload _ => 2
  | .aload _ => 2
  | .istore _ => 2
  | .lstore _ => 2
  | .astore _ => 2
  | .bipush _ => 2
  | .ldc _ => 2
  | .sipush _ => 3
  | .ldc2_w _ => 3
  | .ldc_w _ => 3
  | .iinc _ _ => 3
  | .getfield _ => 3
  | .putfield _ => 3
  | _ => 1
/-- what else an operation's row rests on -/
def aux (own : Nat) (q : sO) : Bool := match q.1 with
  | .iconst n => decide (Int32.ofInt n = q.2.2.2.1)
  | .bipush n => decide ((Int8.ofInt n).toInt32 = q.2.2.2.1)
  | .sipush n => decide ((Int16.ofInt n).toInt32 = q.2.2.2.1)
  | .iinc _ n => decide (Int32.ofInt n = q.2.2.2.1)
  | .lconst n => decide (Int64.ofNat (n : Nat) = q.2.2.2.2)
  | .ldc k => kCI.any (fun r => r.2.1 == own && (r.2.2.1 == k && decide (r.2.2.2 = q.2.2.2.1)))
  | .ldc_w k => kCI.any (fun r => r.2.1 == own && (r.2.2.1 == k && decide (r.2.2.2 = q.2.2.2.1)))
  | .ldc2_w k => kCL.any (fun r => r.2.1 == own && (r.2.2.1 == k && decide (r.2.2.2 = q.2.2.2.2)))
  | .getfield k => kFL.any (fun r => r.2.1 == own && (r.2.2.1 == k && (r.2.2.2.1 == q.2.1 && r.2.2.2.2 == q.2.2.1)))
  | .putfield k => kFL.any (fun r => r.2.1 == own && (r.2.2.1 == k && (r.2.2.2.1 == q.2.1 && r.2.2.2.2 == q.2.2.1)))
  | _ => true
def bk1 (cc : ByteArray) (own pc : Nat) (q : sO) : Bool := decide (decode cc pc = .ok (q.1, iln q.1)) && aux own q
def ev (nL : Nat) : List sO → sL → List sV → sM → Option sS
  | [], lo, st, μ => some (lo, st, μ)
  | q :: t, lo, st, μ => match ev1 nL q lo st μ with
    | some (lo1, st1, μ1) => ev nL t lo1 st1 μ1
    | none => none
def bk (cc : ByteArray) (own : Nat) : Nat → List sO → Bool
  | _, [] => true
  | pc, q :: t => bk1 cc own pc q && bk cc own (pc + iln q.1) t
def evp : Nat → List sO → Nat
  | pc, [] => pc
  | pc, q :: t => evp (pc + iln q.1) t
/-! the judgement -/
def sCx (E : sE) (p : Program) (s : State) (m : MethodId) (args : Array Value) (c : Code) (own : Nat) (cc : ByteArray) (nL : Nat) : Prop :=
  p.tables.exec = Jvm.exec ∧ c.code = cc ∧ c.maxLocals = nL ∧ s.vm.findClass (kRn own) = some m.cls ∧ (∀ w ∈ sT, w.before args s = true) ∧ (eS E).WarmedH s.vm ∧ (∀ q : Nat, q < (eS E).heap.size → s.heap[q]? = (eS E).heap[q]?) ∧ (eS E).heap.size ≤ s.heap.size
def kWt : String := "turns slack rain odds reach bank gate holds mill at needs winder strength wage hour wind back oil dry any when stored ground raining loop end stop "
def kWb : List Int32 := [116, 117, 114, 110, 115, 32, 115, 108, 97, 99, 107, 32, 114, 97, 105, 110, 32, 111, 100, 100, 115, 32, 114, 101, 97, 99, 104, 32, 98, 97, 110, 107, 32, 103, 97, 116, 101, 32, 104, 111, 108, 100, 115, 32, 109, 105, 108, 108, 32, 97, 116, 32, 110, 101, 101, 100, 115, 32, 119, 105, 110, 100, 101, 114, 32, 115, 116, 114, 101, 110, 103, 116, 104, 32, 119, 97, 103, 101, 32, 104, 111, 117, 114, 32, 119, 105, 110, 100, 32, 98, 97, 99, 107, 32, 111, 105, 108, 32, 100, 114, 121, 32, 97, 110, 121, 32, 119, 104, 101, 110, 32, 115, 116, 111, 114, 101, 100, 32, 103, 114, 111, 117, 110, 100, 32, 114, 97, 105, 110, 105, 110, 103, 32, 108, 111, 111, 112, 32, 101, 110, 100, 32, 115, 116, 111, 112, 32]
/-- the words' String, as the start has it -/
def sSt (E : sE) : Prop := vk_R RX6 97 kWt (eW E) (eS E) ∧ vk_S 1 [147] [kWb] (fun _ => eW E) (fun _ => eV E) (sA E) (eS E) (eS E).heap ∧ va_Z "java/lang/String" "COMPACT_STRINGS" "Z" (.int 1) (sA E) (eS E) (eS E).heap ∧ ∃ v : Value, va_Z "jdk/internal/util/Preconditions" "SIOOBE_FORMATTER" "Ljava/util/function/BiFunction;" v (sA E) (eS E) (eS E).heap ∧ v.category = 1
def sEn (E : sE) : Prop := va_K (eD E) vwCl (tys E) (eS E) ∧ eB E < (eS E).heap.size ∧ eL E ≤ 3072 ∧ sSt E
def sRet (cc : ByteArray) (bl : Bool) (pc : Nat) (r : Option sV) : Prop := match r with
  | none => decode cc pc = .ok (.return_, 1)
  | some (.inl x) => decode cc pc = .ok (.ireturn, 1) ∧ (bl = true → x = 0 ∨ x = 1)
  | some (.inr (.inl _)) => decode cc pc = .ok (.lreturn, 1)
  | some (.inr (.inr _)) => decode cc pc = .ok (.areturn, 1)
/-- the fixed part of a walk: where it runs, and what its end is good for -/
def sGo (own : Nat) (cc : ByteArray) (nL d : Nat) (bl : Bool) (r : Option sV) (ρ : sM) (E : sE) (p : Program) (l : Launch) (e : Env) (R : Room) (s : State) (m : MethodId) (args : Array Value) (below : List Frame) (meth : Method) (c : Code) (cells slots : Nat) (Q : State → Prop) : Prop :=
  sEn E ∧ sCx E p s m args c own cc nL ∧ (d ≤ R.frames ∧ 64 * d ≤ R.locals ∧ cells ≤ R.cells ∧ slots ≤ R.slots) ∧
  ∀ (H : Heap) (locs : List Loc) (pc : Nat) (ls : Array Slot), sW E ρ H → va_S (sA E) s.heap H locs → sRet cc bl pc r → (∀ v, r = some v → slv v) → W p l e R s m args below meth c H locs cells slots Q (F0 m pc ls ((r.map (gm E)).toList))
def sAt (E : sE) (nL : Nat) (s : State) (lo : sL) (st : List sV) (μ : sM) (H : Heap) (locs : List Loc) (ls : Array Slot) : Prop :=
  sW E μ H ∧ va_S (sA E) s.heap H locs ∧ (∀ v ∈ st, slv v) ∧ (∀ q ∈ lo, slv q.2) ∧ lv_has ls nL (lo.map (gl E))
def sOk (own : Nat) (cc : ByteArray) (nL d : Nat) (bl : Bool) (pc : Nat) (lo : sL) (st : List sV) (μ : sM) (o : Option (Option sV × sM)) : Prop :=
  ∀ (r : Option sV) (ρ : sM), o = some (r, ρ) → ∀ (E : sE) (p : Program) (l : Launch) (e : Env) (R : Room) (s : State) (m : MethodId) (args : Array Value) (below : List Frame) (meth : Method) (c : Code) (cells slots : Nat) (Q : State → Prop),
    sGo own cc nL d bl r ρ E p l e R s m args below meth c cells slots Q → ∀ (H : Heap) (locs : List Loc) (ls : Array Slot), sAt E nL s lo st μ H locs ls →
    W p l e R s m args below meth c H locs cells slots Q (F0 m pc ls (st.map (gm E)))
