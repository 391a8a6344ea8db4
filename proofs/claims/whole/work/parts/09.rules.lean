/-! 09: branches, returns, calls -/
section R9
variable {own : Nat} {cc : ByteArray} {nL d : Nat} {bl : Bool} {pc : Nat} {lo lo' : sL} {st st' : List sV} {μ μ' : sM} {o : Option (Option sV × sM)}
theorem sNo : sOk own cc nL d bl pc lo st μ none := fun _ _ h => by cases h
theorem sIte {c : Prop} [h : Decidable c] {β : Type} (g : β → Option (Option sV × sM)) {a b : β} (ka : c → sOk own cc nL d bl pc lo st μ (g a)) (kb : ¬ c → sOk own cc nL d bl pc lo st μ (g b)) : sOk own cc nL d bl pc lo st μ (g (if c then a else b)) := by
  by_cases hc : c
  · rw [if_pos hc]
    exact ka hc
  · rw [if_neg hc]
    exact kb hc
/-- a test without which nothing is said -/
theorem sCk {c : Prop} [h : Decidable c] {β : Type} (g : Option β → Option (Option sV × sM)) (hg : g none = none) {a : Option β} (ka : c → sOk own cc nL d bl pc lo st μ (g a)) : sOk own cc nL d bl pc lo st μ (g (if c then a else none)) :=
  sIte g ka (fun _ => by rw [hg]; exact sNo)
/-- the same, the other way round -/
theorem sCn {c : Prop} [h : Decidable c] {β : Type} (g : Option β → Option (Option sV × sM)) (hg : g none = none) {a : Option β} (ka : ¬ c → sOk own cc nL d bl pc lo st μ (g a)) : sOk own cc nL d bl pc lo st μ (g (if c then none else a)) :=
  sIte g (fun _ => by rw [hg]; exact sNo) ka
theorem sWk (ks : List Nat) (hk : ks.filterMap (fun k => lo[k]?) = lo') (k : sOk own cc nL d bl pc lo' st μ o) : sOk own cc nL d bl pc lo st μ o := by
  intro r ρ ho E p l e R s m args below meth c cells slots Q G H locs ls A
  obtain ⟨hW, hS, hst, hlo, hls⟩ := A
  have key : ∀ q ∈ lo', q ∈ lo := by
    intro q hq
    rw [← hk] at hq
    obtain ⟨n, -, hn⟩ := List.mem_filterMap.mp hq
    exact List.mem_of_getElem? hn
  refine k r ρ ho E p l e R s m args below meth c cells slots Q G H locs ls ⟨hW, hS, hst, fun q hq => hlo q (key q hq), hls.1, hls.2.1, fun q hq => ?_⟩
  obtain ⟨z, hz, rfl⟩ := List.mem_map.mp hq
  exact hls.2.2 _ (List.mem_map.mpr ⟨z, key z hz, rfl⟩)
theorem sGt {off : Int} {tgt : Nat} (hd : decode cc pc = .ok (.goto off, 3)) (ht : (pc : Int) + off = (tgt : Int)) (k : sOk own cc nL d bl tgt lo st μ o) : sOk own cc nL d bl pc lo st μ o := by
  intro r ρ ho E p l e R s m args below meth c cells slots Q G H locs ls A
  exact lv_goto G.2.1.1 G.2.1.2.1 hd ht (k r ρ ho E p l e R s m args below meth c cells slots Q G H locs ls A)
theorem at_1 {E : sE} {s : State} {H : Heap} {locs : List Loc} {ls : Array Slot} {v : sV} (A : sAt E nL s lo (v :: st) μ H locs ls) : sAt E nL s lo st μ H locs ls := ⟨A.1, A.2.1, sl_tail A.2.2.1, A.2.2.2⟩
theorem at_2 {E : sE} {s : State} {H : Heap} {locs : List Loc} {ls : Array Slot} {v w : sV} (A : sAt E nL s lo (v :: w :: st) μ H locs ls) : sAt E nL s lo st μ H locs ls := at_1 (at_1 A)
theorem sIf_eq {off : Int} {tgt : Nat} {x : Int32} {β : Type} (g : β → Option (Option sV × sM)) {a b : β} (hd : decode cc pc = .ok (.ifCond .eq off, 3)) (ht : (pc : Int) + off = (tgt : Int)) (kt : x = 0 → sOk own cc nL d bl tgt lo st μ (g a)) (kf : ¬ x = 0 → sOk own cc nL d bl (pc + 3) lo st μ (g b)) : sOk own cc nL d bl pc lo (.inl x :: st) μ (g (if x = 0 then a else b)) :=
  sIte g (fun h r ρ ho E p l e R s m args below meth c cells slots Q G H locs ls A => lv_if_eq G.2.1.1 G.2.1.2.1 hd ht (fun _ => kt h r ρ ho E p l e R s m args below meth c cells slots Q G H locs ls (at_1 A)) (fun h' => absurd h h'))
    (fun h r ρ ho E p l e R s m args below meth c cells slots Q G H locs ls A => lv_if_eq G.2.1.1 G.2.1.2.1 hd ht (fun h' => absurd h' h) (fun _ => kf h r ρ ho E p l e R s m args below meth c cells slots Q G H locs ls (at_1 A)))
theorem sIf_ne {off : Int} {tgt : Nat} {x : Int32} {β : Type} (g : β → Option (Option sV × sM)) {a b : β} (hd : decode cc pc = .ok (.ifCond .ne off, 3)) (ht : (pc : Int) + off = (tgt : Int)) (kt : ¬ x = 0 → sOk own cc nL d bl tgt lo st μ (g a)) (kf : x = 0 → sOk own cc nL d bl (pc + 3) lo st μ (g b)) : sOk own cc nL d bl pc lo (.inl x :: st) μ (g (if x = 0 then b else a)) :=
  sIte g (fun h r ρ ho E p l e R s m args below meth c cells slots Q G H locs ls A => lv_if_ne G.2.1.1 G.2.1.2.1 hd ht (fun h' => absurd h h') (fun _ => kf h r ρ ho E p l e R s m args below meth c cells slots Q G H locs ls (at_1 A)))
    (fun h r ρ ho E p l e R s m args below meth c cells slots Q G H locs ls A => lv_if_ne G.2.1.1 G.2.1.2.1 hd ht (fun _ => kt h r ρ ho E p l e R s m args below meth c cells slots Q G H locs ls (at_1 A)) (fun h' => absurd h' h))
theorem sIf_lt {off : Int} {tgt : Nat} {x : Int32} {β : Type} (g : β → Option (Option sV × sM)) {a b : β} (hd : decode cc pc = .ok (.ifCond .lt off, 3)) (ht : (pc : Int) + off = (tgt : Int)) (kt : x < 0 → sOk own cc nL d bl tgt lo st μ (g a)) (kf : ¬ x < 0 → sOk own cc nL d bl (pc + 3) lo st μ (g b)) : sOk own cc nL d bl pc lo (.inl x :: st) μ (g (if x < 0 then a else b)) :=
  sIte g (fun h r ρ ho E p l e R s m args below meth c cells slots Q G H locs ls A => lv_if_lt G.2.1.1 G.2.1.2.1 hd ht (fun _ => kt h r ρ ho E p l e R s m args below meth c cells slots Q G H locs ls (at_1 A)) (fun h' => absurd h h'))
    (fun h r ρ ho E p l e R s m args below meth c cells slots Q G H locs ls A => lv_if_lt G.2.1.1 G.2.1.2.1 hd ht (fun h' => absurd h' h) (fun _ => kf h r ρ ho E p l e R s m args below meth c cells slots Q G H locs ls (at_1 A)))
theorem sIf_ge {off : Int} {tgt : Nat} {x : Int32} {β : Type} (g : β → Option (Option sV × sM)) {a b : β} (hd : decode cc pc = .ok (.ifCond .ge off, 3)) (ht : (pc : Int) + off = (tgt : Int)) (kt : 0 ≤ x → sOk own cc nL d bl tgt lo st μ (g a)) (kf : ¬ 0 ≤ x → sOk own cc nL d bl (pc + 3) lo st μ (g b)) : sOk own cc nL d bl pc lo (.inl x :: st) μ (g (if 0 ≤ x then a else b)) :=
  sIte g (fun h r ρ ho E p l e R s m args below meth c cells slots Q G H locs ls A => lv_if_ge G.2.1.1 G.2.1.2.1 hd ht (fun _ => kt h r ρ ho E p l e R s m args below meth c cells slots Q G H locs ls (at_1 A)) (fun h' => absurd h h'))
    (fun h r ρ ho E p l e R s m args below meth c cells slots Q G H locs ls A => lv_if_ge G.2.1.1 G.2.1.2.1 hd ht (fun h' => absurd h' h) (fun _ => kf h r ρ ho E p l e R s m args below meth c cells slots Q G H locs ls (at_1 A)))
theorem sIf_gt {off : Int} {tgt : Nat} {x : Int32} {β : Type} (g : β → Option (Option sV × sM)) {a b : β} (hd : decode cc pc = .ok (.ifCond .gt off, 3)) (ht : (pc : Int) + off = (tgt : Int)) (kt : 0 < x → sOk own cc nL d bl tgt lo st μ (g a)) (kf : ¬ 0 < x → sOk own cc nL d bl (pc + 3) lo st μ (g b)) : sOk own cc nL d bl pc lo (.inl x :: st) μ (g (if 0 < x then a else b)) :=
  sIte g (fun h r ρ ho E p l e R s m args below meth c cells slots Q G H locs ls A => lv_if_gt G.2.1.1 G.2.1.2.1 hd ht (fun _ => kt h r ρ ho E p l e R s m args below meth c cells slots Q G H locs ls (at_1 A)) (fun h' => absurd h h'))
    (fun h r ρ ho E p l e R s m args below meth c cells slots Q G H locs ls A => lv_if_gt G.2.1.1 G.2.1.2.1 hd ht (fun h' => absurd h' h) (fun _ => kf h r ρ ho E p l e R s m args below meth c cells slots Q G H locs ls (at_1 A)))
theorem sIf_le {off : Int} {tgt : Nat} {x : Int32} {β : Type} (g : β → Option (Option sV × sM)) {a b : β} (hd : decode cc pc = .ok (.ifCond .le off, 3)) (ht : (pc : Int) + off = (tgt : Int)) (kt : x ≤ 0 → sOk own cc nL d bl tgt lo st μ (g a)) (kf : ¬ x ≤ 0 → sOk own cc nL d bl (pc + 3) lo st μ (g b)) : sOk own cc nL d bl pc lo (.inl x :: st) μ (g (if x ≤ 0 then a else b)) :=
  sIte g (fun h r ρ ho E p l e R s m args below meth c cells slots Q G H locs ls A => lv_if_le G.2.1.1 G.2.1.2.1 hd ht (fun _ => kt h r ρ ho E p l e R s m args below meth c cells slots Q G H locs ls (at_1 A)) (fun h' => absurd h h'))
    (fun h r ρ ho E p l e R s m args below meth c cells slots Q G H locs ls A => lv_if_le G.2.1.1 G.2.1.2.1 hd ht (fun h' => absurd h' h) (fun _ => kf h r ρ ho E p l e R s m args below meth c cells slots Q G H locs ls (at_1 A)))
theorem sIc_eq {off : Int} {tgt : Nat} {x y : Int32} {β : Type} (g : β → Option (Option sV × sM)) {a b : β} (hd : decode cc pc = .ok (.if_icmp .eq off, 3)) (ht : (pc : Int) + off = (tgt : Int)) (kt : x = y → sOk own cc nL d bl tgt lo st μ (g a)) (kf : ¬ x = y → sOk own cc nL d bl (pc + 3) lo st μ (g b)) : sOk own cc nL d bl pc lo (.inl y :: .inl x :: st) μ (g (if x = y then a else b)) :=
  sIte g (fun h r ρ ho E p l e R s m args below meth c cells slots Q G H locs ls A => lv_icmp_eq G.2.1.1 G.2.1.2.1 hd ht (fun _ => kt h r ρ ho E p l e R s m args below meth c cells slots Q G H locs ls (at_2 A)) (fun h' => absurd h h'))
    (fun h r ρ ho E p l e R s m args below meth c cells slots Q G H locs ls A => lv_icmp_eq G.2.1.1 G.2.1.2.1 hd ht (fun h' => absurd h' h) (fun _ => kf h r ρ ho E p l e R s m args below meth c cells slots Q G H locs ls (at_2 A)))
theorem sIc_ne {off : Int} {tgt : Nat} {x y : Int32} {β : Type} (g : β → Option (Option sV × sM)) {a b : β} (hd : decode cc pc = .ok (.if_icmp .ne off, 3)) (ht : (pc : Int) + off = (tgt : Int)) (kt : ¬ x = y → sOk own cc nL d bl tgt lo st μ (g a)) (kf : x = y → sOk own cc nL d bl (pc + 3) lo st μ (g b)) : sOk own cc nL d bl pc lo (.inl y :: .inl x :: st) μ (g (if x = y then b else a)) :=
  sIte g (fun h r ρ ho E p l e R s m args below meth c cells slots Q G H locs ls A => lv_icmp_ne G.2.1.1 G.2.1.2.1 hd ht (fun h' => absurd h h') (fun _ => kf h r ρ ho E p l e R s m args below meth c cells slots Q G H locs ls (at_2 A)))
    (fun h r ρ ho E p l e R s m args below meth c cells slots Q G H locs ls A => lv_icmp_ne G.2.1.1 G.2.1.2.1 hd ht (fun _ => kt h r ρ ho E p l e R s m args below meth c cells slots Q G H locs ls (at_2 A)) (fun h' => absurd h' h))
theorem sIc_lt {off : Int} {tgt : Nat} {x y : Int32} {β : Type} (g : β → Option (Option sV × sM)) {a b : β} (hd : decode cc pc = .ok (.if_icmp .lt off, 3)) (ht : (pc : Int) + off = (tgt : Int)) (kt : x < y → sOk own cc nL d bl tgt lo st μ (g a)) (kf : ¬ x < y → sOk own cc nL d bl (pc + 3) lo st μ (g b)) : sOk own cc nL d bl pc lo (.inl y :: .inl x :: st) μ (g (if x < y then a else b)) :=
  sIte g (fun h r ρ ho E p l e R s m args below meth c cells slots Q G H locs ls A => lv_icmp_lt G.2.1.1 G.2.1.2.1 hd ht (fun _ => kt h r ρ ho E p l e R s m args below meth c cells slots Q G H locs ls (at_2 A)) (fun h' => absurd h h'))
    (fun h r ρ ho E p l e R s m args below meth c cells slots Q G H locs ls A => lv_icmp_lt G.2.1.1 G.2.1.2.1 hd ht (fun h' => absurd h' h) (fun _ => kf h r ρ ho E p l e R s m args below meth c cells slots Q G H locs ls (at_2 A)))
theorem sIc_ge {off : Int} {tgt : Nat} {x y : Int32} {β : Type} (g : β → Option (Option sV × sM)) {a b : β} (hd : decode cc pc = .ok (.if_icmp .ge off, 3)) (ht : (pc : Int) + off = (tgt : Int)) (kt : y ≤ x → sOk own cc nL d bl tgt lo st μ (g a)) (kf : ¬ y ≤ x → sOk own cc nL d bl (pc + 3) lo st μ (g b)) : sOk own cc nL d bl pc lo (.inl y :: .inl x :: st) μ (g (if y ≤ x then a else b)) :=
  sIte g (fun h r ρ ho E p l e R s m args below meth c cells slots Q G H locs ls A => lv_icmp_ge G.2.1.1 G.2.1.2.1 hd ht (fun _ => kt h r ρ ho E p l e R s m args below meth c cells slots Q G H locs ls (at_2 A)) (fun h' => absurd h h'))
    (fun h r ρ ho E p l e R s m args below meth c cells slots Q G H locs ls A => lv_icmp_ge G.2.1.1 G.2.1.2.1 hd ht (fun h' => absurd h' h) (fun _ => kf h r ρ ho E p l e R s m args below meth c cells slots Q G H locs ls (at_2 A)))
theorem sIc_gt {off : Int} {tgt : Nat} {x y : Int32} {β : Type} (g : β → Option (Option sV × sM)) {a b : β} (hd : decode cc pc = .ok (.if_icmp .gt off, 3)) (ht : (pc : Int) + off = (tgt : Int)) (kt : y < x → sOk own cc nL d bl tgt lo st μ (g a)) (kf : ¬ y < x → sOk own cc nL d bl (pc + 3) lo st μ (g b)) : sOk own cc nL d bl pc lo (.inl y :: .inl x :: st) μ (g (if y < x then a else b)) :=
  sIte g (fun h r ρ ho E p l e R s m args below meth c cells slots Q G H locs ls A => lv_icmp_gt G.2.1.1 G.2.1.2.1 hd ht (fun _ => kt h r ρ ho E p l e R s m args below meth c cells slots Q G H locs ls (at_2 A)) (fun h' => absurd h h'))
    (fun h r ρ ho E p l e R s m args below meth c cells slots Q G H locs ls A => lv_icmp_gt G.2.1.1 G.2.1.2.1 hd ht (fun h' => absurd h' h) (fun _ => kf h r ρ ho E p l e R s m args below meth c cells slots Q G H locs ls (at_2 A)))
theorem sIc_le {off : Int} {tgt : Nat} {x y : Int32} {β : Type} (g : β → Option (Option sV × sM)) {a b : β} (hd : decode cc pc = .ok (.if_icmp .le off, 3)) (ht : (pc : Int) + off = (tgt : Int)) (kt : x ≤ y → sOk own cc nL d bl tgt lo st μ (g a)) (kf : ¬ x ≤ y → sOk own cc nL d bl (pc + 3) lo st μ (g b)) : sOk own cc nL d bl pc lo (.inl y :: .inl x :: st) μ (g (if x ≤ y then a else b)) :=
  sIte g (fun h r ρ ho E p l e R s m args below meth c cells slots Q G H locs ls A => lv_icmp_le G.2.1.1 G.2.1.2.1 hd ht (fun _ => kt h r ρ ho E p l e R s m args below meth c cells slots Q G H locs ls (at_2 A)) (fun h' => absurd h h'))
    (fun h r ρ ho E p l e R s m args below meth c cells slots Q G H locs ls A => lv_icmp_le G.2.1.1 G.2.1.2.1 hd ht (fun h' => absurd h' h) (fun _ => kf h r ρ ho E p l e R s m args below meth c cells slots Q G H locs ls (at_2 A)))
end R9
