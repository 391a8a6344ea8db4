/-! 98zu2: an array of arrays -/
section C98zu2
variable {E : sE} {own : Nat} {cc : ByteArray} {nL d : Nat} {p : Program} {l : Launch} {e : Env} {R : Room} {s : State} {m : MethodId} {args : Array Value} {below : List Frame} {meth : Method} {c : Code} {H : Heap} {locs : List Loc} {cells slots : Nat} {Q : State → Prop} {pc : Nat} {ls : Array Slot} {rest : List Value}
variable {ws0 t : List va_E} {n : Nat}
theorem cMul (hX : cX E) (C : cCx E own cc nL d p R s m args meth c) (hn : ws0.length = n) (A : cAt E s (ws0 ++ t) H locs) {k idx : Nat} (hk : t.length = k) (hcl : Cond.classLink (kRn own) idx "[[J" ∈ sT) (hcells : cells + 5 ≤ R.cells) (hslots : slots + 244 ≤ R.slots) (hd : decode cc pc = .ok (.multianewarray idx 2, 4))
    (K : ∀ (H : Heap) (locs : List Loc), cAt E s (ws0 ++ (t ++ [aQ E 5 4 (fun j => if j < 4 then some (ad E (n + (k + 1 + j))) else none), aL E 60, aL E 60, aL E 60, aL E 60])) H locs → W p l e R s m args below meth c H locs (cells + 5) (slots + 244) Q (F0 m (pc + 4) ls (.ref (ad E (n + k)) :: rest))) : W p l e R s m args below meth c H locs cells slots Q (F0 m pc ls (.int 60 :: .int 4 :: rest)) := sorry
end C98zu2
