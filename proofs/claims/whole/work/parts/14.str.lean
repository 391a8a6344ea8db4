/-! 14: the words' String (open: proved later) -/
section W14
variable {cc : ByteArray} {nL d : Nat} {bl : Bool} {pc : Nat} {lo : sL} {t : List sV} {μ : sM} {o : Option (Option sV × sM)} {i : Int32}
theorem sLdW (hd : decode cc pc = .ok (.ldc 97, 2)) (k : sOk 6 cc nL d bl (pc + 2) lo (.inr (.inr (0, 1)) :: t) μ o) : sOk 6 cc nL d bl pc lo t μ o := sorry
theorem sWl (hd : decode cc pc = .ok (.invokevirtual 99, 3)) (h4 : 4 ≤ d) (hrm : scat t ≤ 8) (k : sOk 6 cc nL d bl (pc + 3) lo (.inl 147 :: t) μ o) : sOk 6 cc nL d bl pc lo (.inr (.inr (0, 1)) :: t) μ o := sorry
theorem sWc (hd : decode cc pc = .ok (.invokevirtual 105, 3)) (h4 : 4 ≤ d) (hrm : scat t ≤ 8) (hi : inb i 147 = true) (k : sOk 6 cc nL d bl (pc + 3) lo (.inl (kWb.getD (ix i) 0) :: t) μ o) : sOk 6 cc nL d bl pc lo (.inl i :: .inr (.inr (0, 1)) :: t) μ o := sorry
end W14
