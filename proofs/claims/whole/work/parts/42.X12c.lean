theorem lk_12_166 : Cond.methodLink (kRn 12) 166 yX12_isTurns ∈ sT := sT_in (n := 1691) (by decide +kernel) rfl
theorem lk_12_169 : Cond.methodLink (kRn 12) 169 yX12_isSlack ∈ sT := sT_in (n := 1724) (by decide +kernel) rfl
theorem lk_12_172 : Cond.methodLink (kRn 12) 172 yX12_isOdds ∈ sT := sT_in (n := 1736) (by decide +kernel) rfl
theorem lk_12_175 : Cond.methodLink (kRn 12) 175 yX12_isReach ∈ sT := sT_in (n := 1740) (by decide +kernel) rfl
theorem lk_12_178 : Cond.methodLink (kRn 12) 178 yX12_isBank ∈ sT := sT_in (n := 1760) (by decide +kernel) rfl
theorem lk_12_181 : Cond.methodLink (kRn 12) 181 yX12_isHolds ∈ sT := sT_in (n := 1764) (by decide +kernel) rfl
theorem lk_12_184 : Cond.methodLink (kRn 12) 184 yX12_isMill ∈ sT := sT_in (n := 1768) (by decide +kernel) rfl
theorem lk_12_187 : Cond.methodLink (kRn 12) 187 yX12_isAt ∈ sT := sT_in (n := 1772) (by decide +kernel) rfl
theorem lk_12_190 : Cond.methodLink (kRn 12) 190 yX12_isNeeds ∈ sT := sT_in (n := 1776) (by decide +kernel) rfl
theorem lk_12_193 : Cond.methodLink (kRn 12) 193 yX12_isWinder ∈ sT := sT_in (n := 1780) (by decide +kernel) rfl
theorem lk_12_196 : Cond.methodLink (kRn 12) 196 yX12_isStrength ∈ sT := sT_in (n := 1784) (by decide +kernel) rfl
theorem lk_12_199 : Cond.methodLink (kRn 12) 199 yX12_isWage ∈ sT := sT_in (n := 1790) (by decide +kernel) rfl
theorem lk_12_202 : Cond.methodLink (kRn 12) 202 yX12_isBack ∈ sT := sT_in (n := 1794) (by decide +kernel) rfl
theorem lk_12_205 : Cond.methodLink (kRn 12) 205 yX12_stepWord ∈ sT := sT_in (n := 1728) (by decide +kernel) rfl
theorem lk_12_209 : Cond.methodLink (kRn 12) 209 yX12_testWord ∈ sT := sT_in (n := 1798) (by decide +kernel) rfl
theorem lk_12_212 : Cond.methodLink (kRn 12) 212 yX12_isEnd ∈ sT := sT_in (n := 1803) (by decide +kernel) rfl
theorem lk_12_215 : Cond.methodLink (kRn 12) 215 yX12_isKept ∈ sT := sT_in (n := 1756) (by decide +kernel) rfl
theorem lk_12_234 : Cond.methodLink (kRn 12) 234 yX12_must ∈ sT := sT_in (n := 1819) (by decide +kernel) rfl
theorem lk_12_247 : Cond.methodLink (kRn 12) 247 yX12_named ∈ sT := sT_in (n := 1811) (by decide +kernel) rfl
theorem lk_12_250 : Cond.methodLink (kRn 12) 250 yX12_isName ∈ sT := sT_in (n := 1752) (by decide +kernel) rfl
theorem lk_12_253 : Cond.methodLink (kRn 12) 253 yX12_isTaken ∈ sT := sT_in (n := 1807) (by decide +kernel) rfl
theorem lk_12_266 : Cond.methodLink (kRn 12) 266 yX12_readNew ∈ sT := sT_in (n := 1748) (by decide +kernel) rfl
theorem lk_12_269 : Cond.methodLink (kRn 12) 269 yX12_behindWord ∈ sT := sT_in (n := 1815) (by decide +kernel) rfl
theorem lk_12_273 : Cond.methodLink (kRn 12) 273 yX12_perhaps ∈ sT := sT_in (n := 1823) (by decide +kernel) rfl
theorem lk_12_277 : Cond.methodLink (kRn 12) 277 yX12_readTold ∈ sT := sT_in (n := 1831) (by decide +kernel) rfl
theorem lk_12_280 : Cond.methodLink (kRn 12) 280 yX12_readOnce ∈ sT := sT_in (n := 1702) (by decide +kernel) rfl
theorem lk_12_284 : Cond.methodLink (kRn 12) 284 yX12_readReach ∈ sT := sT_in (n := 1744) (by decide +kernel) rfl
theorem lk_12_287 : Cond.methodLink (kRn 12) 287 yX12_readMill ∈ sT := sT_in (n := 1827) (by decide +kernel) rfl
theorem lk_12_290 : Cond.methodLink (kRn 12) 290 yX12_readWinder ∈ sT := sT_in (n := 1836) (by decide +kernel) rfl
theorem lk_12_293 : Cond.methodLink (kRn 12) 293 yX12_starts ∈ sT := sT_in (n := 1663) (by decide +kernel) rfl
theorem lk_12_296 : Cond.methodLink (kRn 12) 296 yX12_readPart ∈ sT := sT_in (n := 1687) (by decide +kernel) rfl
theorem lk_12_299 : Cond.methodLink (kRn 12) 299 yX12_isSign ∈ sT := sT_in (n := 1840) (by decide +kernel) rfl
theorem lk_12_302 : Cond.methodLink (kRn 12) 302 yX12_isWell ∈ sT := sT_in (n := 1844) (by decide +kernel) rfl
theorem lk_12_305 : Cond.methodLink (kRn 12) 305 yX12_copy ∈ sT := sT_in (n := 1848) (by decide +kernel) rfl
theorem lk_12_68 : Cond.methodLink (kRn 12) 68 yX12_empties ∈ sT := sT_in (n := 1451) (by decide +kernel) rfl
theorem yv_X12_behindWord : yV yX12_behindWord cX12_behindWord 4 (some .int) 3 := ⟨⟨sT_in (n := 1818) (by decide +kernel) rfl, sT_in (n := 149) (by decide +kernel) rfl, by decide +kernel, by decide⟩, sT_in (n := 1817) (by decide +kernel) rfl, sT_in (n := 83) (by decide +kernel) rfl⟩
theorem yv_X12_copy : yV yX12_copy cX12_copy 4 none 2 := ⟨⟨sT_in (n := 1851) (by decide +kernel) rfl, sT_in (n := 149) (by decide +kernel) rfl, by decide +kernel, by decide⟩, sT_in (n := 1850) (by decide +kernel) rfl, sT_in (n := 91) (by decide +kernel) rfl⟩
theorem yv_X12_empties : yV yX12_empties cX12_empties 4 none 1 := ⟨⟨sT_in (n := 1454) (by decide +kernel) rfl, sT_in (n := 149) (by decide +kernel) rfl, by decide +kernel, by decide⟩, sT_in (n := 1453) (by decide +kernel) rfl, sT_in (n := 45) (by decide +kernel) rfl⟩
theorem yv_X12_isAt : yV yX12_isAt cX12_isAt 1 (some .boolean) 0 := ⟨⟨sT_in (n := 1775) (by decide +kernel) rfl, sT_in (n := 149) (by decide +kernel) rfl, by decide +kernel, by decide⟩, sT_in (n := 1774) (by decide +kernel) rfl, sT_in (n := 73) (by decide +kernel) rfl⟩
theorem yv_X12_isBack : yV yX12_isBack cX12_isBack 1 (some .boolean) 0 := ⟨⟨sT_in (n := 1797) (by decide +kernel) rfl, sT_in (n := 149) (by decide +kernel) rfl, by decide +kernel, by decide⟩, sT_in (n := 1796) (by decide +kernel) rfl, sT_in (n := 78) (by decide +kernel) rfl⟩
theorem yv_X12_isBank : yV yX12_isBank cX12_isBank 1 (some .boolean) 0 := ⟨⟨sT_in (n := 1763) (by decide +kernel) rfl, sT_in (n := 149) (by decide +kernel) rfl, by decide +kernel, by decide⟩, sT_in (n := 1762) (by decide +kernel) rfl, sT_in (n := 70) (by decide +kernel) rfl⟩
theorem yv_X12_isEnd : yV yX12_isEnd cX12_isEnd 1 (some .boolean) 0 := ⟨⟨sT_in (n := 1806) (by decide +kernel) rfl, sT_in (n := 149) (by decide +kernel) rfl, by decide +kernel, by decide⟩, sT_in (n := 1805) (by decide +kernel) rfl, sT_in (n := 80) (by decide +kernel) rfl⟩
theorem yv_X12_isHolds : yV yX12_isHolds cX12_isHolds 1 (some .boolean) 0 := ⟨⟨sT_in (n := 1767) (by decide +kernel) rfl, sT_in (n := 149) (by decide +kernel) rfl, by decide +kernel, by decide⟩, sT_in (n := 1766) (by decide +kernel) rfl, sT_in (n := 71) (by decide +kernel) rfl⟩
theorem yv_X12_isKept : yV yX12_isKept cX12_isKept 1 (some .boolean) 0 := ⟨⟨sT_in (n := 1759) (by decide +kernel) rfl, sT_in (n := 149) (by decide +kernel) rfl, by decide +kernel, by decide⟩, sT_in (n := 1758) (by decide +kernel) rfl, sT_in (n := 69) (by decide +kernel) rfl⟩
theorem yv_X12_isMill : yV yX12_isMill cX12_isMill 1 (some .boolean) 0 := ⟨⟨sT_in (n := 1771) (by decide +kernel) rfl, sT_in (n := 149) (by decide +kernel) rfl, by decide +kernel, by decide⟩, sT_in (n := 1770) (by decide +kernel) rfl, sT_in (n := 72) (by decide +kernel) rfl⟩
theorem yv_X12_isName : yV yX12_isName cX12_isName 1 (some .boolean) 0 := ⟨⟨sT_in (n := 1755) (by decide +kernel) rfl, sT_in (n := 149) (by decide +kernel) rfl, by decide +kernel, by decide⟩, sT_in (n := 1754) (by decide +kernel) rfl, sT_in (n := 68) (by decide +kernel) rfl⟩
theorem yv_X12_isNeeds : yV yX12_isNeeds cX12_isNeeds 1 (some .boolean) 0 := ⟨⟨sT_in (n := 1779) (by decide +kernel) rfl, sT_in (n := 149) (by decide +kernel) rfl, by decide +kernel, by decide⟩, sT_in (n := 1778) (by decide +kernel) rfl, sT_in (n := 74) (by decide +kernel) rfl⟩
theorem yv_X12_isOdds : yV yX12_isOdds cX12_isOdds 1 (some .boolean) 0 := ⟨⟨sT_in (n := 1739) (by decide +kernel) rfl, sT_in (n := 149) (by decide +kernel) rfl, by decide +kernel, by decide⟩, sT_in (n := 1738) (by decide +kernel) rfl, sT_in (n := 64) (by decide +kernel) rfl⟩
theorem yv_X12_isReach : yV yX12_isReach cX12_isReach 1 (some .boolean) 0 := ⟨⟨sT_in (n := 1743) (by decide +kernel) rfl, sT_in (n := 149) (by decide +kernel) rfl, by decide +kernel, by decide⟩, sT_in (n := 1742) (by decide +kernel) rfl, sT_in (n := 65) (by decide +kernel) rfl⟩
theorem yv_X12_isSign : yV yX12_isSign cX12_isSign 2 (some .boolean) 1 := ⟨⟨sT_in (n := 1843) (by decide +kernel) rfl, sT_in (n := 149) (by decide +kernel) rfl, by decide +kernel, by decide⟩, sT_in (n := 1842) (by decide +kernel) rfl, sT_in (n := 89) (by decide +kernel) rfl⟩
theorem yv_X12_isSlack : yV yX12_isSlack cX12_isSlack 1 (some .boolean) 0 := ⟨⟨sT_in (n := 1727) (by decide +kernel) rfl, sT_in (n := 149) (by decide +kernel) rfl, by decide +kernel, by decide⟩, sT_in (n := 1726) (by decide +kernel) rfl, sT_in (n := 61) (by decide +kernel) rfl⟩
theorem yv_X12_isStrength : yV yX12_isStrength cX12_isStrength 1 (some .boolean) 0 := ⟨⟨sT_in (n := 1787) (by decide +kernel) rfl, sT_in (n := 149) (by decide +kernel) rfl, by decide +kernel, by decide⟩, sT_in (n := 1786) (by decide +kernel) rfl, sT_in (n := 76) (by decide +kernel) rfl⟩
theorem yv_X12_isTaken : yV yX12_isTaken cX12_isTaken 1 (some .boolean) 0 := ⟨⟨sT_in (n := 1810) (by decide +kernel) rfl, sT_in (n := 149) (by decide +kernel) rfl, by decide +kernel, by decide⟩, sT_in (n := 1809) (by decide +kernel) rfl, sT_in (n := 81) (by decide +kernel) rfl⟩
theorem yv_X12_isTurns : yV yX12_isTurns cX12_isTurns 1 (some .boolean) 0 := ⟨⟨sT_in (n := 1694) (by decide +kernel) rfl, sT_in (n := 149) (by decide +kernel) rfl, by decide +kernel, by decide⟩, sT_in (n := 1693) (by decide +kernel) rfl, sT_in (n := 55) (by decide +kernel) rfl⟩
theorem yv_X12_isWage : yV yX12_isWage cX12_isWage 1 (some .boolean) 0 := ⟨⟨sT_in (n := 1793) (by decide +kernel) rfl, sT_in (n := 149) (by decide +kernel) rfl, by decide +kernel, by decide⟩, sT_in (n := 1792) (by decide +kernel) rfl, sT_in (n := 77) (by decide +kernel) rfl⟩
theorem yv_X12_isWell : yV yX12_isWell cX12_isWell 1 (some .boolean) 0 := ⟨⟨sT_in (n := 1847) (by decide +kernel) rfl, sT_in (n := 149) (by decide +kernel) rfl, by decide +kernel, by decide⟩, sT_in (n := 1846) (by decide +kernel) rfl, sT_in (n := 90) (by decide +kernel) rfl⟩
theorem yv_X12_isWinder : yV yX12_isWinder cX12_isWinder 1 (some .boolean) 0 := ⟨⟨sT_in (n := 1783) (by decide +kernel) rfl, sT_in (n := 149) (by decide +kernel) rfl, by decide +kernel, by decide⟩, sT_in (n := 1782) (by decide +kernel) rfl, sT_in (n := 75) (by decide +kernel) rfl⟩
theorem yv_X12_must : yV yX12_must cX12_must 2 none 1 := ⟨⟨sT_in (n := 1822) (by decide +kernel) rfl, sT_in (n := 149) (by decide +kernel) rfl, by decide +kernel, by decide⟩, sT_in (n := 1821) (by decide +kernel) rfl, sT_in (n := 84) (by decide +kernel) rfl⟩
theorem yv_X12_named : yV yX12_named cX12_named 4 (some .int) 2 := ⟨⟨sT_in (n := 1814) (by decide +kernel) rfl, sT_in (n := 149) (by decide +kernel) rfl, by decide +kernel, by decide⟩, sT_in (n := 1813) (by decide +kernel) rfl, sT_in (n := 82) (by decide +kernel) rfl⟩
theorem yv_X12_perhaps : yV yX12_perhaps cX12_perhaps 2 (some .boolean) 1 := ⟨⟨sT_in (n := 1826) (by decide +kernel) rfl, sT_in (n := 149) (by decide +kernel) rfl, by decide +kernel, by decide⟩, sT_in (n := 1825) (by decide +kernel) rfl, sT_in (n := 85) (by decide +kernel) rfl⟩
theorem yv_X12_readMill : yV yX12_readMill cX12_readMill 4 none 0 := ⟨⟨sT_in (n := 1830) (by decide +kernel) rfl, sT_in (n := 149) (by decide +kernel) rfl, by decide +kernel, by decide⟩, sT_in (n := 1829) (by decide +kernel) rfl, sT_in (n := 86) (by decide +kernel) rfl⟩
theorem yv_X12_readNew : yV yX12_readNew cX12_readNew 3 (some .int) 1 := ⟨⟨sT_in (n := 1751) (by decide +kernel) rfl, sT_in (n := 149) (by decide +kernel) rfl, by decide +kernel, by decide⟩, sT_in (n := 1750) (by decide +kernel) rfl, sT_in (n := 67) (by decide +kernel) rfl⟩
theorem yv_X12_readOnce : yV yX12_readOnce cX12_readOnce 4 none 3 := ⟨⟨sT_in (n := 1705) (by decide +kernel) rfl, sT_in (n := 149) (by decide +kernel) rfl, by decide +kernel, by decide⟩, sT_in (n := 1704) (by decide +kernel) rfl, sT_in (n := 57) (by decide +kernel) rfl⟩
theorem yv_X12_readPart : yV yX12_readPart cX12_readPart 1 none 0 := ⟨⟨sT_in (n := 1690) (by decide +kernel) rfl, sT_in (n := 149) (by decide +kernel) rfl, by decide +kernel, by decide⟩, sT_in (n := 1689) (by decide +kernel) rfl, sT_in (n := 54) (by decide +kernel) rfl⟩
theorem yv_X12_readReach : yV yX12_readReach cX12_readReach 5 none 0 := ⟨⟨sT_in (n := 1747) (by decide +kernel) rfl, sT_in (n := 149) (by decide +kernel) rfl, by decide +kernel, by decide⟩, sT_in (n := 1746) (by decide +kernel) rfl, sT_in (n := 66) (by decide +kernel) rfl⟩
theorem yv_X12_readTold : yV yX12_readTold cX12_readTold 4 (some .int) 2 := ⟨⟨sT_in (n := 1834) (by decide +kernel) rfl, sT_in (n := 149) (by decide +kernel) rfl, by decide +kernel, by decide⟩, sT_in (n := 1833) (by decide +kernel) rfl, sT_in (n := 87) (by decide +kernel) rfl⟩
theorem yv_X12_readWinder : yV yX12_readWinder cX12_readWinder 4 none 0 := ⟨⟨sT_in (n := 1839) (by decide +kernel) rfl, sT_in (n := 149) (by decide +kernel) rfl, by decide +kernel, by decide⟩, sT_in (n := 1838) (by decide +kernel) rfl, sT_in (n := 88) (by decide +kernel) rfl⟩
theorem yv_X12_starts : yV yX12_starts cX12_starts 3 (some .boolean) 2 := ⟨⟨sT_in (n := 1666) (by decide +kernel) rfl, sT_in (n := 149) (by decide +kernel) rfl, by decide +kernel, by decide⟩, sT_in (n := 1665) (by decide +kernel) rfl, sT_in (n := 50) (by decide +kernel) rfl⟩
theorem yv_X12_stepWord : yV yX12_stepWord cX12_stepWord 1 (some .int) 0 := ⟨⟨sT_in (n := 1731) (by decide +kernel) rfl, sT_in (n := 149) (by decide +kernel) rfl, by decide +kernel, by decide⟩, sT_in (n := 1730) (by decide +kernel) rfl, sT_in (n := 62) (by decide +kernel) rfl⟩
theorem yv_X12_testWord : yV yX12_testWord cX12_testWord 1 (some .int) 0 := ⟨⟨sT_in (n := 1801) (by decide +kernel) rfl, sT_in (n := 149) (by decide +kernel) rfl, by decide +kernel, by decide⟩, sT_in (n := 1800) (by decide +kernel) rfl, sT_in (n := 79) (by decide +kernel) rfl⟩
/-! ClockRiverModel.isKept -/
def X12_isKept (μ : sM) : Option (Int32 × sM) :=
  bI (X12_isTurns μ) fun x1 μ2 =>
    if x1 = 0 then
      bI (X12_isSlack μ2) fun x3 μ4 =>
        if x3 = 0 then
          bI (X12_isOdds μ4) fun x5 μ6 =>
            if x5 = 0 then
              bI (X12_isReach μ6) fun x7 μ8 =>
                if x7 = 0 then
                  bI (X12_isBank μ8) fun x9 μ10 =>
                    if x9 = 0 then
                      bI (X12_isHolds μ10) fun x11 μ12 =>
                        if x11 = 0 then
                          bI (X12_isMill μ12) fun x13 μ14 =>
                            if x13 = 0 then
                              bI (X12_isAt μ14) fun x15 μ16 =>
                                if x15 = 0 then
                                  bI (X12_isNeeds μ16) fun x17 μ18 =>
                                    if x17 = 0 then
                                      bI (X12_isWinder μ18) fun x19 μ20 =>
                                        if x19 = 0 then
                                          bI (X12_isStrength μ20) fun x21 μ22 =>
                                            if x21 = 0 then
                                              bI (X12_isWage μ22) fun x23 μ24 =>
                                                if x23 = 0 then
                                                  bI (X12_isBack μ24) fun x25 μ26 =>
                                                    if x25 = 0 then
                                                      bI (X12_stepWord μ26) fun x27 μ28 =>
                                                        if 0 ≤ x27 then
                                                          some (1, μ28)
                                                        else
                                                          bI (X12_testWord μ28) fun x29 μ30 =>
                                                            if 0 ≤ x29 then
                                                              some (1, μ30)
                                                            else
                                                              bI (X12_isEnd μ30) fun x31 μ32 =>
                                                                if x31 = 0 then
                                                                  some (0, μ32)
                                                                else
                                                                  some (1, μ32)
                                                    else
                                                      some (1, μ26)
                                                else
                                                  some (1, μ24)
                                            else
                                              some (1, μ22)
                                        else
                                          some (1, μ20)
                                    else
                                      some (1, μ18)
                                else
                                  some (1, μ16)
                            else
                              some (1, μ14)
                        else
                          some (1, μ12)
                    else
                      some (1, μ10)
                else
                  some (1, μ8)
            else
              some (1, μ6)
        else
          some (1, μ4)
    else
      some (1, μ2)
theorem tX12_isKept (μ : sM) : sMt yX12_isKept cX12_isKept 1 (some .boolean) 4 [vr 13 0] μ (oI (X12_isKept μ)) := by
  refine sMt_of (own := 12) (bl := true) (by decide +kernel) rfl (Nat.le_of_ble_eq_true rfl) (fun r ρ h => ?_) ?_
  · obtain ⟨q, -, hq⟩ := Option.map_eq_some_iff.mp h
    cases hq
    exact Or.inr ⟨rfl, rfl⟩
  · unfold X12_isKept
    show sOk 12 cX12_isKept 1 4 true 0 [(0, vr 13 0)] [] μ _
    refine sBk (lo' := [(0, vr 13 0)]) (st' := [vr 13 0]) (μ' := μ) (pc' := 1) [(.aload_n 0, 0, 0, 0, 0)] (by decide +kernel) rfl rfl ?_
    refine sCvI oI rfl (ci := 12) (q := (13, 0)) (avs := []) (rest := []) (tX12_isTurns μ) (by decide) (by decide +kernel) lk_12_166 yv_X12_isTurns rfl (by decide) rfl rfl rfl (Nat.le_of_ble_eq_true rfl) (fun x1 μ2 => ?_)
    refine sIf_ne oI (off := 52) (tgt := 56) (by decide +kernel) (by decide) (fun _ => ?_) (fun _ => ?_)
    · refine sBk (lo' := [(0, vr 13 0)]) (st' := [vi 1]) (μ' := μ2) (pc' := 57) [(.iconst 1, 0, 0, 1, 0)] (by decide +kernel) rfl rfl ?_
      exact sRi (by decide +kernel) (fun _ => Or.inr rfl)
    · refine sBk (lo' := [(0, vr 13 0)]) (st' := [vr 13 0]) (μ' := μ2) (pc' := 8) [(.aload_n 0, 0, 0, 0, 0)] (by decide +kernel) rfl rfl ?_
      refine sCvI oI rfl (ci := 12) (q := (13, 0)) (avs := []) (rest := []) (tX12_isSlack μ2) (by decide) (by decide +kernel) lk_12_169 yv_X12_isSlack rfl (by decide) rfl rfl rfl (Nat.le_of_ble_eq_true rfl) (fun x3 μ4 => ?_)
      refine sIf_ne oI (off := 45) (tgt := 56) (by decide +kernel) (by decide) (fun _ => ?_) (fun _ => ?_)
      · refine sBk (lo' := [(0, vr 13 0)]) (st' := [vi 1]) (μ' := μ4) (pc' := 57) [(.iconst 1, 0, 0, 1, 0)] (by decide +kernel) rfl rfl ?_
        exact sRi (by decide +kernel) (fun _ => Or.inr rfl)
      · refine sBk (lo' := [(0, vr 13 0)]) (st' := [vr 13 0]) (μ' := μ4) (pc' := 15) [(.aload_n 0, 0, 0, 0, 0)] (by decide +kernel) rfl rfl ?_
        refine sCvI oI rfl (ci := 12) (q := (13, 0)) (avs := []) (rest := []) (tX12_isOdds μ4) (by decide) (by decide +kernel) lk_12_172 yv_X12_isOdds rfl (by decide) rfl rfl rfl (Nat.le_of_ble_eq_true rfl) (fun x5 μ6 => ?_)
        refine sIf_ne oI (off := 38) (tgt := 56) (by decide +kernel) (by decide) (fun _ => ?_) (fun _ => ?_)
        · refine sBk (lo' := [(0, vr 13 0)]) (st' := [vi 1]) (μ' := μ6) (pc' := 57) [(.iconst 1, 0, 0, 1, 0)] (by decide +kernel) rfl rfl ?_
          exact sRi (by decide +kernel) (fun _ => Or.inr rfl)
        · refine sBk (lo' := [(0, vr 13 0)]) (st' := [vr 13 0]) (μ' := μ6) (pc' := 22) [(.aload_n 0, 0, 0, 0, 0)] (by decide +kernel) rfl rfl ?_
          refine sCvI oI rfl (ci := 12) (q := (13, 0)) (avs := []) (rest := []) (tX12_isReach μ6) (by decide) (by decide +kernel) lk_12_175 yv_X12_isReach rfl (by decide) rfl rfl rfl (Nat.le_of_ble_eq_true rfl) (fun x7 μ8 => ?_)
          refine sIf_ne oI (off := 31) (tgt := 56) (by decide +kernel) (by decide) (fun _ => ?_) (fun _ => ?_)
          · refine sBk (lo' := [(0, vr 13 0)]) (st' := [vi 1]) (μ' := μ8) (pc' := 57) [(.iconst 1, 0, 0, 1, 0)] (by decide +kernel) rfl rfl ?_
            exact sRi (by decide +kernel) (fun _ => Or.inr rfl)
          · refine sBk (lo' := [(0, vr 13 0)]) (st' := [vr 13 0]) (μ' := μ8) (pc' := 29) [(.aload_n 0, 0, 0, 0, 0)] (by decide +kernel) rfl rfl ?_
            refine sCvI oI rfl (ci := 12) (q := (13, 0)) (avs := []) (rest := []) (tX12_isBank μ8) (by decide) (by decide +kernel) lk_12_178 yv_X12_isBank rfl (by decide) rfl rfl rfl (Nat.le_of_ble_eq_true rfl) (fun x9 μ10 => ?_)
            refine sIf_ne oI (off := 24) (tgt := 56) (by decide +kernel) (by decide) (fun _ => ?_) (fun _ => ?_)
            · refine sBk (lo' := [(0, vr 13 0)]) (st' := [vi 1]) (μ' := μ10) (pc' := 57) [(.iconst 1, 0, 0, 1, 0)] (by decide +kernel) rfl rfl ?_
              exact sRi (by decide +kernel) (fun _ => Or.inr rfl)
            · refine sBk (lo' := [(0, vr 13 0)]) (st' := [vr 13 0]) (μ' := μ10) (pc' := 36) [(.aload_n 0, 0, 0, 0, 0)] (by decide +kernel) rfl rfl ?_
              refine sCvI oI rfl (ci := 12) (q := (13, 0)) (avs := []) (rest := []) (tX12_isHolds μ10) (by decide) (by decide +kernel) lk_12_181 yv_X12_isHolds rfl (by decide) rfl rfl rfl (Nat.le_of_ble_eq_true rfl) (fun x11 μ12 => ?_)
              refine sIf_ne oI (off := 17) (tgt := 56) (by decide +kernel) (by decide) (fun _ => ?_) (fun _ => ?_)
              · refine sBk (lo' := [(0, vr 13 0)]) (st' := [vi 1]) (μ' := μ12) (pc' := 57) [(.iconst 1, 0, 0, 1, 0)] (by decide +kernel) rfl rfl ?_
                exact sRi (by decide +kernel) (fun _ => Or.inr rfl)
              · refine sBk (lo' := [(0, vr 13 0)]) (st' := [vr 13 0]) (μ' := μ12) (pc' := 43) [(.aload_n 0, 0, 0, 0, 0)] (by decide +kernel) rfl rfl ?_
                refine sCvI oI rfl (ci := 12) (q := (13, 0)) (avs := []) (rest := []) (tX12_isMill μ12) (by decide) (by decide +kernel) lk_12_184 yv_X12_isMill rfl (by decide) rfl rfl rfl (Nat.le_of_ble_eq_true rfl) (fun x13 μ14 => ?_)
                refine sIf_ne oI (off := 10) (tgt := 56) (by decide +kernel) (by decide) (fun _ => ?_) (fun _ => ?_)
                · refine sBk (lo' := [(0, vr 13 0)]) (st' := [vi 1]) (μ' := μ14) (pc' := 57) [(.iconst 1, 0, 0, 1, 0)] (by decide +kernel) rfl rfl ?_
                  exact sRi (by decide +kernel) (fun _ => Or.inr rfl)
                · refine sBk (lo' := [(0, vr 13 0)]) (st' := [vr 13 0]) (μ' := μ14) (pc' := 50) [(.aload_n 0, 0, 0, 0, 0)] (by decide +kernel) rfl rfl ?_
                  refine sCvI oI rfl (ci := 12) (q := (13, 0)) (avs := []) (rest := []) (tX12_isAt μ14) (by decide) (by decide +kernel) lk_12_187 yv_X12_isAt rfl (by decide) rfl rfl rfl (Nat.le_of_ble_eq_true rfl) (fun x15 μ16 => ?_)
                  refine sIf_eq oI (off := 5) (tgt := 58) (by decide +kernel) (by decide) (fun _ => ?_) (fun _ => ?_)
                  · refine sBk (lo' := [(0, vr 13 0)]) (st' := [vr 13 0]) (μ' := μ16) (pc' := 59) [(.aload_n 0, 0, 0, 0, 0)] (by decide +kernel) rfl rfl ?_
                    refine sCvI oI rfl (ci := 12) (q := (13, 0)) (avs := []) (rest := []) (tX12_isNeeds μ16) (by decide) (by decide +kernel) lk_12_190 yv_X12_isNeeds rfl (by decide) rfl rfl rfl (Nat.le_of_ble_eq_true rfl) (fun x17 μ18 => ?_)
                    refine sIf_ne oI (off := 31) (tgt := 93) (by decide +kernel) (by decide) (fun _ => ?_) (fun _ => ?_)
                    · refine sBk (lo' := [(0, vr 13 0)]) (st' := [vi 1]) (μ' := μ18) (pc' := 94) [(.iconst 1, 0, 0, 1, 0)] (by decide +kernel) rfl rfl ?_
                      exact sRi (by decide +kernel) (fun _ => Or.inr rfl)
                    · refine sBk (lo' := [(0, vr 13 0)]) (st' := [vr 13 0]) (μ' := μ18) (pc' := 66) [(.aload_n 0, 0, 0, 0, 0)] (by decide +kernel) rfl rfl ?_
                      refine sCvI oI rfl (ci := 12) (q := (13, 0)) (avs := []) (rest := []) (tX12_isWinder μ18) (by decide) (by decide +kernel) lk_12_193 yv_X12_isWinder rfl (by decide) rfl rfl rfl (Nat.le_of_ble_eq_true rfl) (fun x19 μ20 => ?_)
                      refine sIf_ne oI (off := 24) (tgt := 93) (by decide +kernel) (by decide) (fun _ => ?_) (fun _ => ?_)
                      · refine sBk (lo' := [(0, vr 13 0)]) (st' := [vi 1]) (μ' := μ20) (pc' := 94) [(.iconst 1, 0, 0, 1, 0)] (by decide +kernel) rfl rfl ?_
                        exact sRi (by decide +kernel) (fun _ => Or.inr rfl)
                      · refine sBk (lo' := [(0, vr 13 0)]) (st' := [vr 13 0]) (μ' := μ20) (pc' := 73) [(.aload_n 0, 0, 0, 0, 0)] (by decide +kernel) rfl rfl ?_
                        refine sCvI oI rfl (ci := 12) (q := (13, 0)) (avs := []) (rest := []) (tX12_isStrength μ20) (by decide) (by decide +kernel) lk_12_196 yv_X12_isStrength rfl (by decide) rfl rfl rfl (Nat.le_of_ble_eq_true rfl) (fun x21 μ22 => ?_)
                        refine sIf_ne oI (off := 17) (tgt := 93) (by decide +kernel) (by decide) (fun _ => ?_) (fun _ => ?_)
                        · refine sBk (lo' := [(0, vr 13 0)]) (st' := [vi 1]) (μ' := μ22) (pc' := 94) [(.iconst 1, 0, 0, 1, 0)] (by decide +kernel) rfl rfl ?_
                          exact sRi (by decide +kernel) (fun _ => Or.inr rfl)
                        · refine sBk (lo' := [(0, vr 13 0)]) (st' := [vr 13 0]) (μ' := μ22) (pc' := 80) [(.aload_n 0, 0, 0, 0, 0)] (by decide +kernel) rfl rfl ?_
                          refine sCvI oI rfl (ci := 12) (q := (13, 0)) (avs := []) (rest := []) (tX12_isWage μ22) (by decide) (by decide +kernel) lk_12_199 yv_X12_isWage rfl (by decide) rfl rfl rfl (Nat.le_of_ble_eq_true rfl) (fun x23 μ24 => ?_)
                          refine sIf_ne oI (off := 10) (tgt := 93) (by decide +kernel) (by decide) (fun _ => ?_) (fun _ => ?_)
                          · refine sBk (lo' := [(0, vr 13 0)]) (st' := [vi 1]) (μ' := μ24) (pc' := 94) [(.iconst 1, 0, 0, 1, 0)] (by decide +kernel) rfl rfl ?_
                            exact sRi (by decide +kernel) (fun _ => Or.inr rfl)
                          · refine sBk (lo' := [(0, vr 13 0)]) (st' := [vr 13 0]) (μ' := μ24) (pc' := 87) [(.aload_n 0, 0, 0, 0, 0)] (by decide +kernel) rfl rfl ?_
                            refine sCvI oI rfl (ci := 12) (q := (13, 0)) (avs := []) (rest := []) (tX12_isBack μ24) (by decide) (by decide +kernel) lk_12_202 yv_X12_isBack rfl (by decide) rfl rfl rfl (Nat.le_of_ble_eq_true rfl) (fun x25 μ26 => ?_)
                            refine sIf_eq oI (off := 5) (tgt := 95) (by decide +kernel) (by decide) (fun _ => ?_) (fun _ => ?_)
                            · refine sBk (lo' := [(0, vr 13 0)]) (st' := [vr 13 0]) (μ' := μ26) (pc' := 96) [(.aload_n 0, 0, 0, 0, 0)] (by decide +kernel) rfl rfl ?_
                              refine sCvI oI rfl (ci := 12) (q := (13, 0)) (avs := []) (rest := []) (tX12_stepWord μ26) (by decide) (by decide +kernel) lk_12_205 yv_X12_stepWord rfl (by decide) rfl rfl rfl (Nat.le_of_ble_eq_true rfl) (fun x27 μ28 => ?_)
                              refine sIf_ge oI (off := 17) (tgt := 116) (by decide +kernel) (by decide) (fun _ => ?_) (fun _ => ?_)
                              · refine sBk (lo' := [(0, vr 13 0)]) (st' := [vi 1]) (μ' := μ28) (pc' := 117) [(.iconst 1, 0, 0, 1, 0)] (by decide +kernel) rfl rfl ?_
                                refine sGt (off := 4) (tgt := 121) (by decide +kernel) (by decide) ?_
                                exact sRi (by decide +kernel) (fun _ => Or.inr rfl)
                              · refine sBk (lo' := [(0, vr 13 0)]) (st' := [vr 13 0]) (μ' := μ28) (pc' := 103) [(.aload_n 0, 0, 0, 0, 0)] (by decide +kernel) rfl rfl ?_
                                refine sCvI oI rfl (ci := 12) (q := (13, 0)) (avs := []) (rest := []) (tX12_testWord μ28) (by decide) (by decide +kernel) lk_12_209 yv_X12_testWord rfl (by decide) rfl rfl rfl (Nat.le_of_ble_eq_true rfl) (fun x29 μ30 => ?_)
                                refine sIf_ge oI (off := 10) (tgt := 116) (by decide +kernel) (by decide) (fun _ => ?_) (fun _ => ?_)
                                · refine sBk (lo' := [(0, vr 13 0)]) (st' := [vi 1]) (μ' := μ30) (pc' := 117) [(.iconst 1, 0, 0, 1, 0)] (by decide +kernel) rfl rfl ?_
                                  refine sGt (off := 4) (tgt := 121) (by decide +kernel) (by decide) ?_
                                  exact sRi (by decide +kernel) (fun _ => Or.inr rfl)
                                · refine sBk (lo' := [(0, vr 13 0)]) (st' := [vr 13 0]) (μ' := μ30) (pc' := 110) [(.aload_n 0, 0, 0, 0, 0)] (by decide +kernel) rfl rfl ?_
                                  refine sCvI oI rfl (ci := 12) (q := (13, 0)) (avs := []) (rest := []) (tX12_isEnd μ30) (by decide) (by decide +kernel) lk_12_212 yv_X12_isEnd rfl (by decide) rfl rfl rfl (Nat.le_of_ble_eq_true rfl) (fun x31 μ32 => ?_)
                                  refine sIf_eq oI (off := 7) (tgt := 120) (by decide +kernel) (by decide) (fun _ => ?_) (fun _ => ?_)
                                  · refine sBk (lo' := [(0, vr 13 0)]) (st' := [vi 0]) (μ' := μ32) (pc' := 121) [(.iconst 0, 0, 0, 0, 0)] (by decide +kernel) rfl rfl ?_
                                    exact sRi (by decide +kernel) (fun _ => Or.inl rfl)
                                  · refine sBk (lo' := [(0, vr 13 0)]) (st' := [vi 1]) (μ' := μ32) (pc' := 117) [(.iconst 1, 0, 0, 1, 0)] (by decide +kernel) rfl rfl ?_
                                    refine sGt (off := 4) (tgt := 121) (by decide +kernel) (by decide) ?_
                                    exact sRi (by decide +kernel) (fun _ => Or.inr rfl)
                            · refine sBk (lo' := [(0, vr 13 0)]) (st' := [vi 1]) (μ' := μ26) (pc' := 94) [(.iconst 1, 0, 0, 1, 0)] (by decide +kernel) rfl rfl ?_
                              exact sRi (by decide +kernel) (fun _ => Or.inr rfl)
                  · refine sBk (lo' := [(0, vr 13 0)]) (st' := [vi 1]) (μ' := μ16) (pc' := 57) [(.iconst 1, 0, 0, 1, 0)] (by decide +kernel) rfl rfl ?_
                    exact sRi (by decide +kernel) (fun _ => Or.inr rfl)
/-! ClockRiverModel.isName -/
def X12_isName (μ : sM) : Option (Int32 × sM) :=
  if (rI μ 13 0 14) = 1 then
    if 8 < (rI μ 13 0 18) then
      some (0, μ)
    else
      bI (X12_isKept μ) fun x1 μ2 =>
        if x1 = 0 then
          some (1, μ2)
        else
          some (0, μ2)
  else
    some (0, μ)
theorem tX12_isName (μ : sM) : sMt yX12_isName cX12_isName 1 (some .boolean) 5 [vr 13 0] μ (oI (X12_isName μ)) := by
  refine sMt_of (own := 12) (bl := true) (by decide +kernel) rfl (Nat.le_of_ble_eq_true rfl) (fun r ρ h => ?_) ?_
  · obtain ⟨q, -, hq⟩ := Option.map_eq_some_iff.mp h
    cases hq
    exact Or.inr ⟨rfl, rfl⟩
  · unfold X12_isName
    show sOk 12 cX12_isName 1 5 true 0 [(0, vr 13 0)] [] μ _
    refine sBk (lo' := [(0, vr 13 0)]) (st' := [vi 1, vi (rI μ 13 0 14)]) (μ' := μ) (pc' := 5) [(.aload_n 0, 0, 0, 0, 0), (.getfield 123, 12, 14, 0, 0), (.iconst 1, 0, 0, 1, 0)] (by decide +kernel) rfl rfl ?_
    refine sIc_ne oI (off := 23) (tgt := 28) (by decide +kernel) (by decide) (fun _ => ?_) (fun _ => ?_)
    · refine sBk (lo' := [(0, vr 13 0)]) (st' := [vi 0]) (μ' := μ) (pc' := 29) [(.iconst 0, 0, 0, 0, 0)] (by decide +kernel) rfl rfl ?_
      exact sRi (by decide +kernel) (fun _ => Or.inl rfl)
    · refine sBk (lo' := [(0, vr 13 0)]) (st' := [vi 8, vi (rI μ 13 0 18)]) (μ' := μ) (pc' := 14) [(.aload_n 0, 0, 0, 0, 0), (.getfield 136, 12, 18, 0, 0), (.bipush 8, 0, 0, 8, 0)] (by decide +kernel) rfl rfl ?_
      refine sIc_gt oI (off := 14) (tgt := 28) (by decide +kernel) (by decide) (fun _ => ?_) (fun _ => ?_)
      · refine sBk (lo' := [(0, vr 13 0)]) (st' := [vi 0]) (μ' := μ) (pc' := 29) [(.iconst 0, 0, 0, 0, 0)] (by decide +kernel) rfl rfl ?_
        exact sRi (by decide +kernel) (fun _ => Or.inl rfl)
      · refine sBk (lo' := [(0, vr 13 0)]) (st' := [vr 13 0]) (μ' := μ) (pc' := 18) [(.aload_n 0, 0, 0, 0, 0)] (by decide +kernel) rfl rfl ?_
        refine sCvI oI rfl (ci := 12) (q := (13, 0)) (avs := []) (rest := []) (tX12_isKept μ) (by decide) (by decide +kernel) lk_12_215 yv_X12_isKept rfl (by decide) rfl rfl rfl (Nat.le_of_ble_eq_true rfl) (fun x1 μ2 => ?_)
        refine sIf_ne oI (off := 7) (tgt := 28) (by decide +kernel) (by decide) (fun _ => ?_) (fun _ => ?_)
        · refine sBk (lo' := [(0, vr 13 0)]) (st' := [vi 0]) (μ' := μ2) (pc' := 29) [(.iconst 0, 0, 0, 0, 0)] (by decide +kernel) rfl rfl ?_
          exact sRi (by decide +kernel) (fun _ => Or.inl rfl)
        · refine sBk (lo' := [(0, vr 13 0)]) (st' := [vi 1]) (μ' := μ2) (pc' := 25) [(.iconst 1, 0, 0, 1, 0)] (by decide +kernel) rfl rfl ?_
          refine sGt (off := 4) (tgt := 29) (by decide +kernel) (by decide) ?_
          exact sRi (by decide +kernel) (fun _ => Or.inr rfl)
/-! ClockRiverModel.named -/
def X12_named_L2 : Nat → Int32 → Int32 → Int32 → sM → Option (Int32 × sM)
  | 0, _, _, _, _ => none
  | n + 1, v1, v2, v3, μ =>
    if inb ((348 * v1) + v2) 1740 = true then
      if (rI μ 61 0 (ix ((348 * v1) + v2))) ≤ v3 then
        some ((-1), μ)
      else
        if inb (((18 * v1) + (6 * v2)) + v3) 90 = true then
          if (lg_cmp (rL μ 64 0 (ix (((18 * v1) + (6 * v2)) + v3))) (rL μ 13 0 19)) = 0 then
            some (v3, μ)
          else
            X12_named_L2 n v1 v2 (v3 + 1) μ
        else none
    else none
theorem X12_named_L2_ok : ∀ (n : Nat) (v1 : Int32) (v2 : Int32) (v3 : Int32) (μ : sM), sOk 12 cX12_named 4 1 false 2 [(0, vr 13 0), (1, vi v1), (2, vi v2), (3, vi v3)] [] μ (oI (X12_named_L2 n v1 v2 v3 μ)) := by
  intro n
  induction n with
  | zero =>
    intros
    exact sNo
  | succ n ih =>
    intro v1 v2 v3 μ
    unfold X12_named_L2
    refine sBk (lo' := [(0, vr 13 0), (1, vi v1), (2, vi v2), (3, vi v3)]) (st' := [vi ((348 * v1) + v2), vr 61 0, vi v3]) (μ' := μ) (pc' := 14) [(.iload_n 3, 0, 0, 0, 0), (.aload_n 0, 0, 0, 0, 0), (.getfield 35, 12, 20, 0, 0), (.sipush 348, 0, 0, 348, 0), (.iload_n 1, 0, 0, 0, 0), (.imul, 0, 0, 0, 0), (.iload_n 2, 0, 0, 0, 0), (.iadd, 0, 0, 0, 0)] (by decide +kernel) rfl rfl ?_
    refine sS_ial oI rfl (n := 1740) (j := (ix ((348 * v1) + v2))) (by decide +kernel) rfl rfl rfl (fun _ => ?_)
    refine sIc_ge oI (off := 35) (tgt := 50) (by decide +kernel) (by decide) (fun _ => ?_) (fun _ => ?_)
    · refine sBk (lo' := [(0, vr 13 0), (1, vi v1), (2, vi v2), (3, vi v3)]) (st' := [vi (-1)]) (μ' := μ) (pc' := 51) [(.iconst (-1), 0, 0, (-1), 0)] (by decide +kernel) rfl rfl ?_
      exact sRi (by decide +kernel) (fun h => by cases h)
    · refine sBk (lo' := [(0, vr 13 0), (1, vi v1), (2, vi v2), (3, vi v3)]) (st' := [vi (((18 * v1) + (6 * v2)) + v3), vr 64 0]) (μ' := μ) (pc' := 33) [(.aload_n 0, 0, 0, 0, 0), (.getfield 44, 12, 23, 0, 0), (.bipush 18, 0, 0, 18, 0), (.iload_n 1, 0, 0, 0, 0), (.imul, 0, 0, 0, 0), (.bipush 6, 0, 0, 6, 0), (.iload_n 2, 0, 0, 0, 0), (.imul, 0, 0, 0, 0), (.iadd, 0, 0, 0, 0), (.iload_n 3, 0, 0, 0, 0), (.iadd, 0, 0, 0, 0)] (by decide +kernel) rfl rfl ?_
      refine sS_lal oI rfl (n := 90) (j := (ix (((18 * v1) + (6 * v2)) + v3))) (by decide +kernel) rfl rfl rfl (fun _ => ?_)
      refine sBk (lo' := [(0, vr 13 0), (1, vi v1), (2, vi v2), (3, vi v3)]) (st' := [vi (lg_cmp (rL μ 64 0 (ix (((18 * v1) + (6 * v2)) + v3))) (rL μ 13 0 19))]) (μ' := μ) (pc' := 39) [(.aload_n 0, 0, 0, 0, 0), (.getfield 129, 12, 19, 0, 0), (.lcmp, 0, 0, 0, 0)] (by decide +kernel) rfl rfl ?_
      refine sIf_ne oI (off := 5) (tgt := 44) (by decide +kernel) (by decide) (fun _ => ?_) (fun _ => ?_)
      · refine sBk (lo' := [(3, vi (v3 + 1)), (0, vr 13 0), (1, vi v1), (2, vi v2)]) (st' := []) (μ' := μ) (pc' := 47) [(.iinc 3 1, 0, 0, 1, 0)] (by decide +kernel) rfl rfl ?_
        refine sGt (off := (-45)) (tgt := 2) (by decide +kernel) (by decide) ?_
        refine sWk (lo' := [(0, vr 13 0), (1, vi v1), (2, vi v2), (3, vi (v3 + 1))]) [1, 2, 3, 0] rfl ?_
        exact ih v1 v2 (v3 + 1) μ
      · refine sBk (lo' := [(0, vr 13 0), (1, vi v1), (2, vi v2), (3, vi v3)]) (st' := [vi v3]) (μ' := μ) (pc' := 43) [(.iload_n 3, 0, 0, 0, 0)] (by decide +kernel) rfl rfl ?_
        exact sRi (by decide +kernel) (fun h => by cases h)
def X12_named (a1 : Int32) (a2 : Int32) (μ : sM) : Option (Int32 × sM) :=
  X12_named_L2 fuN a1 a2 0 μ
theorem tX12_named (a1 : Int32) (a2 : Int32) (μ : sM) : sMt yX12_named cX12_named 4 (some .int) 1 [vr 13 0, vi a1, vi a2] μ (oI (X12_named a1 a2 μ)) := by
  refine sMt_of (own := 12) (bl := false) (by decide +kernel) rfl (Nat.le_of_ble_eq_true rfl) (fun r ρ h => ?_) ?_
  · obtain ⟨q, -, hq⟩ := Option.map_eq_some_iff.mp h
    cases hq
    exact Or.inl rfl
  · unfold X12_named
    show sOk 12 cX12_named 4 1 false 0 [(0, vr 13 0), (1, vi a1), (2, vi a2)] [] μ _
    refine sBk (lo' := [(3, vi 0), (0, vr 13 0), (1, vi a1), (2, vi a2)]) (st' := []) (μ' := μ) (pc' := 2) [(.iconst 0, 0, 0, 0, 0), (.istore_n 3, 0, 0, 0, 0)] (by decide +kernel) rfl rfl ?_
    refine sWk (lo' := [(0, vr 13 0), (1, vi a1), (2, vi a2), (3, vi 0)]) [1, 2, 3, 0] rfl ?_
    exact X12_named_L2_ok fuN a1 a2 0 μ
/-! ClockRiverModel.isTaken -/
def X12_isTaken (μ : sM) : Option (Int32 × sM) :=
  bI (X12_named 4 0 μ) fun x1 μ2 =>
    if 0 ≤ x1 then
      some (1, μ2)
    else
      bI (X12_named 4 1 μ2) fun x3 μ4 =>
        if 0 ≤ x3 then
          some (1, μ4)
        else
          bI (X12_named 4 2 μ4) fun x5 μ6 =>
            if x5 < 0 then
              some (0, μ6)
            else
              some (1, μ6)
theorem tX12_isTaken (μ : sM) : sMt yX12_isTaken cX12_isTaken 1 (some .boolean) 2 [vr 13 0] μ (oI (X12_isTaken μ)) := by
  refine sMt_of (own := 12) (bl := true) (by decide +kernel) rfl (Nat.le_of_ble_eq_true rfl) (fun r ρ h => ?_) ?_
  · obtain ⟨q, -, hq⟩ := Option.map_eq_some_iff.mp h
    cases hq
    exact Or.inr ⟨rfl, rfl⟩
  · unfold X12_isTaken
    show sOk 12 cX12_isTaken 1 2 true 0 [(0, vr 13 0)] [] μ _
    refine sBk (lo' := [(0, vr 13 0)]) (st' := [vi 0, vi 4, vr 13 0]) (μ' := μ) (pc' := 3) [(.aload_n 0, 0, 0, 0, 0), (.iconst 4, 0, 0, 4, 0), (.iconst 0, 0, 0, 0, 0)] (by decide +kernel) rfl rfl ?_
    refine sCvI oI rfl (ci := 12) (q := (13, 0)) (avs := [vi 4, vi 0]) (rest := []) (tX12_named 4 0 μ) (by decide) (by decide +kernel) lk_12_247 yv_X12_named rfl (by decide) rfl rfl rfl (Nat.le_of_ble_eq_true rfl) (fun x1 μ2 => ?_)
    refine sIf_ge oI (off := 21) (tgt := 27) (by decide +kernel) (by decide) (fun _ => ?_) (fun _ => ?_)
    · refine sBk (lo' := [(0, vr 13 0)]) (st' := [vi 1]) (μ' := μ2) (pc' := 28) [(.iconst 1, 0, 0, 1, 0)] (by decide +kernel) rfl rfl ?_
      refine sGt (off := 4) (tgt := 32) (by decide +kernel) (by decide) ?_
      exact sRi (by decide +kernel) (fun _ => Or.inr rfl)
    · refine sBk (lo' := [(0, vr 13 0)]) (st' := [vi 1, vi 4, vr 13 0]) (μ' := μ2) (pc' := 12) [(.aload_n 0, 0, 0, 0, 0), (.iconst 4, 0, 0, 4, 0), (.iconst 1, 0, 0, 1, 0)] (by decide +kernel) rfl rfl ?_
      refine sCvI oI rfl (ci := 12) (q := (13, 0)) (avs := [vi 4, vi 1]) (rest := []) (tX12_named 4 1 μ2) (by decide) (by decide +kernel) lk_12_247 yv_X12_named rfl (by decide) rfl rfl rfl (Nat.le_of_ble_eq_true rfl) (fun x3 μ4 => ?_)
      refine sIf_ge oI (off := 12) (tgt := 27) (by decide +kernel) (by decide) (fun _ => ?_) (fun _ => ?_)
      · refine sBk (lo' := [(0, vr 13 0)]) (st' := [vi 1]) (μ' := μ4) (pc' := 28) [(.iconst 1, 0, 0, 1, 0)] (by decide +kernel) rfl rfl ?_
        refine sGt (off := 4) (tgt := 32) (by decide +kernel) (by decide) ?_
        exact sRi (by decide +kernel) (fun _ => Or.inr rfl)
      · refine sBk (lo' := [(0, vr 13 0)]) (st' := [vi 2, vi 4, vr 13 0]) (μ' := μ4) (pc' := 21) [(.aload_n 0, 0, 0, 0, 0), (.iconst 4, 0, 0, 4, 0), (.iconst 2, 0, 0, 2, 0)] (by decide +kernel) rfl rfl ?_
        refine sCvI oI rfl (ci := 12) (q := (13, 0)) (avs := [vi 4, vi 2]) (rest := []) (tX12_named 4 2 μ4) (by decide) (by decide +kernel) lk_12_247 yv_X12_named rfl (by decide) rfl rfl rfl (Nat.le_of_ble_eq_true rfl) (fun x5 μ6 => ?_)
        refine sIf_lt oI (off := 7) (tgt := 31) (by decide +kernel) (by decide) (fun _ => ?_) (fun _ => ?_)
        · refine sBk (lo' := [(0, vr 13 0)]) (st' := [vi 0]) (μ' := μ6) (pc' := 32) [(.iconst 0, 0, 0, 0, 0)] (by decide +kernel) rfl rfl ?_
          exact sRi (by decide +kernel) (fun _ => Or.inl rfl)
        · refine sBk (lo' := [(0, vr 13 0)]) (st' := [vi 1]) (μ' := μ6) (pc' := 28) [(.iconst 1, 0, 0, 1, 0)] (by decide +kernel) rfl rfl ?_
          refine sGt (off := 4) (tgt := 32) (by decide +kernel) (by decide) ?_
          exact sRi (by decide +kernel) (fun _ => Or.inr rfl)
/-! ClockRiverModel.readNew -/
def X12_readNew_J74 (v1 : Int32) (v2 : Int32) (μ : sM) : Option (Int32 × sM) :=
  if (rI μ 13 0 12) ≤ 0 then
    if inb ((72 + (6 * v1)) + v2) 90 = true then
      bV (X12_advance (wL μ 64 0 (ix ((72 + (6 * v1)) + v2)) (rL μ 13 0 19))) fun μ2 =>
        some (v2, μ2)
    else none
  else
    some (0, μ)
theorem X12_readNew_J74_ok (v1 : Int32) (v2 : Int32) (μ : sM) : sOk 12 cX12_readNew 3 6 false 74 [(0, vr 13 0), (1, vi v1), (2, vi v2)] [] μ (oI (X12_readNew_J74 v1 v2 μ)) := by
  unfold X12_readNew_J74
  refine sBk (lo' := [(0, vr 13 0), (1, vi v1), (2, vi v2)]) (st' := [vi (rI μ 13 0 12)]) (μ' := μ) (pc' := 78) [(.aload_n 0, 0, 0, 0, 0), (.getfield 218, 12, 12, 0, 0)] (by decide +kernel) rfl rfl ?_
  refine sIf_le oI (off := 5) (tgt := 83) (by decide +kernel) (by decide) (fun _ => ?_) (fun _ => ?_)
  · refine sBk (lo' := [(0, vr 13 0), (1, vi v1), (2, vi v2)]) (st' := [vl (rL μ 13 0 19), vi ((72 + (6 * v1)) + v2), vr 64 0]) (μ' := μ) (pc' := 100) [(.aload_n 0, 0, 0, 0, 0), (.getfield 44, 12, 23, 0, 0), (.bipush 72, 0, 0, 72, 0), (.bipush 6, 0, 0, 6, 0), (.iload_n 1, 0, 0, 0, 0), (.imul, 0, 0, 0, 0), (.iadd, 0, 0, 0, 0), (.iload_n 2, 0, 0, 0, 0), (.iadd, 0, 0, 0, 0), (.aload_n 0, 0, 0, 0, 0), (.getfield 129, 12, 19, 0, 0)] (by decide +kernel) rfl rfl ?_
    refine sS_las oI rfl (n := 90) (j := (ix ((72 + (6 * v1)) + v2))) (by decide +kernel) rfl rfl rfl (fun _ => ?_)
    refine sBk (lo' := [(0, vr 13 0), (1, vi v1), (2, vi v2)]) (st' := [vr 13 0]) (μ' := wL μ 64 0 (ix ((72 + (6 * v1)) + v2)) (rL μ 13 0 19)) (pc' := 102) [(.aload_n 0, 0, 0, 0, 0)] (by decide +kernel) rfl rfl ?_
    refine sCvV oI rfl (ci := 12) (q := (13, 0)) (avs := []) (rest := []) (tX12_advance (wL μ 64 0 (ix ((72 + (6 * v1)) + v2)) (rL μ 13 0 19))) (by decide) (by decide +kernel) lk_12_228 yv_X12_advance rfl (by decide) rfl rfl rfl (Nat.le_of_ble_eq_true rfl) (fun μ2 => ?_)
    refine sBk (lo' := [(0, vr 13 0), (1, vi v1), (2, vi v2)]) (st' := [vi v2]) (μ' := μ2) (pc' := 106) [(.iload_n 2, 0, 0, 0, 0)] (by decide +kernel) rfl rfl ?_
    exact sRi (by decide +kernel) (fun h => by cases h)
  · refine sBk (lo' := [(0, vr 13 0), (1, vi v1), (2, vi v2)]) (st' := [vi 0]) (μ' := μ) (pc' := 82) [(.iconst 0, 0, 0, 0, 0)] (by decide +kernel) rfl rfl ?_
    exact sRi (by decide +kernel) (fun h => by cases h)
def X12_readNew_J51 (v1 : Int32) (v2 : Int32) (μ : sM) : Option (Int32 × sM) :=
  if (rI μ 13 0 12) = 0 then
    bI (X12_isTaken μ) fun x1 μ2 =>
      if x1 = 0 then
        X12_readNew_J74 v1 v2 μ2
      else
        bV (X12_fail 3 (rI μ2 13 0 15) μ2) fun μ4 =>
          X12_readNew_J74 v1 v2 μ4
  else
    X12_readNew_J74 v1 v2 μ
theorem X12_readNew_J51_ok (v1 : Int32) (v2 : Int32) (μ : sM) : sOk 12 cX12_readNew 3 6 false 51 [(0, vr 13 0), (1, vi v1), (2, vi v2)] [] μ (oI (X12_readNew_J51 v1 v2 μ)) := by
  unfold X12_readNew_J51
  refine sBk (lo' := [(0, vr 13 0), (1, vi v1), (2, vi v2)]) (st' := [vi (rI μ 13 0 12)]) (μ' := μ) (pc' := 55) [(.aload_n 0, 0, 0, 0, 0), (.getfield 218, 12, 12, 0, 0)] (by decide +kernel) rfl rfl ?_
  refine sIf_ne oI (off := 19) (tgt := 74) (by decide +kernel) (by decide) (fun _ => ?_) (fun _ => ?_)
  · exact X12_readNew_J74_ok v1 v2 μ
  · refine sBk (lo' := [(0, vr 13 0), (1, vi v1), (2, vi v2)]) (st' := [vr 13 0]) (μ' := μ) (pc' := 59) [(.aload_n 0, 0, 0, 0, 0)] (by decide +kernel) rfl rfl ?_
    refine sCvI oI rfl (ci := 12) (q := (13, 0)) (avs := []) (rest := []) (tX12_isTaken μ) (by decide) (by decide +kernel) lk_12_253 yv_X12_isTaken rfl (by decide) rfl rfl rfl (Nat.le_of_ble_eq_true rfl) (fun x1 μ2 => ?_)
    refine sIf_eq oI (off := 12) (tgt := 74) (by decide +kernel) (by decide) (fun _ => ?_) (fun _ => ?_)
    · exact X12_readNew_J74_ok v1 v2 μ2
    · refine sBk (lo' := [(0, vr 13 0), (1, vi v1), (2, vi v2)]) (st' := [vi (rI μ2 13 0 15), vi 3, vr 13 0]) (μ' := μ2) (pc' := 71) [(.aload_n 0, 0, 0, 0, 0), (.iconst 3, 0, 0, 3, 0), (.aload_n 0, 0, 0, 0, 0), (.getfield 117, 12, 15, 0, 0)] (by decide +kernel) rfl rfl ?_
      refine sCvV oI rfl (ci := 12) (q := (13, 0)) (avs := [vi 3, vi (rI μ2 13 0 15)]) (rest := []) (tX12_fail 3 (rI μ2 13 0 15) μ2) (by decide) (by decide +kernel) lk_12_224 yv_X12_fail rfl (by decide) rfl rfl rfl (Nat.le_of_ble_eq_true rfl) (fun μ4 => ?_)
      exact X12_readNew_J74_ok v1 v2 μ4
def X12_readNew_J27 (v1 : Int32) (v2 : Int32) (μ : sM) : Option (Int32 × sM) :=
  if (rI μ 13 0 12) ≤ 0 then
    bV (X12_advance μ) fun μ2 =>
      bI (X12_isName μ2) fun x3 μ4 =>
        if x3 = 0 then
          bV (X12_amiss μ4) fun μ6 =>
            X12_readNew_J51 v1 v2 μ6
        else
          X12_readNew_J51 v1 v2 μ4
  else
    some (0, μ)
theorem X12_readNew_J27_ok (v1 : Int32) (v2 : Int32) (μ : sM) : sOk 12 cX12_readNew 3 6 false 27 [(0, vr 13 0), (1, vi v1), (2, vi v2)] [] μ (oI (X12_readNew_J27 v1 v2 μ)) := by
  unfold X12_readNew_J27
  refine sBk (lo' := [(0, vr 13 0), (1, vi v1), (2, vi v2)]) (st' := [vi (rI μ 13 0 12)]) (μ' := μ) (pc' := 31) [(.aload_n 0, 0, 0, 0, 0), (.getfield 218, 12, 12, 0, 0)] (by decide +kernel) rfl rfl ?_
  refine sIf_le oI (off := 5) (tgt := 36) (by decide +kernel) (by decide) (fun _ => ?_) (fun _ => ?_)
  · refine sBk (lo' := [(0, vr 13 0), (1, vi v1), (2, vi v2)]) (st' := [vr 13 0]) (μ' := μ) (pc' := 37) [(.aload_n 0, 0, 0, 0, 0)] (by decide +kernel) rfl rfl ?_
    refine sCvV oI rfl (ci := 12) (q := (13, 0)) (avs := []) (rest := []) (tX12_advance μ) (by decide) (by decide +kernel) lk_12_228 yv_X12_advance rfl (by decide) rfl rfl rfl (Nat.le_of_ble_eq_true rfl) (fun μ2 => ?_)
    refine sBk (lo' := [(0, vr 13 0), (1, vi v1), (2, vi v2)]) (st' := [vr 13 0]) (μ' := μ2) (pc' := 41) [(.aload_n 0, 0, 0, 0, 0)] (by decide +kernel) rfl rfl ?_
    refine sCvI oI rfl (ci := 12) (q := (13, 0)) (avs := []) (rest := []) (tX12_isName μ2) (by decide) (by decide +kernel) lk_12_250 yv_X12_isName rfl (by decide) rfl rfl rfl (Nat.le_of_ble_eq_true rfl) (fun x3 μ4 => ?_)
    refine sIf_ne oI (off := 7) (tgt := 51) (by decide +kernel) (by decide) (fun _ => ?_) (fun _ => ?_)
    · exact X12_readNew_J51_ok v1 v2 μ4
    · refine sBk (lo' := [(0, vr 13 0), (1, vi v1), (2, vi v2)]) (st' := [vr 13 0]) (μ' := μ4) (pc' := 48) [(.aload_n 0, 0, 0, 0, 0)] (by decide +kernel) rfl rfl ?_
      refine sCvV oI rfl (ci := 12) (q := (13, 0)) (avs := []) (rest := []) (tX12_amiss μ4) (by decide) (by decide +kernel) lk_12_231 yv_X12_amiss rfl (by decide) rfl rfl rfl (Nat.le_of_ble_eq_true rfl) (fun μ6 => ?_)
      exact X12_readNew_J51_ok v1 v2 μ6
  · refine sBk (lo' := [(0, vr 13 0), (1, vi v1), (2, vi v2)]) (st' := [vi 0]) (μ' := μ) (pc' := 35) [(.iconst 0, 0, 0, 0, 0)] (by decide +kernel) rfl rfl ?_
    exact sRi (by decide +kernel) (fun h => by cases h)
def X12_readNew (a1 : Int32) (μ : sM) : Option (Int32 × sM) :=
  if inb (1392 + a1) 1740 = true then
    if (rI μ 61 0 (ix (1392 + a1))) = 6 then
      bV (X12_fail 6 (rI μ 13 0 15) μ) fun μ2 =>
        X12_readNew_J27 a1 (rI μ 61 0 (ix (1392 + a1))) μ2
    else
      X12_readNew_J27 a1 (rI μ 61 0 (ix (1392 + a1))) μ
  else none
theorem tX12_readNew (a1 : Int32) (μ : sM) : sMt yX12_readNew cX12_readNew 3 (some .int) 6 [vr 13 0, vi a1] μ (oI (X12_readNew a1 μ)) := by
  refine sMt_of (own := 12) (bl := false) (by decide +kernel) rfl (Nat.le_of_ble_eq_true rfl) (fun r ρ h => ?_) ?_
  · obtain ⟨q, -, hq⟩ := Option.map_eq_some_iff.mp h
    cases hq
    exact Or.inl rfl
  · unfold X12_readNew
    show sOk 12 cX12_readNew 3 6 false 0 [(0, vr 13 0), (1, vi a1)] [] μ _
    refine sBk (lo' := [(0, vr 13 0), (1, vi a1)]) (st' := [vi (1392 + a1), vr 61 0]) (μ' := μ) (pc' := 9) [(.aload_n 0, 0, 0, 0, 0), (.getfield 35, 12, 20, 0, 0), (.sipush 1392, 0, 0, 1392, 0), (.iload_n 1, 0, 0, 0, 0), (.iadd, 0, 0, 0, 0)] (by decide +kernel) rfl rfl ?_
    refine sS_ial oI rfl (n := 1740) (j := (ix (1392 + a1))) (by decide +kernel) rfl rfl rfl (fun _ => ?_)
    refine sBk (lo' := [(2, vi (rI μ 61 0 (ix (1392 + a1)))), (0, vr 13 0), (1, vi a1)]) (st' := [vi 6, vi (rI μ 61 0 (ix (1392 + a1)))]) (μ' := μ) (pc' := 14) [(.istore_n 2, 0, 0, 0, 0), (.iload_n 2, 0, 0, 0, 0), (.bipush 6, 0, 0, 6, 0)] (by decide +kernel) rfl rfl ?_
    refine sIc_ne oI (off := 13) (tgt := 27) (by decide +kernel) (by decide) (fun _ => ?_) (fun _ => ?_)
    · refine sWk (lo' := [(0, vr 13 0), (1, vi a1), (2, vi (rI μ 61 0 (ix (1392 + a1))))]) [1, 2, 0] rfl ?_
      exact X12_readNew_J27_ok a1 (rI μ 61 0 (ix (1392 + a1))) μ
    · refine sBk (lo' := [(2, vi (rI μ 61 0 (ix (1392 + a1)))), (0, vr 13 0), (1, vi a1)]) (st' := [vi (rI μ 13 0 15), vi 6, vr 13 0]) (μ' := μ) (pc' := 24) [(.aload_n 0, 0, 0, 0, 0), (.bipush 6, 0, 0, 6, 0), (.aload_n 0, 0, 0, 0, 0), (.getfield 117, 12, 15, 0, 0)] (by decide +kernel) rfl rfl ?_
      refine sCvV oI rfl (ci := 12) (q := (13, 0)) (avs := [vi 6, vi (rI μ 13 0 15)]) (rest := []) (tX12_fail 6 (rI μ 13 0 15) μ) (by decide) (by decide +kernel) lk_12_224 yv_X12_fail rfl (by decide) rfl rfl rfl (Nat.le_of_ble_eq_true rfl) (fun μ2 => ?_)
      refine sWk (lo' := [(0, vr 13 0), (1, vi a1), (2, vi (rI μ 61 0 (ix (1392 + a1))))]) [1, 2, 0] rfl ?_
      exact X12_readNew_J27_ok a1 (rI μ 61 0 (ix (1392 + a1))) μ2
/-! ClockRiverModel.must -/
def X12_must (a1 : Int32) (μ : sM) : Option sM :=
  if (rI μ 13 0 12) ≤ 0 then
    if a1 = 0 then
      bV (X12_amiss μ) fun μ2 =>
        some μ2
    else
      bV (X12_advance μ) fun μ4 =>
        some μ4
  else
    some μ
theorem tX12_must (a1 : Int32) (μ : sM) : sMt yX12_must cX12_must 2 none 3 [vr 13 0, vi a1] μ (oV (X12_must a1 μ)) := by
  refine sMt_of (own := 12) (bl := false) (by decide +kernel) rfl (Nat.le_of_ble_eq_true rfl) (fun r ρ h => ?_) ?_
  · obtain ⟨q, -, hq⟩ := Option.map_eq_some_iff.mp h
    cases hq
    exact rfl
  · unfold X12_must
    show sOk 12 cX12_must 2 3 false 0 [(0, vr 13 0), (1, vi a1)] [] μ _
    refine sBk (lo' := [(0, vr 13 0), (1, vi a1)]) (st' := [vi (rI μ 13 0 12)]) (μ' := μ) (pc' := 4) [(.aload_n 0, 0, 0, 0, 0), (.getfield 218, 12, 12, 0, 0)] (by decide +kernel) rfl rfl ?_
    refine sIf_le oV (off := 4) (tgt := 8) (by decide +kernel) (by decide) (fun _ => ?_) (fun _ => ?_)
    · refine sBk (lo' := [(0, vr 13 0), (1, vi a1)]) (st' := [vi a1]) (μ' := μ) (pc' := 9) [(.iload_n 1, 0, 0, 0, 0)] (by decide +kernel) rfl rfl ?_
      refine sIf_eq oV (off := 10) (tgt := 19) (by decide +kernel) (by decide) (fun _ => ?_) (fun _ => ?_)
      · refine sBk (lo' := [(0, vr 13 0), (1, vi a1)]) (st' := [vr 13 0]) (μ' := μ) (pc' := 20) [(.aload_n 0, 0, 0, 0, 0)] (by decide +kernel) rfl rfl ?_
        refine sCvV oV rfl (ci := 12) (q := (13, 0)) (avs := []) (rest := []) (tX12_amiss μ) (by decide) (by decide +kernel) lk_12_231 yv_X12_amiss rfl (by decide) rfl rfl rfl (Nat.le_of_ble_eq_true rfl) (fun μ2 => ?_)
        exact sRv (by decide +kernel)
      · refine sBk (lo' := [(0, vr 13 0), (1, vi a1)]) (st' := [vr 13 0]) (μ' := μ) (pc' := 13) [(.aload_n 0, 0, 0, 0, 0)] (by decide +kernel) rfl rfl ?_
        refine sCvV oV rfl (ci := 12) (q := (13, 0)) (avs := []) (rest := []) (tX12_advance μ) (by decide) (by decide +kernel) lk_12_228 yv_X12_advance rfl (by decide) rfl rfl rfl (Nat.le_of_ble_eq_true rfl) (fun μ4 => ?_)
        refine sGt (off := 7) (tgt := 23) (by decide +kernel) (by decide) ?_
        exact sRv (by decide +kernel)
    · exact sRv (by decide +kernel)
/-! ClockRiverModel.behindWord -/
def X12_behindWord (a1 : Int32) (a2 : Int32) (a3 : Int32) (μ : sM) : Option (Int32 × sM) :=
  bV (X12_must a1 μ) fun μ2 =>
    bI (X12_count a2 a3 μ2) fun x3 μ4 =>
      some (x3, μ4)
theorem tX12_behindWord (a1 : Int32) (a2 : Int32) (a3 : Int32) (μ : sM) : sMt yX12_behindWord cX12_behindWord 4 (some .int) 4 [vr 13 0, vi a1, vi a2, vi a3] μ (oI (X12_behindWord a1 a2 a3 μ)) := by
  refine sMt_of (own := 12) (bl := false) (by decide +kernel) rfl (Nat.le_of_ble_eq_true rfl) (fun r ρ h => ?_) ?_
  · obtain ⟨q, -, hq⟩ := Option.map_eq_some_iff.mp h
    cases hq
    exact Or.inl rfl
  · unfold X12_behindWord
    show sOk 12 cX12_behindWord 4 4 false 0 [(0, vr 13 0), (1, vi a1), (2, vi a2), (3, vi a3)] [] μ _
    refine sBk (lo' := [(0, vr 13 0), (1, vi a1), (2, vi a2), (3, vi a3)]) (st' := [vi a1, vr 13 0]) (μ' := μ) (pc' := 2) [(.aload_n 0, 0, 0, 0, 0), (.iload_n 1, 0, 0, 0, 0)] (by decide +kernel) rfl rfl ?_
    refine sCvV oI rfl (ci := 12) (q := (13, 0)) (avs := [vi a1]) (rest := []) (tX12_must a1 μ) (by decide) (by decide +kernel) lk_12_234 yv_X12_must rfl (by decide) rfl rfl rfl (Nat.le_of_ble_eq_true rfl) (fun μ2 => ?_)
    refine sBk (lo' := [(0, vr 13 0), (1, vi a1), (2, vi a2), (3, vi a3)]) (st' := [vi a3, vi a2, vr 13 0]) (μ' := μ2) (pc' := 8) [(.aload_n 0, 0, 0, 0, 0), (.iload_n 2, 0, 0, 0, 0), (.iload_n 3, 0, 0, 0, 0)] (by decide +kernel) rfl rfl ?_
    refine sCvI oI rfl (ci := 12) (q := (13, 0)) (avs := [vi a2, vi a3]) (rest := []) (tX12_count a2 a3 μ2) (by decide) (by decide +kernel) lk_12_238 yv_X12_count rfl (by decide) rfl rfl rfl (Nat.le_of_ble_eq_true rfl) (fun x3 μ4 => ?_)
    exact sRi (by decide +kernel) (fun h => by cases h)
/-! ClockRiverModel.perhaps -/
def X12_perhaps (a1 : Int32) (μ : sM) : Option (Int32 × sM) :=
  if 0 < (rI μ 13 0 12) then
    some (0, μ)
  else
    if a1 = 0 then
      some (0, μ)
    else
      bV (X12_advance μ) fun μ2 =>
        some (1, μ2)
theorem tX12_perhaps (a1 : Int32) (μ : sM) : sMt yX12_perhaps cX12_perhaps 2 (some .boolean) 3 [vr 13 0, vi a1] μ (oI (X12_perhaps a1 μ)) := by
  refine sMt_of (own := 12) (bl := true) (by decide +kernel) rfl (Nat.le_of_ble_eq_true rfl) (fun r ρ h => ?_) ?_
  · obtain ⟨q, -, hq⟩ := Option.map_eq_some_iff.mp h
    cases hq
    exact Or.inr ⟨rfl, rfl⟩
  · unfold X12_perhaps
    show sOk 12 cX12_perhaps 2 3 true 0 [(0, vr 13 0), (1, vi a1)] [] μ _
    refine sBk (lo' := [(0, vr 13 0), (1, vi a1)]) (st' := [vi (rI μ 13 0 12)]) (μ' := μ) (pc' := 4) [(.aload_n 0, 0, 0, 0, 0), (.getfield 218, 12, 12, 0, 0)] (by decide +kernel) rfl rfl ?_
    refine sIf_gt oI (off := 7) (tgt := 11) (by decide +kernel) (by decide) (fun _ => ?_) (fun _ => ?_)
    · refine sBk (lo' := [(0, vr 13 0), (1, vi a1)]) (st' := [vi 0]) (μ' := μ) (pc' := 12) [(.iconst 0, 0, 0, 0, 0)] (by decide +kernel) rfl rfl ?_
      exact sRi (by decide +kernel) (fun _ => Or.inl rfl)
    · refine sBk (lo' := [(0, vr 13 0), (1, vi a1)]) (st' := [vi a1]) (μ' := μ) (pc' := 8) [(.iload_n 1, 0, 0, 0, 0)] (by decide +kernel) rfl rfl ?_
      refine sIf_ne oI (off := 5) (tgt := 13) (by decide +kernel) (by decide) (fun _ => ?_) (fun _ => ?_)
      · refine sBk (lo' := [(0, vr 13 0), (1, vi a1)]) (st' := [vr 13 0]) (μ' := μ) (pc' := 14) [(.aload_n 0, 0, 0, 0, 0)] (by decide +kernel) rfl rfl ?_
        refine sCvV oI rfl (ci := 12) (q := (13, 0)) (avs := []) (rest := []) (tX12_advance μ) (by decide) (by decide +kernel) lk_12_228 yv_X12_advance rfl (by decide) rfl rfl rfl (Nat.le_of_ble_eq_true rfl) (fun μ2 => ?_)
        refine sBk (lo' := [(0, vr 13 0), (1, vi a1)]) (st' := [vi 1]) (μ' := μ2) (pc' := 18) [(.iconst 1, 0, 0, 1, 0)] (by decide +kernel) rfl rfl ?_
        exact sRi (by decide +kernel) (fun _ => Or.inr rfl)
      · refine sBk (lo' := [(0, vr 13 0), (1, vi a1)]) (st' := [vi 0]) (μ' := μ) (pc' := 12) [(.iconst 0, 0, 0, 0, 0)] (by decide +kernel) rfl rfl ?_
        exact sRi (by decide +kernel) (fun _ => Or.inl rfl)
/-! ClockRiverModel.readReach -/
def X12_readReach_J52 (v1 : Int32) (v2 : Int32) (v3 : Int32) (s0 : Int32) (μ : sM) : Option sM :=
  if (rI μ 13 0 12) ≤ 0 then
    if inb (1408 + v1) 1740 = true then
      if inb (1414 + v1) 1740 = true then
        if inb (1420 + v1) 1740 = true then
          some (wI (wI (wI (wI μ 61 0 (ix (1408 + v1)) v2) 61 0 (ix (1414 + v1)) v3) 61 0 (ix (1420 + v1)) s0) 61 0 1392 ((rI (wI (wI (wI μ 61 0 (ix (1408 + v1)) v2) 61 0 (ix (1414 + v1)) v3) 61 0 (ix (1420 + v1)) s0) 61 0 1392) + 1))
        else none
      else none
    else none
  else
    some μ
theorem X12_readReach_J52_ok (v1 : Int32) (v2 : Int32) (v3 : Int32) (s0 : Int32) (μ : sM) : sOk 12 cX12_readReach 5 7 false 52 [(0, vr 13 0), (1, vi v1), (2, vi v2), (3, vi v3)] [vi s0] μ (oV (X12_readReach_J52 v1 v2 v3 s0 μ)) := by
  unfold X12_readReach_J52
  refine sBk (lo' := [(4, vi s0), (0, vr 13 0), (1, vi v1), (2, vi v2), (3, vi v3)]) (st' := [vi (rI μ 13 0 12)]) (μ' := μ) (pc' := 58) [(.istore 4, 0, 0, 0, 0), (.aload_n 0, 0, 0, 0, 0), (.getfield 218, 12, 12, 0, 0)] (by decide +kernel) rfl rfl ?_
  refine sIf_le oV (off := 4) (tgt := 62) (by decide +kernel) (by decide) (fun _ => ?_) (fun _ => ?_)
  · refine sBk (lo' := [(4, vi s0), (0, vr 13 0), (1, vi v1), (2, vi v2), (3, vi v3)]) (st' := [vi v2, vi (1408 + v1), vr 61 0]) (μ' := μ) (pc' := 72) [(.aload_n 0, 0, 0, 0, 0), (.getfield 35, 12, 20, 0, 0), (.sipush 1408, 0, 0, 1408, 0), (.iload_n 1, 0, 0, 0, 0), (.iadd, 0, 0, 0, 0), (.iload_n 2, 0, 0, 0, 0)] (by decide +kernel) rfl rfl ?_
    refine sS_ias oV rfl (n := 1740) (j := (ix (1408 + v1))) (by decide +kernel) rfl rfl rfl (fun _ => ?_)
    refine sBk (lo' := [(4, vi s0), (0, vr 13 0), (1, vi v1), (2, vi v2), (3, vi v3)]) (st' := [vi v3, vi (1414 + v1), vr 61 0]) (μ' := wI μ 61 0 (ix (1408 + v1)) v2) (pc' := 83) [(.aload_n 0, 0, 0, 0, 0), (.getfield 35, 12, 20, 0, 0), (.sipush 1414, 0, 0, 1414, 0), (.iload_n 1, 0, 0, 0, 0), (.iadd, 0, 0, 0, 0), (.iload_n 3, 0, 0, 0, 0)] (by decide +kernel) rfl rfl ?_
    refine sS_ias oV rfl (n := 1740) (j := (ix (1414 + v1))) (by decide +kernel) rfl rfl rfl (fun _ => ?_)
    refine sBk (lo' := [(4, vi s0), (0, vr 13 0), (1, vi v1), (2, vi v2), (3, vi v3)]) (st' := [vi s0, vi (1420 + v1), vr 61 0]) (μ' := wI (wI μ 61 0 (ix (1408 + v1)) v2) 61 0 (ix (1414 + v1)) v3) (pc' := 95) [(.aload_n 0, 0, 0, 0, 0), (.getfield 35, 12, 20, 0, 0), (.sipush 1420, 0, 0, 1420, 0), (.iload_n 1, 0, 0, 0, 0), (.iadd, 0, 0, 0, 0), (.iload 4, 0, 0, 0, 0)] (by decide +kernel) rfl rfl ?_
    refine sS_ias oV rfl (n := 1740) (j := (ix (1420 + v1))) (by decide +kernel) rfl rfl rfl (fun _ => ?_)
    refine sBk (lo' := [(4, vi s0), (0, vr 13 0), (1, vi v1), (2, vi v2), (3, vi v3)]) (st' := [vi 1392, vr 61 0, vi 1392, vr 61 0]) (μ' := wI (wI (wI μ 61 0 (ix (1408 + v1)) v2) 61 0 (ix (1414 + v1)) v3) 61 0 (ix (1420 + v1)) s0) (pc' := 104) [(.aload_n 0, 0, 0, 0, 0), (.getfield 35, 12, 20, 0, 0), (.sipush 1392, 0, 0, 1392, 0), (.dup2, 0, 0, 0, 0)] (by decide +kernel) rfl rfl ?_
    refine sC_ial (n := 1740) (j := 1392) (by decide +kernel) (by decide +kernel) rfl rfl (by decide +kernel) ?_
    refine sBk (lo' := [(4, vi s0), (0, vr 13 0), (1, vi v1), (2, vi v2), (3, vi v3)]) (st' := [vi ((rI (wI (wI (wI μ 61 0 (ix (1408 + v1)) v2) 61 0 (ix (1414 + v1)) v3) 61 0 (ix (1420 + v1)) s0) 61 0 1392) + 1), vi 1392, vr 61 0]) (μ' := wI (wI (wI μ 61 0 (ix (1408 + v1)) v2) 61 0 (ix (1414 + v1)) v3) 61 0 (ix (1420 + v1)) s0) (pc' := 107) [(.iconst 1, 0, 0, 1, 0), (.iadd, 0, 0, 0, 0)] (by decide +kernel) rfl rfl ?_
    refine sC_ias (n := 1740) (j := 1392) (by decide +kernel) (by decide +kernel) rfl rfl (by decide +kernel) ?_
    exact sRv (by decide +kernel)
  · exact sRv (by decide +kernel)
def X12_readReach (μ : sM) : Option sM :=
  bI (X12_readNew 0 μ) fun x1 μ2 =>
    bI (X12_isBank μ2) fun x3 μ4 =>
      bI (X12_behindWord x3 0 999 μ4) fun x5 μ6 =>
        bI (X12_isGate μ6) fun x7 μ8 =>
          bI (X12_behindWord x7 0 99 μ8) fun x9 μ10 =>
            bI (X12_isHolds μ10) fun x11 μ12 =>
              bI (X12_perhaps x11 μ12) fun x13 μ14 =>
                if x13 = 0 then
                  X12_readReach_J52 x1 x5 x9 0 μ14
                else
                  bI (X12_count 0 x5 μ14) fun x15 μ16 =>
                    X12_readReach_J52 x1 x5 x9 x15 μ16
theorem tX12_readReach (μ : sM) : sMt yX12_readReach cX12_readReach 5 none 7 [vr 13 0] μ (oV (X12_readReach μ)) := by
  refine sMt_of (own := 12) (bl := false) (by decide +kernel) rfl (Nat.le_of_ble_eq_true rfl) (fun r ρ h => ?_) ?_
  · obtain ⟨q, -, hq⟩ := Option.map_eq_some_iff.mp h
    cases hq
    exact rfl
  · unfold X12_readReach
    show sOk 12 cX12_readReach 5 7 false 0 [(0, vr 13 0)] [] μ _
    refine sBk (lo' := [(0, vr 13 0)]) (st' := [vi 0, vr 13 0]) (μ' := μ) (pc' := 2) [(.aload_n 0, 0, 0, 0, 0), (.iconst 0, 0, 0, 0, 0)] (by decide +kernel) rfl rfl ?_
    refine sCvI oV rfl (ci := 12) (q := (13, 0)) (avs := [vi 0]) (rest := []) (tX12_readNew 0 μ) (by decide) (by decide +kernel) lk_12_266 yv_X12_readNew rfl (by decide) rfl rfl rfl (Nat.le_of_ble_eq_true rfl) (fun x1 μ2 => ?_)
    refine sBk (lo' := [(1, vi x1), (0, vr 13 0)]) (st' := [vr 13 0, vr 13 0]) (μ' := μ2) (pc' := 8) [(.istore_n 1, 0, 0, 0, 0), (.aload_n 0, 0, 0, 0, 0), (.aload_n 0, 0, 0, 0, 0)] (by decide +kernel) rfl rfl ?_
    refine sCvI oV rfl (ci := 12) (q := (13, 0)) (avs := []) (rest := [vr 13 0]) (tX12_isBank μ2) (by decide) (by decide +kernel) lk_12_178 yv_X12_isBank rfl (by decide) rfl rfl rfl (Nat.le_of_ble_eq_true rfl) (fun x3 μ4 => ?_)
    refine sBk (lo' := [(1, vi x1), (0, vr 13 0)]) (st' := [vi 999, vi 0, vi x3, vr 13 0]) (μ' := μ4) (pc' := 15) [(.iconst 0, 0, 0, 0, 0), (.sipush 999, 0, 0, 999, 0)] (by decide +kernel) rfl rfl ?_
    refine sCvI oV rfl (ci := 12) (q := (13, 0)) (avs := [vi x3, vi 0, vi 999]) (rest := []) (tX12_behindWord x3 0 999 μ4) (by decide) (by decide +kernel) lk_12_269 yv_X12_behindWord rfl (by decide) rfl rfl rfl (Nat.le_of_ble_eq_true rfl) (fun x5 μ6 => ?_)
    refine sBk (lo' := [(2, vi x5), (1, vi x1), (0, vr 13 0)]) (st' := [vr 13 0, vr 13 0]) (μ' := μ6) (pc' := 21) [(.istore_n 2, 0, 0, 0, 0), (.aload_n 0, 0, 0, 0, 0), (.aload_n 0, 0, 0, 0, 0)] (by decide +kernel) rfl rfl ?_
    refine sCvI oV rfl (ci := 12) (q := (13, 0)) (avs := []) (rest := [vr 13 0]) (tX12_isGate μ6) (by decide) (by decide +kernel) lk_12_160 yv_X12_isGate rfl (by decide) rfl rfl rfl (Nat.le_of_ble_eq_true rfl) (fun x7 μ8 => ?_)
    refine sBk (lo' := [(2, vi x5), (1, vi x1), (0, vr 13 0)]) (st' := [vi 99, vi 0, vi x7, vr 13 0]) (μ' := μ8) (pc' := 27) [(.iconst 0, 0, 0, 0, 0), (.bipush 99, 0, 0, 99, 0)] (by decide +kernel) rfl rfl ?_
    refine sCvI oV rfl (ci := 12) (q := (13, 0)) (avs := [vi x7, vi 0, vi 99]) (rest := []) (tX12_behindWord x7 0 99 μ8) (by decide) (by decide +kernel) lk_12_269 yv_X12_behindWord rfl (by decide) rfl rfl rfl (Nat.le_of_ble_eq_true rfl) (fun x9 μ10 => ?_)
    refine sBk (lo' := [(3, vi x9), (2, vi x5), (1, vi x1), (0, vr 13 0)]) (st' := [vr 13 0, vr 13 0]) (μ' := μ10) (pc' := 33) [(.istore_n 3, 0, 0, 0, 0), (.aload_n 0, 0, 0, 0, 0), (.aload_n 0, 0, 0, 0, 0)] (by decide +kernel) rfl rfl ?_
    refine sCvI oV rfl (ci := 12) (q := (13, 0)) (avs := []) (rest := [vr 13 0]) (tX12_isHolds μ10) (by decide) (by decide +kernel) lk_12_181 yv_X12_isHolds rfl (by decide) rfl rfl rfl (Nat.le_of_ble_eq_true rfl) (fun x11 μ12 => ?_)
    refine sCvI oV rfl (ci := 12) (q := (13, 0)) (avs := [vi x11]) (rest := []) (tX12_perhaps x11 μ12) (by decide) (by decide +kernel) lk_12_273 yv_X12_perhaps rfl (by decide) rfl rfl rfl (Nat.le_of_ble_eq_true rfl) (fun x13 μ14 => ?_)
    refine sIf_eq oV (off := 12) (tgt := 51) (by decide +kernel) (by decide) (fun _ => ?_) (fun _ => ?_)
    · refine sBk (lo' := [(3, vi x9), (2, vi x5), (1, vi x1), (0, vr 13 0)]) (st' := [vi 0]) (μ' := μ14) (pc' := 52) [(.iconst 0, 0, 0, 0, 0)] (by decide +kernel) rfl rfl ?_
      refine sWk (lo' := [(0, vr 13 0), (1, vi x1), (2, vi x5), (3, vi x9)]) [3, 2, 1, 0] rfl ?_
      exact X12_readReach_J52_ok x1 x5 x9 0 μ14
    · refine sBk (lo' := [(3, vi x9), (2, vi x5), (1, vi x1), (0, vr 13 0)]) (st' := [vi x5, vi 0, vr 13 0]) (μ' := μ14) (pc' := 45) [(.aload_n 0, 0, 0, 0, 0), (.iconst 0, 0, 0, 0, 0), (.iload_n 2, 0, 0, 0, 0)] (by decide +kernel) rfl rfl ?_
      refine sCvI oV rfl (ci := 12) (q := (13, 0)) (avs := [vi 0, vi x5]) (rest := []) (tX12_count 0 x5 μ14) (by decide) (by decide +kernel) lk_12_238 yv_X12_count rfl (by decide) rfl rfl rfl (Nat.le_of_ble_eq_true rfl) (fun x15 μ16 => ?_)
      refine sGt (off := 4) (tgt := 52) (by decide +kernel) (by decide) ?_
      refine sWk (lo' := [(0, vr 13 0), (1, vi x1), (2, vi x5), (3, vi x9)]) [3, 2, 1, 0] rfl ?_
      exact X12_readReach_J52_ok x1 x5 x9 x15 μ16
/-! ClockRiverModel.readTold -/
def X12_readTold_J47 (v3 : Int32) (μ : sM) : Option (Int32 × sM) :=
  bV (X12_must 1 μ) fun μ2 =>
    some ((imx 0 v3), μ2)
theorem X12_readTold_J47_ok (v3 : Int32) (μ : sM) : sOk 12 cX12_readTold 4 6 false 47 [(0, vr 13 0), (3, vi v3)] [] μ (oI (X12_readTold_J47 v3 μ)) := by
  unfold X12_readTold_J47
  refine sBk (lo' := [(0, vr 13 0), (3, vi v3)]) (st' := [vi 1, vr 13 0]) (μ' := μ) (pc' := 49) [(.aload_n 0, 0, 0, 0, 0), (.iconst 1, 0, 0, 1, 0)] (by decide +kernel) rfl rfl ?_
  refine sCvV oI rfl (ci := 12) (q := (13, 0)) (avs := [vi 1]) (rest := []) (tX12_must 1 μ) (by decide) (by decide +kernel) lk_12_234 yv_X12_must rfl (by decide) rfl rfl rfl (Nat.le_of_ble_eq_true rfl) (fun μ2 => ?_)
  refine sBk (lo' := [(0, vr 13 0), (3, vi v3)]) (st' := [vi v3, vi 0]) (μ' := μ2) (pc' := 54) [(.iconst 0, 0, 0, 0, 0), (.iload_n 3, 0, 0, 0, 0)] (by decide +kernel) rfl rfl ?_
  refine sMax (idx := 256) (p1 := 1835) (by decide +kernel) (by decide) (Nat.le_of_ble_eq_true rfl) ?_
  exact sRi (by decide +kernel) (fun h => by cases h)
def X12_readTold_J18 (v1 : Int32) (v2 : Int32) (μ : sM) : Option (Int32 × sM) :=
  if (rI μ 13 0 12) ≤ 0 then
    bI (X12_named v1 v2 μ) fun x1 μ2 =>
      if 0 ≤ x1 then
        X12_readTold_J47 x1 μ2
      else
        bV (X12_fail 3 (rI μ2 13 0 15) μ2) fun μ4 =>
          X12_readTold_J47 x1 μ4
  else
    some (0, μ)
theorem X12_readTold_J18_ok (v1 : Int32) (v2 : Int32) (μ : sM) : sOk 12 cX12_readTold 4 6 false 18 [(0, vr 13 0), (1, vi v1), (2, vi v2)] [] μ (oI (X12_readTold_J18 v1 v2 μ)) := by
  unfold X12_readTold_J18
  refine sBk (lo' := [(0, vr 13 0), (1, vi v1), (2, vi v2)]) (st' := [vi (rI μ 13 0 12)]) (μ' := μ) (pc' := 22) [(.aload_n 0, 0, 0, 0, 0), (.getfield 218, 12, 12, 0, 0)] (by decide +kernel) rfl rfl ?_
  refine sIf_le oI (off := 5) (tgt := 27) (by decide +kernel) (by decide) (fun _ => ?_) (fun _ => ?_)
  · refine sBk (lo' := [(0, vr 13 0), (1, vi v1), (2, vi v2)]) (st' := [vi v2, vi v1, vr 13 0]) (μ' := μ) (pc' := 30) [(.aload_n 0, 0, 0, 0, 0), (.iload_n 1, 0, 0, 0, 0), (.iload_n 2, 0, 0, 0, 0)] (by decide +kernel) rfl rfl ?_
    refine sCvI oI rfl (ci := 12) (q := (13, 0)) (avs := [vi v1, vi v2]) (rest := []) (tX12_named v1 v2 μ) (by decide) (by decide +kernel) lk_12_247 yv_X12_named rfl (by decide) rfl rfl rfl (Nat.le_of_ble_eq_true rfl) (fun x1 μ2 => ?_)
    refine sBk (lo' := [(3, vi x1), (0, vr 13 0), (1, vi v1), (2, vi v2)]) (st' := [vi x1]) (μ' := μ2) (pc' := 35) [(.istore_n 3, 0, 0, 0, 0), (.iload_n 3, 0, 0, 0, 0)] (by decide +kernel) rfl rfl ?_
    refine sIf_ge oI (off := 12) (tgt := 47) (by decide +kernel) (by decide) (fun _ => ?_) (fun _ => ?_)
    · refine sWk (lo' := [(0, vr 13 0), (3, vi x1)]) [1, 0] rfl ?_
      exact X12_readTold_J47_ok x1 μ2
    · refine sBk (lo' := [(3, vi x1), (0, vr 13 0), (1, vi v1), (2, vi v2)]) (st' := [vi (rI μ2 13 0 15), vi 3, vr 13 0]) (μ' := μ2) (pc' := 44) [(.aload_n 0, 0, 0, 0, 0), (.iconst 3, 0, 0, 3, 0), (.aload_n 0, 0, 0, 0, 0), (.getfield 117, 12, 15, 0, 0)] (by decide +kernel) rfl rfl ?_
      refine sCvV oI rfl (ci := 12) (q := (13, 0)) (avs := [vi 3, vi (rI μ2 13 0 15)]) (rest := []) (tX12_fail 3 (rI μ2 13 0 15) μ2) (by decide) (by decide +kernel) lk_12_224 yv_X12_fail rfl (by decide) rfl rfl rfl (Nat.le_of_ble_eq_true rfl) (fun μ4 => ?_)
      refine sWk (lo' := [(0, vr 13 0), (3, vi x1)]) [1, 0] rfl ?_
      exact X12_readTold_J47_ok x1 μ4
  · refine sBk (lo' := [(0, vr 13 0), (1, vi v1), (2, vi v2)]) (st' := [vi 0]) (μ' := μ) (pc' := 26) [(.iconst 0, 0, 0, 0, 0)] (by decide +kernel) rfl rfl ?_
    exact sRi (by decide +kernel) (fun h => by cases h)
def X12_readTold (a1 : Int32) (a2 : Int32) (μ : sM) : Option (Int32 × sM) :=
  if (rI μ 13 0 12) = 0 then
    bI (X12_isName μ) fun x1 μ2 =>
      if x1 = 0 then
        bV (X12_amiss μ2) fun μ4 =>
          X12_readTold_J18 a1 a2 μ4
      else
        X12_readTold_J18 a1 a2 μ2
  else
    X12_readTold_J18 a1 a2 μ
theorem tX12_readTold (a1 : Int32) (a2 : Int32) (μ : sM) : sMt yX12_readTold cX12_readTold 4 (some .int) 6 [vr 13 0, vi a1, vi a2] μ (oI (X12_readTold a1 a2 μ)) := by
  refine sMt_of (own := 12) (bl := false) (by decide +kernel) rfl (Nat.le_of_ble_eq_true rfl) (fun r ρ h => ?_) ?_
  · obtain ⟨q, -, hq⟩ := Option.map_eq_some_iff.mp h
    cases hq
    exact Or.inl rfl
  · unfold X12_readTold
    show sOk 12 cX12_readTold 4 6 false 0 [(0, vr 13 0), (1, vi a1), (2, vi a2)] [] μ _
    refine sBk (lo' := [(0, vr 13 0), (1, vi a1), (2, vi a2)]) (st' := [vi (rI μ 13 0 12)]) (μ' := μ) (pc' := 4) [(.aload_n 0, 0, 0, 0, 0), (.getfield 218, 12, 12, 0, 0)] (by decide +kernel) rfl rfl ?_
    refine sIf_ne oI (off := 14) (tgt := 18) (by decide +kernel) (by decide) (fun _ => ?_) (fun _ => ?_)
    · exact X12_readTold_J18_ok a1 a2 μ
    · refine sBk (lo' := [(0, vr 13 0), (1, vi a1), (2, vi a2)]) (st' := [vr 13 0]) (μ' := μ) (pc' := 8) [(.aload_n 0, 0, 0, 0, 0)] (by decide +kernel) rfl rfl ?_
      refine sCvI oI rfl (ci := 12) (q := (13, 0)) (avs := []) (rest := []) (tX12_isName μ) (by decide) (by decide +kernel) lk_12_250 yv_X12_isName rfl (by decide) rfl rfl rfl (Nat.le_of_ble_eq_true rfl) (fun x1 μ2 => ?_)
      refine sIf_ne oI (off := 7) (tgt := 18) (by decide +kernel) (by decide) (fun _ => ?_) (fun _ => ?_)
      · exact X12_readTold_J18_ok a1 a2 μ2
      · refine sBk (lo' := [(0, vr 13 0), (1, vi a1), (2, vi a2)]) (st' := [vr 13 0]) (μ' := μ2) (pc' := 15) [(.aload_n 0, 0, 0, 0, 0)] (by decide +kernel) rfl rfl ?_
        refine sCvV oI rfl (ci := 12) (q := (13, 0)) (avs := []) (rest := []) (tX12_amiss μ2) (by decide) (by decide +kernel) lk_12_231 yv_X12_amiss rfl (by decide) rfl rfl rfl (Nat.le_of_ble_eq_true rfl) (fun μ4 => ?_)
        exact X12_readTold_J18_ok a1 a2 μ4
/-! ClockRiverModel.readMill -/
def X12_readMill (μ : sM) : Option sM :=
  bI (X12_readNew 1 μ) fun x1 μ2 =>
    bI (X12_isAt μ2) fun x3 μ4 =>
      bV (X12_must x3 μ4) fun μ6 =>
        bI (X12_readTold 4 0 μ6) fun x7 μ8 =>
          bI (X12_isNeeds μ8) fun x9 μ10 =>
            bI (X12_behindWord x9 1 99 μ10) fun x11 μ12 =>
              if (rI μ12 13 0 12) ≤ 0 then
                if inb (1426 + x1) 1740 = true then
                  if inb (1432 + x1) 1740 = true then
                    some (wI (wI (wI μ12 61 0 (ix (1426 + x1)) x7) 61 0 (ix (1432 + x1)) x11) 61 0 1393 ((rI (wI (wI μ12 61 0 (ix (1426 + x1)) x7) 61 0 (ix (1432 + x1)) x11) 61 0 1393) + 1))
                  else none
                else none
              else
                some μ12
theorem tX12_readMill (μ : sM) : sMt yX12_readMill cX12_readMill 4 none 7 [vr 13 0] μ (oV (X12_readMill μ)) := by
  refine sMt_of (own := 12) (bl := false) (by decide +kernel) rfl (Nat.le_of_ble_eq_true rfl) (fun r ρ h => ?_) ?_
  · obtain ⟨q, -, hq⟩ := Option.map_eq_some_iff.mp h
    cases hq
    exact rfl
  · unfold X12_readMill
    show sOk 12 cX12_readMill 4 7 false 0 [(0, vr 13 0)] [] μ _
    refine sBk (lo' := [(0, vr 13 0)]) (st' := [vi 1, vr 13 0]) (μ' := μ) (pc' := 2) [(.aload_n 0, 0, 0, 0, 0), (.iconst 1, 0, 0, 1, 0)] (by decide +kernel) rfl rfl ?_
    refine sCvI oV rfl (ci := 12) (q := (13, 0)) (avs := [vi 1]) (rest := []) (tX12_readNew 1 μ) (by decide) (by decide +kernel) lk_12_266 yv_X12_readNew rfl (by decide) rfl rfl rfl (Nat.le_of_ble_eq_true rfl) (fun x1 μ2 => ?_)
    refine sBk (lo' := [(1, vi x1), (0, vr 13 0)]) (st' := [vr 13 0, vr 13 0]) (μ' := μ2) (pc' := 8) [(.istore_n 1, 0, 0, 0, 0), (.aload_n 0, 0, 0, 0, 0), (.aload_n 0, 0, 0, 0, 0)] (by decide +kernel) rfl rfl ?_
    refine sCvI oV rfl (ci := 12) (q := (13, 0)) (avs := []) (rest := [vr 13 0]) (tX12_isAt μ2) (by decide) (by decide +kernel) lk_12_187 yv_X12_isAt rfl (by decide) rfl rfl rfl (Nat.le_of_ble_eq_true rfl) (fun x3 μ4 => ?_)
    refine sCvV oV rfl (ci := 12) (q := (13, 0)) (avs := [vi x3]) (rest := []) (tX12_must x3 μ4) (by decide) (by decide +kernel) lk_12_234 yv_X12_must rfl (by decide) rfl rfl rfl (Nat.le_of_ble_eq_true rfl) (fun μ6 => ?_)
    refine sBk (lo' := [(1, vi x1), (0, vr 13 0)]) (st' := [vi 0, vi 4, vr 13 0]) (μ' := μ6) (pc' := 17) [(.aload_n 0, 0, 0, 0, 0), (.iconst 4, 0, 0, 4, 0), (.iconst 0, 0, 0, 0, 0)] (by decide +kernel) rfl rfl ?_
    refine sCvI oV rfl (ci := 12) (q := (13, 0)) (avs := [vi 4, vi 0]) (rest := []) (tX12_readTold 4 0 μ6) (by decide) (by decide +kernel) lk_12_277 yv_X12_readTold rfl (by decide) rfl rfl rfl (Nat.le_of_ble_eq_true rfl) (fun x7 μ8 => ?_)
    refine sBk (lo' := [(2, vi x7), (1, vi x1), (0, vr 13 0)]) (st' := [vr 13 0, vr 13 0]) (μ' := μ8) (pc' := 23) [(.istore_n 2, 0, 0, 0, 0), (.aload_n 0, 0, 0, 0, 0), (.aload_n 0, 0, 0, 0, 0)] (by decide +kernel) rfl rfl ?_
    refine sCvI oV rfl (ci := 12) (q := (13, 0)) (avs := []) (rest := [vr 13 0]) (tX12_isNeeds μ8) (by decide) (by decide +kernel) lk_12_190 yv_X12_isNeeds rfl (by decide) rfl rfl rfl (Nat.le_of_ble_eq_true rfl) (fun x9 μ10 => ?_)
    refine sBk (lo' := [(2, vi x7), (1, vi x1), (0, vr 13 0)]) (st' := [vi 99, vi 1, vi x9, vr 13 0]) (μ' := μ10) (pc' := 29) [(.iconst 1, 0, 0, 1, 0), (.bipush 99, 0, 0, 99, 0)] (by decide +kernel) rfl rfl ?_
    refine sCvI oV rfl (ci := 12) (q := (13, 0)) (avs := [vi x9, vi 1, vi 99]) (rest := []) (tX12_behindWord x9 1 99 μ10) (by decide) (by decide +kernel) lk_12_269 yv_X12_behindWord rfl (by decide) rfl rfl rfl (Nat.le_of_ble_eq_true rfl) (fun x11 μ12 => ?_)
    refine sBk (lo' := [(3, vi x11), (2, vi x7), (1, vi x1), (0, vr 13 0)]) (st' := [vi (rI μ12 13 0 12)]) (μ' := μ12) (pc' := 37) [(.istore_n 3, 0, 0, 0, 0), (.aload_n 0, 0, 0, 0, 0), (.getfield 218, 12, 12, 0, 0)] (by decide +kernel) rfl rfl ?_
    refine sIf_le oV (off := 4) (tgt := 41) (by decide +kernel) (by decide) (fun _ => ?_) (fun _ => ?_)
    · refine sBk (lo' := [(3, vi x11), (2, vi x7), (1, vi x1), (0, vr 13 0)]) (st' := [vi x7, vi (1426 + x1), vr 61 0]) (μ' := μ12) (pc' := 51) [(.aload_n 0, 0, 0, 0, 0), (.getfield 35, 12, 20, 0, 0), (.sipush 1426, 0, 0, 1426, 0), (.iload_n 1, 0, 0, 0, 0), (.iadd, 0, 0, 0, 0), (.iload_n 2, 0, 0, 0, 0)] (by decide +kernel) rfl rfl ?_
      refine sS_ias oV rfl (n := 1740) (j := (ix (1426 + x1))) (by decide +kernel) rfl rfl rfl (fun _ => ?_)
      refine sBk (lo' := [(3, vi x11), (2, vi x7), (1, vi x1), (0, vr 13 0)]) (st' := [vi x11, vi (1432 + x1), vr 61 0]) (μ' := wI μ12 61 0 (ix (1426 + x1)) x7) (pc' := 62) [(.aload_n 0, 0, 0, 0, 0), (.getfield 35, 12, 20, 0, 0), (.sipush 1432, 0, 0, 1432, 0), (.iload_n 1, 0, 0, 0, 0), (.iadd, 0, 0, 0, 0), (.iload_n 3, 0, 0, 0, 0)] (by decide +kernel) rfl rfl ?_
      refine sS_ias oV rfl (n := 1740) (j := (ix (1432 + x1))) (by decide +kernel) rfl rfl rfl (fun _ => ?_)
      refine sBk (lo' := [(3, vi x11), (2, vi x7), (1, vi x1), (0, vr 13 0)]) (st' := [vi 1393, vr 61 0, vi 1393, vr 61 0]) (μ' := wI (wI μ12 61 0 (ix (1426 + x1)) x7) 61 0 (ix (1432 + x1)) x11) (pc' := 71) [(.aload_n 0, 0, 0, 0, 0), (.getfield 35, 12, 20, 0, 0), (.sipush 1393, 0, 0, 1393, 0), (.dup2, 0, 0, 0, 0)] (by decide +kernel) rfl rfl ?_
      refine sC_ial (n := 1740) (j := 1393) (by decide +kernel) (by decide +kernel) rfl rfl (by decide +kernel) ?_
      refine sBk (lo' := [(3, vi x11), (2, vi x7), (1, vi x1), (0, vr 13 0)]) (st' := [vi ((rI (wI (wI μ12 61 0 (ix (1426 + x1)) x7) 61 0 (ix (1432 + x1)) x11) 61 0 1393) + 1), vi 1393, vr 61 0]) (μ' := wI (wI μ12 61 0 (ix (1426 + x1)) x7) 61 0 (ix (1432 + x1)) x11) (pc' := 74) [(.iconst 1, 0, 0, 1, 0), (.iadd, 0, 0, 0, 0)] (by decide +kernel) rfl rfl ?_
      refine sC_ias (n := 1740) (j := 1393) (by decide +kernel) (by decide +kernel) rfl rfl (by decide +kernel) ?_
      exact sRv (by decide +kernel)
    · exact sRv (by decide +kernel)
/-! ClockRiverModel.readWinder -/
def X12_readWinder_J40 (v1 : Int32) (v2 : Int32) (s0 : Int32) (μ : sM) : Option sM :=
  if (rI μ 13 0 12) ≤ 0 then
    if inb (1444 + v1) 1740 = true then
      if inb (1450 + v1) 1740 = true then
        some (wI (wI (wI μ 61 0 (ix (1444 + v1)) v2) 61 0 (ix (1450 + v1)) s0) 61 0 1394 ((rI (wI (wI μ 61 0 (ix (1444 + v1)) v2) 61 0 (ix (1450 + v1)) s0) 61 0 1394) + 1))
      else none
    else none
  else
    some μ
theorem X12_readWinder_J40_ok (v1 : Int32) (v2 : Int32) (s0 : Int32) (μ : sM) : sOk 12 cX12_readWinder 4 7 false 40 [(0, vr 13 0), (1, vi v1), (2, vi v2)] [vi s0] μ (oV (X12_readWinder_J40 v1 v2 s0 μ)) := by
  unfold X12_readWinder_J40
  refine sBk (lo' := [(3, vi s0), (0, vr 13 0), (1, vi v1), (2, vi v2)]) (st' := [vi (rI μ 13 0 12)]) (μ' := μ) (pc' := 45) [(.istore_n 3, 0, 0, 0, 0), (.aload_n 0, 0, 0, 0, 0), (.getfield 218, 12, 12, 0, 0)] (by decide +kernel) rfl rfl ?_
  refine sIf_le oV (off := 4) (tgt := 49) (by decide +kernel) (by decide) (fun _ => ?_) (fun _ => ?_)
  · refine sBk (lo' := [(3, vi s0), (0, vr 13 0), (1, vi v1), (2, vi v2)]) (st' := [vi v2, vi (1444 + v1), vr 61 0]) (μ' := μ) (pc' := 59) [(.aload_n 0, 0, 0, 0, 0), (.getfield 35, 12, 20, 0, 0), (.sipush 1444, 0, 0, 1444, 0), (.iload_n 1, 0, 0, 0, 0), (.iadd, 0, 0, 0, 0), (.iload_n 2, 0, 0, 0, 0)] (by decide +kernel) rfl rfl ?_
    refine sS_ias oV rfl (n := 1740) (j := (ix (1444 + v1))) (by decide +kernel) rfl rfl rfl (fun _ => ?_)
    refine sBk (lo' := [(3, vi s0), (0, vr 13 0), (1, vi v1), (2, vi v2)]) (st' := [vi s0, vi (1450 + v1), vr 61 0]) (μ' := wI μ 61 0 (ix (1444 + v1)) v2) (pc' := 70) [(.aload_n 0, 0, 0, 0, 0), (.getfield 35, 12, 20, 0, 0), (.sipush 1450, 0, 0, 1450, 0), (.iload_n 1, 0, 0, 0, 0), (.iadd, 0, 0, 0, 0), (.iload_n 3, 0, 0, 0, 0)] (by decide +kernel) rfl rfl ?_
    refine sS_ias oV rfl (n := 1740) (j := (ix (1450 + v1))) (by decide +kernel) rfl rfl rfl (fun _ => ?_)
    refine sBk (lo' := [(3, vi s0), (0, vr 13 0), (1, vi v1), (2, vi v2)]) (st' := [vi 1394, vr 61 0, vi 1394, vr 61 0]) (μ' := wI (wI μ 61 0 (ix (1444 + v1)) v2) 61 0 (ix (1450 + v1)) s0) (pc' := 79) [(.aload_n 0, 0, 0, 0, 0), (.getfield 35, 12, 20, 0, 0), (.sipush 1394, 0, 0, 1394, 0), (.dup2, 0, 0, 0, 0)] (by decide +kernel) rfl rfl ?_
    refine sC_ial (n := 1740) (j := 1394) (by decide +kernel) (by decide +kernel) rfl rfl (by decide +kernel) ?_
    refine sBk (lo' := [(3, vi s0), (0, vr 13 0), (1, vi v1), (2, vi v2)]) (st' := [vi ((rI (wI (wI μ 61 0 (ix (1444 + v1)) v2) 61 0 (ix (1450 + v1)) s0) 61 0 1394) + 1), vi 1394, vr 61 0]) (μ' := wI (wI μ 61 0 (ix (1444 + v1)) v2) 61 0 (ix (1450 + v1)) s0) (pc' := 82) [(.iconst 1, 0, 0, 1, 0), (.iadd, 0, 0, 0, 0)] (by decide +kernel) rfl rfl ?_
    refine sC_ias (n := 1740) (j := 1394) (by decide +kernel) (by decide +kernel) rfl rfl (by decide +kernel) ?_
    exact sRv (by decide +kernel)
  · exact sRv (by decide +kernel)
def X12_readWinder (μ : sM) : Option sM :=
  bI (X12_readNew 2 μ) fun x1 μ2 =>
    bI (X12_isStrength μ2) fun x3 μ4 =>
      bI (X12_behindWord x3 1 40 μ4) fun x5 μ6 =>
        bI (X12_isWage μ6) fun x7 μ8 =>
          bI (X12_perhaps x7 μ8) fun x9 μ10 =>
            if x9 = 0 then
              X12_readWinder_J40 x1 x5 1 μ10
            else
              bI (X12_count 0 99 μ10) fun x11 μ12 =>
                X12_readWinder_J40 x1 x5 x11 μ12
theorem tX12_readWinder (μ : sM) : sMt yX12_readWinder cX12_readWinder 4 none 7 [vr 13 0] μ (oV (X12_readWinder μ)) := by
  refine sMt_of (own := 12) (bl := false) (by decide +kernel) rfl (Nat.le_of_ble_eq_true rfl) (fun r ρ h => ?_) ?_
  · obtain ⟨q, -, hq⟩ := Option.map_eq_some_iff.mp h
    cases hq
    exact rfl
  · unfold X12_readWinder
    show sOk 12 cX12_readWinder 4 7 false 0 [(0, vr 13 0)] [] μ _
    refine sBk (lo' := [(0, vr 13 0)]) (st' := [vi 2, vr 13 0]) (μ' := μ) (pc' := 2) [(.aload_n 0, 0, 0, 0, 0), (.iconst 2, 0, 0, 2, 0)] (by decide +kernel) rfl rfl ?_
    refine sCvI oV rfl (ci := 12) (q := (13, 0)) (avs := [vi 2]) (rest := []) (tX12_readNew 2 μ) (by decide) (by decide +kernel) lk_12_266 yv_X12_readNew rfl (by decide) rfl rfl rfl (Nat.le_of_ble_eq_true rfl) (fun x1 μ2 => ?_)
    refine sBk (lo' := [(1, vi x1), (0, vr 13 0)]) (st' := [vr 13 0, vr 13 0]) (μ' := μ2) (pc' := 8) [(.istore_n 1, 0, 0, 0, 0), (.aload_n 0, 0, 0, 0, 0), (.aload_n 0, 0, 0, 0, 0)] (by decide +kernel) rfl rfl ?_
    refine sCvI oV rfl (ci := 12) (q := (13, 0)) (avs := []) (rest := [vr 13 0]) (tX12_isStrength μ2) (by decide) (by decide +kernel) lk_12_196 yv_X12_isStrength rfl (by decide) rfl rfl rfl (Nat.le_of_ble_eq_true rfl) (fun x3 μ4 => ?_)
    refine sBk (lo' := [(1, vi x1), (0, vr 13 0)]) (st' := [vi 40, vi 1, vi x3, vr 13 0]) (μ' := μ4) (pc' := 14) [(.iconst 1, 0, 0, 1, 0), (.bipush 40, 0, 0, 40, 0)] (by decide +kernel) rfl rfl ?_
    refine sCvI oV rfl (ci := 12) (q := (13, 0)) (avs := [vi x3, vi 1, vi 40]) (rest := []) (tX12_behindWord x3 1 40 μ4) (by decide) (by decide +kernel) lk_12_269 yv_X12_behindWord rfl (by decide) rfl rfl rfl (Nat.le_of_ble_eq_true rfl) (fun x5 μ6 => ?_)
    refine sBk (lo' := [(2, vi x5), (1, vi x1), (0, vr 13 0)]) (st' := [vr 13 0, vr 13 0]) (μ' := μ6) (pc' := 20) [(.istore_n 2, 0, 0, 0, 0), (.aload_n 0, 0, 0, 0, 0), (.aload_n 0, 0, 0, 0, 0)] (by decide +kernel) rfl rfl ?_
    refine sCvI oV rfl (ci := 12) (q := (13, 0)) (avs := []) (rest := [vr 13 0]) (tX12_isWage μ6) (by decide) (by decide +kernel) lk_12_199 yv_X12_isWage rfl (by decide) rfl rfl rfl (Nat.le_of_ble_eq_true rfl) (fun x7 μ8 => ?_)
    refine sCvI oV rfl (ci := 12) (q := (13, 0)) (avs := [vi x7]) (rest := []) (tX12_perhaps x7 μ8) (by decide) (by decide +kernel) lk_12_273 yv_X12_perhaps rfl (by decide) rfl rfl rfl (Nat.le_of_ble_eq_true rfl) (fun x9 μ10 => ?_)
    refine sIf_eq oV (off := 13) (tgt := 39) (by decide +kernel) (by decide) (fun _ => ?_) (fun _ => ?_)
    · refine sBk (lo' := [(2, vi x5), (1, vi x1), (0, vr 13 0)]) (st' := [vi 1]) (μ' := μ10) (pc' := 40) [(.iconst 1, 0, 0, 1, 0)] (by decide +kernel) rfl rfl ?_
      refine sWk (lo' := [(0, vr 13 0), (1, vi x1), (2, vi x5)]) [2, 1, 0] rfl ?_
      exact X12_readWinder_J40_ok x1 x5 1 μ10
    · refine sBk (lo' := [(2, vi x5), (1, vi x1), (0, vr 13 0)]) (st' := [vi 99, vi 0, vr 13 0]) (μ' := μ10) (pc' := 33) [(.aload_n 0, 0, 0, 0, 0), (.iconst 0, 0, 0, 0, 0), (.bipush 99, 0, 0, 99, 0)] (by decide +kernel) rfl rfl ?_
      refine sCvI oV rfl (ci := 12) (q := (13, 0)) (avs := [vi 0, vi 99]) (rest := []) (tX12_count 0 99 μ10) (by decide) (by decide +kernel) lk_12_238 yv_X12_count rfl (by decide) rfl rfl rfl (Nat.le_of_ble_eq_true rfl) (fun x11 μ12 => ?_)
      refine sGt (off := 4) (tgt := 40) (by decide +kernel) (by decide) ?_
      refine sWk (lo' := [(0, vr 13 0), (1, vi x1), (2, vi x5)]) [2, 1, 0] rfl ?_
      exact X12_readWinder_J40_ok x1 x5 x11 μ12
/-! ClockRiverModel.readPart -/
def X12_readPart (μ : sM) : Option sM :=
  bI (X12_isTurns μ) fun x1 μ2 =>
    if x1 = 0 then
      bI (X12_isSlack μ2) fun x3 μ4 =>
        if x3 = 0 then
          bI (X12_stepWord μ4) fun x5 μ6 =>
            if x5 = 4 then
              bV (X12_readOnce 2 4 99 μ6) fun μ26 =>
                some μ26
            else
              bI (X12_isOdds μ6) fun x7 μ8 =>
                if x7 = 0 then
                  bI (X12_isReach μ8) fun x9 μ10 =>
                    if x9 = 0 then
                      bI (X12_isMill μ10) fun x11 μ12 =>
                        if x11 = 0 then
                          bI (X12_isWinder μ12) fun x13 μ14 =>
                            if x13 = 0 then
                              bV (X12_amiss μ14) fun μ16 =>
                                some μ16
                            else
                              bV (X12_readWinder μ14) fun μ18 =>
                                some μ18
                        else
                          bV (X12_readMill μ12) fun μ20 =>
                            some μ20
                    else
                      bV (X12_readReach μ10) fun μ22 =>
                        some μ22
                else
                  bV (X12_readOnce 3 5 16 μ8) fun μ24 =>
                    some μ24
        else
          bV (X12_readOnce 1 3 9 μ4) fun μ28 =>
            some μ28
    else
      bV (X12_readOnce 0 9 60 μ2) fun μ30 =>
        some μ30
theorem tX12_readPart (μ : sM) : sMt yX12_readPart cX12_readPart 1 none 8 [vr 13 0] μ (oV (X12_readPart μ)) := by
  refine sMt_of (own := 12) (bl := false) (by decide +kernel) rfl (Nat.le_of_ble_eq_true rfl) (fun r ρ h => ?_) ?_
  · obtain ⟨q, -, hq⟩ := Option.map_eq_some_iff.mp h
    cases hq
    exact rfl
  · unfold X12_readPart
    show sOk 12 cX12_readPart 1 8 false 0 [(0, vr 13 0)] [] μ _
    refine sBk (lo' := [(0, vr 13 0)]) (st' := [vr 13 0]) (μ' := μ) (pc' := 1) [(.aload_n 0, 0, 0, 0, 0)] (by decide +kernel) rfl rfl ?_
    refine sCvI oV rfl (ci := 12) (q := (13, 0)) (avs := []) (rest := []) (tX12_isTurns μ) (by decide) (by decide +kernel) lk_12_166 yv_X12_isTurns rfl (by decide) rfl rfl rfl (Nat.le_of_ble_eq_true rfl) (fun x1 μ2 => ?_)
    refine sIf_eq oV (off := 15) (tgt := 19) (by decide +kernel) (by decide) (fun _ => ?_) (fun _ => ?_)
    · refine sBk (lo' := [(0, vr 13 0)]) (st' := [vr 13 0]) (μ' := μ2) (pc' := 20) [(.aload_n 0, 0, 0, 0, 0)] (by decide +kernel) rfl rfl ?_
      refine sCvI oV rfl (ci := 12) (q := (13, 0)) (avs := []) (rest := []) (tX12_isSlack μ2) (by decide) (by decide +kernel) lk_12_169 yv_X12_isSlack rfl (by decide) rfl rfl rfl (Nat.le_of_ble_eq_true rfl) (fun x3 μ4 => ?_)
      refine sIf_eq oV (off := 14) (tgt := 37) (by decide +kernel) (by decide) (fun _ => ?_) (fun _ => ?_)
      · refine sBk (lo' := [(0, vr 13 0)]) (st' := [vr 13 0]) (μ' := μ4) (pc' := 38) [(.aload_n 0, 0, 0, 0, 0)] (by decide +kernel) rfl rfl ?_
        refine sCvI oV rfl (ci := 12) (q := (13, 0)) (avs := []) (rest := []) (tX12_stepWord μ4) (by decide) (by decide +kernel) lk_12_205 yv_X12_stepWord rfl (by decide) rfl rfl rfl (Nat.le_of_ble_eq_true rfl) (fun x5 μ6 => ?_)
        refine sBk (lo' := [(0, vr 13 0)]) (st' := [vi 4, vi x5]) (μ' := μ6) (pc' := 42) [(.iconst 4, 0, 0, 4, 0)] (by decide +kernel) rfl rfl ?_
        refine sIc_ne oV (off := 14) (tgt := 56) (by decide +kernel) (by decide) (fun _ => ?_) (fun _ => ?_)
        · refine sBk (lo' := [(0, vr 13 0)]) (st' := [vr 13 0]) (μ' := μ6) (pc' := 57) [(.aload_n 0, 0, 0, 0, 0)] (by decide +kernel) rfl rfl ?_
          refine sCvI oV rfl (ci := 12) (q := (13, 0)) (avs := []) (rest := []) (tX12_isOdds μ6) (by decide) (by decide +kernel) lk_12_172 yv_X12_isOdds rfl (by decide) rfl rfl rfl (Nat.le_of_ble_eq_true rfl) (fun x7 μ8 => ?_)
          refine sIf_eq oV (off := 14) (tgt := 74) (by decide +kernel) (by decide) (fun _ => ?_) (fun _ => ?_)
          · refine sBk (lo' := [(0, vr 13 0)]) (st' := [vr 13 0]) (μ' := μ8) (pc' := 75) [(.aload_n 0, 0, 0, 0, 0)] (by decide +kernel) rfl rfl ?_
            refine sCvI oV rfl (ci := 12) (q := (13, 0)) (avs := []) (rest := []) (tX12_isReach μ8) (by decide) (by decide +kernel) lk_12_175 yv_X12_isReach rfl (by decide) rfl rfl rfl (Nat.le_of_ble_eq_true rfl) (fun x9 μ10 => ?_)
            refine sIf_eq oV (off := 10) (tgt := 88) (by decide +kernel) (by decide) (fun _ => ?_) (fun _ => ?_)
            · refine sBk (lo' := [(0, vr 13 0)]) (st' := [vr 13 0]) (μ' := μ10) (pc' := 89) [(.aload_n 0, 0, 0, 0, 0)] (by decide +kernel) rfl rfl ?_
              refine sCvI oV rfl (ci := 12) (q := (13, 0)) (avs := []) (rest := []) (tX12_isMill μ10) (by decide) (by decide +kernel) lk_12_184 yv_X12_isMill rfl (by decide) rfl rfl rfl (Nat.le_of_ble_eq_true rfl) (fun x11 μ12 => ?_)
              refine sIf_eq oV (off := 10) (tgt := 102) (by decide +kernel) (by decide) (fun _ => ?_) (fun _ => ?_)
              · refine sBk (lo' := [(0, vr 13 0)]) (st' := [vr 13 0]) (μ' := μ12) (pc' := 103) [(.aload_n 0, 0, 0, 0, 0)] (by decide +kernel) rfl rfl ?_
                refine sCvI oV rfl (ci := 12) (q := (13, 0)) (avs := []) (rest := []) (tX12_isWinder μ12) (by decide) (by decide +kernel) lk_12_193 yv_X12_isWinder rfl (by decide) rfl rfl rfl (Nat.le_of_ble_eq_true rfl) (fun x13 μ14 => ?_)
                refine sIf_eq oV (off := 10) (tgt := 116) (by decide +kernel) (by decide) (fun _ => ?_) (fun _ => ?_)
                · refine sBk (lo' := [(0, vr 13 0)]) (st' := [vr 13 0]) (μ' := μ14) (pc' := 117) [(.aload_n 0, 0, 0, 0, 0)] (by decide +kernel) rfl rfl ?_
                  refine sCvV oV rfl (ci := 12) (q := (13, 0)) (avs := []) (rest := []) (tX12_amiss μ14) (by decide) (by decide +kernel) lk_12_231 yv_X12_amiss rfl (by decide) rfl rfl rfl (Nat.le_of_ble_eq_true rfl) (fun μ16 => ?_)
                  exact sRv (by decide +kernel)
                · refine sBk (lo' := [(0, vr 13 0)]) (st' := [vr 13 0]) (μ' := μ14) (pc' := 110) [(.aload_n 0, 0, 0, 0, 0)] (by decide +kernel) rfl rfl ?_
                  refine sCvV oV rfl (ci := 12) (q := (13, 0)) (avs := []) (rest := []) (tX12_readWinder μ14) (by decide) (by decide +kernel) lk_12_290 yv_X12_readWinder rfl (by decide) rfl rfl rfl (Nat.le_of_ble_eq_true rfl) (fun μ18 => ?_)
                  refine sGt (off := 7) (tgt := 120) (by decide +kernel) (by decide) ?_
                  exact sRv (by decide +kernel)
              · refine sBk (lo' := [(0, vr 13 0)]) (st' := [vr 13 0]) (μ' := μ12) (pc' := 96) [(.aload_n 0, 0, 0, 0, 0)] (by decide +kernel) rfl rfl ?_
                refine sCvV oV rfl (ci := 12) (q := (13, 0)) (avs := []) (rest := []) (tX12_readMill μ12) (by decide) (by decide +kernel) lk_12_287 yv_X12_readMill rfl (by decide) rfl rfl rfl (Nat.le_of_ble_eq_true rfl) (fun μ20 => ?_)
                refine sGt (off := 21) (tgt := 120) (by decide +kernel) (by decide) ?_
                exact sRv (by decide +kernel)
            · refine sBk (lo' := [(0, vr 13 0)]) (st' := [vr 13 0]) (μ' := μ10) (pc' := 82) [(.aload_n 0, 0, 0, 0, 0)] (by decide +kernel) rfl rfl ?_
              refine sCvV oV rfl (ci := 12) (q := (13, 0)) (avs := []) (rest := []) (tX12_readReach μ10) (by decide) (by decide +kernel) lk_12_284 yv_X12_readReach rfl (by decide) rfl rfl rfl (Nat.le_of_ble_eq_true rfl) (fun μ22 => ?_)
              refine sGt (off := 35) (tgt := 120) (by decide +kernel) (by decide) ?_
              exact sRv (by decide +kernel)
          · refine sBk (lo' := [(0, vr 13 0)]) (st' := [vi 16, vi 5, vi 3, vr 13 0]) (μ' := μ8) (pc' := 68) [(.aload_n 0, 0, 0, 0, 0), (.iconst 3, 0, 0, 3, 0), (.iconst 5, 0, 0, 5, 0), (.bipush 16, 0, 0, 16, 0)] (by decide +kernel) rfl rfl ?_
            refine sCvV oV rfl (ci := 12) (q := (13, 0)) (avs := [vi 3, vi 5, vi 16]) (rest := []) (tX12_readOnce 3 5 16 μ8) (by decide) (by decide +kernel) lk_12_280 yv_X12_readOnce rfl (by decide) rfl rfl rfl (Nat.le_of_ble_eq_true rfl) (fun μ24 => ?_)
            refine sGt (off := 49) (tgt := 120) (by decide +kernel) (by decide) ?_
            exact sRv (by decide +kernel)
        · refine sBk (lo' := [(0, vr 13 0)]) (st' := [vi 99, vi 4, vi 2, vr 13 0]) (μ' := μ6) (pc' := 50) [(.aload_n 0, 0, 0, 0, 0), (.iconst 2, 0, 0, 2, 0), (.iconst 4, 0, 0, 4, 0), (.bipush 99, 0, 0, 99, 0)] (by decide +kernel) rfl rfl ?_
          refine sCvV oV rfl (ci := 12) (q := (13, 0)) (avs := [vi 2, vi 4, vi 99]) (rest := []) (tX12_readOnce 2 4 99 μ6) (by decide) (by decide +kernel) lk_12_280 yv_X12_readOnce rfl (by decide) rfl rfl rfl (Nat.le_of_ble_eq_true rfl) (fun μ26 => ?_)
          refine sGt (off := 67) (tgt := 120) (by decide +kernel) (by decide) ?_
          exact sRv (by decide +kernel)
      · refine sBk (lo' := [(0, vr 13 0)]) (st' := [vi 9, vi 3, vi 1, vr 13 0]) (μ' := μ4) (pc' := 31) [(.aload_n 0, 0, 0, 0, 0), (.iconst 1, 0, 0, 1, 0), (.iconst 3, 0, 0, 3, 0), (.bipush 9, 0, 0, 9, 0)] (by decide +kernel) rfl rfl ?_
        refine sCvV oV rfl (ci := 12) (q := (13, 0)) (avs := [vi 1, vi 3, vi 9]) (rest := []) (tX12_readOnce 1 3 9 μ4) (by decide) (by decide +kernel) lk_12_280 yv_X12_readOnce rfl (by decide) rfl rfl rfl (Nat.le_of_ble_eq_true rfl) (fun μ28 => ?_)
        refine sGt (off := 86) (tgt := 120) (by decide +kernel) (by decide) ?_
        exact sRv (by decide +kernel)
    · refine sBk (lo' := [(0, vr 13 0)]) (st' := [vi 60, vi 9, vi 0, vr 13 0]) (μ' := μ2) (pc' := 13) [(.aload_n 0, 0, 0, 0, 0), (.iconst 0, 0, 0, 0, 0), (.bipush 9, 0, 0, 9, 0), (.bipush 60, 0, 0, 60, 0)] (by decide +kernel) rfl rfl ?_
      refine sCvV oV rfl (ci := 12) (q := (13, 0)) (avs := [vi 0, vi 9, vi 60]) (rest := []) (tX12_readOnce 0 9 60 μ2) (by decide) (by decide +kernel) lk_12_280 yv_X12_readOnce rfl (by decide) rfl rfl rfl (Nat.le_of_ble_eq_true rfl) (fun μ30 => ?_)
      refine sGt (off := 104) (tgt := 120) (by decide +kernel) (by decide) ?_
      exact sRv (by decide +kernel)
/-! ClockRiverModel.isSign -/
def X12_isSign (a1 : Int32) (μ : sM) : Option (Int32 × sM) :=
  if (rI μ 13 0 14) = 3 then
    if (rI μ 13 0 17) = a1 then
      some (1, μ)
    else
      some (0, μ)
  else
    some (0, μ)
theorem tX12_isSign (a1 : Int32) (μ : sM) : sMt yX12_isSign cX12_isSign 2 (some .boolean) 1 [vr 13 0, vi a1] μ (oI (X12_isSign a1 μ)) := by
  refine sMt_of (own := 12) (bl := true) (by decide +kernel) rfl (Nat.le_of_ble_eq_true rfl) (fun r ρ h => ?_) ?_
  · obtain ⟨q, -, hq⟩ := Option.map_eq_some_iff.mp h
    cases hq
    exact Or.inr ⟨rfl, rfl⟩
  · unfold X12_isSign
    show sOk 12 cX12_isSign 2 1 true 0 [(0, vr 13 0), (1, vi a1)] [] μ _
    refine sBk (lo' := [(0, vr 13 0), (1, vi a1)]) (st' := [vi 3, vi (rI μ 13 0 14)]) (μ' := μ) (pc' := 5) [(.aload_n 0, 0, 0, 0, 0), (.getfield 123, 12, 14, 0, 0), (.iconst 3, 0, 0, 3, 0)] (by decide +kernel) rfl rfl ?_
    refine sIc_ne oI (off := 15) (tgt := 20) (by decide +kernel) (by decide) (fun _ => ?_) (fun _ => ?_)
    · refine sBk (lo' := [(0, vr 13 0), (1, vi a1)]) (st' := [vi 0]) (μ' := μ) (pc' := 21) [(.iconst 0, 0, 0, 0, 0)] (by decide +kernel) rfl rfl ?_
      exact sRi (by decide +kernel) (fun _ => Or.inl rfl)
    · refine sBk (lo' := [(0, vr 13 0), (1, vi a1)]) (st' := [vi a1, vi (rI μ 13 0 17)]) (μ' := μ) (pc' := 13) [(.aload_n 0, 0, 0, 0, 0), (.getfield 142, 12, 17, 0, 0), (.iload_n 1, 0, 0, 0, 0)] (by decide +kernel) rfl rfl ?_
      refine sIc_ne oI (off := 7) (tgt := 20) (by decide +kernel) (by decide) (fun _ => ?_) (fun _ => ?_)
      · refine sBk (lo' := [(0, vr 13 0), (1, vi a1)]) (st' := [vi 0]) (μ' := μ) (pc' := 21) [(.iconst 0, 0, 0, 0, 0)] (by decide +kernel) rfl rfl ?_
        exact sRi (by decide +kernel) (fun _ => Or.inl rfl)
      · refine sBk (lo' := [(0, vr 13 0), (1, vi a1)]) (st' := [vi 1]) (μ' := μ) (pc' := 17) [(.iconst 1, 0, 0, 1, 0)] (by decide +kernel) rfl rfl ?_
        refine sGt (off := 4) (tgt := 21) (by decide +kernel) (by decide) ?_
        exact sRi (by decide +kernel) (fun _ => Or.inr rfl)
/-! ClockRiverModel.isWell -/
def X12_isWell_J24 (s0 : Int32) (μ : sM) : Option (Int32 × sM) :=
  if (rI μ 13 0 12) = 0 then
    some (1, wI μ 13 0 11 s0)
  else
    bI (X12_no 10 (wI μ 13 0 11 s0)) fun x1 μ2 =>
      if x1 = 0 then
        some (0, μ2)
      else
        some (1, μ2)
theorem X12_isWell_J24_ok (s0 : Int32) (μ : sM) : sOk 12 cX12_isWell 1 2 true 24 [(0, vr 13 0)] [vi s0, vr 13 0] μ (oI (X12_isWell_J24 s0 μ)) := by
  unfold X12_isWell_J24
  refine sBk (lo' := [(0, vr 13 0)]) (st' := [vi (rI μ 13 0 12)]) (μ' := wI μ 13 0 11 s0) (pc' := 31) [(.putfield 32, 12, 11, 0, 0), (.aload_n 0, 0, 0, 0, 0), (.getfield 218, 12, 12, 0, 0)] (by decide +kernel) rfl rfl ?_
  refine sIf_eq oI (off := 12) (tgt := 43) (by decide +kernel) (by decide) (fun _ => ?_) (fun _ => ?_)
  · refine sBk (lo' := [(0, vr 13 0)]) (st' := [vi 1]) (μ' := wI μ 13 0 11 s0) (pc' := 44) [(.iconst 1, 0, 0, 1, 0)] (by decide +kernel) rfl rfl ?_
    refine sGt (off := 4) (tgt := 48) (by decide +kernel) (by decide) ?_
    exact sRi (by decide +kernel) (fun _ => Or.inr rfl)
  · refine sBk (lo' := [(0, vr 13 0)]) (st' := [vi 10, vr 13 0]) (μ' := wI μ 13 0 11 s0) (pc' := 37) [(.aload_n 0, 0, 0, 0, 0), (.bipush 10, 0, 0, 10, 0)] (by decide +kernel) rfl rfl ?_
    refine sCvI oI rfl (ci := 12) (q := (13, 0)) (avs := [vi 10]) (rest := []) (tX12_no 10 (wI μ 13 0 11 s0)) (by decide) (by decide +kernel) lk_12_87 yv_X12_no rfl (by decide) rfl rfl rfl (Nat.le_of_ble_eq_true rfl) (fun x1 μ2 => ?_)
    refine sIf_eq oI (off := 7) (tgt := 47) (by decide +kernel) (by decide) (fun _ => ?_) (fun _ => ?_)
    · refine sBk (lo' := [(0, vr 13 0)]) (st' := [vi 0]) (μ' := μ2) (pc' := 48) [(.iconst 0, 0, 0, 0, 0)] (by decide +kernel) rfl rfl ?_
      exact sRi (by decide +kernel) (fun _ => Or.inl rfl)
    · refine sBk (lo' := [(0, vr 13 0)]) (st' := [vi 1]) (μ' := μ2) (pc' := 44) [(.iconst 1, 0, 0, 1, 0)] (by decide +kernel) rfl rfl ?_
      refine sGt (off := 4) (tgt := 48) (by decide +kernel) (by decide) ?_
      exact sRi (by decide +kernel) (fun _ => Or.inr rfl)
def X12_isWell (μ : sM) : Option (Int32 × sM) :=
  if (rI μ 13 0 12) = 0 then
    X12_isWell_J24 (-1) (wI μ 13 0 10 (rI μ 13 0 12))
  else
    X12_isWell_J24 (rI μ 13 0 13) (wI μ 13 0 10 (rI μ 13 0 12))
theorem tX12_isWell (μ : sM) : sMt yX12_isWell cX12_isWell 1 (some .boolean) 2 [vr 13 0] μ (oI (X12_isWell μ)) := by
  refine sMt_of (own := 12) (bl := true) (by decide +kernel) rfl (Nat.le_of_ble_eq_true rfl) (fun r ρ h => ?_) ?_
  · obtain ⟨q, -, hq⟩ := Option.map_eq_some_iff.mp h
    cases hq
    exact Or.inr ⟨rfl, rfl⟩
  · unfold X12_isWell
    show sOk 12 cX12_isWell 1 2 true 0 [(0, vr 13 0)] [] μ _
    refine sBk (lo' := [(0, vr 13 0)]) (st' := [vi (rI μ 13 0 12), vr 13 0]) (μ' := wI μ 13 0 10 (rI μ 13 0 12)) (pc' := 13) [(.aload_n 0, 0, 0, 0, 0), (.aload_n 0, 0, 0, 0, 0), (.getfield 218, 12, 12, 0, 0), (.putfield 28, 12, 10, 0, 0), (.aload_n 0, 0, 0, 0, 0), (.aload_n 0, 0, 0, 0, 0), (.getfield 218, 12, 12, 0, 0)] (by decide +kernel) rfl rfl ?_
    refine sIf_ne oI (off := 7) (tgt := 20) (by decide +kernel) (by decide) (fun _ => ?_) (fun _ => ?_)
    · refine sBk (lo' := [(0, vr 13 0)]) (st' := [vi (rI μ 13 0 13), vr 13 0]) (μ' := wI μ 13 0 10 (rI μ 13 0 12)) (pc' := 24) [(.aload_n 0, 0, 0, 0, 0), (.getfield 221, 12, 13, 0, 0)] (by decide +kernel) rfl rfl ?_
      exact X12_isWell_J24_ok (rI μ 13 0 13) (wI μ 13 0 10 (rI μ 13 0 12))
    · refine sBk (lo' := [(0, vr 13 0)]) (st' := [vi (-1), vr 13 0]) (μ' := wI μ 13 0 10 (rI μ 13 0 12)) (pc' := 17) [(.iconst (-1), 0, 0, (-1), 0)] (by decide +kernel) rfl rfl ?_
      refine sGt (off := 7) (tgt := 24) (by decide +kernel) (by decide) ?_
      exact X12_isWell_J24_ok (-1) (wI μ 13 0 10 (rI μ 13 0 12))
/-! ClockRiverModel.copy -/
def X12_copy_L41 : Nat → Int32 → Int32 → Int32 → sM → Option sM
  | 0, _, _, _, _ => none
  | n + 1, v1, v2, v3, μ =>
    if 18 ≤ v3 then
      some μ
    else
      if inb ((18 * v1) + v3) 90 = true then
        if inb ((18 * v2) + v3) 90 = true then
          X12_copy_L41 n v1 v2 (v3 + 1) (wL μ 64 0 (ix ((18 * v2) + v3)) (rL μ 64 0 (ix ((18 * v1) + v3))))
        else none
      else none
theorem X12_copy_L41_ok : ∀ (n : Nat) (v1 : Int32) (v2 : Int32) (v3 : Int32) (μ : sM), sOk 12 cX12_copy 4 1 false 41 [(0, vr 13 0), (1, vi v1), (2, vi v2), (3, vi v3)] [] μ (oV (X12_copy_L41 n v1 v2 v3 μ)) := by
  intro n
  induction n with
  | zero =>
    intros
    exact sNo
  | succ n ih =>
    intro v1 v2 v3 μ
    unfold X12_copy_L41
    refine sBk (lo' := [(0, vr 13 0), (1, vi v1), (2, vi v2), (3, vi v3)]) (st' := [vi 18, vi v3]) (μ' := μ) (pc' := 44) [(.iload_n 3, 0, 0, 0, 0), (.bipush 18, 0, 0, 18, 0)] (by decide +kernel) rfl rfl ?_
    refine sIc_ge oV (off := 31) (tgt := 75) (by decide +kernel) (by decide) (fun _ => ?_) (fun _ => ?_)
    · exact sRv (by decide +kernel)
    · refine sBk (lo' := [(0, vr 13 0), (1, vi v1), (2, vi v2), (3, vi v3)]) (st' := [vi ((18 * v1) + v3), vr 64 0, vi ((18 * v2) + v3), vr 64 0]) (μ' := μ) (pc' := 67) [(.aload_n 0, 0, 0, 0, 0), (.getfield 44, 12, 23, 0, 0), (.bipush 18, 0, 0, 18, 0), (.iload_n 2, 0, 0, 0, 0), (.imul, 0, 0, 0, 0), (.iload_n 3, 0, 0, 0, 0), (.iadd, 0, 0, 0, 0), (.aload_n 0, 0, 0, 0, 0), (.getfield 44, 12, 23, 0, 0), (.bipush 18, 0, 0, 18, 0), (.iload_n 1, 0, 0, 0, 0), (.imul, 0, 0, 0, 0), (.iload_n 3, 0, 0, 0, 0), (.iadd, 0, 0, 0, 0)] (by decide +kernel) rfl rfl ?_
      refine sS_lal oV rfl (n := 90) (j := (ix ((18 * v1) + v3))) (by decide +kernel) rfl rfl rfl (fun _ => ?_)
      refine sS_las oV rfl (n := 90) (j := (ix ((18 * v2) + v3))) (by decide +kernel) rfl rfl rfl (fun _ => ?_)
      refine sBk (lo' := [(3, vi (v3 + 1)), (0, vr 13 0), (1, vi v1), (2, vi v2)]) (st' := []) (μ' := wL μ 64 0 (ix ((18 * v2) + v3)) (rL μ 64 0 (ix ((18 * v1) + v3)))) (pc' := 72) [(.iinc 3 1, 0, 0, 1, 0)] (by decide +kernel) rfl rfl ?_
      refine sGt (off := (-31)) (tgt := 41) (by decide +kernel) (by decide) ?_
      refine sWk (lo' := [(0, vr 13 0), (1, vi v1), (2, vi v2), (3, vi (v3 + 1))]) [1, 2, 3, 0] rfl ?_
      exact ih v1 v2 (v3 + 1) (wL μ 64 0 (ix ((18 * v2) + v3)) (rL μ 64 0 (ix ((18 * v1) + v3))))
def X12_copy_L2 : Nat → Int32 → Int32 → Int32 → sM → Option sM
  | 0, _, _, _, _ => none
  | n + 1, v1, v2, v3, μ =>
    if 348 ≤ v3 then
      X12_copy_L41 fuN v1 v2 0 μ
    else
      if inb ((348 * v1) + v3) 1740 = true then
        if inb ((348 * v2) + v3) 1740 = true then
          X12_copy_L2 n v1 v2 (v3 + 1) (wI μ 61 0 (ix ((348 * v2) + v3)) (rI μ 61 0 (ix ((348 * v1) + v3))))
        else none
      else none
theorem X12_copy_L2_ok : ∀ (n : Nat) (v1 : Int32) (v2 : Int32) (v3 : Int32) (μ : sM), sOk 12 cX12_copy 4 1 false 2 [(0, vr 13 0), (1, vi v1), (2, vi v2), (3, vi v3)] [] μ (oV (X12_copy_L2 n v1 v2 v3 μ)) := by
  intro n
  induction n with
  | zero =>
    intros
    exact sNo
  | succ n ih =>
    intro v1 v2 v3 μ
    unfold X12_copy_L2
    refine sBk (lo' := [(0, vr 13 0), (1, vi v1), (2, vi v2), (3, vi v3)]) (st' := [vi 348, vi v3]) (μ' := μ) (pc' := 6) [(.iload_n 3, 0, 0, 0, 0), (.sipush 348, 0, 0, 348, 0)] (by decide +kernel) rfl rfl ?_
    refine sIc_ge oV (off := 33) (tgt := 39) (by decide +kernel) (by decide) (fun _ => ?_) (fun _ => ?_)
    · refine sBk (lo' := [(3, vi 0), (0, vr 13 0), (1, vi v1), (2, vi v2)]) (st' := []) (μ' := μ) (pc' := 41) [(.iconst 0, 0, 0, 0, 0), (.istore_n 3, 0, 0, 0, 0)] (by decide +kernel) rfl rfl ?_
      refine sWk (lo' := [(0, vr 13 0), (1, vi v1), (2, vi v2), (3, vi 0)]) [1, 2, 3, 0] rfl ?_
      exact X12_copy_L41_ok fuN v1 v2 0 μ
    · refine sBk (lo' := [(0, vr 13 0), (1, vi v1), (2, vi v2), (3, vi v3)]) (st' := [vi ((348 * v1) + v3), vr 61 0, vi ((348 * v2) + v3), vr 61 0]) (μ' := μ) (pc' := 31) [(.aload_n 0, 0, 0, 0, 0), (.getfield 35, 12, 20, 0, 0), (.sipush 348, 0, 0, 348, 0), (.iload_n 2, 0, 0, 0, 0), (.imul, 0, 0, 0, 0), (.iload_n 3, 0, 0, 0, 0), (.iadd, 0, 0, 0, 0), (.aload_n 0, 0, 0, 0, 0), (.getfield 35, 12, 20, 0, 0), (.sipush 348, 0, 0, 348, 0), (.iload_n 1, 0, 0, 0, 0), (.imul, 0, 0, 0, 0), (.iload_n 3, 0, 0, 0, 0), (.iadd, 0, 0, 0, 0)] (by decide +kernel) rfl rfl ?_
      refine sS_ial oV rfl (n := 1740) (j := (ix ((348 * v1) + v3))) (by decide +kernel) rfl rfl rfl (fun _ => ?_)
      refine sS_ias oV rfl (n := 1740) (j := (ix ((348 * v2) + v3))) (by decide +kernel) rfl rfl rfl (fun _ => ?_)
      refine sBk (lo' := [(3, vi (v3 + 1)), (0, vr 13 0), (1, vi v1), (2, vi v2)]) (st' := []) (μ' := wI μ 61 0 (ix ((348 * v2) + v3)) (rI μ 61 0 (ix ((348 * v1) + v3)))) (pc' := 36) [(.iinc 3 1, 0, 0, 1, 0)] (by decide +kernel) rfl rfl ?_
      refine sGt (off := (-34)) (tgt := 2) (by decide +kernel) (by decide) ?_
      refine sWk (lo' := [(0, vr 13 0), (1, vi v1), (2, vi v2), (3, vi (v3 + 1))]) [1, 2, 3, 0] rfl ?_
      exact ih v1 v2 (v3 + 1) (wI μ 61 0 (ix ((348 * v2) + v3)) (rI μ 61 0 (ix ((348 * v1) + v3))))
def X12_copy (a1 : Int32) (a2 : Int32) (μ : sM) : Option sM :=
  X12_copy_L2 fuN a1 a2 0 μ
theorem tX12_copy (a1 : Int32) (a2 : Int32) (μ : sM) : sMt yX12_copy cX12_copy 4 none 1 [vr 13 0, vi a1, vi a2] μ (oV (X12_copy a1 a2 μ)) := by
  refine sMt_of (own := 12) (bl := false) (by decide +kernel) rfl (Nat.le_of_ble_eq_true rfl) (fun r ρ h => ?_) ?_
  · obtain ⟨q, -, hq⟩ := Option.map_eq_some_iff.mp h
    cases hq
    exact rfl
  · unfold X12_copy
    show sOk 12 cX12_copy 4 1 false 0 [(0, vr 13 0), (1, vi a1), (2, vi a2)] [] μ _
    refine sBk (lo' := [(3, vi 0), (0, vr 13 0), (1, vi a1), (2, vi a2)]) (st' := []) (μ' := μ) (pc' := 2) [(.iconst 0, 0, 0, 0, 0), (.istore_n 3, 0, 0, 0, 0)] (by decide +kernel) rfl rfl ?_
    refine sWk (lo' := [(0, vr 13 0), (1, vi a1), (2, vi a2), (3, vi 0)]) [1, 2, 3, 0] rfl ?_
    exact X12_copy_L2_ok fuN a1 a2 0 μ
/-! ClockRiverModel.river -/
def X12_river_J64 (μ : sM) : Option (Int32 × sM) :=
  bI (X12_isWell μ) fun x1 μ2 =>
    if x1 = 0 then
      some ((-1), μ2)
    else
      bV (X12_copy 4 0 μ2) fun μ4 =>
        some ((rI μ4 61 0 0), μ4)
theorem X12_river_J64_ok (μ : sM) : sOk 12 cX12_river 2 9 false 64 [(0, vr 13 0)] [] μ (oI (X12_river_J64 μ)) := by
  unfold X12_river_J64
  refine sBk (lo' := [(0, vr 13 0)]) (st' := [vr 13 0]) (μ' := μ) (pc' := 65) [(.aload_n 0, 0, 0, 0, 0)] (by decide +kernel) rfl rfl ?_
  refine sCvI oI rfl (ci := 12) (q := (13, 0)) (avs := []) (rest := []) (tX12_isWell μ) (by decide) (by decide +kernel) lk_12_302 yv_X12_isWell rfl (by decide) rfl rfl rfl (Nat.le_of_ble_eq_true rfl) (fun x1 μ2 => ?_)
  refine sIf_ne oI (off := 5) (tgt := 73) (by decide +kernel) (by decide) (fun _ => ?_) (fun _ => ?_)
  · refine sBk (lo' := [(0, vr 13 0)]) (st' := [vi 0, vi 4, vr 13 0]) (μ' := μ2) (pc' := 76) [(.aload_n 0, 0, 0, 0, 0), (.iconst 4, 0, 0, 4, 0), (.iconst 0, 0, 0, 0, 0)] (by decide +kernel) rfl rfl ?_
    refine sCvV oI rfl (ci := 12) (q := (13, 0)) (avs := [vi 4, vi 0]) (rest := []) (tX12_copy 4 0 μ2) (by decide) (by decide +kernel) lk_12_305 yv_X12_copy rfl (by decide) rfl rfl rfl (Nat.le_of_ble_eq_true rfl) (fun μ4 => ?_)
    refine sBk (lo' := [(0, vr 13 0)]) (st' := [vi 0, vr 61 0]) (μ' := μ4) (pc' := 84) [(.aload_n 0, 0, 0, 0, 0), (.getfield 35, 12, 20, 0, 0), (.iconst 0, 0, 0, 0, 0)] (by decide +kernel) rfl rfl ?_
    refine sC_ial (n := 1740) (j := 0) (by decide +kernel) (by decide +kernel) rfl rfl (by decide +kernel) ?_
    exact sRi (by decide +kernel) (fun h => by cases h)
  · refine sBk (lo' := [(0, vr 13 0)]) (st' := [vi (-1)]) (μ' := μ2) (pc' := 72) [(.iconst (-1), 0, 0, (-1), 0)] (by decide +kernel) rfl rfl ?_
    exact sRi (by decide +kernel) (fun h => by cases h)
def X12_river_L33 : Nat → sM → Option (Int32 × sM)
  | 0, _ => none
  | n + 1, μ =>
    if (rI μ 13 0 12) = 0 then
      if (rI μ 13 0 14) = 0 then
        X12_river_J64 μ
      else
        bV (X12_readPart μ) fun μ2 =>
          bI (X12_isSign 59 μ2) fun x3 μ4 =>
            bV (X12_must x3 μ4) fun μ6 =>
              X12_river_L33 n μ6
    else
      X12_river_J64 μ
theorem X12_river_L33_ok : ∀ (n : Nat) (μ : sM), sOk 12 cX12_river 2 9 false 33 [(0, vr 13 0)] [] μ (oI (X12_river_L33 n μ)) := by
  intro n
  induction n with
  | zero =>
    intros
    exact sNo
  | succ n ih =>
    intro μ
    unfold X12_river_L33
    refine sBk (lo' := [(0, vr 13 0)]) (st' := [vi (rI μ 13 0 12)]) (μ' := μ) (pc' := 37) [(.aload_n 0, 0, 0, 0, 0), (.getfield 218, 12, 12, 0, 0)] (by decide +kernel) rfl rfl ?_
    refine sIf_ne oI (off := 27) (tgt := 64) (by decide +kernel) (by decide) (fun _ => ?_) (fun _ => ?_)
    · exact X12_river_J64_ok μ
    · refine sBk (lo' := [(0, vr 13 0)]) (st' := [vi (rI μ 13 0 14)]) (μ' := μ) (pc' := 44) [(.aload_n 0, 0, 0, 0, 0), (.getfield 123, 12, 14, 0, 0)] (by decide +kernel) rfl rfl ?_
      refine sIf_eq oI (off := 20) (tgt := 64) (by decide +kernel) (by decide) (fun _ => ?_) (fun _ => ?_)
      · exact X12_river_J64_ok μ
      · refine sBk (lo' := [(0, vr 13 0)]) (st' := [vr 13 0]) (μ' := μ) (pc' := 48) [(.aload_n 0, 0, 0, 0, 0)] (by decide +kernel) rfl rfl ?_
        refine sCvV oI rfl (ci := 12) (q := (13, 0)) (avs := []) (rest := []) (tX12_readPart μ) (by decide) (by decide +kernel) lk_12_296 yv_X12_readPart rfl (by decide) rfl rfl rfl (Nat.le_of_ble_eq_true rfl) (fun μ2 => ?_)
        refine sBk (lo' := [(0, vr 13 0)]) (st' := [vi 59, vr 13 0, vr 13 0]) (μ' := μ2) (pc' := 55) [(.aload_n 0, 0, 0, 0, 0), (.aload_n 0, 0, 0, 0, 0), (.bipush 59, 0, 0, 59, 0)] (by decide +kernel) rfl rfl ?_
        refine sCvI oI rfl (ci := 12) (q := (13, 0)) (avs := [vi 59]) (rest := [vr 13 0]) (tX12_isSign 59 μ2) (by decide) (by decide +kernel) lk_12_299 yv_X12_isSign rfl (by decide) rfl rfl rfl (Nat.le_of_ble_eq_true rfl) (fun x3 μ4 => ?_)
        refine sCvV oI rfl (ci := 12) (q := (13, 0)) (avs := [vi x3]) (rest := []) (tX12_must x3 μ4) (by decide) (by decide +kernel) lk_12_234 yv_X12_must rfl (by decide) rfl rfl rfl (Nat.le_of_ble_eq_true rfl) (fun μ6 => ?_)
        refine sGt (off := (-28)) (tgt := 33) (by decide +kernel) (by decide) ?_
        exact ih μ6
def X12_river (a1 : Int32) (μ : sM) : Option (Int32 × sM) :=
  bI (X12_starts a1 900 (wI (wI μ 13 0 1 0) 13 0 0 0)) fun x1 μ2 =>
    if x1 = 0 then
      some ((-1), μ2)
    else
      bV (X12_empties 4 μ2) fun μ4 =>
        X12_river_L33 fuN (wI μ4 13 0 25 0)
theorem tX12_river (a1 : Int32) (μ : sM) : sMt yX12_river cX12_river 2 (some .int) 9 [vr 13 0, vi a1] μ (oI (X12_river a1 μ)) := by
  refine sMt_of (own := 12) (bl := false) (by decide +kernel) rfl (Nat.le_of_ble_eq_true rfl) (fun r ρ h => ?_) ?_
  · obtain ⟨q, -, hq⟩ := Option.map_eq_some_iff.mp h
    cases hq
    exact Or.inl rfl
  · unfold X12_river
    show sOk 12 cX12_river 2 9 false 0 [(0, vr 13 0), (1, vi a1)] [] μ _
    refine sBk (lo' := [(0, vr 13 0), (1, vi a1)]) (st' := [vi 900, vi a1, vr 13 0]) (μ' := wI (wI μ 13 0 1 0) 13 0 0 0) (pc' := 15) [(.aload_n 0, 0, 0, 0, 0), (.iconst 0, 0, 0, 0, 0), (.putfield 72, 12, 1, 0, 0), (.aload_n 0, 0, 0, 0, 0), (.iconst 0, 0, 0, 0, 0), (.putfield 75, 12, 0, 0, 0), (.aload_n 0, 0, 0, 0, 0), (.iload_n 1, 0, 0, 0, 0), (.sipush 900, 0, 0, 900, 0)] (by decide +kernel) rfl rfl ?_
    refine sCvI oI rfl (ci := 12) (q := (13, 0)) (avs := [vi a1, vi 900]) (rest := []) (tX12_starts a1 900 (wI (wI μ 13 0 1 0) 13 0 0 0)) (by decide) (by decide +kernel) lk_12_293 yv_X12_starts rfl (by decide) rfl rfl rfl (Nat.le_of_ble_eq_true rfl) (fun x1 μ2 => ?_)
    refine sIf_ne oI (off := 5) (tgt := 23) (by decide +kernel) (by decide) (fun _ => ?_) (fun _ => ?_)
    · refine sBk (lo' := [(0, vr 13 0), (1, vi a1)]) (st' := [vi 4, vr 13 0]) (μ' := μ2) (pc' := 25) [(.aload_n 0, 0, 0, 0, 0), (.iconst 4, 0, 0, 4, 0)] (by decide +kernel) rfl rfl ?_
      refine sCvV oI rfl (ci := 12) (q := (13, 0)) (avs := [vi 4]) (rest := []) (tX12_empties 4 μ2) (by decide) (by decide +kernel) lk_12_68 yv_X12_empties rfl (by decide) rfl rfl rfl (Nat.le_of_ble_eq_true rfl) (fun μ4 => ?_)
      refine sBk (lo' := [(0, vr 13 0), (1, vi a1)]) (st' := []) (μ' := wI μ4 13 0 25 0) (pc' := 33) [(.aload_n 0, 0, 0, 0, 0), (.iconst 0, 0, 0, 0, 0), (.putfield 259, 12, 25, 0, 0)] (by decide +kernel) rfl rfl ?_
      refine sWk (lo' := [(0, vr 13 0)]) [0] rfl ?_
      exact X12_river_L33_ok fuN (wI μ4 13 0 25 0)
    · refine sBk (lo' := [(0, vr 13 0), (1, vi a1)]) (st' := [vi (-1)]) (μ' := μ2) (pc' := 22) [(.iconst (-1), 0, 0, (-1), 0)] (by decide +kernel) rfl rfl ?_
      exact sRi (by decide +kernel) (fun h => by cases h)
