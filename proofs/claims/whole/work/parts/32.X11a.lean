theorem lk_11_102 : Cond.methodLink (kRn 11) 102 yX7_whyNoPlace ∈ sT := sT_in (n := 701) (by decide +kernel) rfl
theorem lk_11_106 : Cond.methodLink (kRn 11) 106 yX7_put ∈ sT := sT_in (n := 710) (by decide +kernel) rfl
theorem lk_11_110 : Cond.methodLink (kRn 11) 110 yX11_refuse ∈ sT := sT_in (n := 721) (by decide +kernel) rfl
theorem lk_11_118 : Cond.methodLink (kRn 11) 118 yX7_isMissing ∈ sT := sT_in (n := 729) (by decide +kernel) rfl
theorem lk_11_125 : Cond.methodLink (kRn 11) 125 yX7_hasRoom ∈ sT := sT_in (n := 730) (by decide +kernel) rfl
theorem lk_11_138 : Cond.methodLink (kRn 11) 138 yX6_append ∈ sT := sT_in (n := 741) (by decide +kernel) rfl
theorem lk_11_142 : Cond.methodLink (kRn 11) 142 yX6_begin ∈ sT := sT_in (n := 749) (by decide +kernel) rfl
theorem lk_11_145 : Cond.methodLink (kRn 11) 145 yX0_spare ∈ sT := sT_in (n := 841) (by decide +kernel) rfl
theorem lk_11_149 : Cond.methodLink (kRn 11) 149 yX5_readInto ∈ sT := sT_in (n := 845) (by decide +kernel) rfl
theorem lk_11_153 : Cond.methodLink (kRn 11) 153 yX4_copyFrom ∈ sT := sT_in (n := 925) (by decide +kernel) rfl
theorem lk_11_157 : Cond.methodLink (kRn 11) 157 yX8_forget ∈ sT := sT_in (n := 945) (by decide +kernel) rfl
theorem lk_11_169 : Cond.methodLink (kRn 11) 169 yX11_give ∈ sT := sT_in (n := 949) (by decide +kernel) rfl
theorem lk_11_172 : Cond.methodLink (kRn 11) 172 yX9_readFor ∈ sT := sT_in (n := 957) (by decide +kernel) rfl
theorem lk_11_178 : Cond.methodLink (kRn 11) 178 yX8_copyFrom ∈ sT := sT_in (n := 1010) (by decide +kernel) rfl
theorem lk_11_190 : Cond.methodLink (kRn 11) 190 yX4_figure ∈ sT := sT_in (n := 1023) (by decide +kernel) rfl
theorem lk_11_200 : Cond.methodLink (kRn 11) 200 yX4_hasReach ∈ sT := sT_in (n := 1051) (by decide +kernel) rfl
theorem lk_11_221 : Cond.methodLink (kRn 11) 221 yX2_countAt ∈ sT := sT_in (n := 1056) (by decide +kernel) rfl
theorem lk_11_226 : Cond.methodLink (kRn 11) 226 yX4_hasMill ∈ sT := sT_in (n := 1064) (by decide +kernel) rfl
theorem lk_11_87 : Cond.methodLink (kRn 11) 87 yX7_isTray ∈ sT := sT_in (n := 682) (by decide +kernel) rfl
theorem lk_11_91 : Cond.methodLink (kRn 11) 91 yX11_deny ∈ sT := sT_in (n := 685) (by decide +kernel) rfl
theorem lk_11_94 : Cond.methodLink (kRn 11) 94 yX7_renew ∈ sT := sT_in (n := 689) (by decide +kernel) rfl
theorem lk_11_98 : Cond.methodLink (kRn 11) 98 yX11_grant ∈ sT := sT_in (n := 693) (by decide +kernel) rfl
theorem yv_X0_spare : yV yX0_spare cX0_spare 1 (some (.object "ClockRiver$River")) 0 := ⟨⟨sT_in (n := 844) (by decide +kernel) rfl, sT_in (n := 147) (by decide +kernel) rfl, by decide +kernel, by decide⟩, sT_in (n := 842) (by decide +kernel) rfl, sT_in (n := 843) (by decide +kernel) rfl⟩
theorem yv_X11_deny : yV yX11_deny cX11_deny 2 (some .boolean) 1 := ⟨⟨sT_in (n := 688) (by decide +kernel) rfl, sT_in (n := 137) (by decide +kernel) rfl, by decide +kernel, by decide⟩, sT_in (n := 687) (by decide +kernel) rfl, sT_in (n := 0) (by decide +kernel) rfl⟩
theorem yv_X11_give : yV yX11_give cX11_give 2 (some .int) 1 := ⟨⟨sT_in (n := 952) (by decide +kernel) rfl, sT_in (n := 137) (by decide +kernel) rfl, by decide +kernel, by decide⟩, sT_in (n := 951) (by decide +kernel) rfl, sT_in (n := 15) (by decide +kernel) rfl⟩
theorem yv_X11_grant : yV yX11_grant cX11_grant 1 (some .boolean) 0 := ⟨⟨sT_in (n := 696) (by decide +kernel) rfl, sT_in (n := 137) (by decide +kernel) rfl, by decide +kernel, by decide⟩, sT_in (n := 695) (by decide +kernel) rfl, sT_in (n := 1) (by decide +kernel) rfl⟩
theorem yv_X11_refuse : yV yX11_refuse cX11_refuse 2 (some .int) 1 := ⟨⟨sT_in (n := 724) (by decide +kernel) rfl, sT_in (n := 137) (by decide +kernel) rfl, by decide +kernel, by decide⟩, sT_in (n := 723) (by decide +kernel) rfl, sT_in (n := 2) (by decide +kernel) rfl⟩
theorem yv_X2_countAt : yV yX2_countAt cX2_countAt 4 (some .int) 1 := ⟨⟨sT_in (n := 1059) (by decide +kernel) rfl, sT_in (n := 140) (by decide +kernel) rfl, by decide +kernel, by decide⟩, sT_in (n := 1057) (by decide +kernel) rfl, sT_in (n := 1058) (by decide +kernel) rfl⟩
theorem yv_X4_figure : yV yX4_figure cX4_figure 2 (some .int) 1 := ⟨⟨sT_in (n := 1026) (by decide +kernel) rfl, sT_in (n := 138) (by decide +kernel) rfl, by decide +kernel, by decide⟩, sT_in (n := 1024) (by decide +kernel) rfl, sT_in (n := 1025) (by decide +kernel) rfl⟩
theorem yv_X4_hasMill : yV yX4_hasMill cX4_hasMill 2 (some .boolean) 1 := ⟨⟨sT_in (n := 1067) (by decide +kernel) rfl, sT_in (n := 138) (by decide +kernel) rfl, by decide +kernel, by decide⟩, sT_in (n := 1065) (by decide +kernel) rfl, sT_in (n := 1066) (by decide +kernel) rfl⟩
theorem yv_X4_hasReach : yV yX4_hasReach cX4_hasReach 2 (some .boolean) 1 := ⟨⟨sT_in (n := 1054) (by decide +kernel) rfl, sT_in (n := 138) (by decide +kernel) rfl, by decide +kernel, by decide⟩, sT_in (n := 1052) (by decide +kernel) rfl, sT_in (n := 1053) (by decide +kernel) rfl⟩
theorem yv_X5_readInto : yV yX5_readInto cX5_readInto 4 (some .boolean) 2 := ⟨⟨sT_in (n := 848) (by decide +kernel) rfl, sT_in (n := 145) (by decide +kernel) rfl, by decide +kernel, by decide⟩, sT_in (n := 846) (by decide +kernel) rfl, sT_in (n := 847) (by decide +kernel) rfl⟩
theorem yv_X6_append : yV yX6_append cX6_append 3 none 1 := ⟨⟨sT_in (n := 744) (by decide +kernel) rfl, sT_in (n := 144) (by decide +kernel) rfl, by decide +kernel, by decide⟩, sT_in (n := 742) (by decide +kernel) rfl, sT_in (n := 743) (by decide +kernel) rfl⟩
theorem yv_X6_begin : yV yX6_begin cX6_begin 5 none 1 := ⟨⟨sT_in (n := 752) (by decide +kernel) rfl, sT_in (n := 144) (by decide +kernel) rfl, by decide +kernel, by decide⟩, sT_in (n := 750) (by decide +kernel) rfl, sT_in (n := 751) (by decide +kernel) rfl⟩
theorem yv_X7_hasRoom : yV yX7_hasRoom cX7_hasRoom 4 (some .boolean) 3 := ⟨⟨sT_in (n := 733) (by decide +kernel) rfl, sT_in (n := 143) (by decide +kernel) rfl, by decide +kernel, by decide⟩, sT_in (n := 731) (by decide +kernel) rfl, sT_in (n := 732) (by decide +kernel) rfl⟩
theorem yv_X7_put : yV yX7_put cX7_put 5 none 3 := ⟨⟨sT_in (n := 713) (by decide +kernel) rfl, sT_in (n := 143) (by decide +kernel) rfl, by decide +kernel, by decide⟩, sT_in (n := 711) (by decide +kernel) rfl, sT_in (n := 712) (by decide +kernel) rfl⟩
theorem yv_X7_renew : yV yX7_renew cX7_renew 5 none 3 := ⟨⟨sT_in (n := 692) (by decide +kernel) rfl, sT_in (n := 143) (by decide +kernel) rfl, by decide +kernel, by decide⟩, sT_in (n := 690) (by decide +kernel) rfl, sT_in (n := 691) (by decide +kernel) rfl⟩
theorem yv_X7_whyNoPlace : yV yX7_whyNoPlace cX7_whyNoPlace 3 (some .int) 2 := ⟨⟨sT_in (n := 704) (by decide +kernel) rfl, sT_in (n := 143) (by decide +kernel) rfl, by decide +kernel, by decide⟩, sT_in (n := 702) (by decide +kernel) rfl, sT_in (n := 703) (by decide +kernel) rfl⟩
theorem yv_X8_copyFrom : yV yX8_copyFrom cX8_copyFrom 2 none 1 := ⟨⟨sT_in (n := 1013) (by decide +kernel) rfl, sT_in (n := 142) (by decide +kernel) rfl, by decide +kernel, by decide⟩, sT_in (n := 1011) (by decide +kernel) rfl, sT_in (n := 1012) (by decide +kernel) rfl⟩
theorem yv_X9_readFor : yV yX9_readFor cX9_readFor 5 (some .boolean) 2 := ⟨⟨sT_in (n := 960) (by decide +kernel) rfl, sT_in (n := 146) (by decide +kernel) rfl, by decide +kernel, by decide⟩, sT_in (n := 958) (by decide +kernel) rfl, sT_in (n := 959) (by decide +kernel) rfl⟩
/-! ClockRiver.status -/
def X11_status (μ : sM) : Option (Int32 × sM) :=
  some ((rI μ 12 0 0), μ)
theorem tX11_status (μ : sM) : sMt yX11_status cX11_status 1 (some .int) 1 [vr 12 0] μ (oI (X11_status μ)) := by
  refine sMt_of (own := 11) (bl := false) (by decide +kernel) rfl (Nat.le_of_ble_eq_true rfl) (fun r ρ h => ?_) ?_
  · obtain ⟨q, -, hq⟩ := Option.map_eq_some_iff.mp h
    cases hq
    exact Or.inl rfl
  · unfold X11_status
    show sOk 11 cX11_status 1 1 false 0 [(0, vr 12 0)] [] μ _
    refine sBk (lo' := [(0, vr 12 0)]) (st' := [vi (rI μ 12 0 0)]) (μ' := μ) (pc' := 4) [(.aload_n 0, 0, 0, 0, 0), (.getfield 80, 11, 0, 0, 0)] (by decide +kernel) rfl rfl ?_
    exact sRi (by decide +kernel) (fun h => by cases h)
/-! ClockRiver.top -/
def X11_top (μ : sM) : Option (Int64 × sM) :=
  some ((rL μ 12 0 1), μ)
theorem tX11_top (μ : sM) : sMt yX11_top cX11_top 1 (some .long) 1 [vr 12 0] μ (oL (X11_top μ)) := by
  refine sMt_of (own := 11) (bl := false) (by decide +kernel) rfl (Nat.le_of_ble_eq_true rfl) (fun r ρ h => ?_) ?_
  · obtain ⟨q, -, hq⟩ := Option.map_eq_some_iff.mp h
    cases hq
    exact rfl
  · unfold X11_top
    show sOk 11 cX11_top 1 1 false 0 [(0, vr 12 0)] [] μ _
    refine sBk (lo' := [(0, vr 12 0)]) (st' := [vl (rL μ 12 0 1)]) (μ' := μ) (pc' := 4) [(.aload_n 0, 0, 0, 0, 0), (.getfield 84, 11, 1, 0, 0)] (by decide +kernel) rfl rfl ?_
    exact sRl (by decide +kernel)
/-! ClockRiver.bottom -/
def X11_bottom (μ : sM) : Option (Int64 × sM) :=
  some ((rL μ 12 0 2), μ)
theorem tX11_bottom (μ : sM) : sMt yX11_bottom cX11_bottom 1 (some .long) 1 [vr 12 0] μ (oL (X11_bottom μ)) := by
  refine sMt_of (own := 11) (bl := false) (by decide +kernel) rfl (Nat.le_of_ble_eq_true rfl) (fun r ρ h => ?_) ?_
  · obtain ⟨q, -, hq⟩ := Option.map_eq_some_iff.mp h
    cases hq
    exact rfl
  · unfold X11_bottom
    show sOk 11 cX11_bottom 1 1 false 0 [(0, vr 12 0)] [] μ _
    refine sBk (lo' := [(0, vr 12 0)]) (st' := [vl (rL μ 12 0 2)]) (μ' := μ) (pc' := 4) [(.aload_n 0, 0, 0, 0, 0), (.getfield 7, 11, 2, 0, 0)] (by decide +kernel) rfl rfl ?_
    exact sRl (by decide +kernel)
/-! ClockRiver.deny -/
def X11_deny (a1 : Int32) (μ : sM) : Option (Int32 × sM) :=
  some (0, wI μ 12 0 0 a1)
theorem tX11_deny (a1 : Int32) (μ : sM) : sMt yX11_deny cX11_deny 2 (some .boolean) 1 [vr 12 0, vi a1] μ (oI (X11_deny a1 μ)) := by
  refine sMt_of (own := 11) (bl := true) (by decide +kernel) rfl (Nat.le_of_ble_eq_true rfl) (fun r ρ h => ?_) ?_
  · obtain ⟨q, -, hq⟩ := Option.map_eq_some_iff.mp h
    cases hq
    exact Or.inr ⟨rfl, rfl⟩
  · unfold X11_deny
    show sOk 11 cX11_deny 2 1 true 0 [(0, vr 12 0), (1, vi a1)] [] μ _
    refine sBk (lo' := [(0, vr 12 0), (1, vi a1)]) (st' := [vi 0]) (μ' := wI μ 12 0 0 a1) (pc' := 6) [(.aload_n 0, 0, 0, 0, 0), (.iload_n 1, 0, 0, 0, 0), (.putfield 80, 11, 0, 0, 0), (.iconst 0, 0, 0, 0, 0)] (by decide +kernel) rfl rfl ?_
    exact sRi (by decide +kernel) (fun _ => Or.inl rfl)
/-! ClockRiver.grant -/
def X11_grant (μ : sM) : Option (Int32 × sM) :=
  some (1, wI μ 12 0 0 0)
theorem tX11_grant (μ : sM) : sMt yX11_grant cX11_grant 1 (some .boolean) 1 [vr 12 0] μ (oI (X11_grant μ)) := by
  refine sMt_of (own := 11) (bl := true) (by decide +kernel) rfl (Nat.le_of_ble_eq_true rfl) (fun r ρ h => ?_) ?_
  · obtain ⟨q, -, hq⟩ := Option.map_eq_some_iff.mp h
    cases hq
    exact Or.inr ⟨rfl, rfl⟩
  · unfold X11_grant
    show sOk 11 cX11_grant 1 1 true 0 [(0, vr 12 0)] [] μ _
    refine sBk (lo' := [(0, vr 12 0)]) (st' := [vi 1]) (μ' := wI μ 12 0 0 0) (pc' := 6) [(.aload_n 0, 0, 0, 0, 0), (.iconst 0, 0, 0, 0, 0), (.putfield 80, 11, 0, 0, 0), (.iconst 1, 0, 0, 1, 0)] (by decide +kernel) rfl rfl ?_
    exact sRi (by decide +kernel) (fun _ => Or.inr rfl)
/-! ClockRiver.tray -/
def X11_tray_J16 (μ : sM) : Option (Int32 × sM) :=
  bI (X11_deny 1 μ) fun x1 μ2 =>
    if x1 = 0 ∨ x1 = 1 then some (x1, μ2) else none
theorem X11_tray_J16_ok (μ : sM) : sOk 11 cX11_tray 4 2 true 16 [(0, vr 12 0)] [] μ (oI (X11_tray_J16 μ)) := by
  unfold X11_tray_J16
  refine sBk (lo' := [(0, vr 12 0)]) (st' := [vi 1, vr 12 0]) (μ' := μ) (pc' := 18) [(.aload_n 0, 0, 0, 0, 0), (.iconst 1, 0, 0, 1, 0)] (by decide +kernel) rfl rfl ?_
  refine sCvI oI rfl (ci := 11) (q := (12, 0)) (avs := [vi 1]) (rest := []) (tX11_deny 1 μ) (by decide) (by decide +kernel) lk_11_91 yv_X11_deny rfl (by decide) rfl rfl rfl (Nat.le_of_ble_eq_true rfl) (fun x1 μ2 => ?_)
  exact sCk oI rfl (fun h => sRi (by decide +kernel) (fun _ => h))
def X11_tray (a1 : Int32) (a2 : Int32) (a3 : Int32) (μ : sM) : Option (Int32 × sM) :=
  bI (X7_isTray a1 μ) fun x1 μ2 =>
    if x1 = 0 then
      X11_tray_J16 μ2
    else
      if a2 < 0 then
        X11_tray_J16 μ2
      else
        if a2 < 4 then
          if a3 ≤ 60 then
            if 0 ≤ a3 then
              bV (X7_renew a1 a2 a3 μ2) fun μ4 =>
                bI (X11_grant μ4) fun x5 μ6 =>
                  if x5 = 0 ∨ x5 = 1 then some (x5, μ6) else none
            else
              bI (X11_deny 6 μ2) fun x7 μ8 =>
                if x7 = 0 ∨ x7 = 1 then some (x7, μ8) else none
          else
            bI (X11_deny 5 μ2) fun x9 μ10 =>
              if x9 = 0 ∨ x9 = 1 then some (x9, μ10) else none
        else
          X11_tray_J16 μ2
theorem tX11_tray (a1 : Int32) (a2 : Int32) (a3 : Int32) (μ : sM) : sMt yX11_tray cX11_tray 4 (some .boolean) 2 [vr 12 0, vi a1, vi a2, vi a3] μ (oI (X11_tray a1 a2 a3 μ)) := by
  refine sMt_of (own := 11) (bl := true) (by decide +kernel) rfl (Nat.le_of_ble_eq_true rfl) (fun r ρ h => ?_) ?_
  · obtain ⟨q, -, hq⟩ := Option.map_eq_some_iff.mp h
    cases hq
    exact Or.inr ⟨rfl, rfl⟩
  · unfold X11_tray
    show sOk 11 cX11_tray 4 2 true 0 [(0, vr 12 0), (1, vi a1), (2, vi a2), (3, vi a3)] [] μ _
    refine sBk (lo' := [(0, vr 12 0), (1, vi a1), (2, vi a2), (3, vi a3)]) (st' := [vi a1]) (μ' := μ) (pc' := 1) [(.iload_n 1, 0, 0, 0, 0)] (by decide +kernel) rfl rfl ?_
    refine sCsI oI rfl (avs := [vi a1]) (rest := []) (tX7_isTray a1 μ) (by decide) (by decide +kernel) lk_11_87 ys_X7_isTray rfl rfl (Nat.le_of_ble_eq_true rfl) (fun x1 μ2 => ?_)
    refine sIf_eq oI (off := 12) (tgt := 16) (by decide +kernel) (by decide) (fun _ => ?_) (fun _ => ?_)
    · refine sWk (lo' := [(0, vr 12 0)]) [0] rfl ?_
      exact X11_tray_J16_ok μ2
    · refine sBk (lo' := [(0, vr 12 0), (1, vi a1), (2, vi a2), (3, vi a3)]) (st' := [vi a2]) (μ' := μ2) (pc' := 8) [(.iload_n 2, 0, 0, 0, 0)] (by decide +kernel) rfl rfl ?_
      refine sIf_lt oI (off := 8) (tgt := 16) (by decide +kernel) (by decide) (fun _ => ?_) (fun _ => ?_)
      · refine sWk (lo' := [(0, vr 12 0)]) [0] rfl ?_
        exact X11_tray_J16_ok μ2
      · refine sBk (lo' := [(0, vr 12 0), (1, vi a1), (2, vi a2), (3, vi a3)]) (st' := [vi 4, vi a2]) (μ' := μ2) (pc' := 13) [(.iload_n 2, 0, 0, 0, 0), (.iconst 4, 0, 0, 4, 0)] (by decide +kernel) rfl rfl ?_
        refine sIc_lt oI (off := 9) (tgt := 22) (by decide +kernel) (by decide) (fun _ => ?_) (fun _ => ?_)
        · refine sBk (lo' := [(0, vr 12 0), (1, vi a1), (2, vi a2), (3, vi a3)]) (st' := [vi 60, vi a3]) (μ' := μ2) (pc' := 25) [(.iload_n 3, 0, 0, 0, 0), (.bipush 60, 0, 0, 60, 0)] (by decide +kernel) rfl rfl ?_
          refine sIc_le oI (off := 9) (tgt := 34) (by decide +kernel) (by decide) (fun _ => ?_) (fun _ => ?_)
          · refine sBk (lo' := [(0, vr 12 0), (1, vi a1), (2, vi a2), (3, vi a3)]) (st' := [vi a3]) (μ' := μ2) (pc' := 35) [(.iload_n 3, 0, 0, 0, 0)] (by decide +kernel) rfl rfl ?_
            refine sIf_ge oI (off := 10) (tgt := 45) (by decide +kernel) (by decide) (fun _ => ?_) (fun _ => ?_)
            · refine sBk (lo' := [(0, vr 12 0), (1, vi a1), (2, vi a2), (3, vi a3)]) (st' := [vi a3, vi a2, vi a1, vr 8 0]) (μ' := μ2) (pc' := 52) [(.aload_n 0, 0, 0, 0, 0), (.getfield 30, 11, 6, 0, 0), (.iload_n 1, 0, 0, 0, 0), (.iload_n 2, 0, 0, 0, 0), (.iload_n 3, 0, 0, 0, 0)] (by decide +kernel) rfl rfl ?_
              refine sCvV oI rfl (ci := 7) (q := (8, 0)) (avs := [vi a1, vi a2, vi a3]) (rest := []) (tX7_renew a1 a2 a3 μ2) (by decide) (by decide +kernel) lk_11_94 yv_X7_renew rfl (by decide) rfl rfl rfl (Nat.le_of_ble_eq_true rfl) (fun μ4 => ?_)
              refine sBk (lo' := [(0, vr 12 0), (1, vi a1), (2, vi a2), (3, vi a3)]) (st' := [vr 12 0]) (μ' := μ4) (pc' := 56) [(.aload_n 0, 0, 0, 0, 0)] (by decide +kernel) rfl rfl ?_
              refine sCvI oI rfl (ci := 11) (q := (12, 0)) (avs := []) (rest := []) (tX11_grant μ4) (by decide) (by decide +kernel) lk_11_98 yv_X11_grant rfl (by decide) rfl rfl rfl (Nat.le_of_ble_eq_true rfl) (fun x5 μ6 => ?_)
              exact sCk oI rfl (fun h => sRi (by decide +kernel) (fun _ => h))
            · refine sBk (lo' := [(0, vr 12 0), (1, vi a1), (2, vi a2), (3, vi a3)]) (st' := [vi 6, vr 12 0]) (μ' := μ2) (pc' := 41) [(.aload_n 0, 0, 0, 0, 0), (.bipush 6, 0, 0, 6, 0)] (by decide +kernel) rfl rfl ?_
              refine sCvI oI rfl (ci := 11) (q := (12, 0)) (avs := [vi 6]) (rest := []) (tX11_deny 6 μ2) (by decide) (by decide +kernel) lk_11_91 yv_X11_deny rfl (by decide) rfl rfl rfl (Nat.le_of_ble_eq_true rfl) (fun x7 μ8 => ?_)
              exact sCk oI rfl (fun h => sRi (by decide +kernel) (fun _ => h))
          · refine sBk (lo' := [(0, vr 12 0), (1, vi a1), (2, vi a2), (3, vi a3)]) (st' := [vi 5, vr 12 0]) (μ' := μ2) (pc' := 30) [(.aload_n 0, 0, 0, 0, 0), (.iconst 5, 0, 0, 5, 0)] (by decide +kernel) rfl rfl ?_
            refine sCvI oI rfl (ci := 11) (q := (12, 0)) (avs := [vi 5]) (rest := []) (tX11_deny 5 μ2) (by decide) (by decide +kernel) lk_11_91 yv_X11_deny rfl (by decide) rfl rfl rfl (Nat.le_of_ble_eq_true rfl) (fun x9 μ10 => ?_)
            exact sCk oI rfl (fun h => sRi (by decide +kernel) (fun _ => h))
        · refine sWk (lo' := [(0, vr 12 0)]) [0] rfl ?_
          exact X11_tray_J16_ok μ2
/-! ClockRiver.write -/
def X11_write (a1 : Int32) (a2 : Int32) (a3 : Int64) (μ : sM) : Option (Int32 × sM) :=
  bI (X7_whyNoPlace a1 a2 μ) fun x1 μ2 =>
    if x1 = 0 then
      bV (X7_put a1 a2 a3 μ2) fun μ4 =>
        bI (X11_grant μ4) fun x5 μ6 =>
          if x5 = 0 ∨ x5 = 1 then some (x5, μ6) else none
    else
      bI (X11_deny x1 μ2) fun x7 μ8 =>
        if x7 = 0 ∨ x7 = 1 then some (x7, μ8) else none
theorem tX11_write (a1 : Int32) (a2 : Int32) (a3 : Int64) (μ : sM) : sMt yX11_write cX11_write 6 (some .boolean) 3 [vr 12 0, vi a1, vi a2, vl a3] μ (oI (X11_write a1 a2 a3 μ)) := by
  refine sMt_of (own := 11) (bl := true) (by decide +kernel) rfl (Nat.le_of_ble_eq_true rfl) (fun r ρ h => ?_) ?_
  · obtain ⟨q, -, hq⟩ := Option.map_eq_some_iff.mp h
    cases hq
    exact Or.inr ⟨rfl, rfl⟩
  · unfold X11_write
    show sOk 11 cX11_write 6 3 true 0 [(0, vr 12 0), (1, vi a1), (2, vi a2), (3, vl a3)] [] μ _
    refine sBk (lo' := [(0, vr 12 0), (1, vi a1), (2, vi a2), (3, vl a3)]) (st' := [vi a2, vi a1, vr 8 0]) (μ' := μ) (pc' := 6) [(.aload_n 0, 0, 0, 0, 0), (.getfield 30, 11, 6, 0, 0), (.iload_n 1, 0, 0, 0, 0), (.iload_n 2, 0, 0, 0, 0)] (by decide +kernel) rfl rfl ?_
    refine sCvI oI rfl (ci := 7) (q := (8, 0)) (avs := [vi a1, vi a2]) (rest := []) (tX7_whyNoPlace a1 a2 μ) (by decide) (by decide +kernel) lk_11_102 yv_X7_whyNoPlace rfl (by decide) rfl rfl rfl (Nat.le_of_ble_eq_true rfl) (fun x1 μ2 => ?_)
    refine sBk (lo' := [(5, vi x1), (0, vr 12 0), (1, vi a1), (2, vi a2), (3, vl a3)]) (st' := [vi x1]) (μ' := μ2) (pc' := 13) [(.istore 5, 0, 0, 0, 0), (.iload 5, 0, 0, 0, 0)] (by decide +kernel) rfl rfl ?_
    refine sIf_eq oI (off := 10) (tgt := 23) (by decide +kernel) (by decide) (fun _ => ?_) (fun _ => ?_)
    · refine sBk (lo' := [(5, vi x1), (0, vr 12 0), (1, vi a1), (2, vi a2), (3, vl a3)]) (st' := [vl a3, vi a2, vi a1, vr 8 0]) (μ' := μ2) (pc' := 30) [(.aload_n 0, 0, 0, 0, 0), (.getfield 30, 11, 6, 0, 0), (.iload_n 1, 0, 0, 0, 0), (.iload_n 2, 0, 0, 0, 0), (.lload_n 3, 0, 0, 0, 0)] (by decide +kernel) rfl rfl ?_
      refine sCvV oI rfl (ci := 7) (q := (8, 0)) (avs := [vi a1, vi a2, vl a3]) (rest := []) (tX7_put a1 a2 a3 μ2) (by decide) (by decide +kernel) lk_11_106 yv_X7_put rfl (by decide) rfl rfl rfl (Nat.le_of_ble_eq_true rfl) (fun μ4 => ?_)
      refine sBk (lo' := [(5, vi x1), (0, vr 12 0), (1, vi a1), (2, vi a2), (3, vl a3)]) (st' := [vr 12 0]) (μ' := μ4) (pc' := 34) [(.aload_n 0, 0, 0, 0, 0)] (by decide +kernel) rfl rfl ?_
      refine sCvI oI rfl (ci := 11) (q := (12, 0)) (avs := []) (rest := []) (tX11_grant μ4) (by decide) (by decide +kernel) lk_11_98 yv_X11_grant rfl (by decide) rfl rfl rfl (Nat.le_of_ble_eq_true rfl) (fun x5 μ6 => ?_)
      exact sCk oI rfl (fun h => sRi (by decide +kernel) (fun _ => h))
    · refine sBk (lo' := [(5, vi x1), (0, vr 12 0), (1, vi a1), (2, vi a2), (3, vl a3)]) (st' := [vi x1, vr 12 0]) (μ' := μ2) (pc' := 19) [(.aload_n 0, 0, 0, 0, 0), (.iload 5, 0, 0, 0, 0)] (by decide +kernel) rfl rfl ?_
      refine sCvI oI rfl (ci := 11) (q := (12, 0)) (avs := [vi x1]) (rest := []) (tX11_deny x1 μ2) (by decide) (by decide +kernel) lk_11_91 yv_X11_deny rfl (by decide) rfl rfl rfl (Nat.le_of_ble_eq_true rfl) (fun x7 μ8 => ?_)
      exact sCk oI rfl (fun h => sRi (by decide +kernel) (fun _ => h))
/-! ClockRiver.refuse -/
def X11_refuse (a1 : Int32) (μ : sM) : Option (Int32 × sM) :=
  some ((-1), wI μ 12 0 0 a1)
theorem tX11_refuse (a1 : Int32) (μ : sM) : sMt yX11_refuse cX11_refuse 2 (some .int) 1 [vr 12 0, vi a1] μ (oI (X11_refuse a1 μ)) := by
  refine sMt_of (own := 11) (bl := false) (by decide +kernel) rfl (Nat.le_of_ble_eq_true rfl) (fun r ρ h => ?_) ?_
  · obtain ⟨q, -, hq⟩ := Option.map_eq_some_iff.mp h
    cases hq
    exact Or.inl rfl
  · unfold X11_refuse
    show sOk 11 cX11_refuse 2 1 false 0 [(0, vr 12 0), (1, vi a1)] [] μ _
    refine sBk (lo' := [(0, vr 12 0), (1, vi a1)]) (st' := [vi (-1)]) (μ' := wI μ 12 0 0 a1) (pc' := 6) [(.aload_n 0, 0, 0, 0, 0), (.iload_n 1, 0, 0, 0, 0), (.putfield 80, 11, 0, 0, 0), (.iconst (-1), 0, 0, (-1), 0)] (by decide +kernel) rfl rfl ?_
    exact sRi (by decide +kernel) (fun h => by cases h)
/-! ClockRiver.read -/
def X11_read (a1 : Int32) (a2 : Int32) (μ : sM) : Option (Int64 × sM) :=
  bI (X7_whyNoPlace a1 a2 μ) fun x1 μ2 =>
    if x1 = 0 then
      if inb a1 4 = true then
        if inb a2 60 = true then
          some ((rL μ2 40 (0 + (ix a1)) (ix a2)), wI μ2 12 0 0 0)
        else none
      else none
    else
      bI (X11_refuse x1 μ2) fun x3 μ4 =>
        some ((Int32.toInt64 x3), μ4)
theorem tX11_read (a1 : Int32) (a2 : Int32) (μ : sM) : sMt yX11_read cX11_read 4 (some .long) 3 [vr 12 0, vi a1, vi a2] μ (oL (X11_read a1 a2 μ)) := by
  refine sMt_of (own := 11) (bl := false) (by decide +kernel) rfl (Nat.le_of_ble_eq_true rfl) (fun r ρ h => ?_) ?_
  · obtain ⟨q, -, hq⟩ := Option.map_eq_some_iff.mp h
    cases hq
    exact rfl
  · unfold X11_read
    show sOk 11 cX11_read 4 3 false 0 [(0, vr 12 0), (1, vi a1), (2, vi a2)] [] μ _
    refine sBk (lo' := [(0, vr 12 0), (1, vi a1), (2, vi a2)]) (st' := [vi a2, vi a1, vr 8 0]) (μ' := μ) (pc' := 6) [(.aload_n 0, 0, 0, 0, 0), (.getfield 30, 11, 6, 0, 0), (.iload_n 1, 0, 0, 0, 0), (.iload_n 2, 0, 0, 0, 0)] (by decide +kernel) rfl rfl ?_
    refine sCvI oL rfl (ci := 7) (q := (8, 0)) (avs := [vi a1, vi a2]) (rest := []) (tX7_whyNoPlace a1 a2 μ) (by decide) (by decide +kernel) lk_11_102 yv_X7_whyNoPlace rfl (by decide) rfl rfl rfl (Nat.le_of_ble_eq_true rfl) (fun x1 μ2 => ?_)
    refine sBk (lo' := [(3, vi x1), (0, vr 12 0), (1, vi a1), (2, vi a2)]) (st' := [vi x1]) (μ' := μ2) (pc' := 11) [(.istore_n 3, 0, 0, 0, 0), (.iload_n 3, 0, 0, 0, 0)] (by decide +kernel) rfl rfl ?_
    refine sIf_eq oL (off := 10) (tgt := 21) (by decide +kernel) (by decide) (fun _ => ?_) (fun _ => ?_)
    · refine sBk (lo' := [(3, vi x1), (0, vr 12 0), (1, vi a1), (2, vi a2)]) (st' := [vi a1, vr 39 0]) (μ' := wI μ2 12 0 0 0) (pc' := 34) [(.aload_n 0, 0, 0, 0, 0), (.iconst 0, 0, 0, 0, 0), (.putfield 80, 11, 0, 0, 0), (.aload_n 0, 0, 0, 0, 0), (.getfield 30, 11, 6, 0, 0), (.getfield 114, 7, 0, 0, 0), (.iload_n 1, 0, 0, 0, 0)] (by decide +kernel) rfl rfl ?_
      refine sS_aal oL rfl (n := 4) (j := (ix a1)) (by decide +kernel) rfl rfl rfl (fun _ => ?_)
      refine sBk (lo' := [(3, vi x1), (0, vr 12 0), (1, vi a1), (2, vi a2)]) (st' := [vi a2, vr 40 (0 + (ix a1))]) (μ' := wI μ2 12 0 0 0) (pc' := 36) [(.iload_n 2, 0, 0, 0, 0)] (by decide +kernel) rfl rfl ?_
      refine sS_lal oL rfl (n := 60) (j := (ix a2)) (by decide +kernel) rfl rfl rfl (fun _ => ?_)
      exact sRl (by decide +kernel)
    · refine sBk (lo' := [(3, vi x1), (0, vr 12 0), (1, vi a1), (2, vi a2)]) (st' := [vi x1, vr 12 0]) (μ' := μ2) (pc' := 16) [(.aload_n 0, 0, 0, 0, 0), (.iload_n 3, 0, 0, 0, 0)] (by decide +kernel) rfl rfl ?_
      refine sCvI oL rfl (ci := 11) (q := (12, 0)) (avs := [vi x1]) (rest := []) (tX11_refuse x1 μ2) (by decide) (by decide +kernel) lk_11_110 yv_X11_refuse rfl (by decide) rfl rfl rfl (Nat.le_of_ble_eq_true rfl) (fun x3 μ4 => ?_)
      refine sBk (lo' := [(3, vi x1), (0, vr 12 0), (1, vi a1), (2, vi a2)]) (st' := [vl (Int32.toInt64 x3)]) (μ' := μ4) (pc' := 20) [(.i2l, 0, 0, 0, 0)] (by decide +kernel) rfl rfl ?_
      exact sRl (by decide +kernel)
/-! ClockRiver.pour -/
def X11_pour_J14 (μ : sM) : Option (Int32 × sM) :=
  bI (X11_deny 1 μ) fun x1 μ2 =>
    if x1 = 0 ∨ x1 = 1 then some (x1, μ2) else none
theorem X11_pour_J14_ok (μ : sM) : sOk 11 cX11_pour 6 2 true 14 [(0, vr 12 0)] [] μ (oI (X11_pour_J14 μ)) := by
  unfold X11_pour_J14
  refine sBk (lo' := [(0, vr 12 0)]) (st' := [vi 1, vr 12 0]) (μ' := μ) (pc' := 16) [(.aload_n 0, 0, 0, 0, 0), (.iconst 1, 0, 0, 1, 0)] (by decide +kernel) rfl rfl ?_
  refine sCvI oI rfl (ci := 11) (q := (12, 0)) (avs := [vi 1]) (rest := []) (tX11_deny 1 μ) (by decide) (by decide +kernel) lk_11_91 yv_X11_deny rfl (by decide) rfl rfl rfl (Nat.le_of_ble_eq_true rfl) (fun x1 μ2 => ?_)
  exact sCk oI rfl (fun h => sRi (by decide +kernel) (fun _ => h))
def X11_pour_J42 (μ : sM) : Option (Int32 × sM) :=
  bI (X11_deny 3 μ) fun x1 μ2 =>
    if x1 = 0 ∨ x1 = 1 then some (x1, μ2) else none
theorem X11_pour_J42_ok (μ : sM) : sOk 11 cX11_pour 6 2 true 42 [(0, vr 12 0)] [] μ (oI (X11_pour_J42 μ)) := by
  unfold X11_pour_J42
  refine sBk (lo' := [(0, vr 12 0)]) (st' := [vi 3, vr 12 0]) (μ' := μ) (pc' := 44) [(.aload_n 0, 0, 0, 0, 0), (.iconst 3, 0, 0, 3, 0)] (by decide +kernel) rfl rfl ?_
  refine sCvI oI rfl (ci := 11) (q := (12, 0)) (avs := [vi 3]) (rest := []) (tX11_deny 3 μ) (by decide) (by decide +kernel) lk_11_91 yv_X11_deny rfl (by decide) rfl rfl rfl (Nat.le_of_ble_eq_true rfl) (fun x1 μ2 => ?_)
  exact sCk oI rfl (fun h => sRi (by decide +kernel) (fun _ => h))
def X11_pour_J117 (μ : sM) : Option (Int32 × sM) :=
  bI (X11_deny 4 μ) fun x1 μ2 =>
    if x1 = 0 ∨ x1 = 1 then some (x1, μ2) else none
theorem X11_pour_J117_ok (μ : sM) : sOk 11 cX11_pour 6 2 true 117 [(0, vr 12 0)] [] μ (oI (X11_pour_J117 μ)) := by
  unfold X11_pour_J117
  refine sBk (lo' := [(0, vr 12 0)]) (st' := [vi 4, vr 12 0]) (μ' := μ) (pc' := 119) [(.aload_n 0, 0, 0, 0, 0), (.iconst 4, 0, 0, 4, 0)] (by decide +kernel) rfl rfl ?_
  refine sCvI oI rfl (ci := 11) (q := (12, 0)) (avs := [vi 4]) (rest := []) (tX11_deny 4 μ) (by decide) (by decide +kernel) lk_11_91 yv_X11_deny rfl (by decide) rfl rfl rfl (Nat.le_of_ble_eq_true rfl) (fun x1 μ2 => ?_)
  exact sCk oI rfl (fun h => sRi (by decide +kernel) (fun _ => h))
def X11_pour (a1 : Int32) (a2 : Int32) (a3 : Int32) (a4 : Int32) (a5 : Int32) (μ : sM) : Option (Int32 × sM) :=
  bI (X7_isTray a1 μ) fun x1 μ2 =>
    if x1 = 0 then
      X11_pour_J14 μ2
    else
      bI (X7_isTray a3 μ2) fun x3 μ4 =>
        if x3 = 0 then
          X11_pour_J14 μ4
        else
          bI (X7_isMissing a1 μ4) fun x5 μ6 =>
            if x5 = 0 then
              bI (X7_isMissing a3 μ6) fun x7 μ8 =>
                if x7 = 0 then
                  if inb a1 4 = true then
                    if inb a3 4 = true then
                      if (rI μ8 41 0 (ix a1)) = (rI μ8 41 0 (ix a3)) then
                        if 0 ≤ a5 then
                          bI (X7_hasRoom a1 a2 a5 μ8) fun x9 μ10 =>
                            if x9 = 0 then
                              X11_pour_J117 μ10
                            else
                              bI (X7_hasRoom a3 a4 a5 μ10) fun x11 μ12 =>
                                if x11 = 0 then
                                  X11_pour_J117 μ12
                                else
                                  if inb a1 4 = true then
                                    if inb a3 4 = true then
                                      if cpo a2 a4 a5 60 60 = true then
                                        bI (X11_grant (cL μ12 40 (0 + (ix a1)) (ix a2) 40 (0 + (ix a3)) (ix a4) (ix a5))) fun x13 μ14 =>
                                          if x13 = 0 ∨ x13 = 1 then some (x13, μ14) else none
                                      else none
                                    else none
                                  else none
                        else
                          bI (X11_deny 6 μ8) fun x15 μ16 =>
                            if x15 = 0 ∨ x15 = 1 then some (x15, μ16) else none
                      else
                        bI (X11_deny 11 μ8) fun x17 μ18 =>
                          if x17 = 0 ∨ x17 = 1 then some (x17, μ18) else none
                    else none
                  else none
                else
                  X11_pour_J42 μ8
            else
              X11_pour_J42 μ6
theorem tX11_pour (a1 : Int32) (a2 : Int32) (a3 : Int32) (a4 : Int32) (a5 : Int32) (μ : sM) : sMt yX11_pour cX11_pour 6 (some .boolean) 2 [vr 12 0, vi a1, vi a2, vi a3, vi a4, vi a5] μ (oI (X11_pour a1 a2 a3 a4 a5 μ)) := by
  refine sMt_of (own := 11) (bl := true) (by decide +kernel) rfl (Nat.le_of_ble_eq_true rfl) (fun r ρ h => ?_) ?_
  · obtain ⟨q, -, hq⟩ := Option.map_eq_some_iff.mp h
    cases hq
    exact Or.inr ⟨rfl, rfl⟩
  · unfold X11_pour
    show sOk 11 cX11_pour 6 2 true 0 [(0, vr 12 0), (1, vi a1), (2, vi a2), (3, vi a3), (4, vi a4), (5, vi a5)] [] μ _
    refine sBk (lo' := [(0, vr 12 0), (1, vi a1), (2, vi a2), (3, vi a3), (4, vi a4), (5, vi a5)]) (st' := [vi a1]) (μ' := μ) (pc' := 1) [(.iload_n 1, 0, 0, 0, 0)] (by decide +kernel) rfl rfl ?_
    refine sCsI oI rfl (avs := [vi a1]) (rest := []) (tX7_isTray a1 μ) (by decide) (by decide +kernel) lk_11_87 ys_X7_isTray rfl rfl (Nat.le_of_ble_eq_true rfl) (fun x1 μ2 => ?_)
    refine sIf_eq oI (off := 10) (tgt := 14) (by decide +kernel) (by decide) (fun _ => ?_) (fun _ => ?_)
    · refine sWk (lo' := [(0, vr 12 0)]) [0] rfl ?_
      exact X11_pour_J14_ok μ2
    · refine sBk (lo' := [(0, vr 12 0), (1, vi a1), (2, vi a2), (3, vi a3), (4, vi a4), (5, vi a5)]) (st' := [vi a3]) (μ' := μ2) (pc' := 8) [(.iload_n 3, 0, 0, 0, 0)] (by decide +kernel) rfl rfl ?_
      refine sCsI oI rfl (avs := [vi a3]) (rest := []) (tX7_isTray a3 μ2) (by decide) (by decide +kernel) lk_11_87 ys_X7_isTray rfl rfl (Nat.le_of_ble_eq_true rfl) (fun x3 μ4 => ?_)
      refine sIf_ne oI (off := 9) (tgt := 20) (by decide +kernel) (by decide) (fun _ => ?_) (fun _ => ?_)
      · refine sBk (lo' := [(0, vr 12 0), (1, vi a1), (2, vi a2), (3, vi a3), (4, vi a4), (5, vi a5)]) (st' := [vi a1, vr 8 0]) (μ' := μ4) (pc' := 25) [(.aload_n 0, 0, 0, 0, 0), (.getfield 30, 11, 6, 0, 0), (.iload_n 1, 0, 0, 0, 0)] (by decide +kernel) rfl rfl ?_
        refine sCvI oI rfl (ci := 7) (q := (8, 0)) (avs := [vi a1]) (rest := []) (tX7_isMissing a1 μ4) (by decide) (by decide +kernel) lk_11_118 yv_X7_isMissing rfl (by decide) rfl rfl rfl (Nat.le_of_ble_eq_true rfl) (fun x5 μ6 => ?_)
        refine sIf_ne oI (off := 14) (tgt := 42) (by decide +kernel) (by decide) (fun _ => ?_) (fun _ => ?_)
        · refine sWk (lo' := [(0, vr 12 0)]) [0] rfl ?_
          exact X11_pour_J42_ok μ6
        · refine sBk (lo' := [(0, vr 12 0), (1, vi a1), (2, vi a2), (3, vi a3), (4, vi a4), (5, vi a5)]) (st' := [vi a3, vr 8 0]) (μ' := μ6) (pc' := 36) [(.aload_n 0, 0, 0, 0, 0), (.getfield 30, 11, 6, 0, 0), (.iload_n 3, 0, 0, 0, 0)] (by decide +kernel) rfl rfl ?_
          refine sCvI oI rfl (ci := 7) (q := (8, 0)) (avs := [vi a3]) (rest := []) (tX7_isMissing a3 μ6) (by decide) (by decide +kernel) lk_11_118 yv_X7_isMissing rfl (by decide) rfl rfl rfl (Nat.le_of_ble_eq_true rfl) (fun x7 μ8 => ?_)
          refine sIf_eq oI (off := 9) (tgt := 48) (by decide +kernel) (by decide) (fun _ => ?_) (fun _ => ?_)
          · refine sBk (lo' := [(0, vr 12 0), (1, vi a1), (2, vi a2), (3, vi a3), (4, vi a4), (5, vi a5)]) (st' := [vi a1, vr 41 0]) (μ' := μ8) (pc' := 56) [(.aload_n 0, 0, 0, 0, 0), (.getfield 30, 11, 6, 0, 0), (.getfield 121, 7, 1, 0, 0), (.iload_n 1, 0, 0, 0, 0)] (by decide +kernel) rfl rfl ?_
            refine sS_ial oI rfl (n := 4) (j := (ix a1)) (by decide +kernel) rfl rfl rfl (fun _ => ?_)
            refine sBk (lo' := [(0, vr 12 0), (1, vi a1), (2, vi a2), (3, vi a3), (4, vi a4), (5, vi a5)]) (st' := [vi a3, vr 41 0, vi (rI μ8 41 0 (ix a1))]) (μ' := μ8) (pc' := 65) [(.aload_n 0, 0, 0, 0, 0), (.getfield 30, 11, 6, 0, 0), (.getfield 121, 7, 1, 0, 0), (.iload_n 3, 0, 0, 0, 0)] (by decide +kernel) rfl rfl ?_
            refine sS_ial oI rfl (n := 4) (j := (ix a3)) (by decide +kernel) rfl rfl rfl (fun _ => ?_)
            refine sIc_eq oI (off := 10) (tgt := 76) (by decide +kernel) (by decide) (fun _ => ?_) (fun _ => ?_)
            · refine sBk (lo' := [(0, vr 12 0), (1, vi a1), (2, vi a2), (3, vi a3), (4, vi a4), (5, vi a5)]) (st' := [vi a5]) (μ' := μ8) (pc' := 78) [(.iload 5, 0, 0, 0, 0)] (by decide +kernel) rfl rfl ?_
              refine sIf_ge oI (off := 10) (tgt := 88) (by decide +kernel) (by decide) (fun _ => ?_) (fun _ => ?_)
              · refine sBk (lo' := [(0, vr 12 0), (1, vi a1), (2, vi a2), (3, vi a3), (4, vi a4), (5, vi a5)]) (st' := [vi a5, vi a2, vi a1, vr 8 0]) (μ' := μ8) (pc' := 96) [(.aload_n 0, 0, 0, 0, 0), (.getfield 30, 11, 6, 0, 0), (.iload_n 1, 0, 0, 0, 0), (.iload_n 2, 0, 0, 0, 0), (.iload 5, 0, 0, 0, 0)] (by decide +kernel) rfl rfl ?_
                refine sCvI oI rfl (ci := 7) (q := (8, 0)) (avs := [vi a1, vi a2, vi a5]) (rest := []) (tX7_hasRoom a1 a2 a5 μ8) (by decide) (by decide +kernel) lk_11_125 yv_X7_hasRoom rfl (by decide) rfl rfl rfl (Nat.le_of_ble_eq_true rfl) (fun x9 μ10 => ?_)
                refine sIf_eq oI (off := 18) (tgt := 117) (by decide +kernel) (by decide) (fun _ => ?_) (fun _ => ?_)
                · refine sWk (lo' := [(0, vr 12 0)]) [0] rfl ?_
                  exact X11_pour_J117_ok μ10
                · refine sBk (lo' := [(0, vr 12 0), (1, vi a1), (2, vi a2), (3, vi a3), (4, vi a4), (5, vi a5)]) (st' := [vi a5, vi a4, vi a3, vr 8 0]) (μ' := μ10) (pc' := 111) [(.aload_n 0, 0, 0, 0, 0), (.getfield 30, 11, 6, 0, 0), (.iload_n 3, 0, 0, 0, 0), (.iload 4, 0, 0, 0, 0), (.iload 5, 0, 0, 0, 0)] (by decide +kernel) rfl rfl ?_
                  refine sCvI oI rfl (ci := 7) (q := (8, 0)) (avs := [vi a3, vi a4, vi a5]) (rest := []) (tX7_hasRoom a3 a4 a5 μ10) (by decide) (by decide +kernel) lk_11_125 yv_X7_hasRoom rfl (by decide) rfl rfl rfl (Nat.le_of_ble_eq_true rfl) (fun x11 μ12 => ?_)
                  refine sIf_ne oI (off := 9) (tgt := 123) (by decide +kernel) (by decide) (fun _ => ?_) (fun _ => ?_)
                  · refine sBk (lo' := [(0, vr 12 0), (1, vi a1), (2, vi a2), (3, vi a3), (4, vi a4), (5, vi a5)]) (st' := [vi a1, vr 39 0]) (μ' := μ12) (pc' := 131) [(.aload_n 0, 0, 0, 0, 0), (.getfield 30, 11, 6, 0, 0), (.getfield 114, 7, 0, 0, 0), (.iload_n 1, 0, 0, 0, 0)] (by decide +kernel) rfl rfl ?_
                    refine sS_aal oI rfl (n := 4) (j := (ix a1)) (by decide +kernel) rfl rfl rfl (fun _ => ?_)
                    refine sBk (lo' := [(0, vr 12 0), (1, vi a1), (2, vi a2), (3, vi a3), (4, vi a4), (5, vi a5)]) (st' := [vi a3, vr 39 0, vi a2, vr 40 (0 + (ix a1))]) (μ' := μ12) (pc' := 141) [(.iload_n 2, 0, 0, 0, 0), (.aload_n 0, 0, 0, 0, 0), (.getfield 30, 11, 6, 0, 0), (.getfield 114, 7, 0, 0, 0), (.iload_n 3, 0, 0, 0, 0)] (by decide +kernel) rfl rfl ?_
                    refine sS_aal oI rfl (n := 4) (j := (ix a3)) (by decide +kernel) rfl rfl rfl (fun _ => ?_)
                    refine sBk (lo' := [(0, vr 12 0), (1, vi a1), (2, vi a2), (3, vi a3), (4, vi a4), (5, vi a5)]) (st' := [vi a5, vi a4, vr 40 (0 + (ix a3)), vi a2, vr 40 (0 + (ix a1))]) (μ' := μ12) (pc' := 146) [(.iload 4, 0, 0, 0, 0), (.iload 5, 0, 0, 0, 0)] (by decide +kernel) rfl rfl ?_
                    refine sCk oI rfl (fun h => ?_)
                    refine sCpL (q0 := (40, (0 + (ix a1)))) (q1 := (40, (0 + (ix a3)))) (idx := 129) (p1 := 734) (by decide +kernel) rfl rfl (by decide) h ?_
                    refine sBk (lo' := [(0, vr 12 0), (1, vi a1), (2, vi a2), (3, vi a3), (4, vi a4), (5, vi a5)]) (st' := [vr 12 0]) (μ' := cL μ12 40 (0 + (ix a1)) (ix a2) 40 (0 + (ix a3)) (ix a4) (ix a5)) (pc' := 150) [(.aload_n 0, 0, 0, 0, 0)] (by decide +kernel) rfl rfl ?_
                    refine sCvI oI rfl (ci := 11) (q := (12, 0)) (avs := []) (rest := []) (tX11_grant (cL μ12 40 (0 + (ix a1)) (ix a2) 40 (0 + (ix a3)) (ix a4) (ix a5))) (by decide) (by decide +kernel) lk_11_98 yv_X11_grant rfl (by decide) rfl rfl rfl (Nat.le_of_ble_eq_true rfl) (fun x13 μ14 => ?_)
                    exact sCk oI rfl (fun h => sRi (by decide +kernel) (fun _ => h))
                  · refine sWk (lo' := [(0, vr 12 0)]) [0] rfl ?_
                    exact X11_pour_J117_ok μ12
              · refine sBk (lo' := [(0, vr 12 0), (1, vi a1), (2, vi a2), (3, vi a3), (4, vi a4), (5, vi a5)]) (st' := [vi 6, vr 12 0]) (μ' := μ8) (pc' := 84) [(.aload_n 0, 0, 0, 0, 0), (.bipush 6, 0, 0, 6, 0)] (by decide +kernel) rfl rfl ?_
                refine sCvI oI rfl (ci := 11) (q := (12, 0)) (avs := [vi 6]) (rest := []) (tX11_deny 6 μ8) (by decide) (by decide +kernel) lk_11_91 yv_X11_deny rfl (by decide) rfl rfl rfl (Nat.le_of_ble_eq_true rfl) (fun x15 μ16 => ?_)
                exact sCk oI rfl (fun h => sRi (by decide +kernel) (fun _ => h))
            · refine sBk (lo' := [(0, vr 12 0), (1, vi a1), (2, vi a2), (3, vi a3), (4, vi a4), (5, vi a5)]) (st' := [vi 11, vr 12 0]) (μ' := μ8) (pc' := 72) [(.aload_n 0, 0, 0, 0, 0), (.bipush 11, 0, 0, 11, 0)] (by decide +kernel) rfl rfl ?_
              refine sCvI oI rfl (ci := 11) (q := (12, 0)) (avs := [vi 11]) (rest := []) (tX11_deny 11 μ8) (by decide) (by decide +kernel) lk_11_91 yv_X11_deny rfl (by decide) rfl rfl rfl (Nat.le_of_ble_eq_true rfl) (fun x17 μ18 => ?_)
              exact sCk oI rfl (fun h => sRi (by decide +kernel) (fun _ => h))
          · refine sWk (lo' := [(0, vr 12 0)]) [0] rfl ?_
            exact X11_pour_J42_ok μ8
      · refine sWk (lo' := [(0, vr 12 0)]) [0] rfl ?_
        exact X11_pour_J14_ok μ4
/-! ClockRiver.feed -/
def X11_feed (a1 : Int32) (a2 : Int32) (a3 : Int32) (a4 : Int32) (a5 : Int32) (μ : sM) : Option (Int32 × sM) :=
  if ((rI μ 7 0 1) + 20) ≤ 900 then
    bV (X6_append a1 μ) fun μ2 =>
      bV (X6_append a2 μ2) fun μ4 =>
        bV (X6_append a3 μ4) fun μ6 =>
          bV (X6_append a4 μ6) fun μ8 =>
            bV (X6_append a5 μ8) fun μ10 =>
              some ((rI μ10 7 0 1), μ10)
  else
    some ((-1), μ)
theorem tX11_feed (a1 : Int32) (a2 : Int32) (a3 : Int32) (a4 : Int32) (a5 : Int32) (μ : sM) : sMt yX11_feed cX11_feed 6 (some .int) 2 [vr 12 0, vi a1, vi a2, vi a3, vi a4, vi a5] μ (oI (X11_feed a1 a2 a3 a4 a5 μ)) := by
  refine sMt_of (own := 11) (bl := false) (by decide +kernel) rfl (Nat.le_of_ble_eq_true rfl) (fun r ρ h => ?_) ?_
  · obtain ⟨q, -, hq⟩ := Option.map_eq_some_iff.mp h
    cases hq
    exact Or.inl rfl
  · unfold X11_feed
    show sOk 11 cX11_feed 6 2 false 0 [(0, vr 12 0), (1, vi a1), (2, vi a2), (3, vi a3), (4, vi a4), (5, vi a5)] [] μ _
    refine sBk (lo' := [(0, vr 12 0), (1, vi a1), (2, vi a2), (3, vi a3), (4, vi a4), (5, vi a5)]) (st' := [vi 900, vi ((rI μ 7 0 1) + 20)]) (μ' := μ) (pc' := 13) [(.aload_n 0, 0, 0, 0, 0), (.getfield 37, 11, 7, 0, 0), (.getfield 135, 6, 1, 0, 0), (.bipush 20, 0, 0, 20, 0), (.iadd, 0, 0, 0, 0), (.sipush 900, 0, 0, 900, 0)] (by decide +kernel) rfl rfl ?_
    refine sIc_le oI (off := 5) (tgt := 18) (by decide +kernel) (by decide) (fun _ => ?_) (fun _ => ?_)
    · refine sBk (lo' := [(0, vr 12 0), (1, vi a1), (2, vi a2), (3, vi a3), (4, vi a4), (5, vi a5)]) (st' := [vi a1, vr 7 0]) (μ' := μ) (pc' := 23) [(.aload_n 0, 0, 0, 0, 0), (.getfield 37, 11, 7, 0, 0), (.iload_n 1, 0, 0, 0, 0)] (by decide +kernel) rfl rfl ?_
      refine sCvV oI rfl (ci := 6) (q := (7, 0)) (avs := [vi a1]) (rest := []) (tX6_append a1 μ) (by decide) (by decide +kernel) lk_11_138 yv_X6_append rfl (by decide) rfl rfl rfl (Nat.le_of_ble_eq_true rfl) (fun μ2 => ?_)
      refine sBk (lo' := [(0, vr 12 0), (1, vi a1), (2, vi a2), (3, vi a3), (4, vi a4), (5, vi a5)]) (st' := [vi a2, vr 7 0]) (μ' := μ2) (pc' := 31) [(.aload_n 0, 0, 0, 0, 0), (.getfield 37, 11, 7, 0, 0), (.iload_n 2, 0, 0, 0, 0)] (by decide +kernel) rfl rfl ?_
      refine sCvV oI rfl (ci := 6) (q := (7, 0)) (avs := [vi a2]) (rest := []) (tX6_append a2 μ2) (by decide) (by decide +kernel) lk_11_138 yv_X6_append rfl (by decide) rfl rfl rfl (Nat.le_of_ble_eq_true rfl) (fun μ4 => ?_)
      refine sBk (lo' := [(0, vr 12 0), (1, vi a1), (2, vi a2), (3, vi a3), (4, vi a4), (5, vi a5)]) (st' := [vi a3, vr 7 0]) (μ' := μ4) (pc' := 39) [(.aload_n 0, 0, 0, 0, 0), (.getfield 37, 11, 7, 0, 0), (.iload_n 3, 0, 0, 0, 0)] (by decide +kernel) rfl rfl ?_
      refine sCvV oI rfl (ci := 6) (q := (7, 0)) (avs := [vi a3]) (rest := []) (tX6_append a3 μ4) (by decide) (by decide +kernel) lk_11_138 yv_X6_append rfl (by decide) rfl rfl rfl (Nat.le_of_ble_eq_true rfl) (fun μ6 => ?_)
      refine sBk (lo' := [(0, vr 12 0), (1, vi a1), (2, vi a2), (3, vi a3), (4, vi a4), (5, vi a5)]) (st' := [vi a4, vr 7 0]) (μ' := μ6) (pc' := 48) [(.aload_n 0, 0, 0, 0, 0), (.getfield 37, 11, 7, 0, 0), (.iload 4, 0, 0, 0, 0)] (by decide +kernel) rfl rfl ?_
      refine sCvV oI rfl (ci := 6) (q := (7, 0)) (avs := [vi a4]) (rest := []) (tX6_append a4 μ6) (by decide) (by decide +kernel) lk_11_138 yv_X6_append rfl (by decide) rfl rfl rfl (Nat.le_of_ble_eq_true rfl) (fun μ8 => ?_)
      refine sBk (lo' := [(0, vr 12 0), (1, vi a1), (2, vi a2), (3, vi a3), (4, vi a4), (5, vi a5)]) (st' := [vi a5, vr 7 0]) (μ' := μ8) (pc' := 57) [(.aload_n 0, 0, 0, 0, 0), (.getfield 37, 11, 7, 0, 0), (.iload 5, 0, 0, 0, 0)] (by decide +kernel) rfl rfl ?_
      refine sCvV oI rfl (ci := 6) (q := (7, 0)) (avs := [vi a5]) (rest := []) (tX6_append a5 μ8) (by decide) (by decide +kernel) lk_11_138 yv_X6_append rfl (by decide) rfl rfl rfl (Nat.le_of_ble_eq_true rfl) (fun μ10 => ?_)
      refine sBk (lo' := [(0, vr 12 0), (1, vi a1), (2, vi a2), (3, vi a3), (4, vi a4), (5, vi a5)]) (st' := [vi (rI μ10 7 0 1)]) (μ' := μ10) (pc' := 67) [(.aload_n 0, 0, 0, 0, 0), (.getfield 37, 11, 7, 0, 0), (.getfield 135, 6, 1, 0, 0)] (by decide +kernel) rfl rfl ?_
      exact sRi (by decide +kernel) (fun h => by cases h)
    · refine sBk (lo' := [(0, vr 12 0), (1, vi a1), (2, vi a2), (3, vi a3), (4, vi a4), (5, vi a5)]) (st' := [vi (-1)]) (μ' := μ) (pc' := 17) [(.iconst (-1), 0, 0, (-1), 0)] (by decide +kernel) rfl rfl ?_
      exact sRi (by decide +kernel) (fun h => by cases h)
/-! ClockRiver.give -/
def X11_give (a1 : Int32) (μ : sM) : Option (Int32 × sM) :=
  some (a1, wI μ 12 0 0 0)
theorem tX11_give (a1 : Int32) (μ : sM) : sMt yX11_give cX11_give 2 (some .int) 1 [vr 12 0, vi a1] μ (oI (X11_give a1 μ)) := by
  refine sMt_of (own := 11) (bl := false) (by decide +kernel) rfl (Nat.le_of_ble_eq_true rfl) (fun r ρ h => ?_) ?_
  · obtain ⟨q, -, hq⟩ := Option.map_eq_some_iff.mp h
    cases hq
    exact Or.inl rfl
  · unfold X11_give
    show sOk 11 cX11_give 2 1 false 0 [(0, vr 12 0), (1, vi a1)] [] μ _
    refine sBk (lo' := [(0, vr 12 0), (1, vi a1)]) (st' := [vi a1]) (μ' := wI μ 12 0 0 0) (pc' := 6) [(.aload_n 0, 0, 0, 0, 0), (.iconst 0, 0, 0, 0, 0), (.putfield 80, 11, 0, 0, 0), (.iload_n 1, 0, 0, 0, 0)] (by decide +kernel) rfl rfl ?_
    exact sRi (by decide +kernel) (fun h => by cases h)
/-! ClockRiver.river -/
def X11_river_J15 (μ : sM) : Option (Int32 × sM) :=
  bI (X11_refuse 5 μ) fun x1 μ2 =>
    some (x1, μ2)
theorem X11_river_J15_ok (μ : sM) : sOk 11 cX11_river 3 10 false 15 [(0, vr 12 0)] [] μ (oI (X11_river_J15 μ)) := by
  unfold X11_river_J15
  refine sBk (lo' := [(0, vr 12 0)]) (st' := [vi 5, vr 12 0]) (μ' := μ) (pc' := 17) [(.aload_n 0, 0, 0, 0, 0), (.iconst 5, 0, 0, 5, 0)] (by decide +kernel) rfl rfl ?_
  refine sCvI oI rfl (ci := 11) (q := (12, 0)) (avs := [vi 5]) (rest := []) (tX11_refuse 5 μ) (by decide) (by decide +kernel) lk_11_110 yv_X11_refuse rfl (by decide) rfl rfl rfl (Nat.le_of_ble_eq_true rfl) (fun x1 μ2 => ?_)
  exact sRi (by decide +kernel) (fun h => by cases h)
def X11_river (a1 : Int32) (μ : sM) : Option (Int32 × sM) :=
  if a1 < 0 then
    X11_river_J15 μ
  else
    if a1 ≤ (rI μ 7 0 1) then
      bV (X6_begin a1 μ) fun μ2 =>
        bA (X0_spare μ2) fun x3 μ4 =>
          bI (X5_readInto x3 μ4) fun x5 μ6 =>
            if x5 = 0 then
              bI (X11_refuse 10 μ6) fun x13 μ14 =>
                some (x13, μ14)
            else
              bV (X4_copyFrom 0 x3 μ6) fun μ8 =>
                bV (X8_forget 0 μ8) fun μ10 =>
                  bI (X11_give (rI μ10 4 0 0) μ10) fun x11 μ12 =>
                    some (x11, μ12)
    else
      X11_river_J15 μ
theorem tX11_river (a1 : Int32) (μ : sM) : sMt yX11_river cX11_river 3 (some .int) 10 [vr 12 0, vi a1] μ (oI (X11_river a1 μ)) := by
  refine sMt_of (own := 11) (bl := false) (by decide +kernel) rfl (Nat.le_of_ble_eq_true rfl) (fun r ρ h => ?_) ?_
  · obtain ⟨q, -, hq⟩ := Option.map_eq_some_iff.mp h
    cases hq
    exact Or.inl rfl
  · unfold X11_river
    show sOk 11 cX11_river 3 10 false 0 [(0, vr 12 0), (1, vi a1)] [] μ _
    refine sBk (lo' := [(0, vr 12 0), (1, vi a1)]) (st' := [vi a1]) (μ' := μ) (pc' := 1) [(.iload_n 1, 0, 0, 0, 0)] (by decide +kernel) rfl rfl ?_
    refine sIf_lt oI (off := 14) (tgt := 15) (by decide +kernel) (by decide) (fun _ => ?_) (fun _ => ?_)
    · refine sWk (lo' := [(0, vr 12 0)]) [0] rfl ?_
      exact X11_river_J15_ok μ
    · refine sBk (lo' := [(0, vr 12 0), (1, vi a1)]) (st' := [vi (rI μ 7 0 1), vi a1]) (μ' := μ) (pc' := 12) [(.iload_n 1, 0, 0, 0, 0), (.aload_n 0, 0, 0, 0, 0), (.getfield 37, 11, 7, 0, 0), (.getfield 135, 6, 1, 0, 0)] (by decide +kernel) rfl rfl ?_
      refine sIc_le oI (off := 9) (tgt := 21) (by decide +kernel) (by decide) (fun _ => ?_) (fun _ => ?_)
      · refine sBk (lo' := [(0, vr 12 0), (1, vi a1)]) (st' := [vi a1, vr 7 0]) (μ' := μ) (pc' := 26) [(.aload_n 0, 0, 0, 0, 0), (.getfield 37, 11, 7, 0, 0), (.iload_n 1, 0, 0, 0, 0)] (by decide +kernel) rfl rfl ?_
        refine sCvV oI rfl (ci := 6) (q := (7, 0)) (avs := [vi a1]) (rest := []) (tX6_begin a1 μ) (by decide) (by decide +kernel) lk_11_142 yv_X6_begin rfl (by decide) rfl rfl rfl (Nat.le_of_ble_eq_true rfl) (fun μ2 => ?_)
        refine sBk (lo' := [(0, vr 12 0), (1, vi a1)]) (st' := [vr 1 0]) (μ' := μ2) (pc' := 33) [(.aload_n 0, 0, 0, 0, 0), (.getfield 66, 11, 12, 0, 0)] (by decide +kernel) rfl rfl ?_
        refine sCvA oI rfl (ci := 0) (q := (1, 0)) (avs := []) (rest := []) (tX0_spare μ2) (by decide) (by decide +kernel) lk_11_145 yv_X0_spare rfl (by decide) rfl rfl rfl (Nat.le_of_ble_eq_true rfl) (fun x3 μ4 => ?_)
        refine sBk (lo' := [(2, vr 5 x3), (0, vr 12 0), (1, vi a1)]) (st' := [vr 5 x3, vr 7 0, vr 6 0]) (μ' := μ4) (pc' := 46) [(.astore_n 2, 0, 0, 0, 0), (.aload_n 0, 0, 0, 0, 0), (.getfield 44, 11, 8, 0, 0), (.aload_n 0, 0, 0, 0, 0), (.getfield 37, 11, 7, 0, 0), (.aload_n 2, 0, 0, 0, 0)] (by decide +kernel) rfl rfl ?_
        refine sCvI oI rfl (ci := 5) (q := (6, 0)) (avs := [vr 7 0, vr 5 x3]) (rest := []) (tX5_readInto x3 μ4) (by decide) (by decide +kernel) lk_11_149 yv_X5_readInto rfl (by decide) rfl rfl rfl (Nat.le_of_ble_eq_true rfl) (fun x5 μ6 => ?_)
        refine sIf_ne oI (off := 10) (tgt := 59) (by decide +kernel) (by decide) (fun _ => ?_) (fun _ => ?_)
        · refine sBk (lo' := [(2, vr 5 x3), (0, vr 12 0), (1, vi a1)]) (st' := [vr 5 x3, vr 5 0]) (μ' := μ6) (pc' := 64) [(.aload_n 0, 0, 0, 0, 0), (.getfield 16, 11, 4, 0, 0), (.aload_n 2, 0, 0, 0, 0)] (by decide +kernel) rfl rfl ?_
          refine sCvV oI rfl (ci := 4) (q := (5, 0)) (avs := [vr 5 x3]) (rest := []) (tX4_copyFrom 0 x3 μ6) (by decide) (by decide +kernel) lk_11_153 yv_X4_copyFrom rfl (by decide) rfl rfl rfl (Nat.le_of_ble_eq_true rfl) (fun μ8 => ?_)
          refine sBk (lo' := [(2, vr 5 x3), (0, vr 12 0), (1, vi a1)]) (st' := [vr 9 0]) (μ' := μ8) (pc' := 71) [(.aload_n 0, 0, 0, 0, 0), (.getfield 23, 11, 5, 0, 0)] (by decide +kernel) rfl rfl ?_
          refine sCvV oI rfl (ci := 8) (q := (9, 0)) (avs := []) (rest := []) (tX8_forget 0 μ8) (by decide) (by decide +kernel) lk_11_157 yv_X8_forget rfl (by decide) rfl rfl rfl (Nat.le_of_ble_eq_true rfl) (fun μ10 => ?_)
          refine sBk (lo' := [(2, vr 5 x3), (0, vr 12 0), (1, vi a1)]) (st' := [vi (rI μ10 4 0 0), vr 12 0]) (μ' := μ10) (pc' := 85) [(.aload_n 0, 0, 0, 0, 0), (.aload_n 0, 0, 0, 0, 0), (.getfield 16, 11, 4, 0, 0), (.getfield 160, 4, 8, 0, 0), (.getfield 164, 3, 0, 0, 0)] (by decide +kernel) rfl rfl ?_
          refine sCvI oI rfl (ci := 11) (q := (12, 0)) (avs := [vi (rI μ10 4 0 0)]) (rest := []) (tX11_give (rI μ10 4 0 0) μ10) (by decide) (by decide +kernel) lk_11_169 yv_X11_give rfl (by decide) rfl rfl rfl (Nat.le_of_ble_eq_true rfl) (fun x11 μ12 => ?_)
          exact sRi (by decide +kernel) (fun h => by cases h)
        · refine sBk (lo' := [(2, vr 5 x3), (0, vr 12 0), (1, vi a1)]) (st' := [vi 10, vr 12 0]) (μ' := μ6) (pc' := 55) [(.aload_n 0, 0, 0, 0, 0), (.bipush 10, 0, 0, 10, 0)] (by decide +kernel) rfl rfl ?_
          refine sCvI oI rfl (ci := 11) (q := (12, 0)) (avs := [vi 10]) (rest := []) (tX11_refuse 10 μ6) (by decide) (by decide +kernel) lk_11_110 yv_X11_refuse rfl (by decide) rfl rfl rfl (Nat.le_of_ble_eq_true rfl) (fun x13 μ14 => ?_)
          exact sRi (by decide +kernel) (fun h => by cases h)
      · refine sWk (lo' := [(0, vr 12 0)]) [0] rfl ?_
        exact X11_river_J15_ok μ
/-! ClockRiver.weeks -/
def X11_weeks_J22 (μ : sM) : Option (Int32 × sM) :=
  bI (X11_refuse 5 μ) fun x1 μ2 =>
    some (x1, μ2)
theorem X11_weeks_J22_ok (μ : sM) : sOk 11 cX11_weeks 2 10 false 22 [(0, vr 12 0)] [] μ (oI (X11_weeks_J22 μ)) := by
  unfold X11_weeks_J22
  refine sBk (lo' := [(0, vr 12 0)]) (st' := [vi 5, vr 12 0]) (μ' := μ) (pc' := 24) [(.aload_n 0, 0, 0, 0, 0), (.iconst 5, 0, 0, 5, 0)] (by decide +kernel) rfl rfl ?_
  refine sCvI oI rfl (ci := 11) (q := (12, 0)) (avs := [vi 5]) (rest := []) (tX11_refuse 5 μ) (by decide) (by decide +kernel) lk_11_110 yv_X11_refuse rfl (by decide) rfl rfl rfl (Nat.le_of_ble_eq_true rfl) (fun x1 μ2 => ?_)
  exact sRi (by decide +kernel) (fun h => by cases h)
def X11_weeks (a1 : Int32) (μ : sM) : Option (Int32 × sM) :=
  if a1 < 0 then
    X11_weeks_J22 μ
  else
    if 300 < a1 then
      X11_weeks_J22 μ
    else
      if a1 ≤ (rI μ 7 0 1) then
        bV (X6_begin a1 μ) fun μ2 =>
          bI (X9_readFor 0 μ2) fun x3 μ4 =>
            if x3 = 0 then
              bI (X11_refuse 10 μ4) fun x9 μ10 =>
                some (x9, μ10)
            else
              bV (X8_copyFrom 0 4 μ4) fun μ6 =>
                bI (X11_give (rI μ6 9 0 1) μ6) fun x7 μ8 =>
                  some (x7, μ8)
      else
        X11_weeks_J22 μ
theorem tX11_weeks (a1 : Int32) (μ : sM) : sMt yX11_weeks cX11_weeks 2 (some .int) 10 [vr 12 0, vi a1] μ (oI (X11_weeks a1 μ)) := by
  refine sMt_of (own := 11) (bl := false) (by decide +kernel) rfl (Nat.le_of_ble_eq_true rfl) (fun r ρ h => ?_) ?_
  · obtain ⟨q, -, hq⟩ := Option.map_eq_some_iff.mp h
    cases hq
    exact Or.inl rfl
  · unfold X11_weeks
    show sOk 11 cX11_weeks 2 10 false 0 [(0, vr 12 0), (1, vi a1)] [] μ _
    refine sBk (lo' := [(0, vr 12 0), (1, vi a1)]) (st' := [vi a1]) (μ' := μ) (pc' := 1) [(.iload_n 1, 0, 0, 0, 0)] (by decide +kernel) rfl rfl ?_
    refine sIf_lt oI (off := 21) (tgt := 22) (by decide +kernel) (by decide) (fun _ => ?_) (fun _ => ?_)
    · refine sWk (lo' := [(0, vr 12 0)]) [0] rfl ?_
      exact X11_weeks_J22_ok μ
    · refine sBk (lo' := [(0, vr 12 0), (1, vi a1)]) (st' := [vi 300, vi a1]) (μ' := μ) (pc' := 8) [(.iload_n 1, 0, 0, 0, 0), (.sipush 300, 0, 0, 300, 0)] (by decide +kernel) rfl rfl ?_
      refine sIc_gt oI (off := 14) (tgt := 22) (by decide +kernel) (by decide) (fun _ => ?_) (fun _ => ?_)
      · refine sWk (lo' := [(0, vr 12 0)]) [0] rfl ?_
        exact X11_weeks_J22_ok μ
      · refine sBk (lo' := [(0, vr 12 0), (1, vi a1)]) (st' := [vi (rI μ 7 0 1), vi a1]) (μ' := μ) (pc' := 19) [(.iload_n 1, 0, 0, 0, 0), (.aload_n 0, 0, 0, 0, 0), (.getfield 37, 11, 7, 0, 0), (.getfield 135, 6, 1, 0, 0)] (by decide +kernel) rfl rfl ?_
        refine sIc_le oI (off := 9) (tgt := 28) (by decide +kernel) (by decide) (fun _ => ?_) (fun _ => ?_)
        · refine sBk (lo' := [(0, vr 12 0), (1, vi a1)]) (st' := [vi a1, vr 7 0]) (μ' := μ) (pc' := 33) [(.aload_n 0, 0, 0, 0, 0), (.getfield 37, 11, 7, 0, 0), (.iload_n 1, 0, 0, 0, 0)] (by decide +kernel) rfl rfl ?_
          refine sCvV oI rfl (ci := 6) (q := (7, 0)) (avs := [vi a1]) (rest := []) (tX6_begin a1 μ) (by decide) (by decide +kernel) lk_11_142 yv_X6_begin rfl (by decide) rfl rfl rfl (Nat.le_of_ble_eq_true rfl) (fun μ2 => ?_)
          refine sBk (lo' := [(0, vr 12 0), (1, vi a1)]) (st' := [vr 5 0, vr 7 0, vr 10 0]) (μ' := μ2) (pc' := 48) [(.aload_n 0, 0, 0, 0, 0), (.getfield 51, 11, 9, 0, 0), (.aload_n 0, 0, 0, 0, 0), (.getfield 37, 11, 7, 0, 0), (.aload_n 0, 0, 0, 0, 0), (.getfield 16, 11, 4, 0, 0)] (by decide +kernel) rfl rfl ?_
          refine sCvI oI rfl (ci := 9) (q := (10, 0)) (avs := [vr 7 0, vr 5 0]) (rest := []) (tX9_readFor 0 μ2) (by decide) (by decide +kernel) lk_11_172 yv_X9_readFor rfl (by decide) rfl rfl rfl (Nat.le_of_ble_eq_true rfl) (fun x3 μ4 => ?_)
          refine sIf_ne oI (off := 10) (tgt := 61) (by decide +kernel) (by decide) (fun _ => ?_) (fun _ => ?_)
          · refine sBk (lo' := [(0, vr 12 0), (1, vi a1)]) (st' := [vr 9 4, vr 9 0]) (μ' := μ4) (pc' := 72) [(.aload_n 0, 0, 0, 0, 0), (.getfield 23, 11, 5, 0, 0), (.aload_n 0, 0, 0, 0, 0), (.getfield 51, 11, 9, 0, 0), (.getfield 175, 9, 0, 0, 0)] (by decide +kernel) rfl rfl ?_
            refine sCvV oI rfl (ci := 8) (q := (9, 0)) (avs := [vr 9 4]) (rest := []) (tX8_copyFrom 0 4 μ4) (by decide) (by decide +kernel) lk_11_178 yv_X8_copyFrom rfl (by decide) rfl rfl rfl (Nat.le_of_ble_eq_true rfl) (fun μ6 => ?_)
            refine sBk (lo' := [(0, vr 12 0), (1, vi a1)]) (st' := [vi (rI μ6 9 0 1), vr 12 0]) (μ' := μ6) (pc' := 83) [(.aload_n 0, 0, 0, 0, 0), (.aload_n 0, 0, 0, 0, 0), (.getfield 23, 11, 5, 0, 0), (.getfield 181, 8, 1, 0, 0)] (by decide +kernel) rfl rfl ?_
            refine sCvI oI rfl (ci := 11) (q := (12, 0)) (avs := [vi (rI μ6 9 0 1)]) (rest := []) (tX11_give (rI μ6 9 0 1) μ6) (by decide) (by decide +kernel) lk_11_169 yv_X11_give rfl (by decide) rfl rfl rfl (Nat.le_of_ble_eq_true rfl) (fun x7 μ8 => ?_)
            exact sRi (by decide +kernel) (fun h => by cases h)
          · refine sBk (lo' := [(0, vr 12 0), (1, vi a1)]) (st' := [vi 10, vr 12 0]) (μ' := μ4) (pc' := 57) [(.aload_n 0, 0, 0, 0, 0), (.bipush 10, 0, 0, 10, 0)] (by decide +kernel) rfl rfl ?_
            refine sCvI oI rfl (ci := 11) (q := (12, 0)) (avs := [vi 10]) (rest := []) (tX11_refuse 10 μ4) (by decide) (by decide +kernel) lk_11_110 yv_X11_refuse rfl (by decide) rfl rfl rfl (Nat.le_of_ble_eq_true rfl) (fun x9 μ10 => ?_)
            exact sRi (by decide +kernel) (fun h => by cases h)
        · refine sWk (lo' := [(0, vr 12 0)]) [0] rfl ?_
          exact X11_weeks_J22_ok μ
/-! ClockRiver.fault -/
def X11_fault (a1 : Int32) (μ : sM) : Option (Int32 × sM) :=
  if a1 = 0 then
    some ((rI μ 7 0 2), μ)
  else if a1 = 1 then
    some ((rI μ 7 0 3), μ)
  else
    some ((-1), μ)
theorem tX11_fault (a1 : Int32) (μ : sM) : sMt yX11_fault cX11_fault 2 (some .int) 1 [vr 12 0, vi a1] μ (oI (X11_fault a1 μ)) := by
  refine sMt_of (own := 11) (bl := false) (by decide +kernel) rfl (Nat.le_of_ble_eq_true rfl) (fun r ρ h => ?_) ?_
  · obtain ⟨q, -, hq⟩ := Option.map_eq_some_iff.mp h
    cases hq
    exact Or.inl rfl
  · unfold X11_fault
    show sOk 11 cX11_fault 2 1 false 0 [(0, vr 12 0), (1, vi a1)] [] μ _
    refine sBk (lo' := [(0, vr 12 0), (1, vi a1)]) (st' := [vi a1]) (μ' := μ) (pc' := 1) [(.iload_n 1, 0, 0, 0, 0)] (by decide +kernel) rfl rfl ?_
    refine sLu (ps := [(0, 28), (1, 36)]) (df := 44) (by decide +kernel) ?_
    refine sSc oI (fun _ => ?_) (fun _ => ?_)
    · refine sBk (lo' := [(0, vr 12 0), (1, vi a1)]) (st' := [vi (rI μ 7 0 2)]) (μ' := μ) (pc' := 35) [(.aload_n 0, 0, 0, 0, 0), (.getfield 37, 11, 7, 0, 0), (.getfield 184, 6, 2, 0, 0)] (by decide +kernel) rfl rfl ?_
      exact sRi (by decide +kernel) (fun h => by cases h)
    refine sSc oI (fun _ => ?_) (fun _ => ?_)
    · refine sBk (lo' := [(0, vr 12 0), (1, vi a1)]) (st' := [vi (rI μ 7 0 3)]) (μ' := μ) (pc' := 43) [(.aload_n 0, 0, 0, 0, 0), (.getfield 37, 11, 7, 0, 0), (.getfield 187, 6, 3, 0, 0)] (by decide +kernel) rfl rfl ?_
      exact sRi (by decide +kernel) (fun h => by cases h)
    refine sSd ?_
    refine sBk (lo' := [(0, vr 12 0), (1, vi a1)]) (st' := [vi (-1)]) (μ' := μ) (pc' := 45) [(.iconst (-1), 0, 0, (-1), 0)] (by decide +kernel) rfl rfl ?_
    exact sRi (by decide +kernel) (fun h => by cases h)
/-! ClockRiver.many -/
def X11_many_J10 (μ : sM) : Option (Int32 × sM) :=
  bI (X11_refuse 5 μ) fun x1 μ2 =>
    some (x1, μ2)
theorem X11_many_J10_ok (μ : sM) : sOk 11 cX11_many 2 3 false 10 [(0, vr 12 0)] [] μ (oI (X11_many_J10 μ)) := by
  unfold X11_many_J10
  refine sBk (lo' := [(0, vr 12 0)]) (st' := [vi 5, vr 12 0]) (μ' := μ) (pc' := 12) [(.aload_n 0, 0, 0, 0, 0), (.iconst 5, 0, 0, 5, 0)] (by decide +kernel) rfl rfl ?_
  refine sCvI oI rfl (ci := 11) (q := (12, 0)) (avs := [vi 5]) (rest := []) (tX11_refuse 5 μ) (by decide) (by decide +kernel) lk_11_110 yv_X11_refuse rfl (by decide) rfl rfl rfl (Nat.le_of_ble_eq_true rfl) (fun x1 μ2 => ?_)
  exact sRi (by decide +kernel) (fun h => by cases h)
def X11_many (a1 : Int32) (μ : sM) : Option (Int32 × sM) :=
  if a1 < 0 then
    X11_many_J10 μ
  else
    if a1 ≤ 12 then
      bI (X4_figure 0 a1 μ) fun x1 μ2 =>
        bI (X11_give x1 μ2) fun x3 μ4 =>
          some (x3, μ4)
    else
      X11_many_J10 μ
theorem tX11_many (a1 : Int32) (μ : sM) : sMt yX11_many cX11_many 2 (some .int) 3 [vr 12 0, vi a1] μ (oI (X11_many a1 μ)) := by
  refine sMt_of (own := 11) (bl := false) (by decide +kernel) rfl (Nat.le_of_ble_eq_true rfl) (fun r ρ h => ?_) ?_
  · obtain ⟨q, -, hq⟩ := Option.map_eq_some_iff.mp h
    cases hq
    exact Or.inl rfl
  · unfold X11_many
    show sOk 11 cX11_many 2 3 false 0 [(0, vr 12 0), (1, vi a1)] [] μ _
    refine sBk (lo' := [(0, vr 12 0), (1, vi a1)]) (st' := [vi a1]) (μ' := μ) (pc' := 1) [(.iload_n 1, 0, 0, 0, 0)] (by decide +kernel) rfl rfl ?_
    refine sIf_lt oI (off := 9) (tgt := 10) (by decide +kernel) (by decide) (fun _ => ?_) (fun _ => ?_)
    · refine sWk (lo' := [(0, vr 12 0)]) [0] rfl ?_
      exact X11_many_J10_ok μ
    · refine sBk (lo' := [(0, vr 12 0), (1, vi a1)]) (st' := [vi 12, vi a1]) (μ' := μ) (pc' := 7) [(.iload_n 1, 0, 0, 0, 0), (.bipush 12, 0, 0, 12, 0)] (by decide +kernel) rfl rfl ?_
      refine sIc_le oI (off := 9) (tgt := 16) (by decide +kernel) (by decide) (fun _ => ?_) (fun _ => ?_)
      · refine sBk (lo' := [(0, vr 12 0), (1, vi a1)]) (st' := [vi a1, vr 5 0, vr 12 0]) (μ' := μ) (pc' := 22) [(.aload_n 0, 0, 0, 0, 0), (.aload_n 0, 0, 0, 0, 0), (.getfield 16, 11, 4, 0, 0), (.iload_n 1, 0, 0, 0, 0)] (by decide +kernel) rfl rfl ?_
        refine sCvI oI rfl (ci := 4) (q := (5, 0)) (avs := [vi a1]) (rest := [vr 12 0]) (tX4_figure 0 a1 μ) (by decide) (by decide +kernel) lk_11_190 yv_X4_figure rfl (by decide) rfl rfl rfl (Nat.le_of_ble_eq_true rfl) (fun x1 μ2 => ?_)
        refine sCvI oI rfl (ci := 11) (q := (12, 0)) (avs := [vi x1]) (rest := []) (tX11_give x1 μ2) (by decide) (by decide +kernel) lk_11_169 yv_X11_give rfl (by decide) rfl rfl rfl (Nat.le_of_ble_eq_true rfl) (fun x3 μ4 => ?_)
        exact sRi (by decide +kernel) (fun h => by cases h)
      · refine sWk (lo' := [(0, vr 12 0)]) [0] rfl ?_
        exact X11_many_J10_ok μ
/-! ClockRiver.turnsLeft -/
def X11_turnsLeft (μ : sM) : Option (Int32 × sM) :=
  bI (X11_give (rI μ 5 0 0) μ) fun x1 μ2 =>
    some (x1, μ2)
theorem tX11_turnsLeft (μ : sM) : sMt yX11_turnsLeft cX11_turnsLeft 1 (some .int) 2 [vr 12 0] μ (oI (X11_turnsLeft μ)) := by
  refine sMt_of (own := 11) (bl := false) (by decide +kernel) rfl (Nat.le_of_ble_eq_true rfl) (fun r ρ h => ?_) ?_
  · obtain ⟨q, -, hq⟩ := Option.map_eq_some_iff.mp h
    cases hq
    exact Or.inl rfl
  · unfold X11_turnsLeft
    show sOk 11 cX11_turnsLeft 1 2 false 0 [(0, vr 12 0)] [] μ _
    refine sBk (lo' := [(0, vr 12 0)]) (st' := [vi (rI μ 5 0 0), vr 12 0]) (μ' := μ) (pc' := 8) [(.aload_n 0, 0, 0, 0, 0), (.aload_n 0, 0, 0, 0, 0), (.getfield 16, 11, 4, 0, 0), (.getfield 193, 4, 0, 0, 0)] (by decide +kernel) rfl rfl ?_
    refine sCvI oI rfl (ci := 11) (q := (12, 0)) (avs := [vi (rI μ 5 0 0)]) (rest := []) (tX11_give (rI μ 5 0 0) μ) (by decide) (by decide +kernel) lk_11_169 yv_X11_give rfl (by decide) rfl rfl rfl (Nat.le_of_ble_eq_true rfl) (fun x1 μ2 => ?_)
    exact sRi (by decide +kernel) (fun h => by cases h)
/-! ClockRiver.water -/
def X11_water_J10 (μ : sM) : Option (Int64 × sM) :=
  bI (X11_refuse 5 μ) fun x1 μ2 =>
    some ((Int32.toInt64 x1), μ2)
theorem X11_water_J10_ok (μ : sM) : sOk 11 cX11_water 2 2 false 10 [(0, vr 12 0)] [] μ (oL (X11_water_J10 μ)) := by
  unfold X11_water_J10
  refine sBk (lo' := [(0, vr 12 0)]) (st' := [vi 5, vr 12 0]) (μ' := μ) (pc' := 12) [(.aload_n 0, 0, 0, 0, 0), (.iconst 5, 0, 0, 5, 0)] (by decide +kernel) rfl rfl ?_
  refine sCvI oL rfl (ci := 11) (q := (12, 0)) (avs := [vi 5]) (rest := []) (tX11_refuse 5 μ) (by decide) (by decide +kernel) lk_11_110 yv_X11_refuse rfl (by decide) rfl rfl rfl (Nat.le_of_ble_eq_true rfl) (fun x1 μ2 => ?_)
  refine sBk (lo' := [(0, vr 12 0)]) (st' := [vl (Int32.toInt64 x1)]) (μ' := μ2) (pc' := 16) [(.i2l, 0, 0, 0, 0)] (by decide +kernel) rfl rfl ?_
  exact sRl (by decide +kernel)
def X11_water (a1 : Int32) (μ : sM) : Option (Int64 × sM) :=
  if a1 < 0 then
    X11_water_J10 μ
  else
    if a1 < 6 then
      if inb a1 6 = true then
        some ((rL μ 34 0 (ix a1)), wI μ 12 0 0 0)
      else none
    else
      X11_water_J10 μ
theorem tX11_water (a1 : Int32) (μ : sM) : sMt yX11_water cX11_water 2 (some .long) 2 [vr 12 0, vi a1] μ (oL (X11_water a1 μ)) := by
  refine sMt_of (own := 11) (bl := false) (by decide +kernel) rfl (Nat.le_of_ble_eq_true rfl) (fun r ρ h => ?_) ?_
  · obtain ⟨q, -, hq⟩ := Option.map_eq_some_iff.mp h
    cases hq
    exact rfl
  · unfold X11_water
    show sOk 11 cX11_water 2 2 false 0 [(0, vr 12 0), (1, vi a1)] [] μ _
    refine sBk (lo' := [(0, vr 12 0), (1, vi a1)]) (st' := [vi a1]) (μ' := μ) (pc' := 1) [(.iload_n 1, 0, 0, 0, 0)] (by decide +kernel) rfl rfl ?_
    refine sIf_lt oL (off := 9) (tgt := 10) (by decide +kernel) (by decide) (fun _ => ?_) (fun _ => ?_)
    · refine sWk (lo' := [(0, vr 12 0)]) [0] rfl ?_
      exact X11_water_J10_ok μ
    · refine sBk (lo' := [(0, vr 12 0), (1, vi a1)]) (st' := [vi 6, vi a1]) (μ' := μ) (pc' := 7) [(.iload_n 1, 0, 0, 0, 0), (.bipush 6, 0, 0, 6, 0)] (by decide +kernel) rfl rfl ?_
      refine sIc_lt oL (off := 10) (tgt := 17) (by decide +kernel) (by decide) (fun _ => ?_) (fun _ => ?_)
      · refine sBk (lo' := [(0, vr 12 0), (1, vi a1)]) (st' := [vi a1, vr 34 0]) (μ' := wI μ 12 0 0 0) (pc' := 30) [(.aload_n 0, 0, 0, 0, 0), (.iconst 0, 0, 0, 0, 0), (.putfield 80, 11, 0, 0, 0), (.aload_n 0, 0, 0, 0, 0), (.getfield 16, 11, 4, 0, 0), (.getfield 196, 4, 7, 0, 0), (.iload_n 1, 0, 0, 0, 0)] (by decide +kernel) rfl rfl ?_
        refine sS_lal oL rfl (n := 6) (j := (ix a1)) (by decide +kernel) rfl rfl rfl (fun _ => ?_)
        exact sRl (by decide +kernel)
      · refine sWk (lo' := [(0, vr 12 0)]) [0] rfl ?_
        exact X11_water_J10_ok μ
/-! ClockRiver.reach -/
def X11_reach (a1 : Int32) (a2 : Int32) (μ : sM) : Option (Int32 × sM) :=
  bI (X4_hasReach 0 a1 μ) fun x1 μ2 =>
    if x1 = 0 then
      bI (X11_refuse 2 μ2) fun x17 μ18 =>
        some (x17, μ18)
    else
      if a2 = 0 then
        if inb a1 6 = true then
          bI (X11_give (rI μ2 29 0 (ix a1)) μ2) fun x3 μ4 =>
            some (x3, μ4)
        else none
      else if a2 = 1 then
        if inb a1 6 = true then
          bI (X11_give (rI μ2 30 0 (ix a1)) μ2) fun x5 μ6 =>
            some (x5, μ6)
        else none
      else if a2 = 2 then
        if inb a1 6 = true then
          bI (X11_give (rI μ2 31 0 (ix a1)) μ2) fun x7 μ8 =>
            some (x7, μ8)
        else none
      else if a2 = 3 then
        if inb a1 6 = true then
          if inb a1 6 = true then
            bI (X11_give (imn (rI μ2 31 0 (ix a1)) (rI μ2 30 0 (ix a1))) μ2) fun x9 μ10 =>
              some (x9, μ10)
          else none
        else none
      else if a2 = 4 then
        bI (X2_countAt 0 a1 μ2) fun x11 μ12 =>
          bI (X11_give x11 μ12) fun x13 μ14 =>
            some (x13, μ14)
      else
        bI (X11_refuse 5 μ2) fun x15 μ16 =>
          some (x15, μ16)
theorem tX11_reach (a1 : Int32) (a2 : Int32) (μ : sM) : sMt yX11_reach cX11_reach 3 (some .int) 2 [vr 12 0, vi a1, vi a2] μ (oI (X11_reach a1 a2 μ)) := by
  refine sMt_of (own := 11) (bl := false) (by decide +kernel) rfl (Nat.le_of_ble_eq_true rfl) (fun r ρ h => ?_) ?_
  · obtain ⟨q, -, hq⟩ := Option.map_eq_some_iff.mp h
    cases hq
    exact Or.inl rfl
  · unfold X11_reach
    show sOk 11 cX11_reach 3 2 false 0 [(0, vr 12 0), (1, vi a1), (2, vi a2)] [] μ _
    refine sBk (lo' := [(0, vr 12 0), (1, vi a1), (2, vi a2)]) (st' := [vi a1, vr 5 0]) (μ' := μ) (pc' := 5) [(.aload_n 0, 0, 0, 0, 0), (.getfield 16, 11, 4, 0, 0), (.iload_n 1, 0, 0, 0, 0)] (by decide +kernel) rfl rfl ?_
    refine sCvI oI rfl (ci := 4) (q := (5, 0)) (avs := [vi a1]) (rest := []) (tX4_hasReach 0 a1 μ) (by decide) (by decide +kernel) lk_11_200 yv_X4_hasReach rfl (by decide) rfl rfl rfl (Nat.le_of_ble_eq_true rfl) (fun x1 μ2 => ?_)
    refine sIf_ne oI (off := 9) (tgt := 17) (by decide +kernel) (by decide) (fun _ => ?_) (fun _ => ?_)
    · refine sBk (lo' := [(0, vr 12 0), (1, vi a1), (2, vi a2)]) (st' := [vi a2]) (μ' := μ2) (pc' := 18) [(.iload_n 2, 0, 0, 0, 0)] (by decide +kernel) rfl rfl ?_
      refine sTs (ps := [(0, 52), (1, 69), (2, 86), (3, 103), (4, 135)]) (df := 151) (by decide +kernel) ?_
      refine sSc oI (fun _ => ?_) (fun _ => ?_)
      · refine sBk (lo' := [(0, vr 12 0), (1, vi a1), (2, vi a2)]) (st' := [vi a1, vr 29 0, vr 12 0]) (μ' := μ2) (pc' := 64) [(.aload_n 0, 0, 0, 0, 0), (.aload_n 0, 0, 0, 0, 0), (.getfield 16, 11, 4, 0, 0), (.getfield 160, 4, 8, 0, 0), (.getfield 203, 3, 2, 0, 0), (.iload_n 1, 0, 0, 0, 0)] (by decide +kernel) rfl rfl ?_
        refine sS_ial oI rfl (n := 6) (j := (ix a1)) (by decide +kernel) rfl rfl rfl (fun _ => ?_)
        refine sCvI oI rfl (ci := 11) (q := (12, 0)) (avs := [vi (rI μ2 29 0 (ix a1))]) (rest := []) (tX11_give (rI μ2 29 0 (ix a1)) μ2) (by decide) (by decide +kernel) lk_11_169 yv_X11_give rfl (by decide) rfl rfl rfl (Nat.le_of_ble_eq_true rfl) (fun x3 μ4 => ?_)
        exact sRi (by decide +kernel) (fun h => by cases h)
      refine sSc oI (fun _ => ?_) (fun _ => ?_)
      · refine sBk (lo' := [(0, vr 12 0), (1, vi a1), (2, vi a2)]) (st' := [vi a1, vr 30 0, vr 12 0]) (μ' := μ2) (pc' := 81) [(.aload_n 0, 0, 0, 0, 0), (.aload_n 0, 0, 0, 0, 0), (.getfield 16, 11, 4, 0, 0), (.getfield 160, 4, 8, 0, 0), (.getfield 206, 3, 3, 0, 0), (.iload_n 1, 0, 0, 0, 0)] (by decide +kernel) rfl rfl ?_
        refine sS_ial oI rfl (n := 6) (j := (ix a1)) (by decide +kernel) rfl rfl rfl (fun _ => ?_)
        refine sCvI oI rfl (ci := 11) (q := (12, 0)) (avs := [vi (rI μ2 30 0 (ix a1))]) (rest := []) (tX11_give (rI μ2 30 0 (ix a1)) μ2) (by decide) (by decide +kernel) lk_11_169 yv_X11_give rfl (by decide) rfl rfl rfl (Nat.le_of_ble_eq_true rfl) (fun x5 μ6 => ?_)
        exact sRi (by decide +kernel) (fun h => by cases h)
      refine sSc oI (fun _ => ?_) (fun _ => ?_)
      · refine sBk (lo' := [(0, vr 12 0), (1, vi a1), (2, vi a2)]) (st' := [vi a1, vr 31 0, vr 12 0]) (μ' := μ2) (pc' := 98) [(.aload_n 0, 0, 0, 0, 0), (.aload_n 0, 0, 0, 0, 0), (.getfield 16, 11, 4, 0, 0), (.getfield 160, 4, 8, 0, 0), (.getfield 209, 3, 4, 0, 0), (.iload_n 1, 0, 0, 0, 0)] (by decide +kernel) rfl rfl ?_
        refine sS_ial oI rfl (n := 6) (j := (ix a1)) (by decide +kernel) rfl rfl rfl (fun _ => ?_)
        refine sCvI oI rfl (ci := 11) (q := (12, 0)) (avs := [vi (rI μ2 31 0 (ix a1))]) (rest := []) (tX11_give (rI μ2 31 0 (ix a1)) μ2) (by decide) (by decide +kernel) lk_11_169 yv_X11_give rfl (by decide) rfl rfl rfl (Nat.le_of_ble_eq_true rfl) (fun x7 μ8 => ?_)
        exact sRi (by decide +kernel) (fun h => by cases h)
      refine sSc oI (fun _ => ?_) (fun _ => ?_)
      · refine sBk (lo' := [(0, vr 12 0), (1, vi a1), (2, vi a2)]) (st' := [vi a1, vr 31 0, vr 12 0]) (μ' := μ2) (pc' := 115) [(.aload_n 0, 0, 0, 0, 0), (.aload_n 0, 0, 0, 0, 0), (.getfield 16, 11, 4, 0, 0), (.getfield 160, 4, 8, 0, 0), (.getfield 209, 3, 4, 0, 0), (.iload_n 1, 0, 0, 0, 0)] (by decide +kernel) rfl rfl ?_
        refine sS_ial oI rfl (n := 6) (j := (ix a1)) (by decide +kernel) rfl rfl rfl (fun _ => ?_)
        refine sBk (lo' := [(0, vr 12 0), (1, vi a1), (2, vi a2)]) (st' := [vi a1, vr 30 0, vi (rI μ2 31 0 (ix a1)), vr 12 0]) (μ' := μ2) (pc' := 127) [(.aload_n 0, 0, 0, 0, 0), (.getfield 16, 11, 4, 0, 0), (.getfield 160, 4, 8, 0, 0), (.getfield 206, 3, 3, 0, 0), (.iload_n 1, 0, 0, 0, 0)] (by decide +kernel) rfl rfl ?_
        refine sS_ial oI rfl (n := 6) (j := (ix a1)) (by decide +kernel) rfl rfl rfl (fun _ => ?_)
        refine sMin (idx := 212) (p1 := 1055) (by decide +kernel) (by decide) (Nat.le_of_ble_eq_true rfl) ?_
        refine sCvI oI rfl (ci := 11) (q := (12, 0)) (avs := [vi (imn (rI μ2 31 0 (ix a1)) (rI μ2 30 0 (ix a1)))]) (rest := []) (tX11_give (imn (rI μ2 31 0 (ix a1)) (rI μ2 30 0 (ix a1))) μ2) (by decide) (by decide +kernel) lk_11_169 yv_X11_give rfl (by decide) rfl rfl rfl (Nat.le_of_ble_eq_true rfl) (fun x9 μ10 => ?_)
        exact sRi (by decide +kernel) (fun h => by cases h)
      refine sSc oI (fun _ => ?_) (fun _ => ?_)
      · refine sBk (lo' := [(0, vr 12 0), (1, vi a1), (2, vi a2)]) (st' := [vi a1, vr 3 0, vr 12 0]) (μ' := μ2) (pc' := 144) [(.aload_n 0, 0, 0, 0, 0), (.aload_n 0, 0, 0, 0, 0), (.getfield 16, 11, 4, 0, 0), (.getfield 217, 4, 9, 0, 0), (.iload_n 1, 0, 0, 0, 0)] (by decide +kernel) rfl rfl ?_
        refine sCvI oI rfl (ci := 2) (q := (3, 0)) (avs := [vi a1]) (rest := [vr 12 0]) (tX2_countAt 0 a1 μ2) (by decide) (by decide +kernel) lk_11_221 yv_X2_countAt rfl (by decide) rfl rfl rfl (Nat.le_of_ble_eq_true rfl) (fun x11 μ12 => ?_)
        refine sCvI oI rfl (ci := 11) (q := (12, 0)) (avs := [vi x11]) (rest := []) (tX11_give x11 μ12) (by decide) (by decide +kernel) lk_11_169 yv_X11_give rfl (by decide) rfl rfl rfl (Nat.le_of_ble_eq_true rfl) (fun x13 μ14 => ?_)
        exact sRi (by decide +kernel) (fun h => by cases h)
      refine sSd ?_
      refine sBk (lo' := [(0, vr 12 0), (1, vi a1), (2, vi a2)]) (st' := [vi 5, vr 12 0]) (μ' := μ2) (pc' := 153) [(.aload_n 0, 0, 0, 0, 0), (.iconst 5, 0, 0, 5, 0)] (by decide +kernel) rfl rfl ?_
      refine sCvI oI rfl (ci := 11) (q := (12, 0)) (avs := [vi 5]) (rest := []) (tX11_refuse 5 μ2) (by decide) (by decide +kernel) lk_11_110 yv_X11_refuse rfl (by decide) rfl rfl rfl (Nat.le_of_ble_eq_true rfl) (fun x15 μ16 => ?_)
      exact sRi (by decide +kernel) (fun h => by cases h)
    · refine sBk (lo' := [(0, vr 12 0), (1, vi a1), (2, vi a2)]) (st' := [vi 2, vr 12 0]) (μ' := μ2) (pc' := 13) [(.aload_n 0, 0, 0, 0, 0), (.iconst 2, 0, 0, 2, 0)] (by decide +kernel) rfl rfl ?_
      refine sCvI oI rfl (ci := 11) (q := (12, 0)) (avs := [vi 2]) (rest := []) (tX11_refuse 2 μ2) (by decide) (by decide +kernel) lk_11_110 yv_X11_refuse rfl (by decide) rfl rfl rfl (Nat.le_of_ble_eq_true rfl) (fun x17 μ18 => ?_)
      exact sRi (by decide +kernel) (fun h => by cases h)
/-! ClockRiver.mill -/
def X11_mill (a1 : Int32) (a2 : Int32) (μ : sM) : Option (Int32 × sM) :=
  bI (X4_hasMill 0 a1 μ) fun x1 μ2 =>
    if x1 = 0 then
      bI (X11_refuse 2 μ2) fun x11 μ12 =>
        some (x11, μ12)
    else
      if a2 = 0 then
        if inb a1 6 = true then
          bI (X11_give (rI μ2 25 0 (ix a1)) μ2) fun x3 μ4 =>
            some (x3, μ4)
        else none
      else if a2 = 1 then
        if inb a1 6 = true then
          bI (X11_give (rI μ2 26 0 (ix a1)) μ2) fun x5 μ6 =>
            some (x5, μ6)
        else none
      else if a2 = 2 then
        if inb a1 6 = true then
          bI (X11_give (rI μ2 27 0 (ix a1)) μ2) fun x7 μ8 =>
            some (x7, μ8)
        else none
      else
        bI (X11_refuse 5 μ2) fun x9 μ10 =>
          some (x9, μ10)
theorem tX11_mill (a1 : Int32) (a2 : Int32) (μ : sM) : sMt yX11_mill cX11_mill 3 (some .int) 2 [vr 12 0, vi a1, vi a2] μ (oI (X11_mill a1 a2 μ)) := by
  refine sMt_of (own := 11) (bl := false) (by decide +kernel) rfl (Nat.le_of_ble_eq_true rfl) (fun r ρ h => ?_) ?_
  · obtain ⟨q, -, hq⟩ := Option.map_eq_some_iff.mp h
    cases hq
    exact Or.inl rfl
  · unfold X11_mill
    show sOk 11 cX11_mill 3 2 false 0 [(0, vr 12 0), (1, vi a1), (2, vi a2)] [] μ _
    refine sBk (lo' := [(0, vr 12 0), (1, vi a1), (2, vi a2)]) (st' := [vi a1, vr 5 0]) (μ' := μ) (pc' := 5) [(.aload_n 0, 0, 0, 0, 0), (.getfield 16, 11, 4, 0, 0), (.iload_n 1, 0, 0, 0, 0)] (by decide +kernel) rfl rfl ?_
    refine sCvI oI rfl (ci := 4) (q := (5, 0)) (avs := [vi a1]) (rest := []) (tX4_hasMill 0 a1 μ) (by decide) (by decide +kernel) lk_11_226 yv_X4_hasMill rfl (by decide) rfl rfl rfl (Nat.le_of_ble_eq_true rfl) (fun x1 μ2 => ?_)
    refine sIf_ne oI (off := 9) (tgt := 17) (by decide +kernel) (by decide) (fun _ => ?_) (fun _ => ?_)
    · refine sBk (lo' := [(0, vr 12 0), (1, vi a1), (2, vi a2)]) (st' := [vi a2]) (μ' := μ2) (pc' := 18) [(.iload_n 2, 0, 0, 0, 0)] (by decide +kernel) rfl rfl ?_
      refine sTs (ps := [(0, 44), (1, 61), (2, 78)]) (df := 95) (by decide +kernel) ?_
      refine sSc oI (fun _ => ?_) (fun _ => ?_)
      · refine sBk (lo' := [(0, vr 12 0), (1, vi a1), (2, vi a2)]) (st' := [vi a1, vr 25 0, vr 12 0]) (μ' := μ2) (pc' := 56) [(.aload_n 0, 0, 0, 0, 0), (.aload_n 0, 0, 0, 0, 0), (.getfield 16, 11, 4, 0, 0), (.getfield 217, 4, 9, 0, 0), (.getfield 229, 2, 2, 0, 0), (.iload_n 1, 0, 0, 0, 0)] (by decide +kernel) rfl rfl ?_
        refine sS_ial oI rfl (n := 6) (j := (ix a1)) (by decide +kernel) rfl rfl rfl (fun _ => ?_)
        refine sCvI oI rfl (ci := 11) (q := (12, 0)) (avs := [vi (rI μ2 25 0 (ix a1))]) (rest := []) (tX11_give (rI μ2 25 0 (ix a1)) μ2) (by decide) (by decide +kernel) lk_11_169 yv_X11_give rfl (by decide) rfl rfl rfl (Nat.le_of_ble_eq_true rfl) (fun x3 μ4 => ?_)
        exact sRi (by decide +kernel) (fun h => by cases h)
      refine sSc oI (fun _ => ?_) (fun _ => ?_)
      · refine sBk (lo' := [(0, vr 12 0), (1, vi a1), (2, vi a2)]) (st' := [vi a1, vr 26 0, vr 12 0]) (μ' := μ2) (pc' := 73) [(.aload_n 0, 0, 0, 0, 0), (.aload_n 0, 0, 0, 0, 0), (.getfield 16, 11, 4, 0, 0), (.getfield 217, 4, 9, 0, 0), (.getfield 232, 2, 3, 0, 0), (.iload_n 1, 0, 0, 0, 0)] (by decide +kernel) rfl rfl ?_
        refine sS_ial oI rfl (n := 6) (j := (ix a1)) (by decide +kernel) rfl rfl rfl (fun _ => ?_)
        refine sCvI oI rfl (ci := 11) (q := (12, 0)) (avs := [vi (rI μ2 26 0 (ix a1))]) (rest := []) (tX11_give (rI μ2 26 0 (ix a1)) μ2) (by decide) (by decide +kernel) lk_11_169 yv_X11_give rfl (by decide) rfl rfl rfl (Nat.le_of_ble_eq_true rfl) (fun x5 μ6 => ?_)
        exact sRi (by decide +kernel) (fun h => by cases h)
      refine sSc oI (fun _ => ?_) (fun _ => ?_)
      · refine sBk (lo' := [(0, vr 12 0), (1, vi a1), (2, vi a2)]) (st' := [vi a1, vr 27 0, vr 12 0]) (μ' := μ2) (pc' := 90) [(.aload_n 0, 0, 0, 0, 0), (.aload_n 0, 0, 0, 0, 0), (.getfield 16, 11, 4, 0, 0), (.getfield 217, 4, 9, 0, 0), (.getfield 235, 2, 4, 0, 0), (.iload_n 1, 0, 0, 0, 0)] (by decide +kernel) rfl rfl ?_
        refine sS_ial oI rfl (n := 6) (j := (ix a1)) (by decide +kernel) rfl rfl rfl (fun _ => ?_)
        refine sCvI oI rfl (ci := 11) (q := (12, 0)) (avs := [vi (rI μ2 27 0 (ix a1))]) (rest := []) (tX11_give (rI μ2 27 0 (ix a1)) μ2) (by decide) (by decide +kernel) lk_11_169 yv_X11_give rfl (by decide) rfl rfl rfl (Nat.le_of_ble_eq_true rfl) (fun x7 μ8 => ?_)
        exact sRi (by decide +kernel) (fun h => by cases h)
      refine sSd ?_
      refine sBk (lo' := [(0, vr 12 0), (1, vi a1), (2, vi a2)]) (st' := [vi 5, vr 12 0]) (μ' := μ2) (pc' := 97) [(.aload_n 0, 0, 0, 0, 0), (.iconst 5, 0, 0, 5, 0)] (by decide +kernel) rfl rfl ?_
      refine sCvI oI rfl (ci := 11) (q := (12, 0)) (avs := [vi 5]) (rest := []) (tX11_refuse 5 μ2) (by decide) (by decide +kernel) lk_11_110 yv_X11_refuse rfl (by decide) rfl rfl rfl (Nat.le_of_ble_eq_true rfl) (fun x9 μ10 => ?_)
      exact sRi (by decide +kernel) (fun h => by cases h)
    · refine sBk (lo' := [(0, vr 12 0), (1, vi a1), (2, vi a2)]) (st' := [vi 2, vr 12 0]) (μ' := μ2) (pc' := 13) [(.aload_n 0, 0, 0, 0, 0), (.iconst 2, 0, 0, 2, 0)] (by decide +kernel) rfl rfl ?_
      refine sCvI oI rfl (ci := 11) (q := (12, 0)) (avs := [vi 2]) (rest := []) (tX11_refuse 2 μ2) (by decide) (by decide +kernel) lk_11_110 yv_X11_refuse rfl (by decide) rfl rfl rfl (Nat.le_of_ble_eq_true rfl) (fun x11 μ12 => ?_)
      exact sRi (by decide +kernel) (fun h => by cases h)
