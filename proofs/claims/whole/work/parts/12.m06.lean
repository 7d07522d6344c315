def RB_M_compareKeys_119 (ρ : RS)   : Option Int32 := some (0)
set_option maxHeartbeats 4000000 in
set_option maxRecDepth 100000 in
theorem rw_M_compareKeys_119 {X : CX} (E : EV X prog_13_method_50_code 6 "PlaceFinderModel" (some .int)) {μ0 μ : Mem} {b : Nat} {r : Int32} {ρ : RS} (hQ : RQ X 0 0 μ0 (some (vI r)) (ov b ρ μ)) (hR : xR X = { frames := 1, cells := 0, slots := 0, locals := 40 }) (hI : X.2.2.2.2.2.2.2.2.2.2.2.1.name = "compareKeys")   (h : RB_M_compareKeys_119 ρ   = some r) : WM X 6 119 [] [] 0 0 (ov b ρ μ) := by
  have h : (some (0)) = some r := h
  refine wm_iconst (x := 0) E dM_compareKeys_119 (by decide) ?_
  exact wm_iret (rt := .int) E hQ (rqI0 h) rfl (by decide) (by decide) dM_compareKeys_120
def RB_M_compareKeys_179 (ρ : RS)  (s0 : Int32) : Option Int32 := some (s0)
set_option maxHeartbeats 4000000 in
set_option maxRecDepth 100000 in
theorem rw_M_compareKeys_179 {X : CX} (E : EV X prog_13_method_50_code 6 "PlaceFinderModel" (some .int)) {μ0 μ : Mem} {b : Nat} {r : Int32} {ρ : RS} (hQ : RQ X 0 0 μ0 (some (vI r)) (ov b ρ μ)) (hR : xR X = { frames := 1, cells := 0, slots := 0, locals := 40 }) (hI : X.2.2.2.2.2.2.2.2.2.2.2.1.name = "compareKeys")  (s0 : Int32) (h : RB_M_compareKeys_179 ρ  s0 = some r) : WM X 6 179 [] [vI s0] 0 0 (ov b ρ μ) := by
  have h : (some (s0)) = some r := h
  exact wm_iret (rt := .int) E hQ (rqI0 h) rfl (by decide) (by decide) dM_compareKeys_179
def RB_M_compareKeys_104 (ρ : RS)  (s0 : Int32) : Option Int32 := some (s0)
set_option maxHeartbeats 4000000 in
set_option maxRecDepth 100000 in
theorem rw_M_compareKeys_104 {X : CX} (E : EV X prog_13_method_50_code 6 "PlaceFinderModel" (some .int)) {μ0 μ : Mem} {b : Nat} {r : Int32} {ρ : RS} (hQ : RQ X 0 0 μ0 (some (vI r)) (ov b ρ μ)) (hR : xR X = { frames := 1, cells := 0, slots := 0, locals := 40 }) (hI : X.2.2.2.2.2.2.2.2.2.2.2.1.name = "compareKeys")  (s0 : Int32) (h : RB_M_compareKeys_104 ρ  s0 = some r) : WM X 6 104 [] [vI s0] 0 0 (ov b ρ μ) := by
  have h : (some (s0)) = some r := h
  exact wm_iret (rt := .int) E hQ (rqI0 h) rfl (by decide) (by decide) dM_compareKeys_104
def RB_M_compareKeys_59 (ρ : RS)  (s0 : Int32) : Option Int32 := some (s0)
set_option maxHeartbeats 4000000 in
set_option maxRecDepth 100000 in
theorem rw_M_compareKeys_59 {X : CX} (E : EV X prog_13_method_50_code 6 "PlaceFinderModel" (some .int)) {μ0 μ : Mem} {b : Nat} {r : Int32} {ρ : RS} (hQ : RQ X 0 0 μ0 (some (vI r)) (ov b ρ μ)) (hR : xR X = { frames := 1, cells := 0, slots := 0, locals := 40 }) (hI : X.2.2.2.2.2.2.2.2.2.2.2.1.name = "compareKeys")  (s0 : Int32) (h : RB_M_compareKeys_59 ρ  s0 = some r) : WM X 6 59 [] [vI s0] 0 0 (ov b ρ μ) := by
  have h : (some (s0)) = some r := h
  exact wm_iret (rt := .int) E hQ (rqI0 h) rfl (by decide) (by decide) dM_compareKeys_59
def R_M_compareKeys (v1 : Int32) (v2 : Int32) (v3 : Int32) (ρ : RS) : Option Int32 := if v3 = 1 then b1 (rgI ρ 50 30 v1) (fun x10 => b1 (rgI ρ 50 30 v2) (fun x18 => if x10 = ((-1)) then if x18 = ((-1)) then RB_M_compareKeys_59 ρ 0 else RB_M_compareKeys_59 ρ 1 else if x18 = ((-1)) then RB_M_compareKeys_59 ρ ((-1)) else b1 (R_M_compareWords x10 x18 (ρ)) (fun x56 => RB_M_compareKeys_59 ρ x56))) else if v3 = 2 then b1 (rgI ρ 51 30 v1) (fun x70 => b1 (rgI ρ 51 30 v2) (fun x76 => if x76 ≤ x70 then b1 (rgI ρ 51 30 v1) (fun x89 => b1 (rgI ρ 51 30 v2) (fun x95 => if x89 ≤ x95 then RB_M_compareKeys_104 ρ 0 else RB_M_compareKeys_104 ρ 1)) else RB_M_compareKeys_104 ρ ((-1)))) else if v3 = 0 then RB_M_compareKeys_119 ρ  else b1 (rgI ρ 30 5 0) (fun x114 => if 2 ≤ x114 then b1 (rgI ρ 52 30 v1) (fun x126 => b1 (rgI ρ 52 30 v2) (fun x132 => if x126 = x132 then b1 (rgL ρ 53 30 v1) (fun x157 => b1 (rgL ρ 54 30 v1) (fun x163 => b1 (rgL ρ 53 30 v2) (fun x169 => b1 (rgL ρ 54 30 v2) (fun x175 => b1 (R_M_compareFractions x157 x163 x169 x175) (fun x176 => RB_M_compareKeys_179 ρ x176))))) else b1 (rgI ρ 52 30 v1) (fun x141 => b1 (rgI ρ 52 30 v2) (fun x147 => RB_M_compareKeys_179 ρ (x141 - x147))))) else RB_M_compareKeys_119 ρ )
set_option maxHeartbeats 4000000 in
set_option maxRecDepth 100000 in
theorem RC_M_compareKeys (l : Launch) (G : GG) (b : Nat) (ρ : RS) (μ : Mem) (v1 : Int32) (v2 : Int32) (v3 : Int32) (r : Int32) (h : R_M_compareKeys v1 v2 v3 ρ = some r) : CT l G y_M_compareKeys prog_13_method_50_code 6 (some .int) 1 0 0 40 (ov b ρ μ) [vR (some b), vI v1, vI v2, vI v3] (some (vI r)) (ov b ρ μ) := by
  refine wm_met (lv := [(0, vR (some b)), (1, vI v1), (2, vI v2), (3, vI v3)]) (by decide +kernel) (Nat.le_of_ble_eq_true rfl) rfl (fun X E hQ hR hI => ?_)
  have h : (if v3 = 1 then b1 (rgI ρ 50 30 v1) (fun x10 => b1 (rgI ρ 50 30 v2) (fun x18 => if x10 = ((-1)) then if x18 = ((-1)) then RB_M_compareKeys_59 ρ 0 else RB_M_compareKeys_59 ρ 1 else if x18 = ((-1)) then RB_M_compareKeys_59 ρ ((-1)) else b1 (R_M_compareWords x10 x18 (ρ)) (fun x56 => RB_M_compareKeys_59 ρ x56))) else if v3 = 2 then b1 (rgI ρ 51 30 v1) (fun x70 => b1 (rgI ρ 51 30 v2) (fun x76 => if x76 ≤ x70 then b1 (rgI ρ 51 30 v1) (fun x89 => b1 (rgI ρ 51 30 v2) (fun x95 => if x89 ≤ x95 then RB_M_compareKeys_104 ρ 0 else RB_M_compareKeys_104 ρ 1)) else RB_M_compareKeys_104 ρ ((-1)))) else if v3 = 0 then RB_M_compareKeys_119 ρ  else b1 (rgI ρ 30 5 0) (fun x114 => if 2 ≤ x114 then b1 (rgI ρ 52 30 v1) (fun x126 => b1 (rgI ρ 52 30 v2) (fun x132 => if x126 = x132 then b1 (rgL ρ 53 30 v1) (fun x157 => b1 (rgL ρ 54 30 v1) (fun x163 => b1 (rgL ρ 53 30 v2) (fun x169 => b1 (rgL ρ 54 30 v2) (fun x175 => b1 (R_M_compareFractions x157 x163 x169 x175) (fun x176 => RB_M_compareKeys_179 ρ x176))))) else b1 (rgI ρ 52 30 v1) (fun x141 => b1 (rgI ρ 52 30 v2) (fun x147 => RB_M_compareKeys_179 ρ (x141 - x147))))) else RB_M_compareKeys_119 ρ )) = some r := h
  refine wm_iload_n E dM_compareKeys_0 rfl (j := 3) rfl ?_
  refine wm_iconst (x := 1) E dM_compareKeys_1 (by decide) ?_
  refine wm_icmp_ne (tgt := 60) E dM_compareKeys_2 (by decide) (fun c2 => ?_) (fun c2 => ?_)
  · have h := (if_neg c2).symm.trans h
    refine wm_iload_n E dM_compareKeys_60 rfl (j := 3) rfl ?_
    refine wm_iconst (x := 2) E dM_compareKeys_61 (by decide) ?_
    refine wm_icmp_ne (tgt := 105) E dM_compareKeys_62 (by decide) (fun c62 => ?_) (fun c62 => ?_)
    · have h := (if_neg c62).symm.trans h
      refine wm_iload_n E dM_compareKeys_105 rfl (j := 3) rfl ?_
      refine wm_if_eq (tgt := 119) E dM_compareKeys_106 (by decide) (fun c106 => ?_) (fun c106 => ?_)
      · have h := (if_pos c106).symm.trans h
        refine wm_pick (lv' := []) [] rfl ?_
        exact rw_M_compareKeys_119 E hQ hR hI  h
      · have h := (if_neg c106).symm.trans h
        refine wm_aload_n E dM_compareKeys_109 rfl (j := 0) rfl ?_
        refine wm_rget (v := vR (some (b + 27))) E fd_M_88 rfl dM_compareKeys_110 ?_
        refine wm_iconst (x := 0) E dM_compareKeys_113 (by decide) ?_
        refine wm_riald E (by decide) rfl rfl (by decide) (by decide) h dM_compareKeys_114 (fun x114 h => ?_)
        refine wm_iconst (x := 2) E dM_compareKeys_115 (by decide) ?_
        refine wm_icmp_ge (tgt := 121) E dM_compareKeys_116 (by decide) (fun c116 => ?_) (fun c116 => ?_)
        · have h := (if_pos c116).symm.trans h
          refine wm_aload_n E dM_compareKeys_121 rfl (j := 0) rfl ?_
          refine wm_rget (v := vR (some (b + 38))) E fd_M_122 rfl dM_compareKeys_122 ?_
          refine wm_iload_n E dM_compareKeys_125 rfl (j := 1) rfl ?_
          refine wm_riald E (by decide) rfl rfl (by decide) (by decide) h dM_compareKeys_126 (fun x126 h => ?_)
          refine wm_aload_n E dM_compareKeys_127 rfl (j := 0) rfl ?_
          refine wm_rget (v := vR (some (b + 38))) E fd_M_122 rfl dM_compareKeys_128 ?_
          refine wm_iload_n E dM_compareKeys_131 rfl (j := 2) rfl ?_
          refine wm_riald E (by decide) rfl rfl (by decide) (by decide) h dM_compareKeys_132 (fun x132 h => ?_)
          refine wm_icmp_eq (tgt := 152) E dM_compareKeys_133 (by decide) (fun c133 => ?_) (fun c133 => ?_)
          · have h := (if_pos c133).symm.trans h
            refine wm_aload_n E dM_compareKeys_152 rfl (j := 0) rfl ?_
            refine wm_rget (v := vR (some (b + 39))) E fd_M_125 rfl dM_compareKeys_153 ?_
            refine wm_iload_n E dM_compareKeys_156 rfl (j := 1) rfl ?_
            refine wm_rlald E (by decide) rfl rfl (by decide) h dM_compareKeys_157 (fun x157 h => ?_)
            refine wm_aload_n E dM_compareKeys_158 rfl (j := 0) rfl ?_
            refine wm_rget (v := vR (some (b + 40))) E fd_M_129 rfl dM_compareKeys_159 ?_
            refine wm_iload_n E dM_compareKeys_162 rfl (j := 1) rfl ?_
            refine wm_rlald E (by decide) rfl rfl (by decide) h dM_compareKeys_163 (fun x163 h => ?_)
            refine wm_aload_n E dM_compareKeys_164 rfl (j := 0) rfl ?_
            refine wm_rget (v := vR (some (b + 39))) E fd_M_125 rfl dM_compareKeys_165 ?_
            refine wm_iload_n E dM_compareKeys_168 rfl (j := 2) rfl ?_
            refine wm_rlald E (by decide) rfl rfl (by decide) h dM_compareKeys_169 (fun x169 h => ?_)
            refine wm_aload_n E dM_compareKeys_170 rfl (j := 0) rfl ?_
            refine wm_rget (v := vR (some (b + 40))) E fd_M_129 rfl dM_compareKeys_171 ?_
            refine wm_iload_n E dM_compareKeys_174 rfl (j := 2) rfl ?_
            refine wm_rlald E (by decide) rfl rfl (by decide) h dM_compareKeys_175 (fun x175 h => ?_)
            obtain ⟨x176, hc176, h⟩ := b1S h
            refine wm_cS (As := [vL x157, vL x163, vL x169, vL x175]) (st := []) E lk_M_240 sc_M_compareFractions (RC_M_compareFractions (xl X) X.1 x157 x163 x169 x175 _ _ hc176) rfl rfl (by rw [hR]; decide) (by rw [hR]; decide) (Nat.le_of_ble_eq_true rfl) dM_compareKeys_176 ?_
            refine wm_pick (lv' := []) [] rfl ?_
            exact rw_M_compareKeys_179 E hQ hR hI x176 h
          · have h := (if_neg c133).symm.trans h
            refine wm_aload_n E dM_compareKeys_136 rfl (j := 0) rfl ?_
            refine wm_rget (v := vR (some (b + 38))) E fd_M_122 rfl dM_compareKeys_137 ?_
            refine wm_iload_n E dM_compareKeys_140 rfl (j := 1) rfl ?_
            refine wm_riald E (by decide) rfl rfl (by decide) (by decide) h dM_compareKeys_141 (fun x141 h => ?_)
            refine wm_aload_n E dM_compareKeys_142 rfl (j := 0) rfl ?_
            refine wm_rget (v := vR (some (b + 38))) E fd_M_122 rfl dM_compareKeys_143 ?_
            refine wm_iload_n E dM_compareKeys_146 rfl (j := 2) rfl ?_
            refine wm_riald E (by decide) rfl rfl (by decide) (by decide) h dM_compareKeys_147 (fun x147 h => ?_)
            refine wm_isub E dM_compareKeys_148 ?_
            refine wm_goto (tgt := 179) E dM_compareKeys_149 (by decide) ?_
            refine wm_pick (lv' := []) [] rfl ?_
            exact rw_M_compareKeys_179 E hQ hR hI (x141 - x147) h
        · have h := (if_neg c116).symm.trans h
          refine wm_pick (lv' := []) [] rfl ?_
          exact rw_M_compareKeys_119 E hQ hR hI  h
    · have h := (if_pos c62).symm.trans h
      refine wm_aload_n E dM_compareKeys_65 rfl (j := 0) rfl ?_
      refine wm_rget (v := vR (some (b + 37))) E fd_M_119 rfl dM_compareKeys_66 ?_
      refine wm_iload_n E dM_compareKeys_69 rfl (j := 1) rfl ?_
      refine wm_riald E (by decide) rfl rfl (by decide) (by decide) h dM_compareKeys_70 (fun x70 h => ?_)
      refine wm_aload_n E dM_compareKeys_71 rfl (j := 0) rfl ?_
      refine wm_rget (v := vR (some (b + 37))) E fd_M_119 rfl dM_compareKeys_72 ?_
      refine wm_iload_n E dM_compareKeys_75 rfl (j := 2) rfl ?_
      refine wm_riald E (by decide) rfl rfl (by decide) (by decide) h dM_compareKeys_76 (fun x76 h => ?_)
      refine wm_icmp_ge (tgt := 84) E dM_compareKeys_77 (by decide) (fun c77 => ?_) (fun c77 => ?_)
      · have h := (if_pos c77).symm.trans h
        refine wm_aload_n E dM_compareKeys_84 rfl (j := 0) rfl ?_
        refine wm_rget (v := vR (some (b + 37))) E fd_M_119 rfl dM_compareKeys_85 ?_
        refine wm_iload_n E dM_compareKeys_88 rfl (j := 1) rfl ?_
        refine wm_riald E (by decide) rfl rfl (by decide) (by decide) h dM_compareKeys_89 (fun x89 h => ?_)
        refine wm_aload_n E dM_compareKeys_90 rfl (j := 0) rfl ?_
        refine wm_rget (v := vR (some (b + 37))) E fd_M_119 rfl dM_compareKeys_91 ?_
        refine wm_iload_n E dM_compareKeys_94 rfl (j := 2) rfl ?_
        refine wm_riald E (by decide) rfl rfl (by decide) (by decide) h dM_compareKeys_95 (fun x95 h => ?_)
        refine wm_icmp_le (tgt := 103) E dM_compareKeys_96 (by decide) (fun c96 => ?_) (fun c96 => ?_)
        · have h := (if_pos c96).symm.trans h
          refine wm_iconst (x := 0) E dM_compareKeys_103 (by decide) ?_
          refine wm_pick (lv' := []) [] rfl ?_
          exact rw_M_compareKeys_104 E hQ hR hI 0 h
        · have h := (if_neg c96).symm.trans h
          refine wm_iconst (x := 1) E dM_compareKeys_99 (by decide) ?_
          refine wm_goto (tgt := 104) E dM_compareKeys_100 (by decide) ?_
          refine wm_pick (lv' := []) [] rfl ?_
          exact rw_M_compareKeys_104 E hQ hR hI 1 h
      · have h := (if_neg c77).symm.trans h
        refine wm_iconst (x := -1) E dM_compareKeys_80 (by decide) ?_
        refine wm_goto (tgt := 104) E dM_compareKeys_81 (by decide) ?_
        refine wm_pick (lv' := []) [] rfl ?_
        exact rw_M_compareKeys_104 E hQ hR hI ((-1)) h
  · have h := (if_pos c2).symm.trans h
    refine wm_aload_n E dM_compareKeys_5 rfl (j := 0) rfl ?_
    refine wm_rget (v := vR (some (b + 36))) E fd_M_116 rfl dM_compareKeys_6 ?_
    refine wm_iload_n E dM_compareKeys_9 rfl (j := 1) rfl ?_
    refine wm_riald E (by decide) rfl rfl (by decide) (by decide) h dM_compareKeys_10 (fun x10 h => ?_)
    refine wm_istore (lv' := [(4, vI x10), (0, vR (some b)), (1, vI v1), (2, vI v2), (3, vI v3)]) E dM_compareKeys_11 (by decide) rfl ?_
    refine wm_aload_n E dM_compareKeys_13 rfl (j := 1) rfl ?_
    refine wm_rget (v := vR (some (b + 36))) E fd_M_116 rfl dM_compareKeys_14 ?_
    refine wm_iload_n E dM_compareKeys_17 rfl (j := 3) rfl ?_
    refine wm_riald E (by decide) rfl rfl (by decide) (by decide) h dM_compareKeys_18 (fun x18 h => ?_)
    refine wm_istore (lv' := [(5, vI x18), (4, vI x10), (0, vR (some b)), (1, vI v1), (2, vI v2), (3, vI v3)]) E dM_compareKeys_19 (by decide) rfl ?_
    refine wm_iload E dM_compareKeys_21 (j := 1) rfl ?_
    refine wm_iconst (x := -1) E dM_compareKeys_23 (by decide) ?_
    refine wm_icmp_ne (tgt := 41) E dM_compareKeys_24 (by decide) (fun c24 => ?_) (fun c24 => ?_)
    · have h := (if_neg c24).symm.trans h
      refine wm_iload E dM_compareKeys_41 (j := 0) rfl ?_
      refine wm_iconst (x := -1) E dM_compareKeys_43 (by decide) ?_
      refine wm_icmp_ne (tgt := 51) E dM_compareKeys_44 (by decide) (fun c44 => ?_) (fun c44 => ?_)
      · have h := (if_neg c44).symm.trans h
        refine wm_aload_n E dM_compareKeys_51 rfl (j := 2) rfl ?_
        refine wm_iload E dM_compareKeys_52 (j := 1) rfl ?_
        refine wm_iload E dM_compareKeys_54 (j := 0) rfl ?_
        obtain ⟨x56, hc56, h⟩ := b1S h
        refine wm_cV (ci := 12) (As := [vI x10, vI x18]) (st := []) E lk_M_281 rfl im_M_compareWords sl_M_compareWords (ov_rc _ _ _) (RC_M_compareWords (xl X) X.1 b (ρ) μ x10 x18 _ hc56) rfl rfl (by rw [hR]; decide) (by rw [hR]; decide) (Nat.le_of_ble_eq_true rfl) dM_compareKeys_56 ?_
        refine wm_pick (lv' := []) [] rfl ?_
        exact rw_M_compareKeys_59 E hQ hR hI x56 h
      · have h := (if_pos c44).symm.trans h
        refine wm_iconst (x := -1) E dM_compareKeys_47 (by decide) ?_
        refine wm_goto (tgt := 59) E dM_compareKeys_48 (by decide) ?_
        refine wm_pick (lv' := []) [] rfl ?_
        exact rw_M_compareKeys_59 E hQ hR hI ((-1)) h
    · have h := (if_pos c24).symm.trans h
      refine wm_iload E dM_compareKeys_27 (j := 0) rfl ?_
      refine wm_iconst (x := -1) E dM_compareKeys_29 (by decide) ?_
      refine wm_icmp_ne (tgt := 37) E dM_compareKeys_30 (by decide) (fun c30 => ?_) (fun c30 => ?_)
      · have h := (if_neg c30).symm.trans h
        refine wm_iconst (x := 1) E dM_compareKeys_37 (by decide) ?_
        refine wm_goto (tgt := 59) E dM_compareKeys_38 (by decide) ?_
        refine wm_pick (lv' := []) [] rfl ?_
        exact rw_M_compareKeys_59 E hQ hR hI 1 h
      · have h := (if_pos c30).symm.trans h
        refine wm_iconst (x := 0) E dM_compareKeys_33 (by decide) ?_
        refine wm_goto (tgt := 59) E dM_compareKeys_34 (by decide) ?_
        refine wm_pick (lv' := []) [] rfl ?_
        exact rw_M_compareKeys_59 E hQ hR hI 0 h
def RB_M_insert_46  (v1 : Int32) (v3 : Int32) (ρ : RS) : Option (Unit × RS) := b1 (rsI ρ 37 30 v3 v1) (fun ρ52 => b0 (rpI ρ52 36 ((ri ρ52 36) + 1)) (fun ρ60 => some ((), ρ60)))
set_option maxHeartbeats 4000000 in
set_option maxRecDepth 100000 in
theorem rw_M_insert_46 {X : CX} (E : EV X prog_13_method_51_code 4 "PlaceFinderModel" none) {μ0 μ : Mem} {b : Nat} {r : Unit} {ρ' : RS} (hQ : RQ X 0 0 μ0 none (ov b ρ' μ)) (hR : xR X = { frames := 2, cells := 0, slots := 0, locals := 65 }) (hI : X.2.2.2.2.2.2.2.2.2.2.2.1.name = "insert") (hW : mW μ ≤ b)  (v1 : Int32) (v3 : Int32) (ρ : RS) (h : RB_M_insert_46  v1 v3 ρ = some (r, ρ')) : WM X 4 46 [(0, vR (some b)), (1, vI v1), (3, vI v3)] [] 0 0 (ov b ρ μ) := by
  have h : (b1 (rsI ρ 37 30 v3 v1) (fun ρ52 => b0 (rpI ρ52 36 ((ri ρ52 36) + 1)) (fun ρ60 => some ((), ρ60)))) = some (r, ρ') := h
  refine wm_aload_n E dM_insert_46 rfl (j := 0) rfl ?_
  refine wm_rget (v := vR (some (b + 33))) E fd_M_107 rfl dM_insert_47 ?_
  refine wm_iload_n E dM_insert_50 rfl (j := 2) rfl ?_
  refine wm_iload_n E dM_insert_51 rfl (j := 1) rfl ?_
  refine wm_riast E (by decide) rfl rfl (by decide) (by decide) hW h dM_insert_52 (fun ρ52 h => ?_)
  refine wm_aload_n E dM_insert_53 rfl (j := 0) rfl ?_
  refine wm_dup E dM_insert_54 rfl ?_
  refine wm_rget (v := vI (ri ρ52 36)) E fd_M_284 rfl dM_insert_55 ?_
  refine wm_iconst (x := 1) E dM_insert_58 (by decide) ?_
  refine wm_iadd E dM_insert_59 ?_
  refine wm_rpI E fp_M_284 (fun q => by cases q) rfl (by decide) hW dM_insert_60 ?_
  refine wm_rlet h (fun ρ60 h => ?_)
  exact wm_vret E hQ rfl (rrM h) (by decide) (by decide) dM_insert_63
def RB_M_insert_5  : Nat → Int32 → Int32 → Int32 → RS → Option (Unit × RS)
  | 0, _, _, _, _ => none
  | n + 1, v1, v2, v3, ρ => if v3 ≤ 0 then RB_M_insert_46 v1 v3 (ρ) else b1 (rgI ρ 37 30 (v3 - 1)) (fun x17 => b1 (R_M_compareKeys x17 v1 v2 (ρ)) (fun x20 => if x20 ≤ 0 then RB_M_insert_46 v1 v3 (ρ) else b1 (rgI ρ 37 30 (v3 - 1)) (fun x38 => b1 (rsI ρ 37 30 v3 x38) (fun ρ39 => (fun v1 v2 v3 ρ => RB_M_insert_5 n v1 v2 v3 ρ) v1 v2 (v3 + (-1)) (ρ39)))))
set_option maxHeartbeats 4000000 in
set_option maxRecDepth 100000 in
theorem rw_M_insert_5 {X : CX} (E : EV X prog_13_method_51_code 4 "PlaceFinderModel" none) {μ0 μ : Mem} {b : Nat} {r : Unit} {ρ' : RS} (hQ : RQ X 0 0 μ0 none (ov b ρ' μ)) (hR : xR X = { frames := 2, cells := 0, slots := 0, locals := 65 }) (hI : X.2.2.2.2.2.2.2.2.2.2.2.1.name = "insert") (hW : mW μ ≤ b)  (n : Nat) : ∀ (v1 : Int32) (v2 : Int32) (v3 : Int32) (ρ : RS) (h : RB_M_insert_5  n v1 v2 v3 ρ = some (r, ρ')), WM X 4 5 [(0, vR (some b)), (1, vI v1), (2, vI v2), (3, vI v3)] [] 0 0 (ov b ρ μ) := by
  induction n with
  | zero => intro v1 v2 v3 ρ h; cases h
  | succ n ih =>
    intro v1 v2 v3 ρ h
    have h : (if v3 ≤ 0 then RB_M_insert_46 v1 v3 (ρ) else b1 (rgI ρ 37 30 (v3 - 1)) (fun x17 => b1 (R_M_compareKeys x17 v1 v2 (ρ)) (fun x20 => if x20 ≤ 0 then RB_M_insert_46 v1 v3 (ρ) else b1 (rgI ρ 37 30 (v3 - 1)) (fun x38 => b1 (rsI ρ 37 30 v3 x38) (fun ρ39 => (fun v1 v2 v3 ρ => RB_M_insert_5 n v1 v2 v3 ρ) v1 v2 (v3 + (-1)) (ρ39)))))) = some (r, ρ') := h
    refine wm_iload_n E dM_insert_5 rfl (j := 3) rfl ?_
    refine wm_if_le (tgt := 46) E dM_insert_6 (by decide) (fun c6 => ?_) (fun c6 => ?_)
    · have h := (if_pos c6).symm.trans h
      refine wm_pick (lv' := [(0, vR (some b)), (1, vI v1), (3, vI v3)]) [0, 1, 3] rfl ?_
      exact rw_M_insert_46 E hQ hR hI hW v1 v3 (ρ) h
    · have h := (if_neg c6).symm.trans h
      refine wm_aload_n E dM_insert_9 rfl (j := 0) rfl ?_
      refine wm_aload_n E dM_insert_10 rfl (j := 0) rfl ?_
      refine wm_rget (v := vR (some (b + 33))) E fd_M_107 rfl dM_insert_11 ?_
      refine wm_iload_n E dM_insert_14 rfl (j := 3) rfl ?_
      refine wm_iconst (x := 1) E dM_insert_15 (by decide) ?_
      refine wm_isub E dM_insert_16 ?_
      refine wm_riald E (by decide) rfl rfl (by decide) (by decide) h dM_insert_17 (fun x17 h => ?_)
      refine wm_iload_n E dM_insert_18 rfl (j := 1) rfl ?_
      refine wm_iload_n E dM_insert_19 rfl (j := 2) rfl ?_
      obtain ⟨x20, hc20, h⟩ := b1S h
      refine wm_cV (ci := 12) (As := [vI x17, vI v1, vI v2]) (st := []) E lk_M_287 rfl im_M_compareKeys sl_M_compareKeys (ov_rc _ _ _) (RC_M_compareKeys (xl X) X.1 b (ρ) μ x17 v1 v2 _ hc20) rfl rfl (by rw [hR]; decide) (by rw [hR]; decide) (Nat.le_of_ble_eq_true rfl) dM_insert_20 ?_
      refine wm_if_le (tgt := 46) E dM_insert_23 (by decide) (fun c23 => ?_) (fun c23 => ?_)
      · have h := (if_pos c23).symm.trans h
        refine wm_pick (lv' := [(0, vR (some b)), (1, vI v1), (3, vI v3)]) [0, 1, 3] rfl ?_
        exact rw_M_insert_46 E hQ hR hI hW v1 v3 (ρ) h
      · have h := (if_neg c23).symm.trans h
        refine wm_aload_n E dM_insert_26 rfl (j := 0) rfl ?_
        refine wm_rget (v := vR (some (b + 33))) E fd_M_107 rfl dM_insert_27 ?_
        refine wm_iload_n E dM_insert_30 rfl (j := 3) rfl ?_
        refine wm_aload_n E dM_insert_31 rfl (j := 0) rfl ?_
        refine wm_rget (v := vR (some (b + 33))) E fd_M_107 rfl dM_insert_32 ?_
        refine wm_iload_n E dM_insert_35 rfl (j := 3) rfl ?_
        refine wm_iconst (x := 1) E dM_insert_36 (by decide) ?_
        refine wm_isub E dM_insert_37 ?_
        refine wm_riald E (by decide) rfl rfl (by decide) (by decide) h dM_insert_38 (fun x38 h => ?_)
        refine wm_riast E (by decide) rfl rfl (by decide) (by decide) hW h dM_insert_39 (fun ρ39 h => ?_)
        refine wm_iinc (lv' := [(3, vI (v3 + (-1))), (0, vR (some b)), (1, vI v1), (2, vI v2)]) (d := (-1)) E dM_insert_40 (by decide) (j := 3) rfl (by decide) rfl ?_
        refine wm_goto (tgt := 5) E dM_insert_43 (by decide) ?_
        refine wm_pick (lv' := [(0, vR (some b)), (1, vI v1), (2, vI v2), (3, vI (v3 + (-1)))]) [1, 2, 3, 0] rfl ?_
        exact ih v1 v2 (v3 + (-1)) (ρ39) h
def R_M_insert (v1 : Int32) (v2 : Int32) (ρ : RS) : Option (Unit × RS) := b0 (ri ρ 36) (fun x4 => RB_M_insert_5 fu v1 v2 x4 (ρ))
set_option maxHeartbeats 4000000 in
set_option maxRecDepth 100000 in
theorem RC_M_insert (l : Launch) (G : GG) (b : Nat) (ρ : RS) (μ : Mem) (hW : mW μ ≤ b) (v1 : Int32) (v2 : Int32) (r : Unit) (ρ' : RS) (h : R_M_insert v1 v2 ρ = some (r, ρ')) : CT l G y_M_insert prog_13_method_51_code 4 none 2 0 0 65 (ov b ρ μ) [vR (some b), vI v1, vI v2] none (ov b ρ' μ) := by
  refine wm_met (lv := [(0, vR (some b)), (1, vI v1), (2, vI v2)]) (by decide +kernel) (Nat.le_of_ble_eq_true rfl) rfl (fun X E hQ hR hI => ?_)
  have h : (b0 (ri ρ 36) (fun x4 => RB_M_insert_5 fu v1 v2 x4 (ρ))) = some (r, ρ') := h
  refine wm_aload_n E dM_insert_0 rfl (j := 0) rfl ?_
  refine wm_rget (v := vI (ri ρ 36)) E fd_M_284 rfl dM_insert_1 ?_
  refine wm_letI h (fun x4 h => ?_)
  refine wm_istore_n (lv' := [(3, vI x4), (0, vR (some b)), (1, vI v1), (2, vI v2)]) E dM_insert_4 rfl (by decide) rfl ?_
  refine wm_pick (lv' := [(0, vR (some b)), (1, vI v1), (2, vI v2), (3, vI x4)]) [1, 2, 3, 0] rfl ?_
  exact rw_M_insert_5 E hQ hR hI hW fu v1 v2 x4 (ρ) h
def RB_M_find_75 (k41 : Int32 → Int32 → Int32 → RS → Option (Int32 × RS)) (v1 : Int32) (v2 : Int32) (v3 : Int32) (ρ : RS) : Option (Int32 × RS) := k41 v1 v2 (v3 + 1) (ρ)
set_option maxHeartbeats 4000000 in
set_option maxRecDepth 100000 in
theorem rw_M_find_75 {X : CX} (E : EV X prog_13_method_52_code 4 "PlaceFinderModel" (some .int)) {μ0 μ : Mem} {b : Nat} {r : Int32} {ρ' : RS} (hQ : RQ X 0 0 μ0 (some (vI r)) (ov b ρ' μ)) (hR : xR X = { frames := 5, cells := 0, slots := 0, locals := 141 }) (hI : X.2.2.2.2.2.2.2.2.2.2.2.1.name = "find") (hW : mW μ ≤ b) (k41 : Int32 → Int32 → Int32 → RS → Option (Int32 × RS)) (hk41 : ∀ (v1 : Int32) (v2 : Int32) (v3 : Int32) (ρ : RS), k41 v1 v2 v3 ρ = some (r, ρ') → WM X 4 41 [(0, vR (some b)), (1, vI v1), (2, vI v2), (3, vI v3)] [] 0 0 (ov b ρ μ)) (v1 : Int32) (v2 : Int32) (v3 : Int32) (ρ : RS) (h : RB_M_find_75 k41 v1 v2 v3 ρ = some (r, ρ')) : WM X 4 75 [(0, vR (some b)), (1, vI v1), (2, vI v2), (3, vI v3)] [] 0 0 (ov b ρ μ) := by
  have h : (k41 v1 v2 (v3 + 1) (ρ)) = some (r, ρ') := h
  refine wm_iinc (lv' := [(3, vI (v3 + 1)), (0, vR (some b)), (1, vI v1), (2, vI v2)]) (d := 1) E dM_find_75 (by decide) (j := 3) rfl (by decide) rfl ?_
  refine wm_goto (tgt := 41) E dM_find_78 (by decide) ?_
  refine wm_pick (lv' := [(0, vR (some b)), (1, vI v1), (2, vI v2), (3, vI (v3 + 1))]) [1, 2, 3, 0] rfl ?_
  exact hk41 v1 v2 (v3 + 1) (ρ) h
def RB_M_find_41  : Nat → Int32 → Int32 → Int32 → RS → Option (Int32 × RS)
  | 0, _, _, _, _ => none
  | n + 1, v1, v2, v3, ρ => if (ri ρ 1) ≤ v3 then some (ri ρ 36, ρ) else c2 (R_M_meets v3 v1 0 (ρ)) (fun x53 ρ53 => if x53 = 0 then RB_M_find_75 (fun v1 v2 v3 ρ => RB_M_find_41 n v1 v2 v3 ρ) v1 v2 v3 (ρ53) else c2 (R_M_makeKeys v3 v1 v2 (ρ53)) (fun x66 ρ66 => c2 (R_M_insert v3 v2 (ρ66)) (fun x72 ρ72 => RB_M_find_75 (fun v1 v2 v3 ρ => RB_M_find_41 n v1 v2 v3 ρ) v1 v2 v3 (ρ72))))
set_option maxHeartbeats 4000000 in
set_option maxRecDepth 100000 in
theorem rw_M_find_41 {X : CX} (E : EV X prog_13_method_52_code 4 "PlaceFinderModel" (some .int)) {μ0 μ : Mem} {b : Nat} {r : Int32} {ρ' : RS} (hQ : RQ X 0 0 μ0 (some (vI r)) (ov b ρ' μ)) (hR : xR X = { frames := 5, cells := 0, slots := 0, locals := 141 }) (hI : X.2.2.2.2.2.2.2.2.2.2.2.1.name = "find") (hW : mW μ ≤ b)  (n : Nat) : ∀ (v1 : Int32) (v2 : Int32) (v3 : Int32) (ρ : RS) (h : RB_M_find_41  n v1 v2 v3 ρ = some (r, ρ')), WM X 4 41 [(0, vR (some b)), (1, vI v1), (2, vI v2), (3, vI v3)] [] 0 0 (ov b ρ μ) := by
  induction n with
  | zero => intro v1 v2 v3 ρ h; cases h
  | succ n ih =>
    intro v1 v2 v3 ρ h
    have h : (if (ri ρ 1) ≤ v3 then some (ri ρ 36, ρ) else c2 (R_M_meets v3 v1 0 (ρ)) (fun x53 ρ53 => if x53 = 0 then RB_M_find_75 (fun v1 v2 v3 ρ => RB_M_find_41 n v1 v2 v3 ρ) v1 v2 v3 (ρ53) else c2 (R_M_makeKeys v3 v1 v2 (ρ53)) (fun x66 ρ66 => c2 (R_M_insert v3 v2 (ρ66)) (fun x72 ρ72 => RB_M_find_75 (fun v1 v2 v3 ρ => RB_M_find_41 n v1 v2 v3 ρ) v1 v2 v3 (ρ72))))) = some (r, ρ') := h
    refine wm_iload_n E dM_find_41 rfl (j := 3) rfl ?_
    refine wm_aload_n E dM_find_42 rfl (j := 0) rfl ?_
    refine wm_rget (v := vI (ri ρ 1)) E fd_M_136 rfl dM_find_43 ?_
    refine wm_icmp_ge (tgt := 81) E dM_find_46 (by decide) (fun c46 => ?_) (fun c46 => ?_)
    · have h := (if_pos c46).symm.trans h
      refine wm_aload_n E dM_find_81 rfl (j := 0) rfl ?_
      refine wm_rget (v := vI (ri ρ 36)) E fd_M_284 rfl dM_find_82 ?_
      exact wm_iret (rt := .int) E hQ (rrI h) (rrM h) (by decide) (by decide) dM_find_85
    · have h := (if_neg c46).symm.trans h
      refine wm_aload_n E dM_find_49 rfl (j := 0) rfl ?_
      refine wm_iload_n E dM_find_50 rfl (j := 3) rfl ?_
      refine wm_iload_n E dM_find_51 rfl (j := 1) rfl ?_
      refine wm_iconst (x := 0) E dM_find_52 (by decide) ?_
      obtain ⟨x53, ρ53, hc53, h⟩ := c2S h
      refine wm_cV (ci := 12) (As := [vI v3, vI v1, vI 0]) (st := []) E lk_M_291 rfl im_M_meets sl_M_meets (ov_rc _ _ _) (RC_M_meets (xl X) X.1 b (ρ) μ hW v3 v1 0 _ _ hc53) rfl rfl (by rw [hR]; decide) (by rw [hR]; decide) (Nat.le_of_ble_eq_true rfl) dM_find_53 ?_
      refine wm_if_ne (tgt := 62) E dM_find_56 (by decide) (fun c56 => ?_) (fun c56 => ?_)
      · have h := (if_neg c56).symm.trans h
        refine wm_aload_n E dM_find_62 rfl (j := 0) rfl ?_
        refine wm_iload_n E dM_find_63 rfl (j := 3) rfl ?_
        refine wm_iload_n E dM_find_64 rfl (j := 1) rfl ?_
        refine wm_iload_n E dM_find_65 rfl (j := 2) rfl ?_
        obtain ⟨x66, ρ66, hc66, h⟩ := c2S h
        refine wm_cV (ci := 12) (As := [vI v3, vI v1, vI v2]) (st := []) E lk_M_294 rfl im_M_makeKeys sl_M_makeKeys (ov_rc _ _ _) (RC_M_makeKeys (xl X) X.1 b (ρ53) μ hW v3 v1 v2 _ _ hc66) rfl rfl (by rw [hR]; decide) (by rw [hR]; decide) (Nat.le_of_ble_eq_true rfl) dM_find_66 ?_
        refine wm_aload_n E dM_find_69 rfl (j := 0) rfl ?_
        refine wm_iload_n E dM_find_70 rfl (j := 3) rfl ?_
        refine wm_iload_n E dM_find_71 rfl (j := 2) rfl ?_
        obtain ⟨x72, ρ72, hc72, h⟩ := c2S h
        refine wm_cV (ci := 12) (As := [vI v3, vI v2]) (st := []) E lk_M_297 rfl im_M_insert sl_M_insert (ov_rc _ _ _) (RC_M_insert (xl X) X.1 b (ρ66) μ hW v3 v2 _ _ hc72) rfl rfl (by rw [hR]; decide) (by rw [hR]; decide) (Nat.le_of_ble_eq_true rfl) dM_find_72 ?_
        refine wm_pick (lv' := [(0, vR (some b)), (1, vI v1), (2, vI v2), (3, vI v3)]) [0, 1, 2, 3] rfl ?_
        exact rw_M_find_75 E hQ hR hI hW (fun v1 v2 v3 ρ => RB_M_find_41 n v1 v2 v3 ρ) ih v1 v2 v3 (ρ72) h
      · have h := (if_pos c56).symm.trans h
        refine wm_goto (tgt := 75) E dM_find_59 (by decide) ?_
        refine wm_pick (lv' := [(0, vR (some b)), (1, vI v1), (2, vI v2), (3, vI v3)]) [0, 1, 2, 3] rfl ?_
        exact rw_M_find_75 E hQ hR hI hW (fun v1 v2 v3 ρ => RB_M_find_41 n v1 v2 v3 ρ) ih v1 v2 v3 (ρ53) h
def RB_M_find_22  (v1 : Int32) (v2 : Int32) (s1 : Int32) (ρ : RS) : Option (Int32 × RS) := b0 (rpI ρ 0 s1) (fun ρ22 => if (ri ρ22 0) ≤ 0 then b0 (rpI ρ22 36 0) (fun ρ36 => RB_M_find_41 fu v1 v2 0 (ρ36)) else some (0, ρ22))
set_option maxHeartbeats 4000000 in
set_option maxRecDepth 100000 in
theorem rw_M_find_22 {X : CX} (E : EV X prog_13_method_52_code 4 "PlaceFinderModel" (some .int)) {μ0 μ : Mem} {b : Nat} {r : Int32} {ρ' : RS} (hQ : RQ X 0 0 μ0 (some (vI r)) (ov b ρ' μ)) (hR : xR X = { frames := 5, cells := 0, slots := 0, locals := 141 }) (hI : X.2.2.2.2.2.2.2.2.2.2.2.1.name = "find") (hW : mW μ ≤ b)  (v1 : Int32) (v2 : Int32) (s1 : Int32) (ρ : RS) (h : RB_M_find_22  v1 v2 s1 ρ = some (r, ρ')) : WM X 4 22 [(0, vR (some b)), (1, vI v1), (2, vI v2)] [vI s1, vR (some b)] 0 0 (ov b ρ μ) := by
  have h : (b0 (rpI ρ 0 s1) (fun ρ22 => if (ri ρ22 0) ≤ 0 then b0 (rpI ρ22 36 0) (fun ρ36 => RB_M_find_41 fu v1 v2 0 (ρ36)) else some (0, ρ22))) = some (r, ρ') := h
  refine wm_rpI E fp_M_132 (fun q => by cases q) rfl (by decide) hW dM_find_22 ?_
  refine wm_rlet h (fun ρ22 h => ?_)
  refine wm_aload_n E dM_find_25 rfl (j := 0) rfl ?_
  refine wm_rget (v := vI (ri ρ22 0)) E fd_M_132 rfl dM_find_26 ?_
  refine wm_if_le (tgt := 34) E dM_find_29 (by decide) (fun c29 => ?_) (fun c29 => ?_)
  · have h := (if_pos c29).symm.trans h
    refine wm_aload_n E dM_find_34 rfl (j := 0) rfl ?_
    refine wm_iconst (x := 0) E dM_find_35 (by decide) ?_
    refine wm_rpI E fp_M_284 (fun q => by cases q) rfl (by decide) hW dM_find_36 ?_
    refine wm_rlet h (fun ρ36 h => ?_)
    refine wm_iconst (x := 0) E dM_find_39 (by decide) ?_
    refine wm_istore_n (lv' := [(3, vI 0), (0, vR (some b)), (1, vI v1), (2, vI v2)]) E dM_find_40 rfl (by decide) rfl ?_
    refine wm_pick (lv' := [(0, vR (some b)), (1, vI v1), (2, vI v2), (3, vI 0)]) [1, 2, 3, 0] rfl ?_
    exact rw_M_find_41 E hQ hR hI hW fu v1 v2 0 (ρ36) h
  · have h := (if_neg c29).symm.trans h
    refine wm_iconst (x := 0) E dM_find_32 (by decide) ?_
    exact wm_iret (rt := .int) E hQ (rrI h) (rrM h) (by decide) (by decide) dM_find_33
def RB_M_find_17  (v1 : Int32) (v2 : Int32) (ρ : RS) : Option (Int32 × RS) := RB_M_find_22 v1 v2 1 (ρ)
set_option maxHeartbeats 4000000 in
set_option maxRecDepth 100000 in
theorem rw_M_find_17 {X : CX} (E : EV X prog_13_method_52_code 4 "PlaceFinderModel" (some .int)) {μ0 μ : Mem} {b : Nat} {r : Int32} {ρ' : RS} (hQ : RQ X 0 0 μ0 (some (vI r)) (ov b ρ' μ)) (hR : xR X = { frames := 5, cells := 0, slots := 0, locals := 141 }) (hI : X.2.2.2.2.2.2.2.2.2.2.2.1.name = "find") (hW : mW μ ≤ b)  (v1 : Int32) (v2 : Int32) (ρ : RS) (h : RB_M_find_17  v1 v2 ρ = some (r, ρ')) : WM X 4 17 [(0, vR (some b)), (1, vI v1), (2, vI v2)] [vR (some b)] 0 0 (ov b ρ μ) := by
  have h : (RB_M_find_22 v1 v2 1 (ρ)) = some (r, ρ') := h
  refine wm_iconst (x := 1) E dM_find_17 (by decide) ?_
  refine wm_goto (tgt := 22) E dM_find_18 (by decide) ?_
  refine wm_pick (lv' := [(0, vR (some b)), (1, vI v1), (2, vI v2)]) [0, 1, 2] rfl ?_
  exact rw_M_find_22 E hQ hR hI hW v1 v2 1 (ρ) h
def R_M_find (v1 : Int32) (v2 : Int32) (ρ : RS) : Option (Int32 × RS) := b1 (R_M_isDay v1) (fun x2 => if x2 = 0 then RB_M_find_17 v1 v2 (ρ) else b1 (R_M_in v2 0 3) (fun x11 => if x11 = 0 then RB_M_find_17 v1 v2 (ρ) else RB_M_find_22 v1 v2 0 (ρ)))
set_option maxHeartbeats 4000000 in
set_option maxRecDepth 100000 in
theorem RC_M_find (l : Launch) (G : GG) (b : Nat) (ρ : RS) (μ : Mem) (hW : mW μ ≤ b) (v1 : Int32) (v2 : Int32) (r : Int32) (ρ' : RS) (h : R_M_find v1 v2 ρ = some (r, ρ')) : CT l G y_M_find prog_13_method_52_code 4 (some .int) 5 0 0 141 (ov b ρ μ) [vR (some b), vI v1, vI v2] (some (vI r)) (ov b ρ' μ) := by
  refine wm_met (lv := [(0, vR (some b)), (1, vI v1), (2, vI v2)]) (by decide +kernel) (Nat.le_of_ble_eq_true rfl) rfl (fun X E hQ hR hI => ?_)
  have h : (b1 (R_M_isDay v1) (fun x2 => if x2 = 0 then RB_M_find_17 v1 v2 (ρ) else b1 (R_M_in v2 0 3) (fun x11 => if x11 = 0 then RB_M_find_17 v1 v2 (ρ) else RB_M_find_22 v1 v2 0 (ρ)))) = some (r, ρ') := h
  refine wm_aload_n E dM_find_0 rfl (j := 0) rfl ?_
  refine wm_iload_n E dM_find_1 rfl (j := 1) rfl ?_
  obtain ⟨x2, hc2, h⟩ := b1S h
  refine wm_cS (As := [vI v1]) (st := [vR (some b)]) E lk_M_143 sc_M_isDay (RC_M_isDay (xl X) X.1 v1 _ _ hc2) rfl rfl (by rw [hR]; decide) (by rw [hR]; decide) (Nat.le_of_ble_eq_true rfl) dM_find_2 ?_
  refine wm_if_eq (tgt := 17) E dM_find_5 (by decide) (fun c5 => ?_) (fun c5 => ?_)
  · have h := (if_pos c5).symm.trans h
    refine wm_pick (lv' := [(0, vR (some b)), (1, vI v1), (2, vI v2)]) [0, 1, 2] rfl ?_
    exact rw_M_find_17 E hQ hR hI hW v1 v2 (ρ) h
  · have h := (if_neg c5).symm.trans h
    refine wm_iload_n E dM_find_8 rfl (j := 2) rfl ?_
    refine wm_iconst (x := 0) E dM_find_9 (by decide) ?_
    refine wm_iconst (x := 3) E dM_find_10 (by decide) ?_
    obtain ⟨x11, hc11, h⟩ := b1S h
    refine wm_cS (As := [vI v2, vI 0, vI 3]) (st := [vR (some b)]) E lk_M_139 sc_M_in (RC_M_in (xl X) X.1 v2 0 3 _ _ hc11) rfl rfl (by rw [hR]; decide) (by rw [hR]; decide) (Nat.le_of_ble_eq_true rfl) dM_find_11 ?_
    refine wm_if_ne (tgt := 21) E dM_find_14 (by decide) (fun c14 => ?_) (fun c14 => ?_)
    · have h := (if_neg c14).symm.trans h
      refine wm_iconst (x := 0) E dM_find_21 (by decide) ?_
      refine wm_pick (lv' := [(0, vR (some b)), (1, vI v1), (2, vI v2)]) [0, 1, 2] rfl ?_
      exact rw_M_find_22 E hQ hR hI hW v1 v2 0 (ρ) h
    · have h := (if_pos c14).symm.trans h
      refine wm_pick (lv' := [(0, vR (some b)), (1, vI v1), (2, vI v2)]) [0, 1, 2] rfl ?_
      exact rw_M_find_17 E hQ hR hI hW v1 v2 (ρ) h
def RB_M_near_151  (s1 : Int32) (ρ : RS) : Option (Int32 × RS) := b0 (rpI ρ 36 s1) (fun ρ151 => some (ri ρ151 36, ρ151))
set_option maxHeartbeats 4000000 in
set_option maxRecDepth 100000 in
theorem rw_M_near_151 {X : CX} (E : EV X prog_13_method_53_code 7 "PlaceFinderModel" (some .int)) {μ0 μ : Mem} {b : Nat} {r : Int32} {ρ' : RS} (hQ : RQ X 0 0 μ0 (some (vI r)) (ov b ρ' μ)) (hR : xR X = { frames := 3, cells := 0, slots := 0, locals := 88 }) (hI : X.2.2.2.2.2.2.2.2.2.2.2.1.name = "near") (hW : mW μ ≤ b)  (s1 : Int32) (ρ : RS) (h : RB_M_near_151  s1 ρ = some (r, ρ')) : WM X 7 151 [(0, vR (some b))] [vI s1, vR (some b)] 0 0 (ov b ρ μ) := by
  have h : (b0 (rpI ρ 36 s1) (fun ρ151 => some (ri ρ151 36, ρ151))) = some (r, ρ') := h
  refine wm_rpI E fp_M_284 (fun q => by cases q) rfl (by decide) hW dM_near_151 ?_
  refine wm_rlet h (fun ρ151 h => ?_)
  refine wm_aload_n E dM_near_154 rfl (j := 0) rfl ?_
  refine wm_rget (v := vI (ri ρ151 36)) E fd_M_284 rfl dM_near_155 ?_
  exact wm_iret (rt := .int) E hQ (rrI h) (rrM h) (by decide) (by decide) dM_near_158
def RB_M_near_128 (k63 : Int32 → Int32 → Int32 → Int32 → Int32 → Int32 → RS → Option (Int32 × RS)) (v1 : Int32) (v2 : Int32) (v3 : Int32) (v4 : Int32) (v5 : Int32) (v6 : Int32) (ρ : RS) : Option (Int32 × RS) := k63 v1 v2 v3 v4 v5 (v6 + 1) (ρ)
set_option maxHeartbeats 4000000 in
set_option maxRecDepth 100000 in
theorem rw_M_near_128 {X : CX} (E : EV X prog_13_method_53_code 7 "PlaceFinderModel" (some .int)) {μ0 μ : Mem} {b : Nat} {r : Int32} {ρ' : RS} (hQ : RQ X 0 0 μ0 (some (vI r)) (ov b ρ' μ)) (hR : xR X = { frames := 3, cells := 0, slots := 0, locals := 88 }) (hI : X.2.2.2.2.2.2.2.2.2.2.2.1.name = "near") (hW : mW μ ≤ b) (k63 : Int32 → Int32 → Int32 → Int32 → Int32 → Int32 → RS → Option (Int32 × RS)) (hk63 : ∀ (v1 : Int32) (v2 : Int32) (v3 : Int32) (v4 : Int32) (v5 : Int32) (v6 : Int32) (ρ : RS), k63 v1 v2 v3 v4 v5 v6 ρ = some (r, ρ') → WM X 7 63 [(0, vR (some b)), (1, vI v1), (2, vI v2), (3, vI v3), (4, vI v4), (5, vI v5), (6, vI v6)] [] 0 0 (ov b ρ μ)) (v1 : Int32) (v2 : Int32) (v3 : Int32) (v4 : Int32) (v5 : Int32) (v6 : Int32) (ρ : RS) (h : RB_M_near_128 k63 v1 v2 v3 v4 v5 v6 ρ = some (r, ρ')) : WM X 7 128 [(0, vR (some b)), (1, vI v1), (2, vI v2), (3, vI v3), (4, vI v4), (5, vI v5), (6, vI v6)] [] 0 0 (ov b ρ μ) := by
  have h : (k63 v1 v2 v3 v4 v5 (v6 + 1) (ρ)) = some (r, ρ') := h
  refine wm_iinc (lv' := [(6, vI (v6 + 1)), (0, vR (some b)), (1, vI v1), (2, vI v2), (3, vI v3), (4, vI v4), (5, vI v5)]) (d := 1) E dM_near_128 (by decide) (j := 6) rfl (by decide) rfl ?_
  refine wm_goto (tgt := 63) E dM_near_131 (by decide) ?_
  refine wm_pick (lv' := [(0, vR (some b)), (1, vI v1), (2, vI v2), (3, vI v3), (4, vI v4), (5, vI v5), (6, vI (v6 + 1))]) [1, 2, 3, 4, 5, 6, 0] rfl ?_
  exact hk63 v1 v2 v3 v4 v5 (v6 + 1) (ρ) h
def RB_M_near_104 (k63 : Int32 → Int32 → Int32 → Int32 → Int32 → Int32 → RS → Option (Int32 × RS)) (v1 : Int32) (v2 : Int32) (v3 : Int32) (v4 : Int32) (v5 : Int32) (v6 : Int32) (ρ : RS) : Option (Int32 × RS) := b1 (R_M_square v6 v5 v1 v2 (ρ)) (fun x117 => b1 (rsI ρ 51 30 v6 x117) (fun ρ120 => c2 (R_M_insert v6 2 (ρ120)) (fun x125 ρ125 => RB_M_near_128 k63 v1 v2 v3 v4 v5 v6 (ρ125))))
set_option maxHeartbeats 4000000 in
set_option maxRecDepth 100000 in
theorem rw_M_near_104 {X : CX} (E : EV X prog_13_method_53_code 7 "PlaceFinderModel" (some .int)) {μ0 μ : Mem} {b : Nat} {r : Int32} {ρ' : RS} (hQ : RQ X 0 0 μ0 (some (vI r)) (ov b ρ' μ)) (hR : xR X = { frames := 3, cells := 0, slots := 0, locals := 88 }) (hI : X.2.2.2.2.2.2.2.2.2.2.2.1.name = "near") (hW : mW μ ≤ b) (k63 : Int32 → Int32 → Int32 → Int32 → Int32 → Int32 → RS → Option (Int32 × RS)) (hk63 : ∀ (v1 : Int32) (v2 : Int32) (v3 : Int32) (v4 : Int32) (v5 : Int32) (v6 : Int32) (ρ : RS), k63 v1 v2 v3 v4 v5 v6 ρ = some (r, ρ') → WM X 7 63 [(0, vR (some b)), (1, vI v1), (2, vI v2), (3, vI v3), (4, vI v4), (5, vI v5), (6, vI v6)] [] 0 0 (ov b ρ μ)) (v1 : Int32) (v2 : Int32) (v3 : Int32) (v4 : Int32) (v5 : Int32) (v6 : Int32) (ρ : RS) (h : RB_M_near_104 k63 v1 v2 v3 v4 v5 v6 ρ = some (r, ρ')) : WM X 7 104 [(0, vR (some b)), (1, vI v1), (2, vI v2), (3, vI v3), (4, vI v4), (5, vI v5), (6, vI v6)] [] 0 0 (ov b ρ μ) := by
  have h : (b1 (R_M_square v6 v5 v1 v2 (ρ)) (fun x117 => b1 (rsI ρ 51 30 v6 x117) (fun ρ120 => c2 (R_M_insert v6 2 (ρ120)) (fun x125 ρ125 => RB_M_near_128 k63 v1 v2 v3 v4 v5 v6 (ρ125))))) = some (r, ρ') := h
  refine wm_aload_n E dM_near_104 rfl (j := 0) rfl ?_
  refine wm_rget (v := vR (some (b + 37))) E fd_M_119 rfl dM_near_105 ?_
  refine wm_iload E dM_near_108 (j := 6) rfl ?_
  refine wm_aload_n E dM_near_110 rfl (j := 0) rfl ?_
  refine wm_iload E dM_near_111 (j := 6) rfl ?_
  refine wm_iload E dM_near_113 (j := 5) rfl ?_
  refine wm_iload_n E dM_near_115 rfl (j := 1) rfl ?_
  refine wm_iload_n E dM_near_116 rfl (j := 2) rfl ?_
  obtain ⟨x117, hc117, h⟩ := b1S h
  refine wm_cV (ci := 12) (As := [vI v6, vI v5, vI v1, vI v2]) (st := [vI v6, vR (some (b + 37))]) E lk_M_270 rfl im_M_square sl_M_square (ov_rc _ _ _) (RC_M_square (xl X) X.1 b (ρ) μ v6 v5 v1 v2 _ hc117) rfl rfl (by rw [hR]; decide) (by rw [hR]; decide) (Nat.le_of_ble_eq_true rfl) dM_near_117 ?_
  refine wm_riast E (by decide) rfl rfl (by decide) (by decide) hW h dM_near_120 (fun ρ120 h => ?_)
  refine wm_aload_n E dM_near_121 rfl (j := 0) rfl ?_
  refine wm_iload E dM_near_122 (j := 6) rfl ?_
  refine wm_iconst (x := 2) E dM_near_124 (by decide) ?_
  obtain ⟨x125, ρ125, hc125, h⟩ := c2S h
  refine wm_cV (ci := 12) (As := [vI v6, vI 2]) (st := []) E lk_M_297 rfl im_M_insert sl_M_insert (ov_rc _ _ _) (RC_M_insert (xl X) X.1 b (ρ120) μ hW v6 2 _ _ hc125) rfl rfl (by rw [hR]; decide) (by rw [hR]; decide) (Nat.le_of_ble_eq_true rfl) dM_near_125 ?_
  refine wm_pick (lv' := [(0, vR (some b)), (1, vI v1), (2, vI v2), (3, vI v3), (4, vI v4), (5, vI v5), (6, vI v6)]) [0, 1, 2, 3, 4, 5, 6] rfl ?_
  exact rw_M_near_128 E hQ hR hI hW k63 hk63 v1 v2 v3 v4 v5 v6 (ρ125) h
def RB_M_near_63  : Nat → Int32 → Int32 → Int32 → Int32 → Int32 → Int32 → RS → Option (Int32 × RS)
  | 0, _, _, _, _, _, _, _ => none
  | n + 1, v1, v2, v3, v4, v5, v6, ρ => if (ri ρ 1) ≤ v6 then if v3 ≤ (ri ρ 36) then RB_M_near_151 v3 (ρ) else RB_M_near_151 (ri ρ 36) (ρ) else b1 (R_M_isThere v6 v5 (ρ)) (fun x77 => if x77 = 0 then RB_M_near_128 (fun v1 v2 v3 v4 v5 v6 ρ => RB_M_near_63 n v1 v2 v3 v4 v5 v6 ρ) v1 v2 v3 v4 v5 v6 (ρ) else if v4 = ((-1)) then RB_M_near_104 (fun v1 v2 v3 v4 v5 v6 ρ => RB_M_near_63 n v1 v2 v3 v4 v5 v6 ρ) v1 v2 v3 v4 v5 v6 (ρ) else b1 (rgI ρ 2 30 v6) (fun x95 => if x95 = v4 then RB_M_near_104 (fun v1 v2 v3 v4 v5 v6 ρ => RB_M_near_63 n v1 v2 v3 v4 v5 v6 ρ) v1 v2 v3 v4 v5 v6 (ρ) else RB_M_near_128 (fun v1 v2 v3 v4 v5 v6 ρ => RB_M_near_63 n v1 v2 v3 v4 v5 v6 ρ) v1 v2 v3 v4 v5 v6 (ρ)))
set_option maxHeartbeats 4000000 in
set_option maxRecDepth 100000 in
theorem rw_M_near_63 {X : CX} (E : EV X prog_13_method_53_code 7 "PlaceFinderModel" (some .int)) {μ0 μ : Mem} {b : Nat} {r : Int32} {ρ' : RS} (hQ : RQ X 0 0 μ0 (some (vI r)) (ov b ρ' μ)) (hR : xR X = { frames := 3, cells := 0, slots := 0, locals := 88 }) (hI : X.2.2.2.2.2.2.2.2.2.2.2.1.name = "near") (hW : mW μ ≤ b)  (n : Nat) : ∀ (v1 : Int32) (v2 : Int32) (v3 : Int32) (v4 : Int32) (v5 : Int32) (v6 : Int32) (ρ : RS) (h : RB_M_near_63  n v1 v2 v3 v4 v5 v6 ρ = some (r, ρ')), WM X 7 63 [(0, vR (some b)), (1, vI v1), (2, vI v2), (3, vI v3), (4, vI v4), (5, vI v5), (6, vI v6)] [] 0 0 (ov b ρ μ) := by
  induction n with
  | zero => intro v1 v2 v3 v4 v5 v6 ρ h; cases h
  | succ n ih =>
    intro v1 v2 v3 v4 v5 v6 ρ h
    have h : (if (ri ρ 1) ≤ v6 then if v3 ≤ (ri ρ 36) then RB_M_near_151 v3 (ρ) else RB_M_near_151 (ri ρ 36) (ρ) else b1 (R_M_isThere v6 v5 (ρ)) (fun x77 => if x77 = 0 then RB_M_near_128 (fun v1 v2 v3 v4 v5 v6 ρ => RB_M_near_63 n v1 v2 v3 v4 v5 v6 ρ) v1 v2 v3 v4 v5 v6 (ρ) else if v4 = ((-1)) then RB_M_near_104 (fun v1 v2 v3 v4 v5 v6 ρ => RB_M_near_63 n v1 v2 v3 v4 v5 v6 ρ) v1 v2 v3 v4 v5 v6 (ρ) else b1 (rgI ρ 2 30 v6) (fun x95 => if x95 = v4 then RB_M_near_104 (fun v1 v2 v3 v4 v5 v6 ρ => RB_M_near_63 n v1 v2 v3 v4 v5 v6 ρ) v1 v2 v3 v4 v5 v6 (ρ) else RB_M_near_128 (fun v1 v2 v3 v4 v5 v6 ρ => RB_M_near_63 n v1 v2 v3 v4 v5 v6 ρ) v1 v2 v3 v4 v5 v6 (ρ)))) = some (r, ρ') := h
    refine wm_iload E dM_near_63 (j := 6) rfl ?_
    refine wm_aload_n E dM_near_65 rfl (j := 0) rfl ?_
    refine wm_rget (v := vI (ri ρ 1)) E fd_M_136 rfl dM_near_66 ?_
    refine wm_icmp_ge (tgt := 134) E dM_near_69 (by decide) (fun c69 => ?_) (fun c69 => ?_)
    · have h := (if_pos c69).symm.trans h
      refine wm_aload_n E dM_near_134 rfl (j := 0) rfl ?_
      refine wm_aload_n E dM_near_135 rfl (j := 0) rfl ?_
      refine wm_rget (v := vI (ri ρ 36)) E fd_M_284 rfl dM_near_136 ?_
      refine wm_iload_n E dM_near_139 rfl (j := 3) rfl ?_
      refine wm_icmp_ge (tgt := 150) E dM_near_140 (by decide) (fun c140 => ?_) (fun c140 => ?_)
      · have h := (if_pos c140).symm.trans h
        refine wm_iload_n E dM_near_150 rfl (j := 3) rfl ?_
        refine wm_pick (lv' := [(0, vR (some b))]) [0] rfl ?_
        exact rw_M_near_151 E hQ hR hI hW v3 (ρ) h
      · have h := (if_neg c140).symm.trans h
        refine wm_aload_n E dM_near_143 rfl (j := 0) rfl ?_
        refine wm_rget (v := vI (ri ρ 36)) E fd_M_284 rfl dM_near_144 ?_
        refine wm_goto (tgt := 151) E dM_near_147 (by decide) ?_
        refine wm_pick (lv' := [(0, vR (some b))]) [0] rfl ?_
        exact rw_M_near_151 E hQ hR hI hW (ri ρ 36) (ρ) h
    · have h := (if_neg c69).symm.trans h
      refine wm_aload_n E dM_near_72 rfl (j := 0) rfl ?_
      refine wm_iload E dM_near_73 (j := 6) rfl ?_
      refine wm_iload E dM_near_75 (j := 5) rfl ?_
      obtain ⟨x77, hc77, h⟩ := b1S h
      refine wm_cV (ci := 12) (As := [vI v6, vI v5]) (st := []) E lk_M_261 rfl im_M_isThere sl_M_isThere (ov_rc _ _ _) (RC_M_isThere (xl X) X.1 b (ρ) μ v6 v5 _ hc77) rfl rfl (by rw [hR]; decide) (by rw [hR]; decide) (Nat.le_of_ble_eq_true rfl) dM_near_77 ?_
      refine wm_if_eq (tgt := 128) E dM_near_80 (by decide) (fun c80 => ?_) (fun c80 => ?_)
      · have h := (if_pos c80).symm.trans h
        refine wm_pick (lv' := [(0, vR (some b)), (1, vI v1), (2, vI v2), (3, vI v3), (4, vI v4), (5, vI v5), (6, vI v6)]) [0, 1, 2, 3, 4, 5, 6] rfl ?_
        exact rw_M_near_128 E hQ hR hI hW (fun v1 v2 v3 v4 v5 v6 ρ => RB_M_near_63 n v1 v2 v3 v4 v5 v6 ρ) ih v1 v2 v3 v4 v5 v6 (ρ) h
      · have h := (if_neg c80).symm.trans h
        refine wm_iload E dM_near_83 (j := 4) rfl ?_
        refine wm_iconst (x := -1) E dM_near_85 (by decide) ?_
        refine wm_icmp_eq (tgt := 104) E dM_near_86 (by decide) (fun c86 => ?_) (fun c86 => ?_)
        · have h := (if_pos c86).symm.trans h
          refine wm_pick (lv' := [(0, vR (some b)), (1, vI v1), (2, vI v2), (3, vI v3), (4, vI v4), (5, vI v5), (6, vI v6)]) [0, 1, 2, 3, 4, 5, 6] rfl ?_
          exact rw_M_near_104 E hQ hR hI hW (fun v1 v2 v3 v4 v5 v6 ρ => RB_M_near_63 n v1 v2 v3 v4 v5 v6 ρ) ih v1 v2 v3 v4 v5 v6 (ρ) h
        · have h := (if_neg c86).symm.trans h
          refine wm_aload_n E dM_near_89 rfl (j := 0) rfl ?_
          refine wm_rget (v := vR (some (b + 1))) E fd_M_7 rfl dM_near_90 ?_
          refine wm_iload E dM_near_93 (j := 6) rfl ?_
          refine wm_riald E (by decide) rfl rfl (by decide) (by decide) h dM_near_95 (fun x95 h => ?_)
          refine wm_iload E dM_near_96 (j := 4) rfl ?_
          refine wm_icmp_eq (tgt := 104) E dM_near_98 (by decide) (fun c98 => ?_) (fun c98 => ?_)
          · have h := (if_pos c98).symm.trans h
            refine wm_pick (lv' := [(0, vR (some b)), (1, vI v1), (2, vI v2), (3, vI v3), (4, vI v4), (5, vI v5), (6, vI v6)]) [0, 1, 2, 3, 4, 5, 6] rfl ?_
            exact rw_M_near_104 E hQ hR hI hW (fun v1 v2 v3 v4 v5 v6 ρ => RB_M_near_63 n v1 v2 v3 v4 v5 v6 ρ) ih v1 v2 v3 v4 v5 v6 (ρ) h
          · have h := (if_neg c98).symm.trans h
            refine wm_goto (tgt := 128) E dM_near_101 (by decide) ?_
            refine wm_pick (lv' := [(0, vR (some b)), (1, vI v1), (2, vI v2), (3, vI v3), (4, vI v4), (5, vI v5), (6, vI v6)]) [0, 1, 2, 3, 4, 5, 6] rfl ?_
            exact rw_M_near_128 E hQ hR hI hW (fun v1 v2 v3 v4 v5 v6 ρ => RB_M_near_63 n v1 v2 v3 v4 v5 v6 ρ) ih v1 v2 v3 v4 v5 v6 (ρ) h
def RB_M_near_43  (v1 : Int32) (v2 : Int32) (v3 : Int32) (v4 : Int32) (v5 : Int32) (s1 : Int32) (ρ : RS) : Option (Int32 × RS) := b0 (rpI ρ 0 s1) (fun ρ43 => if (ri ρ43 0) ≤ 0 then b0 (rpI ρ43 36 0) (fun ρ57 => RB_M_near_63 fu v1 v2 v3 v4 v5 0 (ρ57)) else some (0, ρ43))
set_option maxHeartbeats 4000000 in
set_option maxRecDepth 100000 in
theorem rw_M_near_43 {X : CX} (E : EV X prog_13_method_53_code 7 "PlaceFinderModel" (some .int)) {μ0 μ : Mem} {b : Nat} {r : Int32} {ρ' : RS} (hQ : RQ X 0 0 μ0 (some (vI r)) (ov b ρ' μ)) (hR : xR X = { frames := 3, cells := 0, slots := 0, locals := 88 }) (hI : X.2.2.2.2.2.2.2.2.2.2.2.1.name = "near") (hW : mW μ ≤ b)  (v1 : Int32) (v2 : Int32) (v3 : Int32) (v4 : Int32) (v5 : Int32) (s1 : Int32) (ρ : RS) (h : RB_M_near_43  v1 v2 v3 v4 v5 s1 ρ = some (r, ρ')) : WM X 7 43 [(0, vR (some b)), (1, vI v1), (2, vI v2), (3, vI v3), (4, vI v4), (5, vI v5)] [vI s1, vR (some b)] 0 0 (ov b ρ μ) := by
  have h : (b0 (rpI ρ 0 s1) (fun ρ43 => if (ri ρ43 0) ≤ 0 then b0 (rpI ρ43 36 0) (fun ρ57 => RB_M_near_63 fu v1 v2 v3 v4 v5 0 (ρ57)) else some (0, ρ43))) = some (r, ρ') := h
  refine wm_rpI E fp_M_132 (fun q => by cases q) rfl (by decide) hW dM_near_43 ?_
  refine wm_rlet h (fun ρ43 h => ?_)
  refine wm_aload_n E dM_near_46 rfl (j := 0) rfl ?_
  refine wm_rget (v := vI (ri ρ43 0)) E fd_M_132 rfl dM_near_47 ?_
  refine wm_if_le (tgt := 55) E dM_near_50 (by decide) (fun c50 => ?_) (fun c50 => ?_)
  · have h := (if_pos c50).symm.trans h
    refine wm_aload_n E dM_near_55 rfl (j := 0) rfl ?_
    refine wm_iconst (x := 0) E dM_near_56 (by decide) ?_
    refine wm_rpI E fp_M_284 (fun q => by cases q) rfl (by decide) hW dM_near_57 ?_
    refine wm_rlet h (fun ρ57 h => ?_)
    refine wm_iconst (x := 0) E dM_near_60 (by decide) ?_
    refine wm_istore (lv' := [(6, vI 0), (0, vR (some b)), (1, vI v1), (2, vI v2), (3, vI v3), (4, vI v4), (5, vI v5)]) E dM_near_61 (by decide) rfl ?_
    refine wm_pick (lv' := [(0, vR (some b)), (1, vI v1), (2, vI v2), (3, vI v3), (4, vI v4), (5, vI v5), (6, vI 0)]) [1, 2, 3, 4, 5, 6, 0] rfl ?_
    exact rw_M_near_63 E hQ hR hI hW fu v1 v2 v3 v4 v5 0 (ρ57) h
  · have h := (if_neg c50).symm.trans h
    refine wm_iconst (x := 0) E dM_near_53 (by decide) ?_
    exact wm_iret (rt := .int) E hQ (rrI h) (rrM h) (by decide) (by decide) dM_near_54
def RB_M_near_38  (v1 : Int32) (v2 : Int32) (v3 : Int32) (v4 : Int32) (v5 : Int32) (ρ : RS) : Option (Int32 × RS) := RB_M_near_43 v1 v2 v3 v4 v5 1 (ρ)
set_option maxHeartbeats 4000000 in
set_option maxRecDepth 100000 in
theorem rw_M_near_38 {X : CX} (E : EV X prog_13_method_53_code 7 "PlaceFinderModel" (some .int)) {μ0 μ : Mem} {b : Nat} {r : Int32} {ρ' : RS} (hQ : RQ X 0 0 μ0 (some (vI r)) (ov b ρ' μ)) (hR : xR X = { frames := 3, cells := 0, slots := 0, locals := 88 }) (hI : X.2.2.2.2.2.2.2.2.2.2.2.1.name = "near") (hW : mW μ ≤ b)  (v1 : Int32) (v2 : Int32) (v3 : Int32) (v4 : Int32) (v5 : Int32) (ρ : RS) (h : RB_M_near_38  v1 v2 v3 v4 v5 ρ = some (r, ρ')) : WM X 7 38 [(0, vR (some b)), (1, vI v1), (2, vI v2), (3, vI v3), (4, vI v4), (5, vI v5)] [vR (some b)] 0 0 (ov b ρ μ) := by
  have h : (RB_M_near_43 v1 v2 v3 v4 v5 1 (ρ)) = some (r, ρ') := h
  refine wm_iconst (x := 1) E dM_near_38 (by decide) ?_
  refine wm_goto (tgt := 43) E dM_near_39 (by decide) ?_
  refine wm_pick (lv' := [(0, vR (some b)), (1, vI v1), (2, vI v2), (3, vI v3), (4, vI v4), (5, vI v5)]) [0, 1, 2, 3, 4, 5] rfl ?_
  exact rw_M_near_43 E hQ hR hI hW v1 v2 v3 v4 v5 1 (ρ) h
def R_M_near (v1 : Int32) (v2 : Int32) (v3 : Int32) (v4 : Int32) (v5 : Int32) (ρ : RS) : Option (Int32 × RS) := b1 (R_M_isAt v1 v2) (fun x3 => if x3 = 0 then RB_M_near_38 v1 v2 v3 v4 v5 (ρ) else b1 (R_M_in v3 1 30) (fun x13 => if x13 = 0 then RB_M_near_38 v1 v2 v3 v4 v5 (ρ) else b1 (R_M_in v4 ((-1)) 7) (fun x24 => if x24 = 0 then RB_M_near_38 v1 v2 v3 v4 v5 (ρ) else b1 (R_M_isDay v5) (fun x32 => if x32 = 0 then RB_M_near_38 v1 v2 v3 v4 v5 (ρ) else RB_M_near_43 v1 v2 v3 v4 v5 0 (ρ)))))
set_option maxHeartbeats 4000000 in
set_option maxRecDepth 100000 in
theorem RC_M_near (l : Launch) (G : GG) (b : Nat) (ρ : RS) (μ : Mem) (hW : mW μ ≤ b) (v1 : Int32) (v2 : Int32) (v3 : Int32) (v4 : Int32) (v5 : Int32) (r : Int32) (ρ' : RS) (h : R_M_near v1 v2 v3 v4 v5 ρ = some (r, ρ')) : CT l G y_M_near prog_13_method_53_code 7 (some .int) 3 0 0 88 (ov b ρ μ) [vR (some b), vI v1, vI v2, vI v3, vI v4, vI v5] (some (vI r)) (ov b ρ' μ) := by
  refine wm_met (lv := [(0, vR (some b)), (1, vI v1), (2, vI v2), (3, vI v3), (4, vI v4), (5, vI v5)]) (by decide +kernel) (Nat.le_of_ble_eq_true rfl) rfl (fun X E hQ hR hI => ?_)
  have h : (b1 (R_M_isAt v1 v2) (fun x3 => if x3 = 0 then RB_M_near_38 v1 v2 v3 v4 v5 (ρ) else b1 (R_M_in v3 1 30) (fun x13 => if x13 = 0 then RB_M_near_38 v1 v2 v3 v4 v5 (ρ) else b1 (R_M_in v4 ((-1)) 7) (fun x24 => if x24 = 0 then RB_M_near_38 v1 v2 v3 v4 v5 (ρ) else b1 (R_M_isDay v5) (fun x32 => if x32 = 0 then RB_M_near_38 v1 v2 v3 v4 v5 (ρ) else RB_M_near_43 v1 v2 v3 v4 v5 0 (ρ)))))) = some (r, ρ') := h
  refine wm_aload_n E dM_near_0 rfl (j := 0) rfl ?_
  refine wm_iload_n E dM_near_1 rfl (j := 1) rfl ?_
  refine wm_iload_n E dM_near_2 rfl (j := 2) rfl ?_
  obtain ⟨x3, hc3, h⟩ := b1S h
  refine wm_cS (As := [vI v1, vI v2]) (st := [vR (some b)]) E lk_M_147 sc_M_isAt (RC_M_isAt (xl X) X.1 v1 v2 _ _ hc3) rfl rfl (by rw [hR]; decide) (by rw [hR]; decide) (Nat.le_of_ble_eq_true rfl) dM_near_3 ?_
  refine wm_if_eq (tgt := 38) E dM_near_6 (by decide) (fun c6 => ?_) (fun c6 => ?_)
  · have h := (if_pos c6).symm.trans h
    refine wm_pick (lv' := [(0, vR (some b)), (1, vI v1), (2, vI v2), (3, vI v3), (4, vI v4), (5, vI v5)]) [0, 1, 2, 3, 4, 5] rfl ?_
    exact rw_M_near_38 E hQ hR hI hW v1 v2 v3 v4 v5 (ρ) h
  · have h := (if_neg c6).symm.trans h
    refine wm_iload_n E dM_near_9 rfl (j := 3) rfl ?_
    refine wm_iconst (x := 1) E dM_near_10 (by decide) ?_
    refine wm_bipush (x := 30) E dM_near_11 (by decide) ?_
    obtain ⟨x13, hc13, h⟩ := b1S h
    refine wm_cS (As := [vI v3, vI 1, vI 30]) (st := [vR (some b)]) E lk_M_139 sc_M_in (RC_M_in (xl X) X.1 v3 1 30 _ _ hc13) rfl rfl (by rw [hR]; decide) (by rw [hR]; decide) (Nat.le_of_ble_eq_true rfl) dM_near_13 ?_
    refine wm_if_eq (tgt := 38) E dM_near_16 (by decide) (fun c16 => ?_) (fun c16 => ?_)
    · have h := (if_pos c16).symm.trans h
      refine wm_pick (lv' := [(0, vR (some b)), (1, vI v1), (2, vI v2), (3, vI v3), (4, vI v4), (5, vI v5)]) [0, 1, 2, 3, 4, 5] rfl ?_
      exact rw_M_near_38 E hQ hR hI hW v1 v2 v3 v4 v5 (ρ) h
    · have h := (if_neg c16).symm.trans h
      refine wm_iload E dM_near_19 (j := 4) rfl ?_
      refine wm_iconst (x := -1) E dM_near_21 (by decide) ?_
      refine wm_bipush (x := 7) E dM_near_22 (by decide) ?_
      obtain ⟨x24, hc24, h⟩ := b1S h
      refine wm_cS (As := [vI v4, vI ((-1)), vI 7]) (st := [vR (some b)]) E lk_M_139 sc_M_in (RC_M_in (xl X) X.1 v4 ((-1)) 7 _ _ hc24) rfl rfl (by rw [hR]; decide) (by rw [hR]; decide) (Nat.le_of_ble_eq_true rfl) dM_near_24 ?_
      refine wm_if_eq (tgt := 38) E dM_near_27 (by decide) (fun c27 => ?_) (fun c27 => ?_)
      · have h := (if_pos c27).symm.trans h
        refine wm_pick (lv' := [(0, vR (some b)), (1, vI v1), (2, vI v2), (3, vI v3), (4, vI v4), (5, vI v5)]) [0, 1, 2, 3, 4, 5] rfl ?_
        exact rw_M_near_38 E hQ hR hI hW v1 v2 v3 v4 v5 (ρ) h
      · have h := (if_neg c27).symm.trans h
        refine wm_iload E dM_near_30 (j := 5) rfl ?_
        obtain ⟨x32, hc32, h⟩ := b1S h
        refine wm_cS (As := [vI v5]) (st := [vR (some b)]) E lk_M_143 sc_M_isDay (RC_M_isDay (xl X) X.1 v5 _ _ hc32) rfl rfl (by rw [hR]; decide) (by rw [hR]; decide) (Nat.le_of_ble_eq_true rfl) dM_near_32 ?_
        refine wm_if_ne (tgt := 42) E dM_near_35 (by decide) (fun c35 => ?_) (fun c35 => ?_)
        · have h := (if_neg c35).symm.trans h
          refine wm_iconst (x := 0) E dM_near_42 (by decide) ?_
          refine wm_pick (lv' := [(0, vR (some b)), (1, vI v1), (2, vI v2), (3, vI v3), (4, vI v4), (5, vI v5)]) [0, 1, 2, 3, 4, 5] rfl ?_
          exact rw_M_near_43 E hQ hR hI hW v1 v2 v3 v4 v5 0 (ρ) h
        · have h := (if_pos c35).symm.trans h
          refine wm_pick (lv' := [(0, vR (some b)), (1, vI v1), (2, vI v2), (3, vI v3), (4, vI v4), (5, vI v5)]) [0, 1, 2, 3, 4, 5] rfl ?_
          exact rw_M_near_38 E hQ hR hI hW v1 v2 v3 v4 v5 (ρ) h
def RB_M_hit_40  (s0 : Int32) (ρ : RS) : Option (Int32 × RS) := some (s0, ρ)
set_option maxHeartbeats 4000000 in
set_option maxRecDepth 100000 in
theorem rw_M_hit_40 {X : CX} (E : EV X prog_13_method_54_code 2 "PlaceFinderModel" (some .int)) {μ0 μ : Mem} {b : Nat} {r : Int32} {ρ' : RS} (hQ : RQ X 0 0 μ0 (some (vI r)) (ov b ρ' μ)) (hR : xR X = { frames := 1, cells := 0, slots := 0, locals := 22 }) (hI : X.2.2.2.2.2.2.2.2.2.2.2.1.name = "hit") (hW : mW μ ≤ b)  (s0 : Int32) (ρ : RS) (h : RB_M_hit_40  s0 ρ = some (r, ρ')) : WM X 2 40 [] [vI s0] 0 0 (ov b ρ μ) := by
  have h : (some (s0, ρ)) = some (r, ρ') := h
  exact wm_iret (rt := .int) E hQ (rrI h) (rrM h) (by decide) (by decide) dM_hit_40
def RB_M_hit_20  (v1 : Int32) (s1 : Int32) (ρ : RS) : Option (Int32 × RS) := b0 (rpI ρ 0 s1) (fun ρ20 => if (ri ρ20 0) ≤ 0 then b1 (rgI ρ20 37 30 v1) (fun x39 => RB_M_hit_40 x39 (ρ20)) else RB_M_hit_40 0 (ρ20))
set_option maxHeartbeats 4000000 in
set_option maxRecDepth 100000 in
theorem rw_M_hit_20 {X : CX} (E : EV X prog_13_method_54_code 2 "PlaceFinderModel" (some .int)) {μ0 μ : Mem} {b : Nat} {r : Int32} {ρ' : RS} (hQ : RQ X 0 0 μ0 (some (vI r)) (ov b ρ' μ)) (hR : xR X = { frames := 1, cells := 0, slots := 0, locals := 22 }) (hI : X.2.2.2.2.2.2.2.2.2.2.2.1.name = "hit") (hW : mW μ ≤ b)  (v1 : Int32) (s1 : Int32) (ρ : RS) (h : RB_M_hit_20  v1 s1 ρ = some (r, ρ')) : WM X 2 20 [(0, vR (some b)), (1, vI v1)] [vI s1, vR (some b)] 0 0 (ov b ρ μ) := by
  have h : (b0 (rpI ρ 0 s1) (fun ρ20 => if (ri ρ20 0) ≤ 0 then b1 (rgI ρ20 37 30 v1) (fun x39 => RB_M_hit_40 x39 (ρ20)) else RB_M_hit_40 0 (ρ20))) = some (r, ρ') := h
  refine wm_rpI E fp_M_132 (fun q => by cases q) rfl (by decide) hW dM_hit_20 ?_
  refine wm_rlet h (fun ρ20 h => ?_)
  refine wm_aload_n E dM_hit_23 rfl (j := 0) rfl ?_
  refine wm_rget (v := vI (ri ρ20 0)) E fd_M_132 rfl dM_hit_24 ?_
  refine wm_if_le (tgt := 34) E dM_hit_27 (by decide) (fun c27 => ?_) (fun c27 => ?_)
  · have h := (if_pos c27).symm.trans h
    refine wm_aload_n E dM_hit_34 rfl (j := 0) rfl ?_
    refine wm_rget (v := vR (some (b + 33))) E fd_M_107 rfl dM_hit_35 ?_
    refine wm_iload_n E dM_hit_38 rfl (j := 1) rfl ?_
    refine wm_riald E (by decide) rfl rfl (by decide) (by decide) h dM_hit_39 (fun x39 h => ?_)
    refine wm_pick (lv' := []) [] rfl ?_
    exact rw_M_hit_40 E hQ hR hI hW x39 (ρ20) h
  · have h := (if_neg c27).symm.trans h
    refine wm_iconst (x := 0) E dM_hit_30 (by decide) ?_
    refine wm_goto (tgt := 40) E dM_hit_31 (by decide) ?_
    refine wm_pick (lv' := []) [] rfl ?_
    exact rw_M_hit_40 E hQ hR hI hW 0 (ρ20) h
def R_M_hit (v1 : Int32) (ρ : RS) : Option (Int32 × RS) := b1 (R_M_in v1 0 ((ri ρ 36) - 1)) (fun x9 => if x9 = 0 then RB_M_hit_20 v1 1 (ρ) else RB_M_hit_20 v1 0 (ρ))
set_option maxHeartbeats 4000000 in
set_option maxRecDepth 100000 in
theorem RC_M_hit (l : Launch) (G : GG) (b : Nat) (ρ : RS) (μ : Mem) (hW : mW μ ≤ b) (v1 : Int32) (r : Int32) (ρ' : RS) (h : R_M_hit v1 ρ = some (r, ρ')) : CT l G y_M_hit prog_13_method_54_code 2 (some .int) 1 0 0 22 (ov b ρ μ) [vR (some b), vI v1] (some (vI r)) (ov b ρ' μ) := by
  refine wm_met (lv := [(0, vR (some b)), (1, vI v1)]) (by decide +kernel) (Nat.le_of_ble_eq_true rfl) rfl (fun X E hQ hR hI => ?_)
  have h : (b1 (R_M_in v1 0 ((ri ρ 36) - 1)) (fun x9 => if x9 = 0 then RB_M_hit_20 v1 1 (ρ) else RB_M_hit_20 v1 0 (ρ))) = some (r, ρ') := h
  refine wm_aload_n E dM_hit_0 rfl (j := 0) rfl ?_
  refine wm_iload_n E dM_hit_1 rfl (j := 1) rfl ?_
  refine wm_iconst (x := 0) E dM_hit_2 (by decide) ?_
  refine wm_aload_n E dM_hit_3 rfl (j := 0) rfl ?_
  refine wm_rget (v := vI (ri ρ 36)) E fd_M_284 rfl dM_hit_4 ?_
  refine wm_iconst (x := 1) E dM_hit_7 (by decide) ?_
  refine wm_isub E dM_hit_8 ?_
  obtain ⟨x9, hc9, h⟩ := b1S h
  refine wm_cS (As := [vI v1, vI 0, vI ((ri ρ 36) - 1)]) (st := [vR (some b)]) E lk_M_139 sc_M_in (RC_M_in (xl X) X.1 v1 0 ((ri ρ 36) - 1) _ _ hc9) rfl rfl (by rw [hR]; decide) (by rw [hR]; decide) (Nat.le_of_ble_eq_true rfl) dM_hit_9 ?_
  refine wm_if_eq (tgt := 19) E dM_hit_12 (by decide) (fun c12 => ?_) (fun c12 => ?_)
  · have h := (if_pos c12).symm.trans h
    refine wm_iconst (x := 1) E dM_hit_19 (by decide) ?_
    refine wm_pick (lv' := [(0, vR (some b)), (1, vI v1)]) [0, 1] rfl ?_
    exact rw_M_hit_20 E hQ hR hI hW v1 1 (ρ) h
  · have h := (if_neg c12).symm.trans h
    refine wm_iconst (x := 0) E dM_hit_15 (by decide) ?_
    refine wm_goto (tgt := 20) E dM_hit_16 (by decide) ?_
    refine wm_pick (lv' := [(0, vR (some b)), (1, vI v1)]) [0, 1] rfl ?_
    exact rw_M_hit_20 E hQ hR hI hW v1 0 (ρ) h
def RB_M_watch_204  : Nat → Int32 → Int32 → Int32 → RS → Option (Unit × RS)
  | 0, _, _, _, _ => none
  | n + 1, v2, v3, v4, ρ => if 8 ≤ v4 then b1 (rsI ρ 33 5 v3 v2) (fun ρ261 => b1 (rsI ρ261 34 5 v3 (vp_nar .boolean 1)) (fun ρ268 => b1 (rsI ρ268 35 5 v3 0) (fun ρ275 => some ((), ρ275)))) else b1 (rgI ρ 31 40 v4) (fun x228 => b1 (rsI ρ 31 40 ((8 * v3) + v4) x228) (fun ρ229 => b1 (rgI ρ229 32 40 v4) (fun x247 => b1 (rsI ρ229 32 40 ((8 * v3) + v4) x247) (fun ρ248 => (fun v2 v3 v4 ρ => RB_M_watch_204 n v2 v3 v4 ρ) v2 v3 (v4 + 1) (ρ248)))))
set_option maxHeartbeats 4000000 in
set_option maxRecDepth 100000 in
theorem rw_M_watch_204 {X : CX} (E : EV X prog_13_method_55_code 7 "PlaceFinderModel" none) {μ0 μ : Mem} {b : Nat} {r : Unit} {ρ' : RS} (hQ : RQ X 0 0 μ0 none (ov b ρ' μ)) (hR : xR X = { frames := 2, cells := 0, slots := 0, locals := 42 }) (hI : X.2.2.2.2.2.2.2.2.2.2.2.1.name = "watch") (hW : mW μ ≤ b)  (n : Nat) : ∀ (v2 : Int32) (v3 : Int32) (v4 : Int32) (ρ : RS) (h : RB_M_watch_204  n v2 v3 v4 ρ = some (r, ρ')), WM X 7 204 [(0, vR (some b)), (2, vI v2), (3, vI v3), (4, vI v4)] [] 0 0 (ov b ρ μ) := by
  induction n with
  | zero => intro v2 v3 v4 ρ h; cases h
  | succ n ih =>
    intro v2 v3 v4 ρ h
    have h : (if 8 ≤ v4 then b1 (rsI ρ 33 5 v3 v2) (fun ρ261 => b1 (rsI ρ261 34 5 v3 (vp_nar .boolean 1)) (fun ρ268 => b1 (rsI ρ268 35 5 v3 0) (fun ρ275 => some ((), ρ275)))) else b1 (rgI ρ 31 40 v4) (fun x228 => b1 (rsI ρ 31 40 ((8 * v3) + v4) x228) (fun ρ229 => b1 (rgI ρ229 32 40 v4) (fun x247 => b1 (rsI ρ229 32 40 ((8 * v3) + v4) x247) (fun ρ248 => (fun v2 v3 v4 ρ => RB_M_watch_204 n v2 v3 v4 ρ) v2 v3 (v4 + 1) (ρ248)))))) = some (r, ρ') := h
    refine wm_iload E dM_watch_204 (j := 3) rfl ?_
    refine wm_bipush (x := 8) E dM_watch_206 (by decide) ?_
    refine wm_icmp_ge (tgt := 255) E dM_watch_208 (by decide) (fun c208 => ?_) (fun c208 => ?_)
    · have h := (if_pos c208).symm.trans h
      refine wm_aload_n E dM_watch_255 rfl (j := 0) rfl ?_
      refine wm_rget (v := vR (some (b + 30))) E fd_M_97 rfl dM_watch_256 ?_
      refine wm_iload_n E dM_watch_259 rfl (j := 2) rfl ?_
      refine wm_iload_n E dM_watch_260 rfl (j := 1) rfl ?_
      refine wm_riast E (by decide) rfl rfl (by decide) (by decide) hW h dM_watch_261 (fun ρ261 h => ?_)
      refine wm_aload_n E dM_watch_262 rfl (j := 0) rfl ?_
      refine wm_rget (v := vR (some (b + 31))) E fd_M_100 rfl dM_watch_263 ?_
      refine wm_iload_n E dM_watch_266 rfl (j := 2) rfl ?_
      refine wm_iconst (x := 1) E dM_watch_267 (by decide) ?_
      refine wm_rzast E (by decide) rfl rfl (by decide) (by decide) hW h dM_watch_268 (fun ρ268 h => ?_)
      refine wm_aload_n E dM_watch_269 rfl (j := 0) rfl ?_
      refine wm_rget (v := vR (some (b + 32))) E fd_M_104 rfl dM_watch_270 ?_
      refine wm_iload_n E dM_watch_273 rfl (j := 2) rfl ?_
      refine wm_iconst (x := 0) E dM_watch_274 (by decide) ?_
      refine wm_riast E (by decide) rfl rfl (by decide) (by decide) hW h dM_watch_275 (fun ρ275 h => ?_)
      exact wm_vret E hQ rfl (rrM h) (by decide) (by decide) dM_watch_276
    · have h := (if_neg c208).symm.trans h
      refine wm_aload_n E dM_watch_211 rfl (j := 0) rfl ?_
      refine wm_rget (v := vR (some (b + 28))) E fd_M_91 rfl dM_watch_212 ?_
      refine wm_bipush (x := 8) E dM_watch_215 (by decide) ?_
      refine wm_iload_n E dM_watch_217 rfl (j := 2) rfl ?_
      refine wm_imul E dM_watch_218 ?_
      refine wm_iload E dM_watch_219 (j := 3) rfl ?_
      refine wm_iadd E dM_watch_221 ?_
      refine wm_aload_n E dM_watch_222 rfl (j := 0) rfl ?_
      refine wm_rget (v := vR (some (b + 28))) E fd_M_91 rfl dM_watch_223 ?_
      refine wm_iload E dM_watch_226 (j := 3) rfl ?_
      refine wm_riald E (by decide) rfl rfl (by decide) (by decide) h dM_watch_228 (fun x228 h => ?_)
      refine wm_riast E (by decide) rfl rfl (by decide) (by decide) hW h dM_watch_229 (fun ρ229 h => ?_)
      refine wm_aload_n E dM_watch_230 rfl (j := 0) rfl ?_
      refine wm_rget (v := vR (some (b + 29))) E fd_M_94 rfl dM_watch_231 ?_
      refine wm_bipush (x := 8) E dM_watch_234 (by decide) ?_
      refine wm_iload_n E dM_watch_236 rfl (j := 2) rfl ?_
      refine wm_imul E dM_watch_237 ?_
      refine wm_iload E dM_watch_238 (j := 3) rfl ?_
      refine wm_iadd E dM_watch_240 ?_
      refine wm_aload_n E dM_watch_241 rfl (j := 0) rfl ?_
      refine wm_rget (v := vR (some (b + 29))) E fd_M_94 rfl dM_watch_242 ?_
      refine wm_iload E dM_watch_245 (j := 3) rfl ?_
      refine wm_riald E (by decide) rfl rfl (by decide) (by decide) h dM_watch_247 (fun x247 h => ?_)
      refine wm_riast E (by decide) rfl rfl (by decide) (by decide) hW h dM_watch_248 (fun ρ248 h => ?_)
      refine wm_iinc (lv' := [(4, vI (v4 + 1)), (0, vR (some b)), (2, vI v2), (3, vI v3)]) (d := 1) E dM_watch_249 (by decide) (j := 3) rfl (by decide) rfl ?_
      refine wm_goto (tgt := 204) E dM_watch_252 (by decide) ?_
      refine wm_pick (lv' := [(0, vR (some b)), (2, vI v2), (3, vI v3), (4, vI (v4 + 1))]) [1, 2, 3, 0] rfl ?_
      exact ih v2 v3 (v4 + 1) (ρ248) h
def RB_M_watch_144 (k52 : Int32 → Int32 → Int32 → RS → Option (Unit × RS)) : Nat → Int32 → Int32 → Int32 → Int32 → Int32 → RS → Option (Unit × RS)
  | 0, _, _, _, _, _, _ => none
  | n + 1, v2, v3, v4, v5, v6, ρ => if 10 ≤ v6 then k52 v2 v3 (v4 + 1) (ρ) else b1 (rgI ρ 29 250 ((10 * v4) + v6)) (fun x175 => b1 (rsI ρ 29 250 ((10 * v5) + v6) x175) (fun ρ176 => (fun v2 v3 v4 v5 v6 ρ => RB_M_watch_144 k52 n v2 v3 v4 v5 v6 ρ) v2 v3 v4 v5 (v6 + 1) (ρ176)))
set_option maxHeartbeats 4000000 in
set_option maxRecDepth 100000 in
theorem rw_M_watch_144 {X : CX} (E : EV X prog_13_method_55_code 7 "PlaceFinderModel" none) {μ0 μ : Mem} {b : Nat} {r : Unit} {ρ' : RS} (hQ : RQ X 0 0 μ0 none (ov b ρ' μ)) (hR : xR X = { frames := 2, cells := 0, slots := 0, locals := 42 }) (hI : X.2.2.2.2.2.2.2.2.2.2.2.1.name = "watch") (hW : mW μ ≤ b) (k52 : Int32 → Int32 → Int32 → RS → Option (Unit × RS)) (hk52 : ∀ (v2 : Int32) (v3 : Int32) (v4 : Int32) (ρ : RS), k52 v2 v3 v4 ρ = some (r, ρ') → WM X 7 52 [(0, vR (some b)), (2, vI v2), (3, vI v3), (4, vI v4)] [] 0 0 (ov b ρ μ)) (n : Nat) : ∀ (v2 : Int32) (v3 : Int32) (v4 : Int32) (v5 : Int32) (v6 : Int32) (ρ : RS) (h : RB_M_watch_144 k52 n v2 v3 v4 v5 v6 ρ = some (r, ρ')), WM X 7 144 [(0, vR (some b)), (2, vI v2), (3, vI v3), (4, vI v4), (5, vI v5), (6, vI v6)] [] 0 0 (ov b ρ μ) := by
  induction n with
  | zero => intro v2 v3 v4 v5 v6 ρ h; cases h
  | succ n ih =>
    intro v2 v3 v4 v5 v6 ρ h
    have h : (if 10 ≤ v6 then k52 v2 v3 (v4 + 1) (ρ) else b1 (rgI ρ 29 250 ((10 * v4) + v6)) (fun x175 => b1 (rsI ρ 29 250 ((10 * v5) + v6) x175) (fun ρ176 => (fun v2 v3 v4 v5 v6 ρ => RB_M_watch_144 k52 n v2 v3 v4 v5 v6 ρ) v2 v3 v4 v5 (v6 + 1) (ρ176)))) = some (r, ρ') := h
    refine wm_iload E dM_watch_144 (j := 5) rfl ?_
    refine wm_bipush (x := 10) E dM_watch_146 (by decide) ?_
    refine wm_icmp_ge (tgt := 183) E dM_watch_148 (by decide) (fun c148 => ?_) (fun c148 => ?_)
    · have h := (if_pos c148).symm.trans h
      refine wm_iinc (lv' := [(4, vI (v4 + 1)), (0, vR (some b)), (2, vI v2), (3, vI v3), (5, vI v5), (6, vI v6)]) (d := 1) E dM_watch_183 (by decide) (j := 3) rfl (by decide) rfl ?_
      refine wm_goto (tgt := 52) E dM_watch_186 (by decide) ?_
      refine wm_pick (lv' := [(0, vR (some b)), (2, vI v2), (3, vI v3), (4, vI (v4 + 1))]) [1, 2, 3, 0] rfl ?_
      exact hk52 v2 v3 (v4 + 1) (ρ) h
    · have h := (if_neg c148).symm.trans h
      refine wm_aload_n E dM_watch_151 rfl (j := 0) rfl ?_
      refine wm_rget (v := vR (some (b + 26))) E fd_M_85 rfl dM_watch_152 ?_
      refine wm_bipush (x := 10) E dM_watch_155 (by decide) ?_
      refine wm_iload E dM_watch_157 (j := 4) rfl ?_
      refine wm_imul E dM_watch_159 ?_
      refine wm_iload E dM_watch_160 (j := 5) rfl ?_
      refine wm_iadd E dM_watch_162 ?_
      refine wm_aload_n E dM_watch_163 rfl (j := 0) rfl ?_
      refine wm_rget (v := vR (some (b + 26))) E fd_M_85 rfl dM_watch_164 ?_
      refine wm_bipush (x := 10) E dM_watch_167 (by decide) ?_
      refine wm_iload E dM_watch_169 (j := 3) rfl ?_
      refine wm_imul E dM_watch_171 ?_
      refine wm_iload E dM_watch_172 (j := 5) rfl ?_
      refine wm_iadd E dM_watch_174 ?_
      refine wm_riald E (by decide) rfl rfl (by decide) (by decide) h dM_watch_175 (fun x175 h => ?_)
      refine wm_riast E (by decide) rfl rfl (by decide) (by decide) hW h dM_watch_176 (fun ρ176 h => ?_)
      refine wm_iinc (lv' := [(6, vI (v6 + 1)), (0, vR (some b)), (2, vI v2), (3, vI v3), (4, vI v4), (5, vI v5)]) (d := 1) E dM_watch_177 (by decide) (j := 5) rfl (by decide) rfl ?_
      refine wm_goto (tgt := 144) E dM_watch_180 (by decide) ?_
      refine wm_pick (lv' := [(0, vR (some b)), (2, vI v2), (3, vI v3), (4, vI v4), (5, vI v5), (6, vI (v6 + 1))]) [1, 2, 3, 4, 5, 0] rfl ?_
      exact ih v2 v3 v4 v5 (v6 + 1) (ρ176) h
def RB_M_watch_52  : Nat → Int32 → Int32 → Int32 → RS → Option (Unit × RS)
  | 0, _, _, _, _ => none
  | n + 1, v2, v3, v4, ρ => b1 (rgI ρ 23 5 0) (fun x59 => if x59 ≤ v4 then b1 (rgI ρ 30 5 0) (fun x199 => b1 (rsI ρ 30 5 v3 x199) (fun ρ200 => RB_M_watch_204 fu v2 v3 0 (ρ200))) else b0 ((5 * v3) + v4) (fun x69 => b1 (rgI ρ 24 25 v4) (fun x83 => b1 (rsI ρ 24 25 x69 x83) (fun ρ84 => b1 (rgI ρ84 25 25 v4) (fun x97 => b1 (rsI ρ84 25 25 x69 x97) (fun ρ98 => b1 (rgI ρ98 26 25 v4) (fun x111 => b1 (rsI ρ98 26 25 x69 x111) (fun ρ112 => b1 (rgI ρ112 27 25 v4) (fun x125 => b1 (rsI ρ112 27 25 x69 x125) (fun ρ126 => b1 (rgI ρ126 28 25 v4) (fun x139 => b1 (rsI ρ126 28 25 x69 x139) (fun ρ140 => RB_M_watch_144 (fun v2 v3 v4 ρ => RB_M_watch_52 n v2 v3 v4 ρ) fu v2 v3 v4 x69 0 (ρ140)))))))))))))
set_option maxHeartbeats 4000000 in
set_option maxRecDepth 100000 in
theorem rw_M_watch_52 {X : CX} (E : EV X prog_13_method_55_code 7 "PlaceFinderModel" none) {μ0 μ : Mem} {b : Nat} {r : Unit} {ρ' : RS} (hQ : RQ X 0 0 μ0 none (ov b ρ' μ)) (hR : xR X = { frames := 2, cells := 0, slots := 0, locals := 42 }) (hI : X.2.2.2.2.2.2.2.2.2.2.2.1.name = "watch") (hW : mW μ ≤ b)  (n : Nat) : ∀ (v2 : Int32) (v3 : Int32) (v4 : Int32) (ρ : RS) (h : RB_M_watch_52  n v2 v3 v4 ρ = some (r, ρ')), WM X 7 52 [(0, vR (some b)), (2, vI v2), (3, vI v3), (4, vI v4)] [] 0 0 (ov b ρ μ) := by
  induction n with
  | zero => intro v2 v3 v4 ρ h; cases h
  | succ n ih =>
    intro v2 v3 v4 ρ h
    have h : (b1 (rgI ρ 23 5 0) (fun x59 => if x59 ≤ v4 then b1 (rgI ρ 30 5 0) (fun x199 => b1 (rsI ρ 30 5 v3 x199) (fun ρ200 => RB_M_watch_204 fu v2 v3 0 (ρ200))) else b0 ((5 * v3) + v4) (fun x69 => b1 (rgI ρ 24 25 v4) (fun x83 => b1 (rsI ρ 24 25 x69 x83) (fun ρ84 => b1 (rgI ρ84 25 25 v4) (fun x97 => b1 (rsI ρ84 25 25 x69 x97) (fun ρ98 => b1 (rgI ρ98 26 25 v4) (fun x111 => b1 (rsI ρ98 26 25 x69 x111) (fun ρ112 => b1 (rgI ρ112 27 25 v4) (fun x125 => b1 (rsI ρ112 27 25 x69 x125) (fun ρ126 => b1 (rgI ρ126 28 25 v4) (fun x139 => b1 (rsI ρ126 28 25 x69 x139) (fun ρ140 => RB_M_watch_144 (fun v2 v3 v4 ρ => RB_M_watch_52 n v2 v3 v4 ρ) fu v2 v3 v4 x69 0 (ρ140)))))))))))))) = some (r, ρ') := h
    refine wm_iload E dM_watch_52 (j := 3) rfl ?_
    refine wm_aload_n E dM_watch_54 rfl (j := 0) rfl ?_
    refine wm_rget (v := vR (some (b + 20))) E fd_M_67 rfl dM_watch_55 ?_
    refine wm_iconst (x := 0) E dM_watch_58 (by decide) ?_
    refine wm_riald E (by decide) rfl rfl (by decide) (by decide) h dM_watch_59 (fun x59 h => ?_)
    refine wm_icmp_ge (tgt := 189) E dM_watch_60 (by decide) (fun c60 => ?_) (fun c60 => ?_)
    · have h := (if_pos c60).symm.trans h
      refine wm_aload_n E dM_watch_189 rfl (j := 0) rfl ?_
      refine wm_rget (v := vR (some (b + 27))) E fd_M_88 rfl dM_watch_190 ?_
      refine wm_iload_n E dM_watch_193 rfl (j := 2) rfl ?_
      refine wm_aload_n E dM_watch_194 rfl (j := 0) rfl ?_
      refine wm_rget (v := vR (some (b + 27))) E fd_M_88 rfl dM_watch_195 ?_
      refine wm_iconst (x := 0) E dM_watch_198 (by decide) ?_
      refine wm_riald E (by decide) rfl rfl (by decide) (by decide) h dM_watch_199 (fun x199 h => ?_)
      refine wm_riast E (by decide) rfl rfl (by decide) (by decide) hW h dM_watch_200 (fun ρ200 h => ?_)
      refine wm_iconst (x := 0) E dM_watch_201 (by decide) ?_
      refine wm_istore (lv' := [(4, vI 0), (0, vR (some b)), (2, vI v2), (3, vI v3)]) E dM_watch_202 (by decide) rfl ?_
      refine wm_pick (lv' := [(0, vR (some b)), (2, vI v2), (3, vI v3), (4, vI 0)]) [1, 2, 3, 0] rfl ?_
      exact rw_M_watch_204 E hQ hR hI hW fu v2 v3 0 (ρ200) h
    · have h := (if_neg c60).symm.trans h
      refine wm_iconst (x := 5) E dM_watch_63 (by decide) ?_
      refine wm_iload_n E dM_watch_64 rfl (j := 2) rfl ?_
      refine wm_imul E dM_watch_65 ?_
      refine wm_iload E dM_watch_66 (j := 3) rfl ?_
      refine wm_iadd E dM_watch_68 ?_
      refine wm_letI h (fun x69 h => ?_)
      refine wm_istore (lv' := [(5, vI x69), (0, vR (some b)), (2, vI v2), (3, vI v3), (4, vI v4)]) E dM_watch_69 (by decide) rfl ?_
      refine wm_aload_n E dM_watch_71 rfl (j := 1) rfl ?_
      refine wm_rget (v := vR (some (b + 21))) E fd_M_70 rfl dM_watch_72 ?_
      refine wm_iload E dM_watch_75 (j := 0) rfl ?_
      refine wm_aload_n E dM_watch_77 rfl (j := 1) rfl ?_
      refine wm_rget (v := vR (some (b + 21))) E fd_M_70 rfl dM_watch_78 ?_
      refine wm_iload E dM_watch_81 (j := 4) rfl ?_
      refine wm_riald E (by decide) rfl rfl (by decide) (by decide) h dM_watch_83 (fun x83 h => ?_)
      refine wm_riast E (by decide) rfl rfl (by decide) (by decide) hW h dM_watch_84 (fun ρ84 h => ?_)
      refine wm_aload_n E dM_watch_85 rfl (j := 1) rfl ?_
      refine wm_rget (v := vR (some (b + 22))) E fd_M_73 rfl dM_watch_86 ?_
      refine wm_iload E dM_watch_89 (j := 0) rfl ?_
      refine wm_aload_n E dM_watch_91 rfl (j := 1) rfl ?_
      refine wm_rget (v := vR (some (b + 22))) E fd_M_73 rfl dM_watch_92 ?_
      refine wm_iload E dM_watch_95 (j := 4) rfl ?_
      refine wm_riald E (by decide) rfl rfl (by decide) (by decide) h dM_watch_97 (fun x97 h => ?_)
      refine wm_riast E (by decide) rfl rfl (by decide) (by decide) hW h dM_watch_98 (fun ρ98 h => ?_)
      refine wm_aload_n E dM_watch_99 rfl (j := 1) rfl ?_
      refine wm_rget (v := vR (some (b + 23))) E fd_M_76 rfl dM_watch_100 ?_
      refine wm_iload E dM_watch_103 (j := 0) rfl ?_
      refine wm_aload_n E dM_watch_105 rfl (j := 1) rfl ?_
      refine wm_rget (v := vR (some (b + 23))) E fd_M_76 rfl dM_watch_106 ?_
      refine wm_iload E dM_watch_109 (j := 4) rfl ?_
      refine wm_riald E (by decide) rfl rfl (by decide) (by decide) h dM_watch_111 (fun x111 h => ?_)
      refine wm_riast E (by decide) rfl rfl (by decide) (by decide) hW h dM_watch_112 (fun ρ112 h => ?_)
      refine wm_aload_n E dM_watch_113 rfl (j := 1) rfl ?_
      refine wm_rget (v := vR (some (b + 24))) E fd_M_79 rfl dM_watch_114 ?_
      refine wm_iload E dM_watch_117 (j := 0) rfl ?_
      refine wm_aload_n E dM_watch_119 rfl (j := 1) rfl ?_
      refine wm_rget (v := vR (some (b + 24))) E fd_M_79 rfl dM_watch_120 ?_
      refine wm_iload E dM_watch_123 (j := 4) rfl ?_
      refine wm_riald E (by decide) rfl rfl (by decide) (by decide) h dM_watch_125 (fun x125 h => ?_)
      refine wm_riast E (by decide) rfl rfl (by decide) (by decide) hW h dM_watch_126 (fun ρ126 h => ?_)
      refine wm_aload_n E dM_watch_127 rfl (j := 1) rfl ?_
      refine wm_rget (v := vR (some (b + 25))) E fd_M_82 rfl dM_watch_128 ?_
      refine wm_iload E dM_watch_131 (j := 0) rfl ?_
      refine wm_aload_n E dM_watch_133 rfl (j := 1) rfl ?_
      refine wm_rget (v := vR (some (b + 25))) E fd_M_82 rfl dM_watch_134 ?_
      refine wm_iload E dM_watch_137 (j := 4) rfl ?_
      refine wm_riald E (by decide) rfl rfl (by decide) (by decide) h dM_watch_139 (fun x139 h => ?_)
      refine wm_riast E (by decide) rfl rfl (by decide) (by decide) hW h dM_watch_140 (fun ρ140 h => ?_)
      refine wm_iconst (x := 0) E dM_watch_141 (by decide) ?_
      refine wm_istore (lv' := [(6, vI 0), (5, vI x69), (0, vR (some b)), (2, vI v2), (3, vI v3), (4, vI v4)]) E dM_watch_142 (by decide) rfl ?_
      refine wm_pick (lv' := [(0, vR (some b)), (2, vI v2), (3, vI v3), (4, vI v4), (5, vI x69), (6, vI 0)]) [2, 3, 4, 5, 1, 0] rfl ?_
      exact rw_M_watch_144 E hQ hR hI hW (fun v2 v3 v4 ρ => RB_M_watch_52 n v2 v3 v4 ρ) ih fu v2 v3 v4 x69 0 (ρ140) h
def RB_M_watch_22  (v1 : Int32) (v2 : Int32) (s1 : Int32) (ρ : RS) : Option (Unit × RS) := b0 (rpI ρ 0 s1) (fun ρ22 => if (ri ρ22 0) ≤ 0 then b0 (v1 + 1) (fun x36 => b1 (rgI ρ22 23 5 0) (fun x47 => b1 (rsI ρ22 23 5 x36 x47) (fun ρ48 => RB_M_watch_52 fu v2 x36 0 (ρ48)))) else some ((), ρ22))
set_option maxHeartbeats 4000000 in
set_option maxRecDepth 100000 in
theorem rw_M_watch_22 {X : CX} (E : EV X prog_13_method_55_code 7 "PlaceFinderModel" none) {μ0 μ : Mem} {b : Nat} {r : Unit} {ρ' : RS} (hQ : RQ X 0 0 μ0 none (ov b ρ' μ)) (hR : xR X = { frames := 2, cells := 0, slots := 0, locals := 42 }) (hI : X.2.2.2.2.2.2.2.2.2.2.2.1.name = "watch") (hW : mW μ ≤ b)  (v1 : Int32) (v2 : Int32) (s1 : Int32) (ρ : RS) (h : RB_M_watch_22  v1 v2 s1 ρ = some (r, ρ')) : WM X 7 22 [(0, vR (some b)), (1, vI v1), (2, vI v2)] [vI s1, vR (some b)] 0 0 (ov b ρ μ) := by
  have h : (b0 (rpI ρ 0 s1) (fun ρ22 => if (ri ρ22 0) ≤ 0 then b0 (v1 + 1) (fun x36 => b1 (rgI ρ22 23 5 0) (fun x47 => b1 (rsI ρ22 23 5 x36 x47) (fun ρ48 => RB_M_watch_52 fu v2 x36 0 (ρ48)))) else some ((), ρ22))) = some (r, ρ') := h
  refine wm_rpI E fp_M_132 (fun q => by cases q) rfl (by decide) hW dM_watch_22 ?_
  refine wm_rlet h (fun ρ22 h => ?_)
  refine wm_aload_n E dM_watch_25 rfl (j := 0) rfl ?_
  refine wm_rget (v := vI (ri ρ22 0)) E fd_M_132 rfl dM_watch_26 ?_
  refine wm_if_le (tgt := 33) E dM_watch_29 (by decide) (fun c29 => ?_) (fun c29 => ?_)
  · have h := (if_pos c29).symm.trans h
    refine wm_iload_n E dM_watch_33 rfl (j := 1) rfl ?_
    refine wm_iconst (x := 1) E dM_watch_34 (by decide) ?_
    refine wm_iadd E dM_watch_35 ?_
    refine wm_letI h (fun x36 h => ?_)
    refine wm_istore_n (lv' := [(3, vI x36), (0, vR (some b)), (1, vI v1), (2, vI v2)]) E dM_watch_36 rfl (by decide) rfl ?_
    refine wm_aload_n E dM_watch_37 rfl (j := 1) rfl ?_
    refine wm_rget (v := vR (some (b + 20))) E fd_M_67 rfl dM_watch_38 ?_
    refine wm_iload_n E dM_watch_41 rfl (j := 0) rfl ?_
    refine wm_aload_n E dM_watch_42 rfl (j := 1) rfl ?_
    refine wm_rget (v := vR (some (b + 20))) E fd_M_67 rfl dM_watch_43 ?_
    refine wm_iconst (x := 0) E dM_watch_46 (by decide) ?_
    refine wm_riald E (by decide) rfl rfl (by decide) (by decide) h dM_watch_47 (fun x47 h => ?_)
    refine wm_riast E (by decide) rfl rfl (by decide) (by decide) hW h dM_watch_48 (fun ρ48 h => ?_)
    refine wm_iconst (x := 0) E dM_watch_49 (by decide) ?_
    refine wm_istore (lv' := [(4, vI 0), (3, vI x36), (0, vR (some b)), (1, vI v1), (2, vI v2)]) E dM_watch_50 (by decide) rfl ?_
    refine wm_pick (lv' := [(0, vR (some b)), (2, vI v2), (3, vI x36), (4, vI 0)]) [2, 4, 1, 0] rfl ?_
    exact rw_M_watch_52 E hQ hR hI hW fu v2 x36 0 (ρ48) h
  · have h := (if_neg c29).symm.trans h
    exact wm_vret E hQ rfl (rrM h) (by decide) (by decide) dM_watch_32
def RB_M_watch_17  (v1 : Int32) (v2 : Int32) (ρ : RS) : Option (Unit × RS) := RB_M_watch_22 v1 v2 1 (ρ)
set_option maxHeartbeats 4000000 in
set_option maxRecDepth 100000 in
theorem rw_M_watch_17 {X : CX} (E : EV X prog_13_method_55_code 7 "PlaceFinderModel" none) {μ0 μ : Mem} {b : Nat} {r : Unit} {ρ' : RS} (hQ : RQ X 0 0 μ0 none (ov b ρ' μ)) (hR : xR X = { frames := 2, cells := 0, slots := 0, locals := 42 }) (hI : X.2.2.2.2.2.2.2.2.2.2.2.1.name = "watch") (hW : mW μ ≤ b)  (v1 : Int32) (v2 : Int32) (ρ : RS) (h : RB_M_watch_17  v1 v2 ρ = some (r, ρ')) : WM X 7 17 [(0, vR (some b)), (1, vI v1), (2, vI v2)] [vR (some b)] 0 0 (ov b ρ μ) := by
  have h : (RB_M_watch_22 v1 v2 1 (ρ)) = some (r, ρ') := h
  refine wm_iconst (x := 1) E dM_watch_17 (by decide) ?_
  refine wm_goto (tgt := 22) E dM_watch_18 (by decide) ?_
  refine wm_pick (lv' := [(0, vR (some b)), (1, vI v1), (2, vI v2)]) [0, 1, 2] rfl ?_
  exact rw_M_watch_22 E hQ hR hI hW v1 v2 1 (ρ) h
def R_M_watch (v1 : Int32) (v2 : Int32) (ρ : RS) : Option (Unit × RS) := b1 (R_M_in v1 0 3) (fun x4 => if x4 = 0 then RB_M_watch_17 v1 v2 (ρ) else b1 (R_M_isDay v2) (fun x11 => if x11 = 0 then RB_M_watch_17 v1 v2 (ρ) else RB_M_watch_22 v1 v2 0 (ρ)))
set_option maxHeartbeats 4000000 in
set_option maxRecDepth 100000 in
theorem RC_M_watch (l : Launch) (G : GG) (b : Nat) (ρ : RS) (μ : Mem) (hW : mW μ ≤ b) (v1 : Int32) (v2 : Int32) (r : Unit) (ρ' : RS) (h : R_M_watch v1 v2 ρ = some (r, ρ')) : CT l G y_M_watch prog_13_method_55_code 7 none 2 0 0 42 (ov b ρ μ) [vR (some b), vI v1, vI v2] none (ov b ρ' μ) := by
  refine wm_met (lv := [(0, vR (some b)), (1, vI v1), (2, vI v2)]) (by decide +kernel) (Nat.le_of_ble_eq_true rfl) rfl (fun X E hQ hR hI => ?_)
  have h : (b1 (R_M_in v1 0 3) (fun x4 => if x4 = 0 then RB_M_watch_17 v1 v2 (ρ) else b1 (R_M_isDay v2) (fun x11 => if x11 = 0 then RB_M_watch_17 v1 v2 (ρ) else RB_M_watch_22 v1 v2 0 (ρ)))) = some (r, ρ') := h
  refine wm_aload_n E dM_watch_0 rfl (j := 0) rfl ?_
  refine wm_iload_n E dM_watch_1 rfl (j := 1) rfl ?_
  refine wm_iconst (x := 0) E dM_watch_2 (by decide) ?_
  refine wm_iconst (x := 3) E dM_watch_3 (by decide) ?_
  obtain ⟨x4, hc4, h⟩ := b1S h
  refine wm_cS (As := [vI v1, vI 0, vI 3]) (st := [vR (some b)]) E lk_M_139 sc_M_in (RC_M_in (xl X) X.1 v1 0 3 _ _ hc4) rfl rfl (by rw [hR]; decide) (by rw [hR]; decide) (Nat.le_of_ble_eq_true rfl) dM_watch_4 ?_
  refine wm_if_eq (tgt := 17) E dM_watch_7 (by decide) (fun c7 => ?_) (fun c7 => ?_)
  · have h := (if_pos c7).symm.trans h
    refine wm_pick (lv' := [(0, vR (some b)), (1, vI v1), (2, vI v2)]) [0, 1, 2] rfl ?_
    exact rw_M_watch_17 E hQ hR hI hW v1 v2 (ρ) h
  · have h := (if_neg c7).symm.trans h
    refine wm_iload_n E dM_watch_10 rfl (j := 2) rfl ?_
    obtain ⟨x11, hc11, h⟩ := b1S h
    refine wm_cS (As := [vI v2]) (st := [vR (some b)]) E lk_M_143 sc_M_isDay (RC_M_isDay (xl X) X.1 v2 _ _ hc11) rfl rfl (by rw [hR]; decide) (by rw [hR]; decide) (Nat.le_of_ble_eq_true rfl) dM_watch_11 ?_
    refine wm_if_ne (tgt := 21) E dM_watch_14 (by decide) (fun c14 => ?_) (fun c14 => ?_)
    · have h := (if_neg c14).symm.trans h
      refine wm_iconst (x := 0) E dM_watch_21 (by decide) ?_
      refine wm_pick (lv' := [(0, vR (some b)), (1, vI v1), (2, vI v2)]) [0, 1, 2] rfl ?_
      exact rw_M_watch_22 E hQ hR hI hW v1 v2 0 (ρ) h
    · have h := (if_pos c14).symm.trans h
      refine wm_pick (lv' := [(0, vR (some b)), (1, vI v1), (2, vI v2)]) [0, 1, 2] rfl ?_
      exact rw_M_watch_17 E hQ hR hI hW v1 v2 (ρ) h
def RB_M_isWatch_54  (s0 : Int32) (ρ : RS) : Option (Int32 × RS) := gd (¬ okZ s0 = true) (some (s0, ρ))
set_option maxHeartbeats 4000000 in
set_option maxRecDepth 100000 in
theorem rw_M_isWatch_54 {X : CX} (E : EV X prog_13_method_56_code 2 "PlaceFinderModel" (some .boolean)) {μ0 μ : Mem} {b : Nat} {r : Int32} {ρ' : RS} (hQ : RQ X 0 0 μ0 (some (vI r)) (ov b ρ' μ)) (hR : xR X = { frames := 1, cells := 0, slots := 0, locals := 22 }) (hI : X.2.2.2.2.2.2.2.2.2.2.2.1.name = "isWatch") (hW : mW μ ≤ b)  (s0 : Int32) (ρ : RS) (h : RB_M_isWatch_54  s0 ρ = some (r, ρ')) : WM X 2 54 [] [vI s0] 0 0 (ov b ρ μ) := by
  have h : (gd (¬ okZ s0 = true) (some (s0, ρ))) = some (r, ρ') := h
  obtain ⟨hz54, h⟩ := gdS h
  exact wm_zret (rt := .boolean) E hQ (rrI h) (rrM h) (okZN hz54) (by decide) (by decide) dM_isWatch_54
def RB_M_isWatch_39  (s1 : Int32) (ρ : RS) : Option (Int32 × RS) := b0 (rpI ρ 0 s1) (fun ρ39 => if (ri ρ39 0) = 0 then RB_M_isWatch_54 1 (ρ39) else RB_M_isWatch_54 0 (ρ39))
set_option maxHeartbeats 4000000 in
set_option maxRecDepth 100000 in
theorem rw_M_isWatch_39 {X : CX} (E : EV X prog_13_method_56_code 2 "PlaceFinderModel" (some .boolean)) {μ0 μ : Mem} {b : Nat} {r : Int32} {ρ' : RS} (hQ : RQ X 0 0 μ0 (some (vI r)) (ov b ρ' μ)) (hR : xR X = { frames := 1, cells := 0, slots := 0, locals := 22 }) (hI : X.2.2.2.2.2.2.2.2.2.2.2.1.name = "isWatch") (hW : mW μ ≤ b)  (s1 : Int32) (ρ : RS) (h : RB_M_isWatch_39  s1 ρ = some (r, ρ')) : WM X 2 39 [(0, vR (some b))] [vI s1, vR (some b)] 0 0 (ov b ρ μ) := by
  have h : (b0 (rpI ρ 0 s1) (fun ρ39 => if (ri ρ39 0) = 0 then RB_M_isWatch_54 1 (ρ39) else RB_M_isWatch_54 0 (ρ39))) = some (r, ρ') := h
  refine wm_rpI E fp_M_132 (fun q => by cases q) rfl (by decide) hW dM_isWatch_39 ?_
  refine wm_rlet h (fun ρ39 h => ?_)
  refine wm_aload_n E dM_isWatch_42 rfl (j := 0) rfl ?_
  refine wm_rget (v := vI (ri ρ39 0)) E fd_M_132 rfl dM_isWatch_43 ?_
  refine wm_if_ne (tgt := 53) E dM_isWatch_46 (by decide) (fun c46 => ?_) (fun c46 => ?_)
  · have h := (if_neg c46).symm.trans h
    refine wm_iconst (x := 0) E dM_isWatch_53 (by decide) ?_
    refine wm_pick (lv' := []) [] rfl ?_
    exact rw_M_isWatch_54 E hQ hR hI hW 0 (ρ39) h
  · have h := (if_pos c46).symm.trans h
    refine wm_iconst (x := 1) E dM_isWatch_49 (by decide) ?_
    refine wm_goto (tgt := 54) E dM_isWatch_50 (by decide) ?_
    refine wm_pick (lv' := []) [] rfl ?_
    exact rw_M_isWatch_54 E hQ hR hI hW 1 (ρ39) h
def RB_M_isWatch_38   (ρ : RS) : Option (Int32 × RS) := RB_M_isWatch_39 1 (ρ)
set_option maxHeartbeats 4000000 in
set_option maxRecDepth 100000 in
theorem rw_M_isWatch_38 {X : CX} (E : EV X prog_13_method_56_code 2 "PlaceFinderModel" (some .boolean)) {μ0 μ : Mem} {b : Nat} {r : Int32} {ρ' : RS} (hQ : RQ X 0 0 μ0 (some (vI r)) (ov b ρ' μ)) (hR : xR X = { frames := 1, cells := 0, slots := 0, locals := 22 }) (hI : X.2.2.2.2.2.2.2.2.2.2.2.1.name = "isWatch") (hW : mW μ ≤ b)   (ρ : RS) (h : RB_M_isWatch_38  ρ = some (r, ρ')) : WM X 2 38 [(0, vR (some b))] [vR (some b)] 0 0 (ov b ρ μ) := by
  have h : (RB_M_isWatch_39 1 (ρ)) = some (r, ρ') := h
  refine wm_iconst (x := 1) E dM_isWatch_38 (by decide) ?_
  refine wm_pick (lv' := [(0, vR (some b))]) [0] rfl ?_
  exact rw_M_isWatch_39 E hQ hR hI hW 1 (ρ) h
def RB_M_isWatch_30  (s2 : Int32) (ρ : RS) : Option (Int32 × RS) := b1 (rgI ρ 34 5 s2) (fun x30 => if x30 = 0 then RB_M_isWatch_38 (ρ) else RB_M_isWatch_39 0 (ρ))
set_option maxHeartbeats 4000000 in
set_option maxRecDepth 100000 in
theorem rw_M_isWatch_30 {X : CX} (E : EV X prog_13_method_56_code 2 "PlaceFinderModel" (some .boolean)) {μ0 μ : Mem} {b : Nat} {r : Int32} {ρ' : RS} (hQ : RQ X 0 0 μ0 (some (vI r)) (ov b ρ' μ)) (hR : xR X = { frames := 1, cells := 0, slots := 0, locals := 22 }) (hI : X.2.2.2.2.2.2.2.2.2.2.2.1.name = "isWatch") (hW : mW μ ≤ b)  (s2 : Int32) (ρ : RS) (h : RB_M_isWatch_30  s2 ρ = some (r, ρ')) : WM X 2 30 [(0, vR (some b))] [vI s2, vR (some (b + 31)), vR (some b)] 0 0 (ov b ρ μ) := by
  have h : (b1 (rgI ρ 34 5 s2) (fun x30 => if x30 = 0 then RB_M_isWatch_38 (ρ) else RB_M_isWatch_39 0 (ρ))) = some (r, ρ') := h
  refine wm_rzald E (by decide) rfl rfl (by decide) (by decide) h dM_isWatch_30 (fun x30 h => ?_)
  refine wm_if_eq (tgt := 38) E dM_isWatch_31 (by decide) (fun c31 => ?_) (fun c31 => ?_)
  · have h := (if_pos c31).symm.trans h
    refine wm_pick (lv' := [(0, vR (some b))]) [0] rfl ?_
    exact rw_M_isWatch_38 E hQ hR hI hW (ρ) h
  · have h := (if_neg c31).symm.trans h
    refine wm_iconst (x := 0) E dM_isWatch_34 (by decide) ?_
    refine wm_goto (tgt := 39) E dM_isWatch_35 (by decide) ?_
    refine wm_pick (lv' := [(0, vR (some b))]) [0] rfl ?_
    exact rw_M_isWatch_39 E hQ hR hI hW 0 (ρ) h
def R_M_isWatch (v1 : Int32) (ρ : RS) : Option (Int32 × RS) := b1 (R_M_in v1 0 3) (fun x4 => if x4 = 0 then RB_M_isWatch_38 (ρ) else b1 (R_M_in v1 0 3) (fun x17 => if x17 = 0 then RB_M_isWatch_30 0 (ρ) else RB_M_isWatch_30 (v1 + 1) (ρ)))
set_option maxHeartbeats 4000000 in
set_option maxRecDepth 100000 in
theorem RC_M_isWatch (l : Launch) (G : GG) (b : Nat) (ρ : RS) (μ : Mem) (hW : mW μ ≤ b) (v1 : Int32) (r : Int32) (ρ' : RS) (h : R_M_isWatch v1 ρ = some (r, ρ')) : CT l G y_M_isWatch prog_13_method_56_code 2 (some .boolean) 1 0 0 22 (ov b ρ μ) [vR (some b), vI v1] (some (vI r)) (ov b ρ' μ) := by
  refine wm_met (lv := [(0, vR (some b)), (1, vI v1)]) (by decide +kernel) (Nat.le_of_ble_eq_true rfl) rfl (fun X E hQ hR hI => ?_)
  have h : (b1 (R_M_in v1 0 3) (fun x4 => if x4 = 0 then RB_M_isWatch_38 (ρ) else b1 (R_M_in v1 0 3) (fun x17 => if x17 = 0 then RB_M_isWatch_30 0 (ρ) else RB_M_isWatch_30 (v1 + 1) (ρ)))) = some (r, ρ') := h
  refine wm_aload_n E dM_isWatch_0 rfl (j := 0) rfl ?_
  refine wm_iload_n E dM_isWatch_1 rfl (j := 1) rfl ?_
  refine wm_iconst (x := 0) E dM_isWatch_2 (by decide) ?_
  refine wm_iconst (x := 3) E dM_isWatch_3 (by decide) ?_
  obtain ⟨x4, hc4, h⟩ := b1S h
  refine wm_cS (As := [vI v1, vI 0, vI 3]) (st := [vR (some b)]) E lk_M_139 sc_M_in (RC_M_in (xl X) X.1 v1 0 3 _ _ hc4) rfl rfl (by rw [hR]; decide) (by rw [hR]; decide) (Nat.le_of_ble_eq_true rfl) dM_isWatch_4 ?_
  refine wm_if_eq (tgt := 38) E dM_isWatch_7 (by decide) (fun c7 => ?_) (fun c7 => ?_)
  · have h := (if_pos c7).symm.trans h
    refine wm_pick (lv' := [(0, vR (some b))]) [0] rfl ?_
    exact rw_M_isWatch_38 E hQ hR hI hW (ρ) h
  · have h := (if_neg c7).symm.trans h
    refine wm_aload_n E dM_isWatch_10 rfl (j := 0) rfl ?_
    refine wm_rget (v := vR (some (b + 31))) E fd_M_100 rfl dM_isWatch_11 ?_
    refine wm_iload_n E dM_isWatch_14 rfl (j := 1) rfl ?_
    refine wm_iconst (x := 0) E dM_isWatch_15 (by decide) ?_
    refine wm_iconst (x := 3) E dM_isWatch_16 (by decide) ?_
    obtain ⟨x17, hc17, h⟩ := b1S h
    refine wm_cS (As := [vI v1, vI 0, vI 3]) (st := [vR (some (b + 31)), vR (some b)]) E lk_M_139 sc_M_in (RC_M_in (xl X) X.1 v1 0 3 _ _ hc17) rfl rfl (by rw [hR]; decide) (by rw [hR]; decide) (Nat.le_of_ble_eq_true rfl) dM_isWatch_17 ?_
    refine wm_if_eq (tgt := 29) E dM_isWatch_20 (by decide) (fun c20 => ?_) (fun c20 => ?_)
    · have h := (if_pos c20).symm.trans h
      refine wm_iconst (x := 0) E dM_isWatch_29 (by decide) ?_
      refine wm_pick (lv' := [(0, vR (some b))]) [0] rfl ?_
      exact rw_M_isWatch_30 E hQ hR hI hW 0 (ρ) h
    · have h := (if_neg c20).symm.trans h
      refine wm_iload_n E dM_isWatch_23 rfl (j := 1) rfl ?_
      refine wm_iconst (x := 1) E dM_isWatch_24 (by decide) ?_
      refine wm_iadd E dM_isWatch_25 ?_
      refine wm_goto (tgt := 30) E dM_isWatch_26 (by decide) ?_
      refine wm_pick (lv' := [(0, vR (some b))]) [0] rfl ?_
      exact rw_M_isWatch_30 E hQ hR hI hW (v1 + 1) (ρ) h
