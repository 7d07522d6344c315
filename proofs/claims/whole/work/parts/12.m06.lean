def B_M_compareKeys_119   (μ : Mem) : Option (Int32 × Mem) := some (0, μ)
set_option maxHeartbeats 4000000 in
set_option maxRecDepth 100000 in
theorem w_M_compareKeys_119 {X : CX} (E : EV X prog_13_method_50_code 6 "PlaceFinderModel" (some .int)) {μ0 μ' : Mem} {r : Int32} (hQ : RQ X 0 0 μ0 (some (vI r)) μ') (hR : xR X = { frames := 1, cells := 0, slots := 0, locals := 40 }) (hI : X.2.2.2.2.2.2.2.2.2.2.2.1.name = "compareKeys")   (μ : Mem) (h : B_M_compareKeys_119   μ = some (r, μ')) : WM X 6 119 [] [] 0 0 μ := by
  have h : (some (0, μ)) = some (r, μ') := h
  refine wm_iconst (x := 0) E dM_compareKeys_119 (by decide) ?_
  exact wm_iret (rt := .int) E hQ (rtI h) (rtM h) (by decide) (by decide) dM_compareKeys_120
def B_M_compareKeys_179  (s0 : Int32) (μ : Mem) : Option (Int32 × Mem) := some (s0, μ)
set_option maxHeartbeats 4000000 in
set_option maxRecDepth 100000 in
theorem w_M_compareKeys_179 {X : CX} (E : EV X prog_13_method_50_code 6 "PlaceFinderModel" (some .int)) {μ0 μ' : Mem} {r : Int32} (hQ : RQ X 0 0 μ0 (some (vI r)) μ') (hR : xR X = { frames := 1, cells := 0, slots := 0, locals := 40 }) (hI : X.2.2.2.2.2.2.2.2.2.2.2.1.name = "compareKeys")  (s0 : Int32) (μ : Mem) (h : B_M_compareKeys_179  s0 μ = some (r, μ')) : WM X 6 179 [] [vI s0] 0 0 μ := by
  have h : (some (s0, μ)) = some (r, μ') := h
  exact wm_iret (rt := .int) E hQ (rtI h) (rtM h) (by decide) (by decide) dM_compareKeys_179
def B_M_compareKeys_104  (s0 : Int32) (μ : Mem) : Option (Int32 × Mem) := some (s0, μ)
set_option maxHeartbeats 4000000 in
set_option maxRecDepth 100000 in
theorem w_M_compareKeys_104 {X : CX} (E : EV X prog_13_method_50_code 6 "PlaceFinderModel" (some .int)) {μ0 μ' : Mem} {r : Int32} (hQ : RQ X 0 0 μ0 (some (vI r)) μ') (hR : xR X = { frames := 1, cells := 0, slots := 0, locals := 40 }) (hI : X.2.2.2.2.2.2.2.2.2.2.2.1.name = "compareKeys")  (s0 : Int32) (μ : Mem) (h : B_M_compareKeys_104  s0 μ = some (r, μ')) : WM X 6 104 [] [vI s0] 0 0 μ := by
  have h : (some (s0, μ)) = some (r, μ') := h
  exact wm_iret (rt := .int) E hQ (rtI h) (rtM h) (by decide) (by decide) dM_compareKeys_104
def B_M_compareKeys_59  (s0 : Int32) (μ : Mem) : Option (Int32 × Mem) := some (s0, μ)
set_option maxHeartbeats 4000000 in
set_option maxRecDepth 100000 in
theorem w_M_compareKeys_59 {X : CX} (E : EV X prog_13_method_50_code 6 "PlaceFinderModel" (some .int)) {μ0 μ' : Mem} {r : Int32} (hQ : RQ X 0 0 μ0 (some (vI r)) μ') (hR : xR X = { frames := 1, cells := 0, slots := 0, locals := 40 }) (hI : X.2.2.2.2.2.2.2.2.2.2.2.1.name = "compareKeys")  (s0 : Int32) (μ : Mem) (h : B_M_compareKeys_59  s0 μ = some (r, μ')) : WM X 6 59 [] [vI s0] 0 0 μ := by
  have h : (some (s0, μ)) = some (r, μ') := h
  exact wm_iret (rt := .int) E hQ (rtI h) (rtM h) (by decide) (by decide) dM_compareKeys_59
def S_M_compareKeys (v0 : Option Nat) (v1 : Int32) (v2 : Int32) (v3 : Int32) (μ : Mem) : Option (Int32 × Mem) := if v3 = 1 then b1 (gR μ v0 12 50) (fun x6 => b1 (aI μ x6 0 v1) (fun x10 => b1 (gR μ v0 12 50) (fun x14 => b1 (aI μ x14 0 v2) (fun x18 => if x10 = ((-1)) then if x18 = ((-1)) then B_M_compareKeys_59 0 μ else B_M_compareKeys_59 1 μ else if x18 = ((-1)) then B_M_compareKeys_59 ((-1)) μ else b1 (rc μ v0 12) (fun _ => b2 (S_M_compareWords v0 x10 x18 μ) (fun x56 m56 => B_M_compareKeys_59 x56 m56)))))) else if v3 = 2 then b1 (gR μ v0 12 51) (fun x66 => b1 (aI μ x66 0 v1) (fun x70 => b1 (gR μ v0 12 51) (fun x72 => b1 (aI μ x72 0 v2) (fun x76 => if x76 ≤ x70 then b1 (gR μ v0 12 51) (fun x85 => b1 (aI μ x85 0 v1) (fun x89 => b1 (gR μ v0 12 51) (fun x91 => b1 (aI μ x91 0 v2) (fun x95 => if x89 ≤ x95 then B_M_compareKeys_104 0 μ else B_M_compareKeys_104 1 μ)))) else B_M_compareKeys_104 ((-1)) μ)))) else if v3 = 0 then B_M_compareKeys_119 μ else b1 (gR μ v0 12 30) (fun x110 => b1 (aI μ x110 0 0) (fun x114 => if 2 ≤ x114 then b1 (gR μ v0 12 52) (fun x122 => b1 (aI μ x122 0 v1) (fun x126 => b1 (gR μ v0 12 52) (fun x128 => b1 (aI μ x128 0 v2) (fun x132 => if x126 = x132 then b1 (gR μ v0 12 53) (fun x153 => b1 (aL μ x153 1 v1) (fun x157 => b1 (gR μ v0 12 54) (fun x159 => b1 (aL μ x159 1 v1) (fun x163 => b1 (gR μ v0 12 53) (fun x165 => b1 (aL μ x165 1 v2) (fun x169 => b1 (gR μ v0 12 54) (fun x171 => b1 (aL μ x171 1 v2) (fun x175 => b2 (S_M_compareFractions x157 x163 x169 x175 μ) (fun x176 m176 => B_M_compareKeys_179 x176 m176))))))))) else b1 (gR μ v0 12 52) (fun x137 => b1 (aI μ x137 0 v1) (fun x141 => b1 (gR μ v0 12 52) (fun x143 => b1 (aI μ x143 0 v2) (fun x147 => B_M_compareKeys_179 (x141 - x147) μ)))))))) else B_M_compareKeys_119 μ))
set_option maxHeartbeats 4000000 in
set_option maxRecDepth 100000 in
theorem C_M_compareKeys (l : Launch) (G : GG) (v0 : Option Nat) (v1 : Int32) (v2 : Int32) (v3 : Int32) (μ μ' : Mem) (r : Int32) (h : S_M_compareKeys v0 v1 v2 v3 μ = some (r, μ')) : CT l G y_M_compareKeys prog_13_method_50_code 6 (some .int) 1 0 0 40 μ [vR v0, vI v1, vI v2, vI v3] (some (vI r)) μ' := by
  refine wm_met (lv := [(0, vR v0), (1, vI v1), (2, vI v2), (3, vI v3)]) (by decide +kernel) (Nat.le_of_ble_eq_true rfl) rfl (fun X E hQ hR hI => ?_)
  have h : (if v3 = 1 then b1 (gR μ v0 12 50) (fun x6 => b1 (aI μ x6 0 v1) (fun x10 => b1 (gR μ v0 12 50) (fun x14 => b1 (aI μ x14 0 v2) (fun x18 => if x10 = ((-1)) then if x18 = ((-1)) then B_M_compareKeys_59 0 μ else B_M_compareKeys_59 1 μ else if x18 = ((-1)) then B_M_compareKeys_59 ((-1)) μ else b1 (rc μ v0 12) (fun _ => b2 (S_M_compareWords v0 x10 x18 μ) (fun x56 m56 => B_M_compareKeys_59 x56 m56)))))) else if v3 = 2 then b1 (gR μ v0 12 51) (fun x66 => b1 (aI μ x66 0 v1) (fun x70 => b1 (gR μ v0 12 51) (fun x72 => b1 (aI μ x72 0 v2) (fun x76 => if x76 ≤ x70 then b1 (gR μ v0 12 51) (fun x85 => b1 (aI μ x85 0 v1) (fun x89 => b1 (gR μ v0 12 51) (fun x91 => b1 (aI μ x91 0 v2) (fun x95 => if x89 ≤ x95 then B_M_compareKeys_104 0 μ else B_M_compareKeys_104 1 μ)))) else B_M_compareKeys_104 ((-1)) μ)))) else if v3 = 0 then B_M_compareKeys_119 μ else b1 (gR μ v0 12 30) (fun x110 => b1 (aI μ x110 0 0) (fun x114 => if 2 ≤ x114 then b1 (gR μ v0 12 52) (fun x122 => b1 (aI μ x122 0 v1) (fun x126 => b1 (gR μ v0 12 52) (fun x128 => b1 (aI μ x128 0 v2) (fun x132 => if x126 = x132 then b1 (gR μ v0 12 53) (fun x153 => b1 (aL μ x153 1 v1) (fun x157 => b1 (gR μ v0 12 54) (fun x159 => b1 (aL μ x159 1 v1) (fun x163 => b1 (gR μ v0 12 53) (fun x165 => b1 (aL μ x165 1 v2) (fun x169 => b1 (gR μ v0 12 54) (fun x171 => b1 (aL μ x171 1 v2) (fun x175 => b2 (S_M_compareFractions x157 x163 x169 x175 μ) (fun x176 m176 => B_M_compareKeys_179 x176 m176))))))))) else b1 (gR μ v0 12 52) (fun x137 => b1 (aI μ x137 0 v1) (fun x141 => b1 (gR μ v0 12 52) (fun x143 => b1 (aI μ x143 0 v2) (fun x147 => B_M_compareKeys_179 (x141 - x147) μ)))))))) else B_M_compareKeys_119 μ))) = some (r, μ') := h
  refine wm_iload_n E dM_compareKeys_0 rfl (j := 3) rfl ?_
  refine wm_iconst (x := 1) E dM_compareKeys_1 (by decide) ?_
  refine wm_icmp_ne (tgt := 60) E dM_compareKeys_2 (by decide) (fun c2 => ?_) (fun c2 => ?_)
  · have h := (if_neg c2).symm.trans h
    refine wm_iload_n E dM_compareKeys_60 rfl (j := 3) rfl ?_
    refine wm_iconst (x := 2) E dM_compareKeys_61 (by decide) ?_
    refine wm_icmp_ne (tgt := 105) E dM_compareKeys_62 (by decide) (fun c62 => ?_) (fun c62 => ?_)
    · have h := (if_neg c62).symm.trans h
      refine wm_iload_n E dM_compareKeys_105 rfl (j := 3) rfl ?_
      refine wm_if_eq (tgt := 119) E dM_compareKeys_106 (by decide) (fun c106 => ?_) (fun c106 => ?_)
      · have h := (if_pos c106).symm.trans h
        refine wm_pick (lv' := []) [] rfl ?_
        exact w_M_compareKeys_119 E hQ hR hI μ h
      · have h := (if_neg c106).symm.trans h
        refine wm_aload_n E dM_compareKeys_109 rfl (j := 0) rfl ?_
        refine wm_gR E fd_M_88 h dM_compareKeys_110 (fun x110 h => ?_)
        refine wm_iconst (x := 0) E dM_compareKeys_113 (by decide) ?_
        refine wm_iald (t := 0) E rfl h dM_compareKeys_114 (fun x114 h => ?_)
        refine wm_iconst (x := 2) E dM_compareKeys_115 (by decide) ?_
        refine wm_icmp_ge (tgt := 121) E dM_compareKeys_116 (by decide) (fun c116 => ?_) (fun c116 => ?_)
        · have h := (if_pos c116).symm.trans h
          refine wm_aload_n E dM_compareKeys_121 rfl (j := 0) rfl ?_
          refine wm_gR E fd_M_122 h dM_compareKeys_122 (fun x122 h => ?_)
          refine wm_iload_n E dM_compareKeys_125 rfl (j := 1) rfl ?_
          refine wm_iald (t := 0) E rfl h dM_compareKeys_126 (fun x126 h => ?_)
          refine wm_aload_n E dM_compareKeys_127 rfl (j := 0) rfl ?_
          refine wm_gR E fd_M_122 h dM_compareKeys_128 (fun x128 h => ?_)
          refine wm_iload_n E dM_compareKeys_131 rfl (j := 2) rfl ?_
          refine wm_iald (t := 0) E rfl h dM_compareKeys_132 (fun x132 h => ?_)
          refine wm_icmp_eq (tgt := 152) E dM_compareKeys_133 (by decide) (fun c133 => ?_) (fun c133 => ?_)
          · have h := (if_pos c133).symm.trans h
            refine wm_aload_n E dM_compareKeys_152 rfl (j := 0) rfl ?_
            refine wm_gR E fd_M_125 h dM_compareKeys_153 (fun x153 h => ?_)
            refine wm_iload_n E dM_compareKeys_156 rfl (j := 1) rfl ?_
            refine wm_lald (t := 1) E rfl h dM_compareKeys_157 (fun x157 h => ?_)
            refine wm_aload_n E dM_compareKeys_158 rfl (j := 0) rfl ?_
            refine wm_gR E fd_M_129 h dM_compareKeys_159 (fun x159 h => ?_)
            refine wm_iload_n E dM_compareKeys_162 rfl (j := 1) rfl ?_
            refine wm_lald (t := 1) E rfl h dM_compareKeys_163 (fun x163 h => ?_)
            refine wm_aload_n E dM_compareKeys_164 rfl (j := 0) rfl ?_
            refine wm_gR E fd_M_125 h dM_compareKeys_165 (fun x165 h => ?_)
            refine wm_iload_n E dM_compareKeys_168 rfl (j := 2) rfl ?_
            refine wm_lald (t := 1) E rfl h dM_compareKeys_169 (fun x169 h => ?_)
            refine wm_aload_n E dM_compareKeys_170 rfl (j := 0) rfl ?_
            refine wm_gR E fd_M_129 h dM_compareKeys_171 (fun x171 h => ?_)
            refine wm_iload_n E dM_compareKeys_174 rfl (j := 2) rfl ?_
            refine wm_lald (t := 1) E rfl h dM_compareKeys_175 (fun x175 h => ?_)
            obtain ⟨x176, m176, hc176, h⟩ := b2S h
            refine wm_cS (As := [vL x157, vL x163, vL x169, vL x175]) (st := []) E lk_M_240 sc_M_compareFractions (C_M_compareFractions (xl X) X.1 x157 x163 x169 x175 μ _ _ hc176) rfl rfl (by rw [hR]; decide) (by rw [hR]; decide) (Nat.le_of_ble_eq_true rfl) dM_compareKeys_176 ?_
            refine wm_pick (lv' := []) [] rfl ?_
            exact w_M_compareKeys_179 E hQ hR hI x176 m176 h
          · have h := (if_neg c133).symm.trans h
            refine wm_aload_n E dM_compareKeys_136 rfl (j := 0) rfl ?_
            refine wm_gR E fd_M_122 h dM_compareKeys_137 (fun x137 h => ?_)
            refine wm_iload_n E dM_compareKeys_140 rfl (j := 1) rfl ?_
            refine wm_iald (t := 0) E rfl h dM_compareKeys_141 (fun x141 h => ?_)
            refine wm_aload_n E dM_compareKeys_142 rfl (j := 0) rfl ?_
            refine wm_gR E fd_M_122 h dM_compareKeys_143 (fun x143 h => ?_)
            refine wm_iload_n E dM_compareKeys_146 rfl (j := 2) rfl ?_
            refine wm_iald (t := 0) E rfl h dM_compareKeys_147 (fun x147 h => ?_)
            refine wm_isub E dM_compareKeys_148 ?_
            refine wm_goto (tgt := 179) E dM_compareKeys_149 (by decide) ?_
            refine wm_pick (lv' := []) [] rfl ?_
            exact w_M_compareKeys_179 E hQ hR hI (x141 - x147) μ h
        · have h := (if_neg c116).symm.trans h
          refine wm_pick (lv' := []) [] rfl ?_
          exact w_M_compareKeys_119 E hQ hR hI μ h
    · have h := (if_pos c62).symm.trans h
      refine wm_aload_n E dM_compareKeys_65 rfl (j := 0) rfl ?_
      refine wm_gR E fd_M_119 h dM_compareKeys_66 (fun x66 h => ?_)
      refine wm_iload_n E dM_compareKeys_69 rfl (j := 1) rfl ?_
      refine wm_iald (t := 0) E rfl h dM_compareKeys_70 (fun x70 h => ?_)
      refine wm_aload_n E dM_compareKeys_71 rfl (j := 0) rfl ?_
      refine wm_gR E fd_M_119 h dM_compareKeys_72 (fun x72 h => ?_)
      refine wm_iload_n E dM_compareKeys_75 rfl (j := 2) rfl ?_
      refine wm_iald (t := 0) E rfl h dM_compareKeys_76 (fun x76 h => ?_)
      refine wm_icmp_ge (tgt := 84) E dM_compareKeys_77 (by decide) (fun c77 => ?_) (fun c77 => ?_)
      · have h := (if_pos c77).symm.trans h
        refine wm_aload_n E dM_compareKeys_84 rfl (j := 0) rfl ?_
        refine wm_gR E fd_M_119 h dM_compareKeys_85 (fun x85 h => ?_)
        refine wm_iload_n E dM_compareKeys_88 rfl (j := 1) rfl ?_
        refine wm_iald (t := 0) E rfl h dM_compareKeys_89 (fun x89 h => ?_)
        refine wm_aload_n E dM_compareKeys_90 rfl (j := 0) rfl ?_
        refine wm_gR E fd_M_119 h dM_compareKeys_91 (fun x91 h => ?_)
        refine wm_iload_n E dM_compareKeys_94 rfl (j := 2) rfl ?_
        refine wm_iald (t := 0) E rfl h dM_compareKeys_95 (fun x95 h => ?_)
        refine wm_icmp_le (tgt := 103) E dM_compareKeys_96 (by decide) (fun c96 => ?_) (fun c96 => ?_)
        · have h := (if_pos c96).symm.trans h
          refine wm_iconst (x := 0) E dM_compareKeys_103 (by decide) ?_
          refine wm_pick (lv' := []) [] rfl ?_
          exact w_M_compareKeys_104 E hQ hR hI 0 μ h
        · have h := (if_neg c96).symm.trans h
          refine wm_iconst (x := 1) E dM_compareKeys_99 (by decide) ?_
          refine wm_goto (tgt := 104) E dM_compareKeys_100 (by decide) ?_
          refine wm_pick (lv' := []) [] rfl ?_
          exact w_M_compareKeys_104 E hQ hR hI 1 μ h
      · have h := (if_neg c77).symm.trans h
        refine wm_iconst (x := -1) E dM_compareKeys_80 (by decide) ?_
        refine wm_goto (tgt := 104) E dM_compareKeys_81 (by decide) ?_
        refine wm_pick (lv' := []) [] rfl ?_
        exact w_M_compareKeys_104 E hQ hR hI ((-1)) μ h
  · have h := (if_pos c2).symm.trans h
    refine wm_aload_n E dM_compareKeys_5 rfl (j := 0) rfl ?_
    refine wm_gR E fd_M_116 h dM_compareKeys_6 (fun x6 h => ?_)
    refine wm_iload_n E dM_compareKeys_9 rfl (j := 1) rfl ?_
    refine wm_iald (t := 0) E rfl h dM_compareKeys_10 (fun x10 h => ?_)
    refine wm_istore (lv' := [(4, vI x10), (0, vR v0), (1, vI v1), (2, vI v2), (3, vI v3)]) E dM_compareKeys_11 (by decide) rfl ?_
    refine wm_aload_n E dM_compareKeys_13 rfl (j := 1) rfl ?_
    refine wm_gR E fd_M_116 h dM_compareKeys_14 (fun x14 h => ?_)
    refine wm_iload_n E dM_compareKeys_17 rfl (j := 3) rfl ?_
    refine wm_iald (t := 0) E rfl h dM_compareKeys_18 (fun x18 h => ?_)
    refine wm_istore (lv' := [(5, vI x18), (4, vI x10), (0, vR v0), (1, vI v1), (2, vI v2), (3, vI v3)]) E dM_compareKeys_19 (by decide) rfl ?_
    refine wm_iload E dM_compareKeys_21 (j := 1) rfl ?_
    refine wm_iconst (x := -1) E dM_compareKeys_23 (by decide) ?_
    refine wm_icmp_ne (tgt := 41) E dM_compareKeys_24 (by decide) (fun c24 => ?_) (fun c24 => ?_)
    · have h := (if_neg c24).symm.trans h
      refine wm_iload E dM_compareKeys_41 (j := 0) rfl ?_
      refine wm_iconst (x := -1) E dM_compareKeys_43 (by decide) ?_
      refine wm_icmp_ne (tgt := 51) E dM_compareKeys_44 (by decide) (fun c44 => ?_) (fun c44 => ?_)
      · have h := (if_neg c44).symm.trans h
        refine wm_aload_n E dM_compareKeys_51 rfl (j := 2) rfl ?_
        refine wm_iload E dM_compareKeys_52 (j := 1) rfl ?_
        refine wm_iload E dM_compareKeys_54 (j := 0) rfl ?_
        obtain ⟨u56, hr56, h⟩ := b1S h
        obtain ⟨x56, m56, hc56, h⟩ := b2S h
        refine wm_cV (ci := 12) (As := [vI x10, vI x18]) (st := []) E lk_M_281 rfl im_M_compareWords sl_M_compareWords hr56 (C_M_compareWords (xl X) X.1 v0 x10 x18 μ _ _ hc56) rfl rfl (by rw [hR]; decide) (by rw [hR]; decide) (Nat.le_of_ble_eq_true rfl) dM_compareKeys_56 ?_
        refine wm_pick (lv' := []) [] rfl ?_
        exact w_M_compareKeys_59 E hQ hR hI x56 m56 h
      · have h := (if_pos c44).symm.trans h
        refine wm_iconst (x := -1) E dM_compareKeys_47 (by decide) ?_
        refine wm_goto (tgt := 59) E dM_compareKeys_48 (by decide) ?_
        refine wm_pick (lv' := []) [] rfl ?_
        exact w_M_compareKeys_59 E hQ hR hI ((-1)) μ h
    · have h := (if_pos c24).symm.trans h
      refine wm_iload E dM_compareKeys_27 (j := 0) rfl ?_
      refine wm_iconst (x := -1) E dM_compareKeys_29 (by decide) ?_
      refine wm_icmp_ne (tgt := 37) E dM_compareKeys_30 (by decide) (fun c30 => ?_) (fun c30 => ?_)
      · have h := (if_neg c30).symm.trans h
        refine wm_iconst (x := 1) E dM_compareKeys_37 (by decide) ?_
        refine wm_goto (tgt := 59) E dM_compareKeys_38 (by decide) ?_
        refine wm_pick (lv' := []) [] rfl ?_
        exact w_M_compareKeys_59 E hQ hR hI 1 μ h
      · have h := (if_pos c30).symm.trans h
        refine wm_iconst (x := 0) E dM_compareKeys_33 (by decide) ?_
        refine wm_goto (tgt := 59) E dM_compareKeys_34 (by decide) ?_
        refine wm_pick (lv' := []) [] rfl ?_
        exact w_M_compareKeys_59 E hQ hR hI 0 μ h
def B_M_insert_46  (v0 : Option Nat) (v1 : Int32) (v3 : Int32) (μ : Mem) : Option (Unit × Mem) := b1 (gR μ v0 12 37) (fun x47 => b1 (sI μ x47 0 v3 v1) (fun m52 => b1 (gI m52 v0 12 36) (fun x55 => b1 (pV m52 v0 12 36 (vI (x55 + 1))) (fun m60 => some ((), m60)))))
set_option maxHeartbeats 4000000 in
set_option maxRecDepth 100000 in
theorem w_M_insert_46 {X : CX} (E : EV X prog_13_method_51_code 4 "PlaceFinderModel" none) {μ0 μ' : Mem} {r : Unit} (hQ : RQ X 0 0 μ0 none μ') (hR : xR X = { frames := 2, cells := 0, slots := 0, locals := 65 }) (hI : X.2.2.2.2.2.2.2.2.2.2.2.1.name = "insert")  (v0 : Option Nat) (v1 : Int32) (v3 : Int32) (μ : Mem) (h : B_M_insert_46  v0 v1 v3 μ = some (r, μ')) : WM X 4 46 [(0, vR v0), (1, vI v1), (3, vI v3)] [] 0 0 μ := by
  have h : (b1 (gR μ v0 12 37) (fun x47 => b1 (sI μ x47 0 v3 v1) (fun m52 => b1 (gI m52 v0 12 36) (fun x55 => b1 (pV m52 v0 12 36 (vI (x55 + 1))) (fun m60 => some ((), m60)))))) = some (r, μ') := h
  refine wm_aload_n E dM_insert_46 rfl (j := 0) rfl ?_
  refine wm_gR E fd_M_107 h dM_insert_47 (fun x47 h => ?_)
  refine wm_iload_n E dM_insert_50 rfl (j := 2) rfl ?_
  refine wm_iload_n E dM_insert_51 rfl (j := 1) rfl ?_
  refine wm_iast (t := 0) E rfl h dM_insert_52 (fun m52 h => ?_)
  refine wm_aload_n E dM_insert_53 rfl (j := 0) rfl ?_
  refine wm_dup E dM_insert_54 rfl ?_
  refine wm_gI E fd_M_284 h dM_insert_55 (fun x55 h => ?_)
  refine wm_iconst (x := 1) E dM_insert_58 (by decide) ?_
  refine wm_iadd E dM_insert_59 ?_
  refine wm_pI E fp_M_284 (fun q => by cases q) h dM_insert_60 (fun m60 h => ?_)
  exact wm_vret E hQ rfl (rtM h) (by decide) (by decide) dM_insert_63
def B_M_insert_5  : Nat → Option Nat → Int32 → Int32 → Int32 → Mem → Option (Unit × Mem)
  | 0, _, _, _, _, _ => none
  | n + 1, v0, v1, v2, v3, μ => if v3 ≤ 0 then B_M_insert_46 v0 v1 v3 μ else b1 (gR μ v0 12 37) (fun x11 => b1 (aI μ x11 0 (v3 - 1)) (fun x17 => b1 (rc μ v0 12) (fun _ => b2 (S_M_compareKeys v0 x17 v1 v2 μ) (fun x20 m20 => if x20 ≤ 0 then B_M_insert_46 v0 v1 v3 m20 else b1 (gR m20 v0 12 37) (fun x27 => b1 (gR m20 v0 12 37) (fun x32 => b1 (aI m20 x32 0 (v3 - 1)) (fun x38 => b1 (sI m20 x27 0 v3 x38) (fun m39 => (fun v0 v1 v2 v3 μ => B_M_insert_5 n v0 v1 v2 v3 μ) v0 v1 v2 (v3 + (-1)) m39))))))))
set_option maxHeartbeats 4000000 in
set_option maxRecDepth 100000 in
theorem w_M_insert_5 {X : CX} (E : EV X prog_13_method_51_code 4 "PlaceFinderModel" none) {μ0 μ' : Mem} {r : Unit} (hQ : RQ X 0 0 μ0 none μ') (hR : xR X = { frames := 2, cells := 0, slots := 0, locals := 65 }) (hI : X.2.2.2.2.2.2.2.2.2.2.2.1.name = "insert")  (n : Nat) : ∀ (v0 : Option Nat) (v1 : Int32) (v2 : Int32) (v3 : Int32) (μ : Mem) (h : B_M_insert_5  n v0 v1 v2 v3 μ = some (r, μ')), WM X 4 5 [(0, vR v0), (1, vI v1), (2, vI v2), (3, vI v3)] [] 0 0 μ := by
  induction n with
  | zero => intro v0 v1 v2 v3 μ h; cases h
  | succ n ih =>
    intro v0 v1 v2 v3 μ h
    have h : (if v3 ≤ 0 then B_M_insert_46 v0 v1 v3 μ else b1 (gR μ v0 12 37) (fun x11 => b1 (aI μ x11 0 (v3 - 1)) (fun x17 => b1 (rc μ v0 12) (fun _ => b2 (S_M_compareKeys v0 x17 v1 v2 μ) (fun x20 m20 => if x20 ≤ 0 then B_M_insert_46 v0 v1 v3 m20 else b1 (gR m20 v0 12 37) (fun x27 => b1 (gR m20 v0 12 37) (fun x32 => b1 (aI m20 x32 0 (v3 - 1)) (fun x38 => b1 (sI m20 x27 0 v3 x38) (fun m39 => (fun v0 v1 v2 v3 μ => B_M_insert_5 n v0 v1 v2 v3 μ) v0 v1 v2 (v3 + (-1)) m39))))))))) = some (r, μ') := h
    refine wm_iload_n E dM_insert_5 rfl (j := 3) rfl ?_
    refine wm_if_le (tgt := 46) E dM_insert_6 (by decide) (fun c6 => ?_) (fun c6 => ?_)
    · have h := (if_pos c6).symm.trans h
      refine wm_pick (lv' := [(0, vR v0), (1, vI v1), (3, vI v3)]) [0, 1, 3] rfl ?_
      exact w_M_insert_46 E hQ hR hI v0 v1 v3 μ h
    · have h := (if_neg c6).symm.trans h
      refine wm_aload_n E dM_insert_9 rfl (j := 0) rfl ?_
      refine wm_aload_n E dM_insert_10 rfl (j := 0) rfl ?_
      refine wm_gR E fd_M_107 h dM_insert_11 (fun x11 h => ?_)
      refine wm_iload_n E dM_insert_14 rfl (j := 3) rfl ?_
      refine wm_iconst (x := 1) E dM_insert_15 (by decide) ?_
      refine wm_isub E dM_insert_16 ?_
      refine wm_iald (t := 0) E rfl h dM_insert_17 (fun x17 h => ?_)
      refine wm_iload_n E dM_insert_18 rfl (j := 1) rfl ?_
      refine wm_iload_n E dM_insert_19 rfl (j := 2) rfl ?_
      obtain ⟨u20, hr20, h⟩ := b1S h
      obtain ⟨x20, m20, hc20, h⟩ := b2S h
      refine wm_cV (ci := 12) (As := [vI x17, vI v1, vI v2]) (st := []) E lk_M_287 rfl im_M_compareKeys sl_M_compareKeys hr20 (C_M_compareKeys (xl X) X.1 v0 x17 v1 v2 μ _ _ hc20) rfl rfl (by rw [hR]; decide) (by rw [hR]; decide) (Nat.le_of_ble_eq_true rfl) dM_insert_20 ?_
      refine wm_if_le (tgt := 46) E dM_insert_23 (by decide) (fun c23 => ?_) (fun c23 => ?_)
      · have h := (if_pos c23).symm.trans h
        refine wm_pick (lv' := [(0, vR v0), (1, vI v1), (3, vI v3)]) [0, 1, 3] rfl ?_
        exact w_M_insert_46 E hQ hR hI v0 v1 v3 m20 h
      · have h := (if_neg c23).symm.trans h
        refine wm_aload_n E dM_insert_26 rfl (j := 0) rfl ?_
        refine wm_gR E fd_M_107 h dM_insert_27 (fun x27 h => ?_)
        refine wm_iload_n E dM_insert_30 rfl (j := 3) rfl ?_
        refine wm_aload_n E dM_insert_31 rfl (j := 0) rfl ?_
        refine wm_gR E fd_M_107 h dM_insert_32 (fun x32 h => ?_)
        refine wm_iload_n E dM_insert_35 rfl (j := 3) rfl ?_
        refine wm_iconst (x := 1) E dM_insert_36 (by decide) ?_
        refine wm_isub E dM_insert_37 ?_
        refine wm_iald (t := 0) E rfl h dM_insert_38 (fun x38 h => ?_)
        refine wm_iast (t := 0) E rfl h dM_insert_39 (fun m39 h => ?_)
        refine wm_iinc (lv' := [(3, vI (v3 + (-1))), (0, vR v0), (1, vI v1), (2, vI v2)]) (d := (-1)) E dM_insert_40 (by decide) (j := 3) rfl (by decide) rfl ?_
        refine wm_goto (tgt := 5) E dM_insert_43 (by decide) ?_
        refine wm_pick (lv' := [(0, vR v0), (1, vI v1), (2, vI v2), (3, vI (v3 + (-1)))]) [1, 2, 3, 0] rfl ?_
        exact ih v0 v1 v2 (v3 + (-1)) m39 h
def S_M_insert (v0 : Option Nat) (v1 : Int32) (v2 : Int32) (μ : Mem) : Option (Unit × Mem) := b1 (gI μ v0 12 36) (fun x1 => B_M_insert_5 fu v0 v1 v2 x1 μ)
set_option maxHeartbeats 4000000 in
set_option maxRecDepth 100000 in
theorem C_M_insert (l : Launch) (G : GG) (v0 : Option Nat) (v1 : Int32) (v2 : Int32) (μ μ' : Mem) (r : Unit) (h : S_M_insert v0 v1 v2 μ = some (r, μ')) : CT l G y_M_insert prog_13_method_51_code 4 none 2 0 0 65 μ [vR v0, vI v1, vI v2] none μ' := by
  refine wm_met (lv := [(0, vR v0), (1, vI v1), (2, vI v2)]) (by decide +kernel) (Nat.le_of_ble_eq_true rfl) rfl (fun X E hQ hR hI => ?_)
  have h : (b1 (gI μ v0 12 36) (fun x1 => B_M_insert_5 fu v0 v1 v2 x1 μ)) = some (r, μ') := h
  refine wm_aload_n E dM_insert_0 rfl (j := 0) rfl ?_
  refine wm_gI E fd_M_284 h dM_insert_1 (fun x1 h => ?_)
  refine wm_istore_n (lv' := [(3, vI x1), (0, vR v0), (1, vI v1), (2, vI v2)]) E dM_insert_4 rfl (by decide) rfl ?_
  refine wm_pick (lv' := [(0, vR v0), (1, vI v1), (2, vI v2), (3, vI x1)]) [1, 2, 3, 0] rfl ?_
  exact w_M_insert_5 E hQ hR hI fu v0 v1 v2 x1 μ h
def B_M_find_75 (k41 : Option Nat → Int32 → Int32 → Int32 → Mem → Option (Int32 × Mem)) (v0 : Option Nat) (v1 : Int32) (v2 : Int32) (v3 : Int32) (μ : Mem) : Option (Int32 × Mem) := k41 v0 v1 v2 (v3 + 1) μ
set_option maxHeartbeats 4000000 in
set_option maxRecDepth 100000 in
theorem w_M_find_75 {X : CX} (E : EV X prog_13_method_52_code 4 "PlaceFinderModel" (some .int)) {μ0 μ' : Mem} {r : Int32} (hQ : RQ X 0 0 μ0 (some (vI r)) μ') (hR : xR X = { frames := 5, cells := 0, slots := 0, locals := 141 }) (hI : X.2.2.2.2.2.2.2.2.2.2.2.1.name = "find") (k41 : Option Nat → Int32 → Int32 → Int32 → Mem → Option (Int32 × Mem)) (hk41 : ∀ (v0 : Option Nat) (v1 : Int32) (v2 : Int32) (v3 : Int32) (μ : Mem), k41 v0 v1 v2 v3 μ = some (r, μ') → WM X 4 41 [(0, vR v0), (1, vI v1), (2, vI v2), (3, vI v3)] [] 0 0 μ) (v0 : Option Nat) (v1 : Int32) (v2 : Int32) (v3 : Int32) (μ : Mem) (h : B_M_find_75 k41 v0 v1 v2 v3 μ = some (r, μ')) : WM X 4 75 [(0, vR v0), (1, vI v1), (2, vI v2), (3, vI v3)] [] 0 0 μ := by
  have h : (k41 v0 v1 v2 (v3 + 1) μ) = some (r, μ') := h
  refine wm_iinc (lv' := [(3, vI (v3 + 1)), (0, vR v0), (1, vI v1), (2, vI v2)]) (d := 1) E dM_find_75 (by decide) (j := 3) rfl (by decide) rfl ?_
  refine wm_goto (tgt := 41) E dM_find_78 (by decide) ?_
  refine wm_pick (lv' := [(0, vR v0), (1, vI v1), (2, vI v2), (3, vI (v3 + 1))]) [1, 2, 3, 0] rfl ?_
  exact hk41 v0 v1 v2 (v3 + 1) μ h
def B_M_find_41  : Nat → Option Nat → Int32 → Int32 → Int32 → Mem → Option (Int32 × Mem)
  | 0, _, _, _, _, _ => none
  | n + 1, v0, v1, v2, v3, μ => b1 (gI μ v0 12 1) (fun x43 => if x43 ≤ v3 then b1 (gI μ v0 12 36) (fun x82 => some (x82, μ)) else b1 (rc μ v0 12) (fun _ => b2 (S_M_meets v0 v3 v1 0 μ) (fun x53 m53 => if x53 = 0 then B_M_find_75 (fun v0 v1 v2 v3 μ => B_M_find_41 n v0 v1 v2 v3 μ) v0 v1 v2 v3 m53 else b1 (rc m53 v0 12) (fun _ => b2 (S_M_makeKeys v0 v3 v1 v2 m53) (fun x66 m66 => b1 (rc m66 v0 12) (fun _ => b2 (S_M_insert v0 v3 v2 m66) (fun x72 m72 => B_M_find_75 (fun v0 v1 v2 v3 μ => B_M_find_41 n v0 v1 v2 v3 μ) v0 v1 v2 v3 m72)))))))
set_option maxHeartbeats 4000000 in
set_option maxRecDepth 100000 in
theorem w_M_find_41 {X : CX} (E : EV X prog_13_method_52_code 4 "PlaceFinderModel" (some .int)) {μ0 μ' : Mem} {r : Int32} (hQ : RQ X 0 0 μ0 (some (vI r)) μ') (hR : xR X = { frames := 5, cells := 0, slots := 0, locals := 141 }) (hI : X.2.2.2.2.2.2.2.2.2.2.2.1.name = "find")  (n : Nat) : ∀ (v0 : Option Nat) (v1 : Int32) (v2 : Int32) (v3 : Int32) (μ : Mem) (h : B_M_find_41  n v0 v1 v2 v3 μ = some (r, μ')), WM X 4 41 [(0, vR v0), (1, vI v1), (2, vI v2), (3, vI v3)] [] 0 0 μ := by
  induction n with
  | zero => intro v0 v1 v2 v3 μ h; cases h
  | succ n ih =>
    intro v0 v1 v2 v3 μ h
    have h : (b1 (gI μ v0 12 1) (fun x43 => if x43 ≤ v3 then b1 (gI μ v0 12 36) (fun x82 => some (x82, μ)) else b1 (rc μ v0 12) (fun _ => b2 (S_M_meets v0 v3 v1 0 μ) (fun x53 m53 => if x53 = 0 then B_M_find_75 (fun v0 v1 v2 v3 μ => B_M_find_41 n v0 v1 v2 v3 μ) v0 v1 v2 v3 m53 else b1 (rc m53 v0 12) (fun _ => b2 (S_M_makeKeys v0 v3 v1 v2 m53) (fun x66 m66 => b1 (rc m66 v0 12) (fun _ => b2 (S_M_insert v0 v3 v2 m66) (fun x72 m72 => B_M_find_75 (fun v0 v1 v2 v3 μ => B_M_find_41 n v0 v1 v2 v3 μ) v0 v1 v2 v3 m72)))))))) = some (r, μ') := h
    refine wm_iload_n E dM_find_41 rfl (j := 3) rfl ?_
    refine wm_aload_n E dM_find_42 rfl (j := 0) rfl ?_
    refine wm_gI E fd_M_136 h dM_find_43 (fun x43 h => ?_)
    refine wm_icmp_ge (tgt := 81) E dM_find_46 (by decide) (fun c46 => ?_) (fun c46 => ?_)
    · have h := (if_pos c46).symm.trans h
      refine wm_aload_n E dM_find_81 rfl (j := 0) rfl ?_
      refine wm_gI E fd_M_284 h dM_find_82 (fun x82 h => ?_)
      exact wm_iret (rt := .int) E hQ (rtI h) (rtM h) (by decide) (by decide) dM_find_85
    · have h := (if_neg c46).symm.trans h
      refine wm_aload_n E dM_find_49 rfl (j := 0) rfl ?_
      refine wm_iload_n E dM_find_50 rfl (j := 3) rfl ?_
      refine wm_iload_n E dM_find_51 rfl (j := 1) rfl ?_
      refine wm_iconst (x := 0) E dM_find_52 (by decide) ?_
      obtain ⟨u53, hr53, h⟩ := b1S h
      obtain ⟨x53, m53, hc53, h⟩ := b2S h
      refine wm_cV (ci := 12) (As := [vI v3, vI v1, vI 0]) (st := []) E lk_M_291 rfl im_M_meets sl_M_meets hr53 (C_M_meets (xl X) X.1 v0 v3 v1 0 μ _ _ hc53) rfl rfl (by rw [hR]; decide) (by rw [hR]; decide) (Nat.le_of_ble_eq_true rfl) dM_find_53 ?_
      refine wm_if_ne (tgt := 62) E dM_find_56 (by decide) (fun c56 => ?_) (fun c56 => ?_)
      · have h := (if_neg c56).symm.trans h
        refine wm_aload_n E dM_find_62 rfl (j := 0) rfl ?_
        refine wm_iload_n E dM_find_63 rfl (j := 3) rfl ?_
        refine wm_iload_n E dM_find_64 rfl (j := 1) rfl ?_
        refine wm_iload_n E dM_find_65 rfl (j := 2) rfl ?_
        obtain ⟨u66, hr66, h⟩ := b1S h
        obtain ⟨x66, m66, hc66, h⟩ := b2S h
        refine wm_cV (ci := 12) (As := [vI v3, vI v1, vI v2]) (st := []) E lk_M_294 rfl im_M_makeKeys sl_M_makeKeys hr66 (C_M_makeKeys (xl X) X.1 v0 v3 v1 v2 m53 _ _ hc66) rfl rfl (by rw [hR]; decide) (by rw [hR]; decide) (Nat.le_of_ble_eq_true rfl) dM_find_66 ?_
        refine wm_aload_n E dM_find_69 rfl (j := 0) rfl ?_
        refine wm_iload_n E dM_find_70 rfl (j := 3) rfl ?_
        refine wm_iload_n E dM_find_71 rfl (j := 2) rfl ?_
        obtain ⟨u72, hr72, h⟩ := b1S h
        obtain ⟨x72, m72, hc72, h⟩ := b2S h
        refine wm_cV (ci := 12) (As := [vI v3, vI v2]) (st := []) E lk_M_297 rfl im_M_insert sl_M_insert hr72 (C_M_insert (xl X) X.1 v0 v3 v2 m66 _ _ hc72) rfl rfl (by rw [hR]; decide) (by rw [hR]; decide) (Nat.le_of_ble_eq_true rfl) dM_find_72 ?_
        refine wm_pick (lv' := [(0, vR v0), (1, vI v1), (2, vI v2), (3, vI v3)]) [0, 1, 2, 3] rfl ?_
        exact w_M_find_75 E hQ hR hI (fun v0 v1 v2 v3 μ => B_M_find_41 n v0 v1 v2 v3 μ) ih v0 v1 v2 v3 m72 h
      · have h := (if_pos c56).symm.trans h
        refine wm_goto (tgt := 75) E dM_find_59 (by decide) ?_
        refine wm_pick (lv' := [(0, vR v0), (1, vI v1), (2, vI v2), (3, vI v3)]) [0, 1, 2, 3] rfl ?_
        exact w_M_find_75 E hQ hR hI (fun v0 v1 v2 v3 μ => B_M_find_41 n v0 v1 v2 v3 μ) ih v0 v1 v2 v3 m53 h
def B_M_find_22  (v0 : Option Nat) (v1 : Int32) (v2 : Int32) (s0 : Option Nat) (s1 : Int32) (μ : Mem) : Option (Int32 × Mem) := b1 (pV μ s0 12 0 (vI s1)) (fun m22 => b1 (gI m22 v0 12 0) (fun x26 => if x26 ≤ 0 then b1 (pV m22 v0 12 36 (vI 0)) (fun m36 => B_M_find_41 fu v0 v1 v2 0 m36) else some (0, m22)))
set_option maxHeartbeats 4000000 in
set_option maxRecDepth 100000 in
theorem w_M_find_22 {X : CX} (E : EV X prog_13_method_52_code 4 "PlaceFinderModel" (some .int)) {μ0 μ' : Mem} {r : Int32} (hQ : RQ X 0 0 μ0 (some (vI r)) μ') (hR : xR X = { frames := 5, cells := 0, slots := 0, locals := 141 }) (hI : X.2.2.2.2.2.2.2.2.2.2.2.1.name = "find")  (v0 : Option Nat) (v1 : Int32) (v2 : Int32) (s0 : Option Nat) (s1 : Int32) (μ : Mem) (h : B_M_find_22  v0 v1 v2 s0 s1 μ = some (r, μ')) : WM X 4 22 [(0, vR v0), (1, vI v1), (2, vI v2)] [vI s1, vR s0] 0 0 μ := by
  have h : (b1 (pV μ s0 12 0 (vI s1)) (fun m22 => b1 (gI m22 v0 12 0) (fun x26 => if x26 ≤ 0 then b1 (pV m22 v0 12 36 (vI 0)) (fun m36 => B_M_find_41 fu v0 v1 v2 0 m36) else some (0, m22)))) = some (r, μ') := h
  refine wm_pI E fp_M_132 (fun q => by cases q) h dM_find_22 (fun m22 h => ?_)
  refine wm_aload_n E dM_find_25 rfl (j := 0) rfl ?_
  refine wm_gI E fd_M_132 h dM_find_26 (fun x26 h => ?_)
  refine wm_if_le (tgt := 34) E dM_find_29 (by decide) (fun c29 => ?_) (fun c29 => ?_)
  · have h := (if_pos c29).symm.trans h
    refine wm_aload_n E dM_find_34 rfl (j := 0) rfl ?_
    refine wm_iconst (x := 0) E dM_find_35 (by decide) ?_
    refine wm_pI E fp_M_284 (fun q => by cases q) h dM_find_36 (fun m36 h => ?_)
    refine wm_iconst (x := 0) E dM_find_39 (by decide) ?_
    refine wm_istore_n (lv' := [(3, vI 0), (0, vR v0), (1, vI v1), (2, vI v2)]) E dM_find_40 rfl (by decide) rfl ?_
    refine wm_pick (lv' := [(0, vR v0), (1, vI v1), (2, vI v2), (3, vI 0)]) [1, 2, 3, 0] rfl ?_
    exact w_M_find_41 E hQ hR hI fu v0 v1 v2 0 m36 h
  · have h := (if_neg c29).symm.trans h
    refine wm_iconst (x := 0) E dM_find_32 (by decide) ?_
    exact wm_iret (rt := .int) E hQ (rtI h) (rtM h) (by decide) (by decide) dM_find_33
def B_M_find_17  (v0 : Option Nat) (v1 : Int32) (v2 : Int32) (s0 : Option Nat) (μ : Mem) : Option (Int32 × Mem) := B_M_find_22 v0 v1 v2 s0 1 μ
set_option maxHeartbeats 4000000 in
set_option maxRecDepth 100000 in
theorem w_M_find_17 {X : CX} (E : EV X prog_13_method_52_code 4 "PlaceFinderModel" (some .int)) {μ0 μ' : Mem} {r : Int32} (hQ : RQ X 0 0 μ0 (some (vI r)) μ') (hR : xR X = { frames := 5, cells := 0, slots := 0, locals := 141 }) (hI : X.2.2.2.2.2.2.2.2.2.2.2.1.name = "find")  (v0 : Option Nat) (v1 : Int32) (v2 : Int32) (s0 : Option Nat) (μ : Mem) (h : B_M_find_17  v0 v1 v2 s0 μ = some (r, μ')) : WM X 4 17 [(0, vR v0), (1, vI v1), (2, vI v2)] [vR s0] 0 0 μ := by
  have h : (B_M_find_22 v0 v1 v2 s0 1 μ) = some (r, μ') := h
  refine wm_iconst (x := 1) E dM_find_17 (by decide) ?_
  refine wm_goto (tgt := 22) E dM_find_18 (by decide) ?_
  refine wm_pick (lv' := [(0, vR v0), (1, vI v1), (2, vI v2)]) [0, 1, 2] rfl ?_
  exact w_M_find_22 E hQ hR hI v0 v1 v2 s0 1 μ h
def S_M_find (v0 : Option Nat) (v1 : Int32) (v2 : Int32) (μ : Mem) : Option (Int32 × Mem) := b2 (S_M_isDay v1 μ) (fun x2 m2 => if x2 = 0 then B_M_find_17 v0 v1 v2 v0 m2 else b2 (S_M_in v2 0 3 m2) (fun x11 m11 => if x11 = 0 then B_M_find_17 v0 v1 v2 v0 m11 else B_M_find_22 v0 v1 v2 v0 0 m11))
set_option maxHeartbeats 4000000 in
set_option maxRecDepth 100000 in
theorem C_M_find (l : Launch) (G : GG) (v0 : Option Nat) (v1 : Int32) (v2 : Int32) (μ μ' : Mem) (r : Int32) (h : S_M_find v0 v1 v2 μ = some (r, μ')) : CT l G y_M_find prog_13_method_52_code 4 (some .int) 5 0 0 141 μ [vR v0, vI v1, vI v2] (some (vI r)) μ' := by
  refine wm_met (lv := [(0, vR v0), (1, vI v1), (2, vI v2)]) (by decide +kernel) (Nat.le_of_ble_eq_true rfl) rfl (fun X E hQ hR hI => ?_)
  have h : (b2 (S_M_isDay v1 μ) (fun x2 m2 => if x2 = 0 then B_M_find_17 v0 v1 v2 v0 m2 else b2 (S_M_in v2 0 3 m2) (fun x11 m11 => if x11 = 0 then B_M_find_17 v0 v1 v2 v0 m11 else B_M_find_22 v0 v1 v2 v0 0 m11))) = some (r, μ') := h
  refine wm_aload_n E dM_find_0 rfl (j := 0) rfl ?_
  refine wm_iload_n E dM_find_1 rfl (j := 1) rfl ?_
  obtain ⟨x2, m2, hc2, h⟩ := b2S h
  refine wm_cS (As := [vI v1]) (st := [vR v0]) E lk_M_143 sc_M_isDay (C_M_isDay (xl X) X.1 v1 μ _ _ hc2) rfl rfl (by rw [hR]; decide) (by rw [hR]; decide) (Nat.le_of_ble_eq_true rfl) dM_find_2 ?_
  refine wm_if_eq (tgt := 17) E dM_find_5 (by decide) (fun c5 => ?_) (fun c5 => ?_)
  · have h := (if_pos c5).symm.trans h
    refine wm_pick (lv' := [(0, vR v0), (1, vI v1), (2, vI v2)]) [0, 1, 2] rfl ?_
    exact w_M_find_17 E hQ hR hI v0 v1 v2 v0 m2 h
  · have h := (if_neg c5).symm.trans h
    refine wm_iload_n E dM_find_8 rfl (j := 2) rfl ?_
    refine wm_iconst (x := 0) E dM_find_9 (by decide) ?_
    refine wm_iconst (x := 3) E dM_find_10 (by decide) ?_
    obtain ⟨x11, m11, hc11, h⟩ := b2S h
    refine wm_cS (As := [vI v2, vI 0, vI 3]) (st := [vR v0]) E lk_M_139 sc_M_in (C_M_in (xl X) X.1 v2 0 3 m2 _ _ hc11) rfl rfl (by rw [hR]; decide) (by rw [hR]; decide) (Nat.le_of_ble_eq_true rfl) dM_find_11 ?_
    refine wm_if_ne (tgt := 21) E dM_find_14 (by decide) (fun c14 => ?_) (fun c14 => ?_)
    · have h := (if_neg c14).symm.trans h
      refine wm_iconst (x := 0) E dM_find_21 (by decide) ?_
      refine wm_pick (lv' := [(0, vR v0), (1, vI v1), (2, vI v2)]) [0, 1, 2] rfl ?_
      exact w_M_find_22 E hQ hR hI v0 v1 v2 v0 0 m11 h
    · have h := (if_pos c14).symm.trans h
      refine wm_pick (lv' := [(0, vR v0), (1, vI v1), (2, vI v2)]) [0, 1, 2] rfl ?_
      exact w_M_find_17 E hQ hR hI v0 v1 v2 v0 m11 h
def B_M_near_151  (v0 : Option Nat) (s0 : Option Nat) (s1 : Int32) (μ : Mem) : Option (Int32 × Mem) := b1 (pV μ s0 12 36 (vI s1)) (fun m151 => b1 (gI m151 v0 12 36) (fun x155 => some (x155, m151)))
set_option maxHeartbeats 4000000 in
set_option maxRecDepth 100000 in
theorem w_M_near_151 {X : CX} (E : EV X prog_13_method_53_code 7 "PlaceFinderModel" (some .int)) {μ0 μ' : Mem} {r : Int32} (hQ : RQ X 0 0 μ0 (some (vI r)) μ') (hR : xR X = { frames := 3, cells := 0, slots := 0, locals := 88 }) (hI : X.2.2.2.2.2.2.2.2.2.2.2.1.name = "near")  (v0 : Option Nat) (s0 : Option Nat) (s1 : Int32) (μ : Mem) (h : B_M_near_151  v0 s0 s1 μ = some (r, μ')) : WM X 7 151 [(0, vR v0)] [vI s1, vR s0] 0 0 μ := by
  have h : (b1 (pV μ s0 12 36 (vI s1)) (fun m151 => b1 (gI m151 v0 12 36) (fun x155 => some (x155, m151)))) = some (r, μ') := h
  refine wm_pI E fp_M_284 (fun q => by cases q) h dM_near_151 (fun m151 h => ?_)
  refine wm_aload_n E dM_near_154 rfl (j := 0) rfl ?_
  refine wm_gI E fd_M_284 h dM_near_155 (fun x155 h => ?_)
  exact wm_iret (rt := .int) E hQ (rtI h) (rtM h) (by decide) (by decide) dM_near_158
def B_M_near_128 (k63 : Option Nat → Int32 → Int32 → Int32 → Int32 → Int32 → Int32 → Mem → Option (Int32 × Mem)) (v0 : Option Nat) (v1 : Int32) (v2 : Int32) (v3 : Int32) (v4 : Int32) (v5 : Int32) (v6 : Int32) (μ : Mem) : Option (Int32 × Mem) := k63 v0 v1 v2 v3 v4 v5 (v6 + 1) μ
set_option maxHeartbeats 4000000 in
set_option maxRecDepth 100000 in
theorem w_M_near_128 {X : CX} (E : EV X prog_13_method_53_code 7 "PlaceFinderModel" (some .int)) {μ0 μ' : Mem} {r : Int32} (hQ : RQ X 0 0 μ0 (some (vI r)) μ') (hR : xR X = { frames := 3, cells := 0, slots := 0, locals := 88 }) (hI : X.2.2.2.2.2.2.2.2.2.2.2.1.name = "near") (k63 : Option Nat → Int32 → Int32 → Int32 → Int32 → Int32 → Int32 → Mem → Option (Int32 × Mem)) (hk63 : ∀ (v0 : Option Nat) (v1 : Int32) (v2 : Int32) (v3 : Int32) (v4 : Int32) (v5 : Int32) (v6 : Int32) (μ : Mem), k63 v0 v1 v2 v3 v4 v5 v6 μ = some (r, μ') → WM X 7 63 [(0, vR v0), (1, vI v1), (2, vI v2), (3, vI v3), (4, vI v4), (5, vI v5), (6, vI v6)] [] 0 0 μ) (v0 : Option Nat) (v1 : Int32) (v2 : Int32) (v3 : Int32) (v4 : Int32) (v5 : Int32) (v6 : Int32) (μ : Mem) (h : B_M_near_128 k63 v0 v1 v2 v3 v4 v5 v6 μ = some (r, μ')) : WM X 7 128 [(0, vR v0), (1, vI v1), (2, vI v2), (3, vI v3), (4, vI v4), (5, vI v5), (6, vI v6)] [] 0 0 μ := by
  have h : (k63 v0 v1 v2 v3 v4 v5 (v6 + 1) μ) = some (r, μ') := h
  refine wm_iinc (lv' := [(6, vI (v6 + 1)), (0, vR v0), (1, vI v1), (2, vI v2), (3, vI v3), (4, vI v4), (5, vI v5)]) (d := 1) E dM_near_128 (by decide) (j := 6) rfl (by decide) rfl ?_
  refine wm_goto (tgt := 63) E dM_near_131 (by decide) ?_
  refine wm_pick (lv' := [(0, vR v0), (1, vI v1), (2, vI v2), (3, vI v3), (4, vI v4), (5, vI v5), (6, vI (v6 + 1))]) [1, 2, 3, 4, 5, 6, 0] rfl ?_
  exact hk63 v0 v1 v2 v3 v4 v5 (v6 + 1) μ h
def B_M_near_104 (k63 : Option Nat → Int32 → Int32 → Int32 → Int32 → Int32 → Int32 → Mem → Option (Int32 × Mem)) (v0 : Option Nat) (v1 : Int32) (v2 : Int32) (v3 : Int32) (v4 : Int32) (v5 : Int32) (v6 : Int32) (μ : Mem) : Option (Int32 × Mem) := b1 (gR μ v0 12 51) (fun x105 => b1 (rc μ v0 12) (fun _ => b2 (S_M_square v0 v6 v5 v1 v2 μ) (fun x117 m117 => b1 (sI m117 x105 0 v6 x117) (fun m120 => b1 (rc m120 v0 12) (fun _ => b2 (S_M_insert v0 v6 2 m120) (fun x125 m125 => B_M_near_128 k63 v0 v1 v2 v3 v4 v5 v6 m125))))))
set_option maxHeartbeats 4000000 in
set_option maxRecDepth 100000 in
theorem w_M_near_104 {X : CX} (E : EV X prog_13_method_53_code 7 "PlaceFinderModel" (some .int)) {μ0 μ' : Mem} {r : Int32} (hQ : RQ X 0 0 μ0 (some (vI r)) μ') (hR : xR X = { frames := 3, cells := 0, slots := 0, locals := 88 }) (hI : X.2.2.2.2.2.2.2.2.2.2.2.1.name = "near") (k63 : Option Nat → Int32 → Int32 → Int32 → Int32 → Int32 → Int32 → Mem → Option (Int32 × Mem)) (hk63 : ∀ (v0 : Option Nat) (v1 : Int32) (v2 : Int32) (v3 : Int32) (v4 : Int32) (v5 : Int32) (v6 : Int32) (μ : Mem), k63 v0 v1 v2 v3 v4 v5 v6 μ = some (r, μ') → WM X 7 63 [(0, vR v0), (1, vI v1), (2, vI v2), (3, vI v3), (4, vI v4), (5, vI v5), (6, vI v6)] [] 0 0 μ) (v0 : Option Nat) (v1 : Int32) (v2 : Int32) (v3 : Int32) (v4 : Int32) (v5 : Int32) (v6 : Int32) (μ : Mem) (h : B_M_near_104 k63 v0 v1 v2 v3 v4 v5 v6 μ = some (r, μ')) : WM X 7 104 [(0, vR v0), (1, vI v1), (2, vI v2), (3, vI v3), (4, vI v4), (5, vI v5), (6, vI v6)] [] 0 0 μ := by
  have h : (b1 (gR μ v0 12 51) (fun x105 => b1 (rc μ v0 12) (fun _ => b2 (S_M_square v0 v6 v5 v1 v2 μ) (fun x117 m117 => b1 (sI m117 x105 0 v6 x117) (fun m120 => b1 (rc m120 v0 12) (fun _ => b2 (S_M_insert v0 v6 2 m120) (fun x125 m125 => B_M_near_128 k63 v0 v1 v2 v3 v4 v5 v6 m125))))))) = some (r, μ') := h
  refine wm_aload_n E dM_near_104 rfl (j := 0) rfl ?_
  refine wm_gR E fd_M_119 h dM_near_105 (fun x105 h => ?_)
  refine wm_iload E dM_near_108 (j := 6) rfl ?_
  refine wm_aload_n E dM_near_110 rfl (j := 0) rfl ?_
  refine wm_iload E dM_near_111 (j := 6) rfl ?_
  refine wm_iload E dM_near_113 (j := 5) rfl ?_
  refine wm_iload_n E dM_near_115 rfl (j := 1) rfl ?_
  refine wm_iload_n E dM_near_116 rfl (j := 2) rfl ?_
  obtain ⟨u117, hr117, h⟩ := b1S h
  obtain ⟨x117, m117, hc117, h⟩ := b2S h
  refine wm_cV (ci := 12) (As := [vI v6, vI v5, vI v1, vI v2]) (st := [vI v6, vR x105]) E lk_M_270 rfl im_M_square sl_M_square hr117 (C_M_square (xl X) X.1 v0 v6 v5 v1 v2 μ _ _ hc117) rfl rfl (by rw [hR]; decide) (by rw [hR]; decide) (Nat.le_of_ble_eq_true rfl) dM_near_117 ?_
  refine wm_iast (t := 0) E rfl h dM_near_120 (fun m120 h => ?_)
  refine wm_aload_n E dM_near_121 rfl (j := 0) rfl ?_
  refine wm_iload E dM_near_122 (j := 6) rfl ?_
  refine wm_iconst (x := 2) E dM_near_124 (by decide) ?_
  obtain ⟨u125, hr125, h⟩ := b1S h
  obtain ⟨x125, m125, hc125, h⟩ := b2S h
  refine wm_cV (ci := 12) (As := [vI v6, vI 2]) (st := []) E lk_M_297 rfl im_M_insert sl_M_insert hr125 (C_M_insert (xl X) X.1 v0 v6 2 m120 _ _ hc125) rfl rfl (by rw [hR]; decide) (by rw [hR]; decide) (Nat.le_of_ble_eq_true rfl) dM_near_125 ?_
  refine wm_pick (lv' := [(0, vR v0), (1, vI v1), (2, vI v2), (3, vI v3), (4, vI v4), (5, vI v5), (6, vI v6)]) [0, 1, 2, 3, 4, 5, 6] rfl ?_
  exact w_M_near_128 E hQ hR hI k63 hk63 v0 v1 v2 v3 v4 v5 v6 m125 h
def B_M_near_63  : Nat → Option Nat → Int32 → Int32 → Int32 → Int32 → Int32 → Int32 → Mem → Option (Int32 × Mem)
  | 0, _, _, _, _, _, _, _, _ => none
  | n + 1, v0, v1, v2, v3, v4, v5, v6, μ => b1 (gI μ v0 12 1) (fun x66 => if x66 ≤ v6 then b1 (gI μ v0 12 36) (fun x136 => if v3 ≤ x136 then B_M_near_151 v0 v0 v3 μ else b1 (gI μ v0 12 36) (fun x144 => B_M_near_151 v0 v0 x144 μ)) else b1 (rc μ v0 12) (fun _ => b2 (S_M_isThere v0 v6 v5 μ) (fun x77 m77 => if x77 = 0 then B_M_near_128 (fun v0 v1 v2 v3 v4 v5 v6 μ => B_M_near_63 n v0 v1 v2 v3 v4 v5 v6 μ) v0 v1 v2 v3 v4 v5 v6 m77 else if v4 = ((-1)) then B_M_near_104 (fun v0 v1 v2 v3 v4 v5 v6 μ => B_M_near_63 n v0 v1 v2 v3 v4 v5 v6 μ) v0 v1 v2 v3 v4 v5 v6 m77 else b1 (gR m77 v0 12 2) (fun x90 => b1 (aI m77 x90 0 v6) (fun x95 => if x95 = v4 then B_M_near_104 (fun v0 v1 v2 v3 v4 v5 v6 μ => B_M_near_63 n v0 v1 v2 v3 v4 v5 v6 μ) v0 v1 v2 v3 v4 v5 v6 m77 else B_M_near_128 (fun v0 v1 v2 v3 v4 v5 v6 μ => B_M_near_63 n v0 v1 v2 v3 v4 v5 v6 μ) v0 v1 v2 v3 v4 v5 v6 m77)))))
set_option maxHeartbeats 4000000 in
set_option maxRecDepth 100000 in
theorem w_M_near_63 {X : CX} (E : EV X prog_13_method_53_code 7 "PlaceFinderModel" (some .int)) {μ0 μ' : Mem} {r : Int32} (hQ : RQ X 0 0 μ0 (some (vI r)) μ') (hR : xR X = { frames := 3, cells := 0, slots := 0, locals := 88 }) (hI : X.2.2.2.2.2.2.2.2.2.2.2.1.name = "near")  (n : Nat) : ∀ (v0 : Option Nat) (v1 : Int32) (v2 : Int32) (v3 : Int32) (v4 : Int32) (v5 : Int32) (v6 : Int32) (μ : Mem) (h : B_M_near_63  n v0 v1 v2 v3 v4 v5 v6 μ = some (r, μ')), WM X 7 63 [(0, vR v0), (1, vI v1), (2, vI v2), (3, vI v3), (4, vI v4), (5, vI v5), (6, vI v6)] [] 0 0 μ := by
  induction n with
  | zero => intro v0 v1 v2 v3 v4 v5 v6 μ h; cases h
  | succ n ih =>
    intro v0 v1 v2 v3 v4 v5 v6 μ h
    have h : (b1 (gI μ v0 12 1) (fun x66 => if x66 ≤ v6 then b1 (gI μ v0 12 36) (fun x136 => if v3 ≤ x136 then B_M_near_151 v0 v0 v3 μ else b1 (gI μ v0 12 36) (fun x144 => B_M_near_151 v0 v0 x144 μ)) else b1 (rc μ v0 12) (fun _ => b2 (S_M_isThere v0 v6 v5 μ) (fun x77 m77 => if x77 = 0 then B_M_near_128 (fun v0 v1 v2 v3 v4 v5 v6 μ => B_M_near_63 n v0 v1 v2 v3 v4 v5 v6 μ) v0 v1 v2 v3 v4 v5 v6 m77 else if v4 = ((-1)) then B_M_near_104 (fun v0 v1 v2 v3 v4 v5 v6 μ => B_M_near_63 n v0 v1 v2 v3 v4 v5 v6 μ) v0 v1 v2 v3 v4 v5 v6 m77 else b1 (gR m77 v0 12 2) (fun x90 => b1 (aI m77 x90 0 v6) (fun x95 => if x95 = v4 then B_M_near_104 (fun v0 v1 v2 v3 v4 v5 v6 μ => B_M_near_63 n v0 v1 v2 v3 v4 v5 v6 μ) v0 v1 v2 v3 v4 v5 v6 m77 else B_M_near_128 (fun v0 v1 v2 v3 v4 v5 v6 μ => B_M_near_63 n v0 v1 v2 v3 v4 v5 v6 μ) v0 v1 v2 v3 v4 v5 v6 m77)))))) = some (r, μ') := h
    refine wm_iload E dM_near_63 (j := 6) rfl ?_
    refine wm_aload_n E dM_near_65 rfl (j := 0) rfl ?_
    refine wm_gI E fd_M_136 h dM_near_66 (fun x66 h => ?_)
    refine wm_icmp_ge (tgt := 134) E dM_near_69 (by decide) (fun c69 => ?_) (fun c69 => ?_)
    · have h := (if_pos c69).symm.trans h
      refine wm_aload_n E dM_near_134 rfl (j := 0) rfl ?_
      refine wm_aload_n E dM_near_135 rfl (j := 0) rfl ?_
      refine wm_gI E fd_M_284 h dM_near_136 (fun x136 h => ?_)
      refine wm_iload_n E dM_near_139 rfl (j := 3) rfl ?_
      refine wm_icmp_ge (tgt := 150) E dM_near_140 (by decide) (fun c140 => ?_) (fun c140 => ?_)
      · have h := (if_pos c140).symm.trans h
        refine wm_iload_n E dM_near_150 rfl (j := 3) rfl ?_
        refine wm_pick (lv' := [(0, vR v0)]) [0] rfl ?_
        exact w_M_near_151 E hQ hR hI v0 v0 v3 μ h
      · have h := (if_neg c140).symm.trans h
        refine wm_aload_n E dM_near_143 rfl (j := 0) rfl ?_
        refine wm_gI E fd_M_284 h dM_near_144 (fun x144 h => ?_)
        refine wm_goto (tgt := 151) E dM_near_147 (by decide) ?_
        refine wm_pick (lv' := [(0, vR v0)]) [0] rfl ?_
        exact w_M_near_151 E hQ hR hI v0 v0 x144 μ h
    · have h := (if_neg c69).symm.trans h
      refine wm_aload_n E dM_near_72 rfl (j := 0) rfl ?_
      refine wm_iload E dM_near_73 (j := 6) rfl ?_
      refine wm_iload E dM_near_75 (j := 5) rfl ?_
      obtain ⟨u77, hr77, h⟩ := b1S h
      obtain ⟨x77, m77, hc77, h⟩ := b2S h
      refine wm_cV (ci := 12) (As := [vI v6, vI v5]) (st := []) E lk_M_261 rfl im_M_isThere sl_M_isThere hr77 (C_M_isThere (xl X) X.1 v0 v6 v5 μ _ _ hc77) rfl rfl (by rw [hR]; decide) (by rw [hR]; decide) (Nat.le_of_ble_eq_true rfl) dM_near_77 ?_
      refine wm_if_eq (tgt := 128) E dM_near_80 (by decide) (fun c80 => ?_) (fun c80 => ?_)
      · have h := (if_pos c80).symm.trans h
        refine wm_pick (lv' := [(0, vR v0), (1, vI v1), (2, vI v2), (3, vI v3), (4, vI v4), (5, vI v5), (6, vI v6)]) [0, 1, 2, 3, 4, 5, 6] rfl ?_
        exact w_M_near_128 E hQ hR hI (fun v0 v1 v2 v3 v4 v5 v6 μ => B_M_near_63 n v0 v1 v2 v3 v4 v5 v6 μ) ih v0 v1 v2 v3 v4 v5 v6 m77 h
      · have h := (if_neg c80).symm.trans h
        refine wm_iload E dM_near_83 (j := 4) rfl ?_
        refine wm_iconst (x := -1) E dM_near_85 (by decide) ?_
        refine wm_icmp_eq (tgt := 104) E dM_near_86 (by decide) (fun c86 => ?_) (fun c86 => ?_)
        · have h := (if_pos c86).symm.trans h
          refine wm_pick (lv' := [(0, vR v0), (1, vI v1), (2, vI v2), (3, vI v3), (4, vI v4), (5, vI v5), (6, vI v6)]) [0, 1, 2, 3, 4, 5, 6] rfl ?_
          exact w_M_near_104 E hQ hR hI (fun v0 v1 v2 v3 v4 v5 v6 μ => B_M_near_63 n v0 v1 v2 v3 v4 v5 v6 μ) ih v0 v1 v2 v3 v4 v5 v6 m77 h
        · have h := (if_neg c86).symm.trans h
          refine wm_aload_n E dM_near_89 rfl (j := 0) rfl ?_
          refine wm_gR E fd_M_7 h dM_near_90 (fun x90 h => ?_)
          refine wm_iload E dM_near_93 (j := 6) rfl ?_
          refine wm_iald (t := 0) E rfl h dM_near_95 (fun x95 h => ?_)
          refine wm_iload E dM_near_96 (j := 4) rfl ?_
          refine wm_icmp_eq (tgt := 104) E dM_near_98 (by decide) (fun c98 => ?_) (fun c98 => ?_)
          · have h := (if_pos c98).symm.trans h
            refine wm_pick (lv' := [(0, vR v0), (1, vI v1), (2, vI v2), (3, vI v3), (4, vI v4), (5, vI v5), (6, vI v6)]) [0, 1, 2, 3, 4, 5, 6] rfl ?_
            exact w_M_near_104 E hQ hR hI (fun v0 v1 v2 v3 v4 v5 v6 μ => B_M_near_63 n v0 v1 v2 v3 v4 v5 v6 μ) ih v0 v1 v2 v3 v4 v5 v6 m77 h
          · have h := (if_neg c98).symm.trans h
            refine wm_goto (tgt := 128) E dM_near_101 (by decide) ?_
            refine wm_pick (lv' := [(0, vR v0), (1, vI v1), (2, vI v2), (3, vI v3), (4, vI v4), (5, vI v5), (6, vI v6)]) [0, 1, 2, 3, 4, 5, 6] rfl ?_
            exact w_M_near_128 E hQ hR hI (fun v0 v1 v2 v3 v4 v5 v6 μ => B_M_near_63 n v0 v1 v2 v3 v4 v5 v6 μ) ih v0 v1 v2 v3 v4 v5 v6 m77 h
def B_M_near_43  (v0 : Option Nat) (v1 : Int32) (v2 : Int32) (v3 : Int32) (v4 : Int32) (v5 : Int32) (s0 : Option Nat) (s1 : Int32) (μ : Mem) : Option (Int32 × Mem) := b1 (pV μ s0 12 0 (vI s1)) (fun m43 => b1 (gI m43 v0 12 0) (fun x47 => if x47 ≤ 0 then b1 (pV m43 v0 12 36 (vI 0)) (fun m57 => B_M_near_63 fu v0 v1 v2 v3 v4 v5 0 m57) else some (0, m43)))
set_option maxHeartbeats 4000000 in
set_option maxRecDepth 100000 in
theorem w_M_near_43 {X : CX} (E : EV X prog_13_method_53_code 7 "PlaceFinderModel" (some .int)) {μ0 μ' : Mem} {r : Int32} (hQ : RQ X 0 0 μ0 (some (vI r)) μ') (hR : xR X = { frames := 3, cells := 0, slots := 0, locals := 88 }) (hI : X.2.2.2.2.2.2.2.2.2.2.2.1.name = "near")  (v0 : Option Nat) (v1 : Int32) (v2 : Int32) (v3 : Int32) (v4 : Int32) (v5 : Int32) (s0 : Option Nat) (s1 : Int32) (μ : Mem) (h : B_M_near_43  v0 v1 v2 v3 v4 v5 s0 s1 μ = some (r, μ')) : WM X 7 43 [(0, vR v0), (1, vI v1), (2, vI v2), (3, vI v3), (4, vI v4), (5, vI v5)] [vI s1, vR s0] 0 0 μ := by
  have h : (b1 (pV μ s0 12 0 (vI s1)) (fun m43 => b1 (gI m43 v0 12 0) (fun x47 => if x47 ≤ 0 then b1 (pV m43 v0 12 36 (vI 0)) (fun m57 => B_M_near_63 fu v0 v1 v2 v3 v4 v5 0 m57) else some (0, m43)))) = some (r, μ') := h
  refine wm_pI E fp_M_132 (fun q => by cases q) h dM_near_43 (fun m43 h => ?_)
  refine wm_aload_n E dM_near_46 rfl (j := 0) rfl ?_
  refine wm_gI E fd_M_132 h dM_near_47 (fun x47 h => ?_)
  refine wm_if_le (tgt := 55) E dM_near_50 (by decide) (fun c50 => ?_) (fun c50 => ?_)
  · have h := (if_pos c50).symm.trans h
    refine wm_aload_n E dM_near_55 rfl (j := 0) rfl ?_
    refine wm_iconst (x := 0) E dM_near_56 (by decide) ?_
    refine wm_pI E fp_M_284 (fun q => by cases q) h dM_near_57 (fun m57 h => ?_)
    refine wm_iconst (x := 0) E dM_near_60 (by decide) ?_
    refine wm_istore (lv' := [(6, vI 0), (0, vR v0), (1, vI v1), (2, vI v2), (3, vI v3), (4, vI v4), (5, vI v5)]) E dM_near_61 (by decide) rfl ?_
    refine wm_pick (lv' := [(0, vR v0), (1, vI v1), (2, vI v2), (3, vI v3), (4, vI v4), (5, vI v5), (6, vI 0)]) [1, 2, 3, 4, 5, 6, 0] rfl ?_
    exact w_M_near_63 E hQ hR hI fu v0 v1 v2 v3 v4 v5 0 m57 h
  · have h := (if_neg c50).symm.trans h
    refine wm_iconst (x := 0) E dM_near_53 (by decide) ?_
    exact wm_iret (rt := .int) E hQ (rtI h) (rtM h) (by decide) (by decide) dM_near_54
def B_M_near_38  (v0 : Option Nat) (v1 : Int32) (v2 : Int32) (v3 : Int32) (v4 : Int32) (v5 : Int32) (s0 : Option Nat) (μ : Mem) : Option (Int32 × Mem) := B_M_near_43 v0 v1 v2 v3 v4 v5 s0 1 μ
set_option maxHeartbeats 4000000 in
set_option maxRecDepth 100000 in
theorem w_M_near_38 {X : CX} (E : EV X prog_13_method_53_code 7 "PlaceFinderModel" (some .int)) {μ0 μ' : Mem} {r : Int32} (hQ : RQ X 0 0 μ0 (some (vI r)) μ') (hR : xR X = { frames := 3, cells := 0, slots := 0, locals := 88 }) (hI : X.2.2.2.2.2.2.2.2.2.2.2.1.name = "near")  (v0 : Option Nat) (v1 : Int32) (v2 : Int32) (v3 : Int32) (v4 : Int32) (v5 : Int32) (s0 : Option Nat) (μ : Mem) (h : B_M_near_38  v0 v1 v2 v3 v4 v5 s0 μ = some (r, μ')) : WM X 7 38 [(0, vR v0), (1, vI v1), (2, vI v2), (3, vI v3), (4, vI v4), (5, vI v5)] [vR s0] 0 0 μ := by
  have h : (B_M_near_43 v0 v1 v2 v3 v4 v5 s0 1 μ) = some (r, μ') := h
  refine wm_iconst (x := 1) E dM_near_38 (by decide) ?_
  refine wm_goto (tgt := 43) E dM_near_39 (by decide) ?_
  refine wm_pick (lv' := [(0, vR v0), (1, vI v1), (2, vI v2), (3, vI v3), (4, vI v4), (5, vI v5)]) [0, 1, 2, 3, 4, 5] rfl ?_
  exact w_M_near_43 E hQ hR hI v0 v1 v2 v3 v4 v5 s0 1 μ h
def S_M_near (v0 : Option Nat) (v1 : Int32) (v2 : Int32) (v3 : Int32) (v4 : Int32) (v5 : Int32) (μ : Mem) : Option (Int32 × Mem) := b2 (S_M_isAt v1 v2 μ) (fun x3 m3 => if x3 = 0 then B_M_near_38 v0 v1 v2 v3 v4 v5 v0 m3 else b2 (S_M_in v3 1 30 m3) (fun x13 m13 => if x13 = 0 then B_M_near_38 v0 v1 v2 v3 v4 v5 v0 m13 else b2 (S_M_in v4 ((-1)) 7 m13) (fun x24 m24 => if x24 = 0 then B_M_near_38 v0 v1 v2 v3 v4 v5 v0 m24 else b2 (S_M_isDay v5 m24) (fun x32 m32 => if x32 = 0 then B_M_near_38 v0 v1 v2 v3 v4 v5 v0 m32 else B_M_near_43 v0 v1 v2 v3 v4 v5 v0 0 m32))))
set_option maxHeartbeats 4000000 in
set_option maxRecDepth 100000 in
theorem C_M_near (l : Launch) (G : GG) (v0 : Option Nat) (v1 : Int32) (v2 : Int32) (v3 : Int32) (v4 : Int32) (v5 : Int32) (μ μ' : Mem) (r : Int32) (h : S_M_near v0 v1 v2 v3 v4 v5 μ = some (r, μ')) : CT l G y_M_near prog_13_method_53_code 7 (some .int) 3 0 0 88 μ [vR v0, vI v1, vI v2, vI v3, vI v4, vI v5] (some (vI r)) μ' := by
  refine wm_met (lv := [(0, vR v0), (1, vI v1), (2, vI v2), (3, vI v3), (4, vI v4), (5, vI v5)]) (by decide +kernel) (Nat.le_of_ble_eq_true rfl) rfl (fun X E hQ hR hI => ?_)
  have h : (b2 (S_M_isAt v1 v2 μ) (fun x3 m3 => if x3 = 0 then B_M_near_38 v0 v1 v2 v3 v4 v5 v0 m3 else b2 (S_M_in v3 1 30 m3) (fun x13 m13 => if x13 = 0 then B_M_near_38 v0 v1 v2 v3 v4 v5 v0 m13 else b2 (S_M_in v4 ((-1)) 7 m13) (fun x24 m24 => if x24 = 0 then B_M_near_38 v0 v1 v2 v3 v4 v5 v0 m24 else b2 (S_M_isDay v5 m24) (fun x32 m32 => if x32 = 0 then B_M_near_38 v0 v1 v2 v3 v4 v5 v0 m32 else B_M_near_43 v0 v1 v2 v3 v4 v5 v0 0 m32))))) = some (r, μ') := h
  refine wm_aload_n E dM_near_0 rfl (j := 0) rfl ?_
  refine wm_iload_n E dM_near_1 rfl (j := 1) rfl ?_
  refine wm_iload_n E dM_near_2 rfl (j := 2) rfl ?_
  obtain ⟨x3, m3, hc3, h⟩ := b2S h
  refine wm_cS (As := [vI v1, vI v2]) (st := [vR v0]) E lk_M_147 sc_M_isAt (C_M_isAt (xl X) X.1 v1 v2 μ _ _ hc3) rfl rfl (by rw [hR]; decide) (by rw [hR]; decide) (Nat.le_of_ble_eq_true rfl) dM_near_3 ?_
  refine wm_if_eq (tgt := 38) E dM_near_6 (by decide) (fun c6 => ?_) (fun c6 => ?_)
  · have h := (if_pos c6).symm.trans h
    refine wm_pick (lv' := [(0, vR v0), (1, vI v1), (2, vI v2), (3, vI v3), (4, vI v4), (5, vI v5)]) [0, 1, 2, 3, 4, 5] rfl ?_
    exact w_M_near_38 E hQ hR hI v0 v1 v2 v3 v4 v5 v0 m3 h
  · have h := (if_neg c6).symm.trans h
    refine wm_iload_n E dM_near_9 rfl (j := 3) rfl ?_
    refine wm_iconst (x := 1) E dM_near_10 (by decide) ?_
    refine wm_bipush (x := 30) E dM_near_11 (by decide) ?_
    obtain ⟨x13, m13, hc13, h⟩ := b2S h
    refine wm_cS (As := [vI v3, vI 1, vI 30]) (st := [vR v0]) E lk_M_139 sc_M_in (C_M_in (xl X) X.1 v3 1 30 m3 _ _ hc13) rfl rfl (by rw [hR]; decide) (by rw [hR]; decide) (Nat.le_of_ble_eq_true rfl) dM_near_13 ?_
    refine wm_if_eq (tgt := 38) E dM_near_16 (by decide) (fun c16 => ?_) (fun c16 => ?_)
    · have h := (if_pos c16).symm.trans h
      refine wm_pick (lv' := [(0, vR v0), (1, vI v1), (2, vI v2), (3, vI v3), (4, vI v4), (5, vI v5)]) [0, 1, 2, 3, 4, 5] rfl ?_
      exact w_M_near_38 E hQ hR hI v0 v1 v2 v3 v4 v5 v0 m13 h
    · have h := (if_neg c16).symm.trans h
      refine wm_iload E dM_near_19 (j := 4) rfl ?_
      refine wm_iconst (x := -1) E dM_near_21 (by decide) ?_
      refine wm_bipush (x := 7) E dM_near_22 (by decide) ?_
      obtain ⟨x24, m24, hc24, h⟩ := b2S h
      refine wm_cS (As := [vI v4, vI ((-1)), vI 7]) (st := [vR v0]) E lk_M_139 sc_M_in (C_M_in (xl X) X.1 v4 ((-1)) 7 m13 _ _ hc24) rfl rfl (by rw [hR]; decide) (by rw [hR]; decide) (Nat.le_of_ble_eq_true rfl) dM_near_24 ?_
      refine wm_if_eq (tgt := 38) E dM_near_27 (by decide) (fun c27 => ?_) (fun c27 => ?_)
      · have h := (if_pos c27).symm.trans h
        refine wm_pick (lv' := [(0, vR v0), (1, vI v1), (2, vI v2), (3, vI v3), (4, vI v4), (5, vI v5)]) [0, 1, 2, 3, 4, 5] rfl ?_
        exact w_M_near_38 E hQ hR hI v0 v1 v2 v3 v4 v5 v0 m24 h
      · have h := (if_neg c27).symm.trans h
        refine wm_iload E dM_near_30 (j := 5) rfl ?_
        obtain ⟨x32, m32, hc32, h⟩ := b2S h
        refine wm_cS (As := [vI v5]) (st := [vR v0]) E lk_M_143 sc_M_isDay (C_M_isDay (xl X) X.1 v5 m24 _ _ hc32) rfl rfl (by rw [hR]; decide) (by rw [hR]; decide) (Nat.le_of_ble_eq_true rfl) dM_near_32 ?_
        refine wm_if_ne (tgt := 42) E dM_near_35 (by decide) (fun c35 => ?_) (fun c35 => ?_)
        · have h := (if_neg c35).symm.trans h
          refine wm_iconst (x := 0) E dM_near_42 (by decide) ?_
          refine wm_pick (lv' := [(0, vR v0), (1, vI v1), (2, vI v2), (3, vI v3), (4, vI v4), (5, vI v5)]) [0, 1, 2, 3, 4, 5] rfl ?_
          exact w_M_near_43 E hQ hR hI v0 v1 v2 v3 v4 v5 v0 0 m32 h
        · have h := (if_pos c35).symm.trans h
          refine wm_pick (lv' := [(0, vR v0), (1, vI v1), (2, vI v2), (3, vI v3), (4, vI v4), (5, vI v5)]) [0, 1, 2, 3, 4, 5] rfl ?_
          exact w_M_near_38 E hQ hR hI v0 v1 v2 v3 v4 v5 v0 m32 h
def B_M_hit_40  (s0 : Int32) (μ : Mem) : Option (Int32 × Mem) := some (s0, μ)
set_option maxHeartbeats 4000000 in
set_option maxRecDepth 100000 in
theorem w_M_hit_40 {X : CX} (E : EV X prog_13_method_54_code 2 "PlaceFinderModel" (some .int)) {μ0 μ' : Mem} {r : Int32} (hQ : RQ X 0 0 μ0 (some (vI r)) μ') (hR : xR X = { frames := 1, cells := 0, slots := 0, locals := 22 }) (hI : X.2.2.2.2.2.2.2.2.2.2.2.1.name = "hit")  (s0 : Int32) (μ : Mem) (h : B_M_hit_40  s0 μ = some (r, μ')) : WM X 2 40 [] [vI s0] 0 0 μ := by
  have h : (some (s0, μ)) = some (r, μ') := h
  exact wm_iret (rt := .int) E hQ (rtI h) (rtM h) (by decide) (by decide) dM_hit_40
def B_M_hit_20  (v0 : Option Nat) (v1 : Int32) (s0 : Option Nat) (s1 : Int32) (μ : Mem) : Option (Int32 × Mem) := b1 (pV μ s0 12 0 (vI s1)) (fun m20 => b1 (gI m20 v0 12 0) (fun x24 => if x24 ≤ 0 then b1 (gR m20 v0 12 37) (fun x35 => b1 (aI m20 x35 0 v1) (fun x39 => B_M_hit_40 x39 m20)) else B_M_hit_40 0 m20))
set_option maxHeartbeats 4000000 in
set_option maxRecDepth 100000 in
theorem w_M_hit_20 {X : CX} (E : EV X prog_13_method_54_code 2 "PlaceFinderModel" (some .int)) {μ0 μ' : Mem} {r : Int32} (hQ : RQ X 0 0 μ0 (some (vI r)) μ') (hR : xR X = { frames := 1, cells := 0, slots := 0, locals := 22 }) (hI : X.2.2.2.2.2.2.2.2.2.2.2.1.name = "hit")  (v0 : Option Nat) (v1 : Int32) (s0 : Option Nat) (s1 : Int32) (μ : Mem) (h : B_M_hit_20  v0 v1 s0 s1 μ = some (r, μ')) : WM X 2 20 [(0, vR v0), (1, vI v1)] [vI s1, vR s0] 0 0 μ := by
  have h : (b1 (pV μ s0 12 0 (vI s1)) (fun m20 => b1 (gI m20 v0 12 0) (fun x24 => if x24 ≤ 0 then b1 (gR m20 v0 12 37) (fun x35 => b1 (aI m20 x35 0 v1) (fun x39 => B_M_hit_40 x39 m20)) else B_M_hit_40 0 m20))) = some (r, μ') := h
  refine wm_pI E fp_M_132 (fun q => by cases q) h dM_hit_20 (fun m20 h => ?_)
  refine wm_aload_n E dM_hit_23 rfl (j := 0) rfl ?_
  refine wm_gI E fd_M_132 h dM_hit_24 (fun x24 h => ?_)
  refine wm_if_le (tgt := 34) E dM_hit_27 (by decide) (fun c27 => ?_) (fun c27 => ?_)
  · have h := (if_pos c27).symm.trans h
    refine wm_aload_n E dM_hit_34 rfl (j := 0) rfl ?_
    refine wm_gR E fd_M_107 h dM_hit_35 (fun x35 h => ?_)
    refine wm_iload_n E dM_hit_38 rfl (j := 1) rfl ?_
    refine wm_iald (t := 0) E rfl h dM_hit_39 (fun x39 h => ?_)
    refine wm_pick (lv' := []) [] rfl ?_
    exact w_M_hit_40 E hQ hR hI x39 m20 h
  · have h := (if_neg c27).symm.trans h
    refine wm_iconst (x := 0) E dM_hit_30 (by decide) ?_
    refine wm_goto (tgt := 40) E dM_hit_31 (by decide) ?_
    refine wm_pick (lv' := []) [] rfl ?_
    exact w_M_hit_40 E hQ hR hI 0 m20 h
def S_M_hit (v0 : Option Nat) (v1 : Int32) (μ : Mem) : Option (Int32 × Mem) := b1 (gI μ v0 12 36) (fun x4 => b2 (S_M_in v1 0 (x4 - 1) μ) (fun x9 m9 => if x9 = 0 then B_M_hit_20 v0 v1 v0 1 m9 else B_M_hit_20 v0 v1 v0 0 m9))
set_option maxHeartbeats 4000000 in
set_option maxRecDepth 100000 in
theorem C_M_hit (l : Launch) (G : GG) (v0 : Option Nat) (v1 : Int32) (μ μ' : Mem) (r : Int32) (h : S_M_hit v0 v1 μ = some (r, μ')) : CT l G y_M_hit prog_13_method_54_code 2 (some .int) 1 0 0 22 μ [vR v0, vI v1] (some (vI r)) μ' := by
  refine wm_met (lv := [(0, vR v0), (1, vI v1)]) (by decide +kernel) (Nat.le_of_ble_eq_true rfl) rfl (fun X E hQ hR hI => ?_)
  have h : (b1 (gI μ v0 12 36) (fun x4 => b2 (S_M_in v1 0 (x4 - 1) μ) (fun x9 m9 => if x9 = 0 then B_M_hit_20 v0 v1 v0 1 m9 else B_M_hit_20 v0 v1 v0 0 m9))) = some (r, μ') := h
  refine wm_aload_n E dM_hit_0 rfl (j := 0) rfl ?_
  refine wm_iload_n E dM_hit_1 rfl (j := 1) rfl ?_
  refine wm_iconst (x := 0) E dM_hit_2 (by decide) ?_
  refine wm_aload_n E dM_hit_3 rfl (j := 0) rfl ?_
  refine wm_gI E fd_M_284 h dM_hit_4 (fun x4 h => ?_)
  refine wm_iconst (x := 1) E dM_hit_7 (by decide) ?_
  refine wm_isub E dM_hit_8 ?_
  obtain ⟨x9, m9, hc9, h⟩ := b2S h
  refine wm_cS (As := [vI v1, vI 0, vI (x4 - 1)]) (st := [vR v0]) E lk_M_139 sc_M_in (C_M_in (xl X) X.1 v1 0 (x4 - 1) μ _ _ hc9) rfl rfl (by rw [hR]; decide) (by rw [hR]; decide) (Nat.le_of_ble_eq_true rfl) dM_hit_9 ?_
  refine wm_if_eq (tgt := 19) E dM_hit_12 (by decide) (fun c12 => ?_) (fun c12 => ?_)
  · have h := (if_pos c12).symm.trans h
    refine wm_iconst (x := 1) E dM_hit_19 (by decide) ?_
    refine wm_pick (lv' := [(0, vR v0), (1, vI v1)]) [0, 1] rfl ?_
    exact w_M_hit_20 E hQ hR hI v0 v1 v0 1 m9 h
  · have h := (if_neg c12).symm.trans h
    refine wm_iconst (x := 0) E dM_hit_15 (by decide) ?_
    refine wm_goto (tgt := 20) E dM_hit_16 (by decide) ?_
    refine wm_pick (lv' := [(0, vR v0), (1, vI v1)]) [0, 1] rfl ?_
    exact w_M_hit_20 E hQ hR hI v0 v1 v0 0 m9 h
def B_M_watch_204  : Nat → Option Nat → Int32 → Int32 → Int32 → Mem → Option (Unit × Mem)
  | 0, _, _, _, _, _ => none
  | n + 1, v0, v2, v3, v4, μ => if 8 ≤ v4 then b1 (gR μ v0 12 33) (fun x256 => b1 (sI μ x256 0 v3 v2) (fun m261 => b1 (gR m261 v0 12 34) (fun x263 => b1 (sI m261 x263 3 v3 (vp_nar .boolean 1)) (fun m268 => b1 (gR m268 v0 12 35) (fun x270 => b1 (sI m268 x270 0 v3 0) (fun m275 => some ((), m275))))))) else b1 (gR μ v0 12 31) (fun x212 => b1 (gR μ v0 12 31) (fun x223 => b1 (aI μ x223 0 v4) (fun x228 => b1 (sI μ x212 0 ((8 * v3) + v4) x228) (fun m229 => b1 (gR m229 v0 12 32) (fun x231 => b1 (gR m229 v0 12 32) (fun x242 => b1 (aI m229 x242 0 v4) (fun x247 => b1 (sI m229 x231 0 ((8 * v3) + v4) x247) (fun m248 => (fun v0 v2 v3 v4 μ => B_M_watch_204 n v0 v2 v3 v4 μ) v0 v2 v3 (v4 + 1) m248))))))))
set_option maxHeartbeats 4000000 in
set_option maxRecDepth 100000 in
theorem w_M_watch_204 {X : CX} (E : EV X prog_13_method_55_code 7 "PlaceFinderModel" none) {μ0 μ' : Mem} {r : Unit} (hQ : RQ X 0 0 μ0 none μ') (hR : xR X = { frames := 2, cells := 0, slots := 0, locals := 42 }) (hI : X.2.2.2.2.2.2.2.2.2.2.2.1.name = "watch")  (n : Nat) : ∀ (v0 : Option Nat) (v2 : Int32) (v3 : Int32) (v4 : Int32) (μ : Mem) (h : B_M_watch_204  n v0 v2 v3 v4 μ = some (r, μ')), WM X 7 204 [(0, vR v0), (2, vI v2), (3, vI v3), (4, vI v4)] [] 0 0 μ := by
  induction n with
  | zero => intro v0 v2 v3 v4 μ h; cases h
  | succ n ih =>
    intro v0 v2 v3 v4 μ h
    have h : (if 8 ≤ v4 then b1 (gR μ v0 12 33) (fun x256 => b1 (sI μ x256 0 v3 v2) (fun m261 => b1 (gR m261 v0 12 34) (fun x263 => b1 (sI m261 x263 3 v3 (vp_nar .boolean 1)) (fun m268 => b1 (gR m268 v0 12 35) (fun x270 => b1 (sI m268 x270 0 v3 0) (fun m275 => some ((), m275))))))) else b1 (gR μ v0 12 31) (fun x212 => b1 (gR μ v0 12 31) (fun x223 => b1 (aI μ x223 0 v4) (fun x228 => b1 (sI μ x212 0 ((8 * v3) + v4) x228) (fun m229 => b1 (gR m229 v0 12 32) (fun x231 => b1 (gR m229 v0 12 32) (fun x242 => b1 (aI m229 x242 0 v4) (fun x247 => b1 (sI m229 x231 0 ((8 * v3) + v4) x247) (fun m248 => (fun v0 v2 v3 v4 μ => B_M_watch_204 n v0 v2 v3 v4 μ) v0 v2 v3 (v4 + 1) m248))))))))) = some (r, μ') := h
    refine wm_iload E dM_watch_204 (j := 3) rfl ?_
    refine wm_bipush (x := 8) E dM_watch_206 (by decide) ?_
    refine wm_icmp_ge (tgt := 255) E dM_watch_208 (by decide) (fun c208 => ?_) (fun c208 => ?_)
    · have h := (if_pos c208).symm.trans h
      refine wm_aload_n E dM_watch_255 rfl (j := 0) rfl ?_
      refine wm_gR E fd_M_97 h dM_watch_256 (fun x256 h => ?_)
      refine wm_iload_n E dM_watch_259 rfl (j := 2) rfl ?_
      refine wm_iload_n E dM_watch_260 rfl (j := 1) rfl ?_
      refine wm_iast (t := 0) E rfl h dM_watch_261 (fun m261 h => ?_)
      refine wm_aload_n E dM_watch_262 rfl (j := 0) rfl ?_
      refine wm_gR E fd_M_100 h dM_watch_263 (fun x263 h => ?_)
      refine wm_iload_n E dM_watch_266 rfl (j := 2) rfl ?_
      refine wm_iconst (x := 1) E dM_watch_267 (by decide) ?_
      refine wm_zast (t := 3) E rfl h dM_watch_268 (fun m268 h => ?_)
      refine wm_aload_n E dM_watch_269 rfl (j := 0) rfl ?_
      refine wm_gR E fd_M_104 h dM_watch_270 (fun x270 h => ?_)
      refine wm_iload_n E dM_watch_273 rfl (j := 2) rfl ?_
      refine wm_iconst (x := 0) E dM_watch_274 (by decide) ?_
      refine wm_iast (t := 0) E rfl h dM_watch_275 (fun m275 h => ?_)
      exact wm_vret E hQ rfl (rtM h) (by decide) (by decide) dM_watch_276
    · have h := (if_neg c208).symm.trans h
      refine wm_aload_n E dM_watch_211 rfl (j := 0) rfl ?_
      refine wm_gR E fd_M_91 h dM_watch_212 (fun x212 h => ?_)
      refine wm_bipush (x := 8) E dM_watch_215 (by decide) ?_
      refine wm_iload_n E dM_watch_217 rfl (j := 2) rfl ?_
      refine wm_imul E dM_watch_218 ?_
      refine wm_iload E dM_watch_219 (j := 3) rfl ?_
      refine wm_iadd E dM_watch_221 ?_
      refine wm_aload_n E dM_watch_222 rfl (j := 0) rfl ?_
      refine wm_gR E fd_M_91 h dM_watch_223 (fun x223 h => ?_)
      refine wm_iload E dM_watch_226 (j := 3) rfl ?_
      refine wm_iald (t := 0) E rfl h dM_watch_228 (fun x228 h => ?_)
      refine wm_iast (t := 0) E rfl h dM_watch_229 (fun m229 h => ?_)
      refine wm_aload_n E dM_watch_230 rfl (j := 0) rfl ?_
      refine wm_gR E fd_M_94 h dM_watch_231 (fun x231 h => ?_)
      refine wm_bipush (x := 8) E dM_watch_234 (by decide) ?_
      refine wm_iload_n E dM_watch_236 rfl (j := 2) rfl ?_
      refine wm_imul E dM_watch_237 ?_
      refine wm_iload E dM_watch_238 (j := 3) rfl ?_
      refine wm_iadd E dM_watch_240 ?_
      refine wm_aload_n E dM_watch_241 rfl (j := 0) rfl ?_
      refine wm_gR E fd_M_94 h dM_watch_242 (fun x242 h => ?_)
      refine wm_iload E dM_watch_245 (j := 3) rfl ?_
      refine wm_iald (t := 0) E rfl h dM_watch_247 (fun x247 h => ?_)
      refine wm_iast (t := 0) E rfl h dM_watch_248 (fun m248 h => ?_)
      refine wm_iinc (lv' := [(4, vI (v4 + 1)), (0, vR v0), (2, vI v2), (3, vI v3)]) (d := 1) E dM_watch_249 (by decide) (j := 3) rfl (by decide) rfl ?_
      refine wm_goto (tgt := 204) E dM_watch_252 (by decide) ?_
      refine wm_pick (lv' := [(0, vR v0), (2, vI v2), (3, vI v3), (4, vI (v4 + 1))]) [1, 2, 3, 0] rfl ?_
      exact ih v0 v2 v3 (v4 + 1) m248 h
def B_M_watch_144 (k52 : Option Nat → Int32 → Int32 → Int32 → Mem → Option (Unit × Mem)) : Nat → Option Nat → Int32 → Int32 → Int32 → Int32 → Int32 → Mem → Option (Unit × Mem)
  | 0, _, _, _, _, _, _, _ => none
  | n + 1, v0, v2, v3, v4, v5, v6, μ => if 10 ≤ v6 then k52 v0 v2 v3 (v4 + 1) μ else b1 (gR μ v0 12 29) (fun x152 => b1 (gR μ v0 12 29) (fun x164 => b1 (aI μ x164 0 ((10 * v4) + v6)) (fun x175 => b1 (sI μ x152 0 ((10 * v5) + v6) x175) (fun m176 => (fun v0 v2 v3 v4 v5 v6 μ => B_M_watch_144 k52 n v0 v2 v3 v4 v5 v6 μ) v0 v2 v3 v4 v5 (v6 + 1) m176))))
set_option maxHeartbeats 4000000 in
set_option maxRecDepth 100000 in
theorem w_M_watch_144 {X : CX} (E : EV X prog_13_method_55_code 7 "PlaceFinderModel" none) {μ0 μ' : Mem} {r : Unit} (hQ : RQ X 0 0 μ0 none μ') (hR : xR X = { frames := 2, cells := 0, slots := 0, locals := 42 }) (hI : X.2.2.2.2.2.2.2.2.2.2.2.1.name = "watch") (k52 : Option Nat → Int32 → Int32 → Int32 → Mem → Option (Unit × Mem)) (hk52 : ∀ (v0 : Option Nat) (v2 : Int32) (v3 : Int32) (v4 : Int32) (μ : Mem), k52 v0 v2 v3 v4 μ = some (r, μ') → WM X 7 52 [(0, vR v0), (2, vI v2), (3, vI v3), (4, vI v4)] [] 0 0 μ) (n : Nat) : ∀ (v0 : Option Nat) (v2 : Int32) (v3 : Int32) (v4 : Int32) (v5 : Int32) (v6 : Int32) (μ : Mem) (h : B_M_watch_144 k52 n v0 v2 v3 v4 v5 v6 μ = some (r, μ')), WM X 7 144 [(0, vR v0), (2, vI v2), (3, vI v3), (4, vI v4), (5, vI v5), (6, vI v6)] [] 0 0 μ := by
  induction n with
  | zero => intro v0 v2 v3 v4 v5 v6 μ h; cases h
  | succ n ih =>
    intro v0 v2 v3 v4 v5 v6 μ h
    have h : (if 10 ≤ v6 then k52 v0 v2 v3 (v4 + 1) μ else b1 (gR μ v0 12 29) (fun x152 => b1 (gR μ v0 12 29) (fun x164 => b1 (aI μ x164 0 ((10 * v4) + v6)) (fun x175 => b1 (sI μ x152 0 ((10 * v5) + v6) x175) (fun m176 => (fun v0 v2 v3 v4 v5 v6 μ => B_M_watch_144 k52 n v0 v2 v3 v4 v5 v6 μ) v0 v2 v3 v4 v5 (v6 + 1) m176))))) = some (r, μ') := h
    refine wm_iload E dM_watch_144 (j := 5) rfl ?_
    refine wm_bipush (x := 10) E dM_watch_146 (by decide) ?_
    refine wm_icmp_ge (tgt := 183) E dM_watch_148 (by decide) (fun c148 => ?_) (fun c148 => ?_)
    · have h := (if_pos c148).symm.trans h
      refine wm_iinc (lv' := [(4, vI (v4 + 1)), (0, vR v0), (2, vI v2), (3, vI v3), (5, vI v5), (6, vI v6)]) (d := 1) E dM_watch_183 (by decide) (j := 3) rfl (by decide) rfl ?_
      refine wm_goto (tgt := 52) E dM_watch_186 (by decide) ?_
      refine wm_pick (lv' := [(0, vR v0), (2, vI v2), (3, vI v3), (4, vI (v4 + 1))]) [1, 2, 3, 0] rfl ?_
      exact hk52 v0 v2 v3 (v4 + 1) μ h
    · have h := (if_neg c148).symm.trans h
      refine wm_aload_n E dM_watch_151 rfl (j := 0) rfl ?_
      refine wm_gR E fd_M_85 h dM_watch_152 (fun x152 h => ?_)
      refine wm_bipush (x := 10) E dM_watch_155 (by decide) ?_
      refine wm_iload E dM_watch_157 (j := 4) rfl ?_
      refine wm_imul E dM_watch_159 ?_
      refine wm_iload E dM_watch_160 (j := 5) rfl ?_
      refine wm_iadd E dM_watch_162 ?_
      refine wm_aload_n E dM_watch_163 rfl (j := 0) rfl ?_
      refine wm_gR E fd_M_85 h dM_watch_164 (fun x164 h => ?_)
      refine wm_bipush (x := 10) E dM_watch_167 (by decide) ?_
      refine wm_iload E dM_watch_169 (j := 3) rfl ?_
      refine wm_imul E dM_watch_171 ?_
      refine wm_iload E dM_watch_172 (j := 5) rfl ?_
      refine wm_iadd E dM_watch_174 ?_
      refine wm_iald (t := 0) E rfl h dM_watch_175 (fun x175 h => ?_)
      refine wm_iast (t := 0) E rfl h dM_watch_176 (fun m176 h => ?_)
      refine wm_iinc (lv' := [(6, vI (v6 + 1)), (0, vR v0), (2, vI v2), (3, vI v3), (4, vI v4), (5, vI v5)]) (d := 1) E dM_watch_177 (by decide) (j := 5) rfl (by decide) rfl ?_
      refine wm_goto (tgt := 144) E dM_watch_180 (by decide) ?_
      refine wm_pick (lv' := [(0, vR v0), (2, vI v2), (3, vI v3), (4, vI v4), (5, vI v5), (6, vI (v6 + 1))]) [1, 2, 3, 4, 5, 0] rfl ?_
      exact ih v0 v2 v3 v4 v5 (v6 + 1) m176 h
def B_M_watch_52  : Nat → Option Nat → Int32 → Int32 → Int32 → Mem → Option (Unit × Mem)
  | 0, _, _, _, _, _ => none
  | n + 1, v0, v2, v3, v4, μ => b1 (gR μ v0 12 23) (fun x55 => b1 (aI μ x55 0 0) (fun x59 => if x59 ≤ v4 then b1 (gR μ v0 12 30) (fun x190 => b1 (gR μ v0 12 30) (fun x195 => b1 (aI μ x195 0 0) (fun x199 => b1 (sI μ x190 0 v3 x199) (fun m200 => B_M_watch_204 fu v0 v2 v3 0 m200)))) else b0 ((5 * v3) + v4) (fun x69 => b1 (gR μ v0 12 24) (fun x72 => b1 (gR μ v0 12 24) (fun x78 => b1 (aI μ x78 0 v4) (fun x83 => b1 (sI μ x72 0 x69 x83) (fun m84 => b1 (gR m84 v0 12 25) (fun x86 => b1 (gR m84 v0 12 25) (fun x92 => b1 (aI m84 x92 0 v4) (fun x97 => b1 (sI m84 x86 0 x69 x97) (fun m98 => b1 (gR m98 v0 12 26) (fun x100 => b1 (gR m98 v0 12 26) (fun x106 => b1 (aI m98 x106 0 v4) (fun x111 => b1 (sI m98 x100 0 x69 x111) (fun m112 => b1 (gR m112 v0 12 27) (fun x114 => b1 (gR m112 v0 12 27) (fun x120 => b1 (aI m112 x120 0 v4) (fun x125 => b1 (sI m112 x114 0 x69 x125) (fun m126 => b1 (gR m126 v0 12 28) (fun x128 => b1 (gR m126 v0 12 28) (fun x134 => b1 (aI m126 x134 0 v4) (fun x139 => b1 (sI m126 x128 0 x69 x139) (fun m140 => B_M_watch_144 (fun v0 v2 v3 v4 μ => B_M_watch_52 n v0 v2 v3 v4 μ) fu v0 v2 v3 v4 x69 0 m140)))))))))))))))))))))))
set_option maxHeartbeats 4000000 in
set_option maxRecDepth 100000 in
theorem w_M_watch_52 {X : CX} (E : EV X prog_13_method_55_code 7 "PlaceFinderModel" none) {μ0 μ' : Mem} {r : Unit} (hQ : RQ X 0 0 μ0 none μ') (hR : xR X = { frames := 2, cells := 0, slots := 0, locals := 42 }) (hI : X.2.2.2.2.2.2.2.2.2.2.2.1.name = "watch")  (n : Nat) : ∀ (v0 : Option Nat) (v2 : Int32) (v3 : Int32) (v4 : Int32) (μ : Mem) (h : B_M_watch_52  n v0 v2 v3 v4 μ = some (r, μ')), WM X 7 52 [(0, vR v0), (2, vI v2), (3, vI v3), (4, vI v4)] [] 0 0 μ := by
  induction n with
  | zero => intro v0 v2 v3 v4 μ h; cases h
  | succ n ih =>
    intro v0 v2 v3 v4 μ h
    have h : (b1 (gR μ v0 12 23) (fun x55 => b1 (aI μ x55 0 0) (fun x59 => if x59 ≤ v4 then b1 (gR μ v0 12 30) (fun x190 => b1 (gR μ v0 12 30) (fun x195 => b1 (aI μ x195 0 0) (fun x199 => b1 (sI μ x190 0 v3 x199) (fun m200 => B_M_watch_204 fu v0 v2 v3 0 m200)))) else b0 ((5 * v3) + v4) (fun x69 => b1 (gR μ v0 12 24) (fun x72 => b1 (gR μ v0 12 24) (fun x78 => b1 (aI μ x78 0 v4) (fun x83 => b1 (sI μ x72 0 x69 x83) (fun m84 => b1 (gR m84 v0 12 25) (fun x86 => b1 (gR m84 v0 12 25) (fun x92 => b1 (aI m84 x92 0 v4) (fun x97 => b1 (sI m84 x86 0 x69 x97) (fun m98 => b1 (gR m98 v0 12 26) (fun x100 => b1 (gR m98 v0 12 26) (fun x106 => b1 (aI m98 x106 0 v4) (fun x111 => b1 (sI m98 x100 0 x69 x111) (fun m112 => b1 (gR m112 v0 12 27) (fun x114 => b1 (gR m112 v0 12 27) (fun x120 => b1 (aI m112 x120 0 v4) (fun x125 => b1 (sI m112 x114 0 x69 x125) (fun m126 => b1 (gR m126 v0 12 28) (fun x128 => b1 (gR m126 v0 12 28) (fun x134 => b1 (aI m126 x134 0 v4) (fun x139 => b1 (sI m126 x128 0 x69 x139) (fun m140 => B_M_watch_144 (fun v0 v2 v3 v4 μ => B_M_watch_52 n v0 v2 v3 v4 μ) fu v0 v2 v3 v4 x69 0 m140)))))))))))))))))))))))) = some (r, μ') := h
    refine wm_iload E dM_watch_52 (j := 3) rfl ?_
    refine wm_aload_n E dM_watch_54 rfl (j := 0) rfl ?_
    refine wm_gR E fd_M_67 h dM_watch_55 (fun x55 h => ?_)
    refine wm_iconst (x := 0) E dM_watch_58 (by decide) ?_
    refine wm_iald (t := 0) E rfl h dM_watch_59 (fun x59 h => ?_)
    refine wm_icmp_ge (tgt := 189) E dM_watch_60 (by decide) (fun c60 => ?_) (fun c60 => ?_)
    · have h := (if_pos c60).symm.trans h
      refine wm_aload_n E dM_watch_189 rfl (j := 0) rfl ?_
      refine wm_gR E fd_M_88 h dM_watch_190 (fun x190 h => ?_)
      refine wm_iload_n E dM_watch_193 rfl (j := 2) rfl ?_
      refine wm_aload_n E dM_watch_194 rfl (j := 0) rfl ?_
      refine wm_gR E fd_M_88 h dM_watch_195 (fun x195 h => ?_)
      refine wm_iconst (x := 0) E dM_watch_198 (by decide) ?_
      refine wm_iald (t := 0) E rfl h dM_watch_199 (fun x199 h => ?_)
      refine wm_iast (t := 0) E rfl h dM_watch_200 (fun m200 h => ?_)
      refine wm_iconst (x := 0) E dM_watch_201 (by decide) ?_
      refine wm_istore (lv' := [(4, vI 0), (0, vR v0), (2, vI v2), (3, vI v3)]) E dM_watch_202 (by decide) rfl ?_
      refine wm_pick (lv' := [(0, vR v0), (2, vI v2), (3, vI v3), (4, vI 0)]) [1, 2, 3, 0] rfl ?_
      exact w_M_watch_204 E hQ hR hI fu v0 v2 v3 0 m200 h
    · have h := (if_neg c60).symm.trans h
      refine wm_iconst (x := 5) E dM_watch_63 (by decide) ?_
      refine wm_iload_n E dM_watch_64 rfl (j := 2) rfl ?_
      refine wm_imul E dM_watch_65 ?_
      refine wm_iload E dM_watch_66 (j := 3) rfl ?_
      refine wm_iadd E dM_watch_68 ?_
      refine wm_letI h (fun x69 h => ?_)
      refine wm_istore (lv' := [(5, vI x69), (0, vR v0), (2, vI v2), (3, vI v3), (4, vI v4)]) E dM_watch_69 (by decide) rfl ?_
      refine wm_aload_n E dM_watch_71 rfl (j := 1) rfl ?_
      refine wm_gR E fd_M_70 h dM_watch_72 (fun x72 h => ?_)
      refine wm_iload E dM_watch_75 (j := 0) rfl ?_
      refine wm_aload_n E dM_watch_77 rfl (j := 1) rfl ?_
      refine wm_gR E fd_M_70 h dM_watch_78 (fun x78 h => ?_)
      refine wm_iload E dM_watch_81 (j := 4) rfl ?_
      refine wm_iald (t := 0) E rfl h dM_watch_83 (fun x83 h => ?_)
      refine wm_iast (t := 0) E rfl h dM_watch_84 (fun m84 h => ?_)
      refine wm_aload_n E dM_watch_85 rfl (j := 1) rfl ?_
      refine wm_gR E fd_M_73 h dM_watch_86 (fun x86 h => ?_)
      refine wm_iload E dM_watch_89 (j := 0) rfl ?_
      refine wm_aload_n E dM_watch_91 rfl (j := 1) rfl ?_
      refine wm_gR E fd_M_73 h dM_watch_92 (fun x92 h => ?_)
      refine wm_iload E dM_watch_95 (j := 4) rfl ?_
      refine wm_iald (t := 0) E rfl h dM_watch_97 (fun x97 h => ?_)
      refine wm_iast (t := 0) E rfl h dM_watch_98 (fun m98 h => ?_)
      refine wm_aload_n E dM_watch_99 rfl (j := 1) rfl ?_
      refine wm_gR E fd_M_76 h dM_watch_100 (fun x100 h => ?_)
      refine wm_iload E dM_watch_103 (j := 0) rfl ?_
      refine wm_aload_n E dM_watch_105 rfl (j := 1) rfl ?_
      refine wm_gR E fd_M_76 h dM_watch_106 (fun x106 h => ?_)
      refine wm_iload E dM_watch_109 (j := 4) rfl ?_
      refine wm_iald (t := 0) E rfl h dM_watch_111 (fun x111 h => ?_)
      refine wm_iast (t := 0) E rfl h dM_watch_112 (fun m112 h => ?_)
      refine wm_aload_n E dM_watch_113 rfl (j := 1) rfl ?_
      refine wm_gR E fd_M_79 h dM_watch_114 (fun x114 h => ?_)
      refine wm_iload E dM_watch_117 (j := 0) rfl ?_
      refine wm_aload_n E dM_watch_119 rfl (j := 1) rfl ?_
      refine wm_gR E fd_M_79 h dM_watch_120 (fun x120 h => ?_)
      refine wm_iload E dM_watch_123 (j := 4) rfl ?_
      refine wm_iald (t := 0) E rfl h dM_watch_125 (fun x125 h => ?_)
      refine wm_iast (t := 0) E rfl h dM_watch_126 (fun m126 h => ?_)
      refine wm_aload_n E dM_watch_127 rfl (j := 1) rfl ?_
      refine wm_gR E fd_M_82 h dM_watch_128 (fun x128 h => ?_)
      refine wm_iload E dM_watch_131 (j := 0) rfl ?_
      refine wm_aload_n E dM_watch_133 rfl (j := 1) rfl ?_
      refine wm_gR E fd_M_82 h dM_watch_134 (fun x134 h => ?_)
      refine wm_iload E dM_watch_137 (j := 4) rfl ?_
      refine wm_iald (t := 0) E rfl h dM_watch_139 (fun x139 h => ?_)
      refine wm_iast (t := 0) E rfl h dM_watch_140 (fun m140 h => ?_)
      refine wm_iconst (x := 0) E dM_watch_141 (by decide) ?_
      refine wm_istore (lv' := [(6, vI 0), (5, vI x69), (0, vR v0), (2, vI v2), (3, vI v3), (4, vI v4)]) E dM_watch_142 (by decide) rfl ?_
      refine wm_pick (lv' := [(0, vR v0), (2, vI v2), (3, vI v3), (4, vI v4), (5, vI x69), (6, vI 0)]) [2, 3, 4, 5, 1, 0] rfl ?_
      exact w_M_watch_144 E hQ hR hI (fun v0 v2 v3 v4 μ => B_M_watch_52 n v0 v2 v3 v4 μ) ih fu v0 v2 v3 v4 x69 0 m140 h
def B_M_watch_22  (v0 : Option Nat) (v1 : Int32) (v2 : Int32) (s0 : Option Nat) (s1 : Int32) (μ : Mem) : Option (Unit × Mem) := b1 (pV μ s0 12 0 (vI s1)) (fun m22 => b1 (gI m22 v0 12 0) (fun x26 => if x26 ≤ 0 then b0 (v1 + 1) (fun x36 => b1 (gR m22 v0 12 23) (fun x38 => b1 (gR m22 v0 12 23) (fun x43 => b1 (aI m22 x43 0 0) (fun x47 => b1 (sI m22 x38 0 x36 x47) (fun m48 => B_M_watch_52 fu v0 v2 x36 0 m48))))) else some ((), m22)))
set_option maxHeartbeats 4000000 in
set_option maxRecDepth 100000 in
theorem w_M_watch_22 {X : CX} (E : EV X prog_13_method_55_code 7 "PlaceFinderModel" none) {μ0 μ' : Mem} {r : Unit} (hQ : RQ X 0 0 μ0 none μ') (hR : xR X = { frames := 2, cells := 0, slots := 0, locals := 42 }) (hI : X.2.2.2.2.2.2.2.2.2.2.2.1.name = "watch")  (v0 : Option Nat) (v1 : Int32) (v2 : Int32) (s0 : Option Nat) (s1 : Int32) (μ : Mem) (h : B_M_watch_22  v0 v1 v2 s0 s1 μ = some (r, μ')) : WM X 7 22 [(0, vR v0), (1, vI v1), (2, vI v2)] [vI s1, vR s0] 0 0 μ := by
  have h : (b1 (pV μ s0 12 0 (vI s1)) (fun m22 => b1 (gI m22 v0 12 0) (fun x26 => if x26 ≤ 0 then b0 (v1 + 1) (fun x36 => b1 (gR m22 v0 12 23) (fun x38 => b1 (gR m22 v0 12 23) (fun x43 => b1 (aI m22 x43 0 0) (fun x47 => b1 (sI m22 x38 0 x36 x47) (fun m48 => B_M_watch_52 fu v0 v2 x36 0 m48))))) else some ((), m22)))) = some (r, μ') := h
  refine wm_pI E fp_M_132 (fun q => by cases q) h dM_watch_22 (fun m22 h => ?_)
  refine wm_aload_n E dM_watch_25 rfl (j := 0) rfl ?_
  refine wm_gI E fd_M_132 h dM_watch_26 (fun x26 h => ?_)
  refine wm_if_le (tgt := 33) E dM_watch_29 (by decide) (fun c29 => ?_) (fun c29 => ?_)
  · have h := (if_pos c29).symm.trans h
    refine wm_iload_n E dM_watch_33 rfl (j := 1) rfl ?_
    refine wm_iconst (x := 1) E dM_watch_34 (by decide) ?_
    refine wm_iadd E dM_watch_35 ?_
    refine wm_letI h (fun x36 h => ?_)
    refine wm_istore_n (lv' := [(3, vI x36), (0, vR v0), (1, vI v1), (2, vI v2)]) E dM_watch_36 rfl (by decide) rfl ?_
    refine wm_aload_n E dM_watch_37 rfl (j := 1) rfl ?_
    refine wm_gR E fd_M_67 h dM_watch_38 (fun x38 h => ?_)
    refine wm_iload_n E dM_watch_41 rfl (j := 0) rfl ?_
    refine wm_aload_n E dM_watch_42 rfl (j := 1) rfl ?_
    refine wm_gR E fd_M_67 h dM_watch_43 (fun x43 h => ?_)
    refine wm_iconst (x := 0) E dM_watch_46 (by decide) ?_
    refine wm_iald (t := 0) E rfl h dM_watch_47 (fun x47 h => ?_)
    refine wm_iast (t := 0) E rfl h dM_watch_48 (fun m48 h => ?_)
    refine wm_iconst (x := 0) E dM_watch_49 (by decide) ?_
    refine wm_istore (lv' := [(4, vI 0), (3, vI x36), (0, vR v0), (1, vI v1), (2, vI v2)]) E dM_watch_50 (by decide) rfl ?_
    refine wm_pick (lv' := [(0, vR v0), (2, vI v2), (3, vI x36), (4, vI 0)]) [2, 4, 1, 0] rfl ?_
    exact w_M_watch_52 E hQ hR hI fu v0 v2 x36 0 m48 h
  · have h := (if_neg c29).symm.trans h
    exact wm_vret E hQ rfl (rtM h) (by decide) (by decide) dM_watch_32
def B_M_watch_17  (v0 : Option Nat) (v1 : Int32) (v2 : Int32) (s0 : Option Nat) (μ : Mem) : Option (Unit × Mem) := B_M_watch_22 v0 v1 v2 s0 1 μ
set_option maxHeartbeats 4000000 in
set_option maxRecDepth 100000 in
theorem w_M_watch_17 {X : CX} (E : EV X prog_13_method_55_code 7 "PlaceFinderModel" none) {μ0 μ' : Mem} {r : Unit} (hQ : RQ X 0 0 μ0 none μ') (hR : xR X = { frames := 2, cells := 0, slots := 0, locals := 42 }) (hI : X.2.2.2.2.2.2.2.2.2.2.2.1.name = "watch")  (v0 : Option Nat) (v1 : Int32) (v2 : Int32) (s0 : Option Nat) (μ : Mem) (h : B_M_watch_17  v0 v1 v2 s0 μ = some (r, μ')) : WM X 7 17 [(0, vR v0), (1, vI v1), (2, vI v2)] [vR s0] 0 0 μ := by
  have h : (B_M_watch_22 v0 v1 v2 s0 1 μ) = some (r, μ') := h
  refine wm_iconst (x := 1) E dM_watch_17 (by decide) ?_
  refine wm_goto (tgt := 22) E dM_watch_18 (by decide) ?_
  refine wm_pick (lv' := [(0, vR v0), (1, vI v1), (2, vI v2)]) [0, 1, 2] rfl ?_
  exact w_M_watch_22 E hQ hR hI v0 v1 v2 s0 1 μ h
def S_M_watch (v0 : Option Nat) (v1 : Int32) (v2 : Int32) (μ : Mem) : Option (Unit × Mem) := b2 (S_M_in v1 0 3 μ) (fun x4 m4 => if x4 = 0 then B_M_watch_17 v0 v1 v2 v0 m4 else b2 (S_M_isDay v2 m4) (fun x11 m11 => if x11 = 0 then B_M_watch_17 v0 v1 v2 v0 m11 else B_M_watch_22 v0 v1 v2 v0 0 m11))
set_option maxHeartbeats 4000000 in
set_option maxRecDepth 100000 in
theorem C_M_watch (l : Launch) (G : GG) (v0 : Option Nat) (v1 : Int32) (v2 : Int32) (μ μ' : Mem) (r : Unit) (h : S_M_watch v0 v1 v2 μ = some (r, μ')) : CT l G y_M_watch prog_13_method_55_code 7 none 2 0 0 42 μ [vR v0, vI v1, vI v2] none μ' := by
  refine wm_met (lv := [(0, vR v0), (1, vI v1), (2, vI v2)]) (by decide +kernel) (Nat.le_of_ble_eq_true rfl) rfl (fun X E hQ hR hI => ?_)
  have h : (b2 (S_M_in v1 0 3 μ) (fun x4 m4 => if x4 = 0 then B_M_watch_17 v0 v1 v2 v0 m4 else b2 (S_M_isDay v2 m4) (fun x11 m11 => if x11 = 0 then B_M_watch_17 v0 v1 v2 v0 m11 else B_M_watch_22 v0 v1 v2 v0 0 m11))) = some (r, μ') := h
  refine wm_aload_n E dM_watch_0 rfl (j := 0) rfl ?_
  refine wm_iload_n E dM_watch_1 rfl (j := 1) rfl ?_
  refine wm_iconst (x := 0) E dM_watch_2 (by decide) ?_
  refine wm_iconst (x := 3) E dM_watch_3 (by decide) ?_
  obtain ⟨x4, m4, hc4, h⟩ := b2S h
  refine wm_cS (As := [vI v1, vI 0, vI 3]) (st := [vR v0]) E lk_M_139 sc_M_in (C_M_in (xl X) X.1 v1 0 3 μ _ _ hc4) rfl rfl (by rw [hR]; decide) (by rw [hR]; decide) (Nat.le_of_ble_eq_true rfl) dM_watch_4 ?_
  refine wm_if_eq (tgt := 17) E dM_watch_7 (by decide) (fun c7 => ?_) (fun c7 => ?_)
  · have h := (if_pos c7).symm.trans h
    refine wm_pick (lv' := [(0, vR v0), (1, vI v1), (2, vI v2)]) [0, 1, 2] rfl ?_
    exact w_M_watch_17 E hQ hR hI v0 v1 v2 v0 m4 h
  · have h := (if_neg c7).symm.trans h
    refine wm_iload_n E dM_watch_10 rfl (j := 2) rfl ?_
    obtain ⟨x11, m11, hc11, h⟩ := b2S h
    refine wm_cS (As := [vI v2]) (st := [vR v0]) E lk_M_143 sc_M_isDay (C_M_isDay (xl X) X.1 v2 m4 _ _ hc11) rfl rfl (by rw [hR]; decide) (by rw [hR]; decide) (Nat.le_of_ble_eq_true rfl) dM_watch_11 ?_
    refine wm_if_ne (tgt := 21) E dM_watch_14 (by decide) (fun c14 => ?_) (fun c14 => ?_)
    · have h := (if_neg c14).symm.trans h
      refine wm_iconst (x := 0) E dM_watch_21 (by decide) ?_
      refine wm_pick (lv' := [(0, vR v0), (1, vI v1), (2, vI v2)]) [0, 1, 2] rfl ?_
      exact w_M_watch_22 E hQ hR hI v0 v1 v2 v0 0 m11 h
    · have h := (if_pos c14).symm.trans h
      refine wm_pick (lv' := [(0, vR v0), (1, vI v1), (2, vI v2)]) [0, 1, 2] rfl ?_
      exact w_M_watch_17 E hQ hR hI v0 v1 v2 v0 m11 h
def B_M_isWatch_54  (s0 : Int32) (μ : Mem) : Option (Int32 × Mem) := gd (¬ okZ s0 = true) (some (s0, μ))
set_option maxHeartbeats 4000000 in
set_option maxRecDepth 100000 in
theorem w_M_isWatch_54 {X : CX} (E : EV X prog_13_method_56_code 2 "PlaceFinderModel" (some .boolean)) {μ0 μ' : Mem} {r : Int32} (hQ : RQ X 0 0 μ0 (some (vI r)) μ') (hR : xR X = { frames := 1, cells := 0, slots := 0, locals := 22 }) (hI : X.2.2.2.2.2.2.2.2.2.2.2.1.name = "isWatch")  (s0 : Int32) (μ : Mem) (h : B_M_isWatch_54  s0 μ = some (r, μ')) : WM X 2 54 [] [vI s0] 0 0 μ := by
  have h : (gd (¬ okZ s0 = true) (some (s0, μ))) = some (r, μ') := h
  obtain ⟨hz54, h⟩ := gdS h
  exact wm_zret (rt := .boolean) E hQ (rtI h) (rtM h) (okZN hz54) (by decide) (by decide) dM_isWatch_54
def B_M_isWatch_39  (v0 : Option Nat) (s0 : Option Nat) (s1 : Int32) (μ : Mem) : Option (Int32 × Mem) := b1 (pV μ s0 12 0 (vI s1)) (fun m39 => b1 (gI m39 v0 12 0) (fun x43 => if x43 = 0 then B_M_isWatch_54 1 m39 else B_M_isWatch_54 0 m39))
set_option maxHeartbeats 4000000 in
set_option maxRecDepth 100000 in
theorem w_M_isWatch_39 {X : CX} (E : EV X prog_13_method_56_code 2 "PlaceFinderModel" (some .boolean)) {μ0 μ' : Mem} {r : Int32} (hQ : RQ X 0 0 μ0 (some (vI r)) μ') (hR : xR X = { frames := 1, cells := 0, slots := 0, locals := 22 }) (hI : X.2.2.2.2.2.2.2.2.2.2.2.1.name = "isWatch")  (v0 : Option Nat) (s0 : Option Nat) (s1 : Int32) (μ : Mem) (h : B_M_isWatch_39  v0 s0 s1 μ = some (r, μ')) : WM X 2 39 [(0, vR v0)] [vI s1, vR s0] 0 0 μ := by
  have h : (b1 (pV μ s0 12 0 (vI s1)) (fun m39 => b1 (gI m39 v0 12 0) (fun x43 => if x43 = 0 then B_M_isWatch_54 1 m39 else B_M_isWatch_54 0 m39))) = some (r, μ') := h
  refine wm_pI E fp_M_132 (fun q => by cases q) h dM_isWatch_39 (fun m39 h => ?_)
  refine wm_aload_n E dM_isWatch_42 rfl (j := 0) rfl ?_
  refine wm_gI E fd_M_132 h dM_isWatch_43 (fun x43 h => ?_)
  refine wm_if_ne (tgt := 53) E dM_isWatch_46 (by decide) (fun c46 => ?_) (fun c46 => ?_)
  · have h := (if_neg c46).symm.trans h
    refine wm_iconst (x := 0) E dM_isWatch_53 (by decide) ?_
    refine wm_pick (lv' := []) [] rfl ?_
    exact w_M_isWatch_54 E hQ hR hI 0 m39 h
  · have h := (if_pos c46).symm.trans h
    refine wm_iconst (x := 1) E dM_isWatch_49 (by decide) ?_
    refine wm_goto (tgt := 54) E dM_isWatch_50 (by decide) ?_
    refine wm_pick (lv' := []) [] rfl ?_
    exact w_M_isWatch_54 E hQ hR hI 1 m39 h
def B_M_isWatch_38  (v0 : Option Nat) (s0 : Option Nat) (μ : Mem) : Option (Int32 × Mem) := B_M_isWatch_39 v0 s0 1 μ
set_option maxHeartbeats 4000000 in
set_option maxRecDepth 100000 in
theorem w_M_isWatch_38 {X : CX} (E : EV X prog_13_method_56_code 2 "PlaceFinderModel" (some .boolean)) {μ0 μ' : Mem} {r : Int32} (hQ : RQ X 0 0 μ0 (some (vI r)) μ') (hR : xR X = { frames := 1, cells := 0, slots := 0, locals := 22 }) (hI : X.2.2.2.2.2.2.2.2.2.2.2.1.name = "isWatch")  (v0 : Option Nat) (s0 : Option Nat) (μ : Mem) (h : B_M_isWatch_38  v0 s0 μ = some (r, μ')) : WM X 2 38 [(0, vR v0)] [vR s0] 0 0 μ := by
  have h : (B_M_isWatch_39 v0 s0 1 μ) = some (r, μ') := h
  refine wm_iconst (x := 1) E dM_isWatch_38 (by decide) ?_
  refine wm_pick (lv' := [(0, vR v0)]) [0] rfl ?_
  exact w_M_isWatch_39 E hQ hR hI v0 s0 1 μ h
def B_M_isWatch_30  (v0 : Option Nat) (s0 : Option Nat) (s1 : Option Nat) (s2 : Int32) (μ : Mem) : Option (Int32 × Mem) := b1 (aI μ s1 3 s2) (fun x30 => if x30 = 0 then B_M_isWatch_38 v0 s0 μ else B_M_isWatch_39 v0 s0 0 μ)
set_option maxHeartbeats 4000000 in
set_option maxRecDepth 100000 in
theorem w_M_isWatch_30 {X : CX} (E : EV X prog_13_method_56_code 2 "PlaceFinderModel" (some .boolean)) {μ0 μ' : Mem} {r : Int32} (hQ : RQ X 0 0 μ0 (some (vI r)) μ') (hR : xR X = { frames := 1, cells := 0, slots := 0, locals := 22 }) (hI : X.2.2.2.2.2.2.2.2.2.2.2.1.name = "isWatch")  (v0 : Option Nat) (s0 : Option Nat) (s1 : Option Nat) (s2 : Int32) (μ : Mem) (h : B_M_isWatch_30  v0 s0 s1 s2 μ = some (r, μ')) : WM X 2 30 [(0, vR v0)] [vI s2, vR s1, vR s0] 0 0 μ := by
  have h : (b1 (aI μ s1 3 s2) (fun x30 => if x30 = 0 then B_M_isWatch_38 v0 s0 μ else B_M_isWatch_39 v0 s0 0 μ)) = some (r, μ') := h
  refine wm_zald (t := 3) E rfl h dM_isWatch_30 (fun x30 h => ?_)
  refine wm_if_eq (tgt := 38) E dM_isWatch_31 (by decide) (fun c31 => ?_) (fun c31 => ?_)
  · have h := (if_pos c31).symm.trans h
    refine wm_pick (lv' := [(0, vR v0)]) [0] rfl ?_
    exact w_M_isWatch_38 E hQ hR hI v0 s0 μ h
  · have h := (if_neg c31).symm.trans h
    refine wm_iconst (x := 0) E dM_isWatch_34 (by decide) ?_
    refine wm_goto (tgt := 39) E dM_isWatch_35 (by decide) ?_
    refine wm_pick (lv' := [(0, vR v0)]) [0] rfl ?_
    exact w_M_isWatch_39 E hQ hR hI v0 s0 0 μ h
def S_M_isWatch (v0 : Option Nat) (v1 : Int32) (μ : Mem) : Option (Int32 × Mem) := b2 (S_M_in v1 0 3 μ) (fun x4 m4 => if x4 = 0 then B_M_isWatch_38 v0 v0 m4 else b1 (gR m4 v0 12 34) (fun x11 => b2 (S_M_in v1 0 3 m4) (fun x17 m17 => if x17 = 0 then B_M_isWatch_30 v0 v0 x11 0 m17 else B_M_isWatch_30 v0 v0 x11 (v1 + 1) m17)))
set_option maxHeartbeats 4000000 in
set_option maxRecDepth 100000 in
theorem C_M_isWatch (l : Launch) (G : GG) (v0 : Option Nat) (v1 : Int32) (μ μ' : Mem) (r : Int32) (h : S_M_isWatch v0 v1 μ = some (r, μ')) : CT l G y_M_isWatch prog_13_method_56_code 2 (some .boolean) 1 0 0 22 μ [vR v0, vI v1] (some (vI r)) μ' := by
  refine wm_met (lv := [(0, vR v0), (1, vI v1)]) (by decide +kernel) (Nat.le_of_ble_eq_true rfl) rfl (fun X E hQ hR hI => ?_)
  have h : (b2 (S_M_in v1 0 3 μ) (fun x4 m4 => if x4 = 0 then B_M_isWatch_38 v0 v0 m4 else b1 (gR m4 v0 12 34) (fun x11 => b2 (S_M_in v1 0 3 m4) (fun x17 m17 => if x17 = 0 then B_M_isWatch_30 v0 v0 x11 0 m17 else B_M_isWatch_30 v0 v0 x11 (v1 + 1) m17)))) = some (r, μ') := h
  refine wm_aload_n E dM_isWatch_0 rfl (j := 0) rfl ?_
  refine wm_iload_n E dM_isWatch_1 rfl (j := 1) rfl ?_
  refine wm_iconst (x := 0) E dM_isWatch_2 (by decide) ?_
  refine wm_iconst (x := 3) E dM_isWatch_3 (by decide) ?_
  obtain ⟨x4, m4, hc4, h⟩ := b2S h
  refine wm_cS (As := [vI v1, vI 0, vI 3]) (st := [vR v0]) E lk_M_139 sc_M_in (C_M_in (xl X) X.1 v1 0 3 μ _ _ hc4) rfl rfl (by rw [hR]; decide) (by rw [hR]; decide) (Nat.le_of_ble_eq_true rfl) dM_isWatch_4 ?_
  refine wm_if_eq (tgt := 38) E dM_isWatch_7 (by decide) (fun c7 => ?_) (fun c7 => ?_)
  · have h := (if_pos c7).symm.trans h
    refine wm_pick (lv' := [(0, vR v0)]) [0] rfl ?_
    exact w_M_isWatch_38 E hQ hR hI v0 v0 m4 h
  · have h := (if_neg c7).symm.trans h
    refine wm_aload_n E dM_isWatch_10 rfl (j := 0) rfl ?_
    refine wm_gR E fd_M_100 h dM_isWatch_11 (fun x11 h => ?_)
    refine wm_iload_n E dM_isWatch_14 rfl (j := 1) rfl ?_
    refine wm_iconst (x := 0) E dM_isWatch_15 (by decide) ?_
    refine wm_iconst (x := 3) E dM_isWatch_16 (by decide) ?_
    obtain ⟨x17, m17, hc17, h⟩ := b2S h
    refine wm_cS (As := [vI v1, vI 0, vI 3]) (st := [vR x11, vR v0]) E lk_M_139 sc_M_in (C_M_in (xl X) X.1 v1 0 3 m4 _ _ hc17) rfl rfl (by rw [hR]; decide) (by rw [hR]; decide) (Nat.le_of_ble_eq_true rfl) dM_isWatch_17 ?_
    refine wm_if_eq (tgt := 29) E dM_isWatch_20 (by decide) (fun c20 => ?_) (fun c20 => ?_)
    · have h := (if_pos c20).symm.trans h
      refine wm_iconst (x := 0) E dM_isWatch_29 (by decide) ?_
      refine wm_pick (lv' := [(0, vR v0)]) [0] rfl ?_
      exact w_M_isWatch_30 E hQ hR hI v0 v0 x11 0 m17 h
    · have h := (if_neg c20).symm.trans h
      refine wm_iload_n E dM_isWatch_23 rfl (j := 1) rfl ?_
      refine wm_iconst (x := 1) E dM_isWatch_24 (by decide) ?_
      refine wm_iadd E dM_isWatch_25 ?_
      refine wm_goto (tgt := 30) E dM_isWatch_26 (by decide) ?_
      refine wm_pick (lv' := [(0, vR v0)]) [0] rfl ?_
      exact w_M_isWatch_30 E hQ hR hI v0 v0 x11 (v1 + 1) m17 h
