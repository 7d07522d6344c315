def B_Ec_leastFor_9  (v2 : Int32) (v4 : Int32) (μ : Mem) : Option (Int32 × Mem) := some (v2 + v4, μ)
set_option maxHeartbeats 4000000 in
set_option maxRecDepth 100000 in
theorem w_Ec_leastFor_9 {X : CX} (E : EV X prog_4_method_3_code 9 "PlaceFinder$ErrorCounter" (some .int)) {μ0 μ' : Mem} {r : Int32} (hQ : RQ X 0 0 μ0 (some (vI r)) μ') (hR : xR X = { frames := 1, cells := 0, slots := 0, locals := 21 }) (hI : X.2.2.2.2.2.2.2.2.2.2.2.1.name = "leastFor")  (v2 : Int32) (v4 : Int32) (μ : Mem) (h : B_Ec_leastFor_9  v2 v4 μ = some (r, μ')) : WM X 9 9 [(2, vI v2), (4, vI v4)] [] 0 0 μ := by
  have h : (some (v2 + v4, μ)) = some (r, μ') := h
  refine wm_iload_n E dEc_leastFor_9 rfl (j := 0) rfl ?_
  refine wm_iload E dEc_leastFor_10 (j := 1) rfl ?_
  refine wm_iadd E dEc_leastFor_12 ?_
  exact wm_iret (rt := .int) E hQ (rtI h) (rtM h) (by decide) (by decide) dEc_leastFor_13
def B_Ec_leastFor_163  (s0 : Int32) (μ : Mem) : Option (Int32 × Mem) := some (s0, μ)
set_option maxHeartbeats 4000000 in
set_option maxRecDepth 100000 in
theorem w_Ec_leastFor_163 {X : CX} (E : EV X prog_4_method_3_code 9 "PlaceFinder$ErrorCounter" (some .int)) {μ0 μ' : Mem} {r : Int32} (hQ : RQ X 0 0 μ0 (some (vI r)) μ') (hR : xR X = { frames := 1, cells := 0, slots := 0, locals := 21 }) (hI : X.2.2.2.2.2.2.2.2.2.2.2.1.name = "leastFor")  (s0 : Int32) (μ : Mem) (h : B_Ec_leastFor_163  s0 μ = some (r, μ')) : WM X 9 163 [] [vI s0] 0 0 μ := by
  have h : (some (s0, μ)) = some (r, μ') := h
  exact wm_iret (rt := .int) E hQ (rtI h) (rtM h) (by decide) (by decide) dEc_leastFor_163
def B_Ec_leastFor_131  (v0 : Option Nat) (v2 : Int32) (v4 : Int32) (v7 : Int32) (s0 : Int32) (μ : Mem) : Option (Int32 × Mem) := if s0 = 0 then B_Ec_leastFor_163 v7 μ else b1 (gR μ v0 3 0) (fun x141 => b1 (aR μ x141 6 (v2 - 2)) (fun x147 => b1 (aI μ x147 0 (v4 - 2)) (fun x152 => b2 (S_Ma_min v7 (x152 + 1) μ) (fun x155 m155 => B_Ec_leastFor_163 x155 m155))))
set_option maxHeartbeats 4000000 in
set_option maxRecDepth 100000 in
theorem w_Ec_leastFor_131 {X : CX} (E : EV X prog_4_method_3_code 9 "PlaceFinder$ErrorCounter" (some .int)) {μ0 μ' : Mem} {r : Int32} (hQ : RQ X 0 0 μ0 (some (vI r)) μ') (hR : xR X = { frames := 1, cells := 0, slots := 0, locals := 21 }) (hI : X.2.2.2.2.2.2.2.2.2.2.2.1.name = "leastFor")  (v0 : Option Nat) (v2 : Int32) (v4 : Int32) (v7 : Int32) (s0 : Int32) (μ : Mem) (h : B_Ec_leastFor_131  v0 v2 v4 v7 s0 μ = some (r, μ')) : WM X 9 131 [(0, vR v0), (2, vI v2), (4, vI v4), (7, vI v7)] [vI s0] 0 0 μ := by
  have h : (if s0 = 0 then B_Ec_leastFor_163 v7 μ else b1 (gR μ v0 3 0) (fun x141 => b1 (aR μ x141 6 (v2 - 2)) (fun x147 => b1 (aI μ x147 0 (v4 - 2)) (fun x152 => b2 (S_Ma_min v7 (x152 + 1) μ) (fun x155 m155 => B_Ec_leastFor_163 x155 m155))))) = some (r, μ') := h
  refine wm_istore (lv' := [(8, vI s0), (0, vR v0), (2, vI v2), (4, vI v4), (7, vI v7)]) E dEc_leastFor_131 (by decide) rfl ?_
  refine wm_iload E dEc_leastFor_133 (j := 0) rfl ?_
  refine wm_if_eq (tgt := 161) E dEc_leastFor_135 (by decide) (fun c135 => ?_) (fun c135 => ?_)
  · have h := (if_pos c135).symm.trans h
    refine wm_iload E dEc_leastFor_161 (j := 4) rfl ?_
    refine wm_pick (lv' := []) [] rfl ?_
    exact w_Ec_leastFor_163 E hQ hR hI v7 μ h
  · have h := (if_neg c135).symm.trans h
    refine wm_iload E dEc_leastFor_138 (j := 4) rfl ?_
    refine wm_aload_n E dEc_leastFor_140 rfl (j := 1) rfl ?_
    refine wm_gR E fd_Ec_11 h dEc_leastFor_141 (fun x141 h => ?_)
    refine wm_iload_n E dEc_leastFor_144 rfl (j := 2) rfl ?_
    refine wm_iconst (x := 2) E dEc_leastFor_145 (by decide) ?_
    refine wm_isub E dEc_leastFor_146 ?_
    refine wm_aald (t := 6) E rfl rfl h dEc_leastFor_147 (fun x147 h => ?_)
    refine wm_iload E dEc_leastFor_148 (j := 3) rfl ?_
    refine wm_iconst (x := 2) E dEc_leastFor_150 (by decide) ?_
    refine wm_isub E dEc_leastFor_151 ?_
    refine wm_iald (t := 0) E rfl h dEc_leastFor_152 (fun x152 h => ?_)
    refine wm_iconst (x := 1) E dEc_leastFor_153 (by decide) ?_
    refine wm_iadd E dEc_leastFor_154 ?_
    obtain ⟨x155, m155, hc155, h⟩ := b2S h
    refine wm_cS (As := [vI v7, vI (x152 + 1)]) (st := []) E lk_Ec_30 sc_Ma_min (C_Ma_min (xl X) X.1 v7 (x152 + 1) μ _ _ hc155) rfl rfl (by rw [hR]; decide) (by rw [hR]; decide) (Nat.le_of_ble_eq_true rfl) dEc_leastFor_155 ?_
    refine wm_goto (tgt := 163) E dEc_leastFor_158 (by decide) ?_
    refine wm_pick (lv' := []) [] rfl ?_
    exact w_Ec_leastFor_163 E hQ hR hI x155 m155 h
def B_Ec_leastFor_130  (v0 : Option Nat) (v2 : Int32) (v4 : Int32) (v7 : Int32) (μ : Mem) : Option (Int32 × Mem) := B_Ec_leastFor_131 v0 v2 v4 v7 0 μ
set_option maxHeartbeats 4000000 in
set_option maxRecDepth 100000 in
theorem w_Ec_leastFor_130 {X : CX} (E : EV X prog_4_method_3_code 9 "PlaceFinder$ErrorCounter" (some .int)) {μ0 μ' : Mem} {r : Int32} (hQ : RQ X 0 0 μ0 (some (vI r)) μ') (hR : xR X = { frames := 1, cells := 0, slots := 0, locals := 21 }) (hI : X.2.2.2.2.2.2.2.2.2.2.2.1.name = "leastFor")  (v0 : Option Nat) (v2 : Int32) (v4 : Int32) (v7 : Int32) (μ : Mem) (h : B_Ec_leastFor_130  v0 v2 v4 v7 μ = some (r, μ')) : WM X 9 130 [(0, vR v0), (2, vI v2), (4, vI v4), (7, vI v7)] [] 0 0 μ := by
  have h : (B_Ec_leastFor_131 v0 v2 v4 v7 0 μ) = some (r, μ') := h
  refine wm_iconst (x := 0) E dEc_leastFor_130 (by decide) ?_
  refine wm_pick (lv' := [(0, vR v0), (2, vI v2), (4, vI v4), (7, vI v7)]) [0, 1, 2, 3] rfl ?_
  exact w_Ec_leastFor_131 E hQ hR hI v0 v2 v4 v7 0 μ h
def B_Ec_leastFor_46  (v0 : Option Nat) (v1 : Option Nat) (v2 : Int32) (v3 : Option Nat) (v4 : Int32) (s0 : Int32) (s1 : Int32) (μ : Mem) : Option (Int32 × Mem) := b0 (s0 + s1) (fun x47 => b1 (gR μ v0 3 0) (fun x50 => b1 (aR μ x50 6 (v2 - 1)) (fun x56 => b1 (aI μ x56 0 v4) (fun x59 => b1 (gR μ v0 3 0) (fun x61 => b1 (aR μ x61 6 v2) (fun x65 => b1 (aI μ x65 0 (v4 - 1)) (fun x70 => b2 (S_Ma_min x59 x70 μ) (fun x71 m71 => b0 (x71 + 1) (fun x76 => b2 (S_Ma_min x47 x76 m71) (fun x82 m82 => if v2 ≤ 1 then B_Ec_leastFor_130 v0 v2 v4 x82 m82 else if v4 ≤ 1 then B_Ec_leastFor_130 v0 v2 v4 x82 m82 else b1 (aI m82 v1 2 (v2 - 1)) (fun x102 => b1 (aI m82 v3 2 (v4 - 2)) (fun x108 => if x102 = x108 then b1 (aI m82 v1 2 (v2 - 2)) (fun x116 => b1 (aI m82 v3 2 (v4 - 1)) (fun x122 => if x116 = x122 then B_Ec_leastFor_131 v0 v2 v4 x82 1 m82 else B_Ec_leastFor_130 v0 v2 v4 x82 m82)) else B_Ec_leastFor_130 v0 v2 v4 x82 m82))))))))))))
set_option maxHeartbeats 4000000 in
set_option maxRecDepth 100000 in
theorem w_Ec_leastFor_46 {X : CX} (E : EV X prog_4_method_3_code 9 "PlaceFinder$ErrorCounter" (some .int)) {μ0 μ' : Mem} {r : Int32} (hQ : RQ X 0 0 μ0 (some (vI r)) μ') (hR : xR X = { frames := 1, cells := 0, slots := 0, locals := 21 }) (hI : X.2.2.2.2.2.2.2.2.2.2.2.1.name = "leastFor")  (v0 : Option Nat) (v1 : Option Nat) (v2 : Int32) (v3 : Option Nat) (v4 : Int32) (s0 : Int32) (s1 : Int32) (μ : Mem) (h : B_Ec_leastFor_46  v0 v1 v2 v3 v4 s0 s1 μ = some (r, μ')) : WM X 9 46 [(0, vR v0), (1, vR v1), (2, vI v2), (3, vR v3), (4, vI v4)] [vI s1, vI s0] 0 0 μ := by
  have h : (b0 (s0 + s1) (fun x47 => b1 (gR μ v0 3 0) (fun x50 => b1 (aR μ x50 6 (v2 - 1)) (fun x56 => b1 (aI μ x56 0 v4) (fun x59 => b1 (gR μ v0 3 0) (fun x61 => b1 (aR μ x61 6 v2) (fun x65 => b1 (aI μ x65 0 (v4 - 1)) (fun x70 => b2 (S_Ma_min x59 x70 μ) (fun x71 m71 => b0 (x71 + 1) (fun x76 => b2 (S_Ma_min x47 x76 m71) (fun x82 m82 => if v2 ≤ 1 then B_Ec_leastFor_130 v0 v2 v4 x82 m82 else if v4 ≤ 1 then B_Ec_leastFor_130 v0 v2 v4 x82 m82 else b1 (aI m82 v1 2 (v2 - 1)) (fun x102 => b1 (aI m82 v3 2 (v4 - 2)) (fun x108 => if x102 = x108 then b1 (aI m82 v1 2 (v2 - 2)) (fun x116 => b1 (aI m82 v3 2 (v4 - 1)) (fun x122 => if x116 = x122 then B_Ec_leastFor_131 v0 v2 v4 x82 1 m82 else B_Ec_leastFor_130 v0 v2 v4 x82 m82)) else B_Ec_leastFor_130 v0 v2 v4 x82 m82))))))))))))) = some (r, μ') := h
  refine wm_iadd E dEc_leastFor_46 ?_
  refine wm_letI h (fun x47 h => ?_)
  refine wm_istore (lv' := [(5, vI x47), (0, vR v0), (1, vR v1), (2, vI v2), (3, vR v3), (4, vI v4)]) E dEc_leastFor_47 (by decide) rfl ?_
  refine wm_aload_n E dEc_leastFor_49 rfl (j := 1) rfl ?_
  refine wm_gR E fd_Ec_11 h dEc_leastFor_50 (fun x50 h => ?_)
  refine wm_iload_n E dEc_leastFor_53 rfl (j := 3) rfl ?_
  refine wm_iconst (x := 1) E dEc_leastFor_54 (by decide) ?_
  refine wm_isub E dEc_leastFor_55 ?_
  refine wm_aald (t := 6) E rfl rfl h dEc_leastFor_56 (fun x56 h => ?_)
  refine wm_iload E dEc_leastFor_57 (j := 5) rfl ?_
  refine wm_iald (t := 0) E rfl h dEc_leastFor_59 (fun x59 h => ?_)
  refine wm_aload_n E dEc_leastFor_60 rfl (j := 1) rfl ?_
  refine wm_gR E fd_Ec_11 h dEc_leastFor_61 (fun x61 h => ?_)
  refine wm_iload_n E dEc_leastFor_64 rfl (j := 3) rfl ?_
  refine wm_aald (t := 6) E rfl rfl h dEc_leastFor_65 (fun x65 h => ?_)
  refine wm_iload E dEc_leastFor_66 (j := 5) rfl ?_
  refine wm_iconst (x := 1) E dEc_leastFor_68 (by decide) ?_
  refine wm_isub E dEc_leastFor_69 ?_
  refine wm_iald (t := 0) E rfl h dEc_leastFor_70 (fun x70 h => ?_)
  obtain ⟨x71, m71, hc71, h⟩ := b2S h
  refine wm_cS (As := [vI x59, vI x70]) (st := []) E lk_Ec_30 sc_Ma_min (C_Ma_min (xl X) X.1 x59 x70 μ _ _ hc71) rfl rfl (by rw [hR]; decide) (by rw [hR]; decide) (Nat.le_of_ble_eq_true rfl) dEc_leastFor_71 ?_
  refine wm_iconst (x := 1) E dEc_leastFor_74 (by decide) ?_
  refine wm_iadd E dEc_leastFor_75 ?_
  refine wm_letI h (fun x76 h => ?_)
  refine wm_istore (lv' := [(6, vI x76), (5, vI x47), (0, vR v0), (1, vR v1), (2, vI v2), (3, vR v3), (4, vI v4)]) E dEc_leastFor_76 (by decide) rfl ?_
  refine wm_iload E dEc_leastFor_78 (j := 1) rfl ?_
  refine wm_iload E dEc_leastFor_80 (j := 0) rfl ?_
  obtain ⟨x82, m82, hc82, h⟩ := b2S h
  refine wm_cS (As := [vI x47, vI x76]) (st := []) E lk_Ec_30 sc_Ma_min (C_Ma_min (xl X) X.1 x47 x76 m71 _ _ hc82) rfl rfl (by rw [hR]; decide) (by rw [hR]; decide) (Nat.le_of_ble_eq_true rfl) dEc_leastFor_82 ?_
  refine wm_istore (lv' := [(7, vI x82), (6, vI x76), (5, vI x47), (0, vR v0), (1, vR v1), (2, vI v2), (3, vR v3), (4, vI v4)]) E dEc_leastFor_85 (by decide) rfl ?_
  refine wm_iload_n E dEc_leastFor_87 rfl (j := 5) rfl ?_
  refine wm_iconst (x := 1) E dEc_leastFor_88 (by decide) ?_
  refine wm_icmp_le (tgt := 130) E dEc_leastFor_89 (by decide) (fun c89 => ?_) (fun c89 => ?_)
  · have h := (if_pos c89).symm.trans h
    refine wm_pick (lv' := [(0, vR v0), (2, vI v2), (4, vI v4), (7, vI x82)]) [3, 5, 7, 0] rfl ?_
    exact w_Ec_leastFor_130 E hQ hR hI v0 v2 v4 x82 m82 h
  · have h := (if_neg c89).symm.trans h
    refine wm_iload E dEc_leastFor_92 (j := 7) rfl ?_
    refine wm_iconst (x := 1) E dEc_leastFor_94 (by decide) ?_
    refine wm_icmp_le (tgt := 130) E dEc_leastFor_95 (by decide) (fun c95 => ?_) (fun c95 => ?_)
    · have h := (if_pos c95).symm.trans h
      refine wm_pick (lv' := [(0, vR v0), (2, vI v2), (4, vI v4), (7, vI x82)]) [3, 5, 7, 0] rfl ?_
      exact w_Ec_leastFor_130 E hQ hR hI v0 v2 v4 x82 m82 h
    · have h := (if_neg c95).symm.trans h
      refine wm_aload_n E dEc_leastFor_98 rfl (j := 4) rfl ?_
      refine wm_iload_n E dEc_leastFor_99 rfl (j := 5) rfl ?_
      refine wm_iconst (x := 1) E dEc_leastFor_100 (by decide) ?_
      refine wm_isub E dEc_leastFor_101 ?_
      refine wm_cald (t := 2) E rfl h dEc_leastFor_102 (fun x102 h => ?_)
      refine wm_aload_n E dEc_leastFor_103 rfl (j := 6) rfl ?_
      refine wm_iload E dEc_leastFor_104 (j := 7) rfl ?_
      refine wm_iconst (x := 2) E dEc_leastFor_106 (by decide) ?_
      refine wm_isub E dEc_leastFor_107 ?_
      refine wm_cald (t := 2) E rfl h dEc_leastFor_108 (fun x108 h => ?_)
      refine wm_icmp_ne (tgt := 130) E dEc_leastFor_109 (by decide) (fun c109 => ?_) (fun c109 => ?_)
      · have h := (if_neg c109).symm.trans h
        refine wm_pick (lv' := [(0, vR v0), (2, vI v2), (4, vI v4), (7, vI x82)]) [3, 5, 7, 0] rfl ?_
        exact w_Ec_leastFor_130 E hQ hR hI v0 v2 v4 x82 m82 h
      · have h := (if_pos c109).symm.trans h
        refine wm_aload_n E dEc_leastFor_112 rfl (j := 4) rfl ?_
        refine wm_iload_n E dEc_leastFor_113 rfl (j := 5) rfl ?_
        refine wm_iconst (x := 2) E dEc_leastFor_114 (by decide) ?_
        refine wm_isub E dEc_leastFor_115 ?_
        refine wm_cald (t := 2) E rfl h dEc_leastFor_116 (fun x116 h => ?_)
        refine wm_aload_n E dEc_leastFor_117 rfl (j := 6) rfl ?_
        refine wm_iload E dEc_leastFor_118 (j := 7) rfl ?_
        refine wm_iconst (x := 1) E dEc_leastFor_120 (by decide) ?_
        refine wm_isub E dEc_leastFor_121 ?_
        refine wm_cald (t := 2) E rfl h dEc_leastFor_122 (fun x122 h => ?_)
        refine wm_icmp_ne (tgt := 130) E dEc_leastFor_123 (by decide) (fun c123 => ?_) (fun c123 => ?_)
        · have h := (if_neg c123).symm.trans h
          refine wm_pick (lv' := [(0, vR v0), (2, vI v2), (4, vI v4), (7, vI x82)]) [3, 5, 7, 0] rfl ?_
          exact w_Ec_leastFor_130 E hQ hR hI v0 v2 v4 x82 m82 h
        · have h := (if_pos c123).symm.trans h
          refine wm_iconst (x := 1) E dEc_leastFor_126 (by decide) ?_
          refine wm_goto (tgt := 131) E dEc_leastFor_127 (by decide) ?_
          refine wm_pick (lv' := [(0, vR v0), (2, vI v2), (4, vI v4), (7, vI x82)]) [3, 5, 7, 0] rfl ?_
          exact w_Ec_leastFor_131 E hQ hR hI v0 v2 v4 x82 1 m82 h
def S_Ec_leastFor (v0 : Option Nat) (v1 : Option Nat) (v2 : Int32) (v3 : Option Nat) (v4 : Int32) (μ : Mem) : Option (Int32 × Mem) := if v2 = 0 then B_Ec_leastFor_9 v2 v4 μ else if v4 = 0 then B_Ec_leastFor_9 v2 v4 μ else b1 (gR μ v0 3 0) (fun x15 => b1 (aR μ x15 6 (v2 - 1)) (fun x21 => b1 (aI μ x21 0 (v4 - 1)) (fun x26 => b1 (aI μ v1 2 (v2 - 1)) (fun x31 => b1 (aI μ v3 2 (v4 - 1)) (fun x37 => if x31 = x37 then B_Ec_leastFor_46 v0 v1 v2 v3 v4 x26 0 μ else B_Ec_leastFor_46 v0 v1 v2 v3 v4 x26 1 μ)))))
set_option maxHeartbeats 4000000 in
set_option maxRecDepth 100000 in
theorem C_Ec_leastFor (l : Launch) (G : GG) (v0 : Option Nat) (v1 : Option Nat) (v2 : Int32) (v3 : Option Nat) (v4 : Int32) (μ μ' : Mem) (r : Int32) (h : S_Ec_leastFor v0 v1 v2 v3 v4 μ = some (r, μ')) : CT l G y_Ec_leastFor prog_4_method_3_code 9 (some .int) 1 0 0 21 μ [vR v0, vR v1, vI v2, vR v3, vI v4] (some (vI r)) μ' := by
  refine wm_met (lv := [(0, vR v0), (1, vR v1), (2, vI v2), (3, vR v3), (4, vI v4)]) (by decide +kernel) (Nat.le_of_ble_eq_true rfl) rfl (fun X E hQ hR hI => ?_)
  have h : (if v2 = 0 then B_Ec_leastFor_9 v2 v4 μ else if v4 = 0 then B_Ec_leastFor_9 v2 v4 μ else b1 (gR μ v0 3 0) (fun x15 => b1 (aR μ x15 6 (v2 - 1)) (fun x21 => b1 (aI μ x21 0 (v4 - 1)) (fun x26 => b1 (aI μ v1 2 (v2 - 1)) (fun x31 => b1 (aI μ v3 2 (v4 - 1)) (fun x37 => if x31 = x37 then B_Ec_leastFor_46 v0 v1 v2 v3 v4 x26 0 μ else B_Ec_leastFor_46 v0 v1 v2 v3 v4 x26 1 μ)))))) = some (r, μ') := h
  refine wm_iload_n E dEc_leastFor_0 rfl (j := 2) rfl ?_
  refine wm_if_eq (tgt := 9) E dEc_leastFor_1 (by decide) (fun c1 => ?_) (fun c1 => ?_)
  · have h := (if_pos c1).symm.trans h
    refine wm_pick (lv' := [(2, vI v2), (4, vI v4)]) [2, 4] rfl ?_
    exact w_Ec_leastFor_9 E hQ hR hI v2 v4 μ h
  · have h := (if_neg c1).symm.trans h
    refine wm_iload E dEc_leastFor_4 (j := 4) rfl ?_
    refine wm_if_ne (tgt := 14) E dEc_leastFor_6 (by decide) (fun c6 => ?_) (fun c6 => ?_)
    · have h := (if_neg c6).symm.trans h
      refine wm_aload_n E dEc_leastFor_14 rfl (j := 0) rfl ?_
      refine wm_gR E fd_Ec_11 h dEc_leastFor_15 (fun x15 h => ?_)
      refine wm_iload_n E dEc_leastFor_18 rfl (j := 2) rfl ?_
      refine wm_iconst (x := 1) E dEc_leastFor_19 (by decide) ?_
      refine wm_isub E dEc_leastFor_20 ?_
      refine wm_aald (t := 6) E rfl rfl h dEc_leastFor_21 (fun x21 h => ?_)
      refine wm_iload E dEc_leastFor_22 (j := 4) rfl ?_
      refine wm_iconst (x := 1) E dEc_leastFor_24 (by decide) ?_
      refine wm_isub E dEc_leastFor_25 ?_
      refine wm_iald (t := 0) E rfl h dEc_leastFor_26 (fun x26 h => ?_)
      refine wm_aload_n E dEc_leastFor_27 rfl (j := 1) rfl ?_
      refine wm_iload_n E dEc_leastFor_28 rfl (j := 2) rfl ?_
      refine wm_iconst (x := 1) E dEc_leastFor_29 (by decide) ?_
      refine wm_isub E dEc_leastFor_30 ?_
      refine wm_cald (t := 2) E rfl h dEc_leastFor_31 (fun x31 h => ?_)
      refine wm_aload_n E dEc_leastFor_32 rfl (j := 3) rfl ?_
      refine wm_iload E dEc_leastFor_33 (j := 4) rfl ?_
      refine wm_iconst (x := 1) E dEc_leastFor_35 (by decide) ?_
      refine wm_isub E dEc_leastFor_36 ?_
      refine wm_cald (t := 2) E rfl h dEc_leastFor_37 (fun x37 h => ?_)
      refine wm_icmp_ne (tgt := 45) E dEc_leastFor_38 (by decide) (fun c38 => ?_) (fun c38 => ?_)
      · have h := (if_neg c38).symm.trans h
        refine wm_iconst (x := 1) E dEc_leastFor_45 (by decide) ?_
        refine wm_pick (lv' := [(0, vR v0), (1, vR v1), (2, vI v2), (3, vR v3), (4, vI v4)]) [0, 1, 2, 3, 4] rfl ?_
        exact w_Ec_leastFor_46 E hQ hR hI v0 v1 v2 v3 v4 x26 1 μ h
      · have h := (if_pos c38).symm.trans h
        refine wm_iconst (x := 0) E dEc_leastFor_41 (by decide) ?_
        refine wm_goto (tgt := 46) E dEc_leastFor_42 (by decide) ?_
        refine wm_pick (lv' := [(0, vR v0), (1, vR v1), (2, vI v2), (3, vR v3), (4, vI v4)]) [0, 1, 2, 3, 4] rfl ?_
        exact w_Ec_leastFor_46 E hQ hR hI v0 v1 v2 v3 v4 x26 0 μ h
    · have h := (if_pos c6).symm.trans h
      refine wm_pick (lv' := [(2, vI v2), (4, vI v4)]) [2, 4] rfl ?_
      exact w_Ec_leastFor_9 E hQ hR hI v2 v4 μ h
def B_Ec_count_13 (k2 : Option Nat → Option Nat → Option Nat → Int32 → Mem → Option (Int32 × Mem)) : Nat → Option Nat → Option Nat → Option Nat → Int32 → Int32 → Mem → Option (Int32 × Mem)
  | 0, _, _, _, _, _, _ => none
  | n + 1, v0, v1, v2, v3, v4, μ => b1 (gI μ v2 10 1) (fun x16 => if x16 < v4 then k2 v0 v1 v2 (v3 + 1) μ else b1 (gR μ v0 3 0) (fun x23 => b1 (aR μ x23 6 v3) (fun x27 => b1 (gR μ v1 10 0) (fun x32 => b1 (gR μ v2 10 0) (fun x37 => b1 (rc μ v0 3) (fun _ => b2 (S_Ec_leastFor v0 x32 v3 x37 v4 μ) (fun x42 m42 => b1 (sI m42 x27 0 v4 x42) (fun m45 => (fun v0 v1 v2 v3 v4 μ => B_Ec_count_13 k2 n v0 v1 v2 v3 v4 μ) v0 v1 v2 v3 (v4 + 1) m45))))))))
set_option maxHeartbeats 4000000 in
set_option maxRecDepth 100000 in
theorem w_Ec_count_13 {X : CX} (E : EV X prog_4_method_2_code 5 "PlaceFinder$ErrorCounter" (some .int)) {μ0 μ' : Mem} {r : Int32} (hQ : RQ X 0 0 μ0 (some (vI r)) μ') (hR : xR X = { frames := 2, cells := 0, slots := 0, locals := 49 }) (hI : X.2.2.2.2.2.2.2.2.2.2.2.1.name = "count") (k2 : Option Nat → Option Nat → Option Nat → Int32 → Mem → Option (Int32 × Mem)) (hk2 : ∀ (v0 : Option Nat) (v1 : Option Nat) (v2 : Option Nat) (v3 : Int32) (μ : Mem), k2 v0 v1 v2 v3 μ = some (r, μ') → WM X 5 2 [(0, vR v0), (1, vR v1), (2, vR v2), (3, vI v3)] [] 0 0 μ) (n : Nat) : ∀ (v0 : Option Nat) (v1 : Option Nat) (v2 : Option Nat) (v3 : Int32) (v4 : Int32) (μ : Mem) (h : B_Ec_count_13 k2 n v0 v1 v2 v3 v4 μ = some (r, μ')), WM X 5 13 [(0, vR v0), (1, vR v1), (2, vR v2), (3, vI v3), (4, vI v4)] [] 0 0 μ := by
  induction n with
  | zero => intro v0 v1 v2 v3 v4 μ h; cases h
  | succ n ih =>
    intro v0 v1 v2 v3 v4 μ h
    have h : (b1 (gI μ v2 10 1) (fun x16 => if x16 < v4 then k2 v0 v1 v2 (v3 + 1) μ else b1 (gR μ v0 3 0) (fun x23 => b1 (aR μ x23 6 v3) (fun x27 => b1 (gR μ v1 10 0) (fun x32 => b1 (gR μ v2 10 0) (fun x37 => b1 (rc μ v0 3) (fun _ => b2 (S_Ec_leastFor v0 x32 v3 x37 v4 μ) (fun x42 m42 => b1 (sI m42 x27 0 v4 x42) (fun m45 => (fun v0 v1 v2 v3 v4 μ => B_Ec_count_13 k2 n v0 v1 v2 v3 v4 μ) v0 v1 v2 v3 (v4 + 1) m45))))))))) = some (r, μ') := h
    refine wm_iload E dEc_count_13 (j := 4) rfl ?_
    refine wm_aload_n E dEc_count_15 rfl (j := 2) rfl ?_
    refine wm_gI E fd_Ec_16 h dEc_count_16 (fun x16 h => ?_)
    refine wm_icmp_gt (tgt := 52) E dEc_count_19 (by decide) (fun c19 => ?_) (fun c19 => ?_)
    · have h := (if_pos c19).symm.trans h
      refine wm_iinc (lv' := [(3, vI (v3 + 1)), (0, vR v0), (1, vR v1), (2, vR v2), (4, vI v4)]) (d := 1) E dEc_count_52 (by decide) (j := 3) rfl (by decide) rfl ?_
      refine wm_goto (tgt := 2) E dEc_count_55 (by decide) ?_
      refine wm_pick (lv' := [(0, vR v0), (1, vR v1), (2, vR v2), (3, vI (v3 + 1))]) [1, 2, 3, 0] rfl ?_
      exact hk2 v0 v1 v2 (v3 + 1) μ h
    · have h := (if_neg c19).symm.trans h
      refine wm_aload_n E dEc_count_22 rfl (j := 0) rfl ?_
      refine wm_gR E fd_Ec_11 h dEc_count_23 (fun x23 h => ?_)
      refine wm_iload_n E dEc_count_26 rfl (j := 3) rfl ?_
      refine wm_aald (t := 6) E rfl rfl h dEc_count_27 (fun x27 h => ?_)
      refine wm_iload E dEc_count_28 (j := 4) rfl ?_
      refine wm_aload_n E dEc_count_30 rfl (j := 0) rfl ?_
      refine wm_aload_n E dEc_count_31 rfl (j := 1) rfl ?_
      refine wm_gR E fd_Ec_22 h dEc_count_32 (fun x32 h => ?_)
      refine wm_iload_n E dEc_count_35 rfl (j := 3) rfl ?_
      refine wm_aload_n E dEc_count_36 rfl (j := 2) rfl ?_
      refine wm_gR E fd_Ec_22 h dEc_count_37 (fun x37 h => ?_)
      refine wm_iload E dEc_count_40 (j := 4) rfl ?_
      obtain ⟨u42, hr42, h⟩ := b1S h
      obtain ⟨x42, m42, hc42, h⟩ := b2S h
      refine wm_cV (ci := 3) (As := [vR x32, vI v3, vR x37, vI v4]) (st := [vI v4, vR x27]) E lk_Ec_26 rfl im_Ec_leastFor sl_Ec_leastFor hr42 (C_Ec_leastFor (xl X) X.1 v0 x32 v3 x37 v4 μ _ _ hc42) rfl rfl (by rw [hR]; decide) (by rw [hR]; decide) (Nat.le_of_ble_eq_true rfl) dEc_count_42 ?_
      refine wm_iast (t := 0) E rfl h dEc_count_45 (fun m45 h => ?_)
      refine wm_iinc (lv' := [(4, vI (v4 + 1)), (0, vR v0), (1, vR v1), (2, vR v2), (3, vI v3)]) (d := 1) E dEc_count_46 (by decide) (j := 4) rfl (by decide) rfl ?_
      refine wm_goto (tgt := 13) E dEc_count_49 (by decide) ?_
      refine wm_pick (lv' := [(0, vR v0), (1, vR v1), (2, vR v2), (3, vI v3), (4, vI (v4 + 1))]) [1, 2, 3, 4, 0] rfl ?_
      exact ih v0 v1 v2 v3 (v4 + 1) m45 h
def B_Ec_count_2  : Nat → Option Nat → Option Nat → Option Nat → Int32 → Mem → Option (Int32 × Mem)
  | 0, _, _, _, _, _ => none
  | n + 1, v0, v1, v2, v3, μ => b1 (gI μ v1 10 1) (fun x4 => if x4 < v3 then b1 (gR μ v0 3 0) (fun x59 => b1 (gI μ v1 10 1) (fun x63 => b1 (aR μ x59 6 x63) (fun x66 => b1 (gI μ v2 10 1) (fun x68 => b1 (aI μ x66 0 x68) (fun x71 => some (x71, μ)))))) else B_Ec_count_13 (fun v0 v1 v2 v3 μ => B_Ec_count_2 n v0 v1 v2 v3 μ) fu v0 v1 v2 v3 0 μ)
set_option maxHeartbeats 4000000 in
set_option maxRecDepth 100000 in
theorem w_Ec_count_2 {X : CX} (E : EV X prog_4_method_2_code 5 "PlaceFinder$ErrorCounter" (some .int)) {μ0 μ' : Mem} {r : Int32} (hQ : RQ X 0 0 μ0 (some (vI r)) μ') (hR : xR X = { frames := 2, cells := 0, slots := 0, locals := 49 }) (hI : X.2.2.2.2.2.2.2.2.2.2.2.1.name = "count")  (n : Nat) : ∀ (v0 : Option Nat) (v1 : Option Nat) (v2 : Option Nat) (v3 : Int32) (μ : Mem) (h : B_Ec_count_2  n v0 v1 v2 v3 μ = some (r, μ')), WM X 5 2 [(0, vR v0), (1, vR v1), (2, vR v2), (3, vI v3)] [] 0 0 μ := by
  induction n with
  | zero => intro v0 v1 v2 v3 μ h; cases h
  | succ n ih =>
    intro v0 v1 v2 v3 μ h
    have h : (b1 (gI μ v1 10 1) (fun x4 => if x4 < v3 then b1 (gR μ v0 3 0) (fun x59 => b1 (gI μ v1 10 1) (fun x63 => b1 (aR μ x59 6 x63) (fun x66 => b1 (gI μ v2 10 1) (fun x68 => b1 (aI μ x66 0 x68) (fun x71 => some (x71, μ)))))) else B_Ec_count_13 (fun v0 v1 v2 v3 μ => B_Ec_count_2 n v0 v1 v2 v3 μ) fu v0 v1 v2 v3 0 μ)) = some (r, μ') := h
    refine wm_iload_n E dEc_count_2 rfl (j := 3) rfl ?_
    refine wm_aload_n E dEc_count_3 rfl (j := 1) rfl ?_
    refine wm_gI E fd_Ec_16 h dEc_count_4 (fun x4 h => ?_)
    refine wm_icmp_gt (tgt := 58) E dEc_count_7 (by decide) (fun c7 => ?_) (fun c7 => ?_)
    · have h := (if_pos c7).symm.trans h
      refine wm_aload_n E dEc_count_58 rfl (j := 0) rfl ?_
      refine wm_gR E fd_Ec_11 h dEc_count_59 (fun x59 h => ?_)
      refine wm_aload_n E dEc_count_62 rfl (j := 1) rfl ?_
      refine wm_gI E fd_Ec_16 h dEc_count_63 (fun x63 h => ?_)
      refine wm_aald (t := 6) E rfl rfl h dEc_count_66 (fun x66 h => ?_)
      refine wm_aload_n E dEc_count_67 rfl (j := 2) rfl ?_
      refine wm_gI E fd_Ec_16 h dEc_count_68 (fun x68 h => ?_)
      refine wm_iald (t := 0) E rfl h dEc_count_71 (fun x71 h => ?_)
      exact wm_iret (rt := .int) E hQ (rtI h) (rtM h) (by decide) (by decide) dEc_count_72
    · have h := (if_neg c7).symm.trans h
      refine wm_iconst (x := 0) E dEc_count_10 (by decide) ?_
      refine wm_istore (lv' := [(4, vI 0), (0, vR v0), (1, vR v1), (2, vR v2), (3, vI v3)]) E dEc_count_11 (by decide) rfl ?_
      refine wm_pick (lv' := [(0, vR v0), (1, vR v1), (2, vR v2), (3, vI v3), (4, vI 0)]) [1, 2, 3, 4, 0] rfl ?_
      exact w_Ec_count_13 E hQ hR hI (fun v0 v1 v2 v3 μ => B_Ec_count_2 n v0 v1 v2 v3 μ) ih fu v0 v1 v2 v3 0 μ h
def S_Ec_count (v0 : Option Nat) (v1 : Option Nat) (v2 : Option Nat) (μ : Mem) : Option (Int32 × Mem) := B_Ec_count_2 fu v0 v1 v2 0 μ
set_option maxHeartbeats 4000000 in
set_option maxRecDepth 100000 in
theorem C_Ec_count (l : Launch) (G : GG) (v0 : Option Nat) (v1 : Option Nat) (v2 : Option Nat) (μ μ' : Mem) (r : Int32) (h : S_Ec_count v0 v1 v2 μ = some (r, μ')) : CT l G y_Ec_count prog_4_method_2_code 5 (some .int) 2 0 0 49 μ [vR v0, vR v1, vR v2] (some (vI r)) μ' := by
  refine wm_met (lv := [(0, vR v0), (1, vR v1), (2, vR v2)]) (by decide +kernel) (Nat.le_of_ble_eq_true rfl) rfl (fun X E hQ hR hI => ?_)
  have h : (B_Ec_count_2 fu v0 v1 v2 0 μ) = some (r, μ') := h
  refine wm_iconst (x := 0) E dEc_count_0 (by decide) ?_
  refine wm_istore_n (lv' := [(3, vI 0), (0, vR v0), (1, vR v1), (2, vR v2)]) E dEc_count_1 rfl (by decide) rfl ?_
  refine wm_pick (lv' := [(0, vR v0), (1, vR v1), (2, vR v2), (3, vI 0)]) [1, 2, 3, 0] rfl ?_
  exact w_Ec_count_2 E hQ hR hI fu v0 v1 v2 0 μ h
def S_Sv_length (v0 : Option Nat) (μ : Mem) : Option (Int32 × Mem) := b1 (aLen μ v0) (fun x1 => some (x1 >>> (1 &&& 31), μ))
set_option maxHeartbeats 4000000 in
set_option maxRecDepth 100000 in
theorem C_Sv_length (l : Launch) (G : GG) (v0 : Option Nat) (μ μ' : Mem) (r : Int32) (h : S_Sv_length v0 μ = some (r, μ')) : CT l G y_Sv_length prog_27_method_6_code 1 (some .int) 0 0 0 0 μ [vR v0] (some (vI r)) μ' := by
  refine wm_met (lv := [(0, vR v0)]) (by decide +kernel) (Nat.le_of_ble_eq_true rfl) rfl (fun X E hQ hR hI => ?_)
  have h : (b1 (aLen μ v0) (fun x1 => some (x1 >>> (1 &&& 31), μ))) = some (r, μ') := h
  refine wm_aload_n E dSv_length_0 rfl (j := 0) rfl ?_
  refine wm_alen E h dSv_length_1 (fun x1 h => ?_)
  refine wm_iconst (x := 1) E dSv_length_2 (by decide) ?_
  refine wm_ishr E dSv_length_3 ?_
  exact wm_iret (rt := .int) E hQ (rtI h) (rtM h) (by decide) (by decide) dSv_length_4
def B_Ma_min2_11  (s0 : Int64) (μ : Mem) : Option (Int64 × Mem) := some (s0, μ)
set_option maxHeartbeats 4000000 in
set_option maxRecDepth 100000 in
theorem w_Ma_min2_11 {X : CX} (E : EV X prog_23_method_70_code 4 "java/lang/Math" (some .long)) {μ0 μ' : Mem} {r : Int64} (hQ : RQ X 0 0 μ0 (some (vL r)) μ') (hR : xR X = { frames := 0, cells := 0, slots := 0, locals := 0 }) (hI : X.2.2.2.2.2.2.2.2.2.2.2.1.name = "min")  (s0 : Int64) (μ : Mem) (h : B_Ma_min2_11  s0 μ = some (r, μ')) : WM X 4 11 [] [vL s0] 0 0 μ := by
  have h : (some (s0, μ)) = some (r, μ') := h
  exact wm_lret (rt := .long) E hQ (rtL h) (rtM h) (by decide) (by decide) dMa_min2_11
def S_Ma_min2 (v0 : Int64) (v2 : Int64) (μ : Mem) : Option (Int64 × Mem) := if 0 < (lg_cmp v0 v2) then B_Ma_min2_11 v2 μ else B_Ma_min2_11 v0 μ
set_option maxHeartbeats 4000000 in
set_option maxRecDepth 100000 in
theorem C_Ma_min2 (l : Launch) (G : GG) (v0 : Int64) (v2 : Int64) (μ μ' : Mem) (r : Int64) (h : S_Ma_min2 v0 v2 μ = some (r, μ')) : CT l G y_Ma_min2 prog_23_method_70_code 4 (some .long) 0 0 0 0 μ [vL v0, vL v2] (some (vL r)) μ' := by
  refine wm_met (lv := [(0, vL v0), (2, vL v2)]) (by decide +kernel) (Nat.le_of_ble_eq_true rfl) rfl (fun X E hQ hR hI => ?_)
  have h : (if 0 < (lg_cmp v0 v2) then B_Ma_min2_11 v2 μ else B_Ma_min2_11 v0 μ) = some (r, μ') := h
  refine wm_lload_n E dMa_min2_0 rfl (j := 0) rfl ?_
  refine wm_lload_n E dMa_min2_1 rfl (j := 1) rfl ?_
  refine wm_lcmp E dMa_min2_2 ?_
  refine wm_if_gt (tgt := 10) E dMa_min2_3 (by decide) (fun c3 => ?_) (fun c3 => ?_)
  · have h := (if_pos c3).symm.trans h
    refine wm_lload_n E dMa_min2_10 rfl (j := 1) rfl ?_
    refine wm_pick (lv' := []) [] rfl ?_
    exact w_Ma_min2_11 E hQ hR hI v2 μ h
  · have h := (if_neg c3).symm.trans h
    refine wm_lload_n E dMa_min2_6 rfl (j := 0) rfl ?_
    refine wm_goto (tgt := 11) E dMa_min2_7 (by decide) ?_
    refine wm_pick (lv' := []) [] rfl ?_
    exact w_Ma_min2_11 E hQ hR hI v0 μ h
def B_Pl_squareTo_24  (s0 : Int32) (μ : Mem) : Option (Int32 × Mem) := some (s0, μ)
set_option maxHeartbeats 4000000 in
set_option maxRecDepth 100000 in
theorem w_Pl_squareTo_24 {X : CX} (E : EV X prog_8_method_7_code 5 "PlaceFinder$Place" (some .int)) {μ0 μ' : Mem} {r : Int32} (hQ : RQ X 0 0 μ0 (some (vI r)) μ') (hR : xR X = { frames := 4, cells := 0, slots := 0, locals := 87 }) (hI : X.2.2.2.2.2.2.2.2.2.2.2.1.name = "squareTo")  (s0 : Int32) (μ : Mem) (h : B_Pl_squareTo_24  s0 μ = some (r, μ')) : WM X 5 24 [] [vI s0] 0 0 μ := by
  have h : (some (s0, μ)) = some (r, μ') := h
  exact wm_iret (rt := .int) E hQ (rtI h) (rtM h) (by decide) (by decide) dPl_squareTo_24
def S_Pl_squareTo (v0 : Option Nat) (v1 : Int32) (v2 : Int32) (v3 : Int32) (μ : Mem) : Option (Int32 × Mem) := b1 (rc μ v0 7) (fun _ => b2 (S_Pl_shapeOn v0 v3 μ) (fun x2 m2 => if x2 = none then B_Pl_squareTo_24 1073741824 m2 else b1 (rc m2 x2 2) (fun _ => b2 (S_Co_squareTo x2 v1 v2 m2) (fun x21 m21 => B_Pl_squareTo_24 x21 m21))))
set_option maxHeartbeats 4000000 in
set_option maxRecDepth 100000 in
theorem C_Pl_squareTo (l : Launch) (G : GG) (v0 : Option Nat) (v1 : Int32) (v2 : Int32) (v3 : Int32) (μ μ' : Mem) (r : Int32) (h : S_Pl_squareTo v0 v1 v2 v3 μ = some (r, μ')) : CT l G y_Pl_squareTo prog_8_method_7_code 5 (some .int) 4 0 0 87 μ [vR v0, vI v1, vI v2, vI v3] (some (vI r)) μ' := by
  refine wm_met (lv := [(0, vR v0), (1, vI v1), (2, vI v2), (3, vI v3)]) (by decide +kernel) (Nat.le_of_ble_eq_true rfl) rfl (fun X E hQ hR hI => ?_)
  have h : (b1 (rc μ v0 7) (fun _ => b2 (S_Pl_shapeOn v0 v3 μ) (fun x2 m2 => if x2 = none then B_Pl_squareTo_24 1073741824 m2 else b1 (rc m2 x2 2) (fun _ => b2 (S_Co_squareTo x2 v1 v2 m2) (fun x21 m21 => B_Pl_squareTo_24 x21 m21))))) = some (r, μ') := h
  refine wm_aload_n E dPl_squareTo_0 rfl (j := 0) rfl ?_
  refine wm_iload_n E dPl_squareTo_1 rfl (j := 3) rfl ?_
  obtain ⟨u2, hr2, h⟩ := b1S h
  obtain ⟨x2, m2, hc2, h⟩ := b2S h
  refine wm_cV (ci := 7) (As := [vI v3]) (st := []) E lk_Pl_52 rfl im_Pl_shapeOn sl_Pl_shapeOn hr2 (C_Pl_shapeOn (xl X) X.1 v0 v3 μ _ _ hc2) rfl rfl (by rw [hR]; decide) (by rw [hR]; decide) (Nat.le_of_ble_eq_true rfl) dPl_squareTo_2 ?_
  refine wm_astore (lv' := [(4, vR x2), (0, vR v0), (1, vI v1), (2, vI v2), (3, vI v3)]) E dPl_squareTo_5 (by decide) rfl ?_
  refine wm_aload E dPl_squareTo_7 (j := 0) rfl ?_
  refine wm_ifnonnull (tgt := 17) E dPl_squareTo_9 (by decide) (fun c9 => ?_) (fun c9 => ?_)
  · have h := (if_neg c9).symm.trans h
    refine wm_aload E dPl_squareTo_17 (j := 0) rfl ?_
    refine wm_iload_n E dPl_squareTo_19 rfl (j := 2) rfl ?_
    refine wm_iload_n E dPl_squareTo_20 rfl (j := 3) rfl ?_
    obtain ⟨u21, hr21, h⟩ := b1S h
    obtain ⟨x21, m21, hc21, h⟩ := b2S h
    refine wm_cV (ci := 2) (As := [vI v1, vI v2]) (st := []) E lk_Pl_61 rfl im_Co_squareTo sl_Co_squareTo hr21 (C_Co_squareTo (xl X) X.1 x2 v1 v2 m2 _ _ hc21) rfl rfl (by rw [hR]; decide) (by rw [hR]; decide) (Nat.le_of_ble_eq_true rfl) dPl_squareTo_21 ?_
    refine wm_pick (lv' := []) [] rfl ?_
    exact w_Pl_squareTo_24 E hQ hR hI x21 m21 h
  · have h := (if_pos c9).symm.trans h
    refine wm_ldc (x := 1073741824) E cn_Pl_60 dPl_squareTo_12 ?_
    refine wm_goto (tgt := 24) E dPl_squareTo_14 (by decide) ?_
    refine wm_pick (lv' := []) [] rfl ?_
    exact w_Pl_squareTo_24 E hQ hR hI 1073741824 m2 h
def B_Rs_positionKey_25  (s0 : Int64) (μ : Mem) : Option (Int64 × Mem) := some (s0, μ)
set_option maxHeartbeats 4000000 in
set_option maxRecDepth 100000 in
theorem w_Rs_positionKey_25 {X : CX} (E : EV X prog_9_method_6_code 1 "PlaceFinder$RouteSearch" (some .long)) {μ0 μ' : Mem} {r : Int64} (hQ : RQ X 0 0 μ0 (some (vL r)) μ') (hR : xR X = { frames := 0, cells := 0, slots := 0, locals := 0 }) (hI : X.2.2.2.2.2.2.2.2.2.2.2.1.name = "positionKey")  (s0 : Int64) (μ : Mem) (h : B_Rs_positionKey_25  s0 μ = some (r, μ')) : WM X 1 25 [] [vL s0] 0 0 μ := by
  have h : (some (s0, μ)) = some (r, μ') := h
  exact wm_lret (rt := .long) E hQ (rtL h) (rtM h) (by decide) (by decide) dRs_positionKey_25
def S_Rs_positionKey (v0 : Option Nat) (μ : Mem) : Option (Int64 × Mem) := b1 (gI μ v0 8 0) (fun x1 => if x1 = 0 then B_Rs_positionKey_25 0 μ else b1 (gI μ v0 8 1) (fun x8 => b1 (gI μ v0 8 2) (fun x16 => B_Rs_positionKey_25 ((((x8 : Int32).toInt64) <<< ((32 : Int32).toInt64 &&& 63)) + ((x16 : Int32).toInt64)) μ)))
set_option maxHeartbeats 4000000 in
set_option maxRecDepth 100000 in
theorem C_Rs_positionKey (l : Launch) (G : GG) (v0 : Option Nat) (μ μ' : Mem) (r : Int64) (h : S_Rs_positionKey v0 μ = some (r, μ')) : CT l G y_Rs_positionKey prog_9_method_6_code 1 (some .long) 0 0 0 0 μ [vR v0] (some (vL r)) μ' := by
  refine wm_met (lv := [(0, vR v0)]) (by decide +kernel) (Nat.le_of_ble_eq_true rfl) rfl (fun X E hQ hR hI => ?_)
  have h : (b1 (gI μ v0 8 0) (fun x1 => if x1 = 0 then B_Rs_positionKey_25 0 μ else b1 (gI μ v0 8 1) (fun x8 => b1 (gI μ v0 8 2) (fun x16 => B_Rs_positionKey_25 ((((x8 : Int32).toInt64) <<< ((32 : Int32).toInt64 &&& 63)) + ((x16 : Int32).toInt64)) μ)))) = some (r, μ') := h
  refine wm_aload_n E dRs_positionKey_0 rfl (j := 0) rfl ?_
  refine wm_gI E fd_Rs_7 h dRs_positionKey_1 (fun x1 h => ?_)
  refine wm_if_eq (tgt := 24) E dRs_positionKey_4 (by decide) (fun c4 => ?_) (fun c4 => ?_)
  · have h := (if_pos c4).symm.trans h
    refine wm_lconst (x := 0) E dRs_positionKey_24 (by decide) ?_
    refine wm_pick (lv' := []) [] rfl ?_
    exact w_Rs_positionKey_25 E hQ hR hI 0 μ h
  · have h := (if_neg c4).symm.trans h
    refine wm_aload_n E dRs_positionKey_7 rfl (j := 0) rfl ?_
    refine wm_gI E fd_Rs_54 h dRs_positionKey_8 (fun x8 h => ?_)
    refine wm_i2l E dRs_positionKey_11 ?_
    refine wm_bipush (x := 32) E dRs_positionKey_12 (by decide) ?_
    refine wm_lshl E dRs_positionKey_14 ?_
    refine wm_aload_n E dRs_positionKey_15 rfl (j := 0) rfl ?_
    refine wm_gI E fd_Rs_57 h dRs_positionKey_16 (fun x16 h => ?_)
    refine wm_i2l E dRs_positionKey_19 ?_
    refine wm_ladd E dRs_positionKey_20 ?_
    refine wm_goto (tgt := 25) E dRs_positionKey_21 (by decide) ?_
    refine wm_pick (lv' := []) [] rfl ?_
    exact w_Rs_positionKey_25 E hQ hR hI ((((x8 : Int32).toInt64) <<< ((32 : Int32).toInt64 &&& 63)) + ((x16 : Int32).toInt64)) μ h
def S_P_routeKey (v0 : Option Nat) (v1 : Option Nat) (μ : Mem) : Option (Int64 × Mem) := if v1 = none then some (0, μ) else b1 (gR μ v0 11 11) (fun x7 => b1 (gR μ v0 11 4) (fun x11 => b1 (rc μ x7 8) (fun _ => b2 (S_Rs_start x7 x11 v1 μ) (fun x15 m15 => b1 (gR m15 v0 11 11) (fun x19 => b1 (rc m15 x19 8) (fun _ => b2 (S_Rs_positionKey x19 m15) (fun x22 m22 => some (x22, m22))))))))
set_option maxHeartbeats 4000000 in
set_option maxRecDepth 100000 in
theorem C_P_routeKey (l : Launch) (G : GG) (v0 : Option Nat) (v1 : Option Nat) (μ μ' : Mem) (r : Int64) (h : S_P_routeKey v0 v1 μ = some (r, μ')) : CT l G y_P_routeKey prog_1_method_40_code 2 (some .long) 4 0 0 108 μ [vR v0, vR v1] (some (vL r)) μ' := by
  refine wm_met (lv := [(0, vR v0), (1, vR v1)]) (by decide +kernel) (Nat.le_of_ble_eq_true rfl) rfl (fun X E hQ hR hI => ?_)
  have h : (if v1 = none then some (0, μ) else b1 (gR μ v0 11 11) (fun x7 => b1 (gR μ v0 11 4) (fun x11 => b1 (rc μ x7 8) (fun _ => b2 (S_Rs_start x7 x11 v1 μ) (fun x15 m15 => b1 (gR m15 v0 11 11) (fun x19 => b1 (rc m15 x19 8) (fun _ => b2 (S_Rs_positionKey x19 m15) (fun x22 m22 => some (x22, m22))))))))) = some (r, μ') := h
  refine wm_aload_n E dP_routeKey_0 rfl (j := 1) rfl ?_
  refine wm_ifnonnull (tgt := 6) E dP_routeKey_1 (by decide) (fun c1 => ?_) (fun c1 => ?_)
  · have h := (if_neg c1).symm.trans h
    refine wm_aload_n E dP_routeKey_6 rfl (j := 0) rfl ?_
    refine wm_gR E fd_P_69 h dP_routeKey_7 (fun x7 h => ?_)
    refine wm_aload_n E dP_routeKey_10 rfl (j := 0) rfl ?_
    refine wm_gR E fd_P_32 h dP_routeKey_11 (fun x11 h => ?_)
    refine wm_aload_n E dP_routeKey_14 rfl (j := 1) rfl ?_
    obtain ⟨u15, hr15, h⟩ := b1S h
    obtain ⟨x15, m15, hc15, h⟩ := b2S h
    refine wm_cV (ci := 8) (As := [vR x11, vR v1]) (st := []) E lk_P_372 rfl im_Rs_start sl_Rs_start hr15 (C_Rs_start (xl X) X.1 x7 x11 v1 μ _ _ hc15) rfl rfl (by rw [hR]; decide) (by rw [hR]; decide) (Nat.le_of_ble_eq_true rfl) dP_routeKey_15 ?_
    refine wm_aload_n E dP_routeKey_18 rfl (j := 0) rfl ?_
    refine wm_gR E fd_P_69 h dP_routeKey_19 (fun x19 h => ?_)
    obtain ⟨u22, hr22, h⟩ := b1S h
    obtain ⟨x22, m22, hc22, h⟩ := b2S h
    refine wm_cV (ci := 8) (As := []) (st := []) E lk_P_412 rfl im_Rs_positionKey sl_Rs_positionKey hr22 (C_Rs_positionKey (xl X) X.1 x19 m15 _ _ hc22) rfl rfl (by rw [hR]; decide) (by rw [hR]; decide) (Nat.le_of_ble_eq_true rfl) dP_routeKey_22 ?_
    exact wm_lret (rt := .long) E hQ (rtL h) (rtM h) (by decide) (by decide) dP_routeKey_25
  · have h := (if_pos c1).symm.trans h
    refine wm_lconst (x := 0) E dP_routeKey_4 (by decide) ?_
    exact wm_lret (rt := .long) E hQ (rtL h) (rtM h) (by decide) (by decide) dP_routeKey_5
def B_Hi_add_73  (v0 : Option Nat) (v1 : Int32) (v2 : Int64) (v4 : Int32) (μ : Mem) : Option (Unit × Mem) := b1 (gR μ v0 4 1) (fun x74 => b1 (sL μ x74 1 v4 v2) (fun m80 => b1 (gR m80 v0 4 0) (fun x82 => b1 (sI m80 x82 0 v4 v1) (fun m88 => b1 (gI m88 v0 4 2) (fun x91 => b1 (pV m88 v0 4 2 (vI (x91 + 1))) (fun m96 => some ((), m96)))))))
set_option maxHeartbeats 4000000 in
set_option maxRecDepth 100000 in
theorem w_Hi_add_73 {X : CX} (E : EV X prog_5_method_3_code 5 "PlaceFinder$Hits" none) {μ0 μ' : Mem} {r : Unit} (hQ : RQ X 0 0 μ0 none μ') (hR : xR X = { frames := 0, cells := 0, slots := 0, locals := 0 }) (hI : X.2.2.2.2.2.2.2.2.2.2.2.1.name = "add")  (v0 : Option Nat) (v1 : Int32) (v2 : Int64) (v4 : Int32) (μ : Mem) (h : B_Hi_add_73  v0 v1 v2 v4 μ = some (r, μ')) : WM X 5 73 [(0, vR v0), (1, vI v1), (2, vL v2), (4, vI v4)] [] 0 0 μ := by
  have h : (b1 (gR μ v0 4 1) (fun x74 => b1 (sL μ x74 1 v4 v2) (fun m80 => b1 (gR m80 v0 4 0) (fun x82 => b1 (sI m80 x82 0 v4 v1) (fun m88 => b1 (gI m88 v0 4 2) (fun x91 => b1 (pV m88 v0 4 2 (vI (x91 + 1))) (fun m96 => some ((), m96)))))))) = some (r, μ') := h
  refine wm_aload_n E dHi_add_73 rfl (j := 0) rfl ?_
  refine wm_gR E fd_Hi_15 h dHi_add_74 (fun x74 h => ?_)
  refine wm_iload E dHi_add_77 (j := 3) rfl ?_
  refine wm_lload_n E dHi_add_79 rfl (j := 2) rfl ?_
  refine wm_last (t := 1) E rfl h dHi_add_80 (fun m80 h => ?_)
  refine wm_aload_n E dHi_add_81 rfl (j := 0) rfl ?_
  refine wm_gR E fd_Hi_9 h dHi_add_82 (fun x82 h => ?_)
  refine wm_iload E dHi_add_85 (j := 3) rfl ?_
  refine wm_iload_n E dHi_add_87 rfl (j := 1) rfl ?_
  refine wm_iast (t := 0) E rfl h dHi_add_88 (fun m88 h => ?_)
  refine wm_aload_n E dHi_add_89 rfl (j := 0) rfl ?_
  refine wm_dup E dHi_add_90 rfl ?_
  refine wm_gI E fd_Hi_19 h dHi_add_91 (fun x91 h => ?_)
  refine wm_iconst (x := 1) E dHi_add_94 (by decide) ?_
  refine wm_iadd E dHi_add_95 ?_
  refine wm_pI E fp_Hi_19 (fun q => by cases q) h dHi_add_96 (fun m96 h => ?_)
  exact wm_vret E hQ rfl (rtM h) (by decide) (by decide) dHi_add_99
def B_Hi_add_16  : Nat → Option Nat → Int32 → Int64 → Int32 → Mem → Option (Unit × Mem)
  | 0, _, _, _, _, _ => none
  | n + 1, v0, v1, v2, v4, μ => if v4 ≤ 0 then B_Hi_add_73 v0 v1 v2 v4 μ else b1 (gR μ v0 4 1) (fun x22 => b1 (aL μ x22 1 (v4 - 1)) (fun x29 => if (lg_cmp x29 v2) ≤ 0 then B_Hi_add_73 v0 v1 v2 v4 μ else b1 (gR μ v0 4 1) (fun x36 => b1 (gR μ v0 4 1) (fun x42 => b1 (aL μ x42 1 (v4 - 1)) (fun x49 => b1 (sL μ x36 1 v4 x49) (fun m50 => b1 (gR m50 v0 4 0) (fun x52 => b1 (gR m50 v0 4 0) (fun x58 => b1 (aI m50 x58 0 (v4 - 1)) (fun x65 => b1 (sI m50 x52 0 v4 x65) (fun m66 => (fun v0 v1 v2 v4 μ => B_Hi_add_16 n v0 v1 v2 v4 μ) v0 v1 v2 (v4 + (-1)) m66))))))))))
set_option maxHeartbeats 4000000 in
set_option maxRecDepth 100000 in
theorem w_Hi_add_16 {X : CX} (E : EV X prog_5_method_3_code 5 "PlaceFinder$Hits" none) {μ0 μ' : Mem} {r : Unit} (hQ : RQ X 0 0 μ0 none μ') (hR : xR X = { frames := 0, cells := 0, slots := 0, locals := 0 }) (hI : X.2.2.2.2.2.2.2.2.2.2.2.1.name = "add")  (n : Nat) : ∀ (v0 : Option Nat) (v1 : Int32) (v2 : Int64) (v4 : Int32) (μ : Mem) (h : B_Hi_add_16  n v0 v1 v2 v4 μ = some (r, μ')), WM X 5 16 [(0, vR v0), (1, vI v1), (2, vL v2), (4, vI v4)] [] 0 0 μ := by
  induction n with
  | zero => intro v0 v1 v2 v4 μ h; cases h
  | succ n ih =>
    intro v0 v1 v2 v4 μ h
    have h : (if v4 ≤ 0 then B_Hi_add_73 v0 v1 v2 v4 μ else b1 (gR μ v0 4 1) (fun x22 => b1 (aL μ x22 1 (v4 - 1)) (fun x29 => if (lg_cmp x29 v2) ≤ 0 then B_Hi_add_73 v0 v1 v2 v4 μ else b1 (gR μ v0 4 1) (fun x36 => b1 (gR μ v0 4 1) (fun x42 => b1 (aL μ x42 1 (v4 - 1)) (fun x49 => b1 (sL μ x36 1 v4 x49) (fun m50 => b1 (gR m50 v0 4 0) (fun x52 => b1 (gR m50 v0 4 0) (fun x58 => b1 (aI m50 x58 0 (v4 - 1)) (fun x65 => b1 (sI m50 x52 0 v4 x65) (fun m66 => (fun v0 v1 v2 v4 μ => B_Hi_add_16 n v0 v1 v2 v4 μ) v0 v1 v2 (v4 + (-1)) m66))))))))))) = some (r, μ') := h
    refine wm_iload E dHi_add_16 (j := 3) rfl ?_
    refine wm_if_le (tgt := 73) E dHi_add_18 (by decide) (fun c18 => ?_) (fun c18 => ?_)
    · have h := (if_pos c18).symm.trans h
      refine wm_pick (lv' := [(0, vR v0), (1, vI v1), (2, vL v2), (4, vI v4)]) [0, 1, 2, 3] rfl ?_
      exact w_Hi_add_73 E hQ hR hI v0 v1 v2 v4 μ h
    · have h := (if_neg c18).symm.trans h
      refine wm_aload_n E dHi_add_21 rfl (j := 0) rfl ?_
      refine wm_gR E fd_Hi_15 h dHi_add_22 (fun x22 h => ?_)
      refine wm_iload E dHi_add_25 (j := 3) rfl ?_
      refine wm_iconst (x := 1) E dHi_add_27 (by decide) ?_
      refine wm_isub E dHi_add_28 ?_
      refine wm_lald (t := 1) E rfl h dHi_add_29 (fun x29 h => ?_)
      refine wm_lload_n E dHi_add_30 rfl (j := 2) rfl ?_
      refine wm_lcmp E dHi_add_31 ?_
      refine wm_if_le (tgt := 73) E dHi_add_32 (by decide) (fun c32 => ?_) (fun c32 => ?_)
      · have h := (if_pos c32).symm.trans h
        refine wm_pick (lv' := [(0, vR v0), (1, vI v1), (2, vL v2), (4, vI v4)]) [0, 1, 2, 3] rfl ?_
        exact w_Hi_add_73 E hQ hR hI v0 v1 v2 v4 μ h
      · have h := (if_neg c32).symm.trans h
        refine wm_aload_n E dHi_add_35 rfl (j := 0) rfl ?_
        refine wm_gR E fd_Hi_15 h dHi_add_36 (fun x36 h => ?_)
        refine wm_iload E dHi_add_39 (j := 3) rfl ?_
        refine wm_aload_n E dHi_add_41 rfl (j := 0) rfl ?_
        refine wm_gR E fd_Hi_15 h dHi_add_42 (fun x42 h => ?_)
        refine wm_iload E dHi_add_45 (j := 3) rfl ?_
        refine wm_iconst (x := 1) E dHi_add_47 (by decide) ?_
        refine wm_isub E dHi_add_48 ?_
        refine wm_lald (t := 1) E rfl h dHi_add_49 (fun x49 h => ?_)
        refine wm_last (t := 1) E rfl h dHi_add_50 (fun m50 h => ?_)
        refine wm_aload_n E dHi_add_51 rfl (j := 0) rfl ?_
        refine wm_gR E fd_Hi_9 h dHi_add_52 (fun x52 h => ?_)
        refine wm_iload E dHi_add_55 (j := 3) rfl ?_
        refine wm_aload_n E dHi_add_57 rfl (j := 0) rfl ?_
        refine wm_gR E fd_Hi_9 h dHi_add_58 (fun x58 h => ?_)
        refine wm_iload E dHi_add_61 (j := 3) rfl ?_
        refine wm_iconst (x := 1) E dHi_add_63 (by decide) ?_
        refine wm_isub E dHi_add_64 ?_
        refine wm_iald (t := 0) E rfl h dHi_add_65 (fun x65 h => ?_)
        refine wm_iast (t := 0) E rfl h dHi_add_66 (fun m66 h => ?_)
        refine wm_iinc (lv' := [(4, vI (v4 + (-1))), (0, vR v0), (1, vI v1), (2, vL v2)]) (d := (-1)) E dHi_add_67 (by decide) (j := 3) rfl (by decide) rfl ?_
        refine wm_goto (tgt := 16) E dHi_add_70 (by decide) ?_
        refine wm_pick (lv' := [(0, vR v0), (1, vI v1), (2, vL v2), (4, vI (v4 + (-1)))]) [1, 2, 3, 0] rfl ?_
        exact ih v0 v1 v2 (v4 + (-1)) m66 h
def S_Hi_add (v0 : Option Nat) (v1 : Int32) (v2 : Int64) (μ : Mem) : Option (Unit × Mem) := b1 (gI μ v0 4 2) (fun x1 => if x1 < 30 then b1 (gI μ v0 4 2) (fun x11 => B_Hi_add_16 fu v0 v1 v2 x11 μ) else some ((), μ))
set_option maxHeartbeats 4000000 in
set_option maxRecDepth 100000 in
theorem C_Hi_add (l : Launch) (G : GG) (v0 : Option Nat) (v1 : Int32) (v2 : Int64) (μ μ' : Mem) (r : Unit) (h : S_Hi_add v0 v1 v2 μ = some (r, μ')) : CT l G y_Hi_add prog_5_method_3_code 5 none 0 0 0 0 μ [vR v0, vI v1, vL v2] none μ' := by
  refine wm_met (lv := [(0, vR v0), (1, vI v1), (2, vL v2)]) (by decide +kernel) (Nat.le_of_ble_eq_true rfl) rfl (fun X E hQ hR hI => ?_)
  have h : (b1 (gI μ v0 4 2) (fun x1 => if x1 < 30 then b1 (gI μ v0 4 2) (fun x11 => B_Hi_add_16 fu v0 v1 v2 x11 μ) else some ((), μ))) = some (r, μ') := h
  refine wm_aload_n E dHi_add_0 rfl (j := 0) rfl ?_
  refine wm_gI E fd_Hi_19 h dHi_add_1 (fun x1 h => ?_)
  refine wm_bipush (x := 30) E dHi_add_4 (by decide) ?_
  refine wm_icmp_lt (tgt := 10) E dHi_add_6 (by decide) (fun c6 => ?_) (fun c6 => ?_)
  · have h := (if_pos c6).symm.trans h
    refine wm_aload_n E dHi_add_10 rfl (j := 0) rfl ?_
    refine wm_gI E fd_Hi_19 h dHi_add_11 (fun x11 h => ?_)
    refine wm_istore (lv' := [(4, vI x11), (0, vR v0), (1, vI v1), (2, vL v2)]) E dHi_add_14 (by decide) rfl ?_
    refine wm_pick (lv' := [(0, vR v0), (1, vI v1), (2, vL v2), (4, vI x11)]) [1, 2, 3, 0] rfl ?_
    exact w_Hi_add_16 E hQ hR hI fu v0 v1 v2 x11 μ h
  · have h := (if_neg c6).symm.trans h
    exact wm_vret E hQ rfl (rtM h) (by decide) (by decide) dHi_add_9
def B_Pl_isThere_21  (s0 : Int32) (μ : Mem) : Option (Int32 × Mem) := gd (¬ okZ s0 = true) (some (s0, μ))
set_option maxHeartbeats 4000000 in
set_option maxRecDepth 100000 in
theorem w_Pl_isThere_21 {X : CX} (E : EV X prog_8_method_6_code 2 "PlaceFinder$Place" (some .boolean)) {μ0 μ' : Mem} {r : Int32} (hQ : RQ X 0 0 μ0 (some (vI r)) μ') (hR : xR X = { frames := 4, cells := 0, slots := 0, locals := 87 }) (hI : X.2.2.2.2.2.2.2.2.2.2.2.1.name = "isThere")  (s0 : Int32) (μ : Mem) (h : B_Pl_isThere_21  s0 μ = some (r, μ')) : WM X 2 21 [] [vI s0] 0 0 μ := by
  have h : (gd (¬ okZ s0 = true) (some (s0, μ))) = some (r, μ') := h
  obtain ⟨hz21, h⟩ := gdS h
  exact wm_zret (rt := .boolean) E hQ (rtI h) (rtM h) (okZN hz21) (by decide) (by decide) dPl_isThere_21
def B_Pl_isThere_20   (μ : Mem) : Option (Int32 × Mem) := B_Pl_isThere_21 0 μ
set_option maxHeartbeats 4000000 in
set_option maxRecDepth 100000 in
theorem w_Pl_isThere_20 {X : CX} (E : EV X prog_8_method_6_code 2 "PlaceFinder$Place" (some .boolean)) {μ0 μ' : Mem} {r : Int32} (hQ : RQ X 0 0 μ0 (some (vI r)) μ') (hR : xR X = { frames := 4, cells := 0, slots := 0, locals := 87 }) (hI : X.2.2.2.2.2.2.2.2.2.2.2.1.name = "isThere")   (μ : Mem) (h : B_Pl_isThere_20   μ = some (r, μ')) : WM X 2 20 [] [] 0 0 μ := by
  have h : (B_Pl_isThere_21 0 μ) = some (r, μ') := h
  refine wm_iconst (x := 0) E dPl_isThere_20 (by decide) ?_
  refine wm_pick (lv' := []) [] rfl ?_
  exact w_Pl_isThere_21 E hQ hR hI 0 μ h
def S_Pl_isThere (v0 : Option Nat) (v1 : Int32) (μ : Mem) : Option (Int32 × Mem) := b1 (rc μ v0 7) (fun _ => b2 (S_Pl_shapeOn v0 v1 μ) (fun x2 m2 => if x2 = none then B_Pl_isThere_20 m2 else b1 (rc m2 v0 7) (fun _ => b2 (S_Pl_isRemovedOn v0 v1 m2) (fun x10 m10 => if x10 = 0 then B_Pl_isThere_21 1 m10 else B_Pl_isThere_20 m10))))
set_option maxHeartbeats 4000000 in
set_option maxRecDepth 100000 in
theorem C_Pl_isThere (l : Launch) (G : GG) (v0 : Option Nat) (v1 : Int32) (μ μ' : Mem) (r : Int32) (h : S_Pl_isThere v0 v1 μ = some (r, μ')) : CT l G y_Pl_isThere prog_8_method_6_code 2 (some .boolean) 4 0 0 87 μ [vR v0, vI v1] (some (vI r)) μ' := by
  refine wm_met (lv := [(0, vR v0), (1, vI v1)]) (by decide +kernel) (Nat.le_of_ble_eq_true rfl) rfl (fun X E hQ hR hI => ?_)
  have h : (b1 (rc μ v0 7) (fun _ => b2 (S_Pl_shapeOn v0 v1 μ) (fun x2 m2 => if x2 = none then B_Pl_isThere_20 m2 else b1 (rc m2 v0 7) (fun _ => b2 (S_Pl_isRemovedOn v0 v1 m2) (fun x10 m10 => if x10 = 0 then B_Pl_isThere_21 1 m10 else B_Pl_isThere_20 m10))))) = some (r, μ') := h
  refine wm_aload_n E dPl_isThere_0 rfl (j := 0) rfl ?_
  refine wm_iload_n E dPl_isThere_1 rfl (j := 1) rfl ?_
  obtain ⟨u2, hr2, h⟩ := b1S h
  obtain ⟨x2, m2, hc2, h⟩ := b2S h
  refine wm_cV (ci := 7) (As := [vI v1]) (st := []) E lk_Pl_52 rfl im_Pl_shapeOn sl_Pl_shapeOn hr2 (C_Pl_shapeOn (xl X) X.1 v0 v1 μ _ _ hc2) rfl rfl (by rw [hR]; decide) (by rw [hR]; decide) (Nat.le_of_ble_eq_true rfl) dPl_isThere_2 ?_
  refine wm_ifnull (tgt := 20) E dPl_isThere_5 (by decide) (fun c5 => ?_) (fun c5 => ?_)
  · have h := (if_pos c5).symm.trans h
    refine wm_pick (lv' := []) [] rfl ?_
    exact w_Pl_isThere_20 E hQ hR hI m2 h
  · have h := (if_neg c5).symm.trans h
    refine wm_aload_n E dPl_isThere_8 rfl (j := 0) rfl ?_
    refine wm_iload_n E dPl_isThere_9 rfl (j := 1) rfl ?_
    obtain ⟨u10, hr10, h⟩ := b1S h
    obtain ⟨x10, m10, hc10, h⟩ := b2S h
    refine wm_cV (ci := 7) (As := [vI v1]) (st := []) E lk_Pl_56 rfl im_Pl_isRemovedOn sl_Pl_isRemovedOn hr10 (C_Pl_isRemovedOn (xl X) X.1 v0 v1 m2 _ _ hc10) rfl rfl (by rw [hR]; decide) (by rw [hR]; decide) (Nat.le_of_ble_eq_true rfl) dPl_isThere_10 ?_
    refine wm_if_ne (tgt := 20) E dPl_isThere_13 (by decide) (fun c13 => ?_) (fun c13 => ?_)
    · have h := (if_neg c13).symm.trans h
      refine wm_pick (lv' := []) [] rfl ?_
      exact w_Pl_isThere_20 E hQ hR hI m10 h
    · have h := (if_pos c13).symm.trans h
      refine wm_iconst (x := 1) E dPl_isThere_16 (by decide) ?_
      refine wm_goto (tgt := 21) E dPl_isThere_17 (by decide) ?_
      refine wm_pick (lv' := []) [] rfl ?_
      exact w_Pl_isThere_21 E hQ hR hI 1 m10 h
def S_Hi_keepFirst (v0 : Option Nat) (v1 : Int32) (μ : Mem) : Option (Unit × Mem) := b1 (gI μ v0 4 2) (fun x2 => b2 (S_Ma_min x2 v1 μ) (fun x6 m6 => b1 (pV m6 v0 4 2 (vI x6)) (fun m9 => some ((), m9))))
set_option maxHeartbeats 4000000 in
set_option maxRecDepth 100000 in
theorem C_Hi_keepFirst (l : Launch) (G : GG) (v0 : Option Nat) (v1 : Int32) (μ μ' : Mem) (r : Unit) (h : S_Hi_keepFirst v0 v1 μ = some (r, μ')) : CT l G y_Hi_keepFirst prog_5_method_4_code 2 none 1 0 0 21 μ [vR v0, vI v1] none μ' := by
  refine wm_met (lv := [(0, vR v0), (1, vI v1)]) (by decide +kernel) (Nat.le_of_ble_eq_true rfl) rfl (fun X E hQ hR hI => ?_)
  have h : (b1 (gI μ v0 4 2) (fun x2 => b2 (S_Ma_min x2 v1 μ) (fun x6 m6 => b1 (pV m6 v0 4 2 (vI x6)) (fun m9 => some ((), m9))))) = some (r, μ') := h
  refine wm_aload_n E dHi_keepFirst_0 rfl (j := 0) rfl ?_
  refine wm_aload_n E dHi_keepFirst_1 rfl (j := 0) rfl ?_
  refine wm_gI E fd_Hi_19 h dHi_keepFirst_2 (fun x2 h => ?_)
  refine wm_iload_n E dHi_keepFirst_5 rfl (j := 1) rfl ?_
  obtain ⟨x6, m6, hc6, h⟩ := b2S h
  refine wm_cS (As := [vI x2, vI v1]) (st := [vR v0]) E lk_Hi_23 sc_Ma_min (C_Ma_min (xl X) X.1 x2 v1 μ _ _ hc6) rfl rfl (by rw [hR]; decide) (by rw [hR]; decide) (Nat.le_of_ble_eq_true rfl) dHi_keepFirst_6 ?_
  refine wm_pI E fp_Hi_19 (fun q => by cases q) h dHi_keepFirst_9 (fun m9 h => ?_)
  exact wm_vret E hQ rfl (rtM h) (by decide) (by decide) dHi_keepFirst_12
def B_P_watchOf_19  (s0 : Option Nat) (μ : Mem) : Option (Option Nat × Mem) := some (s0, μ)
set_option maxHeartbeats 4000000 in
set_option maxRecDepth 100000 in
theorem w_P_watchOf_19 {X : CX} (E : EV X prog_1_method_29_code 2 "PlaceFinder" (some (.object "PlaceFinder$Watch"))) {μ0 μ' : Mem} {r : Option Nat} (hQ : RQ X 0 0 μ0 (some (vR r)) μ') (hR : xR X = { frames := 0, cells := 0, slots := 0, locals := 0 }) (hI : X.2.2.2.2.2.2.2.2.2.2.2.1.name = "watchOf")  (s0 : Option Nat) (μ : Mem) (h : B_P_watchOf_19  s0 μ = some (r, μ')) : WM X 2 19 [] [vR s0] 0 0 μ := by
  have h : (some (s0, μ)) = some (r, μ') := h
  exact wm_aret E hQ (rtR h) (rtM h) (Or.inl ⟨_, rfl⟩) (by decide) (by decide) dP_watchOf_19
def B_P_watchOf_18   (μ : Mem) : Option (Option Nat × Mem) := B_P_watchOf_19 none μ
set_option maxHeartbeats 4000000 in
set_option maxRecDepth 100000 in
theorem w_P_watchOf_18 {X : CX} (E : EV X prog_1_method_29_code 2 "PlaceFinder" (some (.object "PlaceFinder$Watch"))) {μ0 μ' : Mem} {r : Option Nat} (hQ : RQ X 0 0 μ0 (some (vR r)) μ') (hR : xR X = { frames := 0, cells := 0, slots := 0, locals := 0 }) (hI : X.2.2.2.2.2.2.2.2.2.2.2.1.name = "watchOf")   (μ : Mem) (h : B_P_watchOf_18   μ = some (r, μ')) : WM X 2 18 [] [] 0 0 μ := by
  have h : (B_P_watchOf_19 none μ) = some (r, μ') := h
  refine wm_null E dP_watchOf_18 ?_
  refine wm_pick (lv' := []) [] rfl ?_
  exact w_P_watchOf_19 E hQ hR hI none μ h
def S_P_watchOf (v0 : Option Nat) (v1 : Int32) (μ : Mem) : Option (Option Nat × Mem) := if v1 < 0 then B_P_watchOf_18 μ else if 4 ≤ v1 then B_P_watchOf_18 μ else b1 (gR μ v0 11 8) (fun x10 => b1 (aR μ x10 5 v1) (fun x14 => B_P_watchOf_19 x14 μ))
set_option maxHeartbeats 4000000 in
set_option maxRecDepth 100000 in
theorem C_P_watchOf (l : Launch) (G : GG) (v0 : Option Nat) (v1 : Int32) (μ μ' : Mem) (r : Option Nat) (h : S_P_watchOf v0 v1 μ = some (r, μ')) : CT l G y_P_watchOf prog_1_method_29_code 2 (some (.object "PlaceFinder$Watch")) 0 0 0 0 μ [vR v0, vI v1] (some (vR r)) μ' := by
  refine wm_met (lv := [(0, vR v0), (1, vI v1)]) (by decide +kernel) (Nat.le_of_ble_eq_true rfl) rfl (fun X E hQ hR hI => ?_)
  have h : (if v1 < 0 then B_P_watchOf_18 μ else if 4 ≤ v1 then B_P_watchOf_18 μ else b1 (gR μ v0 11 8) (fun x10 => b1 (aR μ x10 5 v1) (fun x14 => B_P_watchOf_19 x14 μ))) = some (r, μ') := h
  refine wm_iload_n E dP_watchOf_0 rfl (j := 1) rfl ?_
  refine wm_if_lt (tgt := 18) E dP_watchOf_1 (by decide) (fun c1 => ?_) (fun c1 => ?_)
  · have h := (if_pos c1).symm.trans h
    refine wm_pick (lv' := []) [] rfl ?_
    exact w_P_watchOf_18 E hQ hR hI μ h
  · have h := (if_neg c1).symm.trans h
    refine wm_iload_n E dP_watchOf_4 rfl (j := 1) rfl ?_
    refine wm_iconst (x := 4) E dP_watchOf_5 (by decide) ?_
    refine wm_icmp_ge (tgt := 18) E dP_watchOf_6 (by decide) (fun c6 => ?_) (fun c6 => ?_)
    · have h := (if_pos c6).symm.trans h
      refine wm_pick (lv' := []) [] rfl ?_
      exact w_P_watchOf_18 E hQ hR hI μ h
    · have h := (if_neg c6).symm.trans h
      refine wm_aload_n E dP_watchOf_9 rfl (j := 0) rfl ?_
      refine wm_gR E fd_P_48 h dP_watchOf_10 (fun x10 h => ?_)
      refine wm_iload_n E dP_watchOf_13 rfl (j := 1) rfl ?_
      refine wm_aald (t := 5) E rfl rfl h dP_watchOf_14 (fun x14 h => ?_)
      refine wm_goto (tgt := 19) E dP_watchOf_15 (by decide) ?_
      refine wm_pick (lv' := []) [] rfl ?_
      exact w_P_watchOf_19 E hQ hR hI x14 μ h
def B_Wa_hasTold_16  (s0 : Int32) (μ : Mem) : Option (Int32 × Mem) := gd (¬ okZ s0 = true) (some (s0, μ))
set_option maxHeartbeats 4000000 in
set_option maxRecDepth 100000 in
theorem w_Wa_hasTold_16 {X : CX} (E : EV X prog_10_method_2_code 2 "PlaceFinder$Watch" (some .boolean)) {μ0 μ' : Mem} {r : Int32} (hQ : RQ X 0 0 μ0 (some (vI r)) μ') (hR : xR X = { frames := 0, cells := 0, slots := 0, locals := 0 }) (hI : X.2.2.2.2.2.2.2.2.2.2.2.1.name = "hasTold")  (s0 : Int32) (μ : Mem) (h : B_Wa_hasTold_16  s0 μ = some (r, μ')) : WM X 2 16 [] [vI s0] 0 0 μ := by
  have h : (gd (¬ okZ s0 = true) (some (s0, μ))) = some (r, μ') := h
  obtain ⟨hz16, h⟩ := gdS h
  exact wm_zret (rt := .boolean) E hQ (rtI h) (rtM h) (okZN hz16) (by decide) (by decide) dWa_hasTold_16
def S_Wa_hasTold (v0 : Option Nat) (v1 : Int32) (μ : Mem) : Option (Int32 × Mem) := b1 (gI μ v0 9 3) (fun x1 => if (x1 &&& (1 <<< (v1 &&& 31))) = 0 then B_Wa_hasTold_16 0 μ else B_Wa_hasTold_16 1 μ)
set_option maxHeartbeats 4000000 in
set_option maxRecDepth 100000 in
theorem C_Wa_hasTold (l : Launch) (G : GG) (v0 : Option Nat) (v1 : Int32) (μ μ' : Mem) (r : Int32) (h : S_Wa_hasTold v0 v1 μ = some (r, μ')) : CT l G y_Wa_hasTold prog_10_method_2_code 2 (some .boolean) 0 0 0 0 μ [vR v0, vI v1] (some (vI r)) μ' := by
  refine wm_met (lv := [(0, vR v0), (1, vI v1)]) (by decide +kernel) (Nat.le_of_ble_eq_true rfl) rfl (fun X E hQ hR hI => ?_)
  have h : (b1 (gI μ v0 9 3) (fun x1 => if (x1 &&& (1 <<< (v1 &&& 31))) = 0 then B_Wa_hasTold_16 0 μ else B_Wa_hasTold_16 1 μ)) = some (r, μ') := h
  refine wm_aload_n E dWa_hasTold_0 rfl (j := 0) rfl ?_
  refine wm_gI E fd_Wa_16 h dWa_hasTold_1 (fun x1 h => ?_)
  refine wm_iconst (x := 1) E dWa_hasTold_4 (by decide) ?_
  refine wm_iload_n E dWa_hasTold_5 rfl (j := 1) rfl ?_
  refine wm_ishl E dWa_hasTold_6 ?_
  refine wm_iand E dWa_hasTold_7 ?_
  refine wm_if_eq (tgt := 15) E dWa_hasTold_8 (by decide) (fun c8 => ?_) (fun c8 => ?_)
  · have h := (if_pos c8).symm.trans h
    refine wm_iconst (x := 0) E dWa_hasTold_15 (by decide) ?_
    refine wm_pick (lv' := []) [] rfl ?_
    exact w_Wa_hasTold_16 E hQ hR hI 0 μ h
  · have h := (if_neg c8).symm.trans h
    refine wm_iconst (x := 1) E dWa_hasTold_11 (by decide) ?_
    refine wm_goto (tgt := 16) E dWa_hasTold_12 (by decide) ?_
    refine wm_pick (lv' := []) [] rfl ?_
    exact w_Wa_hasTold_16 E hQ hR hI 1 μ h
def S_In_bitCount (v0 : Int32) (μ : Mem) : Option (Int32 × Mem) := b0 (v0 - ((((v0 : Int32).toUInt32 >>> ((1 : Int32).toUInt32 &&& Int32.toUInt32 31)).toInt32) &&& 1431655765)) (fun x9 => b0 ((x9 &&& 858993459) + ((((x9 : Int32).toUInt32 >>> ((2 : Int32).toUInt32 &&& Int32.toUInt32 31)).toInt32) &&& 858993459)) (fun x23 => b0 ((x23 + (((x23 : Int32).toUInt32 >>> ((4 : Int32).toUInt32 &&& Int32.toUInt32 31)).toInt32)) &&& 252645135) (fun x33 => b0 (x33 + (((x33 : Int32).toUInt32 >>> ((8 : Int32).toUInt32 &&& Int32.toUInt32 31)).toInt32)) (fun x40 => b0 (x40 + (((x40 : Int32).toUInt32 >>> ((16 : Int32).toUInt32 &&& Int32.toUInt32 31)).toInt32)) (fun x47 => some (x47 &&& 63, μ))))))
set_option maxHeartbeats 4000000 in
set_option maxRecDepth 100000 in
theorem C_In_bitCount (l : Launch) (G : GG) (v0 : Int32) (μ μ' : Mem) (r : Int32) (h : S_In_bitCount v0 μ = some (r, μ')) : CT l G y_In_bitCount prog_20_method_49_code 1 (some .int) 0 0 0 0 μ [vI v0] (some (vI r)) μ' := by
  refine wm_met (lv := [(0, vI v0)]) (by decide +kernel) (Nat.le_of_ble_eq_true rfl) rfl (fun X E hQ hR hI => ?_)
  have h : (b0 (v0 - ((((v0 : Int32).toUInt32 >>> ((1 : Int32).toUInt32 &&& Int32.toUInt32 31)).toInt32) &&& 1431655765)) (fun x9 => b0 ((x9 &&& 858993459) + ((((x9 : Int32).toUInt32 >>> ((2 : Int32).toUInt32 &&& Int32.toUInt32 31)).toInt32) &&& 858993459)) (fun x23 => b0 ((x23 + (((x23 : Int32).toUInt32 >>> ((4 : Int32).toUInt32 &&& Int32.toUInt32 31)).toInt32)) &&& 252645135) (fun x33 => b0 (x33 + (((x33 : Int32).toUInt32 >>> ((8 : Int32).toUInt32 &&& Int32.toUInt32 31)).toInt32)) (fun x40 => b0 (x40 + (((x40 : Int32).toUInt32 >>> ((16 : Int32).toUInt32 &&& Int32.toUInt32 31)).toInt32)) (fun x47 => some (x47 &&& 63, μ))))))) = some (r, μ') := h
  refine wm_iload_n E dIn_bitCount_0 rfl (j := 0) rfl ?_
  refine wm_iload_n E dIn_bitCount_1 rfl (j := 0) rfl ?_
  refine wm_iconst (x := 1) E dIn_bitCount_2 (by decide) ?_
  refine wm_iushr E dIn_bitCount_3 ?_
  refine wm_ldcw (x := 1431655765) E cn_In_265 dIn_bitCount_4 ?_
  refine wm_iand E dIn_bitCount_7 ?_
  refine wm_isub E dIn_bitCount_8 ?_
  refine wm_letI h (fun x9 h => ?_)
  refine wm_istore_n (lv' := [(0, vI x9)]) E dIn_bitCount_9 rfl (by decide) rfl ?_
  refine wm_iload_n E dIn_bitCount_10 rfl (j := 0) rfl ?_
  refine wm_ldcw (x := 858993459) E cn_In_266 dIn_bitCount_11 ?_
  refine wm_iand E dIn_bitCount_14 ?_
  refine wm_iload_n E dIn_bitCount_15 rfl (j := 0) rfl ?_
  refine wm_iconst (x := 2) E dIn_bitCount_16 (by decide) ?_
  refine wm_iushr E dIn_bitCount_17 ?_
  refine wm_ldcw (x := 858993459) E cn_In_266 dIn_bitCount_18 ?_
  refine wm_iand E dIn_bitCount_21 ?_
  refine wm_iadd E dIn_bitCount_22 ?_
  refine wm_letI h (fun x23 h => ?_)
  refine wm_istore_n (lv' := [(0, vI x23)]) E dIn_bitCount_23 rfl (by decide) rfl ?_
  refine wm_iload_n E dIn_bitCount_24 rfl (j := 0) rfl ?_
  refine wm_iload_n E dIn_bitCount_25 rfl (j := 0) rfl ?_
  refine wm_iconst (x := 4) E dIn_bitCount_26 (by decide) ?_
  refine wm_iushr E dIn_bitCount_27 ?_
  refine wm_iadd E dIn_bitCount_28 ?_
  refine wm_ldcw (x := 252645135) E cn_In_267 dIn_bitCount_29 ?_
  refine wm_iand E dIn_bitCount_32 ?_
  refine wm_letI h (fun x33 h => ?_)
  refine wm_istore_n (lv' := [(0, vI x33)]) E dIn_bitCount_33 rfl (by decide) rfl ?_
  refine wm_iload_n E dIn_bitCount_34 rfl (j := 0) rfl ?_
  refine wm_iload_n E dIn_bitCount_35 rfl (j := 0) rfl ?_
  refine wm_bipush (x := 8) E dIn_bitCount_36 (by decide) ?_
  refine wm_iushr E dIn_bitCount_38 ?_
  refine wm_iadd E dIn_bitCount_39 ?_
  refine wm_letI h (fun x40 h => ?_)
  refine wm_istore_n (lv' := [(0, vI x40)]) E dIn_bitCount_40 rfl (by decide) rfl ?_
  refine wm_iload_n E dIn_bitCount_41 rfl (j := 0) rfl ?_
  refine wm_iload_n E dIn_bitCount_42 rfl (j := 0) rfl ?_
  refine wm_bipush (x := 16) E dIn_bitCount_43 (by decide) ?_
  refine wm_iushr E dIn_bitCount_45 ?_
  refine wm_iadd E dIn_bitCount_46 ?_
  refine wm_letI h (fun x47 h => ?_)
  refine wm_istore_n (lv' := [(0, vI x47)]) E dIn_bitCount_47 rfl (by decide) rfl ?_
  refine wm_iload_n E dIn_bitCount_48 rfl (j := 0) rfl ?_
  refine wm_bipush (x := 63) E dIn_bitCount_49 (by decide) ?_
  refine wm_iand E dIn_bitCount_51 ?_
  exact wm_iret (rt := .int) E hQ (rtI h) (rtM h) (by decide) (by decide) dIn_bitCount_52
