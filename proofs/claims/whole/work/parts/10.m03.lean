def B_Wo_beginsWith_15  : Nat → Option Nat → Option Nat → Int32 → Mem → Option (Int32 × Mem)
  | 0, _, _, _, _ => none
  | n + 1, v0, v1, v2, μ => b1 (gI μ v1 10 1) (fun x17 => if x17 ≤ v2 then gd (¬ okZ 1 = true) (some (1, μ)) else b1 (gR μ v0 10 0) (fun x24 => b1 (aI μ x24 2 v2) (fun x28 => b1 (gR μ v1 10 0) (fun x30 => b1 (aI μ x30 2 v2) (fun x34 => if x28 = x34 then (fun v0 v1 v2 μ => B_Wo_beginsWith_15 n v0 v1 v2 μ) v0 v1 (v2 + 1) μ else gd (¬ okZ 0 = true) (some (0, μ)))))))
set_option maxHeartbeats 4000000 in
set_option maxRecDepth 100000 in
theorem w_Wo_beginsWith_15 {X : CX} (E : EV X prog_11_method_4_code 3 "PlaceFinder$Word" (some .boolean)) {μ0 μ' : Mem} {r : Int32} (hQ : RQ X 0 0 μ0 (some (vI r)) μ') (hR : xR X = { frames := 0, cells := 0, slots := 0, locals := 0 }) (hI : X.2.2.2.2.2.2.2.2.2.2.2.1.name = "beginsWith")  (n : Nat) : ∀ (v0 : Option Nat) (v1 : Option Nat) (v2 : Int32) (μ : Mem) (h : B_Wo_beginsWith_15  n v0 v1 v2 μ = some (r, μ')), WM X 3 15 [(0, vR v0), (1, vR v1), (2, vI v2)] [] 0 0 μ := by
  induction n with
  | zero => intro v0 v1 v2 μ h; cases h
  | succ n ih =>
    intro v0 v1 v2 μ h
    have h : b1 (gI μ v1 10 1) (fun x17 => if x17 ≤ v2 then gd (¬ okZ 1 = true) (some (1, μ)) else b1 (gR μ v0 10 0) (fun x24 => b1 (aI μ x24 2 v2) (fun x28 => b1 (gR μ v1 10 0) (fun x30 => b1 (aI μ x30 2 v2) (fun x34 => if x28 = x34 then (fun v0 v1 v2 μ => B_Wo_beginsWith_15 n v0 v1 v2 μ) v0 v1 (v2 + 1) μ else gd (¬ okZ 0 = true) (some (0, μ))))))) = some (r, μ') := h
    refine wm_iload_n E dWo_beginsWith_15 rfl (j := 2) rfl ?_
    refine wm_aload_n E dWo_beginsWith_16 rfl (j := 1) rfl ?_
    refine wm_gI E fd_Wo_19 h dWo_beginsWith_17 (fun x17 h => ?_)
    refine wm_icmp_ge (tgt := 46) E dWo_beginsWith_20 (by decide) (fun c20 => ?_) (fun c20 => ?_)
    · have h := (if_pos c20).symm.trans h
      refine wm_iconst (x := 1) E dWo_beginsWith_46 (by decide) ?_
      obtain ⟨hz47, h⟩ := gdS h
      exact wm_zret (rt := .boolean) E hQ (rtI h) (rtM h) (okZN hz47) (by decide) (by decide) dWo_beginsWith_47
    · have h := (if_neg c20).symm.trans h
      refine wm_aload_n E dWo_beginsWith_23 rfl (j := 0) rfl ?_
      refine wm_gR E fd_Wo_9 h dWo_beginsWith_24 (fun x24 h => ?_)
      refine wm_iload_n E dWo_beginsWith_27 rfl (j := 2) rfl ?_
      refine wm_cald (t := 2) E rfl h dWo_beginsWith_28 (fun x28 h => ?_)
      refine wm_aload_n E dWo_beginsWith_29 rfl (j := 1) rfl ?_
      refine wm_gR E fd_Wo_9 h dWo_beginsWith_30 (fun x30 h => ?_)
      refine wm_iload_n E dWo_beginsWith_33 rfl (j := 2) rfl ?_
      refine wm_cald (t := 2) E rfl h dWo_beginsWith_34 (fun x34 h => ?_)
      refine wm_icmp_eq (tgt := 40) E dWo_beginsWith_35 (by decide) (fun c35 => ?_) (fun c35 => ?_)
      · have h := (if_pos c35).symm.trans h
        refine wm_iinc (lv' := [(2, vI (v2 + 1)), (0, vR v0), (1, vR v1)]) (d := 1) E dWo_beginsWith_40 (by decide) (j := 2) rfl (by decide) rfl ?_
        refine wm_goto (tgt := 15) E dWo_beginsWith_43 (by decide) ?_
        refine wm_pick (lv' := [(0, vR v0), (1, vR v1), (2, vI (v2 + 1))]) [1, 2, 0] rfl ?_
        exact ih v0 v1 (v2 + 1) μ h
      · have h := (if_neg c35).symm.trans h
        refine wm_iconst (x := 0) E dWo_beginsWith_38 (by decide) ?_
        obtain ⟨hz39, h⟩ := gdS h
        exact wm_zret (rt := .boolean) E hQ (rtI h) (rtM h) (okZN hz39) (by decide) (by decide) dWo_beginsWith_39
def S_Wo_beginsWith (v0 : Option Nat) (v1 : Option Nat) (μ : Mem) : Option (Int32 × Mem) := b1 (gI μ v1 10 1) (fun x1 => b1 (gI μ v0 10 1) (fun x5 => if x1 ≤ x5 then B_Wo_beginsWith_15 fu v0 v1 0 μ else gd (¬ okZ 0 = true) (some (0, μ))))
set_option maxHeartbeats 4000000 in
set_option maxRecDepth 100000 in
theorem C_Wo_beginsWith (l : Launch) (G : GG) (v0 : Option Nat) (v1 : Option Nat) (μ μ' : Mem) (r : Int32) (h : S_Wo_beginsWith v0 v1 μ = some (r, μ')) : CT l G y_Wo_beginsWith prog_11_method_4_code 3 (some .boolean) 0 0 0 0 μ [vR v0, vR v1] (some (vI r)) μ' := by
  refine wm_met (lv := [(0, vR v0), (1, vR v1)]) (by decide +kernel) (Nat.le_of_ble_eq_true rfl) rfl (fun X E hQ hR hI => ?_)
  have h : b1 (gI μ v1 10 1) (fun x1 => b1 (gI μ v0 10 1) (fun x5 => if x1 ≤ x5 then B_Wo_beginsWith_15 fu v0 v1 0 μ else gd (¬ okZ 0 = true) (some (0, μ)))) = some (r, μ') := h
  refine wm_aload_n E dWo_beginsWith_0 rfl (j := 1) rfl ?_
  refine wm_gI E fd_Wo_19 h dWo_beginsWith_1 (fun x1 h => ?_)
  refine wm_aload_n E dWo_beginsWith_4 rfl (j := 0) rfl ?_
  refine wm_gI E fd_Wo_19 h dWo_beginsWith_5 (fun x5 h => ?_)
  refine wm_icmp_le (tgt := 13) E dWo_beginsWith_8 (by decide) (fun c8 => ?_) (fun c8 => ?_)
  · have h := (if_pos c8).symm.trans h
    refine wm_iconst (x := 0) E dWo_beginsWith_13 (by decide) ?_
    refine wm_istore_n (lv' := [(2, vI 0), (0, vR v0), (1, vR v1)]) E dWo_beginsWith_14 rfl (by decide) rfl ?_
    refine wm_pick (lv' := [(0, vR v0), (1, vR v1), (2, vI 0)]) [1, 2, 0] rfl ?_
    exact w_Wo_beginsWith_15 E hQ hR hI fu v0 v1 0 μ h
  · have h := (if_neg c8).symm.trans h
    refine wm_iconst (x := 0) E dWo_beginsWith_11 (by decide) ?_
    obtain ⟨hz12, h⟩ := gdS h
    exact wm_zret (rt := .boolean) E hQ (rtI h) (rtM h) (okZN hz12) (by decide) (by decide) dWo_beginsWith_12
def B_Ec_leastFor_9  (v2 : Int32) (v4 : Int32) (μ : Mem) : Option (Int32 × Mem) := some (v2 + v4, μ)
set_option maxHeartbeats 4000000 in
set_option maxRecDepth 100000 in
theorem w_Ec_leastFor_9 {X : CX} (E : EV X prog_4_method_3_code 9 "PlaceFinder$ErrorCounter" (some .int)) {μ0 μ' : Mem} {r : Int32} (hQ : RQ X 0 0 μ0 (some (vI r)) μ') (hR : xR X = { frames := 1, cells := 0, slots := 0, locals := 21 }) (hI : X.2.2.2.2.2.2.2.2.2.2.2.1.name = "leastFor")  (v2 : Int32) (v4 : Int32) (μ : Mem) (h : B_Ec_leastFor_9  v2 v4 μ = some (r, μ')) : WM X 9 9 [(2, vI v2), (4, vI v4)] [] 0 0 μ := by
  have h : some (v2 + v4, μ) = some (r, μ') := h
  refine wm_iload_n E dEc_leastFor_9 rfl (j := 0) rfl ?_
  refine wm_iload E dEc_leastFor_10 (j := 1) rfl ?_
  refine wm_iadd E dEc_leastFor_12 ?_
  exact wm_iret (rt := .int) E hQ (rtI h) (rtM h) (by decide) (by decide) dEc_leastFor_13
def B_Ec_leastFor_163  (s0 : Int32) (μ : Mem) : Option (Int32 × Mem) := some (s0, μ)
set_option maxHeartbeats 4000000 in
set_option maxRecDepth 100000 in
theorem w_Ec_leastFor_163 {X : CX} (E : EV X prog_4_method_3_code 9 "PlaceFinder$ErrorCounter" (some .int)) {μ0 μ' : Mem} {r : Int32} (hQ : RQ X 0 0 μ0 (some (vI r)) μ') (hR : xR X = { frames := 1, cells := 0, slots := 0, locals := 21 }) (hI : X.2.2.2.2.2.2.2.2.2.2.2.1.name = "leastFor")  (s0 : Int32) (μ : Mem) (h : B_Ec_leastFor_163  s0 μ = some (r, μ')) : WM X 9 163 [] [vI s0] 0 0 μ := by
  have h : some (s0, μ) = some (r, μ') := h
  exact wm_iret (rt := .int) E hQ (rtI h) (rtM h) (by decide) (by decide) dEc_leastFor_163
def B_Ec_leastFor_131  (v0 : Option Nat) (v2 : Int32) (v4 : Int32) (v7 : Int32) (s0 : Int32) (μ : Mem) : Option (Int32 × Mem) := if s0 = 0 then B_Ec_leastFor_163 v7 μ else b1 (gR μ v0 3 0) (fun x141 => b1 (aR μ x141 6 (v2 - 2)) (fun x147 => b1 (aI μ x147 0 (v4 - 2)) (fun x152 => b2 (S_Ma_min v7 (x152 + 1) μ) (fun x155 m155 => B_Ec_leastFor_163 x155 m155))))
set_option maxHeartbeats 4000000 in
set_option maxRecDepth 100000 in
theorem w_Ec_leastFor_131 {X : CX} (E : EV X prog_4_method_3_code 9 "PlaceFinder$ErrorCounter" (some .int)) {μ0 μ' : Mem} {r : Int32} (hQ : RQ X 0 0 μ0 (some (vI r)) μ') (hR : xR X = { frames := 1, cells := 0, slots := 0, locals := 21 }) (hI : X.2.2.2.2.2.2.2.2.2.2.2.1.name = "leastFor")  (v0 : Option Nat) (v2 : Int32) (v4 : Int32) (v7 : Int32) (s0 : Int32) (μ : Mem) (h : B_Ec_leastFor_131  v0 v2 v4 v7 s0 μ = some (r, μ')) : WM X 9 131 [(0, vR v0), (2, vI v2), (4, vI v4), (7, vI v7)] [vI s0] 0 0 μ := by
  have h : if s0 = 0 then B_Ec_leastFor_163 v7 μ else b1 (gR μ v0 3 0) (fun x141 => b1 (aR μ x141 6 (v2 - 2)) (fun x147 => b1 (aI μ x147 0 (v4 - 2)) (fun x152 => b2 (S_Ma_min v7 (x152 + 1) μ) (fun x155 m155 => B_Ec_leastFor_163 x155 m155)))) = some (r, μ') := h
  refine wm_istore (lv' := [(8, vI s0), (0, vR v0), (2, vI v2), (4, vI v4), (7, vI v7)]) E dEc_leastFor_131 (by decide) rfl ?_
  refine wm_iload E dEc_leastFor_133 (j := 0) rfl ?_
  refine wm_if_eq (tgt := 161) E dEc_leastFor_135 (by decide) (fun c135 => ?_) (fun c135 => ?_)
  · have h := (if_pos c135).symm.trans h
    refine wm_iload E dEc_leastFor_161 (j := 4) rfl ?_
    refine wm_pick (lv' := []) [] rfl ?_
    exact w_Ec_leastFor_163 E hQ hR hI v7 μ h
  · have h := (if_neg c135).symm.trans h
    refine wm_iload E dEc_leastFor_138 (j := 4) rfl ?_
    refine wm_aload_n E dEc_leastFor_140 rfl (j := 1) rfl ?_
    refine wm_gR E fd_Ec_11 h dEc_leastFor_141 (fun x141 h => ?_)
    refine wm_iload_n E dEc_leastFor_144 rfl (j := 2) rfl ?_
    refine wm_iconst (x := 2) E dEc_leastFor_145 (by decide) ?_
    refine wm_isub E dEc_leastFor_146 ?_
    refine wm_aald (t := 6) E rfl rfl h dEc_leastFor_147 (fun x147 h => ?_)
    refine wm_iload E dEc_leastFor_148 (j := 3) rfl ?_
    refine wm_iconst (x := 2) E dEc_leastFor_150 (by decide) ?_
    refine wm_isub E dEc_leastFor_151 ?_
    refine wm_iald (t := 0) E rfl h dEc_leastFor_152 (fun x152 h => ?_)
    refine wm_iconst (x := 1) E dEc_leastFor_153 (by decide) ?_
    refine wm_iadd E dEc_leastFor_154 ?_
    obtain ⟨x155, m155, hc155, h⟩ := b2S h
    refine wm_cS (As := [vI v7, vI (x152 + 1)]) (st := []) E lk_Ec_30 sc_Ma_min (C_Ma_min (xl X) X.1 v7 (x152 + 1) μ _ _ hc155) rfl rfl (by rw [hR]; decide) (by rw [hR]; decide) (by decide) dEc_leastFor_155 ?_
    refine wm_goto (tgt := 163) E dEc_leastFor_158 (by decide) ?_
    refine wm_pick (lv' := []) [] rfl ?_
    exact w_Ec_leastFor_163 E hQ hR hI x155 m155 h
def B_Ec_leastFor_130  (v0 : Option Nat) (v2 : Int32) (v4 : Int32) (v7 : Int32) (μ : Mem) : Option (Int32 × Mem) := B_Ec_leastFor_131 v0 v2 v4 v7 0 μ
set_option maxHeartbeats 4000000 in
set_option maxRecDepth 100000 in
theorem w_Ec_leastFor_130 {X : CX} (E : EV X prog_4_method_3_code 9 "PlaceFinder$ErrorCounter" (some .int)) {μ0 μ' : Mem} {r : Int32} (hQ : RQ X 0 0 μ0 (some (vI r)) μ') (hR : xR X = { frames := 1, cells := 0, slots := 0, locals := 21 }) (hI : X.2.2.2.2.2.2.2.2.2.2.2.1.name = "leastFor")  (v0 : Option Nat) (v2 : Int32) (v4 : Int32) (v7 : Int32) (μ : Mem) (h : B_Ec_leastFor_130  v0 v2 v4 v7 μ = some (r, μ')) : WM X 9 130 [(0, vR v0), (2, vI v2), (4, vI v4), (7, vI v7)] [] 0 0 μ := by
  have h : B_Ec_leastFor_131 v0 v2 v4 v7 0 μ = some (r, μ') := h
  refine wm_iconst (x := 0) E dEc_leastFor_130 (by decide) ?_
  refine wm_pick (lv' := [(0, vR v0), (2, vI v2), (4, vI v4), (7, vI v7)]) [0, 1, 2, 3] rfl ?_
  exact w_Ec_leastFor_131 E hQ hR hI v0 v2 v4 v7 0 μ h
def B_Ec_leastFor_46  (v0 : Option Nat) (v1 : Option Nat) (v2 : Int32) (v3 : Option Nat) (v4 : Int32) (s0 : Int32) (s1 : Int32) (μ : Mem) : Option (Int32 × Mem) := b0 (s0 + s1) (fun x47 => b1 (gR μ v0 3 0) (fun x50 => b1 (aR μ x50 6 (v2 - 1)) (fun x56 => b1 (aI μ x56 0 v4) (fun x59 => b1 (gR μ v0 3 0) (fun x61 => b1 (aR μ x61 6 v2) (fun x65 => b1 (aI μ x65 0 (v4 - 1)) (fun x70 => b2 (S_Ma_min x59 x70 μ) (fun x71 m71 => b0 (x71 + 1) (fun x76 => b2 (S_Ma_min x47 x76 m71) (fun x82 m82 => if v2 ≤ 1 then B_Ec_leastFor_130 v0 v2 v4 x82 m82 else if v4 ≤ 1 then B_Ec_leastFor_130 v0 v2 v4 x82 m82 else b1 (aI m82 v1 2 (v2 - 1)) (fun x102 => b1 (aI m82 v3 2 (v4 - 2)) (fun x108 => if x102 = x108 then b1 (aI m82 v1 2 (v2 - 2)) (fun x116 => b1 (aI m82 v3 2 (v4 - 1)) (fun x122 => if x116 = x122 then B_Ec_leastFor_131 v0 v2 v4 x82 1 m82 else B_Ec_leastFor_130 v0 v2 v4 x82 m82)) else B_Ec_leastFor_130 v0 v2 v4 x82 m82))))))))))))
set_option maxHeartbeats 4000000 in
set_option maxRecDepth 100000 in
theorem w_Ec_leastFor_46 {X : CX} (E : EV X prog_4_method_3_code 9 "PlaceFinder$ErrorCounter" (some .int)) {μ0 μ' : Mem} {r : Int32} (hQ : RQ X 0 0 μ0 (some (vI r)) μ') (hR : xR X = { frames := 1, cells := 0, slots := 0, locals := 21 }) (hI : X.2.2.2.2.2.2.2.2.2.2.2.1.name = "leastFor")  (v0 : Option Nat) (v1 : Option Nat) (v2 : Int32) (v3 : Option Nat) (v4 : Int32) (s0 : Int32) (s1 : Int32) (μ : Mem) (h : B_Ec_leastFor_46  v0 v1 v2 v3 v4 s0 s1 μ = some (r, μ')) : WM X 9 46 [(0, vR v0), (1, vR v1), (2, vI v2), (3, vR v3), (4, vI v4)] [vI s1, vI s0] 0 0 μ := by
  have h : b0 (s0 + s1) (fun x47 => b1 (gR μ v0 3 0) (fun x50 => b1 (aR μ x50 6 (v2 - 1)) (fun x56 => b1 (aI μ x56 0 v4) (fun x59 => b1 (gR μ v0 3 0) (fun x61 => b1 (aR μ x61 6 v2) (fun x65 => b1 (aI μ x65 0 (v4 - 1)) (fun x70 => b2 (S_Ma_min x59 x70 μ) (fun x71 m71 => b0 (x71 + 1) (fun x76 => b2 (S_Ma_min x47 x76 m71) (fun x82 m82 => if v2 ≤ 1 then B_Ec_leastFor_130 v0 v2 v4 x82 m82 else if v4 ≤ 1 then B_Ec_leastFor_130 v0 v2 v4 x82 m82 else b1 (aI m82 v1 2 (v2 - 1)) (fun x102 => b1 (aI m82 v3 2 (v4 - 2)) (fun x108 => if x102 = x108 then b1 (aI m82 v1 2 (v2 - 2)) (fun x116 => b1 (aI m82 v3 2 (v4 - 1)) (fun x122 => if x116 = x122 then B_Ec_leastFor_131 v0 v2 v4 x82 1 m82 else B_Ec_leastFor_130 v0 v2 v4 x82 m82)) else B_Ec_leastFor_130 v0 v2 v4 x82 m82)))))))))))) = some (r, μ') := h
  refine wm_iadd E dEc_leastFor_46 ?_
  refine wm_letI h (fun x47 h => ?_)
  refine wm_istore (lv' := [(5, vI x47), (0, vR v0), (1, vR v1), (2, vI v2), (3, vR v3), (4, vI v4)]) E dEc_leastFor_47 (by decide) rfl ?_
  refine wm_aload_n E dEc_leastFor_49 rfl (j := 1) rfl ?_
  refine wm_gR E fd_Ec_11 h dEc_leastFor_50 (fun x50 h => ?_)
  refine wm_iload_n E dEc_leastFor_53 rfl (j := 3) rfl ?_
  refine wm_iconst (x := 1) E dEc_leastFor_54 (by decide) ?_
  refine wm_isub E dEc_leastFor_55 ?_
  refine wm_aald (t := 6) E rfl rfl h dEc_leastFor_56 (fun x56 h => ?_)
  refine wm_iload E dEc_leastFor_57 (j := 5) rfl ?_
  refine wm_iald (t := 0) E rfl h dEc_leastFor_59 (fun x59 h => ?_)
  refine wm_aload_n E dEc_leastFor_60 rfl (j := 1) rfl ?_
  refine wm_gR E fd_Ec_11 h dEc_leastFor_61 (fun x61 h => ?_)
  refine wm_iload_n E dEc_leastFor_64 rfl (j := 3) rfl ?_
  refine wm_aald (t := 6) E rfl rfl h dEc_leastFor_65 (fun x65 h => ?_)
  refine wm_iload E dEc_leastFor_66 (j := 5) rfl ?_
  refine wm_iconst (x := 1) E dEc_leastFor_68 (by decide) ?_
  refine wm_isub E dEc_leastFor_69 ?_
  refine wm_iald (t := 0) E rfl h dEc_leastFor_70 (fun x70 h => ?_)
  obtain ⟨x71, m71, hc71, h⟩ := b2S h
  refine wm_cS (As := [vI x59, vI x70]) (st := []) E lk_Ec_30 sc_Ma_min (C_Ma_min (xl X) X.1 x59 x70 μ _ _ hc71) rfl rfl (by rw [hR]; decide) (by rw [hR]; decide) (by decide) dEc_leastFor_71 ?_
  refine wm_iconst (x := 1) E dEc_leastFor_74 (by decide) ?_
  refine wm_iadd E dEc_leastFor_75 ?_
  refine wm_letI h (fun x76 h => ?_)
  refine wm_istore (lv' := [(6, vI x76), (5, vI x47), (0, vR v0), (1, vR v1), (2, vI v2), (3, vR v3), (4, vI v4)]) E dEc_leastFor_76 (by decide) rfl ?_
  refine wm_iload E dEc_leastFor_78 (j := 1) rfl ?_
  refine wm_iload E dEc_leastFor_80 (j := 0) rfl ?_
  obtain ⟨x82, m82, hc82, h⟩ := b2S h
  refine wm_cS (As := [vI x47, vI x76]) (st := []) E lk_Ec_30 sc_Ma_min (C_Ma_min (xl X) X.1 x47 x76 m71 _ _ hc82) rfl rfl (by rw [hR]; decide) (by rw [hR]; decide) (by decide) dEc_leastFor_82 ?_
  refine wm_istore (lv' := [(7, vI x82), (6, vI x76), (5, vI x47), (0, vR v0), (1, vR v1), (2, vI v2), (3, vR v3), (4, vI v4)]) E dEc_leastFor_85 (by decide) rfl ?_
  refine wm_iload_n E dEc_leastFor_87 rfl (j := 5) rfl ?_
  refine wm_iconst (x := 1) E dEc_leastFor_88 (by decide) ?_
  refine wm_icmp_le (tgt := 130) E dEc_leastFor_89 (by decide) (fun c89 => ?_) (fun c89 => ?_)
  · have h := (if_pos c89).symm.trans h
    refine wm_pick (lv' := [(0, vR v0), (2, vI v2), (4, vI v4), (7, vI x82)]) [3, 5, 7, 0] rfl ?_
    exact w_Ec_leastFor_130 E hQ hR hI v0 v2 v4 x82 m82 h
  · have h := (if_neg c89).symm.trans h
    refine wm_iload E dEc_leastFor_92 (j := 7) rfl ?_
    refine wm_iconst (x := 1) E dEc_leastFor_94 (by decide) ?_
    refine wm_icmp_le (tgt := 130) E dEc_leastFor_95 (by decide) (fun c95 => ?_) (fun c95 => ?_)
    · have h := (if_pos c95).symm.trans h
      refine wm_pick (lv' := [(0, vR v0), (2, vI v2), (4, vI v4), (7, vI x82)]) [3, 5, 7, 0] rfl ?_
      exact w_Ec_leastFor_130 E hQ hR hI v0 v2 v4 x82 m82 h
    · have h := (if_neg c95).symm.trans h
      refine wm_aload_n E dEc_leastFor_98 rfl (j := 4) rfl ?_
      refine wm_iload_n E dEc_leastFor_99 rfl (j := 5) rfl ?_
      refine wm_iconst (x := 1) E dEc_leastFor_100 (by decide) ?_
      refine wm_isub E dEc_leastFor_101 ?_
      refine wm_cald (t := 2) E rfl h dEc_leastFor_102 (fun x102 h => ?_)
      refine wm_aload_n E dEc_leastFor_103 rfl (j := 6) rfl ?_
      refine wm_iload E dEc_leastFor_104 (j := 7) rfl ?_
      refine wm_iconst (x := 2) E dEc_leastFor_106 (by decide) ?_
      refine wm_isub E dEc_leastFor_107 ?_
      refine wm_cald (t := 2) E rfl h dEc_leastFor_108 (fun x108 h => ?_)
      refine wm_icmp_ne (tgt := 130) E dEc_leastFor_109 (by decide) (fun c109 => ?_) (fun c109 => ?_)
      · have h := (if_neg c109).symm.trans h
        refine wm_pick (lv' := [(0, vR v0), (2, vI v2), (4, vI v4), (7, vI x82)]) [3, 5, 7, 0] rfl ?_
        exact w_Ec_leastFor_130 E hQ hR hI v0 v2 v4 x82 m82 h
      · have h := (if_pos c109).symm.trans h
        refine wm_aload_n E dEc_leastFor_112 rfl (j := 4) rfl ?_
        refine wm_iload_n E dEc_leastFor_113 rfl (j := 5) rfl ?_
        refine wm_iconst (x := 2) E dEc_leastFor_114 (by decide) ?_
        refine wm_isub E dEc_leastFor_115 ?_
        refine wm_cald (t := 2) E rfl h dEc_leastFor_116 (fun x116 h => ?_)
        refine wm_aload_n E dEc_leastFor_117 rfl (j := 6) rfl ?_
        refine wm_iload E dEc_leastFor_118 (j := 7) rfl ?_
        refine wm_iconst (x := 1) E dEc_leastFor_120 (by decide) ?_
        refine wm_isub E dEc_leastFor_121 ?_
        refine wm_cald (t := 2) E rfl h dEc_leastFor_122 (fun x122 h => ?_)
        refine wm_icmp_ne (tgt := 130) E dEc_leastFor_123 (by decide) (fun c123 => ?_) (fun c123 => ?_)
        · have h := (if_neg c123).symm.trans h
          refine wm_pick (lv' := [(0, vR v0), (2, vI v2), (4, vI v4), (7, vI x82)]) [3, 5, 7, 0] rfl ?_
          exact w_Ec_leastFor_130 E hQ hR hI v0 v2 v4 x82 m82 h
        · have h := (if_pos c123).symm.trans h
          refine wm_iconst (x := 1) E dEc_leastFor_126 (by decide) ?_
          refine wm_goto (tgt := 131) E dEc_leastFor_127 (by decide) ?_
          refine wm_pick (lv' := [(0, vR v0), (2, vI v2), (4, vI v4), (7, vI x82)]) [3, 5, 7, 0] rfl ?_
          exact w_Ec_leastFor_131 E hQ hR hI v0 v2 v4 x82 1 m82 h
def S_Ec_leastFor (v0 : Option Nat) (v1 : Option Nat) (v2 : Int32) (v3 : Option Nat) (v4 : Int32) (μ : Mem) : Option (Int32 × Mem) := if v2 = 0 then B_Ec_leastFor_9 v2 v4 μ else if v4 = 0 then B_Ec_leastFor_9 v2 v4 μ else b1 (gR μ v0 3 0) (fun x15 => b1 (aR μ x15 6 (v2 - 1)) (fun x21 => b1 (aI μ x21 0 (v4 - 1)) (fun x26 => b1 (aI μ v1 2 (v2 - 1)) (fun x31 => b1 (aI μ v3 2 (v4 - 1)) (fun x37 => if x31 = x37 then B_Ec_leastFor_46 v0 v1 v2 v3 v4 x26 0 μ else B_Ec_leastFor_46 v0 v1 v2 v3 v4 x26 1 μ)))))
set_option maxHeartbeats 4000000 in
set_option maxRecDepth 100000 in
theorem C_Ec_leastFor (l : Launch) (G : GG) (v0 : Option Nat) (v1 : Option Nat) (v2 : Int32) (v3 : Option Nat) (v4 : Int32) (μ μ' : Mem) (r : Int32) (h : S_Ec_leastFor v0 v1 v2 v3 v4 μ = some (r, μ')) : CT l G y_Ec_leastFor prog_4_method_3_code 9 (some .int) 1 0 0 21 μ [vR v0, vR v1, vI v2, vR v3, vI v4] (some (vI r)) μ' := by
  refine wm_met (lv := [(0, vR v0), (1, vR v1), (2, vI v2), (3, vR v3), (4, vI v4)]) (by decide +kernel) (Nat.le_of_ble_eq_true rfl) rfl (fun X E hQ hR hI => ?_)
  have h : if v2 = 0 then B_Ec_leastFor_9 v2 v4 μ else if v4 = 0 then B_Ec_leastFor_9 v2 v4 μ else b1 (gR μ v0 3 0) (fun x15 => b1 (aR μ x15 6 (v2 - 1)) (fun x21 => b1 (aI μ x21 0 (v4 - 1)) (fun x26 => b1 (aI μ v1 2 (v2 - 1)) (fun x31 => b1 (aI μ v3 2 (v4 - 1)) (fun x37 => if x31 = x37 then B_Ec_leastFor_46 v0 v1 v2 v3 v4 x26 0 μ else B_Ec_leastFor_46 v0 v1 v2 v3 v4 x26 1 μ))))) = some (r, μ') := h
  refine wm_iload_n E dEc_leastFor_0 rfl (j := 2) rfl ?_
  refine wm_if_eq (tgt := 9) E dEc_leastFor_1 (by decide) (fun c1 => ?_) (fun c1 => ?_)
  · have h := (if_pos c1).symm.trans h
    refine wm_pick (lv' := [(2, vI v2), (4, vI v4)]) [2, 4] rfl ?_
    exact w_Ec_leastFor_9 E hQ hR hI v2 v4 μ h
  · have h := (if_neg c1).symm.trans h
    refine wm_iload E dEc_leastFor_4 (j := 4) rfl ?_
    refine wm_if_ne (tgt := 14) E dEc_leastFor_6 (by decide) (fun c6 => ?_) (fun c6 => ?_)
    · have h := (if_neg c6).symm.trans h
      refine wm_aload_n E dEc_leastFor_14 rfl (j := 0) rfl ?_
      refine wm_gR E fd_Ec_11 h dEc_leastFor_15 (fun x15 h => ?_)
      refine wm_iload_n E dEc_leastFor_18 rfl (j := 2) rfl ?_
      refine wm_iconst (x := 1) E dEc_leastFor_19 (by decide) ?_
      refine wm_isub E dEc_leastFor_20 ?_
      refine wm_aald (t := 6) E rfl rfl h dEc_leastFor_21 (fun x21 h => ?_)
      refine wm_iload E dEc_leastFor_22 (j := 4) rfl ?_
      refine wm_iconst (x := 1) E dEc_leastFor_24 (by decide) ?_
      refine wm_isub E dEc_leastFor_25 ?_
      refine wm_iald (t := 0) E rfl h dEc_leastFor_26 (fun x26 h => ?_)
      refine wm_aload_n E dEc_leastFor_27 rfl (j := 1) rfl ?_
      refine wm_iload_n E dEc_leastFor_28 rfl (j := 2) rfl ?_
      refine wm_iconst (x := 1) E dEc_leastFor_29 (by decide) ?_
      refine wm_isub E dEc_leastFor_30 ?_
      refine wm_cald (t := 2) E rfl h dEc_leastFor_31 (fun x31 h => ?_)
      refine wm_aload_n E dEc_leastFor_32 rfl (j := 3) rfl ?_
      refine wm_iload E dEc_leastFor_33 (j := 4) rfl ?_
      refine wm_iconst (x := 1) E dEc_leastFor_35 (by decide) ?_
      refine wm_isub E dEc_leastFor_36 ?_
      refine wm_cald (t := 2) E rfl h dEc_leastFor_37 (fun x37 h => ?_)
      refine wm_icmp_ne (tgt := 45) E dEc_leastFor_38 (by decide) (fun c38 => ?_) (fun c38 => ?_)
      · have h := (if_neg c38).symm.trans h
        refine wm_iconst (x := 1) E dEc_leastFor_45 (by decide) ?_
        refine wm_pick (lv' := [(0, vR v0), (1, vR v1), (2, vI v2), (3, vR v3), (4, vI v4)]) [0, 1, 2, 3, 4] rfl ?_
        exact w_Ec_leastFor_46 E hQ hR hI v0 v1 v2 v3 v4 x26 1 μ h
      · have h := (if_pos c38).symm.trans h
        refine wm_iconst (x := 0) E dEc_leastFor_41 (by decide) ?_
        refine wm_goto (tgt := 46) E dEc_leastFor_42 (by decide) ?_
        refine wm_pick (lv' := [(0, vR v0), (1, vR v1), (2, vI v2), (3, vR v3), (4, vI v4)]) [0, 1, 2, 3, 4] rfl ?_
        exact w_Ec_leastFor_46 E hQ hR hI v0 v1 v2 v3 v4 x26 0 μ h
    · have h := (if_pos c6).symm.trans h
      refine wm_pick (lv' := [(2, vI v2), (4, vI v4)]) [2, 4] rfl ?_
      exact w_Ec_leastFor_9 E hQ hR hI v2 v4 μ h
def B_Ec_count_13 (k2 : Option Nat → Option Nat → Option Nat → Int32 → Mem → Option (Int32 × Mem)) : Nat → Option Nat → Option Nat → Option Nat → Int32 → Int32 → Mem → Option (Int32 × Mem)
  | 0, _, _, _, _, _, _ => none
  | n + 1, v0, v1, v2, v3, v4, μ => b1 (gI μ v2 10 1) (fun x16 => if x16 < v4 then k2 v0 v1 v2 (v3 + 1) μ else b1 (gR μ v0 3 0) (fun x23 => b1 (aR μ x23 6 v3) (fun x27 => b1 (gR μ v1 10 0) (fun x32 => b1 (gR μ v2 10 0) (fun x37 => b1 (rc μ v0 3) (fun _ => b2 (S_Ec_leastFor v0 x32 v3 x37 v4 μ) (fun x42 m42 => b1 (sI m42 x27 0 v4 x42) (fun m45 => (fun v0 v1 v2 v3 v4 μ => B_Ec_count_13 k2 n v0 v1 v2 v3 v4 μ) v0 v1 v2 v3 (v4 + 1) m45))))))))
set_option maxHeartbeats 4000000 in
set_option maxRecDepth 100000 in
theorem w_Ec_count_13 {X : CX} (E : EV X prog_4_method_2_code 5 "PlaceFinder$ErrorCounter" (some .int)) {μ0 μ' : Mem} {r : Int32} (hQ : RQ X 0 0 μ0 (some (vI r)) μ') (hR : xR X = { frames := 2, cells := 0, slots := 0, locals := 49 }) (hI : X.2.2.2.2.2.2.2.2.2.2.2.1.name = "count") (k2 : Option Nat → Option Nat → Option Nat → Int32 → Mem → Option (Int32 × Mem)) (hk2 : ∀ (v0 : Option Nat) (v1 : Option Nat) (v2 : Option Nat) (v3 : Int32) (μ : Mem), k2 v0 v1 v2 v3 μ = some (r, μ') → WM X 5 2 [(0, vR v0), (1, vR v1), (2, vR v2), (3, vI v3)] [] 0 0 μ) (n : Nat) : ∀ (v0 : Option Nat) (v1 : Option Nat) (v2 : Option Nat) (v3 : Int32) (v4 : Int32) (μ : Mem) (h : B_Ec_count_13 k2 n v0 v1 v2 v3 v4 μ = some (r, μ')), WM X 5 13 [(0, vR v0), (1, vR v1), (2, vR v2), (3, vI v3), (4, vI v4)] [] 0 0 μ := by
  induction n with
  | zero => intro v0 v1 v2 v3 v4 μ h; cases h
  | succ n ih =>
    intro v0 v1 v2 v3 v4 μ h
    have h : b1 (gI μ v2 10 1) (fun x16 => if x16 < v4 then k2 v0 v1 v2 (v3 + 1) μ else b1 (gR μ v0 3 0) (fun x23 => b1 (aR μ x23 6 v3) (fun x27 => b1 (gR μ v1 10 0) (fun x32 => b1 (gR μ v2 10 0) (fun x37 => b1 (rc μ v0 3) (fun _ => b2 (S_Ec_leastFor v0 x32 v3 x37 v4 μ) (fun x42 m42 => b1 (sI m42 x27 0 v4 x42) (fun m45 => (fun v0 v1 v2 v3 v4 μ => B_Ec_count_13 k2 n v0 v1 v2 v3 v4 μ) v0 v1 v2 v3 (v4 + 1) m45)))))))) = some (r, μ') := h
    refine wm_iload E dEc_count_13 (j := 4) rfl ?_
    refine wm_aload_n E dEc_count_15 rfl (j := 2) rfl ?_
    refine wm_gI E fd_Ec_16 h dEc_count_16 (fun x16 h => ?_)
    refine wm_icmp_gt (tgt := 52) E dEc_count_19 (by decide) (fun c19 => ?_) (fun c19 => ?_)
    · have h := (if_pos c19).symm.trans h
      refine wm_iinc (lv' := [(3, vI (v3 + 1)), (0, vR v0), (1, vR v1), (2, vR v2), (4, vI v4)]) (d := 1) E dEc_count_52 (by decide) (j := 3) rfl (by decide) rfl ?_
      refine wm_goto (tgt := 2) E dEc_count_55 (by decide) ?_
      refine wm_pick (lv' := [(0, vR v0), (1, vR v1), (2, vR v2), (3, vI (v3 + 1))]) [1, 2, 3, 0] rfl ?_
      exact hk2 v0 v1 v2 (v3 + 1) μ h
    · have h := (if_neg c19).symm.trans h
      refine wm_aload_n E dEc_count_22 rfl (j := 0) rfl ?_
      refine wm_gR E fd_Ec_11 h dEc_count_23 (fun x23 h => ?_)
      refine wm_iload_n E dEc_count_26 rfl (j := 3) rfl ?_
      refine wm_aald (t := 6) E rfl rfl h dEc_count_27 (fun x27 h => ?_)
      refine wm_iload E dEc_count_28 (j := 4) rfl ?_
      refine wm_aload_n E dEc_count_30 rfl (j := 0) rfl ?_
      refine wm_aload_n E dEc_count_31 rfl (j := 1) rfl ?_
      refine wm_gR E fd_Ec_22 h dEc_count_32 (fun x32 h => ?_)
      refine wm_iload_n E dEc_count_35 rfl (j := 3) rfl ?_
      refine wm_aload_n E dEc_count_36 rfl (j := 2) rfl ?_
      refine wm_gR E fd_Ec_22 h dEc_count_37 (fun x37 h => ?_)
      refine wm_iload E dEc_count_40 (j := 4) rfl ?_
      obtain ⟨u42, hr42, h⟩ := b1S h
      obtain ⟨x42, m42, hc42, h⟩ := b2S h
      refine wm_cV (ci := 3) (As := [vR x32, vI v3, vR x37, vI v4]) (st := [vI v4, vR x27]) E lk_Ec_26 rfl im_Ec_leastFor sl_Ec_leastFor hr42 (C_Ec_leastFor (xl X) X.1 v0 x32 v3 x37 v4 μ _ _ hc42) rfl rfl (by rw [hR]; decide) (by rw [hR]; decide) (by decide) dEc_count_42 ?_
      refine wm_iast (t := 0) E rfl h dEc_count_45 (fun m45 h => ?_)
      refine wm_iinc (lv' := [(4, vI (v4 + 1)), (0, vR v0), (1, vR v1), (2, vR v2), (3, vI v3)]) (d := 1) E dEc_count_46 (by decide) (j := 4) rfl (by decide) rfl ?_
      refine wm_goto (tgt := 13) E dEc_count_49 (by decide) ?_
      refine wm_pick (lv' := [(0, vR v0), (1, vR v1), (2, vR v2), (3, vI v3), (4, vI (v4 + 1))]) [1, 2, 3, 4, 0] rfl ?_
      exact ih v0 v1 v2 v3 (v4 + 1) m45 h
def B_Ec_count_2  : Nat → Option Nat → Option Nat → Option Nat → Int32 → Mem → Option (Int32 × Mem)
  | 0, _, _, _, _, _ => none
  | n + 1, v0, v1, v2, v3, μ => b1 (gI μ v1 10 1) (fun x4 => if x4 < v3 then b1 (gR μ v0 3 0) (fun x59 => b1 (gI μ v1 10 1) (fun x63 => b1 (aR μ x59 6 x63) (fun x66 => b1 (gI μ v2 10 1) (fun x68 => b1 (aI μ x66 0 x68) (fun x71 => some (x71, μ)))))) else B_Ec_count_13 (fun v0 v1 v2 v3 μ => B_Ec_count_2 n v0 v1 v2 v3 μ) fu v0 v1 v2 v3 0 μ)
set_option maxHeartbeats 4000000 in
set_option maxRecDepth 100000 in
theorem w_Ec_count_2 {X : CX} (E : EV X prog_4_method_2_code 5 "PlaceFinder$ErrorCounter" (some .int)) {μ0 μ' : Mem} {r : Int32} (hQ : RQ X 0 0 μ0 (some (vI r)) μ') (hR : xR X = { frames := 2, cells := 0, slots := 0, locals := 49 }) (hI : X.2.2.2.2.2.2.2.2.2.2.2.1.name = "count")  (n : Nat) : ∀ (v0 : Option Nat) (v1 : Option Nat) (v2 : Option Nat) (v3 : Int32) (μ : Mem) (h : B_Ec_count_2  n v0 v1 v2 v3 μ = some (r, μ')), WM X 5 2 [(0, vR v0), (1, vR v1), (2, vR v2), (3, vI v3)] [] 0 0 μ := by
  induction n with
  | zero => intro v0 v1 v2 v3 μ h; cases h
  | succ n ih =>
    intro v0 v1 v2 v3 μ h
    have h : b1 (gI μ v1 10 1) (fun x4 => if x4 < v3 then b1 (gR μ v0 3 0) (fun x59 => b1 (gI μ v1 10 1) (fun x63 => b1 (aR μ x59 6 x63) (fun x66 => b1 (gI μ v2 10 1) (fun x68 => b1 (aI μ x66 0 x68) (fun x71 => some (x71, μ)))))) else B_Ec_count_13 (fun v0 v1 v2 v3 μ => B_Ec_count_2 n v0 v1 v2 v3 μ) fu v0 v1 v2 v3 0 μ) = some (r, μ') := h
    refine wm_iload_n E dEc_count_2 rfl (j := 3) rfl ?_
    refine wm_aload_n E dEc_count_3 rfl (j := 1) rfl ?_
    refine wm_gI E fd_Ec_16 h dEc_count_4 (fun x4 h => ?_)
    refine wm_icmp_gt (tgt := 58) E dEc_count_7 (by decide) (fun c7 => ?_) (fun c7 => ?_)
    · have h := (if_pos c7).symm.trans h
      refine wm_aload_n E dEc_count_58 rfl (j := 0) rfl ?_
      refine wm_gR E fd_Ec_11 h dEc_count_59 (fun x59 h => ?_)
      refine wm_aload_n E dEc_count_62 rfl (j := 1) rfl ?_
      refine wm_gI E fd_Ec_16 h dEc_count_63 (fun x63 h => ?_)
      refine wm_aald (t := 6) E rfl rfl h dEc_count_66 (fun x66 h => ?_)
      refine wm_aload_n E dEc_count_67 rfl (j := 2) rfl ?_
      refine wm_gI E fd_Ec_16 h dEc_count_68 (fun x68 h => ?_)
      refine wm_iald (t := 0) E rfl h dEc_count_71 (fun x71 h => ?_)
      exact wm_iret (rt := .int) E hQ (rtI h) (rtM h) (by decide) (by decide) dEc_count_72
    · have h := (if_neg c7).symm.trans h
      refine wm_iconst (x := 0) E dEc_count_10 (by decide) ?_
      refine wm_istore (lv' := [(4, vI 0), (0, vR v0), (1, vR v1), (2, vR v2), (3, vI v3)]) E dEc_count_11 (by decide) rfl ?_
      refine wm_pick (lv' := [(0, vR v0), (1, vR v1), (2, vR v2), (3, vI v3), (4, vI 0)]) [1, 2, 3, 4, 0] rfl ?_
      exact w_Ec_count_13 E hQ hR hI (fun v0 v1 v2 v3 μ => B_Ec_count_2 n v0 v1 v2 v3 μ) ih fu v0 v1 v2 v3 0 μ h
def S_Ec_count (v0 : Option Nat) (v1 : Option Nat) (v2 : Option Nat) (μ : Mem) : Option (Int32 × Mem) := B_Ec_count_2 fu v0 v1 v2 0 μ
set_option maxHeartbeats 4000000 in
set_option maxRecDepth 100000 in
theorem C_Ec_count (l : Launch) (G : GG) (v0 : Option Nat) (v1 : Option Nat) (v2 : Option Nat) (μ μ' : Mem) (r : Int32) (h : S_Ec_count v0 v1 v2 μ = some (r, μ')) : CT l G y_Ec_count prog_4_method_2_code 5 (some .int) 2 0 0 49 μ [vR v0, vR v1, vR v2] (some (vI r)) μ' := by
  refine wm_met (lv := [(0, vR v0), (1, vR v1), (2, vR v2)]) (by decide +kernel) (Nat.le_of_ble_eq_true rfl) rfl (fun X E hQ hR hI => ?_)
  have h : B_Ec_count_2 fu v0 v1 v2 0 μ = some (r, μ') := h
  refine wm_iconst (x := 0) E dEc_count_0 (by decide) ?_
  refine wm_istore_n (lv' := [(3, vI 0), (0, vR v0), (1, vR v1), (2, vR v2)]) E dEc_count_1 rfl (by decide) rfl ?_
  refine wm_pick (lv' := [(0, vR v0), (1, vR v1), (2, vR v2), (3, vI 0)]) [1, 2, 3, 0] rfl ?_
  exact w_Ec_count_2 E hQ hR hI fu v0 v1 v2 0 μ h
def S_Sv_length (v0 : Option Nat) (μ : Mem) : Option (Int32 × Mem) := b1 (aLen μ v0) (fun x1 => some (x1 >>> (1 &&& 31), μ))
set_option maxHeartbeats 4000000 in
set_option maxRecDepth 100000 in
theorem C_Sv_length (l : Launch) (G : GG) (v0 : Option Nat) (μ μ' : Mem) (r : Int32) (h : S_Sv_length v0 μ = some (r, μ')) : CT l G y_Sv_length prog_27_method_6_code 1 (some .int) 0 0 0 0 μ [vR v0] (some (vI r)) μ' := by
  refine wm_met (lv := [(0, vR v0)]) (by decide +kernel) (Nat.le_of_ble_eq_true rfl) rfl (fun X E hQ hR hI => ?_)
  have h : b1 (aLen μ v0) (fun x1 => some (x1 >>> (1 &&& 31), μ)) = some (r, μ') := h
  refine wm_aload_n E dSv_length_0 rfl (j := 0) rfl ?_
  refine wm_alen E h dSv_length_1 (fun x1 h => ?_)
  refine wm_iconst (x := 1) E dSv_length_2 (by decide) ?_
  refine wm_ishr E dSv_length_3 ?_
  exact wm_iret (rt := .int) E hQ (rtI h) (rtM h) (by decide) (by decide) dSv_length_4
def B_Ma_min2_11  (s0 : Int64) (μ : Mem) : Option (Int64 × Mem) := some (s0, μ)
set_option maxHeartbeats 4000000 in
set_option maxRecDepth 100000 in
theorem w_Ma_min2_11 {X : CX} (E : EV X prog_23_method_70_code 4 "java/lang/Math" (some .long)) {μ0 μ' : Mem} {r : Int64} (hQ : RQ X 0 0 μ0 (some (vL r)) μ') (hR : xR X = { frames := 0, cells := 0, slots := 0, locals := 0 }) (hI : X.2.2.2.2.2.2.2.2.2.2.2.1.name = "min")  (s0 : Int64) (μ : Mem) (h : B_Ma_min2_11  s0 μ = some (r, μ')) : WM X 4 11 [] [vL s0] 0 0 μ := by
  have h : some (s0, μ) = some (r, μ') := h
  exact wm_lret (rt := .long) E hQ (rtL h) (rtM h) (by decide) (by decide) dMa_min2_11
def S_Ma_min2 (v0 : Int64) (v2 : Int64) (μ : Mem) : Option (Int64 × Mem) := if 0 < (lg_cmp v0 v2) then B_Ma_min2_11 v2 μ else B_Ma_min2_11 v0 μ
set_option maxHeartbeats 4000000 in
set_option maxRecDepth 100000 in
theorem C_Ma_min2 (l : Launch) (G : GG) (v0 : Int64) (v2 : Int64) (μ μ' : Mem) (r : Int64) (h : S_Ma_min2 v0 v2 μ = some (r, μ')) : CT l G y_Ma_min2 prog_23_method_70_code 4 (some .long) 0 0 0 0 μ [vL v0, vL v2] (some (vL r)) μ' := by
  refine wm_met (lv := [(0, vL v0), (2, vL v2)]) (by decide +kernel) (Nat.le_of_ble_eq_true rfl) rfl (fun X E hQ hR hI => ?_)
  have h : if 0 < (lg_cmp v0 v2) then B_Ma_min2_11 v2 μ else B_Ma_min2_11 v0 μ = some (r, μ') := h
  refine wm_lload_n E dMa_min2_0 rfl (j := 0) rfl ?_
  refine wm_lload_n E dMa_min2_1 rfl (j := 1) rfl ?_
  refine wm_lcmp E dMa_min2_2 ?_
  refine wm_if_gt (tgt := 10) E dMa_min2_3 (by decide) (fun c3 => ?_) (fun c3 => ?_)
  · have h := (if_pos c3).symm.trans h
    refine wm_lload_n E dMa_min2_10 rfl (j := 1) rfl ?_
    refine wm_pick (lv' := []) [] rfl ?_
    exact w_Ma_min2_11 E hQ hR hI v2 μ h
  · have h := (if_neg c3).symm.trans h
    refine wm_lload_n E dMa_min2_6 rfl (j := 0) rfl ?_
    refine wm_goto (tgt := 11) E dMa_min2_7 (by decide) ?_
    refine wm_pick (lv' := []) [] rfl ?_
    exact w_Ma_min2_11 E hQ hR hI v0 μ h
def B_Rs_positionKey_25  (s0 : Int64) (μ : Mem) : Option (Int64 × Mem) := some (s0, μ)
set_option maxHeartbeats 4000000 in
set_option maxRecDepth 100000 in
theorem w_Rs_positionKey_25 {X : CX} (E : EV X prog_9_method_6_code 1 "PlaceFinder$RouteSearch" (some .long)) {μ0 μ' : Mem} {r : Int64} (hQ : RQ X 0 0 μ0 (some (vL r)) μ') (hR : xR X = { frames := 0, cells := 0, slots := 0, locals := 0 }) (hI : X.2.2.2.2.2.2.2.2.2.2.2.1.name = "positionKey")  (s0 : Int64) (μ : Mem) (h : B_Rs_positionKey_25  s0 μ = some (r, μ')) : WM X 1 25 [] [vL s0] 0 0 μ := by
  have h : some (s0, μ) = some (r, μ') := h
  exact wm_lret (rt := .long) E hQ (rtL h) (rtM h) (by decide) (by decide) dRs_positionKey_25
def S_Rs_positionKey (v0 : Option Nat) (μ : Mem) : Option (Int64 × Mem) := b1 (gI μ v0 8 0) (fun x1 => if x1 = 0 then B_Rs_positionKey_25 0 μ else b1 (gI μ v0 8 1) (fun x8 => b1 (gI μ v0 8 2) (fun x16 => B_Rs_positionKey_25 ((((x8 : Int32).toInt64) <<< ((32 : Int32).toInt64 &&& 63)) + ((x16 : Int32).toInt64)) μ)))
set_option maxHeartbeats 4000000 in
set_option maxRecDepth 100000 in
theorem C_Rs_positionKey (l : Launch) (G : GG) (v0 : Option Nat) (μ μ' : Mem) (r : Int64) (h : S_Rs_positionKey v0 μ = some (r, μ')) : CT l G y_Rs_positionKey prog_9_method_6_code 1 (some .long) 0 0 0 0 μ [vR v0] (some (vL r)) μ' := by
  refine wm_met (lv := [(0, vR v0)]) (by decide +kernel) (Nat.le_of_ble_eq_true rfl) rfl (fun X E hQ hR hI => ?_)
  have h : b1 (gI μ v0 8 0) (fun x1 => if x1 = 0 then B_Rs_positionKey_25 0 μ else b1 (gI μ v0 8 1) (fun x8 => b1 (gI μ v0 8 2) (fun x16 => B_Rs_positionKey_25 ((((x8 : Int32).toInt64) <<< ((32 : Int32).toInt64 &&& 63)) + ((x16 : Int32).toInt64)) μ))) = some (r, μ') := h
  refine wm_aload_n E dRs_positionKey_0 rfl (j := 0) rfl ?_
  refine wm_gI E fd_Rs_7 h dRs_positionKey_1 (fun x1 h => ?_)
  refine wm_if_eq (tgt := 24) E dRs_positionKey_4 (by decide) (fun c4 => ?_) (fun c4 => ?_)
  · have h := (if_pos c4).symm.trans h
    refine wm_lconst (x := 0) E dRs_positionKey_24 (by decide) ?_
    refine wm_pick (lv' := []) [] rfl ?_
    exact w_Rs_positionKey_25 E hQ hR hI 0 μ h
  · have h := (if_neg c4).symm.trans h
    refine wm_aload_n E dRs_positionKey_7 rfl (j := 0) rfl ?_
    refine wm_gI E fd_Rs_54 h dRs_positionKey_8 (fun x8 h => ?_)
    refine wm_i2l E dRs_positionKey_11 ?_
    refine wm_bipush (x := 32) E dRs_positionKey_12 (by decide) ?_
    refine wm_lshl E dRs_positionKey_14 ?_
    refine wm_aload_n E dRs_positionKey_15 rfl (j := 0) rfl ?_
    refine wm_gI E fd_Rs_57 h dRs_positionKey_16 (fun x16 h => ?_)
    refine wm_i2l E dRs_positionKey_19 ?_
    refine wm_ladd E dRs_positionKey_20 ?_
    refine wm_goto (tgt := 25) E dRs_positionKey_21 (by decide) ?_
    refine wm_pick (lv' := []) [] rfl ?_
    exact w_Rs_positionKey_25 E hQ hR hI ((((x8 : Int32).toInt64) <<< ((32 : Int32).toInt64 &&& 63)) + ((x16 : Int32).toInt64)) μ h
def S_P_routeKey (v0 : Option Nat) (v1 : Option Nat) (μ : Mem) : Option (Int64 × Mem) := if v1 = none then some (0, μ) else b1 (gR μ v0 11 11) (fun x7 => b1 (gR μ v0 11 4) (fun x11 => b1 (rc μ x7 8) (fun _ => b2 (S_Rs_start x7 x11 v1 μ) (fun x15 m15 => b1 (gR m15 v0 11 11) (fun x19 => b1 (rc m15 x19 8) (fun _ => b2 (S_Rs_positionKey x19 m15) (fun x22 m22 => some (x22, m22))))))))
set_option maxHeartbeats 4000000 in
set_option maxRecDepth 100000 in
theorem C_P_routeKey (l : Launch) (G : GG) (v0 : Option Nat) (v1 : Option Nat) (μ μ' : Mem) (r : Int64) (h : S_P_routeKey v0 v1 μ = some (r, μ')) : CT l G y_P_routeKey prog_1_method_40_code 2 (some .long) 4 0 0 108 μ [vR v0, vR v1] (some (vL r)) μ' := by
  refine wm_met (lv := [(0, vR v0), (1, vR v1)]) (by decide +kernel) (Nat.le_of_ble_eq_true rfl) rfl (fun X E hQ hR hI => ?_)
  have h : if v1 = none then some (0, μ) else b1 (gR μ v0 11 11) (fun x7 => b1 (gR μ v0 11 4) (fun x11 => b1 (rc μ x7 8) (fun _ => b2 (S_Rs_start x7 x11 v1 μ) (fun x15 m15 => b1 (gR m15 v0 11 11) (fun x19 => b1 (rc m15 x19 8) (fun _ => b2 (S_Rs_positionKey x19 m15) (fun x22 m22 => some (x22, m22)))))))) = some (r, μ') := h
  refine wm_aload_n E dP_routeKey_0 rfl (j := 1) rfl ?_
  refine wm_ifnonnull (tgt := 6) E dP_routeKey_1 (by decide) (fun c1 => ?_) (fun c1 => ?_)
  · have h := (if_neg c1).symm.trans h
    refine wm_aload_n E dP_routeKey_6 rfl (j := 0) rfl ?_
    refine wm_gR E fd_P_69 h dP_routeKey_7 (fun x7 h => ?_)
    refine wm_aload_n E dP_routeKey_10 rfl (j := 0) rfl ?_
    refine wm_gR E fd_P_32 h dP_routeKey_11 (fun x11 h => ?_)
    refine wm_aload_n E dP_routeKey_14 rfl (j := 1) rfl ?_
    obtain ⟨u15, hr15, h⟩ := b1S h
    obtain ⟨x15, m15, hc15, h⟩ := b2S h
    refine wm_cV (ci := 8) (As := [vR x11, vR v1]) (st := []) E lk_P_372 rfl im_Rs_start sl_Rs_start hr15 (C_Rs_start (xl X) X.1 x7 x11 v1 μ _ _ hc15) rfl rfl (by rw [hR]; decide) (by rw [hR]; decide) (by decide) dP_routeKey_15 ?_
    refine wm_aload_n E dP_routeKey_18 rfl (j := 0) rfl ?_
    refine wm_gR E fd_P_69 h dP_routeKey_19 (fun x19 h => ?_)
    obtain ⟨u22, hr22, h⟩ := b1S h
    obtain ⟨x22, m22, hc22, h⟩ := b2S h
    refine wm_cV (ci := 8) (As := []) (st := []) E lk_P_412 rfl im_Rs_positionKey sl_Rs_positionKey hr22 (C_Rs_positionKey (xl X) X.1 x19 m15 _ _ hc22) rfl rfl (by rw [hR]; decide) (by rw [hR]; decide) (by decide) dP_routeKey_22 ?_
    exact wm_lret (rt := .long) E hQ (rtL h) (rtM h) (by decide) (by decide) dP_routeKey_25
  · have h := (if_pos c1).symm.trans h
    refine wm_lconst (x := 0) E dP_routeKey_4 (by decide) ?_
    exact wm_lret (rt := .long) E hQ (rtL h) (rtM h) (by decide) (by decide) dP_routeKey_5
def B_Hi_add_73  (v0 : Option Nat) (v1 : Int32) (v2 : Int64) (v4 : Int32) (μ : Mem) : Option (Unit × Mem) := b1 (gR μ v0 4 1) (fun x74 => b1 (sL μ x74 1 v4 v2) (fun m80 => b1 (gR m80 v0 4 0) (fun x82 => b1 (sI m80 x82 0 v4 v1) (fun m88 => b1 (gI m88 v0 4 2) (fun x91 => b1 (pV m88 v0 4 2 (vI (x91 + 1))) (fun m96 => some ((), m96)))))))
set_option maxHeartbeats 4000000 in
set_option maxRecDepth 100000 in
theorem w_Hi_add_73 {X : CX} (E : EV X prog_5_method_3_code 5 "PlaceFinder$Hits" none) {μ0 μ' : Mem} {r : Unit} (hQ : RQ X 0 0 μ0 none μ') (hR : xR X = { frames := 0, cells := 0, slots := 0, locals := 0 }) (hI : X.2.2.2.2.2.2.2.2.2.2.2.1.name = "add")  (v0 : Option Nat) (v1 : Int32) (v2 : Int64) (v4 : Int32) (μ : Mem) (h : B_Hi_add_73  v0 v1 v2 v4 μ = some (r, μ')) : WM X 5 73 [(0, vR v0), (1, vI v1), (2, vL v2), (4, vI v4)] [] 0 0 μ := by
  have h : b1 (gR μ v0 4 1) (fun x74 => b1 (sL μ x74 1 v4 v2) (fun m80 => b1 (gR m80 v0 4 0) (fun x82 => b1 (sI m80 x82 0 v4 v1) (fun m88 => b1 (gI m88 v0 4 2) (fun x91 => b1 (pV m88 v0 4 2 (vI (x91 + 1))) (fun m96 => some ((), m96))))))) = some (r, μ') := h
  refine wm_aload_n E dHi_add_73 rfl (j := 0) rfl ?_
  refine wm_gR E fd_Hi_15 h dHi_add_74 (fun x74 h => ?_)
  refine wm_iload E dHi_add_77 (j := 3) rfl ?_
  refine wm_lload_n E dHi_add_79 rfl (j := 2) rfl ?_
  refine wm_last (t := 1) E rfl h dHi_add_80 (fun m80 h => ?_)
  refine wm_aload_n E dHi_add_81 rfl (j := 0) rfl ?_
  refine wm_gR E fd_Hi_9 h dHi_add_82 (fun x82 h => ?_)
  refine wm_iload E dHi_add_85 (j := 3) rfl ?_
  refine wm_iload_n E dHi_add_87 rfl (j := 1) rfl ?_
  refine wm_iast (t := 0) E rfl h dHi_add_88 (fun m88 h => ?_)
  refine wm_aload_n E dHi_add_89 rfl (j := 0) rfl ?_
  refine wm_dup E dHi_add_90 rfl ?_
  refine wm_gI E fd_Hi_19 h dHi_add_91 (fun x91 h => ?_)
  refine wm_iconst (x := 1) E dHi_add_94 (by decide) ?_
  refine wm_iadd E dHi_add_95 ?_
  refine wm_pI E fp_Hi_19 (fun q => by cases q) h dHi_add_96 (fun m96 h => ?_)
  exact wm_vret E hQ rfl (rtM h) (by decide) (by decide) dHi_add_99
def B_Hi_add_16  : Nat → Option Nat → Int32 → Int64 → Int32 → Mem → Option (Unit × Mem)
  | 0, _, _, _, _, _ => none
  | n + 1, v0, v1, v2, v4, μ => if v4 ≤ 0 then B_Hi_add_73 v0 v1 v2 v4 μ else b1 (gR μ v0 4 1) (fun x22 => b1 (aL μ x22 1 (v4 - 1)) (fun x29 => if (lg_cmp x29 v2) ≤ 0 then B_Hi_add_73 v0 v1 v2 v4 μ else b1 (gR μ v0 4 1) (fun x36 => b1 (gR μ v0 4 1) (fun x42 => b1 (aL μ x42 1 (v4 - 1)) (fun x49 => b1 (sL μ x36 1 v4 x49) (fun m50 => b1 (gR m50 v0 4 0) (fun x52 => b1 (gR m50 v0 4 0) (fun x58 => b1 (aI m50 x58 0 (v4 - 1)) (fun x65 => b1 (sI m50 x52 0 v4 x65) (fun m66 => (fun v0 v1 v2 v4 μ => B_Hi_add_16 n v0 v1 v2 v4 μ) v0 v1 v2 (v4 + (-1)) m66))))))))))
set_option maxHeartbeats 4000000 in
set_option maxRecDepth 100000 in
theorem w_Hi_add_16 {X : CX} (E : EV X prog_5_method_3_code 5 "PlaceFinder$Hits" none) {μ0 μ' : Mem} {r : Unit} (hQ : RQ X 0 0 μ0 none μ') (hR : xR X = { frames := 0, cells := 0, slots := 0, locals := 0 }) (hI : X.2.2.2.2.2.2.2.2.2.2.2.1.name = "add")  (n : Nat) : ∀ (v0 : Option Nat) (v1 : Int32) (v2 : Int64) (v4 : Int32) (μ : Mem) (h : B_Hi_add_16  n v0 v1 v2 v4 μ = some (r, μ')), WM X 5 16 [(0, vR v0), (1, vI v1), (2, vL v2), (4, vI v4)] [] 0 0 μ := by
  induction n with
  | zero => intro v0 v1 v2 v4 μ h; cases h
  | succ n ih =>
    intro v0 v1 v2 v4 μ h
    have h : if v4 ≤ 0 then B_Hi_add_73 v0 v1 v2 v4 μ else b1 (gR μ v0 4 1) (fun x22 => b1 (aL μ x22 1 (v4 - 1)) (fun x29 => if (lg_cmp x29 v2) ≤ 0 then B_Hi_add_73 v0 v1 v2 v4 μ else b1 (gR μ v0 4 1) (fun x36 => b1 (gR μ v0 4 1) (fun x42 => b1 (aL μ x42 1 (v4 - 1)) (fun x49 => b1 (sL μ x36 1 v4 x49) (fun m50 => b1 (gR m50 v0 4 0) (fun x52 => b1 (gR m50 v0 4 0) (fun x58 => b1 (aI m50 x58 0 (v4 - 1)) (fun x65 => b1 (sI m50 x52 0 v4 x65) (fun m66 => (fun v0 v1 v2 v4 μ => B_Hi_add_16 n v0 v1 v2 v4 μ) v0 v1 v2 (v4 + (-1)) m66)))))))))) = some (r, μ') := h
    refine wm_iload E dHi_add_16 (j := 3) rfl ?_
    refine wm_if_le (tgt := 73) E dHi_add_18 (by decide) (fun c18 => ?_) (fun c18 => ?_)
    · have h := (if_pos c18).symm.trans h
      refine wm_pick (lv' := [(0, vR v0), (1, vI v1), (2, vL v2), (4, vI v4)]) [0, 1, 2, 3] rfl ?_
      exact w_Hi_add_73 E hQ hR hI v0 v1 v2 v4 μ h
    · have h := (if_neg c18).symm.trans h
      refine wm_aload_n E dHi_add_21 rfl (j := 0) rfl ?_
      refine wm_gR E fd_Hi_15 h dHi_add_22 (fun x22 h => ?_)
      refine wm_iload E dHi_add_25 (j := 3) rfl ?_
      refine wm_iconst (x := 1) E dHi_add_27 (by decide) ?_
      refine wm_isub E dHi_add_28 ?_
      refine wm_lald (t := 1) E rfl h dHi_add_29 (fun x29 h => ?_)
      refine wm_lload_n E dHi_add_30 rfl (j := 2) rfl ?_
      refine wm_lcmp E dHi_add_31 ?_
      refine wm_if_le (tgt := 73) E dHi_add_32 (by decide) (fun c32 => ?_) (fun c32 => ?_)
      · have h := (if_pos c32).symm.trans h
        refine wm_pick (lv' := [(0, vR v0), (1, vI v1), (2, vL v2), (4, vI v4)]) [0, 1, 2, 3] rfl ?_
        exact w_Hi_add_73 E hQ hR hI v0 v1 v2 v4 μ h
      · have h := (if_neg c32).symm.trans h
        refine wm_aload_n E dHi_add_35 rfl (j := 0) rfl ?_
        refine wm_gR E fd_Hi_15 h dHi_add_36 (fun x36 h => ?_)
        refine wm_iload E dHi_add_39 (j := 3) rfl ?_
        refine wm_aload_n E dHi_add_41 rfl (j := 0) rfl ?_
        refine wm_gR E fd_Hi_15 h dHi_add_42 (fun x42 h => ?_)
        refine wm_iload E dHi_add_45 (j := 3) rfl ?_
        refine wm_iconst (x := 1) E dHi_add_47 (by decide) ?_
        refine wm_isub E dHi_add_48 ?_
        refine wm_lald (t := 1) E rfl h dHi_add_49 (fun x49 h => ?_)
        refine wm_last (t := 1) E rfl h dHi_add_50 (fun m50 h => ?_)
        refine wm_aload_n E dHi_add_51 rfl (j := 0) rfl ?_
        refine wm_gR E fd_Hi_9 h dHi_add_52 (fun x52 h => ?_)
        refine wm_iload E dHi_add_55 (j := 3) rfl ?_
        refine wm_aload_n E dHi_add_57 rfl (j := 0) rfl ?_
        refine wm_gR E fd_Hi_9 h dHi_add_58 (fun x58 h => ?_)
        refine wm_iload E dHi_add_61 (j := 3) rfl ?_
        refine wm_iconst (x := 1) E dHi_add_63 (by decide) ?_
        refine wm_isub E dHi_add_64 ?_
        refine wm_iald (t := 0) E rfl h dHi_add_65 (fun x65 h => ?_)
        refine wm_iast (t := 0) E rfl h dHi_add_66 (fun m66 h => ?_)
        refine wm_iinc (lv' := [(4, vI (v4 + (-1))), (0, vR v0), (1, vI v1), (2, vL v2)]) (d := (-1)) E dHi_add_67 (by decide) (j := 3) rfl (by decide) rfl ?_
        refine wm_goto (tgt := 16) E dHi_add_70 (by decide) ?_
        refine wm_pick (lv' := [(0, vR v0), (1, vI v1), (2, vL v2), (4, vI (v4 + (-1)))]) [1, 2, 3, 0] rfl ?_
        exact ih v0 v1 v2 (v4 + (-1)) m66 h
def S_Hi_add (v0 : Option Nat) (v1 : Int32) (v2 : Int64) (μ : Mem) : Option (Unit × Mem) := b1 (gI μ v0 4 2) (fun x1 => if x1 < 30 then b1 (gI μ v0 4 2) (fun x11 => B_Hi_add_16 fu v0 v1 v2 x11 μ) else some ((), μ))
set_option maxHeartbeats 4000000 in
set_option maxRecDepth 100000 in
theorem C_Hi_add (l : Launch) (G : GG) (v0 : Option Nat) (v1 : Int32) (v2 : Int64) (μ μ' : Mem) (r : Unit) (h : S_Hi_add v0 v1 v2 μ = some (r, μ')) : CT l G y_Hi_add prog_5_method_3_code 5 none 0 0 0 0 μ [vR v0, vI v1, vL v2] none μ' := by
  refine wm_met (lv := [(0, vR v0), (1, vI v1), (2, vL v2)]) (by decide +kernel) (Nat.le_of_ble_eq_true rfl) rfl (fun X E hQ hR hI => ?_)
  have h : b1 (gI μ v0 4 2) (fun x1 => if x1 < 30 then b1 (gI μ v0 4 2) (fun x11 => B_Hi_add_16 fu v0 v1 v2 x11 μ) else some ((), μ)) = some (r, μ') := h
  refine wm_aload_n E dHi_add_0 rfl (j := 0) rfl ?_
  refine wm_gI E fd_Hi_19 h dHi_add_1 (fun x1 h => ?_)
  refine wm_bipush (x := 30) E dHi_add_4 (by decide) ?_
  refine wm_icmp_lt (tgt := 10) E dHi_add_6 (by decide) (fun c6 => ?_) (fun c6 => ?_)
  · have h := (if_pos c6).symm.trans h
    refine wm_aload_n E dHi_add_10 rfl (j := 0) rfl ?_
    refine wm_gI E fd_Hi_19 h dHi_add_11 (fun x11 h => ?_)
    refine wm_istore (lv' := [(4, vI x11), (0, vR v0), (1, vI v1), (2, vL v2)]) E dHi_add_14 (by decide) rfl ?_
    refine wm_pick (lv' := [(0, vR v0), (1, vI v1), (2, vL v2), (4, vI x11)]) [1, 2, 3, 0] rfl ?_
    exact w_Hi_add_16 E hQ hR hI fu v0 v1 v2 x11 μ h
  · have h := (if_neg c6).symm.trans h
    exact wm_vret E hQ rfl (rtM h) (by decide) (by decide) dHi_add_9
def S_Hi_keepFirst (v0 : Option Nat) (v1 : Int32) (μ : Mem) : Option (Unit × Mem) := b1 (gI μ v0 4 2) (fun x2 => b2 (S_Ma_min x2 v1 μ) (fun x6 m6 => b1 (pV m6 v0 4 2 (vI x6)) (fun m9 => some ((), m9))))
set_option maxHeartbeats 4000000 in
set_option maxRecDepth 100000 in
theorem C_Hi_keepFirst (l : Launch) (G : GG) (v0 : Option Nat) (v1 : Int32) (μ μ' : Mem) (r : Unit) (h : S_Hi_keepFirst v0 v1 μ = some (r, μ')) : CT l G y_Hi_keepFirst prog_5_method_4_code 2 none 1 0 0 21 μ [vR v0, vI v1] none μ' := by
  refine wm_met (lv := [(0, vR v0), (1, vI v1)]) (by decide +kernel) (Nat.le_of_ble_eq_true rfl) rfl (fun X E hQ hR hI => ?_)
  have h : b1 (gI μ v0 4 2) (fun x2 => b2 (S_Ma_min x2 v1 μ) (fun x6 m6 => b1 (pV m6 v0 4 2 (vI x6)) (fun m9 => some ((), m9)))) = some (r, μ') := h
  refine wm_aload_n E dHi_keepFirst_0 rfl (j := 0) rfl ?_
  refine wm_aload_n E dHi_keepFirst_1 rfl (j := 0) rfl ?_
  refine wm_gI E fd_Hi_19 h dHi_keepFirst_2 (fun x2 h => ?_)
  refine wm_iload_n E dHi_keepFirst_5 rfl (j := 1) rfl ?_
  obtain ⟨x6, m6, hc6, h⟩ := b2S h
  refine wm_cS (As := [vI x2, vI v1]) (st := [vR v0]) E lk_Hi_23 sc_Ma_min (C_Ma_min (xl X) X.1 x2 v1 μ _ _ hc6) rfl rfl (by rw [hR]; decide) (by rw [hR]; decide) (by decide) dHi_keepFirst_6 ?_
  refine wm_pI E fp_Hi_19 (fun q => by cases q) h dHi_keepFirst_9 (fun m9 h => ?_)
  exact wm_vret E hQ rfl (rtM h) (by decide) (by decide) dHi_keepFirst_12
def B_P_watchOf_19  (s0 : Option Nat) (μ : Mem) : Option (Option Nat × Mem) := some (s0, μ)
set_option maxHeartbeats 4000000 in
set_option maxRecDepth 100000 in
theorem w_P_watchOf_19 {X : CX} (E : EV X prog_1_method_29_code 2 "PlaceFinder" (some (.object "PlaceFinder$Watch"))) {μ0 μ' : Mem} {r : Option Nat} (hQ : RQ X 0 0 μ0 (some (vR r)) μ') (hR : xR X = { frames := 0, cells := 0, slots := 0, locals := 0 }) (hI : X.2.2.2.2.2.2.2.2.2.2.2.1.name = "watchOf")  (s0 : Option Nat) (μ : Mem) (h : B_P_watchOf_19  s0 μ = some (r, μ')) : WM X 2 19 [] [vR s0] 0 0 μ := by
  have h : some (s0, μ) = some (r, μ') := h
  exact wm_aret E hQ (rtR h) (rtM h) (Or.inl ⟨_, rfl⟩) (by decide) (by decide) dP_watchOf_19
def B_P_watchOf_18   (μ : Mem) : Option (Option Nat × Mem) := B_P_watchOf_19 none μ
set_option maxHeartbeats 4000000 in
set_option maxRecDepth 100000 in
theorem w_P_watchOf_18 {X : CX} (E : EV X prog_1_method_29_code 2 "PlaceFinder" (some (.object "PlaceFinder$Watch"))) {μ0 μ' : Mem} {r : Option Nat} (hQ : RQ X 0 0 μ0 (some (vR r)) μ') (hR : xR X = { frames := 0, cells := 0, slots := 0, locals := 0 }) (hI : X.2.2.2.2.2.2.2.2.2.2.2.1.name = "watchOf")   (μ : Mem) (h : B_P_watchOf_18   μ = some (r, μ')) : WM X 2 18 [] [] 0 0 μ := by
  have h : B_P_watchOf_19 none μ = some (r, μ') := h
  refine wm_null E dP_watchOf_18 ?_
  refine wm_pick (lv' := []) [] rfl ?_
  exact w_P_watchOf_19 E hQ hR hI none μ h
def S_P_watchOf (v0 : Option Nat) (v1 : Int32) (μ : Mem) : Option (Option Nat × Mem) := if v1 < 0 then B_P_watchOf_18 μ else if 4 ≤ v1 then B_P_watchOf_18 μ else b1 (gR μ v0 11 8) (fun x10 => b1 (aR μ x10 5 v1) (fun x14 => B_P_watchOf_19 x14 μ))
set_option maxHeartbeats 4000000 in
set_option maxRecDepth 100000 in
theorem C_P_watchOf (l : Launch) (G : GG) (v0 : Option Nat) (v1 : Int32) (μ μ' : Mem) (r : Option Nat) (h : S_P_watchOf v0 v1 μ = some (r, μ')) : CT l G y_P_watchOf prog_1_method_29_code 2 (some (.object "PlaceFinder$Watch")) 0 0 0 0 μ [vR v0, vI v1] (some (vR r)) μ' := by
  refine wm_met (lv := [(0, vR v0), (1, vI v1)]) (by decide +kernel) (Nat.le_of_ble_eq_true rfl) rfl (fun X E hQ hR hI => ?_)
  have h : if v1 < 0 then B_P_watchOf_18 μ else if 4 ≤ v1 then B_P_watchOf_18 μ else b1 (gR μ v0 11 8) (fun x10 => b1 (aR μ x10 5 v1) (fun x14 => B_P_watchOf_19 x14 μ)) = some (r, μ') := h
  refine wm_iload_n E dP_watchOf_0 rfl (j := 1) rfl ?_
  refine wm_if_lt (tgt := 18) E dP_watchOf_1 (by decide) (fun c1 => ?_) (fun c1 => ?_)
  · have h := (if_pos c1).symm.trans h
    refine wm_pick (lv' := []) [] rfl ?_
    exact w_P_watchOf_18 E hQ hR hI μ h
  · have h := (if_neg c1).symm.trans h
    refine wm_iload_n E dP_watchOf_4 rfl (j := 1) rfl ?_
    refine wm_iconst (x := 4) E dP_watchOf_5 (by decide) ?_
    refine wm_icmp_ge (tgt := 18) E dP_watchOf_6 (by decide) (fun c6 => ?_) (fun c6 => ?_)
    · have h := (if_pos c6).symm.trans h
      refine wm_pick (lv' := []) [] rfl ?_
      exact w_P_watchOf_18 E hQ hR hI μ h
    · have h := (if_neg c6).symm.trans h
      refine wm_aload_n E dP_watchOf_9 rfl (j := 0) rfl ?_
      refine wm_gR E fd_P_48 h dP_watchOf_10 (fun x10 h => ?_)
      refine wm_iload_n E dP_watchOf_13 rfl (j := 1) rfl ?_
      refine wm_aald (t := 5) E rfl rfl h dP_watchOf_14 (fun x14 h => ?_)
      refine wm_goto (tgt := 19) E dP_watchOf_15 (by decide) ?_
      refine wm_pick (lv' := []) [] rfl ?_
      exact w_P_watchOf_19 E hQ hR hI x14 μ h
def B_Wa_hasTold_16  (s0 : Int32) (μ : Mem) : Option (Int32 × Mem) := gd (¬ okZ s0 = true) (some (s0, μ))
set_option maxHeartbeats 4000000 in
set_option maxRecDepth 100000 in
theorem w_Wa_hasTold_16 {X : CX} (E : EV X prog_10_method_2_code 2 "PlaceFinder$Watch" (some .boolean)) {μ0 μ' : Mem} {r : Int32} (hQ : RQ X 0 0 μ0 (some (vI r)) μ') (hR : xR X = { frames := 0, cells := 0, slots := 0, locals := 0 }) (hI : X.2.2.2.2.2.2.2.2.2.2.2.1.name = "hasTold")  (s0 : Int32) (μ : Mem) (h : B_Wa_hasTold_16  s0 μ = some (r, μ')) : WM X 2 16 [] [vI s0] 0 0 μ := by
  have h : gd (¬ okZ s0 = true) (some (s0, μ)) = some (r, μ') := h
  obtain ⟨hz16, h⟩ := gdS h
  exact wm_zret (rt := .boolean) E hQ (rtI h) (rtM h) (okZN hz16) (by decide) (by decide) dWa_hasTold_16
def S_Wa_hasTold (v0 : Option Nat) (v1 : Int32) (μ : Mem) : Option (Int32 × Mem) := b1 (gI μ v0 9 3) (fun x1 => if (x1 &&& (1 <<< (v1 &&& 31))) = 0 then B_Wa_hasTold_16 0 μ else B_Wa_hasTold_16 1 μ)
set_option maxHeartbeats 4000000 in
set_option maxRecDepth 100000 in
theorem C_Wa_hasTold (l : Launch) (G : GG) (v0 : Option Nat) (v1 : Int32) (μ μ' : Mem) (r : Int32) (h : S_Wa_hasTold v0 v1 μ = some (r, μ')) : CT l G y_Wa_hasTold prog_10_method_2_code 2 (some .boolean) 0 0 0 0 μ [vR v0, vI v1] (some (vI r)) μ' := by
  refine wm_met (lv := [(0, vR v0), (1, vI v1)]) (by decide +kernel) (Nat.le_of_ble_eq_true rfl) rfl (fun X E hQ hR hI => ?_)
  have h : b1 (gI μ v0 9 3) (fun x1 => if (x1 &&& (1 <<< (v1 &&& 31))) = 0 then B_Wa_hasTold_16 0 μ else B_Wa_hasTold_16 1 μ) = some (r, μ') := h
  refine wm_aload_n E dWa_hasTold_0 rfl (j := 0) rfl ?_
  refine wm_gI E fd_Wa_16 h dWa_hasTold_1 (fun x1 h => ?_)
  refine wm_iconst (x := 1) E dWa_hasTold_4 (by decide) ?_
  refine wm_iload_n E dWa_hasTold_5 rfl (j := 1) rfl ?_
  refine wm_ishl E dWa_hasTold_6 ?_
  refine wm_iand E dWa_hasTold_7 ?_
  refine wm_if_eq (tgt := 15) E dWa_hasTold_8 (by decide) (fun c8 => ?_) (fun c8 => ?_)
  · have h := (if_pos c8).symm.trans h
    refine wm_iconst (x := 0) E dWa_hasTold_15 (by decide) ?_
    refine wm_pick (lv' := []) [] rfl ?_
    exact w_Wa_hasTold_16 E hQ hR hI 0 μ h
  · have h := (if_neg c8).symm.trans h
    refine wm_iconst (x := 1) E dWa_hasTold_11 (by decide) ?_
    refine wm_goto (tgt := 16) E dWa_hasTold_12 (by decide) ?_
    refine wm_pick (lv' := []) [] rfl ?_
    exact w_Wa_hasTold_16 E hQ hR hI 1 μ h
def S_M_init (v0 : Option Nat) (μ : Mem) : Option (Unit × Mem) := b1 (rc μ v0 12) (fun _ => b2 (nI_ μ 0 30 30) (fun x7 m7 => b1 (pV m7 v0 12 2 (vR x7)) (fun m9 => b2 (nI_ m9 0 30 30) (fun x15 m15 => b1 (pV m15 v0 12 3 (vR x15)) (fun m17 => b2 (nI_ m17 0 30 30) (fun x23 m23 => b1 (pV m23 v0 12 4 (vR x23)) (fun m25 => b2 (nI_ m25 0 90 90) (fun x31 m31 => b1 (pV m31 v0 12 5 (vR x31)) (fun m33 => b2 (nI_ m33 0 90 90) (fun x39 m39 => b1 (pV m39 v0 12 6 (vR x39)) (fun m41 => b2 (nI_ m41 0 720 720) (fun x48 m48 => b1 (pV m48 v0 12 7 (vR x48)) (fun m50 => b2 (nI_ m50 0 720 720) (fun x57 m57 => b1 (pV m57 v0 12 8 (vR x57)) (fun m59 => b2 (nI_ m59 0 30 30) (fun x65 m65 => b1 (pV m65 v0 12 9 (vR x65)) (fun m67 => b2 (nI_ m67 0 60 60) (fun x73 m73 => b1 (pV m73 v0 12 10 (vR x73)) (fun m75 => b2 (nI_ m75 0 60 60) (fun x81 m81 => b1 (pV m81 v0 12 11 (vR x81)) (fun m83 => b2 (nI_ m83 0 60 60) (fun x89 m89 => b1 (pV m89 v0 12 12 (vR x89)) (fun m91 => b2 (nI_ m91 0 600 600) (fun x98 m98 => b1 (pV m98 v0 12 13 (vR x98)) (fun m100 => b2 (nI_ m100 0 30 30) (fun x106 m106 => b1 (pV m106 v0 12 14 (vR x106)) (fun m108 => b2 (nI_ m108 0 120 120) (fun x114 m114 => b1 (pV m114 v0 12 15 (vR x114)) (fun m116 => b2 (nI_ m116 0 120 120) (fun x122 m122 => b1 (pV m122 v0 12 16 (vR x122)) (fun m124 => b2 (nI_ m124 0 120 120) (fun x130 m130 => b1 (pV m130 v0 12 17 (vR x130)) (fun m132 => b2 (nI_ m132 0 8 8) (fun x138 m138 => b1 (pV m138 v0 12 19 (vR x138)) (fun m140 => b2 (nI_ m140 0 8 8) (fun x146 m146 => b1 (pV m146 v0 12 20 (vR x146)) (fun m148 => b2 (nI_ m148 0 10 10) (fun x154 m154 => b1 (pV m154 v0 12 22 (vR x154)) (fun m156 => b2 (nI_ m156 0 5 5) (fun x161 m161 => b1 (pV m161 v0 12 23 (vR x161)) (fun m163 => b2 (nI_ m163 0 25 25) (fun x169 m169 => b1 (pV m169 v0 12 24 (vR x169)) (fun m171 => b2 (nI_ m171 0 25 25) (fun x177 m177 => b1 (pV m177 v0 12 25 (vR x177)) (fun m179 => b2 (nI_ m179 0 25 25) (fun x185 m185 => b1 (pV m185 v0 12 26 (vR x185)) (fun m187 => b2 (nI_ m187 0 25 25) (fun x193 m193 => b1 (pV m193 v0 12 27 (vR x193)) (fun m195 => b2 (nI_ m195 0 25 25) (fun x201 m201 => b1 (pV m201 v0 12 28 (vR x201)) (fun m203 => b2 (nI_ m203 0 250 250) (fun x210 m210 => b1 (pV m210 v0 12 29 (vR x210)) (fun m212 => b2 (nI_ m212 0 5 5) (fun x217 m217 => b1 (pV m217 v0 12 30 (vR x217)) (fun m219 => b2 (nI_ m219 0 40 40) (fun x225 m225 => b1 (pV m225 v0 12 31 (vR x225)) (fun m227 => b2 (nI_ m227 0 40 40) (fun x233 m233 => b1 (pV m233 v0 12 32 (vR x233)) (fun m235 => b2 (nI_ m235 0 5 5) (fun x240 m240 => b1 (pV m240 v0 12 33 (vR x240)) (fun m242 => b2 (nI_ m242 3 5 5) (fun x247 m247 => b1 (pV m247 v0 12 34 (vR x247)) (fun m249 => b2 (nI_ m249 0 5 5) (fun x254 m254 => b1 (pV m254 v0 12 35 (vR x254)) (fun m256 => b2 (nI_ m256 0 30 30) (fun x262 m262 => b1 (pV m262 v0 12 37 (vR x262)) (fun m264 => b2 (nI_ m264 0 10 10) (fun x270 m270 => b1 (pV m270 v0 12 39 (vR x270)) (fun m272 => b2 (nI_ m272 0 121 121) (fun x278 m278 => b1 (pV m278 v0 12 40 (vR x278)) (fun m280 => b2 (nI_ m280 0 30 30) (fun x286 m286 => b1 (pV m286 v0 12 50 (vR x286)) (fun m288 => b2 (nI_ m288 0 30 30) (fun x294 m294 => b1 (pV m294 v0 12 51 (vR x294)) (fun m296 => b2 (nI_ m296 0 30 30) (fun x302 m302 => b1 (pV m302 v0 12 52 (vR x302)) (fun m304 => b2 (nL_ m304 1 30 30) (fun x310 m310 => b1 (pV m310 v0 12 53 (vR x310)) (fun m312 => b2 (nL_ m312 1 30 30) (fun x318 m318 => b1 (pV m318 v0 12 54 (vR x318)) (fun m320 => some ((), m320))))))))))))))))))))))))))))))))))))))))))))))))))))))))))))))))))))))))))))))))))
set_option maxHeartbeats 4000000 in
set_option maxRecDepth 100000 in
theorem C_M_init (l : Launch) (G : GG) (v0 : Option Nat) (μ μ' : Mem) (r : Unit) (h : S_M_init v0 μ = some (r, μ')) : CT l G y_M_init prog_13_method_1_code 1 none 1 40 3727 20 μ [vR v0] none μ' := by
  refine wm_met (lv := [(0, vR v0)]) (by decide +kernel) (Nat.le_of_ble_eq_true rfl) rfl (fun X E hQ hR hI => ?_)
  have h : b1 (rc μ v0 12) (fun _ => b2 (nI_ μ 0 30 30) (fun x7 m7 => b1 (pV m7 v0 12 2 (vR x7)) (fun m9 => b2 (nI_ m9 0 30 30) (fun x15 m15 => b1 (pV m15 v0 12 3 (vR x15)) (fun m17 => b2 (nI_ m17 0 30 30) (fun x23 m23 => b1 (pV m23 v0 12 4 (vR x23)) (fun m25 => b2 (nI_ m25 0 90 90) (fun x31 m31 => b1 (pV m31 v0 12 5 (vR x31)) (fun m33 => b2 (nI_ m33 0 90 90) (fun x39 m39 => b1 (pV m39 v0 12 6 (vR x39)) (fun m41 => b2 (nI_ m41 0 720 720) (fun x48 m48 => b1 (pV m48 v0 12 7 (vR x48)) (fun m50 => b2 (nI_ m50 0 720 720) (fun x57 m57 => b1 (pV m57 v0 12 8 (vR x57)) (fun m59 => b2 (nI_ m59 0 30 30) (fun x65 m65 => b1 (pV m65 v0 12 9 (vR x65)) (fun m67 => b2 (nI_ m67 0 60 60) (fun x73 m73 => b1 (pV m73 v0 12 10 (vR x73)) (fun m75 => b2 (nI_ m75 0 60 60) (fun x81 m81 => b1 (pV m81 v0 12 11 (vR x81)) (fun m83 => b2 (nI_ m83 0 60 60) (fun x89 m89 => b1 (pV m89 v0 12 12 (vR x89)) (fun m91 => b2 (nI_ m91 0 600 600) (fun x98 m98 => b1 (pV m98 v0 12 13 (vR x98)) (fun m100 => b2 (nI_ m100 0 30 30) (fun x106 m106 => b1 (pV m106 v0 12 14 (vR x106)) (fun m108 => b2 (nI_ m108 0 120 120) (fun x114 m114 => b1 (pV m114 v0 12 15 (vR x114)) (fun m116 => b2 (nI_ m116 0 120 120) (fun x122 m122 => b1 (pV m122 v0 12 16 (vR x122)) (fun m124 => b2 (nI_ m124 0 120 120) (fun x130 m130 => b1 (pV m130 v0 12 17 (vR x130)) (fun m132 => b2 (nI_ m132 0 8 8) (fun x138 m138 => b1 (pV m138 v0 12 19 (vR x138)) (fun m140 => b2 (nI_ m140 0 8 8) (fun x146 m146 => b1 (pV m146 v0 12 20 (vR x146)) (fun m148 => b2 (nI_ m148 0 10 10) (fun x154 m154 => b1 (pV m154 v0 12 22 (vR x154)) (fun m156 => b2 (nI_ m156 0 5 5) (fun x161 m161 => b1 (pV m161 v0 12 23 (vR x161)) (fun m163 => b2 (nI_ m163 0 25 25) (fun x169 m169 => b1 (pV m169 v0 12 24 (vR x169)) (fun m171 => b2 (nI_ m171 0 25 25) (fun x177 m177 => b1 (pV m177 v0 12 25 (vR x177)) (fun m179 => b2 (nI_ m179 0 25 25) (fun x185 m185 => b1 (pV m185 v0 12 26 (vR x185)) (fun m187 => b2 (nI_ m187 0 25 25) (fun x193 m193 => b1 (pV m193 v0 12 27 (vR x193)) (fun m195 => b2 (nI_ m195 0 25 25) (fun x201 m201 => b1 (pV m201 v0 12 28 (vR x201)) (fun m203 => b2 (nI_ m203 0 250 250) (fun x210 m210 => b1 (pV m210 v0 12 29 (vR x210)) (fun m212 => b2 (nI_ m212 0 5 5) (fun x217 m217 => b1 (pV m217 v0 12 30 (vR x217)) (fun m219 => b2 (nI_ m219 0 40 40) (fun x225 m225 => b1 (pV m225 v0 12 31 (vR x225)) (fun m227 => b2 (nI_ m227 0 40 40) (fun x233 m233 => b1 (pV m233 v0 12 32 (vR x233)) (fun m235 => b2 (nI_ m235 0 5 5) (fun x240 m240 => b1 (pV m240 v0 12 33 (vR x240)) (fun m242 => b2 (nI_ m242 3 5 5) (fun x247 m247 => b1 (pV m247 v0 12 34 (vR x247)) (fun m249 => b2 (nI_ m249 0 5 5) (fun x254 m254 => b1 (pV m254 v0 12 35 (vR x254)) (fun m256 => b2 (nI_ m256 0 30 30) (fun x262 m262 => b1 (pV m262 v0 12 37 (vR x262)) (fun m264 => b2 (nI_ m264 0 10 10) (fun x270 m270 => b1 (pV m270 v0 12 39 (vR x270)) (fun m272 => b2 (nI_ m272 0 121 121) (fun x278 m278 => b1 (pV m278 v0 12 40 (vR x278)) (fun m280 => b2 (nI_ m280 0 30 30) (fun x286 m286 => b1 (pV m286 v0 12 50 (vR x286)) (fun m288 => b2 (nI_ m288 0 30 30) (fun x294 m294 => b1 (pV m294 v0 12 51 (vR x294)) (fun m296 => b2 (nI_ m296 0 30 30) (fun x302 m302 => b1 (pV m302 v0 12 52 (vR x302)) (fun m304 => b2 (nL_ m304 1 30 30) (fun x310 m310 => b1 (pV m310 v0 12 53 (vR x310)) (fun m312 => b2 (nL_ m312 1 30 30) (fun x318 m318 => b1 (pV m318 v0 12 54 (vR x318)) (fun m320 => some ((), m320)))))))))))))))))))))))))))))))))))))))))))))))))))))))))))))))))))))))))))))))))) = some (r, μ') := h
  refine wm_aload_n E dM_init_0 rfl (j := 0) rfl ?_
  obtain ⟨u1, hr1, h⟩ := b1S h
  refine wm_obj E hr1 oi_M_1 (by rw [hR]; decide) (by rw [hR]; decide) rfl dM_init_1 ?_
  refine wm_aload_n E dM_init_4 rfl (j := 0) rfl ?_
  refine wm_bipush (x := 30) E dM_init_5 (by decide) ?_
  refine wm_newi (t := 0) (B := 30) E rfl rfl rfl ac_I h (by decide) (by rw [hR]; decide) (by rw [hR]; decide) dM_init_7 (fun x7 m7 h => ?_)
  refine wm_pR E fp_M_7 (Or.inr ⟨_, rfl⟩) (fun _ => hI) h dM_init_9 (fun m9 h => ?_)
  refine wm_aload_n E dM_init_12 rfl (j := 0) rfl ?_
  refine wm_bipush (x := 30) E dM_init_13 (by decide) ?_
  refine wm_newi (t := 0) (B := 30) E rfl rfl rfl ac_I h (by decide) (by rw [hR]; decide) (by rw [hR]; decide) dM_init_15 (fun x15 m15 h => ?_)
  refine wm_pR E fp_M_13 (Or.inr ⟨_, rfl⟩) (fun _ => hI) h dM_init_17 (fun m17 h => ?_)
  refine wm_aload_n E dM_init_20 rfl (j := 0) rfl ?_
  refine wm_bipush (x := 30) E dM_init_21 (by decide) ?_
  refine wm_newi (t := 0) (B := 30) E rfl rfl rfl ac_I h (by decide) (by rw [hR]; decide) (by rw [hR]; decide) dM_init_23 (fun x23 m23 h => ?_)
  refine wm_pR E fp_M_16 (Or.inr ⟨_, rfl⟩) (fun _ => hI) h dM_init_25 (fun m25 h => ?_)
  refine wm_aload_n E dM_init_28 rfl (j := 0) rfl ?_
  refine wm_bipush (x := 90) E dM_init_29 (by decide) ?_
  refine wm_newi (t := 0) (B := 90) E rfl rfl rfl ac_I h (by decide) (by rw [hR]; decide) (by rw [hR]; decide) dM_init_31 (fun x31 m31 h => ?_)
  refine wm_pR E fp_M_19 (Or.inr ⟨_, rfl⟩) (fun _ => hI) h dM_init_33 (fun m33 h => ?_)
  refine wm_aload_n E dM_init_36 rfl (j := 0) rfl ?_
  refine wm_bipush (x := 90) E dM_init_37 (by decide) ?_
  refine wm_newi (t := 0) (B := 90) E rfl rfl rfl ac_I h (by decide) (by rw [hR]; decide) (by rw [hR]; decide) dM_init_39 (fun x39 m39 h => ?_)
  refine wm_pR E fp_M_22 (Or.inr ⟨_, rfl⟩) (fun _ => hI) h dM_init_41 (fun m41 h => ?_)
  refine wm_aload_n E dM_init_44 rfl (j := 0) rfl ?_
  refine wm_sipush (x := 720) E dM_init_45 (by decide) ?_
  refine wm_newi (t := 0) (B := 720) E rfl rfl rfl ac_I h (by decide) (by rw [hR]; decide) (by rw [hR]; decide) dM_init_48 (fun x48 m48 h => ?_)
  refine wm_pR E fp_M_25 (Or.inr ⟨_, rfl⟩) (fun _ => hI) h dM_init_50 (fun m50 h => ?_)
  refine wm_aload_n E dM_init_53 rfl (j := 0) rfl ?_
  refine wm_sipush (x := 720) E dM_init_54 (by decide) ?_
  refine wm_newi (t := 0) (B := 720) E rfl rfl rfl ac_I h (by decide) (by rw [hR]; decide) (by rw [hR]; decide) dM_init_57 (fun x57 m57 h => ?_)
  refine wm_pR E fp_M_28 (Or.inr ⟨_, rfl⟩) (fun _ => hI) h dM_init_59 (fun m59 h => ?_)
  refine wm_aload_n E dM_init_62 rfl (j := 0) rfl ?_
  refine wm_bipush (x := 30) E dM_init_63 (by decide) ?_
  refine wm_newi (t := 0) (B := 30) E rfl rfl rfl ac_I h (by decide) (by rw [hR]; decide) (by rw [hR]; decide) dM_init_65 (fun x65 m65 h => ?_)
  refine wm_pR E fp_M_31 (Or.inr ⟨_, rfl⟩) (fun _ => hI) h dM_init_67 (fun m67 h => ?_)
  refine wm_aload_n E dM_init_70 rfl (j := 0) rfl ?_
  refine wm_bipush (x := 60) E dM_init_71 (by decide) ?_
  refine wm_newi (t := 0) (B := 60) E rfl rfl rfl ac_I h (by decide) (by rw [hR]; decide) (by rw [hR]; decide) dM_init_73 (fun x73 m73 h => ?_)
  refine wm_pR E fp_M_34 (Or.inr ⟨_, rfl⟩) (fun _ => hI) h dM_init_75 (fun m75 h => ?_)
  refine wm_aload_n E dM_init_78 rfl (j := 0) rfl ?_
  refine wm_bipush (x := 60) E dM_init_79 (by decide) ?_
  refine wm_newi (t := 0) (B := 60) E rfl rfl rfl ac_I h (by decide) (by rw [hR]; decide) (by rw [hR]; decide) dM_init_81 (fun x81 m81 h => ?_)
  refine wm_pR E fp_M_37 (Or.inr ⟨_, rfl⟩) (fun _ => hI) h dM_init_83 (fun m83 h => ?_)
  refine wm_aload_n E dM_init_86 rfl (j := 0) rfl ?_
  refine wm_bipush (x := 60) E dM_init_87 (by decide) ?_
  refine wm_newi (t := 0) (B := 60) E rfl rfl rfl ac_I h (by decide) (by rw [hR]; decide) (by rw [hR]; decide) dM_init_89 (fun x89 m89 h => ?_)
  refine wm_pR E fp_M_40 (Or.inr ⟨_, rfl⟩) (fun _ => hI) h dM_init_91 (fun m91 h => ?_)
  refine wm_aload_n E dM_init_94 rfl (j := 0) rfl ?_
  refine wm_sipush (x := 600) E dM_init_95 (by decide) ?_
  refine wm_newi (t := 0) (B := 600) E rfl rfl rfl ac_I h (by decide) (by rw [hR]; decide) (by rw [hR]; decide) dM_init_98 (fun x98 m98 h => ?_)
  refine wm_pR E fp_M_43 (Or.inr ⟨_, rfl⟩) (fun _ => hI) h dM_init_100 (fun m100 h => ?_)
  refine wm_aload_n E dM_init_103 rfl (j := 0) rfl ?_
  refine wm_bipush (x := 30) E dM_init_104 (by decide) ?_
  refine wm_newi (t := 0) (B := 30) E rfl rfl rfl ac_I h (by decide) (by rw [hR]; decide) (by rw [hR]; decide) dM_init_106 (fun x106 m106 h => ?_)
  refine wm_pR E fp_M_46 (Or.inr ⟨_, rfl⟩) (fun _ => hI) h dM_init_108 (fun m108 h => ?_)
  refine wm_aload_n E dM_init_111 rfl (j := 0) rfl ?_
  refine wm_bipush (x := 120) E dM_init_112 (by decide) ?_
  refine wm_newi (t := 0) (B := 120) E rfl rfl rfl ac_I h (by decide) (by rw [hR]; decide) (by rw [hR]; decide) dM_init_114 (fun x114 m114 h => ?_)
  refine wm_pR E fp_M_49 (Or.inr ⟨_, rfl⟩) (fun _ => hI) h dM_init_116 (fun m116 h => ?_)
  refine wm_aload_n E dM_init_119 rfl (j := 0) rfl ?_
  refine wm_bipush (x := 120) E dM_init_120 (by decide) ?_
  refine wm_newi (t := 0) (B := 120) E rfl rfl rfl ac_I h (by decide) (by rw [hR]; decide) (by rw [hR]; decide) dM_init_122 (fun x122 m122 h => ?_)
  refine wm_pR E fp_M_52 (Or.inr ⟨_, rfl⟩) (fun _ => hI) h dM_init_124 (fun m124 h => ?_)
  refine wm_aload_n E dM_init_127 rfl (j := 0) rfl ?_
  refine wm_bipush (x := 120) E dM_init_128 (by decide) ?_
  refine wm_newi (t := 0) (B := 120) E rfl rfl rfl ac_I h (by decide) (by rw [hR]; decide) (by rw [hR]; decide) dM_init_130 (fun x130 m130 h => ?_)
  refine wm_pR E fp_M_55 (Or.inr ⟨_, rfl⟩) (fun _ => hI) h dM_init_132 (fun m132 h => ?_)
  refine wm_aload_n E dM_init_135 rfl (j := 0) rfl ?_
  refine wm_bipush (x := 8) E dM_init_136 (by decide) ?_
  refine wm_newi (t := 0) (B := 8) E rfl rfl rfl ac_I h (by decide) (by rw [hR]; decide) (by rw [hR]; decide) dM_init_138 (fun x138 m138 h => ?_)
  refine wm_pR E fp_M_58 (Or.inr ⟨_, rfl⟩) (fun _ => hI) h dM_init_140 (fun m140 h => ?_)
  refine wm_aload_n E dM_init_143 rfl (j := 0) rfl ?_
  refine wm_bipush (x := 8) E dM_init_144 (by decide) ?_
  refine wm_newi (t := 0) (B := 8) E rfl rfl rfl ac_I h (by decide) (by rw [hR]; decide) (by rw [hR]; decide) dM_init_146 (fun x146 m146 h => ?_)
  refine wm_pR E fp_M_61 (Or.inr ⟨_, rfl⟩) (fun _ => hI) h dM_init_148 (fun m148 h => ?_)
  refine wm_aload_n E dM_init_151 rfl (j := 0) rfl ?_
  refine wm_bipush (x := 10) E dM_init_152 (by decide) ?_
  refine wm_newi (t := 0) (B := 10) E rfl rfl rfl ac_I h (by decide) (by rw [hR]; decide) (by rw [hR]; decide) dM_init_154 (fun x154 m154 h => ?_)
  refine wm_pR E fp_M_64 (Or.inr ⟨_, rfl⟩) (fun _ => hI) h dM_init_156 (fun m156 h => ?_)
  refine wm_aload_n E dM_init_159 rfl (j := 0) rfl ?_
  refine wm_iconst (x := 5) E dM_init_160 (by decide) ?_
  refine wm_newi (t := 0) (B := 5) E rfl rfl rfl ac_I h (by decide) (by rw [hR]; decide) (by rw [hR]; decide) dM_init_161 (fun x161 m161 h => ?_)
  refine wm_pR E fp_M_67 (Or.inr ⟨_, rfl⟩) (fun _ => hI) h dM_init_163 (fun m163 h => ?_)
  refine wm_aload_n E dM_init_166 rfl (j := 0) rfl ?_
  refine wm_bipush (x := 25) E dM_init_167 (by decide) ?_
  refine wm_newi (t := 0) (B := 25) E rfl rfl rfl ac_I h (by decide) (by rw [hR]; decide) (by rw [hR]; decide) dM_init_169 (fun x169 m169 h => ?_)
  refine wm_pR E fp_M_70 (Or.inr ⟨_, rfl⟩) (fun _ => hI) h dM_init_171 (fun m171 h => ?_)
  refine wm_aload_n E dM_init_174 rfl (j := 0) rfl ?_
  refine wm_bipush (x := 25) E dM_init_175 (by decide) ?_
  refine wm_newi (t := 0) (B := 25) E rfl rfl rfl ac_I h (by decide) (by rw [hR]; decide) (by rw [hR]; decide) dM_init_177 (fun x177 m177 h => ?_)
  refine wm_pR E fp_M_73 (Or.inr ⟨_, rfl⟩) (fun _ => hI) h dM_init_179 (fun m179 h => ?_)
  refine wm_aload_n E dM_init_182 rfl (j := 0) rfl ?_
  refine wm_bipush (x := 25) E dM_init_183 (by decide) ?_
  refine wm_newi (t := 0) (B := 25) E rfl rfl rfl ac_I h (by decide) (by rw [hR]; decide) (by rw [hR]; decide) dM_init_185 (fun x185 m185 h => ?_)
  refine wm_pR E fp_M_76 (Or.inr ⟨_, rfl⟩) (fun _ => hI) h dM_init_187 (fun m187 h => ?_)
  refine wm_aload_n E dM_init_190 rfl (j := 0) rfl ?_
  refine wm_bipush (x := 25) E dM_init_191 (by decide) ?_
  refine wm_newi (t := 0) (B := 25) E rfl rfl rfl ac_I h (by decide) (by rw [hR]; decide) (by rw [hR]; decide) dM_init_193 (fun x193 m193 h => ?_)
  refine wm_pR E fp_M_79 (Or.inr ⟨_, rfl⟩) (fun _ => hI) h dM_init_195 (fun m195 h => ?_)
  refine wm_aload_n E dM_init_198 rfl (j := 0) rfl ?_
  refine wm_bipush (x := 25) E dM_init_199 (by decide) ?_
  refine wm_newi (t := 0) (B := 25) E rfl rfl rfl ac_I h (by decide) (by rw [hR]; decide) (by rw [hR]; decide) dM_init_201 (fun x201 m201 h => ?_)
  refine wm_pR E fp_M_82 (Or.inr ⟨_, rfl⟩) (fun _ => hI) h dM_init_203 (fun m203 h => ?_)
  refine wm_aload_n E dM_init_206 rfl (j := 0) rfl ?_
  refine wm_sipush (x := 250) E dM_init_207 (by decide) ?_
  refine wm_newi (t := 0) (B := 250) E rfl rfl rfl ac_I h (by decide) (by rw [hR]; decide) (by rw [hR]; decide) dM_init_210 (fun x210 m210 h => ?_)
  refine wm_pR E fp_M_85 (Or.inr ⟨_, rfl⟩) (fun _ => hI) h dM_init_212 (fun m212 h => ?_)
  refine wm_aload_n E dM_init_215 rfl (j := 0) rfl ?_
  refine wm_iconst (x := 5) E dM_init_216 (by decide) ?_
  refine wm_newi (t := 0) (B := 5) E rfl rfl rfl ac_I h (by decide) (by rw [hR]; decide) (by rw [hR]; decide) dM_init_217 (fun x217 m217 h => ?_)
  refine wm_pR E fp_M_88 (Or.inr ⟨_, rfl⟩) (fun _ => hI) h dM_init_219 (fun m219 h => ?_)
  refine wm_aload_n E dM_init_222 rfl (j := 0) rfl ?_
  refine wm_bipush (x := 40) E dM_init_223 (by decide) ?_
  refine wm_newi (t := 0) (B := 40) E rfl rfl rfl ac_I h (by decide) (by rw [hR]; decide) (by rw [hR]; decide) dM_init_225 (fun x225 m225 h => ?_)
  refine wm_pR E fp_M_91 (Or.inr ⟨_, rfl⟩) (fun _ => hI) h dM_init_227 (fun m227 h => ?_)
  refine wm_aload_n E dM_init_230 rfl (j := 0) rfl ?_
  refine wm_bipush (x := 40) E dM_init_231 (by decide) ?_
  refine wm_newi (t := 0) (B := 40) E rfl rfl rfl ac_I h (by decide) (by rw [hR]; decide) (by rw [hR]; decide) dM_init_233 (fun x233 m233 h => ?_)
  refine wm_pR E fp_M_94 (Or.inr ⟨_, rfl⟩) (fun _ => hI) h dM_init_235 (fun m235 h => ?_)
  refine wm_aload_n E dM_init_238 rfl (j := 0) rfl ?_
  refine wm_iconst (x := 5) E dM_init_239 (by decide) ?_
  refine wm_newi (t := 0) (B := 5) E rfl rfl rfl ac_I h (by decide) (by rw [hR]; decide) (by rw [hR]; decide) dM_init_240 (fun x240 m240 h => ?_)
  refine wm_pR E fp_M_97 (Or.inr ⟨_, rfl⟩) (fun _ => hI) h dM_init_242 (fun m242 h => ?_)
  refine wm_aload_n E dM_init_245 rfl (j := 0) rfl ?_
  refine wm_iconst (x := 5) E dM_init_246 (by decide) ?_
  refine wm_newi (t := 3) (B := 5) E rfl rfl rfl ac_Z h (by decide) (by rw [hR]; decide) (by rw [hR]; decide) dM_init_247 (fun x247 m247 h => ?_)
  refine wm_pR E fp_M_100 (Or.inr ⟨_, rfl⟩) (fun _ => hI) h dM_init_249 (fun m249 h => ?_)
  refine wm_aload_n E dM_init_252 rfl (j := 0) rfl ?_
  refine wm_iconst (x := 5) E dM_init_253 (by decide) ?_
  refine wm_newi (t := 0) (B := 5) E rfl rfl rfl ac_I h (by decide) (by rw [hR]; decide) (by rw [hR]; decide) dM_init_254 (fun x254 m254 h => ?_)
  refine wm_pR E fp_M_104 (Or.inr ⟨_, rfl⟩) (fun _ => hI) h dM_init_256 (fun m256 h => ?_)
  refine wm_aload_n E dM_init_259 rfl (j := 0) rfl ?_
  refine wm_bipush (x := 30) E dM_init_260 (by decide) ?_
  refine wm_newi (t := 0) (B := 30) E rfl rfl rfl ac_I h (by decide) (by rw [hR]; decide) (by rw [hR]; decide) dM_init_262 (fun x262 m262 h => ?_)
  refine wm_pR E fp_M_107 (Or.inr ⟨_, rfl⟩) (fun _ => hI) h dM_init_264 (fun m264 h => ?_)
  refine wm_aload_n E dM_init_267 rfl (j := 0) rfl ?_
  refine wm_bipush (x := 10) E dM_init_268 (by decide) ?_
  refine wm_newi (t := 0) (B := 10) E rfl rfl rfl ac_I h (by decide) (by rw [hR]; decide) (by rw [hR]; decide) dM_init_270 (fun x270 m270 h => ?_)
  refine wm_pR E fp_M_110 (Or.inr ⟨_, rfl⟩) (fun _ => hI) h dM_init_272 (fun m272 h => ?_)
  refine wm_aload_n E dM_init_275 rfl (j := 0) rfl ?_
  refine wm_bipush (x := 121) E dM_init_276 (by decide) ?_
  refine wm_newi (t := 0) (B := 121) E rfl rfl rfl ac_I h (by decide) (by rw [hR]; decide) (by rw [hR]; decide) dM_init_278 (fun x278 m278 h => ?_)
  refine wm_pR E fp_M_113 (Or.inr ⟨_, rfl⟩) (fun _ => hI) h dM_init_280 (fun m280 h => ?_)
  refine wm_aload_n E dM_init_283 rfl (j := 0) rfl ?_
  refine wm_bipush (x := 30) E dM_init_284 (by decide) ?_
  refine wm_newi (t := 0) (B := 30) E rfl rfl rfl ac_I h (by decide) (by rw [hR]; decide) (by rw [hR]; decide) dM_init_286 (fun x286 m286 h => ?_)
  refine wm_pR E fp_M_116 (Or.inr ⟨_, rfl⟩) (fun _ => hI) h dM_init_288 (fun m288 h => ?_)
  refine wm_aload_n E dM_init_291 rfl (j := 0) rfl ?_
  refine wm_bipush (x := 30) E dM_init_292 (by decide) ?_
  refine wm_newi (t := 0) (B := 30) E rfl rfl rfl ac_I h (by decide) (by rw [hR]; decide) (by rw [hR]; decide) dM_init_294 (fun x294 m294 h => ?_)
  refine wm_pR E fp_M_119 (Or.inr ⟨_, rfl⟩) (fun _ => hI) h dM_init_296 (fun m296 h => ?_)
  refine wm_aload_n E dM_init_299 rfl (j := 0) rfl ?_
  refine wm_bipush (x := 30) E dM_init_300 (by decide) ?_
  refine wm_newi (t := 0) (B := 30) E rfl rfl rfl ac_I h (by decide) (by rw [hR]; decide) (by rw [hR]; decide) dM_init_302 (fun x302 m302 h => ?_)
  refine wm_pR E fp_M_122 (Or.inr ⟨_, rfl⟩) (fun _ => hI) h dM_init_304 (fun m304 h => ?_)
  refine wm_aload_n E dM_init_307 rfl (j := 0) rfl ?_
  refine wm_bipush (x := 30) E dM_init_308 (by decide) ?_
  refine wm_newl (t := 1) (B := 30) E rfl rfl rfl ac_J h (by decide) (by rw [hR]; decide) (by rw [hR]; decide) dM_init_310 (fun x310 m310 h => ?_)
  refine wm_pR E fp_M_125 (Or.inr ⟨_, rfl⟩) (fun _ => hI) h dM_init_312 (fun m312 h => ?_)
  refine wm_aload_n E dM_init_315 rfl (j := 0) rfl ?_
  refine wm_bipush (x := 30) E dM_init_316 (by decide) ?_
  refine wm_newl (t := 1) (B := 30) E rfl rfl rfl ac_J h (by decide) (by rw [hR]; decide) (by rw [hR]; decide) dM_init_318 (fun x318 m318 h => ?_)
  refine wm_pR E fp_M_129 (Or.inr ⟨_, rfl⟩) (fun _ => hI) h dM_init_320 (fun m320 h => ?_)
  exact wm_vret E hQ rfl (rtM h) (by decide) (by decide) dM_init_323
