def B_P_arePosition_27  (s0 : Int32) (μ : Mem) : Option (Int32 × Mem) := gd (¬ okZ s0 = true) (some (s0, μ))
set_option maxHeartbeats 4000000 in
set_option maxRecDepth 100000 in
theorem w_P_arePosition_27 {X : CX} (E : EV X prog_1_method_25_code 2 "PlaceFinder" (some .boolean)) {μ0 μ' : Mem} {r : Int32} (hQ : RQ X 0 0 μ0 (some (vI r)) μ') (hR : xR X = { frames := 0, cells := 0, slots := 0, locals := 0 }) (hI : X.2.2.2.2.2.2.2.2.2.2.2.1.name = "arePosition")  (s0 : Int32) (μ : Mem) (h : B_P_arePosition_27  s0 μ = some (r, μ')) : WM X 2 27 [] [vI s0] 0 0 μ := by
  have h : (gd (¬ okZ s0 = true) (some (s0, μ))) = some (r, μ') := h
  obtain ⟨hz27, h⟩ := gdS h
  exact wm_zret (rt := .boolean) E hQ (rtI h) (rtM h) (okZN hz27) (by decide) (by decide) dP_arePosition_27
def B_P_arePosition_26   (μ : Mem) : Option (Int32 × Mem) := B_P_arePosition_27 0 μ
set_option maxHeartbeats 4000000 in
set_option maxRecDepth 100000 in
theorem w_P_arePosition_26 {X : CX} (E : EV X prog_1_method_25_code 2 "PlaceFinder" (some .boolean)) {μ0 μ' : Mem} {r : Int32} (hQ : RQ X 0 0 μ0 (some (vI r)) μ') (hR : xR X = { frames := 0, cells := 0, slots := 0, locals := 0 }) (hI : X.2.2.2.2.2.2.2.2.2.2.2.1.name = "arePosition")   (μ : Mem) (h : B_P_arePosition_26   μ = some (r, μ')) : WM X 2 26 [] [] 0 0 μ := by
  have h : (B_P_arePosition_27 0 μ) = some (r, μ') := h
  refine wm_iconst (x := 0) E dP_arePosition_26 (by decide) ?_
  refine wm_pick (lv' := []) [] rfl ?_
  exact w_P_arePosition_27 E hQ hR hI 0 μ h
def S_P_arePosition (v0 : Int32) (v1 : Int32) (μ : Mem) : Option (Int32 × Mem) := if v0 < 0 then B_P_arePosition_26 μ else if 4095 < v0 then B_P_arePosition_26 μ else if v1 < 0 then B_P_arePosition_26 μ else if 4095 < v1 then B_P_arePosition_26 μ else B_P_arePosition_27 1 μ
set_option maxHeartbeats 4000000 in
set_option maxRecDepth 100000 in
theorem C_P_arePosition (l : Launch) (G : GG) (v0 : Int32) (v1 : Int32) (μ μ' : Mem) (r : Int32) (h : S_P_arePosition v0 v1 μ = some (r, μ')) : CT l G y_P_arePosition prog_1_method_25_code 2 (some .boolean) 0 0 0 0 μ [vI v0, vI v1] (some (vI r)) μ' := by
  refine wm_met (lv := [(0, vI v0), (1, vI v1)]) (by decide +kernel) (Nat.le_of_ble_eq_true rfl) rfl (fun X E hQ hR hI => ?_)
  have h : (if v0 < 0 then B_P_arePosition_26 μ else if 4095 < v0 then B_P_arePosition_26 μ else if v1 < 0 then B_P_arePosition_26 μ else if 4095 < v1 then B_P_arePosition_26 μ else B_P_arePosition_27 1 μ) = some (r, μ') := h
  refine wm_iload_n E dP_arePosition_0 rfl (j := 0) rfl ?_
  refine wm_if_lt (tgt := 26) E dP_arePosition_1 (by decide) (fun c1 => ?_) (fun c1 => ?_)
  · have h := (if_pos c1).symm.trans h
    refine wm_pick (lv' := []) [] rfl ?_
    exact w_P_arePosition_26 E hQ hR hI μ h
  · have h := (if_neg c1).symm.trans h
    refine wm_iload_n E dP_arePosition_4 rfl (j := 0) rfl ?_
    refine wm_sipush (x := 4095) E dP_arePosition_5 (by decide) ?_
    refine wm_icmp_gt (tgt := 26) E dP_arePosition_8 (by decide) (fun c8 => ?_) (fun c8 => ?_)
    · have h := (if_pos c8).symm.trans h
      refine wm_pick (lv' := []) [] rfl ?_
      exact w_P_arePosition_26 E hQ hR hI μ h
    · have h := (if_neg c8).symm.trans h
      refine wm_iload_n E dP_arePosition_11 rfl (j := 1) rfl ?_
      refine wm_if_lt (tgt := 26) E dP_arePosition_12 (by decide) (fun c12 => ?_) (fun c12 => ?_)
      · have h := (if_pos c12).symm.trans h
        refine wm_pick (lv' := []) [] rfl ?_
        exact w_P_arePosition_26 E hQ hR hI μ h
      · have h := (if_neg c12).symm.trans h
        refine wm_iload_n E dP_arePosition_15 rfl (j := 1) rfl ?_
        refine wm_sipush (x := 4095) E dP_arePosition_16 (by decide) ?_
        refine wm_icmp_gt (tgt := 26) E dP_arePosition_19 (by decide) (fun c19 => ?_) (fun c19 => ?_)
        · have h := (if_pos c19).symm.trans h
          refine wm_pick (lv' := []) [] rfl ?_
          exact w_P_arePosition_26 E hQ hR hI μ h
        · have h := (if_neg c19).symm.trans h
          refine wm_iconst (x := 1) E dP_arePosition_22 (by decide) ?_
          refine wm_goto (tgt := 27) E dP_arePosition_23 (by decide) ?_
          refine wm_pick (lv' := []) [] rfl ?_
          exact w_P_arePosition_27 E hQ hR hI 1 μ h
def S_Pr_checkIndex (v0 : Int32) (v1 : Int32) (v2 : Option Nat) (μ : Mem) : Option (Int32 × Mem) := if v0 < 0 then none else if v0 < v1 then some (v0, μ) else none
set_option maxHeartbeats 4000000 in
set_option maxRecDepth 100000 in
theorem C_Pr_checkIndex (l : Launch) (G : GG) (v0 : Int32) (v1 : Int32) (v2 : Option Nat) (μ μ' : Mem) (r : Int32) (h : S_Pr_checkIndex v0 v1 v2 μ = some (r, μ')) : CT l G y_Pr_checkIndex prog_42_method_11_code 3 (some .int) 0 0 0 0 μ [vI v0, vI v1, vR v2] (some (vI r)) μ' := by
  refine wm_met (lv := [(0, vI v0), (1, vI v1), (2, vR v2)]) (by decide +kernel) (Nat.le_of_ble_eq_true rfl) rfl (fun X E hQ hR hI => ?_)
  have h : (if v0 < 0 then none else if v0 < v1 then some (v0, μ) else none) = some (r, μ') := h
  refine wm_iload_n E dPr_checkIndex_0 rfl (j := 0) rfl ?_
  refine wm_if_lt (tgt := 9) E dPr_checkIndex_1 (by decide) (fun c1 => ?_) (fun c1 => ?_)
  · have h := (if_pos c1).symm.trans h
    cases h
  · have h := (if_neg c1).symm.trans h
    refine wm_iload_n E dPr_checkIndex_4 rfl (j := 0) rfl ?_
    refine wm_iload_n E dPr_checkIndex_5 rfl (j := 1) rfl ?_
    refine wm_icmp_lt (tgt := 16) E dPr_checkIndex_6 (by decide) (fun c6 => ?_) (fun c6 => ?_)
    · have h := (if_pos c6).symm.trans h
      refine wm_iload_n E dPr_checkIndex_16 rfl (j := 0) rfl ?_
      exact wm_iret (rt := .int) E hQ (rtI h) (rtM h) (by decide) (by decide) dPr_checkIndex_17
    · have h := (if_neg c6).symm.trans h
      cases h
def S_Ob_checkIndex (v0 : Int32) (v1 : Int32) (μ : Mem) : Option (Int32 × Mem) := b2 (S_Pr_checkIndex v0 v1 none μ) (fun x3 m3 => some (x3, m3))
set_option maxHeartbeats 4000000 in
set_option maxRecDepth 100000 in
theorem C_Ob_checkIndex (l : Launch) (G : GG) (v0 : Int32) (v1 : Int32) (μ μ' : Mem) (r : Int32) (h : S_Ob_checkIndex v0 v1 μ = some (r, μ')) : CT l G y_Ob_checkIndex prog_38_method_17_code 2 (some .int) 1 0 0 22 μ [vI v0, vI v1] (some (vI r)) μ' := by
  refine wm_met (lv := [(0, vI v0), (1, vI v1)]) (by decide +kernel) (Nat.le_of_ble_eq_true rfl) rfl (fun X E hQ hR hI => ?_)
  have h : (b2 (S_Pr_checkIndex v0 v1 none μ) (fun x3 m3 => some (x3, m3))) = some (r, μ') := h
  refine wm_iload_n E dOb_checkIndex_0 rfl (j := 0) rfl ?_
  refine wm_iload_n E dOb_checkIndex_1 rfl (j := 1) rfl ?_
  refine wm_null E dOb_checkIndex_2 ?_
  obtain ⟨x3, m3, hc3, h⟩ := b2S h
  refine wm_cS (As := [vI v0, vI v1, vR none]) (st := []) E lk_Ob_105 sc_Pr_checkIndex (C_Pr_checkIndex (xl X) X.1 v0 v1 none μ _ _ hc3) rfl rfl (by rw [hR]; decide) (by rw [hR]; decide) (Nat.le_of_ble_eq_true rfl) dOb_checkIndex_3 ?_
  exact wm_iret (rt := .int) E hQ (rtI h) (rtM h) (by decide) (by decide) dOb_checkIndex_6
def S_Al_elementData (v0 : Option Nat) (v1 : Int32) (μ : Mem) : Option (Option Nat × Mem) := b1 (gR μ v0 0 0) (fun x1 => b1 (aR μ x1 4 v1) (fun x5 => some (x5, μ)))
set_option maxHeartbeats 4000000 in
set_option maxRecDepth 100000 in
theorem C_Al_elementData (l : Launch) (G : GG) (v0 : Option Nat) (v1 : Int32) (μ μ' : Mem) (r : Option Nat) (h : S_Al_elementData v0 v1 μ = some (r, μ')) : CT l G y_Al_elementData prog_33_method_18_code 2 (some (.object "java/lang/Object")) 0 0 0 0 μ [vR v0, vI v1] (some (vR r)) μ' := by
  refine wm_met (lv := [(0, vR v0), (1, vI v1)]) (by decide +kernel) (Nat.le_of_ble_eq_true rfl) rfl (fun X E hQ hR hI => ?_)
  have h : (b1 (gR μ v0 0 0) (fun x1 => b1 (aR μ x1 4 v1) (fun x5 => some (x5, μ)))) = some (r, μ') := h
  refine wm_aload_n E dAl_elementData_0 rfl (j := 0) rfl ?_
  refine wm_gR E fd_Al_9 h dAl_elementData_1 (fun x1 h => ?_)
  refine wm_iload_n E dAl_elementData_4 rfl (j := 1) rfl ?_
  refine wm_aald (t := 4) E rfl rfl h dAl_elementData_5 (fun x5 h => ?_)
  exact wm_aret E hQ (rtR h) (rtM h) (Or.inl ⟨_, rfl⟩) (by decide) (by decide) dAl_elementData_6
def S_Al_get (v0 : Option Nat) (v1 : Int32) (μ : Mem) : Option (Option Nat × Mem) := b1 (gI μ v0 0 1) (fun x2 => b2 (S_Ob_checkIndex v1 x2 μ) (fun x5 m5 => b1 (rc m5 v0 0) (fun _ => b2 (S_Al_elementData v0 v1 m5) (fun x11 m11 => some (x11, m11)))))
set_option maxHeartbeats 4000000 in
set_option maxRecDepth 100000 in
theorem C_Al_get (l : Launch) (G : GG) (v0 : Option Nat) (v1 : Int32) (μ μ' : Mem) (r : Option Nat) (h : S_Al_get v0 v1 μ = some (r, μ')) : CT l G y_Al_get prog_33_method_20_code 2 (some (.object "java/lang/Object")) 2 0 0 43 μ [vR v0, vI v1] (some (vR r)) μ' := by
  refine wm_met (lv := [(0, vR v0), (1, vI v1)]) (by decide +kernel) (Nat.le_of_ble_eq_true rfl) rfl (fun X E hQ hR hI => ?_)
  have h : (b1 (gI μ v0 0 1) (fun x2 => b2 (S_Ob_checkIndex v1 x2 μ) (fun x5 m5 => b1 (rc m5 v0 0) (fun _ => b2 (S_Al_elementData v0 v1 m5) (fun x11 m11 => some (x11, m11)))))) = some (r, μ') := h
  refine wm_iload_n E dAl_get_0 rfl (j := 1) rfl ?_
  refine wm_aload_n E dAl_get_1 rfl (j := 0) rfl ?_
  refine wm_gI E fd_Al_48 h dAl_get_2 (fun x2 h => ?_)
  obtain ⟨x5, m5, hc5, h⟩ := b2S h
  refine wm_cS (As := [vI v1, vI x2]) (st := []) E lk_Al_118 sc_Ob_checkIndex (C_Ob_checkIndex (xl X) X.1 v1 x2 μ _ _ hc5) rfl rfl (by rw [hR]; decide) (by rw [hR]; decide) (Nat.le_of_ble_eq_true rfl) dAl_get_5 ?_
  refine wm_pop E dAl_get_8 rfl ?_
  refine wm_aload_n E dAl_get_9 rfl (j := 0) rfl ?_
  refine wm_iload_n E dAl_get_10 rfl (j := 1) rfl ?_
  obtain ⟨u11, hr11, h⟩ := b1S h
  obtain ⟨x11, m11, hc11, h⟩ := b2S h
  refine wm_cV (ci := 0) (As := [vI v1]) (st := []) E lk_Al_123 rfl im_Al_elementData sl_Al_elementData hr11 (C_Al_elementData (xl X) X.1 v0 v1 m5 _ _ hc11) rfl rfl (by rw [hR]; decide) (by rw [hR]; decide) (Nat.le_of_ble_eq_true rfl) dAl_get_11 ?_
  exact wm_aret E hQ (rtR h) (rtM h) (Or.inl ⟨_, rfl⟩) (by decide) (by decide) dAl_get_14
def B_P_placeOf_30  (s0 : Option Nat) (μ : Mem) : Option (Option Nat × Mem) := some (s0, μ)
set_option maxHeartbeats 4000000 in
set_option maxRecDepth 100000 in
theorem w_P_placeOf_30 {X : CX} (E : EV X prog_1_method_28_code 2 "PlaceFinder" (some (.object "PlaceFinder$Place"))) {μ0 μ' : Mem} {r : Option Nat} (hQ : RQ X 0 0 μ0 (some (vR r)) μ') (hR : xR X = { frames := 3, cells := 0, slots := 0, locals := 64 }) (hI : X.2.2.2.2.2.2.2.2.2.2.2.1.name = "placeOf")  (s0 : Option Nat) (μ : Mem) (h : B_P_placeOf_30  s0 μ = some (r, μ')) : WM X 2 30 [] [vR s0] 0 0 μ := by
  have h : (some (s0, μ)) = some (r, μ') := h
  exact wm_aret E hQ (rtR h) (rtM h) (Or.inl ⟨_, rfl⟩) (by decide) (by decide) dP_placeOf_30
def B_P_placeOf_29   (μ : Mem) : Option (Option Nat × Mem) := B_P_placeOf_30 none μ
set_option maxHeartbeats 4000000 in
set_option maxRecDepth 100000 in
theorem w_P_placeOf_29 {X : CX} (E : EV X prog_1_method_28_code 2 "PlaceFinder" (some (.object "PlaceFinder$Place"))) {μ0 μ' : Mem} {r : Option Nat} (hQ : RQ X 0 0 μ0 (some (vR r)) μ') (hR : xR X = { frames := 3, cells := 0, slots := 0, locals := 64 }) (hI : X.2.2.2.2.2.2.2.2.2.2.2.1.name = "placeOf")   (μ : Mem) (h : B_P_placeOf_29   μ = some (r, μ')) : WM X 2 29 [] [] 0 0 μ := by
  have h : (B_P_placeOf_30 none μ) = some (r, μ') := h
  refine wm_null E dP_placeOf_29 ?_
  refine wm_pick (lv' := []) [] rfl ?_
  exact w_P_placeOf_30 E hQ hR hI none μ h
def S_P_placeOf (v0 : Option Nat) (v1 : Int32) (μ : Mem) : Option (Option Nat × Mem) := if v1 < 0 then B_P_placeOf_29 μ else b1 (gR μ v0 11 0) (fun x6 => b1 (rc μ x6 0) (fun _ => b2 (S_Al_size x6 μ) (fun x9 m9 => if x9 ≤ v1 then B_P_placeOf_29 m9 else b1 (gR m9 v0 11 0) (fun x16 => b1 (rc m9 x16 0) (fun _ => b2 (S_Al_get x16 v1 m9) (fun x20 m20 => b1 (cK m20 x20 7) (fun _ => B_P_placeOf_30 x20 m20)))))))
set_option maxHeartbeats 4000000 in
set_option maxRecDepth 100000 in
theorem C_P_placeOf (l : Launch) (G : GG) (v0 : Option Nat) (v1 : Int32) (μ μ' : Mem) (r : Option Nat) (h : S_P_placeOf v0 v1 μ = some (r, μ')) : CT l G y_P_placeOf prog_1_method_28_code 2 (some (.object "PlaceFinder$Place")) 3 0 0 64 μ [vR v0, vI v1] (some (vR r)) μ' := by
  refine wm_met (lv := [(0, vR v0), (1, vI v1)]) (by decide +kernel) (Nat.le_of_ble_eq_true rfl) rfl (fun X E hQ hR hI => ?_)
  have h : (if v1 < 0 then B_P_placeOf_29 μ else b1 (gR μ v0 11 0) (fun x6 => b1 (rc μ x6 0) (fun _ => b2 (S_Al_size x6 μ) (fun x9 m9 => if x9 ≤ v1 then B_P_placeOf_29 m9 else b1 (gR m9 v0 11 0) (fun x16 => b1 (rc m9 x16 0) (fun _ => b2 (S_Al_get x16 v1 m9) (fun x20 m20 => b1 (cK m20 x20 7) (fun _ => B_P_placeOf_30 x20 m20)))))))) = some (r, μ') := h
  refine wm_iload_n E dP_placeOf_0 rfl (j := 1) rfl ?_
  refine wm_if_lt (tgt := 29) E dP_placeOf_1 (by decide) (fun c1 => ?_) (fun c1 => ?_)
  · have h := (if_pos c1).symm.trans h
    refine wm_pick (lv' := []) [] rfl ?_
    exact w_P_placeOf_29 E hQ hR hI μ h
  · have h := (if_neg c1).symm.trans h
    refine wm_iload_n E dP_placeOf_4 rfl (j := 1) rfl ?_
    refine wm_aload_n E dP_placeOf_5 rfl (j := 0) rfl ?_
    refine wm_gR E fd_P_10 h dP_placeOf_6 (fun x6 h => ?_)
    obtain ⟨u9, hr9, h⟩ := b1S h
    obtain ⟨x9, m9, hc9, h⟩ := b2S h
    refine wm_cV (ci := 0) (As := []) (st := [vI v1]) E lk_P_98 rfl im_Al_size sl_Al_size hr9 (C_Al_size (xl X) X.1 x6 μ _ _ hc9) rfl rfl (by rw [hR]; decide) (by rw [hR]; decide) (Nat.le_of_ble_eq_true rfl) dP_placeOf_9 ?_
    refine wm_icmp_ge (tgt := 29) E dP_placeOf_12 (by decide) (fun c12 => ?_) (fun c12 => ?_)
    · have h := (if_pos c12).symm.trans h
      refine wm_pick (lv' := []) [] rfl ?_
      exact w_P_placeOf_29 E hQ hR hI m9 h
    · have h := (if_neg c12).symm.trans h
      refine wm_aload_n E dP_placeOf_15 rfl (j := 0) rfl ?_
      refine wm_gR E fd_P_10 h dP_placeOf_16 (fun x16 h => ?_)
      refine wm_iload_n E dP_placeOf_19 rfl (j := 1) rfl ?_
      obtain ⟨u20, hr20, h⟩ := b1S h
      obtain ⟨x20, m20, hc20, h⟩ := b2S h
      refine wm_cV (ci := 0) (As := [vI v1]) (st := []) E lk_P_223 rfl im_Al_get sl_Al_get hr20 (C_Al_get (xl X) X.1 x16 v1 m9 _ _ hc20) rfl rfl (by rw [hR]; decide) (by rw [hR]; decide) (Nat.le_of_ble_eq_true rfl) dP_placeOf_20 ?_
      refine wm_ckc (ci := 7) E rfl cl_P_107 h dP_placeOf_23 (fun h => ?_)
      refine wm_goto (tgt := 30) E dP_placeOf_26 (by decide) ?_
      refine wm_pick (lv' := []) [] rfl ?_
      exact w_P_placeOf_30 E hQ hR hI x20 m20 h
def B_P_isDay_16  (s0 : Int32) (μ : Mem) : Option (Int32 × Mem) := gd (¬ okZ s0 = true) (some (s0, μ))
set_option maxHeartbeats 4000000 in
set_option maxRecDepth 100000 in
theorem w_P_isDay_16 {X : CX} (E : EV X prog_1_method_23_code 1 "PlaceFinder" (some .boolean)) {μ0 μ' : Mem} {r : Int32} (hQ : RQ X 0 0 μ0 (some (vI r)) μ') (hR : xR X = { frames := 0, cells := 0, slots := 0, locals := 0 }) (hI : X.2.2.2.2.2.2.2.2.2.2.2.1.name = "isDay")  (s0 : Int32) (μ : Mem) (h : B_P_isDay_16  s0 μ = some (r, μ')) : WM X 1 16 [] [vI s0] 0 0 μ := by
  have h : (gd (¬ okZ s0 = true) (some (s0, μ))) = some (r, μ') := h
  obtain ⟨hz16, h⟩ := gdS h
  exact wm_zret (rt := .boolean) E hQ (rtI h) (rtM h) (okZN hz16) (by decide) (by decide) dP_isDay_16
def B_P_isDay_15   (μ : Mem) : Option (Int32 × Mem) := B_P_isDay_16 0 μ
set_option maxHeartbeats 4000000 in
set_option maxRecDepth 100000 in
theorem w_P_isDay_15 {X : CX} (E : EV X prog_1_method_23_code 1 "PlaceFinder" (some .boolean)) {μ0 μ' : Mem} {r : Int32} (hQ : RQ X 0 0 μ0 (some (vI r)) μ') (hR : xR X = { frames := 0, cells := 0, slots := 0, locals := 0 }) (hI : X.2.2.2.2.2.2.2.2.2.2.2.1.name = "isDay")   (μ : Mem) (h : B_P_isDay_15   μ = some (r, μ')) : WM X 1 15 [] [] 0 0 μ := by
  have h : (B_P_isDay_16 0 μ) = some (r, μ') := h
  refine wm_iconst (x := 0) E dP_isDay_15 (by decide) ?_
  refine wm_pick (lv' := []) [] rfl ?_
  exact w_P_isDay_16 E hQ hR hI 0 μ h
def S_P_isDay (v0 : Int32) (μ : Mem) : Option (Int32 × Mem) := if v0 < 0 then B_P_isDay_15 μ else if 9999 < v0 then B_P_isDay_15 μ else B_P_isDay_16 1 μ
set_option maxHeartbeats 4000000 in
set_option maxRecDepth 100000 in
theorem C_P_isDay (l : Launch) (G : GG) (v0 : Int32) (μ μ' : Mem) (r : Int32) (h : S_P_isDay v0 μ = some (r, μ')) : CT l G y_P_isDay prog_1_method_23_code 1 (some .boolean) 0 0 0 0 μ [vI v0] (some (vI r)) μ' := by
  refine wm_met (lv := [(0, vI v0)]) (by decide +kernel) (Nat.le_of_ble_eq_true rfl) rfl (fun X E hQ hR hI => ?_)
  have h : (if v0 < 0 then B_P_isDay_15 μ else if 9999 < v0 then B_P_isDay_15 μ else B_P_isDay_16 1 μ) = some (r, μ') := h
  refine wm_iload_n E dP_isDay_0 rfl (j := 0) rfl ?_
  refine wm_if_lt (tgt := 15) E dP_isDay_1 (by decide) (fun c1 => ?_) (fun c1 => ?_)
  · have h := (if_pos c1).symm.trans h
    refine wm_pick (lv' := []) [] rfl ?_
    exact w_P_isDay_15 E hQ hR hI μ h
  · have h := (if_neg c1).symm.trans h
    refine wm_iload_n E dP_isDay_4 rfl (j := 0) rfl ?_
    refine wm_sipush (x := 9999) E dP_isDay_5 (by decide) ?_
    refine wm_icmp_gt (tgt := 15) E dP_isDay_8 (by decide) (fun c8 => ?_) (fun c8 => ?_)
    · have h := (if_pos c8).symm.trans h
      refine wm_pick (lv' := []) [] rfl ?_
      exact w_P_isDay_15 E hQ hR hI μ h
    · have h := (if_neg c8).symm.trans h
      refine wm_iconst (x := 1) E dP_isDay_11 (by decide) ?_
      refine wm_goto (tgt := 16) E dP_isDay_12 (by decide) ?_
      refine wm_pick (lv' := []) [] rfl ?_
      exact w_P_isDay_16 E hQ hR hI 1 μ h
def B_Co_isPoint_13  (s0 : Int32) (μ : Mem) : Option (Int32 × Mem) := gd (¬ okZ s0 = true) (some (s0, μ))
set_option maxHeartbeats 4000000 in
set_option maxRecDepth 100000 in
theorem w_Co_isPoint_13 {X : CX} (E : EV X prog_3_method_2_code 1 "PlaceFinder$Corners" (some .boolean)) {μ0 μ' : Mem} {r : Int32} (hQ : RQ X 0 0 μ0 (some (vI r)) μ') (hR : xR X = { frames := 0, cells := 0, slots := 0, locals := 0 }) (hI : X.2.2.2.2.2.2.2.2.2.2.2.1.name = "isPoint")  (s0 : Int32) (μ : Mem) (h : B_Co_isPoint_13  s0 μ = some (r, μ')) : WM X 1 13 [] [vI s0] 0 0 μ := by
  have h : (gd (¬ okZ s0 = true) (some (s0, μ))) = some (r, μ') := h
  obtain ⟨hz13, h⟩ := gdS h
  exact wm_zret (rt := .boolean) E hQ (rtI h) (rtM h) (okZN hz13) (by decide) (by decide) dCo_isPoint_13
def S_Co_isPoint (v0 : Option Nat) (μ : Mem) : Option (Int32 × Mem) := b1 (gI μ v0 2 0) (fun x1 => if x1 = 1 then B_Co_isPoint_13 1 μ else B_Co_isPoint_13 0 μ)
set_option maxHeartbeats 4000000 in
set_option maxRecDepth 100000 in
theorem C_Co_isPoint (l : Launch) (G : GG) (v0 : Option Nat) (μ μ' : Mem) (r : Int32) (h : S_Co_isPoint v0 μ = some (r, μ')) : CT l G y_Co_isPoint prog_3_method_2_code 1 (some .boolean) 0 0 0 0 μ [vR v0] (some (vI r)) μ' := by
  refine wm_met (lv := [(0, vR v0)]) (by decide +kernel) (Nat.le_of_ble_eq_true rfl) rfl (fun X E hQ hR hI => ?_)
  have h : (b1 (gI μ v0 2 0) (fun x1 => if x1 = 1 then B_Co_isPoint_13 1 μ else B_Co_isPoint_13 0 μ)) = some (r, μ') := h
  refine wm_aload_n E dCo_isPoint_0 rfl (j := 0) rfl ?_
  refine wm_gI E fd_Co_9 h dCo_isPoint_1 (fun x1 h => ?_)
  refine wm_iconst (x := 1) E dCo_isPoint_4 (by decide) ?_
  refine wm_icmp_ne (tgt := 12) E dCo_isPoint_5 (by decide) (fun c5 => ?_) (fun c5 => ?_)
  · have h := (if_neg c5).symm.trans h
    refine wm_iconst (x := 0) E dCo_isPoint_12 (by decide) ?_
    refine wm_pick (lv' := []) [] rfl ?_
    exact w_Co_isPoint_13 E hQ hR hI 0 μ h
  · have h := (if_pos c5).symm.trans h
    refine wm_iconst (x := 1) E dCo_isPoint_8 (by decide) ?_
    refine wm_goto (tgt := 13) E dCo_isPoint_9 (by decide) ?_
    refine wm_pick (lv' := []) [] rfl ?_
    exact w_Co_isPoint_13 E hQ hR hI 1 μ h
def B_Co_following_17  (s0 : Int32) (μ : Mem) : Option (Int32 × Mem) := some (s0, μ)
set_option maxHeartbeats 4000000 in
set_option maxRecDepth 100000 in
theorem w_Co_following_17 {X : CX} (E : EV X prog_3_method_4_code 2 "PlaceFinder$Corners" (some .int)) {μ0 μ' : Mem} {r : Int32} (hQ : RQ X 0 0 μ0 (some (vI r)) μ') (hR : xR X = { frames := 0, cells := 0, slots := 0, locals := 0 }) (hI : X.2.2.2.2.2.2.2.2.2.2.2.1.name = "following")  (s0 : Int32) (μ : Mem) (h : B_Co_following_17  s0 μ = some (r, μ')) : WM X 2 17 [] [vI s0] 0 0 μ := by
  have h : (some (s0, μ)) = some (r, μ') := h
  exact wm_iret (rt := .int) E hQ (rtI h) (rtM h) (by decide) (by decide) dCo_following_17
def S_Co_following (v0 : Option Nat) (v1 : Int32) (μ : Mem) : Option (Int32 × Mem) := b1 (gI μ v0 2 0) (fun x4 => if x4 ≤ (v1 + 1) then B_Co_following_17 0 μ else B_Co_following_17 (v1 + 1) μ)
set_option maxHeartbeats 4000000 in
set_option maxRecDepth 100000 in
theorem C_Co_following (l : Launch) (G : GG) (v0 : Option Nat) (v1 : Int32) (μ μ' : Mem) (r : Int32) (h : S_Co_following v0 v1 μ = some (r, μ')) : CT l G y_Co_following prog_3_method_4_code 2 (some .int) 0 0 0 0 μ [vR v0, vI v1] (some (vI r)) μ' := by
  refine wm_met (lv := [(0, vR v0), (1, vI v1)]) (by decide +kernel) (Nat.le_of_ble_eq_true rfl) rfl (fun X E hQ hR hI => ?_)
  have h : (b1 (gI μ v0 2 0) (fun x4 => if x4 ≤ (v1 + 1) then B_Co_following_17 0 μ else B_Co_following_17 (v1 + 1) μ)) = some (r, μ') := h
  refine wm_iload_n E dCo_following_0 rfl (j := 1) rfl ?_
  refine wm_iconst (x := 1) E dCo_following_1 (by decide) ?_
  refine wm_iadd E dCo_following_2 ?_
  refine wm_aload_n E dCo_following_3 rfl (j := 0) rfl ?_
  refine wm_gI E fd_Co_9 h dCo_following_4 (fun x4 h => ?_)
  refine wm_icmp_ge (tgt := 16) E dCo_following_7 (by decide) (fun c7 => ?_) (fun c7 => ?_)
  · have h := (if_pos c7).symm.trans h
    refine wm_iconst (x := 0) E dCo_following_16 (by decide) ?_
    refine wm_pick (lv' := []) [] rfl ?_
    exact w_Co_following_17 E hQ hR hI 0 μ h
  · have h := (if_neg c7).symm.trans h
    refine wm_iload_n E dCo_following_10 rfl (j := 1) rfl ?_
    refine wm_iconst (x := 1) E dCo_following_11 (by decide) ?_
    refine wm_iadd E dCo_following_12 ?_
    refine wm_goto (tgt := 17) E dCo_following_13 (by decide) ?_
    refine wm_pick (lv' := []) [] rfl ?_
    exact w_Co_following_17 E hQ hR hI (v1 + 1) μ h
def B_Co_doubledSurface_4  : Nat → Option Nat → Int32 → Int32 → Mem → Option (Int32 × Mem)
  | 0, _, _, _, _ => none
  | n + 1, v0, v1, v2, μ => b1 (gI μ v0 2 0) (fun x6 => if x6 ≤ v2 then some (v1, μ) else b1 (rc μ v0 2) (fun _ => b2 (S_Co_following v0 v2 μ) (fun x14 m14 => b1 (gR m14 v0 2 1) (fun x20 => b1 (aI m14 x20 0 v2) (fun x24 => b1 (gR m14 v0 2 2) (fun x26 => b1 (aI m14 x26 0 x14) (fun x30 => b1 (gR m14 v0 2 1) (fun x33 => b1 (aI m14 x33 0 x14) (fun x37 => b1 (gR m14 v0 2 2) (fun x39 => b1 (aI m14 x39 0 v2) (fun x43 => b0 (v1 + ((x24 * x30) - (x37 * x43))) (fun x47 => (fun v0 v1 v2 μ => B_Co_doubledSurface_4 n v0 v1 v2 μ) v0 x47 (v2 + 1) m14))))))))))))
set_option maxHeartbeats 4000000 in
set_option maxRecDepth 100000 in
theorem w_Co_doubledSurface_4 {X : CX} (E : EV X prog_3_method_5_code 4 "PlaceFinder$Corners" (some .int)) {μ0 μ' : Mem} {r : Int32} (hQ : RQ X 0 0 μ0 (some (vI r)) μ') (hR : xR X = { frames := 1, cells := 0, slots := 0, locals := 21 }) (hI : X.2.2.2.2.2.2.2.2.2.2.2.1.name = "doubledSurface")  (n : Nat) : ∀ (v0 : Option Nat) (v1 : Int32) (v2 : Int32) (μ : Mem) (h : B_Co_doubledSurface_4  n v0 v1 v2 μ = some (r, μ')), WM X 4 4 [(0, vR v0), (1, vI v1), (2, vI v2)] [] 0 0 μ := by
  induction n with
  | zero => intro v0 v1 v2 μ h; cases h
  | succ n ih =>
    intro v0 v1 v2 μ h
    have h : (b1 (gI μ v0 2 0) (fun x6 => if x6 ≤ v2 then some (v1, μ) else b1 (rc μ v0 2) (fun _ => b2 (S_Co_following v0 v2 μ) (fun x14 m14 => b1 (gR m14 v0 2 1) (fun x20 => b1 (aI m14 x20 0 v2) (fun x24 => b1 (gR m14 v0 2 2) (fun x26 => b1 (aI m14 x26 0 x14) (fun x30 => b1 (gR m14 v0 2 1) (fun x33 => b1 (aI m14 x33 0 x14) (fun x37 => b1 (gR m14 v0 2 2) (fun x39 => b1 (aI m14 x39 0 v2) (fun x43 => b0 (v1 + ((x24 * x30) - (x37 * x43))) (fun x47 => (fun v0 v1 v2 μ => B_Co_doubledSurface_4 n v0 v1 v2 μ) v0 x47 (v2 + 1) m14))))))))))))) = some (r, μ') := h
    refine wm_iload_n E dCo_doubledSurface_4 rfl (j := 2) rfl ?_
    refine wm_aload_n E dCo_doubledSurface_5 rfl (j := 0) rfl ?_
    refine wm_gI E fd_Co_9 h dCo_doubledSurface_6 (fun x6 h => ?_)
    refine wm_icmp_ge (tgt := 54) E dCo_doubledSurface_9 (by decide) (fun c9 => ?_) (fun c9 => ?_)
    · have h := (if_pos c9).symm.trans h
      refine wm_iload_n E dCo_doubledSurface_54 rfl (j := 1) rfl ?_
      exact wm_iret (rt := .int) E hQ (rtI h) (rtM h) (by decide) (by decide) dCo_doubledSurface_55
    · have h := (if_neg c9).symm.trans h
      refine wm_aload_n E dCo_doubledSurface_12 rfl (j := 0) rfl ?_
      refine wm_iload_n E dCo_doubledSurface_13 rfl (j := 2) rfl ?_
      obtain ⟨u14, hr14, h⟩ := b1S h
      obtain ⟨x14, m14, hc14, h⟩ := b2S h
      refine wm_cV (ci := 2) (As := [vI v2]) (st := []) E lk_Co_32 rfl im_Co_following sl_Co_following hr14 (C_Co_following (xl X) X.1 v0 v2 μ _ _ hc14) rfl rfl (by rw [hR]; decide) (by rw [hR]; decide) (Nat.le_of_ble_eq_true rfl) dCo_doubledSurface_14 ?_
      refine wm_istore_n (lv' := [(3, vI x14), (0, vR v0), (1, vI v1), (2, vI v2)]) E dCo_doubledSurface_17 rfl (by decide) rfl ?_
      refine wm_iload_n E dCo_doubledSurface_18 rfl (j := 2) rfl ?_
      refine wm_aload_n E dCo_doubledSurface_19 rfl (j := 1) rfl ?_
      refine wm_gR E fd_Co_21 h dCo_doubledSurface_20 (fun x20 h => ?_)
      refine wm_iload_n E dCo_doubledSurface_23 rfl (j := 3) rfl ?_
      refine wm_iald (t := 0) E rfl h dCo_doubledSurface_24 (fun x24 h => ?_)
      refine wm_aload_n E dCo_doubledSurface_25 rfl (j := 1) rfl ?_
      refine wm_gR E fd_Co_25 h dCo_doubledSurface_26 (fun x26 h => ?_)
      refine wm_iload_n E dCo_doubledSurface_29 rfl (j := 0) rfl ?_
      refine wm_iald (t := 0) E rfl h dCo_doubledSurface_30 (fun x30 h => ?_)
      refine wm_imul E dCo_doubledSurface_31 ?_
      refine wm_aload_n E dCo_doubledSurface_32 rfl (j := 1) rfl ?_
      refine wm_gR E fd_Co_21 h dCo_doubledSurface_33 (fun x33 h => ?_)
      refine wm_iload_n E dCo_doubledSurface_36 rfl (j := 0) rfl ?_
      refine wm_iald (t := 0) E rfl h dCo_doubledSurface_37 (fun x37 h => ?_)
      refine wm_aload_n E dCo_doubledSurface_38 rfl (j := 1) rfl ?_
      refine wm_gR E fd_Co_25 h dCo_doubledSurface_39 (fun x39 h => ?_)
      refine wm_iload_n E dCo_doubledSurface_42 rfl (j := 3) rfl ?_
      refine wm_iald (t := 0) E rfl h dCo_doubledSurface_43 (fun x43 h => ?_)
      refine wm_imul E dCo_doubledSurface_44 ?_
      refine wm_isub E dCo_doubledSurface_45 ?_
      refine wm_iadd E dCo_doubledSurface_46 ?_
      refine wm_letI h (fun x47 h => ?_)
      refine wm_istore_n (lv' := [(1, vI x47), (3, vI x14), (0, vR v0), (2, vI v2)]) E dCo_doubledSurface_47 rfl (by decide) rfl ?_
      refine wm_iinc (lv' := [(2, vI (v2 + 1)), (1, vI x47), (3, vI x14), (0, vR v0)]) (d := 1) E dCo_doubledSurface_48 (by decide) (j := 3) rfl (by decide) rfl ?_
      refine wm_goto (tgt := 4) E dCo_doubledSurface_51 (by decide) ?_
      refine wm_pick (lv' := [(0, vR v0), (1, vI x47), (2, vI (v2 + 1))]) [3, 1, 0] rfl ?_
      exact ih v0 x47 (v2 + 1) m14 h
def S_Co_doubledSurface (v0 : Option Nat) (μ : Mem) : Option (Int32 × Mem) := B_Co_doubledSurface_4 fu v0 0 0 μ
set_option maxHeartbeats 4000000 in
set_option maxRecDepth 100000 in
theorem C_Co_doubledSurface (l : Launch) (G : GG) (v0 : Option Nat) (μ μ' : Mem) (r : Int32) (h : S_Co_doubledSurface v0 μ = some (r, μ')) : CT l G y_Co_doubledSurface prog_3_method_5_code 4 (some .int) 1 0 0 21 μ [vR v0] (some (vI r)) μ' := by
  refine wm_met (lv := [(0, vR v0)]) (by decide +kernel) (Nat.le_of_ble_eq_true rfl) rfl (fun X E hQ hR hI => ?_)
  have h : (B_Co_doubledSurface_4 fu v0 0 0 μ) = some (r, μ') := h
  refine wm_iconst (x := 0) E dCo_doubledSurface_0 (by decide) ?_
  refine wm_istore_n (lv' := [(1, vI 0), (0, vR v0)]) E dCo_doubledSurface_1 rfl (by decide) rfl ?_
  refine wm_iconst (x := 0) E dCo_doubledSurface_2 (by decide) ?_
  refine wm_istore_n (lv' := [(2, vI 0), (1, vI 0), (0, vR v0)]) E dCo_doubledSurface_3 rfl (by decide) rfl ?_
  refine wm_pick (lv' := [(0, vR v0), (1, vI 0), (2, vI 0)]) [2, 1, 0] rfl ?_
  exact w_Co_doubledSurface_4 E hQ hR hI fu v0 0 0 μ h
def B_Co_isArea_20  (s0 : Int32) (μ : Mem) : Option (Int32 × Mem) := gd (¬ okZ s0 = true) (some (s0, μ))
set_option maxHeartbeats 4000000 in
set_option maxRecDepth 100000 in
theorem w_Co_isArea_20 {X : CX} (E : EV X prog_3_method_3_code 1 "PlaceFinder$Corners" (some .boolean)) {μ0 μ' : Mem} {r : Int32} (hQ : RQ X 0 0 μ0 (some (vI r)) μ') (hR : xR X = { frames := 2, cells := 0, slots := 0, locals := 44 }) (hI : X.2.2.2.2.2.2.2.2.2.2.2.1.name = "isArea")  (s0 : Int32) (μ : Mem) (h : B_Co_isArea_20  s0 μ = some (r, μ')) : WM X 1 20 [] [vI s0] 0 0 μ := by
  have h : (gd (¬ okZ s0 = true) (some (s0, μ))) = some (r, μ') := h
  obtain ⟨hz20, h⟩ := gdS h
  exact wm_zret (rt := .boolean) E hQ (rtI h) (rtM h) (okZN hz20) (by decide) (by decide) dCo_isArea_20
def B_Co_isArea_19   (μ : Mem) : Option (Int32 × Mem) := B_Co_isArea_20 0 μ
set_option maxHeartbeats 4000000 in
set_option maxRecDepth 100000 in
theorem w_Co_isArea_19 {X : CX} (E : EV X prog_3_method_3_code 1 "PlaceFinder$Corners" (some .boolean)) {μ0 μ' : Mem} {r : Int32} (hQ : RQ X 0 0 μ0 (some (vI r)) μ') (hR : xR X = { frames := 2, cells := 0, slots := 0, locals := 44 }) (hI : X.2.2.2.2.2.2.2.2.2.2.2.1.name = "isArea")   (μ : Mem) (h : B_Co_isArea_19   μ = some (r, μ')) : WM X 1 19 [] [] 0 0 μ := by
  have h : (B_Co_isArea_20 0 μ) = some (r, μ') := h
  refine wm_iconst (x := 0) E dCo_isArea_19 (by decide) ?_
  refine wm_pick (lv' := []) [] rfl ?_
  exact w_Co_isArea_20 E hQ hR hI 0 μ h
def S_Co_isArea (v0 : Option Nat) (μ : Mem) : Option (Int32 × Mem) := b1 (gI μ v0 2 0) (fun x1 => if x1 < 3 then B_Co_isArea_19 μ else b1 (rc μ v0 2) (fun _ => b2 (S_Co_doubledSurface v0 μ) (fun x9 m9 => if x9 = 0 then B_Co_isArea_19 m9 else B_Co_isArea_20 1 m9)))
set_option maxHeartbeats 4000000 in
set_option maxRecDepth 100000 in
theorem C_Co_isArea (l : Launch) (G : GG) (v0 : Option Nat) (μ μ' : Mem) (r : Int32) (h : S_Co_isArea v0 μ = some (r, μ')) : CT l G y_Co_isArea prog_3_method_3_code 1 (some .boolean) 2 0 0 44 μ [vR v0] (some (vI r)) μ' := by
  refine wm_met (lv := [(0, vR v0)]) (by decide +kernel) (Nat.le_of_ble_eq_true rfl) rfl (fun X E hQ hR hI => ?_)
  have h : (b1 (gI μ v0 2 0) (fun x1 => if x1 < 3 then B_Co_isArea_19 μ else b1 (rc μ v0 2) (fun _ => b2 (S_Co_doubledSurface v0 μ) (fun x9 m9 => if x9 = 0 then B_Co_isArea_19 m9 else B_Co_isArea_20 1 m9)))) = some (r, μ') := h
  refine wm_aload_n E dCo_isArea_0 rfl (j := 0) rfl ?_
  refine wm_gI E fd_Co_9 h dCo_isArea_1 (fun x1 h => ?_)
  refine wm_iconst (x := 3) E dCo_isArea_4 (by decide) ?_
  refine wm_icmp_lt (tgt := 19) E dCo_isArea_5 (by decide) (fun c5 => ?_) (fun c5 => ?_)
  · have h := (if_pos c5).symm.trans h
    refine wm_pick (lv' := []) [] rfl ?_
    exact w_Co_isArea_19 E hQ hR hI μ h
  · have h := (if_neg c5).symm.trans h
    refine wm_aload_n E dCo_isArea_8 rfl (j := 0) rfl ?_
    obtain ⟨u9, hr9, h⟩ := b1S h
    obtain ⟨x9, m9, hc9, h⟩ := b2S h
    refine wm_cV (ci := 2) (As := []) (st := []) E lk_Co_28 rfl im_Co_doubledSurface sl_Co_doubledSurface hr9 (C_Co_doubledSurface (xl X) X.1 v0 μ _ _ hc9) rfl rfl (by rw [hR]; decide) (by rw [hR]; decide) (Nat.le_of_ble_eq_true rfl) dCo_isArea_9 ?_
    refine wm_if_eq (tgt := 19) E dCo_isArea_12 (by decide) (fun c12 => ?_) (fun c12 => ?_)
    · have h := (if_pos c12).symm.trans h
      refine wm_pick (lv' := []) [] rfl ?_
      exact w_Co_isArea_19 E hQ hR hI m9 h
    · have h := (if_neg c12).symm.trans h
      refine wm_iconst (x := 1) E dCo_isArea_15 (by decide) ?_
      refine wm_goto (tgt := 20) E dCo_isArea_16 (by decide) ?_
      refine wm_pick (lv' := []) [] rfl ?_
      exact w_Co_isArea_20 E hQ hR hI 1 m9 h
def B_Pl_takesShapeFrom_34  (s0 : Int32) (μ : Mem) : Option (Int32 × Mem) := gd (¬ okZ s0 = true) (some (s0, μ))
set_option maxHeartbeats 4000000 in
set_option maxRecDepth 100000 in
theorem w_Pl_takesShapeFrom_34 {X : CX} (E : EV X prog_8_method_2_code 3 "PlaceFinder$Place" (some .boolean)) {μ0 μ' : Mem} {r : Int32} (hQ : RQ X 0 0 μ0 (some (vI r)) μ') (hR : xR X = { frames := 1, cells := 0, slots := 0, locals := 20 }) (hI : X.2.2.2.2.2.2.2.2.2.2.2.1.name = "takesShapeFrom")  (s0 : Int32) (μ : Mem) (h : B_Pl_takesShapeFrom_34  s0 μ = some (r, μ')) : WM X 3 34 [] [vI s0] 0 0 μ := by
  have h : (gd (¬ okZ s0 = true) (some (s0, μ))) = some (r, μ') := h
  obtain ⟨hz34, h⟩ := gdS h
  exact wm_zret (rt := .boolean) E hQ (rtI h) (rtM h) (okZN hz34) (by decide) (by decide) dPl_takesShapeFrom_34
def B_Pl_takesShapeFrom_33   (μ : Mem) : Option (Int32 × Mem) := B_Pl_takesShapeFrom_34 0 μ
set_option maxHeartbeats 4000000 in
set_option maxRecDepth 100000 in
theorem w_Pl_takesShapeFrom_33 {X : CX} (E : EV X prog_8_method_2_code 3 "PlaceFinder$Place" (some .boolean)) {μ0 μ' : Mem} {r : Int32} (hQ : RQ X 0 0 μ0 (some (vI r)) μ') (hR : xR X = { frames := 1, cells := 0, slots := 0, locals := 20 }) (hI : X.2.2.2.2.2.2.2.2.2.2.2.1.name = "takesShapeFrom")   (μ : Mem) (h : B_Pl_takesShapeFrom_33   μ = some (r, μ')) : WM X 3 33 [] [] 0 0 μ := by
  have h : (B_Pl_takesShapeFrom_34 0 μ) = some (r, μ') := h
  refine wm_iconst (x := 0) E dPl_takesShapeFrom_33 (by decide) ?_
  refine wm_pick (lv' := []) [] rfl ?_
  exact w_Pl_takesShapeFrom_34 E hQ hR hI 0 μ h
def B_Pl_takesShapeFrom_29   (μ : Mem) : Option (Int32 × Mem) := B_Pl_takesShapeFrom_34 1 μ
set_option maxHeartbeats 4000000 in
set_option maxRecDepth 100000 in
theorem w_Pl_takesShapeFrom_29 {X : CX} (E : EV X prog_8_method_2_code 3 "PlaceFinder$Place" (some .boolean)) {μ0 μ' : Mem} {r : Int32} (hQ : RQ X 0 0 μ0 (some (vI r)) μ') (hR : xR X = { frames := 1, cells := 0, slots := 0, locals := 20 }) (hI : X.2.2.2.2.2.2.2.2.2.2.2.1.name = "takesShapeFrom")   (μ : Mem) (h : B_Pl_takesShapeFrom_29   μ = some (r, μ')) : WM X 3 29 [] [] 0 0 μ := by
  have h : (B_Pl_takesShapeFrom_34 1 μ) = some (r, μ') := h
  refine wm_iconst (x := 1) E dPl_takesShapeFrom_29 (by decide) ?_
  refine wm_goto (tgt := 34) E dPl_takesShapeFrom_30 (by decide) ?_
  refine wm_pick (lv' := []) [] rfl ?_
  exact w_Pl_takesShapeFrom_34 E hQ hR hI 1 μ h
def S_Pl_takesShapeFrom (v0 : Option Nat) (v1 : Int32) (μ : Mem) : Option (Int32 × Mem) := b1 (gR μ v0 7 3) (fun x1 => b1 (rc μ x1 0) (fun _ => b2 (S_Al_size x1 μ) (fun x4 m4 => if 3 ≤ x4 then B_Pl_takesShapeFrom_33 m4 else if x4 = 0 then B_Pl_takesShapeFrom_29 m4 else b1 (gR m4 v0 7 4) (fun x18 => b1 (aI m4 x18 0 (x4 - 1)) (fun x24 => if v1 ≤ x24 then B_Pl_takesShapeFrom_33 m4 else B_Pl_takesShapeFrom_29 m4)))))
set_option maxHeartbeats 4000000 in
set_option maxRecDepth 100000 in
theorem C_Pl_takesShapeFrom (l : Launch) (G : GG) (v0 : Option Nat) (v1 : Int32) (μ μ' : Mem) (r : Int32) (h : S_Pl_takesShapeFrom v0 v1 μ = some (r, μ')) : CT l G y_Pl_takesShapeFrom prog_8_method_2_code 3 (some .boolean) 1 0 0 20 μ [vR v0, vI v1] (some (vI r)) μ' := by
  refine wm_met (lv := [(0, vR v0), (1, vI v1)]) (by decide +kernel) (Nat.le_of_ble_eq_true rfl) rfl (fun X E hQ hR hI => ?_)
  have h : (b1 (gR μ v0 7 3) (fun x1 => b1 (rc μ x1 0) (fun _ => b2 (S_Al_size x1 μ) (fun x4 m4 => if 3 ≤ x4 then B_Pl_takesShapeFrom_33 m4 else if x4 = 0 then B_Pl_takesShapeFrom_29 m4 else b1 (gR m4 v0 7 4) (fun x18 => b1 (aI m4 x18 0 (x4 - 1)) (fun x24 => if v1 ≤ x24 then B_Pl_takesShapeFrom_33 m4 else B_Pl_takesShapeFrom_29 m4)))))) = some (r, μ') := h
  refine wm_aload_n E dPl_takesShapeFrom_0 rfl (j := 0) rfl ?_
  refine wm_gR E fd_Pl_18 h dPl_takesShapeFrom_1 (fun x1 h => ?_)
  obtain ⟨u4, hr4, h⟩ := b1S h
  obtain ⟨x4, m4, hc4, h⟩ := b2S h
  refine wm_cV (ci := 0) (As := []) (st := []) E lk_Pl_38 rfl im_Al_size sl_Al_size hr4 (C_Al_size (xl X) X.1 x1 μ _ _ hc4) rfl rfl (by rw [hR]; decide) (by rw [hR]; decide) (Nat.le_of_ble_eq_true rfl) dPl_takesShapeFrom_4 ?_
  refine wm_istore_n (lv' := [(2, vI x4), (0, vR v0), (1, vI v1)]) E dPl_takesShapeFrom_7 rfl (by decide) rfl ?_
  refine wm_iload_n E dPl_takesShapeFrom_8 rfl (j := 0) rfl ?_
  refine wm_iconst (x := 3) E dPl_takesShapeFrom_9 (by decide) ?_
  refine wm_icmp_ge (tgt := 33) E dPl_takesShapeFrom_10 (by decide) (fun c10 => ?_) (fun c10 => ?_)
  · have h := (if_pos c10).symm.trans h
    refine wm_pick (lv' := []) [] rfl ?_
    exact w_Pl_takesShapeFrom_33 E hQ hR hI m4 h
  · have h := (if_neg c10).symm.trans h
    refine wm_iload_n E dPl_takesShapeFrom_13 rfl (j := 0) rfl ?_
    refine wm_if_eq (tgt := 29) E dPl_takesShapeFrom_14 (by decide) (fun c14 => ?_) (fun c14 => ?_)
    · have h := (if_pos c14).symm.trans h
      refine wm_pick (lv' := []) [] rfl ?_
      exact w_Pl_takesShapeFrom_29 E hQ hR hI m4 h
    · have h := (if_neg c14).symm.trans h
      refine wm_aload_n E dPl_takesShapeFrom_17 rfl (j := 1) rfl ?_
      refine wm_gR E fd_Pl_22 h dPl_takesShapeFrom_18 (fun x18 h => ?_)
      refine wm_iload_n E dPl_takesShapeFrom_21 rfl (j := 0) rfl ?_
      refine wm_iconst (x := 1) E dPl_takesShapeFrom_22 (by decide) ?_
      refine wm_isub E dPl_takesShapeFrom_23 ?_
      refine wm_iald (t := 0) E rfl h dPl_takesShapeFrom_24 (fun x24 h => ?_)
      refine wm_iload_n E dPl_takesShapeFrom_25 rfl (j := 2) rfl ?_
      refine wm_icmp_ge (tgt := 33) E dPl_takesShapeFrom_26 (by decide) (fun c26 => ?_) (fun c26 => ?_)
      · have h := (if_pos c26).symm.trans h
        refine wm_pick (lv' := []) [] rfl ?_
        exact w_Pl_takesShapeFrom_33 E hQ hR hI m4 h
      · have h := (if_neg c26).symm.trans h
        refine wm_pick (lv' := []) [] rfl ?_
        exact w_Pl_takesShapeFrom_29 E hQ hR hI m4 h
def B_Pl_addShape_33   (μ : Mem) : Option (Unit × Mem) := some ((), μ)
set_option maxHeartbeats 4000000 in
set_option maxRecDepth 100000 in
theorem w_Pl_addShape_33 {X : CX} (E : EV X prog_8_method_3_code 3 "PlaceFinder$Place" none) {μ0 μ' : Mem} {r : Unit} (hQ : RQ X 1 33 μ0 none μ') (hR : xR X = { frames := 7, cells := 1, slots := 33, locals := 191 }) (hI : X.2.2.2.2.2.2.2.2.2.2.2.1.name = "addShape")   (μ : Mem) (h : B_Pl_addShape_33   μ = some (r, μ')) : WM X 3 33 [] [] 1 33 μ := by
  have h : (some ((), μ)) = some (r, μ') := h
  exact wm_vret E hQ rfl (rtM h) (by decide) (by decide) dPl_addShape_33
def S_Pl_addShape (v0 : Option Nat) (v1 : Option Nat) (v2 : Int32) (μ : Mem) : Option (Unit × Mem) := b1 (gR μ v0 7 3) (fun x1 => b1 (rc μ x1 0) (fun _ => b2 (S_Al_size x1 μ) (fun x4 m4 => if 3 ≤ x4 then B_Pl_addShape_33 m4 else b1 (gR m4 v0 7 4) (fun x12 => b1 (gR m4 v0 7 3) (fun x16 => b1 (rc m4 x16 0) (fun _ => b2 (S_Al_size x16 m4) (fun x19 m19 => b1 (sI m19 x12 0 x19 v2) (fun m23 => b1 (gR m23 v0 7 3) (fun x25 => b1 (rc m23 x25 0) (fun _ => b2 (S_Al_add x25 v1 m23) (fun x29 m29 => B_Pl_addShape_33 m29)))))))))))
set_option maxHeartbeats 4000000 in
set_option maxRecDepth 100000 in
theorem C_Pl_addShape (l : Launch) (G : GG) (v0 : Option Nat) (v1 : Option Nat) (v2 : Int32) (μ μ' : Mem) (r : Unit) (h : S_Pl_addShape v0 v1 v2 μ = some (r, μ')) : CT l G y_Pl_addShape prog_8_method_3_code 3 none 7 1 33 191 μ [vR v0, vR v1, vI v2] none μ' := by
  refine wm_met (lv := [(0, vR v0), (1, vR v1), (2, vI v2)]) (by decide +kernel) (Nat.le_of_ble_eq_true rfl) rfl (fun X E hQ hR hI => ?_)
  have h : (b1 (gR μ v0 7 3) (fun x1 => b1 (rc μ x1 0) (fun _ => b2 (S_Al_size x1 μ) (fun x4 m4 => if 3 ≤ x4 then B_Pl_addShape_33 m4 else b1 (gR m4 v0 7 4) (fun x12 => b1 (gR m4 v0 7 3) (fun x16 => b1 (rc m4 x16 0) (fun _ => b2 (S_Al_size x16 m4) (fun x19 m19 => b1 (sI m19 x12 0 x19 v2) (fun m23 => b1 (gR m23 v0 7 3) (fun x25 => b1 (rc m23 x25 0) (fun _ => b2 (S_Al_add x25 v1 m23) (fun x29 m29 => B_Pl_addShape_33 m29)))))))))))) = some (r, μ') := h
  refine wm_aload_n E dPl_addShape_0 rfl (j := 0) rfl ?_
  refine wm_gR E fd_Pl_18 h dPl_addShape_1 (fun x1 h => ?_)
  obtain ⟨u4, hr4, h⟩ := b1S h
  obtain ⟨x4, m4, hc4, h⟩ := b2S h
  refine wm_cV (ci := 0) (As := []) (st := []) E lk_Pl_38 rfl im_Al_size sl_Al_size hr4 (C_Al_size (xl X) X.1 x1 μ _ _ hc4) rfl rfl (by rw [hR]; decide) (by rw [hR]; decide) (Nat.le_of_ble_eq_true rfl) dPl_addShape_4 ?_
  refine wm_iconst (x := 3) E dPl_addShape_7 (by decide) ?_
  refine wm_icmp_ge (tgt := 33) E dPl_addShape_8 (by decide) (fun c8 => ?_) (fun c8 => ?_)
  · have h := (if_pos c8).symm.trans h
    refine wm_widen (k := 1) (n := 33) (by decide) (by decide) ?_
    refine wm_pick (lv' := []) [] rfl ?_
    exact w_Pl_addShape_33 E hQ hR hI m4 h
  · have h := (if_neg c8).symm.trans h
    refine wm_aload_n E dPl_addShape_11 rfl (j := 0) rfl ?_
    refine wm_gR E fd_Pl_22 h dPl_addShape_12 (fun x12 h => ?_)
    refine wm_aload_n E dPl_addShape_15 rfl (j := 0) rfl ?_
    refine wm_gR E fd_Pl_18 h dPl_addShape_16 (fun x16 h => ?_)
    obtain ⟨u19, hr19, h⟩ := b1S h
    obtain ⟨x19, m19, hc19, h⟩ := b2S h
    refine wm_cV (ci := 0) (As := []) (st := [vR x12]) E lk_Pl_38 rfl im_Al_size sl_Al_size hr19 (C_Al_size (xl X) X.1 x16 m4 _ _ hc19) rfl rfl (by rw [hR]; decide) (by rw [hR]; decide) (Nat.le_of_ble_eq_true rfl) dPl_addShape_19 ?_
    refine wm_iload_n E dPl_addShape_22 rfl (j := 2) rfl ?_
    refine wm_iast (t := 0) E rfl h dPl_addShape_23 (fun m23 h => ?_)
    refine wm_aload_n E dPl_addShape_24 rfl (j := 0) rfl ?_
    refine wm_gR E fd_Pl_18 h dPl_addShape_25 (fun x25 h => ?_)
    refine wm_aload_n E dPl_addShape_28 rfl (j := 1) rfl ?_
    obtain ⟨u29, hr29, h⟩ := b1S h
    obtain ⟨x29, m29, hc29, h⟩ := b2S h
    refine wm_cV (ci := 0) (As := [vR v1]) (st := []) E lk_Pl_42 rfl im_Al_add sl_Al_add hr29 (C_Al_add (xl X) X.1 x25 v1 m23 _ _ hc29) rfl rfl (by rw [hR]; decide) (by rw [hR]; decide) (Nat.le_of_ble_eq_true rfl) dPl_addShape_29 ?_
    refine wm_pop E dPl_addShape_32 rfl ?_
    refine wm_pick (lv' := []) [] rfl ?_
    exact w_Pl_addShape_33 E hQ hR hI m29 h
def B_P_route_29  (v0 : Option Nat) (s0 : Option Nat) (s1 : Option Nat) (s2 : Option Nat) (s3 : Option Nat) (s4 : Option Nat) (s5 : Int32) (μ : Mem) : Option (Unit × Mem) := b1 (rc μ s2 2) (fun _ => b2 (S_Co_init s2 s3 s4 s5 μ) (fun x29 m29 => b1 (pV m29 s0 11 4 (vR s1)) (fun m32 => b1 (pV m32 v0 11 3 (vI 0)) (fun m37 => some ((), m37)))))
set_option maxHeartbeats 4000000 in
set_option maxRecDepth 100000 in
theorem w_P_route_29 {X : CX} (E : EV X prog_1_method_5_code 1 "PlaceFinder" none) {μ0 μ' : Mem} {r : Unit} (hQ : RQ X 3 19 μ0 none μ') (hR : xR X = { frames := 3, cells := 3, slots := 19, locals := 105 }) (hI : X.2.2.2.2.2.2.2.2.2.2.2.1.name = "route")  (v0 : Option Nat) (s0 : Option Nat) (s1 : Option Nat) (s2 : Option Nat) (s3 : Option Nat) (s4 : Option Nat) (s5 : Int32) (μ : Mem) (h : B_P_route_29  v0 s0 s1 s2 s3 s4 s5 μ = some (r, μ')) : WM X 1 29 [(0, vR v0)] [vI s5, vR s4, vR s3, vR s2, vR s1, vR s0] 1 3 μ := by
  have h : (b1 (rc μ s2 2) (fun _ => b2 (S_Co_init s2 s3 s4 s5 μ) (fun x29 m29 => b1 (pV m29 s0 11 4 (vR s1)) (fun m32 => b1 (pV m32 v0 11 3 (vI 0)) (fun m37 => some ((), m37)))))) = some (r, μ') := h
  obtain ⟨u29, hr29, h⟩ := b1S h
  obtain ⟨x29, m29, hc29, h⟩ := b2S h
  refine wm_cI (ci := 2) (As := [vR s3, vR s4, vI s5]) (st := [vR s1, vR s0]) E lk_P_29 rfl rfl im_Co_init hr29 (C_Co_init (xl X) X.1 s2 s3 s4 s5 μ _ _ hc29) rfl rfl (by rw [hR]; decide) (by rw [hR]; decide) (Nat.le_of_ble_eq_true rfl) dP_route_29 ?_
  refine wm_pR E fp_P_32 (Or.inl ⟨_, rfl⟩) (fun q => by cases q) h dP_route_32 (fun m32 h => ?_)
  refine wm_aload_n E dP_route_35 rfl (j := 0) rfl ?_
  refine wm_iconst (x := 0) E dP_route_36 (by decide) ?_
  refine wm_pI E fp_P_23 (fun q => by cases q) h dP_route_37 (fun m37 h => ?_)
  exact wm_vret E hQ rfl (rtM h) (by decide) (by decide) dP_route_40
def S_P_route (v0 : Option Nat) (μ : Mem) : Option (Unit × Mem) := b2 (nO μ 2 [.int 0, .null, .null]) (fun x1 m1 => b1 (gR m1 v0 11 1) (fun x6 => b1 (gR m1 v0 11 2) (fun x10 => b1 (gI m1 v0 11 3) (fun x14 => if 2 ≤ x14 then b1 (gI m1 v0 11 3) (fun x26 => B_P_route_29 v0 v0 x1 x1 x6 x10 x26 m1) else B_P_route_29 v0 v0 x1 x1 x6 x10 0 m1))))
set_option maxHeartbeats 4000000 in
set_option maxRecDepth 100000 in
theorem C_P_route (l : Launch) (G : GG) (v0 : Option Nat) (μ μ' : Mem) (r : Unit) (h : S_P_route v0 μ = some (r, μ')) : CT l G y_P_route prog_1_method_5_code 1 none 3 3 19 105 μ [vR v0] none μ' := by
  refine wm_met (lv := [(0, vR v0)]) (by decide +kernel) (Nat.le_of_ble_eq_true rfl) rfl (fun X E hQ hR hI => ?_)
  have h : (b2 (nO μ 2 [.int 0, .null, .null]) (fun x1 m1 => b1 (gR m1 v0 11 1) (fun x6 => b1 (gR m1 v0 11 2) (fun x10 => b1 (gI m1 v0 11 3) (fun x14 => if 2 ≤ x14 then b1 (gI m1 v0 11 3) (fun x26 => B_P_route_29 v0 v0 x1 x1 x6 x10 x26 m1) else B_P_route_29 v0 v0 x1 x1 x6 x10 0 m1))))) = some (r, μ') := h
  refine wm_aload_n E dP_route_0 rfl (j := 0) rfl ?_
  refine wm_new E nd_P_27 h (by rw [hR]; decide) (by rw [hR]; decide) dP_route_1 (fun x1 m1 h => ?_)
  refine wm_dup E dP_route_4 rfl ?_
  refine wm_aload_n E dP_route_5 rfl (j := 0) rfl ?_
  refine wm_gR E fd_P_16 h dP_route_6 (fun x6 h => ?_)
  refine wm_aload_n E dP_route_9 rfl (j := 0) rfl ?_
  refine wm_gR E fd_P_20 h dP_route_10 (fun x10 h => ?_)
  refine wm_aload_n E dP_route_13 rfl (j := 0) rfl ?_
  refine wm_gI E fd_P_23 h dP_route_14 (fun x14 h => ?_)
  refine wm_iconst (x := 2) E dP_route_17 (by decide) ?_
  refine wm_icmp_ge (tgt := 25) E dP_route_18 (by decide) (fun c18 => ?_) (fun c18 => ?_)
  · have h := (if_pos c18).symm.trans h
    refine wm_aload_n E dP_route_25 rfl (j := 0) rfl ?_
    refine wm_gI E fd_P_23 h dP_route_26 (fun x26 h => ?_)
    refine wm_pick (lv' := [(0, vR v0)]) [0] rfl ?_
    exact w_P_route_29 E hQ hR hI v0 v0 x1 x1 x6 x10 x26 m1 h
  · have h := (if_neg c18).symm.trans h
    refine wm_iconst (x := 0) E dP_route_21 (by decide) ?_
    refine wm_goto (tgt := 29) E dP_route_22 (by decide) ?_
    refine wm_pick (lv' := [(0, vR v0)]) [0] rfl ?_
    exact w_P_route_29 E hQ hR hI v0 v0 x1 x1 x6 x10 0 m1 h
def B_P_letter_21   (μ : Mem) : Option (Int32 × Mem) := gd (¬ okZ 0 = true) (some (0, μ))
set_option maxHeartbeats 4000000 in
set_option maxRecDepth 100000 in
theorem w_P_letter_21 {X : CX} (E : EV X prog_1_method_6_code 2 "PlaceFinder" (some .boolean)) {μ0 μ' : Mem} {r : Int32} (hQ : RQ X 0 0 μ0 (some (vI r)) μ') (hR : xR X = { frames := 0, cells := 0, slots := 0, locals := 0 }) (hI : X.2.2.2.2.2.2.2.2.2.2.2.1.name = "letter")   (μ : Mem) (h : B_P_letter_21   μ = some (r, μ')) : WM X 2 21 [] [] 0 0 μ := by
  have h : (gd (¬ okZ 0 = true) (some (0, μ))) = some (r, μ') := h
  refine wm_iconst (x := 0) E dP_letter_21 (by decide) ?_
  obtain ⟨hz22, h⟩ := gdS h
  exact wm_zret (rt := .boolean) E hQ (rtI h) (rtM h) (okZN hz22) (by decide) (by decide) dP_letter_22
def S_P_letter (v0 : Option Nat) (v1 : Int32) (μ : Mem) : Option (Int32 × Mem) := if v1 < 97 then B_P_letter_21 μ else if 122 < v1 then B_P_letter_21 μ else b1 (gI μ v0 11 6) (fun x13 => if x13 < 10 then b1 (gR μ v0 11 5) (fun x24 => b1 (gI μ v0 11 6) (fun x28 => b1 (sI μ x24 2 x28 (vp_nar .char (((v1 : Int32).toUInt32 % 65536).toInt32))) (fun m33 => b1 (gI m33 v0 11 6) (fun x36 => b1 (pV m33 v0 11 6 (vI (x36 + 1))) (fun m41 => gd (¬ okZ 1 = true) (some (1, m41))))))) else B_P_letter_21 μ)
set_option maxHeartbeats 4000000 in
set_option maxRecDepth 100000 in
theorem C_P_letter (l : Launch) (G : GG) (v0 : Option Nat) (v1 : Int32) (μ μ' : Mem) (r : Int32) (h : S_P_letter v0 v1 μ = some (r, μ')) : CT l G y_P_letter prog_1_method_6_code 2 (some .boolean) 0 0 0 0 μ [vR v0, vI v1] (some (vI r)) μ' := by
  refine wm_met (lv := [(0, vR v0), (1, vI v1)]) (by decide +kernel) (Nat.le_of_ble_eq_true rfl) rfl (fun X E hQ hR hI => ?_)
  have h : (if v1 < 97 then B_P_letter_21 μ else if 122 < v1 then B_P_letter_21 μ else b1 (gI μ v0 11 6) (fun x13 => if x13 < 10 then b1 (gR μ v0 11 5) (fun x24 => b1 (gI μ v0 11 6) (fun x28 => b1 (sI μ x24 2 x28 (vp_nar .char (((v1 : Int32).toUInt32 % 65536).toInt32))) (fun m33 => b1 (gI m33 v0 11 6) (fun x36 => b1 (pV m33 v0 11 6 (vI (x36 + 1))) (fun m41 => gd (¬ okZ 1 = true) (some (1, m41))))))) else B_P_letter_21 μ)) = some (r, μ') := h
  refine wm_iload_n E dP_letter_0 rfl (j := 1) rfl ?_
  refine wm_bipush (x := 97) E dP_letter_1 (by decide) ?_
  refine wm_icmp_lt (tgt := 21) E dP_letter_3 (by decide) (fun c3 => ?_) (fun c3 => ?_)
  · have h := (if_pos c3).symm.trans h
    refine wm_pick (lv' := []) [] rfl ?_
    exact w_P_letter_21 E hQ hR hI μ h
  · have h := (if_neg c3).symm.trans h
    refine wm_iload_n E dP_letter_6 rfl (j := 1) rfl ?_
    refine wm_bipush (x := 122) E dP_letter_7 (by decide) ?_
    refine wm_icmp_gt (tgt := 21) E dP_letter_9 (by decide) (fun c9 => ?_) (fun c9 => ?_)
    · have h := (if_pos c9).symm.trans h
      refine wm_pick (lv' := []) [] rfl ?_
      exact w_P_letter_21 E hQ hR hI μ h
    · have h := (if_neg c9).symm.trans h
      refine wm_aload_n E dP_letter_12 rfl (j := 0) rfl ?_
      refine wm_gI E fd_P_40 h dP_letter_13 (fun x13 h => ?_)
      refine wm_bipush (x := 10) E dP_letter_16 (by decide) ?_
      refine wm_icmp_lt (tgt := 23) E dP_letter_18 (by decide) (fun c18 => ?_) (fun c18 => ?_)
      · have h := (if_pos c18).symm.trans h
        refine wm_aload_n E dP_letter_23 rfl (j := 0) rfl ?_
        refine wm_gR E fd_P_36 h dP_letter_24 (fun x24 h => ?_)
        refine wm_aload_n E dP_letter_27 rfl (j := 0) rfl ?_
        refine wm_gI E fd_P_40 h dP_letter_28 (fun x28 h => ?_)
        refine wm_iload_n E dP_letter_31 rfl (j := 1) rfl ?_
        refine wm_i2c E dP_letter_32 ?_
        refine wm_cast (t := 2) E rfl h dP_letter_33 (fun m33 h => ?_)
        refine wm_aload_n E dP_letter_34 rfl (j := 0) rfl ?_
        refine wm_dup E dP_letter_35 rfl ?_
        refine wm_gI E fd_P_40 h dP_letter_36 (fun x36 h => ?_)
        refine wm_iconst (x := 1) E dP_letter_39 (by decide) ?_
        refine wm_iadd E dP_letter_40 ?_
        refine wm_pI E fp_P_40 (fun q => by cases q) h dP_letter_41 (fun m41 h => ?_)
        refine wm_iconst (x := 1) E dP_letter_44 (by decide) ?_
        obtain ⟨hz45, h⟩ := gdS h
        exact wm_zret (rt := .boolean) E hQ (rtI h) (rtM h) (okZN hz45) (by decide) (by decide) dP_letter_45
      · have h := (if_neg c18).symm.trans h
        refine wm_pick (lv' := []) [] rfl ?_
        exact w_P_letter_21 E hQ hR hI μ h
def B_P_areSpan_24  (s0 : Int32) (μ : Mem) : Option (Int32 × Mem) := gd (¬ okZ s0 = true) (some (s0, μ))
set_option maxHeartbeats 4000000 in
set_option maxRecDepth 100000 in
theorem w_P_areSpan_24 {X : CX} (E : EV X prog_1_method_24_code 2 "PlaceFinder" (some .boolean)) {μ0 μ' : Mem} {r : Int32} (hQ : RQ X 0 0 μ0 (some (vI r)) μ') (hR : xR X = { frames := 1, cells := 0, slots := 0, locals := 20 }) (hI : X.2.2.2.2.2.2.2.2.2.2.2.1.name = "areSpan")  (s0 : Int32) (μ : Mem) (h : B_P_areSpan_24  s0 μ = some (r, μ')) : WM X 2 24 [] [vI s0] 0 0 μ := by
  have h : (gd (¬ okZ s0 = true) (some (s0, μ))) = some (r, μ') := h
  obtain ⟨hz24, h⟩ := gdS h
  exact wm_zret (rt := .boolean) E hQ (rtI h) (rtM h) (okZN hz24) (by decide) (by decide) dP_areSpan_24
def B_P_areSpan_23   (μ : Mem) : Option (Int32 × Mem) := B_P_areSpan_24 0 μ
set_option maxHeartbeats 4000000 in
set_option maxRecDepth 100000 in
theorem w_P_areSpan_23 {X : CX} (E : EV X prog_1_method_24_code 2 "PlaceFinder" (some .boolean)) {μ0 μ' : Mem} {r : Int32} (hQ : RQ X 0 0 μ0 (some (vI r)) μ') (hR : xR X = { frames := 1, cells := 0, slots := 0, locals := 20 }) (hI : X.2.2.2.2.2.2.2.2.2.2.2.1.name = "areSpan")   (μ : Mem) (h : B_P_areSpan_23   μ = some (r, μ')) : WM X 2 23 [] [] 0 0 μ := by
  have h : (B_P_areSpan_24 0 μ) = some (r, μ') := h
  refine wm_iconst (x := 0) E dP_areSpan_23 (by decide) ?_
  refine wm_pick (lv' := []) [] rfl ?_
  exact w_P_areSpan_24 E hQ hR hI 0 μ h
def S_P_areSpan (v0 : Int32) (v1 : Int32) (μ : Mem) : Option (Int32 × Mem) := b2 (S_P_isDay v0 μ) (fun x1 m1 => if x1 = 0 then B_P_areSpan_23 m1 else b2 (S_P_isDay v1 m1) (fun x8 m8 => if x8 = 0 then B_P_areSpan_23 m8 else if v1 < v0 then B_P_areSpan_23 m8 else B_P_areSpan_24 1 m8))
set_option maxHeartbeats 4000000 in
set_option maxRecDepth 100000 in
theorem C_P_areSpan (l : Launch) (G : GG) (v0 : Int32) (v1 : Int32) (μ μ' : Mem) (r : Int32) (h : S_P_areSpan v0 v1 μ = some (r, μ')) : CT l G y_P_areSpan prog_1_method_24_code 2 (some .boolean) 1 0 0 20 μ [vI v0, vI v1] (some (vI r)) μ' := by
  refine wm_met (lv := [(0, vI v0), (1, vI v1)]) (by decide +kernel) (Nat.le_of_ble_eq_true rfl) rfl (fun X E hQ hR hI => ?_)
  have h : (b2 (S_P_isDay v0 μ) (fun x1 m1 => if x1 = 0 then B_P_areSpan_23 m1 else b2 (S_P_isDay v1 m1) (fun x8 m8 => if x8 = 0 then B_P_areSpan_23 m8 else if v1 < v0 then B_P_areSpan_23 m8 else B_P_areSpan_24 1 m8))) = some (r, μ') := h
  refine wm_iload_n E dP_areSpan_0 rfl (j := 0) rfl ?_
  obtain ⟨x1, m1, hc1, h⟩ := b2S h
  refine wm_cS (As := [vI v0]) (st := []) E lk_P_128 sc_P_isDay (C_P_isDay (xl X) X.1 v0 μ _ _ hc1) rfl rfl (by rw [hR]; decide) (by rw [hR]; decide) (Nat.le_of_ble_eq_true rfl) dP_areSpan_1 ?_
  refine wm_if_eq (tgt := 23) E dP_areSpan_4 (by decide) (fun c4 => ?_) (fun c4 => ?_)
  · have h := (if_pos c4).symm.trans h
    refine wm_pick (lv' := []) [] rfl ?_
    exact w_P_areSpan_23 E hQ hR hI m1 h
  · have h := (if_neg c4).symm.trans h
    refine wm_iload_n E dP_areSpan_7 rfl (j := 1) rfl ?_
    obtain ⟨x8, m8, hc8, h⟩ := b2S h
    refine wm_cS (As := [vI v1]) (st := []) E lk_P_128 sc_P_isDay (C_P_isDay (xl X) X.1 v1 m1 _ _ hc8) rfl rfl (by rw [hR]; decide) (by rw [hR]; decide) (Nat.le_of_ble_eq_true rfl) dP_areSpan_8 ?_
    refine wm_if_eq (tgt := 23) E dP_areSpan_11 (by decide) (fun c11 => ?_) (fun c11 => ?_)
    · have h := (if_pos c11).symm.trans h
      refine wm_pick (lv' := []) [] rfl ?_
      exact w_P_areSpan_23 E hQ hR hI m8 h
    · have h := (if_neg c11).symm.trans h
      refine wm_iload_n E dP_areSpan_14 rfl (j := 0) rfl ?_
      refine wm_iload_n E dP_areSpan_15 rfl (j := 1) rfl ?_
      refine wm_icmp_gt (tgt := 23) E dP_areSpan_16 (by decide) (fun c16 => ?_) (fun c16 => ?_)
      · have h := (if_pos c16).symm.trans h
        refine wm_pick (lv' := []) [] rfl ?_
        exact w_P_areSpan_23 E hQ hR hI m8 h
      · have h := (if_neg c16).symm.trans h
        refine wm_iconst (x := 1) E dP_areSpan_19 (by decide) ?_
        refine wm_goto (tgt := 24) E dP_areSpan_20 (by decide) ?_
        refine wm_pick (lv' := []) [] rfl ?_
        exact w_P_areSpan_24 E hQ hR hI 1 m8 h
def S_Na_init (v0 : Option Nat) (v1 : Option Nat) (v2 : Int32) (v3 : Int32) (μ : Mem) : Option (Unit × Mem) := b1 (rc μ v0 6) (fun _ => b1 (pV μ v0 6 0 (vR v1)) (fun m6 => b1 (pV m6 v0 6 1 (vI v2)) (fun m11 => b1 (pV m11 v0 6 2 (vI v3)) (fun m16 => some ((), m16)))))
set_option maxHeartbeats 4000000 in
set_option maxRecDepth 100000 in
theorem C_Na_init (l : Launch) (G : GG) (v0 : Option Nat) (v1 : Option Nat) (v2 : Int32) (v3 : Int32) (μ μ' : Mem) (r : Unit) (h : S_Na_init v0 v1 v2 v3 μ = some (r, μ')) : CT l G y_Na_init prog_7_method_1_code 4 none 1 0 0 60 μ [vR v0, vR v1, vI v2, vI v3] none μ' := by
  refine wm_met (lv := [(0, vR v0), (1, vR v1), (2, vI v2), (3, vI v3)]) (by decide +kernel) (Nat.le_of_ble_eq_true rfl) rfl (fun X E hQ hR hI => ?_)
  have h : (b1 (rc μ v0 6) (fun _ => b1 (pV μ v0 6 0 (vR v1)) (fun m6 => b1 (pV m6 v0 6 1 (vI v2)) (fun m11 => b1 (pV m11 v0 6 2 (vI v3)) (fun m16 => some ((), m16)))))) = some (r, μ') := h
  refine wm_aload_n E dNa_init_0 rfl (j := 0) rfl ?_
  obtain ⟨u1, hr1, h⟩ := b1S h
  refine wm_obj E hr1 oi_Na_1 (by rw [hR]; decide) (by rw [hR]; decide) rfl dNa_init_1 ?_
  refine wm_aload_n E dNa_init_4 rfl (j := 0) rfl ?_
  refine wm_aload_n E dNa_init_5 rfl (j := 1) rfl ?_
  refine wm_pR E fp_Na_7 (Or.inl ⟨_, rfl⟩) (fun _ => hI) h dNa_init_6 (fun m6 h => ?_)
  refine wm_aload_n E dNa_init_9 rfl (j := 0) rfl ?_
  refine wm_iload_n E dNa_init_10 rfl (j := 2) rfl ?_
  refine wm_pI E fp_Na_13 (fun _ => hI) h dNa_init_11 (fun m11 h => ?_)
  refine wm_aload_n E dNa_init_14 rfl (j := 0) rfl ?_
  refine wm_iload_n E dNa_init_15 rfl (j := 3) rfl ?_
  refine wm_pI E fp_Na_17 (fun _ => hI) h dNa_init_16 (fun m16 h => ?_)
  exact wm_vret E hQ rfl (rtM h) (by decide) (by decide) dNa_init_19
def B_Li_isWithin_21  (s0 : Int32) (μ : Mem) : Option (Int32 × Mem) := gd (¬ okZ s0 = true) (some (s0, μ))
set_option maxHeartbeats 4000000 in
set_option maxRecDepth 100000 in
theorem w_Li_isWithin_21 {X : CX} (E : EV X prog_6_method_2_code 3 "PlaceFinder$Link" (some .boolean)) {μ0 μ' : Mem} {r : Int32} (hQ : RQ X 0 0 μ0 (some (vI r)) μ') (hR : xR X = { frames := 0, cells := 0, slots := 0, locals := 0 }) (hI : X.2.2.2.2.2.2.2.2.2.2.2.1.name = "isWithin")  (s0 : Int32) (μ : Mem) (h : B_Li_isWithin_21  s0 μ = some (r, μ')) : WM X 3 21 [] [vI s0] 0 0 μ := by
  have h : (gd (¬ okZ s0 = true) (some (s0, μ))) = some (r, μ') := h
  obtain ⟨hz21, h⟩ := gdS h
  exact wm_zret (rt := .boolean) E hQ (rtI h) (rtM h) (okZN hz21) (by decide) (by decide) dLi_isWithin_21
def B_Li_isWithin_20   (μ : Mem) : Option (Int32 × Mem) := B_Li_isWithin_21 0 μ
set_option maxHeartbeats 4000000 in
set_option maxRecDepth 100000 in
theorem w_Li_isWithin_20 {X : CX} (E : EV X prog_6_method_2_code 3 "PlaceFinder$Link" (some .boolean)) {μ0 μ' : Mem} {r : Int32} (hQ : RQ X 0 0 μ0 (some (vI r)) μ') (hR : xR X = { frames := 0, cells := 0, slots := 0, locals := 0 }) (hI : X.2.2.2.2.2.2.2.2.2.2.2.1.name = "isWithin")   (μ : Mem) (h : B_Li_isWithin_20   μ = some (r, μ')) : WM X 3 20 [] [] 0 0 μ := by
  have h : (B_Li_isWithin_21 0 μ) = some (r, μ') := h
  refine wm_iconst (x := 0) E dLi_isWithin_20 (by decide) ?_
  refine wm_pick (lv' := []) [] rfl ?_
  exact w_Li_isWithin_21 E hQ hR hI 0 μ h
def S_Li_isWithin (v0 : Option Nat) (v1 : Int32) (v2 : Int32) (μ : Mem) : Option (Int32 × Mem) := b1 (gI μ v0 5 1) (fun x1 => if v2 < x1 then B_Li_isWithin_20 μ else b1 (gI μ v0 5 2) (fun x10 => if x10 < v1 then B_Li_isWithin_20 μ else B_Li_isWithin_21 1 μ))
set_option maxHeartbeats 4000000 in
set_option maxRecDepth 100000 in
theorem C_Li_isWithin (l : Launch) (G : GG) (v0 : Option Nat) (v1 : Int32) (v2 : Int32) (μ μ' : Mem) (r : Int32) (h : S_Li_isWithin v0 v1 v2 μ = some (r, μ')) : CT l G y_Li_isWithin prog_6_method_2_code 3 (some .boolean) 0 0 0 0 μ [vR v0, vI v1, vI v2] (some (vI r)) μ' := by
  refine wm_met (lv := [(0, vR v0), (1, vI v1), (2, vI v2)]) (by decide +kernel) (Nat.le_of_ble_eq_true rfl) rfl (fun X E hQ hR hI => ?_)
  have h : (b1 (gI μ v0 5 1) (fun x1 => if v2 < x1 then B_Li_isWithin_20 μ else b1 (gI μ v0 5 2) (fun x10 => if x10 < v1 then B_Li_isWithin_20 μ else B_Li_isWithin_21 1 μ))) = some (r, μ') := h
  refine wm_aload_n E dLi_isWithin_0 rfl (j := 0) rfl ?_
  refine wm_gI E fd_Li_13 h dLi_isWithin_1 (fun x1 h => ?_)
  refine wm_iload_n E dLi_isWithin_4 rfl (j := 2) rfl ?_
  refine wm_icmp_gt (tgt := 20) E dLi_isWithin_5 (by decide) (fun c5 => ?_) (fun c5 => ?_)
  · have h := (if_pos c5).symm.trans h
    refine wm_pick (lv' := []) [] rfl ?_
    exact w_Li_isWithin_20 E hQ hR hI μ h
  · have h := (if_neg c5).symm.trans h
    refine wm_iload_n E dLi_isWithin_8 rfl (j := 1) rfl ?_
    refine wm_aload_n E dLi_isWithin_9 rfl (j := 0) rfl ?_
    refine wm_gI E fd_Li_17 h dLi_isWithin_10 (fun x10 h => ?_)
    refine wm_icmp_gt (tgt := 20) E dLi_isWithin_13 (by decide) (fun c13 => ?_) (fun c13 => ?_)
    · have h := (if_pos c13).symm.trans h
      refine wm_pick (lv' := []) [] rfl ?_
      exact w_Li_isWithin_20 E hQ hR hI μ h
    · have h := (if_neg c13).symm.trans h
      refine wm_iconst (x := 1) E dLi_isWithin_16 (by decide) ?_
      refine wm_goto (tgt := 21) E dLi_isWithin_17 (by decide) ?_
      refine wm_pick (lv' := []) [] rfl ?_
      exact w_Li_isWithin_21 E hQ hR hI 1 μ h
def B_Pl_isLinkedWithin_2  : Nat → Option Nat → Int32 → Int32 → Int32 → Mem → Option (Int32 × Mem)
  | 0, _, _, _, _, _ => none
  | n + 1, v0, v1, v2, v3, μ => b1 (gR μ v0 7 6) (fun x4 => b1 (rc μ x4 0) (fun _ => b2 (S_Al_size x4 μ) (fun x7 m7 => if x7 ≤ v3 then gd (¬ okZ 0 = true) (some (0, m7)) else b1 (gR m7 v0 7 6) (fun x14 => b1 (rc m7 x14 0) (fun _ => b2 (S_Al_get x14 v3 m7) (fun x18 m18 => b1 (cK m18 x18 5) (fun _ => b1 (rc m18 x18 5) (fun _ => b2 (S_Li_isWithin x18 v1 v2 m18) (fun x26 m26 => if x26 = 0 then (fun v0 v1 v2 v3 μ => B_Pl_isLinkedWithin_2 n v0 v1 v2 v3 μ) v0 v1 v2 (v3 + 1) m26 else gd (¬ okZ 1 = true) (some (1, m26)))))))))))
set_option maxHeartbeats 4000000 in
set_option maxRecDepth 100000 in
theorem w_Pl_isLinkedWithin_2 {X : CX} (E : EV X prog_8_method_8_code 4 "PlaceFinder$Place" (some .boolean)) {μ0 μ' : Mem} {r : Int32} (hQ : RQ X 0 0 μ0 (some (vI r)) μ') (hR : xR X = { frames := 3, cells := 0, slots := 0, locals := 64 }) (hI : X.2.2.2.2.2.2.2.2.2.2.2.1.name = "isLinkedWithin")  (n : Nat) : ∀ (v0 : Option Nat) (v1 : Int32) (v2 : Int32) (v3 : Int32) (μ : Mem) (h : B_Pl_isLinkedWithin_2  n v0 v1 v2 v3 μ = some (r, μ')), WM X 4 2 [(0, vR v0), (1, vI v1), (2, vI v2), (3, vI v3)] [] 0 0 μ := by
  induction n with
  | zero => intro v0 v1 v2 v3 μ h; cases h
  | succ n ih =>
    intro v0 v1 v2 v3 μ h
    have h : (b1 (gR μ v0 7 6) (fun x4 => b1 (rc μ x4 0) (fun _ => b2 (S_Al_size x4 μ) (fun x7 m7 => if x7 ≤ v3 then gd (¬ okZ 0 = true) (some (0, m7)) else b1 (gR m7 v0 7 6) (fun x14 => b1 (rc m7 x14 0) (fun _ => b2 (S_Al_get x14 v3 m7) (fun x18 m18 => b1 (cK m18 x18 5) (fun _ => b1 (rc m18 x18 5) (fun _ => b2 (S_Li_isWithin x18 v1 v2 m18) (fun x26 m26 => if x26 = 0 then (fun v0 v1 v2 v3 μ => B_Pl_isLinkedWithin_2 n v0 v1 v2 v3 μ) v0 v1 v2 (v3 + 1) m26 else gd (¬ okZ 1 = true) (some (1, m26)))))))))))) = some (r, μ') := h
    refine wm_iload_n E dPl_isLinkedWithin_2 rfl (j := 3) rfl ?_
    refine wm_aload_n E dPl_isLinkedWithin_3 rfl (j := 0) rfl ?_
    refine wm_gR E fd_Pl_29 h dPl_isLinkedWithin_4 (fun x4 h => ?_)
    obtain ⟨u7, hr7, h⟩ := b1S h
    obtain ⟨x7, m7, hc7, h⟩ := b2S h
    refine wm_cV (ci := 0) (As := []) (st := [vI v3]) E lk_Pl_38 rfl im_Al_size sl_Al_size hr7 (C_Al_size (xl X) X.1 x4 μ _ _ hc7) rfl rfl (by rw [hR]; decide) (by rw [hR]; decide) (Nat.le_of_ble_eq_true rfl) dPl_isLinkedWithin_7 ?_
    refine wm_icmp_ge (tgt := 40) E dPl_isLinkedWithin_10 (by decide) (fun c10 => ?_) (fun c10 => ?_)
    · have h := (if_pos c10).symm.trans h
      refine wm_iconst (x := 0) E dPl_isLinkedWithin_40 (by decide) ?_
      obtain ⟨hz41, h⟩ := gdS h
      exact wm_zret (rt := .boolean) E hQ (rtI h) (rtM h) (okZN hz41) (by decide) (by decide) dPl_isLinkedWithin_41
    · have h := (if_neg c10).symm.trans h
      refine wm_aload_n E dPl_isLinkedWithin_13 rfl (j := 0) rfl ?_
      refine wm_gR E fd_Pl_29 h dPl_isLinkedWithin_14 (fun x14 h => ?_)
      refine wm_iload_n E dPl_isLinkedWithin_17 rfl (j := 3) rfl ?_
      obtain ⟨u18, hr18, h⟩ := b1S h
      obtain ⟨x18, m18, hc18, h⟩ := b2S h
      refine wm_cV (ci := 0) (As := [vI v3]) (st := []) E lk_Pl_46 rfl im_Al_get sl_Al_get hr18 (C_Al_get (xl X) X.1 x14 v3 m7 _ _ hc18) rfl rfl (by rw [hR]; decide) (by rw [hR]; decide) (Nat.le_of_ble_eq_true rfl) dPl_isLinkedWithin_18 ?_
      refine wm_ckc (ci := 5) E rfl cl_Pl_65 h dPl_isLinkedWithin_21 (fun h => ?_)
      refine wm_iload_n E dPl_isLinkedWithin_24 rfl (j := 1) rfl ?_
      refine wm_iload_n E dPl_isLinkedWithin_25 rfl (j := 2) rfl ?_
      obtain ⟨u26, hr26, h⟩ := b1S h
      obtain ⟨x26, m26, hc26, h⟩ := b2S h
      refine wm_cV (ci := 5) (As := [vI v1, vI v2]) (st := []) E lk_Pl_67 rfl im_Li_isWithin sl_Li_isWithin hr26 (C_Li_isWithin (xl X) X.1 x18 v1 v2 m18 _ _ hc26) rfl rfl (by rw [hR]; decide) (by rw [hR]; decide) (Nat.le_of_ble_eq_true rfl) dPl_isLinkedWithin_26 ?_
      refine wm_if_eq (tgt := 34) E dPl_isLinkedWithin_29 (by decide) (fun c29 => ?_) (fun c29 => ?_)
      · have h := (if_pos c29).symm.trans h
        refine wm_iinc (lv' := [(3, vI (v3 + 1)), (0, vR v0), (1, vI v1), (2, vI v2)]) (d := 1) E dPl_isLinkedWithin_34 (by decide) (j := 3) rfl (by decide) rfl ?_
        refine wm_goto (tgt := 2) E dPl_isLinkedWithin_37 (by decide) ?_
        refine wm_pick (lv' := [(0, vR v0), (1, vI v1), (2, vI v2), (3, vI (v3 + 1))]) [1, 2, 3, 0] rfl ?_
        exact ih v0 v1 v2 (v3 + 1) m26 h
      · have h := (if_neg c29).symm.trans h
        refine wm_iconst (x := 1) E dPl_isLinkedWithin_32 (by decide) ?_
        obtain ⟨hz33, h⟩ := gdS h
        exact wm_zret (rt := .boolean) E hQ (rtI h) (rtM h) (okZN hz33) (by decide) (by decide) dPl_isLinkedWithin_33
def S_Pl_isLinkedWithin (v0 : Option Nat) (v1 : Int32) (v2 : Int32) (μ : Mem) : Option (Int32 × Mem) := B_Pl_isLinkedWithin_2 fu v0 v1 v2 0 μ
set_option maxHeartbeats 4000000 in
set_option maxRecDepth 100000 in
theorem C_Pl_isLinkedWithin (l : Launch) (G : GG) (v0 : Option Nat) (v1 : Int32) (v2 : Int32) (μ μ' : Mem) (r : Int32) (h : S_Pl_isLinkedWithin v0 v1 v2 μ = some (r, μ')) : CT l G y_Pl_isLinkedWithin prog_8_method_8_code 4 (some .boolean) 3 0 0 64 μ [vR v0, vI v1, vI v2] (some (vI r)) μ' := by
  refine wm_met (lv := [(0, vR v0), (1, vI v1), (2, vI v2)]) (by decide +kernel) (Nat.le_of_ble_eq_true rfl) rfl (fun X E hQ hR hI => ?_)
  have h : (B_Pl_isLinkedWithin_2 fu v0 v1 v2 0 μ) = some (r, μ') := h
  refine wm_iconst (x := 0) E dPl_isLinkedWithin_0 (by decide) ?_
  refine wm_istore_n (lv' := [(3, vI 0), (0, vR v0), (1, vI v1), (2, vI v2)]) E dPl_isLinkedWithin_1 rfl (by decide) rfl ?_
  refine wm_pick (lv' := [(0, vR v0), (1, vI v1), (2, vI v2), (3, vI 0)]) [1, 2, 3, 0] rfl ?_
  exact w_Pl_isLinkedWithin_2 E hQ hR hI fu v0 v1 v2 0 μ h
def S_Li_init (v0 : Option Nat) (v1 : Option Nat) (v2 : Int32) (v3 : Int32) (μ : Mem) : Option (Unit × Mem) := b1 (rc μ v0 5) (fun _ => b1 (pV μ v0 5 0 (vR v1)) (fun m6 => b1 (pV m6 v0 5 1 (vI v2)) (fun m11 => b1 (pV m11 v0 5 2 (vI v3)) (fun m16 => some ((), m16)))))
set_option maxHeartbeats 4000000 in
set_option maxRecDepth 100000 in
theorem C_Li_init (l : Launch) (G : GG) (v0 : Option Nat) (v1 : Option Nat) (v2 : Int32) (v3 : Int32) (μ μ' : Mem) (r : Unit) (h : S_Li_init v0 v1 v2 v3 μ = some (r, μ')) : CT l G y_Li_init prog_6_method_1_code 4 none 1 0 0 60 μ [vR v0, vR v1, vI v2, vI v3] none μ' := by
  refine wm_met (lv := [(0, vR v0), (1, vR v1), (2, vI v2), (3, vI v3)]) (by decide +kernel) (Nat.le_of_ble_eq_true rfl) rfl (fun X E hQ hR hI => ?_)
  have h : (b1 (rc μ v0 5) (fun _ => b1 (pV μ v0 5 0 (vR v1)) (fun m6 => b1 (pV m6 v0 5 1 (vI v2)) (fun m11 => b1 (pV m11 v0 5 2 (vI v3)) (fun m16 => some ((), m16)))))) = some (r, μ') := h
  refine wm_aload_n E dLi_init_0 rfl (j := 0) rfl ?_
  obtain ⟨u1, hr1, h⟩ := b1S h
  refine wm_obj E hr1 oi_Li_1 (by rw [hR]; decide) (by rw [hR]; decide) rfl dLi_init_1 ?_
  refine wm_aload_n E dLi_init_4 rfl (j := 0) rfl ?_
  refine wm_aload_n E dLi_init_5 rfl (j := 1) rfl ?_
  refine wm_pR E fp_Li_7 (Or.inl ⟨_, rfl⟩) (fun _ => hI) h dLi_init_6 (fun m6 h => ?_)
  refine wm_aload_n E dLi_init_9 rfl (j := 0) rfl ?_
  refine wm_iload_n E dLi_init_10 rfl (j := 2) rfl ?_
  refine wm_pI E fp_Li_13 (fun _ => hI) h dLi_init_11 (fun m11 h => ?_)
  refine wm_aload_n E dLi_init_14 rfl (j := 0) rfl ?_
  refine wm_iload_n E dLi_init_15 rfl (j := 3) rfl ?_
  refine wm_pI E fp_Li_17 (fun _ => hI) h dLi_init_16 (fun m16 h => ?_)
  exact wm_vret E hQ rfl (rtM h) (by decide) (by decide) dLi_init_19
def B_Pl_isRemovedOn_13  (s0 : Int32) (μ : Mem) : Option (Int32 × Mem) := gd (¬ okZ s0 = true) (some (s0, μ))
set_option maxHeartbeats 4000000 in
set_option maxRecDepth 100000 in
theorem w_Pl_isRemovedOn_13 {X : CX} (E : EV X prog_8_method_5_code 2 "PlaceFinder$Place" (some .boolean)) {μ0 μ' : Mem} {r : Int32} (hQ : RQ X 0 0 μ0 (some (vI r)) μ') (hR : xR X = { frames := 0, cells := 0, slots := 0, locals := 0 }) (hI : X.2.2.2.2.2.2.2.2.2.2.2.1.name = "isRemovedOn")  (s0 : Int32) (μ : Mem) (h : B_Pl_isRemovedOn_13  s0 μ = some (r, μ')) : WM X 2 13 [] [vI s0] 0 0 μ := by
  have h : (gd (¬ okZ s0 = true) (some (s0, μ))) = some (r, μ') := h
  obtain ⟨hz13, h⟩ := gdS h
  exact wm_zret (rt := .boolean) E hQ (rtI h) (rtM h) (okZN hz13) (by decide) (by decide) dPl_isRemovedOn_13
def S_Pl_isRemovedOn (v0 : Option Nat) (v1 : Int32) (μ : Mem) : Option (Int32 × Mem) := b1 (gI μ v0 7 2) (fun x1 => if v1 < x1 then B_Pl_isRemovedOn_13 0 μ else B_Pl_isRemovedOn_13 1 μ)
set_option maxHeartbeats 4000000 in
set_option maxRecDepth 100000 in
theorem C_Pl_isRemovedOn (l : Launch) (G : GG) (v0 : Option Nat) (v1 : Int32) (μ μ' : Mem) (r : Int32) (h : S_Pl_isRemovedOn v0 v1 μ = some (r, μ')) : CT l G y_Pl_isRemovedOn prog_8_method_5_code 2 (some .boolean) 0 0 0 0 μ [vR v0, vI v1] (some (vI r)) μ' := by
  refine wm_met (lv := [(0, vR v0), (1, vI v1)]) (by decide +kernel) (Nat.le_of_ble_eq_true rfl) rfl (fun X E hQ hR hI => ?_)
  have h : (b1 (gI μ v0 7 2) (fun x1 => if v1 < x1 then B_Pl_isRemovedOn_13 0 μ else B_Pl_isRemovedOn_13 1 μ)) = some (r, μ') := h
  refine wm_aload_n E dPl_isRemovedOn_0 rfl (j := 0) rfl ?_
  refine wm_gI E fd_Pl_9 h dPl_isRemovedOn_1 (fun x1 h => ?_)
  refine wm_iload_n E dPl_isRemovedOn_4 rfl (j := 1) rfl ?_
  refine wm_icmp_gt (tgt := 12) E dPl_isRemovedOn_5 (by decide) (fun c5 => ?_) (fun c5 => ?_)
  · have h := (if_pos c5).symm.trans h
    refine wm_iconst (x := 0) E dPl_isRemovedOn_12 (by decide) ?_
    refine wm_pick (lv' := []) [] rfl ?_
    exact w_Pl_isRemovedOn_13 E hQ hR hI 0 μ h
  · have h := (if_neg c5).symm.trans h
    refine wm_iconst (x := 1) E dPl_isRemovedOn_8 (by decide) ?_
    refine wm_goto (tgt := 13) E dPl_isRemovedOn_9 (by decide) ?_
    refine wm_pick (lv' := []) [] rfl ?_
    exact w_Pl_isRemovedOn_13 E hQ hR hI 1 μ h
def B_P_isDistance_16  (s0 : Int32) (μ : Mem) : Option (Int32 × Mem) := gd (¬ okZ s0 = true) (some (s0, μ))
set_option maxHeartbeats 4000000 in
set_option maxRecDepth 100000 in
theorem w_P_isDistance_16 {X : CX} (E : EV X prog_1_method_26_code 1 "PlaceFinder" (some .boolean)) {μ0 μ' : Mem} {r : Int32} (hQ : RQ X 0 0 μ0 (some (vI r)) μ') (hR : xR X = { frames := 0, cells := 0, slots := 0, locals := 0 }) (hI : X.2.2.2.2.2.2.2.2.2.2.2.1.name = "isDistance")  (s0 : Int32) (μ : Mem) (h : B_P_isDistance_16  s0 μ = some (r, μ')) : WM X 1 16 [] [vI s0] 0 0 μ := by
  have h : (gd (¬ okZ s0 = true) (some (s0, μ))) = some (r, μ') := h
  obtain ⟨hz16, h⟩ := gdS h
  exact wm_zret (rt := .boolean) E hQ (rtI h) (rtM h) (okZN hz16) (by decide) (by decide) dP_isDistance_16
def B_P_isDistance_15   (μ : Mem) : Option (Int32 × Mem) := B_P_isDistance_16 0 μ
set_option maxHeartbeats 4000000 in
set_option maxRecDepth 100000 in
theorem w_P_isDistance_15 {X : CX} (E : EV X prog_1_method_26_code 1 "PlaceFinder" (some .boolean)) {μ0 μ' : Mem} {r : Int32} (hQ : RQ X 0 0 μ0 (some (vI r)) μ') (hR : xR X = { frames := 0, cells := 0, slots := 0, locals := 0 }) (hI : X.2.2.2.2.2.2.2.2.2.2.2.1.name = "isDistance")   (μ : Mem) (h : B_P_isDistance_15   μ = some (r, μ')) : WM X 1 15 [] [] 0 0 μ := by
  have h : (B_P_isDistance_16 0 μ) = some (r, μ') := h
  refine wm_iconst (x := 0) E dP_isDistance_15 (by decide) ?_
  refine wm_pick (lv' := []) [] rfl ?_
  exact w_P_isDistance_16 E hQ hR hI 0 μ h
def S_P_isDistance (v0 : Int32) (μ : Mem) : Option (Int32 × Mem) := if v0 < 0 then B_P_isDistance_15 μ else if 10000 < v0 then B_P_isDistance_15 μ else B_P_isDistance_16 1 μ
set_option maxHeartbeats 4000000 in
set_option maxRecDepth 100000 in
theorem C_P_isDistance (l : Launch) (G : GG) (v0 : Int32) (μ μ' : Mem) (r : Int32) (h : S_P_isDistance v0 μ = some (r, μ')) : CT l G y_P_isDistance prog_1_method_26_code 1 (some .boolean) 0 0 0 0 μ [vI v0] (some (vI r)) μ' := by
  refine wm_met (lv := [(0, vI v0)]) (by decide +kernel) (Nat.le_of_ble_eq_true rfl) rfl (fun X E hQ hR hI => ?_)
  have h : (if v0 < 0 then B_P_isDistance_15 μ else if 10000 < v0 then B_P_isDistance_15 μ else B_P_isDistance_16 1 μ) = some (r, μ') := h
  refine wm_iload_n E dP_isDistance_0 rfl (j := 0) rfl ?_
  refine wm_if_lt (tgt := 15) E dP_isDistance_1 (by decide) (fun c1 => ?_) (fun c1 => ?_)
  · have h := (if_pos c1).symm.trans h
    refine wm_pick (lv' := []) [] rfl ?_
    exact w_P_isDistance_15 E hQ hR hI μ h
  · have h := (if_neg c1).symm.trans h
    refine wm_iload_n E dP_isDistance_4 rfl (j := 0) rfl ?_
    refine wm_sipush (x := 10000) E dP_isDistance_5 (by decide) ?_
    refine wm_icmp_gt (tgt := 15) E dP_isDistance_8 (by decide) (fun c8 => ?_) (fun c8 => ?_)
    · have h := (if_pos c8).symm.trans h
      refine wm_pick (lv' := []) [] rfl ?_
      exact w_P_isDistance_15 E hQ hR hI μ h
    · have h := (if_neg c8).symm.trans h
      refine wm_iconst (x := 1) E dP_isDistance_11 (by decide) ?_
      refine wm_goto (tgt := 16) E dP_isDistance_12 (by decide) ?_
      refine wm_pick (lv' := []) [] rfl ?_
      exact w_P_isDistance_16 E hQ hR hI 1 μ h
def B_P_areCondition_52   (μ : Mem) : Option (Int32 × Mem) := gd (¬ okZ 1 = true) (some (1, μ))
set_option maxHeartbeats 4000000 in
set_option maxRecDepth 100000 in
theorem w_P_areCondition_52 {X : CX} (E : EV X prog_1_method_27_code 5 "PlaceFinder" (some .boolean)) {μ0 μ' : Mem} {r : Int32} (hQ : RQ X 0 0 μ0 (some (vI r)) μ') (hR : xR X = { frames := 4, cells := 0, slots := 0, locals := 85 }) (hI : X.2.2.2.2.2.2.2.2.2.2.2.1.name = "areCondition")   (μ : Mem) (h : B_P_areCondition_52   μ = some (r, μ')) : WM X 5 52 [] [] 0 0 μ := by
  have h : (gd (¬ okZ 1 = true) (some (1, μ))) = some (r, μ') := h
  refine wm_iconst (x := 1) E dP_areCondition_52 (by decide) ?_
  obtain ⟨hz53, h⟩ := gdS h
  exact wm_zret (rt := .boolean) E hQ (rtI h) (rtM h) (okZN hz53) (by decide) (by decide) dP_areCondition_53
def B_P_areCondition_68  (s0 : Int32) (μ : Mem) : Option (Int32 × Mem) := gd (¬ okZ s0 = true) (some (s0, μ))
set_option maxHeartbeats 4000000 in
set_option maxRecDepth 100000 in
theorem w_P_areCondition_68 {X : CX} (E : EV X prog_1_method_27_code 5 "PlaceFinder" (some .boolean)) {μ0 μ' : Mem} {r : Int32} (hQ : RQ X 0 0 μ0 (some (vI r)) μ') (hR : xR X = { frames := 4, cells := 0, slots := 0, locals := 85 }) (hI : X.2.2.2.2.2.2.2.2.2.2.2.1.name = "areCondition")  (s0 : Int32) (μ : Mem) (h : B_P_areCondition_68  s0 μ = some (r, μ')) : WM X 5 68 [] [vI s0] 0 0 μ := by
  have h : (gd (¬ okZ s0 = true) (some (s0, μ))) = some (r, μ') := h
  obtain ⟨hz68, h⟩ := gdS h
  exact wm_zret (rt := .boolean) E hQ (rtI h) (rtM h) (okZN hz68) (by decide) (by decide) dP_areCondition_68
def B_P_areCondition_67   (μ : Mem) : Option (Int32 × Mem) := B_P_areCondition_68 0 μ
set_option maxHeartbeats 4000000 in
set_option maxRecDepth 100000 in
theorem w_P_areCondition_67 {X : CX} (E : EV X prog_1_method_27_code 5 "PlaceFinder" (some .boolean)) {μ0 μ' : Mem} {r : Int32} (hQ : RQ X 0 0 μ0 (some (vI r)) μ') (hR : xR X = { frames := 4, cells := 0, slots := 0, locals := 85 }) (hI : X.2.2.2.2.2.2.2.2.2.2.2.1.name = "areCondition")   (μ : Mem) (h : B_P_areCondition_67   μ = some (r, μ')) : WM X 5 67 [] [] 0 0 μ := by
  have h : (B_P_areCondition_68 0 μ) = some (r, μ') := h
  refine wm_iconst (x := 0) E dP_areCondition_67 (by decide) ?_
  refine wm_pick (lv' := []) [] rfl ?_
  exact w_P_areCondition_68 E hQ hR hI 0 μ h
def B_P_areCondition_87  (s0 : Int32) (μ : Mem) : Option (Int32 × Mem) := gd (¬ okZ s0 = true) (some (s0, μ))
set_option maxHeartbeats 4000000 in
set_option maxRecDepth 100000 in
theorem w_P_areCondition_87 {X : CX} (E : EV X prog_1_method_27_code 5 "PlaceFinder" (some .boolean)) {μ0 μ' : Mem} {r : Int32} (hQ : RQ X 0 0 μ0 (some (vI r)) μ') (hR : xR X = { frames := 4, cells := 0, slots := 0, locals := 85 }) (hI : X.2.2.2.2.2.2.2.2.2.2.2.1.name = "areCondition")  (s0 : Int32) (μ : Mem) (h : B_P_areCondition_87  s0 μ = some (r, μ')) : WM X 5 87 [] [vI s0] 0 0 μ := by
  have h : (gd (¬ okZ s0 = true) (some (s0, μ))) = some (r, μ') := h
  obtain ⟨hz87, h⟩ := gdS h
  exact wm_zret (rt := .boolean) E hQ (rtI h) (rtM h) (okZN hz87) (by decide) (by decide) dP_areCondition_87
def B_P_areCondition_74  (v0 : Option Nat) (v2 : Int32) (μ : Mem) : Option (Int32 × Mem) := b1 (rc μ v0 11) (fun _ => b2 (S_P_placeOf v0 v2 μ) (fun x76 m76 => if x76 = none then B_P_areCondition_87 0 m76 else B_P_areCondition_87 1 m76))
set_option maxHeartbeats 4000000 in
set_option maxRecDepth 100000 in
theorem w_P_areCondition_74 {X : CX} (E : EV X prog_1_method_27_code 5 "PlaceFinder" (some .boolean)) {μ0 μ' : Mem} {r : Int32} (hQ : RQ X 0 0 μ0 (some (vI r)) μ') (hR : xR X = { frames := 4, cells := 0, slots := 0, locals := 85 }) (hI : X.2.2.2.2.2.2.2.2.2.2.2.1.name = "areCondition")  (v0 : Option Nat) (v2 : Int32) (μ : Mem) (h : B_P_areCondition_74  v0 v2 μ = some (r, μ')) : WM X 5 74 [(0, vR v0), (2, vI v2)] [] 0 0 μ := by
  have h : (b1 (rc μ v0 11) (fun _ => b2 (S_P_placeOf v0 v2 μ) (fun x76 m76 => if x76 = none then B_P_areCondition_87 0 m76 else B_P_areCondition_87 1 m76))) = some (r, μ') := h
  refine wm_aload_n E dP_areCondition_74 rfl (j := 0) rfl ?_
  refine wm_iload_n E dP_areCondition_75 rfl (j := 1) rfl ?_
  obtain ⟨u76, hr76, h⟩ := b1S h
  obtain ⟨x76, m76, hc76, h⟩ := b2S h
  refine wm_cV (ci := 11) (As := [vI v2]) (st := []) E lk_P_124 rfl im_P_placeOf sl_P_placeOf hr76 (C_P_placeOf (xl X) X.1 v0 v2 μ _ _ hc76) rfl rfl (by rw [hR]; decide) (by rw [hR]; decide) (Nat.le_of_ble_eq_true rfl) dP_areCondition_76 ?_
  refine wm_ifnull (tgt := 86) E dP_areCondition_79 (by decide) (fun c79 => ?_) (fun c79 => ?_)
  · have h := (if_pos c79).symm.trans h
    refine wm_iconst (x := 0) E dP_areCondition_86 (by decide) ?_
    refine wm_pick (lv' := []) [] rfl ?_
    exact w_P_areCondition_87 E hQ hR hI 0 m76 h
  · have h := (if_neg c79).symm.trans h
    refine wm_iconst (x := 1) E dP_areCondition_82 (by decide) ?_
    refine wm_goto (tgt := 87) E dP_areCondition_83 (by decide) ?_
    refine wm_pick (lv' := []) [] rfl ?_
    exact w_P_areCondition_87 E hQ hR hI 1 m76 h
def B_P_areCondition_109  (s0 : Int32) (μ : Mem) : Option (Int32 × Mem) := gd (¬ okZ s0 = true) (some (s0, μ))
set_option maxHeartbeats 4000000 in
set_option maxRecDepth 100000 in
theorem w_P_areCondition_109 {X : CX} (E : EV X prog_1_method_27_code 5 "PlaceFinder" (some .boolean)) {μ0 μ' : Mem} {r : Int32} (hQ : RQ X 0 0 μ0 (some (vI r)) μ') (hR : xR X = { frames := 4, cells := 0, slots := 0, locals := 85 }) (hI : X.2.2.2.2.2.2.2.2.2.2.2.1.name = "areCondition")  (s0 : Int32) (μ : Mem) (h : B_P_areCondition_109  s0 μ = some (r, μ')) : WM X 5 109 [] [vI s0] 0 0 μ := by
  have h : (gd (¬ okZ s0 = true) (some (s0, μ))) = some (r, μ') := h
  obtain ⟨hz109, h⟩ := gdS h
  exact wm_zret (rt := .boolean) E hQ (rtI h) (rtM h) (okZN hz109) (by decide) (by decide) dP_areCondition_109
def B_P_areCondition_108   (μ : Mem) : Option (Int32 × Mem) := B_P_areCondition_109 0 μ
set_option maxHeartbeats 4000000 in
set_option maxRecDepth 100000 in
theorem w_P_areCondition_108 {X : CX} (E : EV X prog_1_method_27_code 5 "PlaceFinder" (some .boolean)) {μ0 μ' : Mem} {r : Int32} (hQ : RQ X 0 0 μ0 (some (vI r)) μ') (hR : xR X = { frames := 4, cells := 0, slots := 0, locals := 85 }) (hI : X.2.2.2.2.2.2.2.2.2.2.2.1.name = "areCondition")   (μ : Mem) (h : B_P_areCondition_108   μ = some (r, μ')) : WM X 5 108 [] [] 0 0 μ := by
  have h : (B_P_areCondition_109 0 μ) = some (r, μ') := h
  refine wm_iconst (x := 0) E dP_areCondition_108 (by decide) ?_
  refine wm_pick (lv' := []) [] rfl ?_
  exact w_P_areCondition_109 E hQ hR hI 0 μ h
def S_P_areCondition (v0 : Option Nat) (v1 : Int32) (v2 : Int32) (v3 : Int32) (v4 : Int32) (μ : Mem) : Option (Int32 × Mem) := if v1 = 0 then B_P_areCondition_52 μ else if v1 = 1 then B_P_areCondition_52 μ else if v1 = 2 then if v2 < 0 then B_P_areCondition_67 μ else if 2 < v2 then B_P_areCondition_67 μ else B_P_areCondition_68 1 μ else if v1 = 3 then B_P_areCondition_52 μ else if v1 = 4 then b2 (S_P_isKind v2 μ) (fun x70 m70 => gd (¬ okZ x70 = true) (some (x70, m70))) else if v1 = 5 then B_P_areCondition_74 v0 v2 μ else if v1 = 6 then B_P_areCondition_74 v0 v2 μ else if v1 = 7 then b2 (S_P_arePosition v2 v3 μ) (fun x90 m90 => if x90 = 0 then B_P_areCondition_108 m90 else b2 (S_P_isDistance v4 m90) (fun x98 m98 => if x98 = 0 then B_P_areCondition_108 m98 else B_P_areCondition_109 1 m98)) else if v1 = 8 then b2 (S_P_isDistance v2 μ) (fun x111 m111 => gd (¬ okZ x111 = true) (some (x111, m111))) else gd (¬ okZ 0 = true) (some (0, μ))
set_option maxHeartbeats 4000000 in
set_option maxRecDepth 100000 in
theorem C_P_areCondition (l : Launch) (G : GG) (v0 : Option Nat) (v1 : Int32) (v2 : Int32) (v3 : Int32) (v4 : Int32) (μ μ' : Mem) (r : Int32) (h : S_P_areCondition v0 v1 v2 v3 v4 μ = some (r, μ')) : CT l G y_P_areCondition prog_1_method_27_code 5 (some .boolean) 4 0 0 85 μ [vR v0, vI v1, vI v2, vI v3, vI v4] (some (vI r)) μ' := by
  refine wm_met (lv := [(0, vR v0), (1, vI v1), (2, vI v2), (3, vI v3), (4, vI v4)]) (by decide +kernel) (Nat.le_of_ble_eq_true rfl) rfl (fun X E hQ hR hI => ?_)
  have h : (if v1 = 0 then B_P_areCondition_52 μ else if v1 = 1 then B_P_areCondition_52 μ else if v1 = 2 then if v2 < 0 then B_P_areCondition_67 μ else if 2 < v2 then B_P_areCondition_67 μ else B_P_areCondition_68 1 μ else if v1 = 3 then B_P_areCondition_52 μ else if v1 = 4 then b2 (S_P_isKind v2 μ) (fun x70 m70 => gd (¬ okZ x70 = true) (some (x70, m70))) else if v1 = 5 then B_P_areCondition_74 v0 v2 μ else if v1 = 6 then B_P_areCondition_74 v0 v2 μ else if v1 = 7 then b2 (S_P_arePosition v2 v3 μ) (fun x90 m90 => if x90 = 0 then B_P_areCondition_108 m90 else b2 (S_P_isDistance v4 m90) (fun x98 m98 => if x98 = 0 then B_P_areCondition_108 m98 else B_P_areCondition_109 1 m98)) else if v1 = 8 then b2 (S_P_isDistance v2 μ) (fun x111 m111 => gd (¬ okZ x111 = true) (some (x111, m111))) else gd (¬ okZ 0 = true) (some (0, μ))) = some (r, μ') := h
  refine wm_iload_n E dP_areCondition_0 rfl (j := 1) rfl ?_
  by_cases c1_0 : v1 = 0
  · have h := (if_pos c1_0).symm.trans h
    refine wm_tabIn (tgt := 52) E dP_areCondition_1 (0) ((congrArg Int32.toInt c1_0).trans (by decide)) (by decide) (by decide) rfl (by decide) ?_
    refine wm_pick (lv' := []) [] rfl ?_
    exact w_P_areCondition_52 E hQ hR hI μ h
  · have h := (if_neg c1_0).symm.trans h
    by_cases c1_1 : v1 = 1
    · have h := (if_pos c1_1).symm.trans h
      refine wm_tabIn (tgt := 52) E dP_areCondition_1 (1) ((congrArg Int32.toInt c1_1).trans (by decide)) (by decide) (by decide) rfl (by decide) ?_
      refine wm_pick (lv' := []) [] rfl ?_
      exact w_P_areCondition_52 E hQ hR hI μ h
    · have h := (if_neg c1_1).symm.trans h
      by_cases c1_2 : v1 = 2
      · have h := (if_pos c1_2).symm.trans h
        refine wm_tabIn (tgt := 54) E dP_areCondition_1 (2) ((congrArg Int32.toInt c1_2).trans (by decide)) (by decide) (by decide) rfl (by decide) ?_
        refine wm_iload_n E dP_areCondition_54 rfl (j := 2) rfl ?_
        refine wm_if_lt (tgt := 67) E dP_areCondition_55 (by decide) (fun c55 => ?_) (fun c55 => ?_)
        · have h := (if_pos c55).symm.trans h
          refine wm_pick (lv' := []) [] rfl ?_
          exact w_P_areCondition_67 E hQ hR hI μ h
        · have h := (if_neg c55).symm.trans h
          refine wm_iload_n E dP_areCondition_58 rfl (j := 2) rfl ?_
          refine wm_iconst (x := 2) E dP_areCondition_59 (by decide) ?_
          refine wm_icmp_gt (tgt := 67) E dP_areCondition_60 (by decide) (fun c60 => ?_) (fun c60 => ?_)
          · have h := (if_pos c60).symm.trans h
            refine wm_pick (lv' := []) [] rfl ?_
            exact w_P_areCondition_67 E hQ hR hI μ h
          · have h := (if_neg c60).symm.trans h
            refine wm_iconst (x := 1) E dP_areCondition_63 (by decide) ?_
            refine wm_goto (tgt := 68) E dP_areCondition_64 (by decide) ?_
            refine wm_pick (lv' := []) [] rfl ?_
            exact w_P_areCondition_68 E hQ hR hI 1 μ h
      · have h := (if_neg c1_2).symm.trans h
        by_cases c1_3 : v1 = 3
        · have h := (if_pos c1_3).symm.trans h
          refine wm_tabIn (tgt := 52) E dP_areCondition_1 (3) ((congrArg Int32.toInt c1_3).trans (by decide)) (by decide) (by decide) rfl (by decide) ?_
          refine wm_pick (lv' := []) [] rfl ?_
          exact w_P_areCondition_52 E hQ hR hI μ h
        · have h := (if_neg c1_3).symm.trans h
          by_cases c1_4 : v1 = 4
          · have h := (if_pos c1_4).symm.trans h
            refine wm_tabIn (tgt := 69) E dP_areCondition_1 (4) ((congrArg Int32.toInt c1_4).trans (by decide)) (by decide) (by decide) rfl (by decide) ?_
            refine wm_iload_n E dP_areCondition_69 rfl (j := 2) rfl ?_
            obtain ⟨x70, m70, hc70, h⟩ := b2S h
            refine wm_cS (As := [vI v2]) (st := []) E lk_P_87 sc_P_isKind (C_P_isKind (xl X) X.1 v2 μ _ _ hc70) rfl rfl (by rw [hR]; decide) (by rw [hR]; decide) (Nat.le_of_ble_eq_true rfl) dP_areCondition_70 ?_
            obtain ⟨hz73, h⟩ := gdS h
            exact wm_zret (rt := .boolean) E hQ (rtI h) (rtM h) (okZN hz73) (by decide) (by decide) dP_areCondition_73
          · have h := (if_neg c1_4).symm.trans h
            by_cases c1_5 : v1 = 5
            · have h := (if_pos c1_5).symm.trans h
              refine wm_tabIn (tgt := 74) E dP_areCondition_1 (5) ((congrArg Int32.toInt c1_5).trans (by decide)) (by decide) (by decide) rfl (by decide) ?_
              refine wm_pick (lv' := [(0, vR v0), (2, vI v2)]) [0, 2] rfl ?_
              exact w_P_areCondition_74 E hQ hR hI v0 v2 μ h
            · have h := (if_neg c1_5).symm.trans h
              by_cases c1_6 : v1 = 6
              · have h := (if_pos c1_6).symm.trans h
                refine wm_tabIn (tgt := 74) E dP_areCondition_1 (6) ((congrArg Int32.toInt c1_6).trans (by decide)) (by decide) (by decide) rfl (by decide) ?_
                refine wm_pick (lv' := [(0, vR v0), (2, vI v2)]) [0, 2] rfl ?_
                exact w_P_areCondition_74 E hQ hR hI v0 v2 μ h
              · have h := (if_neg c1_6).symm.trans h
                by_cases c1_7 : v1 = 7
                · have h := (if_pos c1_7).symm.trans h
                  refine wm_tabIn (tgt := 88) E dP_areCondition_1 (7) ((congrArg Int32.toInt c1_7).trans (by decide)) (by decide) (by decide) rfl (by decide) ?_
                  refine wm_iload_n E dP_areCondition_88 rfl (j := 2) rfl ?_
                  refine wm_iload_n E dP_areCondition_89 rfl (j := 3) rfl ?_
                  obtain ⟨x90, m90, hc90, h⟩ := b2S h
                  refine wm_cS (As := [vI v2, vI v3]) (st := []) E lk_P_116 sc_P_arePosition (C_P_arePosition (xl X) X.1 v2 v3 μ _ _ hc90) rfl rfl (by rw [hR]; decide) (by rw [hR]; decide) (Nat.le_of_ble_eq_true rfl) dP_areCondition_90 ?_
                  refine wm_if_eq (tgt := 108) E dP_areCondition_93 (by decide) (fun c93 => ?_) (fun c93 => ?_)
                  · have h := (if_pos c93).symm.trans h
                    refine wm_pick (lv' := []) [] rfl ?_
                    exact w_P_areCondition_108 E hQ hR hI m90 h
                  · have h := (if_neg c93).symm.trans h
                    refine wm_iload E dP_areCondition_96 (j := 4) rfl ?_
                    obtain ⟨x98, m98, hc98, h⟩ := b2S h
                    refine wm_cS (As := [vI v4]) (st := []) E lk_P_326 sc_P_isDistance (C_P_isDistance (xl X) X.1 v4 m90 _ _ hc98) rfl rfl (by rw [hR]; decide) (by rw [hR]; decide) (Nat.le_of_ble_eq_true rfl) dP_areCondition_98 ?_
                    refine wm_if_eq (tgt := 108) E dP_areCondition_101 (by decide) (fun c101 => ?_) (fun c101 => ?_)
                    · have h := (if_pos c101).symm.trans h
                      refine wm_pick (lv' := []) [] rfl ?_
                      exact w_P_areCondition_108 E hQ hR hI m98 h
                    · have h := (if_neg c101).symm.trans h
                      refine wm_iconst (x := 1) E dP_areCondition_104 (by decide) ?_
                      refine wm_goto (tgt := 109) E dP_areCondition_105 (by decide) ?_
                      refine wm_pick (lv' := []) [] rfl ?_
                      exact w_P_areCondition_109 E hQ hR hI 1 m98 h
                · have h := (if_neg c1_7).symm.trans h
                  by_cases c1_8 : v1 = 8
                  · have h := (if_pos c1_8).symm.trans h
                    refine wm_tabIn (tgt := 110) E dP_areCondition_1 (8) ((congrArg Int32.toInt c1_8).trans (by decide)) (by decide) (by decide) rfl (by decide) ?_
                    refine wm_iload_n E dP_areCondition_110 rfl (j := 2) rfl ?_
                    obtain ⟨x111, m111, hc111, h⟩ := b2S h
                    refine wm_cS (As := [vI v2]) (st := []) E lk_P_326 sc_P_isDistance (C_P_isDistance (xl X) X.1 v2 μ _ _ hc111) rfl rfl (by rw [hR]; decide) (by rw [hR]; decide) (Nat.le_of_ble_eq_true rfl) dP_areCondition_111 ?_
                    obtain ⟨hz114, h⟩ := gdS h
                    exact wm_zret (rt := .boolean) E hQ (rtI h) (rtM h) (okZN hz114) (by decide) (by decide) dP_areCondition_114
                  · have h := (if_neg c1_8).symm.trans h
                    have e1_0 : v1.toInt ≠ 0 := fun q => c1_0 (Int32.toInt_inj.mp (q.trans (by decide)))
                    have e1_1 : v1.toInt ≠ 1 := fun q => c1_1 (Int32.toInt_inj.mp (q.trans (by decide)))
                    have e1_2 : v1.toInt ≠ 2 := fun q => c1_2 (Int32.toInt_inj.mp (q.trans (by decide)))
                    have e1_3 : v1.toInt ≠ 3 := fun q => c1_3 (Int32.toInt_inj.mp (q.trans (by decide)))
                    have e1_4 : v1.toInt ≠ 4 := fun q => c1_4 (Int32.toInt_inj.mp (q.trans (by decide)))
                    have e1_5 : v1.toInt ≠ 5 := fun q => c1_5 (Int32.toInt_inj.mp (q.trans (by decide)))
                    have e1_6 : v1.toInt ≠ 6 := fun q => c1_6 (Int32.toInt_inj.mp (q.trans (by decide)))
                    have e1_7 : v1.toInt ≠ 7 := fun q => c1_7 (Int32.toInt_inj.mp (q.trans (by decide)))
                    have e1_8 : v1.toInt ≠ 8 := fun q => c1_8 (Int32.toInt_inj.mp (q.trans (by decide)))
                    refine wm_tabOut (tgt := 115) E dP_areCondition_1 (by omega) (by decide) ?_
                    refine wm_iconst (x := 0) E dP_areCondition_115 (by decide) ?_
                    obtain ⟨hz116, h⟩ := gdS h
                    exact wm_zret (rt := .boolean) E hQ (rtI h) (rtM h) (okZN hz116) (by decide) (by decide) dP_areCondition_116
def B_Al_clear_27  : Nat → Option Nat → Int32 → Int32 → Mem → Option (Unit × Mem)
  | 0, _, _, _, _ => none
  | n + 1, v1, v2, v3, μ => if v2 ≤ v3 then some ((), μ) else b1 (sR μ v1 4 [] v3 none) (fun m35 => (fun v1 v2 v3 μ => B_Al_clear_27 n v1 v2 v3 μ) v1 v2 (v3 + 1) m35)
set_option maxHeartbeats 4000000 in
set_option maxRecDepth 100000 in
theorem w_Al_clear_27 {X : CX} (E : EV X prog_33_method_40_code 4 "java/util/ArrayList" none) {μ0 μ' : Mem} {r : Unit} (hQ : RQ X 0 0 μ0 none μ') (hR : xR X = { frames := 0, cells := 0, slots := 0, locals := 0 }) (hI : X.2.2.2.2.2.2.2.2.2.2.2.1.name = "clear")  (n : Nat) : ∀ (v1 : Option Nat) (v2 : Int32) (v3 : Int32) (μ : Mem) (h : B_Al_clear_27  n v1 v2 v3 μ = some (r, μ')), WM X 4 27 [(1, vR v1), (2, vI v2), (3, vI v3)] [] 0 0 μ := by
  induction n with
  | zero => intro v1 v2 v3 μ h; cases h
  | succ n ih =>
    intro v1 v2 v3 μ h
    have h : (if v2 ≤ v3 then some ((), μ) else b1 (sR μ v1 4 [] v3 none) (fun m35 => (fun v1 v2 v3 μ => B_Al_clear_27 n v1 v2 v3 μ) v1 v2 (v3 + 1) m35)) = some (r, μ') := h
    refine wm_iload_n E dAl_clear_27 rfl (j := 2) rfl ?_
    refine wm_iload_n E dAl_clear_28 rfl (j := 1) rfl ?_
    refine wm_icmp_ge (tgt := 42) E dAl_clear_29 (by decide) (fun c29 => ?_) (fun c29 => ?_)
    · have h := (if_pos c29).symm.trans h
      exact wm_vret E hQ rfl (rtM h) (by decide) (by decide) dAl_clear_42
    · have h := (if_neg c29).symm.trans h
      refine wm_aload_n E dAl_clear_32 rfl (j := 0) rfl ?_
      refine wm_iload_n E dAl_clear_33 rfl (j := 2) rfl ?_
      refine wm_null E dAl_clear_34 ?_
      refine wm_aast (t := 4) (cs := []) E rfl as_Al_clear_35 h dAl_clear_35 (fun m35 h => ?_)
      refine wm_iinc (lv' := [(3, vI (v3 + 1)), (1, vR v1), (2, vI v2)]) (d := 1) E dAl_clear_36 (by decide) (j := 2) rfl (by decide) rfl ?_
      refine wm_goto (tgt := 27) E dAl_clear_39 (by decide) ?_
      refine wm_pick (lv' := [(1, vR v1), (2, vI v2), (3, vI (v3 + 1))]) [1, 2, 0] rfl ?_
      exact ih v1 v2 (v3 + 1) m35 h
def S_Al_clear (v0 : Option Nat) (μ : Mem) : Option (Unit × Mem) := b1 (gI μ v0 0 2) (fun x2 => b1 (pV μ v0 0 2 (vI (x2 + 1))) (fun m7 => b1 (gR m7 v0 0 0) (fun x11 => b1 (gI m7 v0 0 1) (fun x16 => b1 (pV m7 v0 0 1 (vI 0)) (fun m23 => B_Al_clear_27 fu x11 x16 0 m23)))))
set_option maxHeartbeats 4000000 in
set_option maxRecDepth 100000 in
theorem C_Al_clear (l : Launch) (G : GG) (v0 : Option Nat) (μ μ' : Mem) (r : Unit) (h : S_Al_clear v0 μ = some (r, μ')) : CT l G y_Al_clear prog_33_method_40_code 4 none 0 0 0 0 μ [vR v0] none μ' := by
  refine wm_met (lv := [(0, vR v0)]) (by decide +kernel) (Nat.le_of_ble_eq_true rfl) rfl (fun X E hQ hR hI => ?_)
  have h : (b1 (gI μ v0 0 2) (fun x2 => b1 (pV μ v0 0 2 (vI (x2 + 1))) (fun m7 => b1 (gR m7 v0 0 0) (fun x11 => b1 (gI m7 v0 0 1) (fun x16 => b1 (pV m7 v0 0 1 (vI 0)) (fun m23 => B_Al_clear_27 fu x11 x16 0 m23)))))) = some (r, μ') := h
  refine wm_aload_n E dAl_clear_0 rfl (j := 0) rfl ?_
  refine wm_dup E dAl_clear_1 rfl ?_
  refine wm_gI E fd_Al_63 h dAl_clear_2 (fun x2 h => ?_)
  refine wm_iconst (x := 1) E dAl_clear_5 (by decide) ?_
  refine wm_iadd E dAl_clear_6 ?_
  refine wm_pI E fp_Al_63 (fun q => by cases q) h dAl_clear_7 (fun m7 h => ?_)
  refine wm_aload_n E dAl_clear_10 rfl (j := 0) rfl ?_
  refine wm_gR E fd_Al_9 h dAl_clear_11 (fun x11 h => ?_)
  refine wm_astore_n (lv' := [(1, vR x11), (0, vR v0)]) E dAl_clear_14 rfl (by decide) rfl ?_
  refine wm_aload_n E dAl_clear_15 rfl (j := 1) rfl ?_
  refine wm_gI E fd_Al_48 h dAl_clear_16 (fun x16 h => ?_)
  refine wm_istore_n (lv' := [(2, vI x16), (1, vR x11), (0, vR v0)]) E dAl_clear_19 rfl (by decide) rfl ?_
  refine wm_aload_n E dAl_clear_20 rfl (j := 2) rfl ?_
  refine wm_iconst (x := 0) E dAl_clear_21 (by decide) ?_
  refine wm_dup_x1 E dAl_clear_22 rfl rfl ?_
  refine wm_pI E fp_Al_48 (fun q => by cases q) h dAl_clear_23 (fun m23 h => ?_)
  refine wm_istore_n (lv' := [(3, vI 0), (2, vI x16), (1, vR x11), (0, vR v0)]) E dAl_clear_26 rfl (by decide) rfl ?_
  refine wm_pick (lv' := [(1, vR x11), (2, vI x16), (3, vI 0)]) [2, 1, 0] rfl ?_
  exact w_Al_clear_27 E hQ hR hI fu x11 x16 0 m23 h
