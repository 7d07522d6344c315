def B_P_arePosition_27 (μ : Mem)   (s0 : Int32) : Option Int32 := gd (¬ okZ s0 = true) (some (s0))
set_option maxHeartbeats 4000000 in
set_option maxRecDepth 100000 in
theorem w_P_arePosition_27 {X : CX} (E : EV X prog_1_method_25_code 2 "PlaceFinder" (some .boolean)) {μ0 μ : Mem} {r : Int32} (hQ : RQ X 0 0 μ0 (some (vI r)) μ) (hR : xR X = { frames := 0, cells := 0, slots := 0, locals := 0 }) (hI : X.2.2.2.2.2.2.2.2.2.2.2.1.name = "arePosition")  (s0 : Int32) (h : B_P_arePosition_27 μ  s0 = some r) : WM X 2 27 [] [vI s0] 0 0 μ := by
  have h : (gd (¬ okZ s0 = true) (some (s0))) = some r := h
  obtain ⟨hz27, h⟩ := gdS h
  exact wm_zret (rt := .boolean) E hQ (rqI1 h) rfl (okZN hz27) (by decide) (by decide) dP_arePosition_27
def B_P_arePosition_26 (μ : Mem)    : Option Int32 := B_P_arePosition_27 μ 0
set_option maxHeartbeats 4000000 in
set_option maxRecDepth 100000 in
theorem w_P_arePosition_26 {X : CX} (E : EV X prog_1_method_25_code 2 "PlaceFinder" (some .boolean)) {μ0 μ : Mem} {r : Int32} (hQ : RQ X 0 0 μ0 (some (vI r)) μ) (hR : xR X = { frames := 0, cells := 0, slots := 0, locals := 0 }) (hI : X.2.2.2.2.2.2.2.2.2.2.2.1.name = "arePosition")   (h : B_P_arePosition_26 μ   = some r) : WM X 2 26 [] [] 0 0 μ := by
  have h : (B_P_arePosition_27 μ 0) = some r := h
  refine wm_iconst (x := 0) E dP_arePosition_26 (by decide) ?_
  refine wm_pick (lv' := []) [] rfl ?_
  exact w_P_arePosition_27 E hQ hR hI 0 h
def S_P_arePosition (v0 : Int32) (v1 : Int32) (μ : Mem) : Option Int32 := if v0 < 0 then B_P_arePosition_26 μ  else if 4095 < v0 then B_P_arePosition_26 μ  else if v1 < 0 then B_P_arePosition_26 μ  else if 4095 < v1 then B_P_arePosition_26 μ  else B_P_arePosition_27 μ 1
set_option maxHeartbeats 4000000 in
set_option maxRecDepth 100000 in
theorem C_P_arePosition (l : Launch) (G : GG) (v0 : Int32) (v1 : Int32) (μ : Mem) (r : Int32) (h : S_P_arePosition v0 v1 μ = some r) : CT l G y_P_arePosition prog_1_method_25_code 2 (some .boolean) 0 0 0 0 μ [vI v0, vI v1] (some (vI r)) μ := by
  refine wm_met (lv := [(0, vI v0), (1, vI v1)]) (by decide +kernel) (Nat.le_of_ble_eq_true rfl) rfl (fun X E hQ hR hI => ?_)
  have h : (if v0 < 0 then B_P_arePosition_26 μ  else if 4095 < v0 then B_P_arePosition_26 μ  else if v1 < 0 then B_P_arePosition_26 μ  else if 4095 < v1 then B_P_arePosition_26 μ  else B_P_arePosition_27 μ 1) = some r := h
  refine wm_iload_n E dP_arePosition_0 rfl (j := 0) rfl ?_
  refine wm_if_lt (tgt := 26) E dP_arePosition_1 (by decide) (fun c1 => ?_) (fun c1 => ?_)
  · have h := (if_pos c1).symm.trans h
    refine wm_pick (lv' := []) [] rfl ?_
    exact w_P_arePosition_26 E hQ hR hI  h
  · have h := (if_neg c1).symm.trans h
    refine wm_iload_n E dP_arePosition_4 rfl (j := 0) rfl ?_
    refine wm_sipush (x := 4095) E dP_arePosition_5 (by decide) ?_
    refine wm_icmp_gt (tgt := 26) E dP_arePosition_8 (by decide) (fun c8 => ?_) (fun c8 => ?_)
    · have h := (if_pos c8).symm.trans h
      refine wm_pick (lv' := []) [] rfl ?_
      exact w_P_arePosition_26 E hQ hR hI  h
    · have h := (if_neg c8).symm.trans h
      refine wm_iload_n E dP_arePosition_11 rfl (j := 1) rfl ?_
      refine wm_if_lt (tgt := 26) E dP_arePosition_12 (by decide) (fun c12 => ?_) (fun c12 => ?_)
      · have h := (if_pos c12).symm.trans h
        refine wm_pick (lv' := []) [] rfl ?_
        exact w_P_arePosition_26 E hQ hR hI  h
      · have h := (if_neg c12).symm.trans h
        refine wm_iload_n E dP_arePosition_15 rfl (j := 1) rfl ?_
        refine wm_sipush (x := 4095) E dP_arePosition_16 (by decide) ?_
        refine wm_icmp_gt (tgt := 26) E dP_arePosition_19 (by decide) (fun c19 => ?_) (fun c19 => ?_)
        · have h := (if_pos c19).symm.trans h
          refine wm_pick (lv' := []) [] rfl ?_
          exact w_P_arePosition_26 E hQ hR hI  h
        · have h := (if_neg c19).symm.trans h
          refine wm_iconst (x := 1) E dP_arePosition_22 (by decide) ?_
          refine wm_goto (tgt := 27) E dP_arePosition_23 (by decide) ?_
          refine wm_pick (lv' := []) [] rfl ?_
          exact w_P_arePosition_27 E hQ hR hI 1 h
def S_P_corner (v0 : Option Nat) (v1 : Int32) (v2 : Int32) (μ : Mem) : Option ((Nat ⊕ Int32) × Mem) := b1 (S_P_arePosition v1 v2 μ) (fun x2 => if x2 = 0 then some (.inl 0, μ) else b1 (gI μ v0 11 3) (fun x19 => if x19 < 8 then b1 (gR μ v0 11 1) (fun x38 => b1 (gI μ v0 11 3) (fun x42 => b1 (sI μ x38 0 x42 v1) (fun m46 => b1 (gR m46 v0 11 2) (fun x48 => b1 (gI m46 v0 11 3) (fun x52 => b1 (sI m46 x48 0 x52 v2) (fun m56 => b1 (gI m56 v0 11 3) (fun x59 => b1 (pV m56 v0 11 3 (vI (x59 + 1))) (fun m64 => b1 (gI m64 v0 11 3) (fun x68 => some (.inr x68, m64)))))))))) else some (.inl 1, μ)))
set_option maxHeartbeats 4000000 in
set_option maxRecDepth 100000 in
theorem w_P_corner_e {X : CX} (E : EV X prog_1_method_3_code 3 "PlaceFinder" (some .int)) {μ0 μ' : Mem} {r : (Nat ⊕ Int32)} (hQ : RQ2 X 1 6 μ0 (cvI r) μ') (hR : xR X = { frames := 6, cells := 1, slots := 6, locals := 99 }) (hI : X.2.2.2.2.2.2.2.2.2.2.2.1.name = "corner") (v0 : Option Nat) (v1 : Int32) (v2 : Int32) (μ : Mem) (h : S_P_corner v0 v1 v2 μ = some (r, μ')) : WM X 3 0 [(0, vR v0), (1, vI v1), (2, vI v2)] [] 0 0 μ := by
  have h : (b1 (S_P_arePosition v1 v2 μ) (fun x2 => if x2 = 0 then some (.inl 0, μ) else b1 (gI μ v0 11 3) (fun x19 => if x19 < 8 then b1 (gR μ v0 11 1) (fun x38 => b1 (gI μ v0 11 3) (fun x42 => b1 (sI μ x38 0 x42 v1) (fun m46 => b1 (gR m46 v0 11 2) (fun x48 => b1 (gI m46 v0 11 3) (fun x52 => b1 (sI m46 x48 0 x52 v2) (fun m56 => b1 (gI m56 v0 11 3) (fun x59 => b1 (pV m56 v0 11 3 (vI (x59 + 1))) (fun m64 => b1 (gI m64 v0 11 3) (fun x68 => some (.inr x68, m64)))))))))) else some (.inl 1, μ)))) = some (r, μ') := h
  refine wm_iload_n E dP_corner_0 rfl (j := 1) rfl ?_
  refine wm_iload_n E dP_corner_1 rfl (j := 2) rfl ?_
  obtain ⟨x2, hc2, h⟩ := b1S h
  refine wm_cS (As := [vI v1, vI v2]) (st := []) E lk_P_116 sc_P_arePosition (C_P_arePosition (xl X) X.1 v1 v2 μ _ hc2) rfl rfl (by rw [hR]; decide) (by rw [hR]; decide) (Nat.le_of_ble_eq_true rfl) dP_corner_2 ?_
  refine wm_if_ne (tgt := 18) E dP_corner_5 (by decide) (fun c5 => ?_) (fun c5 => ?_)
  · have h := (if_neg c5).symm.trans h
    refine wm_aload_n E dP_corner_18 rfl (j := 0) rfl ?_
    refine wm_gI E fd_P_23 h dP_corner_19 (fun x19 h => ?_)
    refine wm_bipush (x := 8) E dP_corner_22 (by decide) ?_
    refine wm_icmp_lt (tgt := 37) E dP_corner_24 (by decide) (fun c24 => ?_) (fun c24 => ?_)
    · have h := (if_pos c24).symm.trans h
      refine wm_aload_n E dP_corner_37 rfl (j := 0) rfl ?_
      refine wm_gR E fd_P_16 h dP_corner_38 (fun x38 h => ?_)
      refine wm_aload_n E dP_corner_41 rfl (j := 0) rfl ?_
      refine wm_gI E fd_P_23 h dP_corner_42 (fun x42 h => ?_)
      refine wm_iload_n E dP_corner_45 rfl (j := 1) rfl ?_
      refine wm_iast (t := 0) E rfl h dP_corner_46 (fun m46 h => ?_)
      refine wm_aload_n E dP_corner_47 rfl (j := 0) rfl ?_
      refine wm_gR E fd_P_20 h dP_corner_48 (fun x48 h => ?_)
      refine wm_aload_n E dP_corner_51 rfl (j := 0) rfl ?_
      refine wm_gI E fd_P_23 h dP_corner_52 (fun x52 h => ?_)
      refine wm_iload_n E dP_corner_55 rfl (j := 2) rfl ?_
      refine wm_iast (t := 0) E rfl h dP_corner_56 (fun m56 h => ?_)
      refine wm_aload_n E dP_corner_57 rfl (j := 0) rfl ?_
      refine wm_dup E dP_corner_58 rfl ?_
      refine wm_gI E fd_P_23 h dP_corner_59 (fun x59 h => ?_)
      refine wm_iconst (x := 1) E dP_corner_62 (by decide) ?_
      refine wm_iadd E dP_corner_63 ?_
      refine wm_pI E fp_P_23 (fun q => by cases q) h dP_corner_64 (fun m64 h => ?_)
      refine wm_aload_n E dP_corner_67 rfl (j := 0) rfl ?_
      refine wm_gI E fd_P_23 h dP_corner_68 (fun x68 h => ?_)
      exact wm_iret (rt := .int) E (rqI hQ h) rfl rfl (by decide) (by decide) dP_corner_71
    · have h := (if_neg c24).symm.trans h
      obtain ⟨μs, hX⟩ := rqXI hQ h
      exact wm_throw (ln := 2) (names := exU) (cls := "java/lang/IllegalStateException") E tf_P_102_122 hX ⟨(by rw [hR]; decide), by decide⟩ ⟨(by rw [hR]; decide), by decide⟩ (by rw [hR]; decide) (by rw [hR]; decide) (Nat.le_of_ble_eq_true rfl) dP_corner_27 dP_corner_30 (Or.inl ⟨rfl, dP_corner_31⟩) dP_corner_33 dP_corner_36
  · have h := (if_pos c5).symm.trans h
    obtain ⟨μs, hX⟩ := rqXI hQ h
    exact wm_throw (ln := 2) (names := exU) (cls := "java/lang/IllegalArgumentException") E tf_P_91_120 hX ⟨(by rw [hR]; decide), by decide⟩ ⟨(by rw [hR]; decide), by decide⟩ (by rw [hR]; decide) (by rw [hR]; decide) (Nat.le_of_ble_eq_true rfl) dP_corner_8 dP_corner_11 (Or.inl ⟨rfl, dP_corner_12⟩) dP_corner_14 dP_corner_17
theorem C_P_corner (l : Launch) (G : GG) (v0 : Option Nat) (v1 : Int32) (v2 : Int32) (μ μ' : Mem) (r : Int32) (h : S_P_corner v0 v1 v2 μ = some (.inr r, μ')) : CT l G y_P_corner prog_1_method_3_code 3 (some .int) 6 1 6 99 μ [vR v0, vI v1, vI v2] (some (vI r)) μ' := by
  refine wm_met (lv := [(0, vR v0), (1, vI v1), (2, vI v2)]) (by decide +kernel) (Nat.le_of_ble_eq_true rfl) rfl (fun X E hQ hR hI => ?_)
  exact w_P_corner_e (r := .inr r) E hQ hR hI v0 v1 v2 μ h
theorem X_P_corner (l : Launch) (hl : LF l) (G : GG) (v0 : Option Nat) (v1 : Int32) (v2 : Int32) (μ μ' : Mem) (k : Nat) (h : S_P_corner v0 v1 v2 (m_up μ) = some (.inl k, μ')) : CZ l G y_P_corner prog_1_method_3_code 3 (some .int) 6 1 6 99 μ [vR v0, vI v1, vI v2] (exN k) := by
  refine wm_metX hl (lv := [(0, vR v0), (1, vI v1), (2, vI v2)]) (by decide +kernel) (Nat.le_of_ble_eq_true rfl) rfl (fun X E hX hR hI => ?_)
  exact w_P_corner_e (μ0 := μ) (r := .inl k) E ⟨μ, hX⟩ hR hI v0 v1 v2 (m_up μ) h
def S_Pr_checkIndex (v0 : Int32) (v1 : Int32) (v2 : Option Nat) (μ : Mem) : Option Int32 := if v0 < 0 then none else if v0 < v1 then some (v0) else none
set_option maxHeartbeats 4000000 in
set_option maxRecDepth 100000 in
theorem C_Pr_checkIndex (l : Launch) (G : GG) (v0 : Int32) (v1 : Int32) (v2 : Option Nat) (μ : Mem) (r : Int32) (h : S_Pr_checkIndex v0 v1 v2 μ = some r) : CT l G y_Pr_checkIndex prog_42_method_11_code 3 (some .int) 0 0 0 0 μ [vI v0, vI v1, vR v2] (some (vI r)) μ := by
  refine wm_met (lv := [(0, vI v0), (1, vI v1), (2, vR v2)]) (by decide +kernel) (Nat.le_of_ble_eq_true rfl) rfl (fun X E hQ hR hI => ?_)
  have h : (if v0 < 0 then none else if v0 < v1 then some (v0) else none) = some r := h
  refine wm_iload_n E dPr_checkIndex_0 rfl (j := 0) rfl ?_
  refine wm_if_lt (tgt := 9) E dPr_checkIndex_1 (by decide) (fun c1 => ?_) (fun c1 => ?_)
  · have h := (if_pos c1).symm.trans h
    cases h
  · have h := (if_neg c1).symm.trans h
    refine wm_iload_n E dPr_checkIndex_4 rfl (j := 0) rfl ?_
    refine wm_iload_n E dPr_checkIndex_5 rfl (j := 1) rfl ?_
    refine wm_icmp_lt (tgt := 16) E dPr_checkIndex_6 (by decide) (fun c6 => ?_) (fun c6 => ?_)
    · have h := (if_pos c6).symm.trans h
      refine wm_iload_n E dPr_checkIndex_16 rfl (j := 0) rfl ?_
      exact wm_iret (rt := .int) E hQ (rqI1 h) rfl (by decide) (by decide) dPr_checkIndex_17
    · have h := (if_neg c6).symm.trans h
      cases h
def S_Ob_checkIndex (v0 : Int32) (v1 : Int32) (μ : Mem) : Option Int32 := b1 (S_Pr_checkIndex v0 v1 none μ) (fun x3 => some (x3))
set_option maxHeartbeats 4000000 in
set_option maxRecDepth 100000 in
theorem C_Ob_checkIndex (l : Launch) (G : GG) (v0 : Int32) (v1 : Int32) (μ : Mem) (r : Int32) (h : S_Ob_checkIndex v0 v1 μ = some r) : CT l G y_Ob_checkIndex prog_38_method_17_code 2 (some .int) 1 0 0 22 μ [vI v0, vI v1] (some (vI r)) μ := by
  refine wm_met (lv := [(0, vI v0), (1, vI v1)]) (by decide +kernel) (Nat.le_of_ble_eq_true rfl) rfl (fun X E hQ hR hI => ?_)
  have h : (b1 (S_Pr_checkIndex v0 v1 none μ) (fun x3 => some (x3))) = some r := h
  refine wm_iload_n E dOb_checkIndex_0 rfl (j := 0) rfl ?_
  refine wm_iload_n E dOb_checkIndex_1 rfl (j := 1) rfl ?_
  refine wm_null E dOb_checkIndex_2 ?_
  obtain ⟨x3, hc3, h⟩ := b1S h
  refine wm_cS (As := [vI v0, vI v1, vR none]) (st := []) E lk_Ob_105 sc_Pr_checkIndex (C_Pr_checkIndex (xl X) X.1 v0 v1 none μ _ hc3) rfl rfl (by rw [hR]; decide) (by rw [hR]; decide) (Nat.le_of_ble_eq_true rfl) dOb_checkIndex_3 ?_
  exact wm_iret (rt := .int) E hQ (rqI1 h) rfl (by decide) (by decide) dOb_checkIndex_6
def S_Al_elementData (v0 : Option Nat) (v1 : Int32) (μ : Mem) : Option (Option Nat) := b1 (gR μ v0 0 0) (fun x1 => b1 (aR μ x1 4 v1) (fun x5 => some (x5)))
set_option maxHeartbeats 4000000 in
set_option maxRecDepth 100000 in
theorem C_Al_elementData (l : Launch) (G : GG) (v0 : Option Nat) (v1 : Int32) (μ : Mem) (r : Option Nat) (h : S_Al_elementData v0 v1 μ = some r) : CT l G y_Al_elementData prog_33_method_18_code 2 (some (.object "java/lang/Object")) 0 0 0 0 μ [vR v0, vI v1] (some (vR r)) μ := by
  refine wm_met (lv := [(0, vR v0), (1, vI v1)]) (by decide +kernel) (Nat.le_of_ble_eq_true rfl) rfl (fun X E hQ hR hI => ?_)
  have h : (b1 (gR μ v0 0 0) (fun x1 => b1 (aR μ x1 4 v1) (fun x5 => some (x5)))) = some r := h
  refine wm_aload_n E dAl_elementData_0 rfl (j := 0) rfl ?_
  refine wm_gR E fd_Al_9 h dAl_elementData_1 (fun x1 h => ?_)
  refine wm_iload_n E dAl_elementData_4 rfl (j := 1) rfl ?_
  refine wm_aald (t := 4) E rfl rfl h dAl_elementData_5 (fun x5 h => ?_)
  exact wm_aret E hQ (rqR0 h) rfl (Or.inl ⟨_, rfl⟩) (by decide) (by decide) dAl_elementData_6
def S_Al_get (v0 : Option Nat) (v1 : Int32) (μ : Mem) : Option (Option Nat) := b1 (gI μ v0 0 1) (fun x2 => b1 (S_Ob_checkIndex v1 x2 μ) (fun x5 => b1 (rc μ v0 0) (fun _ => b1 (S_Al_elementData v0 v1 μ) (fun x11 => some (x11)))))
set_option maxHeartbeats 4000000 in
set_option maxRecDepth 100000 in
theorem C_Al_get (l : Launch) (G : GG) (v0 : Option Nat) (v1 : Int32) (μ : Mem) (r : Option Nat) (h : S_Al_get v0 v1 μ = some r) : CT l G y_Al_get prog_33_method_20_code 2 (some (.object "java/lang/Object")) 2 0 0 43 μ [vR v0, vI v1] (some (vR r)) μ := by
  refine wm_met (lv := [(0, vR v0), (1, vI v1)]) (by decide +kernel) (Nat.le_of_ble_eq_true rfl) rfl (fun X E hQ hR hI => ?_)
  have h : (b1 (gI μ v0 0 1) (fun x2 => b1 (S_Ob_checkIndex v1 x2 μ) (fun x5 => b1 (rc μ v0 0) (fun _ => b1 (S_Al_elementData v0 v1 μ) (fun x11 => some (x11)))))) = some r := h
  refine wm_iload_n E dAl_get_0 rfl (j := 1) rfl ?_
  refine wm_aload_n E dAl_get_1 rfl (j := 0) rfl ?_
  refine wm_gI E fd_Al_48 h dAl_get_2 (fun x2 h => ?_)
  obtain ⟨x5, hc5, h⟩ := b1S h
  refine wm_cS (As := [vI v1, vI x2]) (st := []) E lk_Al_118 sc_Ob_checkIndex (C_Ob_checkIndex (xl X) X.1 v1 x2 μ _ hc5) rfl rfl (by rw [hR]; decide) (by rw [hR]; decide) (Nat.le_of_ble_eq_true rfl) dAl_get_5 ?_
  refine wm_pop E dAl_get_8 rfl ?_
  refine wm_aload_n E dAl_get_9 rfl (j := 0) rfl ?_
  refine wm_iload_n E dAl_get_10 rfl (j := 1) rfl ?_
  obtain ⟨u11, hr11, h⟩ := b1S h
  obtain ⟨x11, hc11, h⟩ := b1S h
  refine wm_cV (ci := 0) (As := [vI v1]) (st := []) E lk_Al_123 rfl im_Al_elementData sl_Al_elementData hr11 (C_Al_elementData (xl X) X.1 v0 v1 μ _ hc11) rfl rfl (by rw [hR]; decide) (by rw [hR]; decide) (Nat.le_of_ble_eq_true rfl) dAl_get_11 ?_
  exact wm_aret E hQ (rqR0 h) rfl (Or.inl ⟨_, rfl⟩) (by decide) (by decide) dAl_get_14
def B_P_placeOf_30 (μ : Mem)   (s0 : Option Nat) : Option (Option Nat) := some (s0)
set_option maxHeartbeats 4000000 in
set_option maxRecDepth 100000 in
theorem w_P_placeOf_30 {X : CX} (E : EV X prog_1_method_28_code 2 "PlaceFinder" (some (.object "PlaceFinder$Place"))) {μ0 μ : Mem} {r : Option Nat} (hQ : RQ X 0 0 μ0 (some (vR r)) μ) (hR : xR X = { frames := 3, cells := 0, slots := 0, locals := 64 }) (hI : X.2.2.2.2.2.2.2.2.2.2.2.1.name = "placeOf")  (s0 : Option Nat) (h : B_P_placeOf_30 μ  s0 = some r) : WM X 2 30 [] [vR s0] 0 0 μ := by
  have h : (some (s0)) = some r := h
  exact wm_aret E hQ (rqR0 h) rfl (Or.inl ⟨_, rfl⟩) (by decide) (by decide) dP_placeOf_30
def B_P_placeOf_29 (μ : Mem)    : Option (Option Nat) := B_P_placeOf_30 μ none
set_option maxHeartbeats 4000000 in
set_option maxRecDepth 100000 in
theorem w_P_placeOf_29 {X : CX} (E : EV X prog_1_method_28_code 2 "PlaceFinder" (some (.object "PlaceFinder$Place"))) {μ0 μ : Mem} {r : Option Nat} (hQ : RQ X 0 0 μ0 (some (vR r)) μ) (hR : xR X = { frames := 3, cells := 0, slots := 0, locals := 64 }) (hI : X.2.2.2.2.2.2.2.2.2.2.2.1.name = "placeOf")   (h : B_P_placeOf_29 μ   = some r) : WM X 2 29 [] [] 0 0 μ := by
  have h : (B_P_placeOf_30 μ none) = some r := h
  refine wm_null E dP_placeOf_29 ?_
  refine wm_pick (lv' := []) [] rfl ?_
  exact w_P_placeOf_30 E hQ hR hI none h
def S_P_placeOf (v0 : Option Nat) (v1 : Int32) (μ : Mem) : Option (Option Nat) := if v1 < 0 then B_P_placeOf_29 μ  else b1 (gR μ v0 11 0) (fun x6 => b1 (rc μ x6 0) (fun _ => b1 (S_Al_size x6 μ) (fun x9 => if x9 ≤ v1 then B_P_placeOf_29 μ  else b1 (gR μ v0 11 0) (fun x16 => b1 (rc μ x16 0) (fun _ => b1 (S_Al_get x16 v1 μ) (fun x20 => b1 (cK μ x20 7) (fun _ => B_P_placeOf_30 μ x20)))))))
set_option maxHeartbeats 4000000 in
set_option maxRecDepth 100000 in
theorem C_P_placeOf (l : Launch) (G : GG) (v0 : Option Nat) (v1 : Int32) (μ : Mem) (r : Option Nat) (h : S_P_placeOf v0 v1 μ = some r) : CT l G y_P_placeOf prog_1_method_28_code 2 (some (.object "PlaceFinder$Place")) 3 0 0 64 μ [vR v0, vI v1] (some (vR r)) μ := by
  refine wm_met (lv := [(0, vR v0), (1, vI v1)]) (by decide +kernel) (Nat.le_of_ble_eq_true rfl) rfl (fun X E hQ hR hI => ?_)
  have h : (if v1 < 0 then B_P_placeOf_29 μ  else b1 (gR μ v0 11 0) (fun x6 => b1 (rc μ x6 0) (fun _ => b1 (S_Al_size x6 μ) (fun x9 => if x9 ≤ v1 then B_P_placeOf_29 μ  else b1 (gR μ v0 11 0) (fun x16 => b1 (rc μ x16 0) (fun _ => b1 (S_Al_get x16 v1 μ) (fun x20 => b1 (cK μ x20 7) (fun _ => B_P_placeOf_30 μ x20)))))))) = some r := h
  refine wm_iload_n E dP_placeOf_0 rfl (j := 1) rfl ?_
  refine wm_if_lt (tgt := 29) E dP_placeOf_1 (by decide) (fun c1 => ?_) (fun c1 => ?_)
  · have h := (if_pos c1).symm.trans h
    refine wm_pick (lv' := []) [] rfl ?_
    exact w_P_placeOf_29 E hQ hR hI  h
  · have h := (if_neg c1).symm.trans h
    refine wm_iload_n E dP_placeOf_4 rfl (j := 1) rfl ?_
    refine wm_aload_n E dP_placeOf_5 rfl (j := 0) rfl ?_
    refine wm_gR E fd_P_10 h dP_placeOf_6 (fun x6 h => ?_)
    obtain ⟨u9, hr9, h⟩ := b1S h
    obtain ⟨x9, hc9, h⟩ := b1S h
    refine wm_cV (ci := 0) (As := []) (st := [vI v1]) E lk_P_98 rfl im_Al_size sl_Al_size hr9 (C_Al_size (xl X) X.1 x6 μ _ hc9) rfl rfl (by rw [hR]; decide) (by rw [hR]; decide) (Nat.le_of_ble_eq_true rfl) dP_placeOf_9 ?_
    refine wm_icmp_ge (tgt := 29) E dP_placeOf_12 (by decide) (fun c12 => ?_) (fun c12 => ?_)
    · have h := (if_pos c12).symm.trans h
      refine wm_pick (lv' := []) [] rfl ?_
      exact w_P_placeOf_29 E hQ hR hI  h
    · have h := (if_neg c12).symm.trans h
      refine wm_aload_n E dP_placeOf_15 rfl (j := 0) rfl ?_
      refine wm_gR E fd_P_10 h dP_placeOf_16 (fun x16 h => ?_)
      refine wm_iload_n E dP_placeOf_19 rfl (j := 1) rfl ?_
      obtain ⟨u20, hr20, h⟩ := b1S h
      obtain ⟨x20, hc20, h⟩ := b1S h
      refine wm_cV (ci := 0) (As := [vI v1]) (st := []) E lk_P_223 rfl im_Al_get sl_Al_get hr20 (C_Al_get (xl X) X.1 x16 v1 μ _ hc20) rfl rfl (by rw [hR]; decide) (by rw [hR]; decide) (Nat.le_of_ble_eq_true rfl) dP_placeOf_20 ?_
      refine wm_ckc (ci := 7) E rfl cl_P_107 h dP_placeOf_23 (fun h => ?_)
      refine wm_goto (tgt := 30) E dP_placeOf_26 (by decide) ?_
      refine wm_pick (lv' := []) [] rfl ?_
      exact w_P_placeOf_30 E hQ hR hI x20 h
def B_P_isDay_16 (μ : Mem)   (s0 : Int32) : Option Int32 := gd (¬ okZ s0 = true) (some (s0))
set_option maxHeartbeats 4000000 in
set_option maxRecDepth 100000 in
theorem w_P_isDay_16 {X : CX} (E : EV X prog_1_method_23_code 1 "PlaceFinder" (some .boolean)) {μ0 μ : Mem} {r : Int32} (hQ : RQ X 0 0 μ0 (some (vI r)) μ) (hR : xR X = { frames := 0, cells := 0, slots := 0, locals := 0 }) (hI : X.2.2.2.2.2.2.2.2.2.2.2.1.name = "isDay")  (s0 : Int32) (h : B_P_isDay_16 μ  s0 = some r) : WM X 1 16 [] [vI s0] 0 0 μ := by
  have h : (gd (¬ okZ s0 = true) (some (s0))) = some r := h
  obtain ⟨hz16, h⟩ := gdS h
  exact wm_zret (rt := .boolean) E hQ (rqI1 h) rfl (okZN hz16) (by decide) (by decide) dP_isDay_16
def B_P_isDay_15 (μ : Mem)    : Option Int32 := B_P_isDay_16 μ 0
set_option maxHeartbeats 4000000 in
set_option maxRecDepth 100000 in
theorem w_P_isDay_15 {X : CX} (E : EV X prog_1_method_23_code 1 "PlaceFinder" (some .boolean)) {μ0 μ : Mem} {r : Int32} (hQ : RQ X 0 0 μ0 (some (vI r)) μ) (hR : xR X = { frames := 0, cells := 0, slots := 0, locals := 0 }) (hI : X.2.2.2.2.2.2.2.2.2.2.2.1.name = "isDay")   (h : B_P_isDay_15 μ   = some r) : WM X 1 15 [] [] 0 0 μ := by
  have h : (B_P_isDay_16 μ 0) = some r := h
  refine wm_iconst (x := 0) E dP_isDay_15 (by decide) ?_
  refine wm_pick (lv' := []) [] rfl ?_
  exact w_P_isDay_16 E hQ hR hI 0 h
def S_P_isDay (v0 : Int32) (μ : Mem) : Option Int32 := if v0 < 0 then B_P_isDay_15 μ  else if 9999 < v0 then B_P_isDay_15 μ  else B_P_isDay_16 μ 1
set_option maxHeartbeats 4000000 in
set_option maxRecDepth 100000 in
theorem C_P_isDay (l : Launch) (G : GG) (v0 : Int32) (μ : Mem) (r : Int32) (h : S_P_isDay v0 μ = some r) : CT l G y_P_isDay prog_1_method_23_code 1 (some .boolean) 0 0 0 0 μ [vI v0] (some (vI r)) μ := by
  refine wm_met (lv := [(0, vI v0)]) (by decide +kernel) (Nat.le_of_ble_eq_true rfl) rfl (fun X E hQ hR hI => ?_)
  have h : (if v0 < 0 then B_P_isDay_15 μ  else if 9999 < v0 then B_P_isDay_15 μ  else B_P_isDay_16 μ 1) = some r := h
  refine wm_iload_n E dP_isDay_0 rfl (j := 0) rfl ?_
  refine wm_if_lt (tgt := 15) E dP_isDay_1 (by decide) (fun c1 => ?_) (fun c1 => ?_)
  · have h := (if_pos c1).symm.trans h
    refine wm_pick (lv' := []) [] rfl ?_
    exact w_P_isDay_15 E hQ hR hI  h
  · have h := (if_neg c1).symm.trans h
    refine wm_iload_n E dP_isDay_4 rfl (j := 0) rfl ?_
    refine wm_sipush (x := 9999) E dP_isDay_5 (by decide) ?_
    refine wm_icmp_gt (tgt := 15) E dP_isDay_8 (by decide) (fun c8 => ?_) (fun c8 => ?_)
    · have h := (if_pos c8).symm.trans h
      refine wm_pick (lv' := []) [] rfl ?_
      exact w_P_isDay_15 E hQ hR hI  h
    · have h := (if_neg c8).symm.trans h
      refine wm_iconst (x := 1) E dP_isDay_11 (by decide) ?_
      refine wm_goto (tgt := 16) E dP_isDay_12 (by decide) ?_
      refine wm_pick (lv' := []) [] rfl ?_
      exact w_P_isDay_16 E hQ hR hI 1 h
def B_Co_isPoint_13 (μ : Mem)   (s0 : Int32) : Option Int32 := gd (¬ okZ s0 = true) (some (s0))
set_option maxHeartbeats 4000000 in
set_option maxRecDepth 100000 in
theorem w_Co_isPoint_13 {X : CX} (E : EV X prog_3_method_2_code 1 "PlaceFinder$Corners" (some .boolean)) {μ0 μ : Mem} {r : Int32} (hQ : RQ X 0 0 μ0 (some (vI r)) μ) (hR : xR X = { frames := 0, cells := 0, slots := 0, locals := 0 }) (hI : X.2.2.2.2.2.2.2.2.2.2.2.1.name = "isPoint")  (s0 : Int32) (h : B_Co_isPoint_13 μ  s0 = some r) : WM X 1 13 [] [vI s0] 0 0 μ := by
  have h : (gd (¬ okZ s0 = true) (some (s0))) = some r := h
  obtain ⟨hz13, h⟩ := gdS h
  exact wm_zret (rt := .boolean) E hQ (rqI1 h) rfl (okZN hz13) (by decide) (by decide) dCo_isPoint_13
def S_Co_isPoint (v0 : Option Nat) (μ : Mem) : Option Int32 := b1 (gI μ v0 2 0) (fun x1 => if x1 = 1 then B_Co_isPoint_13 μ 1 else B_Co_isPoint_13 μ 0)
set_option maxHeartbeats 4000000 in
set_option maxRecDepth 100000 in
theorem C_Co_isPoint (l : Launch) (G : GG) (v0 : Option Nat) (μ : Mem) (r : Int32) (h : S_Co_isPoint v0 μ = some r) : CT l G y_Co_isPoint prog_3_method_2_code 1 (some .boolean) 0 0 0 0 μ [vR v0] (some (vI r)) μ := by
  refine wm_met (lv := [(0, vR v0)]) (by decide +kernel) (Nat.le_of_ble_eq_true rfl) rfl (fun X E hQ hR hI => ?_)
  have h : (b1 (gI μ v0 2 0) (fun x1 => if x1 = 1 then B_Co_isPoint_13 μ 1 else B_Co_isPoint_13 μ 0)) = some r := h
  refine wm_aload_n E dCo_isPoint_0 rfl (j := 0) rfl ?_
  refine wm_gI E fd_Co_9 h dCo_isPoint_1 (fun x1 h => ?_)
  refine wm_iconst (x := 1) E dCo_isPoint_4 (by decide) ?_
  refine wm_icmp_ne (tgt := 12) E dCo_isPoint_5 (by decide) (fun c5 => ?_) (fun c5 => ?_)
  · have h := (if_neg c5).symm.trans h
    refine wm_iconst (x := 0) E dCo_isPoint_12 (by decide) ?_
    refine wm_pick (lv' := []) [] rfl ?_
    exact w_Co_isPoint_13 E hQ hR hI 0 h
  · have h := (if_pos c5).symm.trans h
    refine wm_iconst (x := 1) E dCo_isPoint_8 (by decide) ?_
    refine wm_goto (tgt := 13) E dCo_isPoint_9 (by decide) ?_
    refine wm_pick (lv' := []) [] rfl ?_
    exact w_Co_isPoint_13 E hQ hR hI 1 h
def B_Co_following_17 (μ : Mem)   (s0 : Int32) : Option Int32 := some (s0)
set_option maxHeartbeats 4000000 in
set_option maxRecDepth 100000 in
theorem w_Co_following_17 {X : CX} (E : EV X prog_3_method_4_code 2 "PlaceFinder$Corners" (some .int)) {μ0 μ : Mem} {r : Int32} (hQ : RQ X 0 0 μ0 (some (vI r)) μ) (hR : xR X = { frames := 0, cells := 0, slots := 0, locals := 0 }) (hI : X.2.2.2.2.2.2.2.2.2.2.2.1.name = "following")  (s0 : Int32) (h : B_Co_following_17 μ  s0 = some r) : WM X 2 17 [] [vI s0] 0 0 μ := by
  have h : (some (s0)) = some r := h
  exact wm_iret (rt := .int) E hQ (rqI1 h) rfl (by decide) (by decide) dCo_following_17
def S_Co_following (v0 : Option Nat) (v1 : Int32) (μ : Mem) : Option Int32 := b1 (gI μ v0 2 0) (fun x4 => if x4 ≤ (v1 + 1) then B_Co_following_17 μ 0 else B_Co_following_17 μ (v1 + 1))
set_option maxHeartbeats 4000000 in
set_option maxRecDepth 100000 in
theorem C_Co_following (l : Launch) (G : GG) (v0 : Option Nat) (v1 : Int32) (μ : Mem) (r : Int32) (h : S_Co_following v0 v1 μ = some r) : CT l G y_Co_following prog_3_method_4_code 2 (some .int) 0 0 0 0 μ [vR v0, vI v1] (some (vI r)) μ := by
  refine wm_met (lv := [(0, vR v0), (1, vI v1)]) (by decide +kernel) (Nat.le_of_ble_eq_true rfl) rfl (fun X E hQ hR hI => ?_)
  have h : (b1 (gI μ v0 2 0) (fun x4 => if x4 ≤ (v1 + 1) then B_Co_following_17 μ 0 else B_Co_following_17 μ (v1 + 1))) = some r := h
  refine wm_iload_n E dCo_following_0 rfl (j := 1) rfl ?_
  refine wm_iconst (x := 1) E dCo_following_1 (by decide) ?_
  refine wm_iadd E dCo_following_2 ?_
  refine wm_aload_n E dCo_following_3 rfl (j := 0) rfl ?_
  refine wm_gI E fd_Co_9 h dCo_following_4 (fun x4 h => ?_)
  refine wm_icmp_ge (tgt := 16) E dCo_following_7 (by decide) (fun c7 => ?_) (fun c7 => ?_)
  · have h := (if_pos c7).symm.trans h
    refine wm_iconst (x := 0) E dCo_following_16 (by decide) ?_
    refine wm_pick (lv' := []) [] rfl ?_
    exact w_Co_following_17 E hQ hR hI 0 h
  · have h := (if_neg c7).symm.trans h
    refine wm_iload_n E dCo_following_10 rfl (j := 1) rfl ?_
    refine wm_iconst (x := 1) E dCo_following_11 (by decide) ?_
    refine wm_iadd E dCo_following_12 ?_
    refine wm_goto (tgt := 17) E dCo_following_13 (by decide) ?_
    refine wm_pick (lv' := []) [] rfl ?_
    exact w_Co_following_17 E hQ hR hI (v1 + 1) h
def B_Co_doubledSurface_4 (μ : Mem)   : Nat → Option Nat → Int32 → Int32 → Option Int32
  | 0, _, _, _ => none
  | n + 1, v0, v1, v2 => b1 (gI μ v0 2 0) (fun x6 => if x6 ≤ v2 then some (v1) else b1 (rc μ v0 2) (fun _ => b1 (S_Co_following v0 v2 μ) (fun x14 => b1 (gR μ v0 2 1) (fun x20 => b1 (aI μ x20 0 v2) (fun x24 => b1 (gR μ v0 2 2) (fun x26 => b1 (aI μ x26 0 x14) (fun x30 => b1 (gR μ v0 2 1) (fun x33 => b1 (aI μ x33 0 x14) (fun x37 => b1 (gR μ v0 2 2) (fun x39 => b1 (aI μ x39 0 v2) (fun x43 => b0 (v1 + ((x24 * x30) - (x37 * x43))) (fun x47 => (fun v0 v1 v2 => B_Co_doubledSurface_4 μ n v0 v1 v2) v0 x47 (v2 + 1)))))))))))))
set_option maxHeartbeats 4000000 in
set_option maxRecDepth 100000 in
theorem w_Co_doubledSurface_4 {X : CX} (E : EV X prog_3_method_5_code 4 "PlaceFinder$Corners" (some .int)) {μ0 μ : Mem} {r : Int32} (hQ : RQ X 0 0 μ0 (some (vI r)) μ) (hR : xR X = { frames := 1, cells := 0, slots := 0, locals := 21 }) (hI : X.2.2.2.2.2.2.2.2.2.2.2.1.name = "doubledSurface")  (n : Nat) : ∀ (v0 : Option Nat) (v1 : Int32) (v2 : Int32) (h : B_Co_doubledSurface_4 μ  n v0 v1 v2 = some r), WM X 4 4 [(0, vR v0), (1, vI v1), (2, vI v2)] [] 0 0 μ := by
  induction n with
  | zero => intro v0 v1 v2 h; cases h
  | succ n ih =>
    intro v0 v1 v2 h
    have h : (b1 (gI μ v0 2 0) (fun x6 => if x6 ≤ v2 then some (v1) else b1 (rc μ v0 2) (fun _ => b1 (S_Co_following v0 v2 μ) (fun x14 => b1 (gR μ v0 2 1) (fun x20 => b1 (aI μ x20 0 v2) (fun x24 => b1 (gR μ v0 2 2) (fun x26 => b1 (aI μ x26 0 x14) (fun x30 => b1 (gR μ v0 2 1) (fun x33 => b1 (aI μ x33 0 x14) (fun x37 => b1 (gR μ v0 2 2) (fun x39 => b1 (aI μ x39 0 v2) (fun x43 => b0 (v1 + ((x24 * x30) - (x37 * x43))) (fun x47 => (fun v0 v1 v2 => B_Co_doubledSurface_4 μ n v0 v1 v2) v0 x47 (v2 + 1)))))))))))))) = some r := h
    refine wm_iload_n E dCo_doubledSurface_4 rfl (j := 2) rfl ?_
    refine wm_aload_n E dCo_doubledSurface_5 rfl (j := 0) rfl ?_
    refine wm_gI E fd_Co_9 h dCo_doubledSurface_6 (fun x6 h => ?_)
    refine wm_icmp_ge (tgt := 54) E dCo_doubledSurface_9 (by decide) (fun c9 => ?_) (fun c9 => ?_)
    · have h := (if_pos c9).symm.trans h
      refine wm_iload_n E dCo_doubledSurface_54 rfl (j := 1) rfl ?_
      exact wm_iret (rt := .int) E hQ (rqI1 h) rfl (by decide) (by decide) dCo_doubledSurface_55
    · have h := (if_neg c9).symm.trans h
      refine wm_aload_n E dCo_doubledSurface_12 rfl (j := 0) rfl ?_
      refine wm_iload_n E dCo_doubledSurface_13 rfl (j := 2) rfl ?_
      obtain ⟨u14, hr14, h⟩ := b1S h
      obtain ⟨x14, hc14, h⟩ := b1S h
      refine wm_cV (ci := 2) (As := [vI v2]) (st := []) E lk_Co_32 rfl im_Co_following sl_Co_following hr14 (C_Co_following (xl X) X.1 v0 v2 μ _ hc14) rfl rfl (by rw [hR]; decide) (by rw [hR]; decide) (Nat.le_of_ble_eq_true rfl) dCo_doubledSurface_14 ?_
      refine wm_istore_n (lv' := [(3, vI x14), (0, vR v0), (1, vI v1), (2, vI v2)]) E dCo_doubledSurface_17 rfl (by decide) rfl ?_
      refine wm_iload_n E dCo_doubledSurface_18 rfl (j := 2) rfl ?_
      refine wm_aload_n E dCo_doubledSurface_19 rfl (j := 1) rfl ?_
      refine wm_gR E fd_Co_21 h dCo_doubledSurface_20 (fun x20 h => ?_)
      refine wm_iload_n E dCo_doubledSurface_23 rfl (j := 3) rfl ?_
      refine wm_iald (t := 0) E rfl h dCo_doubledSurface_24 (fun x24 h => ?_)
      refine wm_aload_n E dCo_doubledSurface_25 rfl (j := 1) rfl ?_
      refine wm_gR E fd_Co_25 h dCo_doubledSurface_26 (fun x26 h => ?_)
      refine wm_iload_n E dCo_doubledSurface_29 rfl (j := 0) rfl ?_
      refine wm_iald (t := 0) E rfl h dCo_doubledSurface_30 (fun x30 h => ?_)
      refine wm_imul E dCo_doubledSurface_31 ?_
      refine wm_aload_n E dCo_doubledSurface_32 rfl (j := 1) rfl ?_
      refine wm_gR E fd_Co_21 h dCo_doubledSurface_33 (fun x33 h => ?_)
      refine wm_iload_n E dCo_doubledSurface_36 rfl (j := 0) rfl ?_
      refine wm_iald (t := 0) E rfl h dCo_doubledSurface_37 (fun x37 h => ?_)
      refine wm_aload_n E dCo_doubledSurface_38 rfl (j := 1) rfl ?_
      refine wm_gR E fd_Co_25 h dCo_doubledSurface_39 (fun x39 h => ?_)
      refine wm_iload_n E dCo_doubledSurface_42 rfl (j := 3) rfl ?_
      refine wm_iald (t := 0) E rfl h dCo_doubledSurface_43 (fun x43 h => ?_)
      refine wm_imul E dCo_doubledSurface_44 ?_
      refine wm_isub E dCo_doubledSurface_45 ?_
      refine wm_iadd E dCo_doubledSurface_46 ?_
      refine wm_letI h (fun x47 h => ?_)
      refine wm_istore_n (lv' := [(1, vI x47), (3, vI x14), (0, vR v0), (2, vI v2)]) E dCo_doubledSurface_47 rfl (by decide) rfl ?_
      refine wm_iinc (lv' := [(2, vI (v2 + 1)), (1, vI x47), (3, vI x14), (0, vR v0)]) (d := 1) E dCo_doubledSurface_48 (by decide) (j := 3) rfl (by decide) rfl ?_
      refine wm_goto (tgt := 4) E dCo_doubledSurface_51 (by decide) ?_
      refine wm_pick (lv' := [(0, vR v0), (1, vI x47), (2, vI (v2 + 1))]) [3, 1, 0] rfl ?_
      exact ih v0 x47 (v2 + 1) h
def S_Co_doubledSurface (v0 : Option Nat) (μ : Mem) : Option Int32 := B_Co_doubledSurface_4 μ fu v0 0 0
set_option maxHeartbeats 4000000 in
set_option maxRecDepth 100000 in
theorem C_Co_doubledSurface (l : Launch) (G : GG) (v0 : Option Nat) (μ : Mem) (r : Int32) (h : S_Co_doubledSurface v0 μ = some r) : CT l G y_Co_doubledSurface prog_3_method_5_code 4 (some .int) 1 0 0 21 μ [vR v0] (some (vI r)) μ := by
  refine wm_met (lv := [(0, vR v0)]) (by decide +kernel) (Nat.le_of_ble_eq_true rfl) rfl (fun X E hQ hR hI => ?_)
  have h : (B_Co_doubledSurface_4 μ fu v0 0 0) = some r := h
  refine wm_iconst (x := 0) E dCo_doubledSurface_0 (by decide) ?_
  refine wm_istore_n (lv' := [(1, vI 0), (0, vR v0)]) E dCo_doubledSurface_1 rfl (by decide) rfl ?_
  refine wm_iconst (x := 0) E dCo_doubledSurface_2 (by decide) ?_
  refine wm_istore_n (lv' := [(2, vI 0), (1, vI 0), (0, vR v0)]) E dCo_doubledSurface_3 rfl (by decide) rfl ?_
  refine wm_pick (lv' := [(0, vR v0), (1, vI 0), (2, vI 0)]) [2, 1, 0] rfl ?_
  exact w_Co_doubledSurface_4 E hQ hR hI fu v0 0 0 h
def B_Co_isArea_20 (μ : Mem)   (s0 : Int32) : Option Int32 := gd (¬ okZ s0 = true) (some (s0))
set_option maxHeartbeats 4000000 in
set_option maxRecDepth 100000 in
theorem w_Co_isArea_20 {X : CX} (E : EV X prog_3_method_3_code 1 "PlaceFinder$Corners" (some .boolean)) {μ0 μ : Mem} {r : Int32} (hQ : RQ X 0 0 μ0 (some (vI r)) μ) (hR : xR X = { frames := 2, cells := 0, slots := 0, locals := 44 }) (hI : X.2.2.2.2.2.2.2.2.2.2.2.1.name = "isArea")  (s0 : Int32) (h : B_Co_isArea_20 μ  s0 = some r) : WM X 1 20 [] [vI s0] 0 0 μ := by
  have h : (gd (¬ okZ s0 = true) (some (s0))) = some r := h
  obtain ⟨hz20, h⟩ := gdS h
  exact wm_zret (rt := .boolean) E hQ (rqI1 h) rfl (okZN hz20) (by decide) (by decide) dCo_isArea_20
def B_Co_isArea_19 (μ : Mem)    : Option Int32 := B_Co_isArea_20 μ 0
set_option maxHeartbeats 4000000 in
set_option maxRecDepth 100000 in
theorem w_Co_isArea_19 {X : CX} (E : EV X prog_3_method_3_code 1 "PlaceFinder$Corners" (some .boolean)) {μ0 μ : Mem} {r : Int32} (hQ : RQ X 0 0 μ0 (some (vI r)) μ) (hR : xR X = { frames := 2, cells := 0, slots := 0, locals := 44 }) (hI : X.2.2.2.2.2.2.2.2.2.2.2.1.name = "isArea")   (h : B_Co_isArea_19 μ   = some r) : WM X 1 19 [] [] 0 0 μ := by
  have h : (B_Co_isArea_20 μ 0) = some r := h
  refine wm_iconst (x := 0) E dCo_isArea_19 (by decide) ?_
  refine wm_pick (lv' := []) [] rfl ?_
  exact w_Co_isArea_20 E hQ hR hI 0 h
def S_Co_isArea (v0 : Option Nat) (μ : Mem) : Option Int32 := b1 (gI μ v0 2 0) (fun x1 => if x1 < 3 then B_Co_isArea_19 μ  else b1 (rc μ v0 2) (fun _ => b1 (S_Co_doubledSurface v0 μ) (fun x9 => if x9 = 0 then B_Co_isArea_19 μ  else B_Co_isArea_20 μ 1)))
set_option maxHeartbeats 4000000 in
set_option maxRecDepth 100000 in
theorem C_Co_isArea (l : Launch) (G : GG) (v0 : Option Nat) (μ : Mem) (r : Int32) (h : S_Co_isArea v0 μ = some r) : CT l G y_Co_isArea prog_3_method_3_code 1 (some .boolean) 2 0 0 44 μ [vR v0] (some (vI r)) μ := by
  refine wm_met (lv := [(0, vR v0)]) (by decide +kernel) (Nat.le_of_ble_eq_true rfl) rfl (fun X E hQ hR hI => ?_)
  have h : (b1 (gI μ v0 2 0) (fun x1 => if x1 < 3 then B_Co_isArea_19 μ  else b1 (rc μ v0 2) (fun _ => b1 (S_Co_doubledSurface v0 μ) (fun x9 => if x9 = 0 then B_Co_isArea_19 μ  else B_Co_isArea_20 μ 1)))) = some r := h
  refine wm_aload_n E dCo_isArea_0 rfl (j := 0) rfl ?_
  refine wm_gI E fd_Co_9 h dCo_isArea_1 (fun x1 h => ?_)
  refine wm_iconst (x := 3) E dCo_isArea_4 (by decide) ?_
  refine wm_icmp_lt (tgt := 19) E dCo_isArea_5 (by decide) (fun c5 => ?_) (fun c5 => ?_)
  · have h := (if_pos c5).symm.trans h
    refine wm_pick (lv' := []) [] rfl ?_
    exact w_Co_isArea_19 E hQ hR hI  h
  · have h := (if_neg c5).symm.trans h
    refine wm_aload_n E dCo_isArea_8 rfl (j := 0) rfl ?_
    obtain ⟨u9, hr9, h⟩ := b1S h
    obtain ⟨x9, hc9, h⟩ := b1S h
    refine wm_cV (ci := 2) (As := []) (st := []) E lk_Co_28 rfl im_Co_doubledSurface sl_Co_doubledSurface hr9 (C_Co_doubledSurface (xl X) X.1 v0 μ _ hc9) rfl rfl (by rw [hR]; decide) (by rw [hR]; decide) (Nat.le_of_ble_eq_true rfl) dCo_isArea_9 ?_
    refine wm_if_eq (tgt := 19) E dCo_isArea_12 (by decide) (fun c12 => ?_) (fun c12 => ?_)
    · have h := (if_pos c12).symm.trans h
      refine wm_pick (lv' := []) [] rfl ?_
      exact w_Co_isArea_19 E hQ hR hI  h
    · have h := (if_neg c12).symm.trans h
      refine wm_iconst (x := 1) E dCo_isArea_15 (by decide) ?_
      refine wm_goto (tgt := 20) E dCo_isArea_16 (by decide) ?_
      refine wm_pick (lv' := []) [] rfl ?_
      exact w_Co_isArea_20 E hQ hR hI 1 h
def B_Pl_takesShapeFrom_34 (μ : Mem)   (s0 : Int32) : Option Int32 := gd (¬ okZ s0 = true) (some (s0))
set_option maxHeartbeats 4000000 in
set_option maxRecDepth 100000 in
theorem w_Pl_takesShapeFrom_34 {X : CX} (E : EV X prog_8_method_2_code 3 "PlaceFinder$Place" (some .boolean)) {μ0 μ : Mem} {r : Int32} (hQ : RQ X 0 0 μ0 (some (vI r)) μ) (hR : xR X = { frames := 1, cells := 0, slots := 0, locals := 20 }) (hI : X.2.2.2.2.2.2.2.2.2.2.2.1.name = "takesShapeFrom")  (s0 : Int32) (h : B_Pl_takesShapeFrom_34 μ  s0 = some r) : WM X 3 34 [] [vI s0] 0 0 μ := by
  have h : (gd (¬ okZ s0 = true) (some (s0))) = some r := h
  obtain ⟨hz34, h⟩ := gdS h
  exact wm_zret (rt := .boolean) E hQ (rqI1 h) rfl (okZN hz34) (by decide) (by decide) dPl_takesShapeFrom_34
def B_Pl_takesShapeFrom_33 (μ : Mem)    : Option Int32 := B_Pl_takesShapeFrom_34 μ 0
set_option maxHeartbeats 4000000 in
set_option maxRecDepth 100000 in
theorem w_Pl_takesShapeFrom_33 {X : CX} (E : EV X prog_8_method_2_code 3 "PlaceFinder$Place" (some .boolean)) {μ0 μ : Mem} {r : Int32} (hQ : RQ X 0 0 μ0 (some (vI r)) μ) (hR : xR X = { frames := 1, cells := 0, slots := 0, locals := 20 }) (hI : X.2.2.2.2.2.2.2.2.2.2.2.1.name = "takesShapeFrom")   (h : B_Pl_takesShapeFrom_33 μ   = some r) : WM X 3 33 [] [] 0 0 μ := by
  have h : (B_Pl_takesShapeFrom_34 μ 0) = some r := h
  refine wm_iconst (x := 0) E dPl_takesShapeFrom_33 (by decide) ?_
  refine wm_pick (lv' := []) [] rfl ?_
  exact w_Pl_takesShapeFrom_34 E hQ hR hI 0 h
def B_Pl_takesShapeFrom_29 (μ : Mem)    : Option Int32 := B_Pl_takesShapeFrom_34 μ 1
set_option maxHeartbeats 4000000 in
set_option maxRecDepth 100000 in
theorem w_Pl_takesShapeFrom_29 {X : CX} (E : EV X prog_8_method_2_code 3 "PlaceFinder$Place" (some .boolean)) {μ0 μ : Mem} {r : Int32} (hQ : RQ X 0 0 μ0 (some (vI r)) μ) (hR : xR X = { frames := 1, cells := 0, slots := 0, locals := 20 }) (hI : X.2.2.2.2.2.2.2.2.2.2.2.1.name = "takesShapeFrom")   (h : B_Pl_takesShapeFrom_29 μ   = some r) : WM X 3 29 [] [] 0 0 μ := by
  have h : (B_Pl_takesShapeFrom_34 μ 1) = some r := h
  refine wm_iconst (x := 1) E dPl_takesShapeFrom_29 (by decide) ?_
  refine wm_goto (tgt := 34) E dPl_takesShapeFrom_30 (by decide) ?_
  refine wm_pick (lv' := []) [] rfl ?_
  exact w_Pl_takesShapeFrom_34 E hQ hR hI 1 h
def S_Pl_takesShapeFrom (v0 : Option Nat) (v1 : Int32) (μ : Mem) : Option Int32 := b1 (gR μ v0 7 3) (fun x1 => b1 (rc μ x1 0) (fun _ => b1 (S_Al_size x1 μ) (fun x4 => if 3 ≤ x4 then B_Pl_takesShapeFrom_33 μ  else if x4 = 0 then B_Pl_takesShapeFrom_29 μ  else b1 (gR μ v0 7 4) (fun x18 => b1 (aI μ x18 0 (x4 - 1)) (fun x24 => if v1 ≤ x24 then B_Pl_takesShapeFrom_33 μ  else B_Pl_takesShapeFrom_29 μ )))))
set_option maxHeartbeats 4000000 in
set_option maxRecDepth 100000 in
theorem C_Pl_takesShapeFrom (l : Launch) (G : GG) (v0 : Option Nat) (v1 : Int32) (μ : Mem) (r : Int32) (h : S_Pl_takesShapeFrom v0 v1 μ = some r) : CT l G y_Pl_takesShapeFrom prog_8_method_2_code 3 (some .boolean) 1 0 0 20 μ [vR v0, vI v1] (some (vI r)) μ := by
  refine wm_met (lv := [(0, vR v0), (1, vI v1)]) (by decide +kernel) (Nat.le_of_ble_eq_true rfl) rfl (fun X E hQ hR hI => ?_)
  have h : (b1 (gR μ v0 7 3) (fun x1 => b1 (rc μ x1 0) (fun _ => b1 (S_Al_size x1 μ) (fun x4 => if 3 ≤ x4 then B_Pl_takesShapeFrom_33 μ  else if x4 = 0 then B_Pl_takesShapeFrom_29 μ  else b1 (gR μ v0 7 4) (fun x18 => b1 (aI μ x18 0 (x4 - 1)) (fun x24 => if v1 ≤ x24 then B_Pl_takesShapeFrom_33 μ  else B_Pl_takesShapeFrom_29 μ )))))) = some r := h
  refine wm_aload_n E dPl_takesShapeFrom_0 rfl (j := 0) rfl ?_
  refine wm_gR E fd_Pl_18 h dPl_takesShapeFrom_1 (fun x1 h => ?_)
  obtain ⟨u4, hr4, h⟩ := b1S h
  obtain ⟨x4, hc4, h⟩ := b1S h
  refine wm_cV (ci := 0) (As := []) (st := []) E lk_Pl_38 rfl im_Al_size sl_Al_size hr4 (C_Al_size (xl X) X.1 x1 μ _ hc4) rfl rfl (by rw [hR]; decide) (by rw [hR]; decide) (Nat.le_of_ble_eq_true rfl) dPl_takesShapeFrom_4 ?_
  refine wm_istore_n (lv' := [(2, vI x4), (0, vR v0), (1, vI v1)]) E dPl_takesShapeFrom_7 rfl (by decide) rfl ?_
  refine wm_iload_n E dPl_takesShapeFrom_8 rfl (j := 0) rfl ?_
  refine wm_iconst (x := 3) E dPl_takesShapeFrom_9 (by decide) ?_
  refine wm_icmp_ge (tgt := 33) E dPl_takesShapeFrom_10 (by decide) (fun c10 => ?_) (fun c10 => ?_)
  · have h := (if_pos c10).symm.trans h
    refine wm_pick (lv' := []) [] rfl ?_
    exact w_Pl_takesShapeFrom_33 E hQ hR hI  h
  · have h := (if_neg c10).symm.trans h
    refine wm_iload_n E dPl_takesShapeFrom_13 rfl (j := 0) rfl ?_
    refine wm_if_eq (tgt := 29) E dPl_takesShapeFrom_14 (by decide) (fun c14 => ?_) (fun c14 => ?_)
    · have h := (if_pos c14).symm.trans h
      refine wm_pick (lv' := []) [] rfl ?_
      exact w_Pl_takesShapeFrom_29 E hQ hR hI  h
    · have h := (if_neg c14).symm.trans h
      refine wm_aload_n E dPl_takesShapeFrom_17 rfl (j := 1) rfl ?_
      refine wm_gR E fd_Pl_22 h dPl_takesShapeFrom_18 (fun x18 h => ?_)
      refine wm_iload_n E dPl_takesShapeFrom_21 rfl (j := 0) rfl ?_
      refine wm_iconst (x := 1) E dPl_takesShapeFrom_22 (by decide) ?_
      refine wm_isub E dPl_takesShapeFrom_23 ?_
      refine wm_iald (t := 0) E rfl h dPl_takesShapeFrom_24 (fun x24 h => ?_)
      refine wm_iload_n E dPl_takesShapeFrom_25 rfl (j := 2) rfl ?_
      refine wm_icmp_ge (tgt := 33) E dPl_takesShapeFrom_26 (by decide) (fun c26 => ?_) (fun c26 => ?_)
      · have h := (if_pos c26).symm.trans h
        refine wm_pick (lv' := []) [] rfl ?_
        exact w_Pl_takesShapeFrom_33 E hQ hR hI  h
      · have h := (if_neg c26).symm.trans h
        refine wm_pick (lv' := []) [] rfl ?_
        exact w_Pl_takesShapeFrom_29 E hQ hR hI  h
def B_Pl_addShape_33   (μ : Mem) : Option (Unit × Mem) := some ((), μ)
set_option maxHeartbeats 4000000 in
set_option maxRecDepth 100000 in
theorem w_Pl_addShape_33 {X : CX} (E : EV X prog_8_method_3_code 3 "PlaceFinder$Place" none) {μ0 μ' : Mem} {r : Unit} (hQ : RQ X 1 33 μ0 none μ') (hR : xR X = { frames := 7, cells := 1, slots := 33, locals := 191 }) (hI : X.2.2.2.2.2.2.2.2.2.2.2.1.name = "addShape")   (μ : Mem) (h : B_Pl_addShape_33   μ = some (r, μ')) : WM X 3 33 [] [] 1 33 μ := by
  have h : (some ((), μ)) = some (r, μ') := h
  exact wm_vret E hQ rfl (rtM h) (by decide) (by decide) dPl_addShape_33
def S_Pl_addShape (v0 : Option Nat) (v1 : Option Nat) (v2 : Int32) (μ : Mem) : Option (Unit × Mem) := b1 (gR μ v0 7 3) (fun x1 => b1 (rc μ x1 0) (fun _ => b1 (S_Al_size x1 μ) (fun x4 => if 3 ≤ x4 then B_Pl_addShape_33 μ else b1 (gR μ v0 7 4) (fun x12 => b1 (gR μ v0 7 3) (fun x16 => b1 (rc μ x16 0) (fun _ => b1 (S_Al_size x16 μ) (fun x19 => b1 (sI μ x12 0 x19 v2) (fun m23 => b1 (gR m23 v0 7 3) (fun x25 => b1 (rc m23 x25 0) (fun _ => b2 (S_Al_add x25 v1 m23) (fun x29 m29 => B_Pl_addShape_33 m29)))))))))))
set_option maxHeartbeats 4000000 in
set_option maxRecDepth 100000 in
theorem C_Pl_addShape (l : Launch) (G : GG) (v0 : Option Nat) (v1 : Option Nat) (v2 : Int32) (μ μ' : Mem) (r : Unit) (h : S_Pl_addShape v0 v1 v2 μ = some (r, μ')) : CT l G y_Pl_addShape prog_8_method_3_code 3 none 7 1 33 191 μ [vR v0, vR v1, vI v2] none μ' := by
  refine wm_met (lv := [(0, vR v0), (1, vR v1), (2, vI v2)]) (by decide +kernel) (Nat.le_of_ble_eq_true rfl) rfl (fun X E hQ hR hI => ?_)
  have h : (b1 (gR μ v0 7 3) (fun x1 => b1 (rc μ x1 0) (fun _ => b1 (S_Al_size x1 μ) (fun x4 => if 3 ≤ x4 then B_Pl_addShape_33 μ else b1 (gR μ v0 7 4) (fun x12 => b1 (gR μ v0 7 3) (fun x16 => b1 (rc μ x16 0) (fun _ => b1 (S_Al_size x16 μ) (fun x19 => b1 (sI μ x12 0 x19 v2) (fun m23 => b1 (gR m23 v0 7 3) (fun x25 => b1 (rc m23 x25 0) (fun _ => b2 (S_Al_add x25 v1 m23) (fun x29 m29 => B_Pl_addShape_33 m29)))))))))))) = some (r, μ') := h
  refine wm_aload_n E dPl_addShape_0 rfl (j := 0) rfl ?_
  refine wm_gR E fd_Pl_18 h dPl_addShape_1 (fun x1 h => ?_)
  obtain ⟨u4, hr4, h⟩ := b1S h
  obtain ⟨x4, hc4, h⟩ := b1S h
  refine wm_cV (ci := 0) (As := []) (st := []) E lk_Pl_38 rfl im_Al_size sl_Al_size hr4 (C_Al_size (xl X) X.1 x1 μ _ hc4) rfl rfl (by rw [hR]; decide) (by rw [hR]; decide) (Nat.le_of_ble_eq_true rfl) dPl_addShape_4 ?_
  refine wm_iconst (x := 3) E dPl_addShape_7 (by decide) ?_
  refine wm_icmp_ge (tgt := 33) E dPl_addShape_8 (by decide) (fun c8 => ?_) (fun c8 => ?_)
  · have h := (if_pos c8).symm.trans h
    refine wm_widen (k := 1) (n := 33) (by decide) (by decide) ?_
    refine wm_pick (lv' := []) [] rfl ?_
    exact w_Pl_addShape_33 E hQ hR hI μ h
  · have h := (if_neg c8).symm.trans h
    refine wm_aload_n E dPl_addShape_11 rfl (j := 0) rfl ?_
    refine wm_gR E fd_Pl_22 h dPl_addShape_12 (fun x12 h => ?_)
    refine wm_aload_n E dPl_addShape_15 rfl (j := 0) rfl ?_
    refine wm_gR E fd_Pl_18 h dPl_addShape_16 (fun x16 h => ?_)
    obtain ⟨u19, hr19, h⟩ := b1S h
    obtain ⟨x19, hc19, h⟩ := b1S h
    refine wm_cV (ci := 0) (As := []) (st := [vR x12]) E lk_Pl_38 rfl im_Al_size sl_Al_size hr19 (C_Al_size (xl X) X.1 x16 μ _ hc19) rfl rfl (by rw [hR]; decide) (by rw [hR]; decide) (Nat.le_of_ble_eq_true rfl) dPl_addShape_19 ?_
    refine wm_iload_n E dPl_addShape_22 rfl (j := 2) rfl ?_
    refine wm_iast (t := 0) E rfl h dPl_addShape_23 (fun m23 h => ?_)
    refine wm_aload_n E dPl_addShape_24 rfl (j := 0) rfl ?_
    refine wm_gR E fd_Pl_18 h dPl_addShape_25 (fun x25 h => ?_)
    refine wm_aload_n E dPl_addShape_28 rfl (j := 1) rfl ?_
    obtain ⟨u29, hr29, h⟩ := b1S h
    obtain ⟨x29, m29, hc29, h⟩ := b2S h
    refine wm_cV (ci := 0) (As := [vR v1]) (st := []) E lk_Pl_42 rfl im_Al_add sl_Al_add hr29 (C_Al_add (xl X) X.1 x25 v1 m23 _ _ hc29) rfl rfl (by rw [hR]; decide) (by rw [hR]; decide) (Nat.le_of_ble_eq_true rfl) dPl_addShape_29 ?_
    refine wm_pop E dPl_addShape_32 rfl ?_
    refine wm_pick (lv' := []) [] rfl ?_
    exact w_Pl_addShape_33 E hQ hR hI m29 h
def B_P_shape_17   (μ : Mem) : Option ((Nat ⊕ Unit) × Mem) := some (.inl 0, μ)
set_option maxHeartbeats 4000000 in
set_option maxRecDepth 100000 in
theorem w_P_shape_17 {X : CX} (E : EV X prog_1_method_4_code 5 "PlaceFinder" none) {μ0 μ' : Mem} {r : (Nat ⊕ Unit)} (hQ : RQ2 X 4 52 μ0 (cvV r) μ') (hR : xR X = { frames := 8, cells := 4, slots := 52, locals := 213 }) (hI : X.2.2.2.2.2.2.2.2.2.2.2.1.name = "shape")   (μ : Mem) (h : B_P_shape_17   μ = some (r, μ')) : WM X 5 17 [] [] 0 0 μ := by
  have h : (some (.inl 0, μ)) = some (r, μ') := h
  obtain ⟨μs, hX⟩ := rqXV hQ h
  exact wm_throw (ln := 2) (names := exU) (cls := "java/lang/IllegalArgumentException") E tf_P_91_131 hX ⟨(by rw [hR]; decide), by decide⟩ ⟨(by rw [hR]; decide), by decide⟩ (by rw [hR]; decide) (by rw [hR]; decide) (Nat.le_of_ble_eq_true rfl) dP_shape_17 dP_shape_20 (Or.inl ⟨rfl, dP_shape_21⟩) dP_shape_23 dP_shape_26
def B_P_shape_74  (v0 : Option Nat) (v2 : Int32) (v3 : Option Nat) (v4 : Option Nat) (μ : Mem) : Option ((Nat ⊕ Unit) × Mem) := b1 (rc μ v3 7) (fun _ => b1 (S_Pl_takesShapeFrom v3 v2 μ) (fun x76 => if x76 = 0 then some (.inl 1, μ) else b1 (rc μ v3 7) (fun _ => b2 (S_Pl_addShape v3 v4 v2 μ) (fun x96 m96 => b1 (pV m96 v0 11 3 (vI 0)) (fun m101 => some (.inr (), m101))))))
set_option maxHeartbeats 4000000 in
set_option maxRecDepth 100000 in
theorem w_P_shape_74 {X : CX} (E : EV X prog_1_method_4_code 5 "PlaceFinder" none) {μ0 μ' : Mem} {r : (Nat ⊕ Unit)} (hQ : RQ2 X 4 52 μ0 (cvV r) μ') (hR : xR X = { frames := 8, cells := 4, slots := 52, locals := 213 }) (hI : X.2.2.2.2.2.2.2.2.2.2.2.1.name = "shape")  (v0 : Option Nat) (v2 : Int32) (v3 : Option Nat) (v4 : Option Nat) (μ : Mem) (h : B_P_shape_74  v0 v2 v3 v4 μ = some (r, μ')) : WM X 5 74 [(0, vR v0), (2, vI v2), (3, vR v3), (4, vR v4)] [] 3 19 μ := by
  have h : (b1 (rc μ v3 7) (fun _ => b1 (S_Pl_takesShapeFrom v3 v2 μ) (fun x76 => if x76 = 0 then some (.inl 1, μ) else b1 (rc μ v3 7) (fun _ => b2 (S_Pl_addShape v3 v4 v2 μ) (fun x96 m96 => b1 (pV m96 v0 11 3 (vI 0)) (fun m101 => some (.inr (), m101))))))) = some (r, μ') := h
  refine wm_aload_n E dP_shape_74 rfl (j := 2) rfl ?_
  refine wm_iload_n E dP_shape_75 rfl (j := 1) rfl ?_
  obtain ⟨u76, hr76, h⟩ := b1S h
  obtain ⟨x76, hc76, h⟩ := b1S h
  refine wm_cV (ci := 7) (As := [vI v2]) (st := []) E lk_P_142 rfl im_Pl_takesShapeFrom sl_Pl_takesShapeFrom hr76 (C_Pl_takesShapeFrom (xl X) X.1 v3 v2 μ _ hc76) rfl rfl (by rw [hR]; decide) (by rw [hR]; decide) (Nat.le_of_ble_eq_true rfl) dP_shape_76 ?_
  refine wm_if_ne (tgt := 92) E dP_shape_79 (by decide) (fun c79 => ?_) (fun c79 => ?_)
  · have h := (if_neg c79).symm.trans h
    refine wm_aload_n E dP_shape_92 rfl (j := 2) rfl ?_
    refine wm_aload E dP_shape_93 (j := 3) rfl ?_
    refine wm_iload_n E dP_shape_95 rfl (j := 1) rfl ?_
    obtain ⟨u96, hr96, h⟩ := b1S h
    obtain ⟨x96, m96, hc96, h⟩ := b2S h
    refine wm_cV (ci := 7) (As := [vR v4, vI v2]) (st := []) E lk_P_147 rfl im_Pl_addShape sl_Pl_addShape hr96 (C_Pl_addShape (xl X) X.1 v3 v4 v2 μ _ _ hc96) rfl rfl (by rw [hR]; decide) (by rw [hR]; decide) (Nat.le_of_ble_eq_true rfl) dP_shape_96 ?_
    refine wm_aload_n E dP_shape_99 rfl (j := 0) rfl ?_
    refine wm_iconst (x := 0) E dP_shape_100 (by decide) ?_
    refine wm_pI E fp_P_23 (fun q => by cases q) h dP_shape_101 (fun m101 h => ?_)
    exact wm_vret E (rqV hQ h) rfl rfl (by decide) (by decide) dP_shape_104
  · have h := (if_pos c79).symm.trans h
    obtain ⟨μs, hX⟩ := rqXV hQ h
    exact wm_throw (ln := 2) (names := exU) (cls := "java/lang/IllegalStateException") E tf_P_102_145 hX ⟨(by rw [hR]; decide), by decide⟩ ⟨(by rw [hR]; decide), by decide⟩ (by rw [hR]; decide) (by rw [hR]; decide) (Nat.le_of_ble_eq_true rfl) dP_shape_82 dP_shape_85 (Or.inl ⟨rfl, dP_shape_86⟩) dP_shape_88 dP_shape_91
def S_P_shape (v0 : Option Nat) (v1 : Int32) (v2 : Int32) (μ : Mem) : Option ((Nat ⊕ Unit) × Mem) := b1 (rc μ v0 11) (fun _ => b1 (S_P_placeOf v0 v1 μ) (fun x2 => if x2 = none then B_P_shape_17 μ else b1 (S_P_isDay v2 μ) (fun x11 => if x11 = 0 then B_P_shape_17 μ else b2 (nO μ 2 [.int 0, .null, .null]) (fun x27 m27 => b1 (gR m27 v0 11 1) (fun x32 => b1 (gR m27 v0 11 2) (fun x36 => b1 (gI m27 v0 11 3) (fun x40 => b1 (rc m27 x27 2) (fun _ => b2 (S_Co_init x27 x32 x36 x40 m27) (fun x43 m43 => b1 (rc m43 x27 2) (fun _ => b1 (S_Co_isPoint x27 m43) (fun x50 => if x50 = 0 then b1 (rc m43 x27 2) (fun _ => b1 (S_Co_isArea x27 m43) (fun x58 => if x58 = 0 then some (.inl 0, m43) else B_P_shape_74 v0 v2 x2 x27 m43)) else B_P_shape_74 v0 v2 x2 x27 m43)))))))))))
set_option maxHeartbeats 4000000 in
set_option maxRecDepth 100000 in
theorem w_P_shape_e {X : CX} (E : EV X prog_1_method_4_code 5 "PlaceFinder" none) {μ0 μ' : Mem} {r : (Nat ⊕ Unit)} (hQ : RQ2 X 4 52 μ0 (cvV r) μ') (hR : xR X = { frames := 8, cells := 4, slots := 52, locals := 213 }) (hI : X.2.2.2.2.2.2.2.2.2.2.2.1.name = "shape") (v0 : Option Nat) (v1 : Int32) (v2 : Int32) (μ : Mem) (h : S_P_shape v0 v1 v2 μ = some (r, μ')) : WM X 5 0 [(0, vR v0), (1, vI v1), (2, vI v2)] [] 0 0 μ := by
  have h : (b1 (rc μ v0 11) (fun _ => b1 (S_P_placeOf v0 v1 μ) (fun x2 => if x2 = none then B_P_shape_17 μ else b1 (S_P_isDay v2 μ) (fun x11 => if x11 = 0 then B_P_shape_17 μ else b2 (nO μ 2 [.int 0, .null, .null]) (fun x27 m27 => b1 (gR m27 v0 11 1) (fun x32 => b1 (gR m27 v0 11 2) (fun x36 => b1 (gI m27 v0 11 3) (fun x40 => b1 (rc m27 x27 2) (fun _ => b2 (S_Co_init x27 x32 x36 x40 m27) (fun x43 m43 => b1 (rc m43 x27 2) (fun _ => b1 (S_Co_isPoint x27 m43) (fun x50 => if x50 = 0 then b1 (rc m43 x27 2) (fun _ => b1 (S_Co_isArea x27 m43) (fun x58 => if x58 = 0 then some (.inl 0, m43) else B_P_shape_74 v0 v2 x2 x27 m43)) else B_P_shape_74 v0 v2 x2 x27 m43)))))))))))) = some (r, μ') := h
  refine wm_aload_n E dP_shape_0 rfl (j := 0) rfl ?_
  refine wm_iload_n E dP_shape_1 rfl (j := 1) rfl ?_
  obtain ⟨u2, hr2, h⟩ := b1S h
  obtain ⟨x2, hc2, h⟩ := b1S h
  refine wm_cV (ci := 11) (As := [vI v1]) (st := []) E lk_P_124 rfl im_P_placeOf sl_P_placeOf hr2 (C_P_placeOf (xl X) X.1 v0 v1 μ _ hc2) rfl rfl (by rw [hR]; decide) (by rw [hR]; decide) (Nat.le_of_ble_eq_true rfl) dP_shape_2 ?_
  refine wm_astore_n (lv' := [(3, vR x2), (0, vR v0), (1, vI v1), (2, vI v2)]) E dP_shape_5 rfl (by decide) rfl ?_
  refine wm_aload_n E dP_shape_6 rfl (j := 0) rfl ?_
  refine wm_ifnull (tgt := 17) E dP_shape_7 (by decide) (fun c7 => ?_) (fun c7 => ?_)
  · have h := (if_pos c7).symm.trans h
    refine wm_pick (lv' := []) [] rfl ?_
    exact w_P_shape_17 E hQ hR hI μ h
  · have h := (if_neg c7).symm.trans h
    refine wm_iload_n E dP_shape_10 rfl (j := 3) rfl ?_
    obtain ⟨x11, hc11, h⟩ := b1S h
    refine wm_cS (As := [vI v2]) (st := []) E lk_P_128 sc_P_isDay (C_P_isDay (xl X) X.1 v2 μ _ hc11) rfl rfl (by rw [hR]; decide) (by rw [hR]; decide) (Nat.le_of_ble_eq_true rfl) dP_shape_11 ?_
    refine wm_if_ne (tgt := 27) E dP_shape_14 (by decide) (fun c14 => ?_) (fun c14 => ?_)
    · have h := (if_neg c14).symm.trans h
      refine wm_new E nd_P_27 h (by rw [hR]; decide) (by rw [hR]; decide) dP_shape_27 (fun x27 m27 h => ?_)
      refine wm_dup E dP_shape_30 rfl ?_
      refine wm_aload_n E dP_shape_31 rfl (j := 1) rfl ?_
      refine wm_gR E fd_P_16 h dP_shape_32 (fun x32 h => ?_)
      refine wm_aload_n E dP_shape_35 rfl (j := 1) rfl ?_
      refine wm_gR E fd_P_20 h dP_shape_36 (fun x36 h => ?_)
      refine wm_aload_n E dP_shape_39 rfl (j := 1) rfl ?_
      refine wm_gI E fd_P_23 h dP_shape_40 (fun x40 h => ?_)
      obtain ⟨u43, hr43, h⟩ := b1S h
      obtain ⟨x43, m43, hc43, h⟩ := b2S h
      refine wm_cI (ci := 2) (As := [vR x32, vR x36, vI x40]) (st := [vR x27]) E lk_P_29 rfl rfl im_Co_init hr43 (C_Co_init (xl X) X.1 x27 x32 x36 x40 m27 _ _ hc43) rfl rfl (by rw [hR]; decide) (by rw [hR]; decide) (Nat.le_of_ble_eq_true rfl) dP_shape_43 ?_
      refine wm_astore (lv' := [(4, vR x27), (3, vR x2), (0, vR v0), (1, vI v1), (2, vI v2)]) E dP_shape_46 (by decide) rfl ?_
      refine wm_aload E dP_shape_48 (j := 0) rfl ?_
      obtain ⟨u50, hr50, h⟩ := b1S h
      obtain ⟨x50, hc50, h⟩ := b1S h
      refine wm_cV (ci := 2) (As := []) (st := []) E lk_P_133 rfl im_Co_isPoint sl_Co_isPoint hr50 (C_Co_isPoint (xl X) X.1 x27 m43 _ hc50) rfl rfl (by rw [hR]; decide) (by rw [hR]; decide) (Nat.le_of_ble_eq_true rfl) dP_shape_50 ?_
      refine wm_if_ne (tgt := 74) E dP_shape_53 (by decide) (fun c53 => ?_) (fun c53 => ?_)
      · have h := (if_neg c53).symm.trans h
        refine wm_pick (lv' := [(0, vR v0), (2, vI v2), (3, vR x2), (4, vR x27)]) [2, 4, 1, 0] rfl ?_
        exact w_P_shape_74 E hQ hR hI v0 v2 x2 x27 m43 h
      · have h := (if_pos c53).symm.trans h
        refine wm_aload E dP_shape_56 (j := 0) rfl ?_
        obtain ⟨u58, hr58, h⟩ := b1S h
        obtain ⟨x58, hc58, h⟩ := b1S h
        refine wm_cV (ci := 2) (As := []) (st := []) E lk_P_137 rfl im_Co_isArea sl_Co_isArea hr58 (C_Co_isArea (xl X) X.1 x27 m43 _ hc58) rfl rfl (by rw [hR]; decide) (by rw [hR]; decide) (Nat.le_of_ble_eq_true rfl) dP_shape_58 ?_
        refine wm_if_ne (tgt := 74) E dP_shape_61 (by decide) (fun c61 => ?_) (fun c61 => ?_)
        · have h := (if_neg c61).symm.trans h
          refine wm_pick (lv' := [(0, vR v0), (2, vI v2), (3, vR x2), (4, vR x27)]) [2, 4, 1, 0] rfl ?_
          exact w_P_shape_74 E hQ hR hI v0 v2 x2 x27 m43 h
        · have h := (if_pos c61).symm.trans h
          obtain ⟨μs, hX⟩ := rqXV hQ h
          exact wm_throw (ln := 2) (names := exU) (cls := "java/lang/IllegalArgumentException") E tf_P_91_140 hX ⟨(by rw [hR]; decide), by decide⟩ ⟨(by rw [hR]; decide), by decide⟩ (by rw [hR]; decide) (by rw [hR]; decide) (Nat.le_of_ble_eq_true rfl) dP_shape_64 dP_shape_67 (Or.inl ⟨rfl, dP_shape_68⟩) dP_shape_70 dP_shape_73
    · have h := (if_pos c14).symm.trans h
      refine wm_pick (lv' := []) [] rfl ?_
      exact w_P_shape_17 E hQ hR hI μ h
theorem C_P_shape (l : Launch) (G : GG) (v0 : Option Nat) (v1 : Int32) (v2 : Int32) (μ μ' : Mem) (r : Unit) (h : S_P_shape v0 v1 v2 μ = some (.inr r, μ')) : CT l G y_P_shape prog_1_method_4_code 5 none 8 4 52 213 μ [vR v0, vI v1, vI v2] none μ' := by
  refine wm_met (lv := [(0, vR v0), (1, vI v1), (2, vI v2)]) (by decide +kernel) (Nat.le_of_ble_eq_true rfl) rfl (fun X E hQ hR hI => ?_)
  exact w_P_shape_e (r := .inr r) E hQ hR hI v0 v1 v2 μ h
theorem X_P_shape (l : Launch) (hl : LF l) (G : GG) (v0 : Option Nat) (v1 : Int32) (v2 : Int32) (μ μ' : Mem) (k : Nat) (h : S_P_shape v0 v1 v2 (m_up μ) = some (.inl k, μ')) : CZ l G y_P_shape prog_1_method_4_code 5 none 8 4 52 213 μ [vR v0, vI v1, vI v2] (exN k) := by
  refine wm_metX hl (lv := [(0, vR v0), (1, vI v1), (2, vI v2)]) (by decide +kernel) (Nat.le_of_ble_eq_true rfl) rfl (fun X E hX hR hI => ?_)
  exact w_P_shape_e (μ0 := μ) (r := .inl k) E ⟨μ, hX⟩ hR hI v0 v1 v2 (m_up μ) h
def B_P_route_29  (v0 : Option Nat) (s0 : Option Nat) (s1 : Option Nat) (s2 : Option Nat) (s3 : Option Nat) (s4 : Option Nat) (s5 : Int32) (μ : Mem) : Option (Unit × Mem) := b1 (rc μ s2 2) (fun _ => b2 (S_Co_init s2 s3 s4 s5 μ) (fun x29 m29 => b1 (pV m29 s0 11 4 (vR s1)) (fun m32 => b1 (pV m32 v0 11 3 (vI 0)) (fun m37 => some ((), m37)))))
set_option maxHeartbeats 4000000 in
set_option maxRecDepth 100000 in
theorem w_P_route_29 {X : CX} (E : EV X prog_1_method_5_code 1 "PlaceFinder" none) {μ0 μ' : Mem} {r : Unit} (hQ : RQ X 3 19 μ0 none μ') (hR : xR X = { frames := 3, cells := 3, slots := 19, locals := 105 }) (hI : X.2.2.2.2.2.2.2.2.2.2.2.1.name = "route")  (v0 : Option Nat) (s0 : Option Nat) (s1 : Option Nat) (s2 : Option Nat) (s3 : Option Nat) (s4 : Option Nat) (s5 : Int32) (μ : Mem) (h : B_P_route_29  v0 s0 s1 s2 s3 s4 s5 μ = some (r, μ')) : WM X 1 29 [(0, vR v0)] [vI s5, vR s4, vR s3, vR s2, vR s1, vR s0] 1 3 μ := by
  have h : (b1 (rc μ s2 2) (fun _ => b2 (S_Co_init s2 s3 s4 s5 μ) (fun x29 m29 => b1 (pV m29 s0 11 4 (vR s1)) (fun m32 => b1 (pV m32 v0 11 3 (vI 0)) (fun m37 => some ((), m37)))))) = some (r, μ') := h
  obtain ⟨u29, hr29, h⟩ := b1S h
  obtain ⟨x29, m29, hc29, h⟩ := b2S h
  refine wm_cI (ci := 2) (As := [vR s3, vR s4, vI s5]) (st := [vR s1, vR s0]) E lk_P_29 rfl rfl im_Co_init hr29 (C_Co_init (xl X) X.1 s2 s3 s4 s5 μ _ _ hc29) rfl rfl (by rw [hR]; decide) (by rw [hR]; decide) (Nat.le_of_ble_eq_true rfl) dP_route_29 ?_
  refine wm_pR E fp_P_32 (Or.inl ⟨_, rfl⟩) (fun q => by cases q) h dP_route_32 (fun m32 h => ?_)
  refine wm_aload_n E dP_route_35 rfl (j := 0) rfl ?_
  refine wm_iconst (x := 0) E dP_route_36 (by decide) ?_
  refine wm_pI E fp_P_23 (fun q => by cases q) h dP_route_37 (fun m37 h => ?_)
  exact wm_vret E hQ rfl (rtM h) (by decide) (by decide) dP_route_40
def S_P_route (v0 : Option Nat) (μ : Mem) : Option (Unit × Mem) := b2 (nO μ 2 [.int 0, .null, .null]) (fun x1 m1 => b1 (gR m1 v0 11 1) (fun x6 => b1 (gR m1 v0 11 2) (fun x10 => b1 (gI m1 v0 11 3) (fun x14 => if 2 ≤ x14 then b1 (gI m1 v0 11 3) (fun x26 => B_P_route_29 v0 v0 x1 x1 x6 x10 x26 m1) else B_P_route_29 v0 v0 x1 x1 x6 x10 0 m1))))
set_option maxHeartbeats 4000000 in
set_option maxRecDepth 100000 in
theorem C_P_route (l : Launch) (G : GG) (v0 : Option Nat) (μ μ' : Mem) (r : Unit) (h : S_P_route v0 μ = some (r, μ')) : CT l G y_P_route prog_1_method_5_code 1 none 3 3 19 105 μ [vR v0] none μ' := by
  refine wm_met (lv := [(0, vR v0)]) (by decide +kernel) (Nat.le_of_ble_eq_true rfl) rfl (fun X E hQ hR hI => ?_)
  have h : (b2 (nO μ 2 [.int 0, .null, .null]) (fun x1 m1 => b1 (gR m1 v0 11 1) (fun x6 => b1 (gR m1 v0 11 2) (fun x10 => b1 (gI m1 v0 11 3) (fun x14 => if 2 ≤ x14 then b1 (gI m1 v0 11 3) (fun x26 => B_P_route_29 v0 v0 x1 x1 x6 x10 x26 m1) else B_P_route_29 v0 v0 x1 x1 x6 x10 0 m1))))) = some (r, μ') := h
  refine wm_aload_n E dP_route_0 rfl (j := 0) rfl ?_
  refine wm_new E nd_P_27 h (by rw [hR]; decide) (by rw [hR]; decide) dP_route_1 (fun x1 m1 h => ?_)
  refine wm_dup E dP_route_4 rfl ?_
  refine wm_aload_n E dP_route_5 rfl (j := 0) rfl ?_
  refine wm_gR E fd_P_16 h dP_route_6 (fun x6 h => ?_)
  refine wm_aload_n E dP_route_9 rfl (j := 0) rfl ?_
  refine wm_gR E fd_P_20 h dP_route_10 (fun x10 h => ?_)
  refine wm_aload_n E dP_route_13 rfl (j := 0) rfl ?_
  refine wm_gI E fd_P_23 h dP_route_14 (fun x14 h => ?_)
  refine wm_iconst (x := 2) E dP_route_17 (by decide) ?_
  refine wm_icmp_ge (tgt := 25) E dP_route_18 (by decide) (fun c18 => ?_) (fun c18 => ?_)
  · have h := (if_pos c18).symm.trans h
    refine wm_aload_n E dP_route_25 rfl (j := 0) rfl ?_
    refine wm_gI E fd_P_23 h dP_route_26 (fun x26 h => ?_)
    refine wm_pick (lv' := [(0, vR v0)]) [0] rfl ?_
    exact w_P_route_29 E hQ hR hI v0 v0 x1 x1 x6 x10 x26 m1 h
  · have h := (if_neg c18).symm.trans h
    refine wm_iconst (x := 0) E dP_route_21 (by decide) ?_
    refine wm_goto (tgt := 29) E dP_route_22 (by decide) ?_
    refine wm_pick (lv' := [(0, vR v0)]) [0] rfl ?_
    exact w_P_route_29 E hQ hR hI v0 v0 x1 x1 x6 x10 0 m1 h
def B_P_letter_21   (μ : Mem) : Option (Int32 × Mem) := gd (¬ okZ 0 = true) (some (0, μ))
set_option maxHeartbeats 4000000 in
set_option maxRecDepth 100000 in
theorem w_P_letter_21 {X : CX} (E : EV X prog_1_method_6_code 2 "PlaceFinder" (some .boolean)) {μ0 μ' : Mem} {r : Int32} (hQ : RQ X 0 0 μ0 (some (vI r)) μ') (hR : xR X = { frames := 0, cells := 0, slots := 0, locals := 0 }) (hI : X.2.2.2.2.2.2.2.2.2.2.2.1.name = "letter")   (μ : Mem) (h : B_P_letter_21   μ = some (r, μ')) : WM X 2 21 [] [] 0 0 μ := by
  have h : (gd (¬ okZ 0 = true) (some (0, μ))) = some (r, μ') := h
  refine wm_iconst (x := 0) E dP_letter_21 (by decide) ?_
  obtain ⟨hz22, h⟩ := gdS h
  exact wm_zret (rt := .boolean) E hQ (rtI h) (rtM h) (okZN hz22) (by decide) (by decide) dP_letter_22
def S_P_letter (v0 : Option Nat) (v1 : Int32) (μ : Mem) : Option (Int32 × Mem) := if v1 < 97 then B_P_letter_21 μ else if 122 < v1 then B_P_letter_21 μ else b1 (gI μ v0 11 6) (fun x13 => if x13 < 10 then b1 (gR μ v0 11 5) (fun x24 => b1 (gI μ v0 11 6) (fun x28 => b1 (sI μ x24 2 x28 (vp_nar .char (((v1 : Int32).toUInt32 % 65536).toInt32))) (fun m33 => b1 (gI m33 v0 11 6) (fun x36 => b1 (pV m33 v0 11 6 (vI (x36 + 1))) (fun m41 => gd (¬ okZ 1 = true) (some (1, m41))))))) else B_P_letter_21 μ)
set_option maxHeartbeats 4000000 in
set_option maxRecDepth 100000 in
theorem C_P_letter (l : Launch) (G : GG) (v0 : Option Nat) (v1 : Int32) (μ μ' : Mem) (r : Int32) (h : S_P_letter v0 v1 μ = some (r, μ')) : CT l G y_P_letter prog_1_method_6_code 2 (some .boolean) 0 0 0 0 μ [vR v0, vI v1] (some (vI r)) μ' := by
  refine wm_met (lv := [(0, vR v0), (1, vI v1)]) (by decide +kernel) (Nat.le_of_ble_eq_true rfl) rfl (fun X E hQ hR hI => ?_)
  have h : (if v1 < 97 then B_P_letter_21 μ else if 122 < v1 then B_P_letter_21 μ else b1 (gI μ v0 11 6) (fun x13 => if x13 < 10 then b1 (gR μ v0 11 5) (fun x24 => b1 (gI μ v0 11 6) (fun x28 => b1 (sI μ x24 2 x28 (vp_nar .char (((v1 : Int32).toUInt32 % 65536).toInt32))) (fun m33 => b1 (gI m33 v0 11 6) (fun x36 => b1 (pV m33 v0 11 6 (vI (x36 + 1))) (fun m41 => gd (¬ okZ 1 = true) (some (1, m41))))))) else B_P_letter_21 μ)) = some (r, μ') := h
  refine wm_iload_n E dP_letter_0 rfl (j := 1) rfl ?_
  refine wm_bipush (x := 97) E dP_letter_1 (by decide) ?_
  refine wm_icmp_lt (tgt := 21) E dP_letter_3 (by decide) (fun c3 => ?_) (fun c3 => ?_)
  · have h := (if_pos c3).symm.trans h
    refine wm_pick (lv' := []) [] rfl ?_
    exact w_P_letter_21 E hQ hR hI μ h
  · have h := (if_neg c3).symm.trans h
    refine wm_iload_n E dP_letter_6 rfl (j := 1) rfl ?_
    refine wm_bipush (x := 122) E dP_letter_7 (by decide) ?_
    refine wm_icmp_gt (tgt := 21) E dP_letter_9 (by decide) (fun c9 => ?_) (fun c9 => ?_)
    · have h := (if_pos c9).symm.trans h
      refine wm_pick (lv' := []) [] rfl ?_
      exact w_P_letter_21 E hQ hR hI μ h
    · have h := (if_neg c9).symm.trans h
      refine wm_aload_n E dP_letter_12 rfl (j := 0) rfl ?_
      refine wm_gI E fd_P_40 h dP_letter_13 (fun x13 h => ?_)
      refine wm_bipush (x := 10) E dP_letter_16 (by decide) ?_
      refine wm_icmp_lt (tgt := 23) E dP_letter_18 (by decide) (fun c18 => ?_) (fun c18 => ?_)
      · have h := (if_pos c18).symm.trans h
        refine wm_aload_n E dP_letter_23 rfl (j := 0) rfl ?_
        refine wm_gR E fd_P_36 h dP_letter_24 (fun x24 h => ?_)
        refine wm_aload_n E dP_letter_27 rfl (j := 0) rfl ?_
        refine wm_gI E fd_P_40 h dP_letter_28 (fun x28 h => ?_)
        refine wm_iload_n E dP_letter_31 rfl (j := 1) rfl ?_
        refine wm_i2c E dP_letter_32 ?_
        refine wm_cast (t := 2) E rfl h dP_letter_33 (fun m33 h => ?_)
        refine wm_aload_n E dP_letter_34 rfl (j := 0) rfl ?_
        refine wm_dup E dP_letter_35 rfl ?_
        refine wm_gI E fd_P_40 h dP_letter_36 (fun x36 h => ?_)
        refine wm_iconst (x := 1) E dP_letter_39 (by decide) ?_
        refine wm_iadd E dP_letter_40 ?_
        refine wm_pI E fp_P_40 (fun q => by cases q) h dP_letter_41 (fun m41 h => ?_)
        refine wm_iconst (x := 1) E dP_letter_44 (by decide) ?_
        obtain ⟨hz45, h⟩ := gdS h
        exact wm_zret (rt := .boolean) E hQ (rtI h) (rtM h) (okZN hz45) (by decide) (by decide) dP_letter_45
      · have h := (if_neg c18).symm.trans h
        refine wm_pick (lv' := []) [] rfl ?_
        exact w_P_letter_21 E hQ hR hI μ h
def B_P_areSpan_24 (μ : Mem)   (s0 : Int32) : Option Int32 := gd (¬ okZ s0 = true) (some (s0))
set_option maxHeartbeats 4000000 in
set_option maxRecDepth 100000 in
theorem w_P_areSpan_24 {X : CX} (E : EV X prog_1_method_24_code 2 "PlaceFinder" (some .boolean)) {μ0 μ : Mem} {r : Int32} (hQ : RQ X 0 0 μ0 (some (vI r)) μ) (hR : xR X = { frames := 1, cells := 0, slots := 0, locals := 20 }) (hI : X.2.2.2.2.2.2.2.2.2.2.2.1.name = "areSpan")  (s0 : Int32) (h : B_P_areSpan_24 μ  s0 = some r) : WM X 2 24 [] [vI s0] 0 0 μ := by
  have h : (gd (¬ okZ s0 = true) (some (s0))) = some r := h
  obtain ⟨hz24, h⟩ := gdS h
  exact wm_zret (rt := .boolean) E hQ (rqI1 h) rfl (okZN hz24) (by decide) (by decide) dP_areSpan_24
def B_P_areSpan_23 (μ : Mem)    : Option Int32 := B_P_areSpan_24 μ 0
set_option maxHeartbeats 4000000 in
set_option maxRecDepth 100000 in
theorem w_P_areSpan_23 {X : CX} (E : EV X prog_1_method_24_code 2 "PlaceFinder" (some .boolean)) {μ0 μ : Mem} {r : Int32} (hQ : RQ X 0 0 μ0 (some (vI r)) μ) (hR : xR X = { frames := 1, cells := 0, slots := 0, locals := 20 }) (hI : X.2.2.2.2.2.2.2.2.2.2.2.1.name = "areSpan")   (h : B_P_areSpan_23 μ   = some r) : WM X 2 23 [] [] 0 0 μ := by
  have h : (B_P_areSpan_24 μ 0) = some r := h
  refine wm_iconst (x := 0) E dP_areSpan_23 (by decide) ?_
  refine wm_pick (lv' := []) [] rfl ?_
  exact w_P_areSpan_24 E hQ hR hI 0 h
def S_P_areSpan (v0 : Int32) (v1 : Int32) (μ : Mem) : Option Int32 := b1 (S_P_isDay v0 μ) (fun x1 => if x1 = 0 then B_P_areSpan_23 μ  else b1 (S_P_isDay v1 μ) (fun x8 => if x8 = 0 then B_P_areSpan_23 μ  else if v1 < v0 then B_P_areSpan_23 μ  else B_P_areSpan_24 μ 1))
set_option maxHeartbeats 4000000 in
set_option maxRecDepth 100000 in
theorem C_P_areSpan (l : Launch) (G : GG) (v0 : Int32) (v1 : Int32) (μ : Mem) (r : Int32) (h : S_P_areSpan v0 v1 μ = some r) : CT l G y_P_areSpan prog_1_method_24_code 2 (some .boolean) 1 0 0 20 μ [vI v0, vI v1] (some (vI r)) μ := by
  refine wm_met (lv := [(0, vI v0), (1, vI v1)]) (by decide +kernel) (Nat.le_of_ble_eq_true rfl) rfl (fun X E hQ hR hI => ?_)
  have h : (b1 (S_P_isDay v0 μ) (fun x1 => if x1 = 0 then B_P_areSpan_23 μ  else b1 (S_P_isDay v1 μ) (fun x8 => if x8 = 0 then B_P_areSpan_23 μ  else if v1 < v0 then B_P_areSpan_23 μ  else B_P_areSpan_24 μ 1))) = some r := h
  refine wm_iload_n E dP_areSpan_0 rfl (j := 0) rfl ?_
  obtain ⟨x1, hc1, h⟩ := b1S h
  refine wm_cS (As := [vI v0]) (st := []) E lk_P_128 sc_P_isDay (C_P_isDay (xl X) X.1 v0 μ _ hc1) rfl rfl (by rw [hR]; decide) (by rw [hR]; decide) (Nat.le_of_ble_eq_true rfl) dP_areSpan_1 ?_
  refine wm_if_eq (tgt := 23) E dP_areSpan_4 (by decide) (fun c4 => ?_) (fun c4 => ?_)
  · have h := (if_pos c4).symm.trans h
    refine wm_pick (lv' := []) [] rfl ?_
    exact w_P_areSpan_23 E hQ hR hI  h
  · have h := (if_neg c4).symm.trans h
    refine wm_iload_n E dP_areSpan_7 rfl (j := 1) rfl ?_
    obtain ⟨x8, hc8, h⟩ := b1S h
    refine wm_cS (As := [vI v1]) (st := []) E lk_P_128 sc_P_isDay (C_P_isDay (xl X) X.1 v1 μ _ hc8) rfl rfl (by rw [hR]; decide) (by rw [hR]; decide) (Nat.le_of_ble_eq_true rfl) dP_areSpan_8 ?_
    refine wm_if_eq (tgt := 23) E dP_areSpan_11 (by decide) (fun c11 => ?_) (fun c11 => ?_)
    · have h := (if_pos c11).symm.trans h
      refine wm_pick (lv' := []) [] rfl ?_
      exact w_P_areSpan_23 E hQ hR hI  h
    · have h := (if_neg c11).symm.trans h
      refine wm_iload_n E dP_areSpan_14 rfl (j := 0) rfl ?_
      refine wm_iload_n E dP_areSpan_15 rfl (j := 1) rfl ?_
      refine wm_icmp_gt (tgt := 23) E dP_areSpan_16 (by decide) (fun c16 => ?_) (fun c16 => ?_)
      · have h := (if_pos c16).symm.trans h
        refine wm_pick (lv' := []) [] rfl ?_
        exact w_P_areSpan_23 E hQ hR hI  h
      · have h := (if_neg c16).symm.trans h
        refine wm_iconst (x := 1) E dP_areSpan_19 (by decide) ?_
        refine wm_goto (tgt := 24) E dP_areSpan_20 (by decide) ?_
        refine wm_pick (lv' := []) [] rfl ?_
        exact w_P_areSpan_24 E hQ hR hI 1 h
def S_Na_init (v0 : Option Nat) (v1 : Option Nat) (v2 : Int32) (v3 : Int32) (μ : Mem) : Option (Unit × Mem) := b1 (rc μ v0 6) (fun _ => b1 (pV μ v0 6 0 (vR v1)) (fun m6 => b1 (pV m6 v0 6 1 (vI v2)) (fun m11 => b1 (pV m11 v0 6 2 (vI v3)) (fun m16 => some ((), m16)))))
set_option maxHeartbeats 4000000 in
set_option maxRecDepth 100000 in
theorem C_Na_init (l : Launch) (G : GG) (v0 : Option Nat) (v1 : Option Nat) (v2 : Int32) (v3 : Int32) (μ μ' : Mem) (r : Unit) (h : S_Na_init v0 v1 v2 v3 μ = some (r, μ')) : CT l G y_Na_init prog_7_method_1_code 4 none 1 0 0 60 μ [vR v0, vR v1, vI v2, vI v3] none μ' := by
  refine wm_met (lv := [(0, vR v0), (1, vR v1), (2, vI v2), (3, vI v3)]) (by decide +kernel) (Nat.le_of_ble_eq_true rfl) rfl (fun X E hQ hR hI => ?_)
  have h : (b1 (rc μ v0 6) (fun _ => b1 (pV μ v0 6 0 (vR v1)) (fun m6 => b1 (pV m6 v0 6 1 (vI v2)) (fun m11 => b1 (pV m11 v0 6 2 (vI v3)) (fun m16 => some ((), m16)))))) = some (r, μ') := h
  refine wm_aload_n E dNa_init_0 rfl (j := 0) rfl ?_
  obtain ⟨u1, hr1, h⟩ := b1S h
  refine wm_obj E hr1 oi_Na_1 (by rw [hR]; decide) (by rw [hR]; decide) rfl dNa_init_1 ?_
  refine wm_aload_n E dNa_init_4 rfl (j := 0) rfl ?_
  refine wm_aload_n E dNa_init_5 rfl (j := 1) rfl ?_
  refine wm_pR E fp_Na_7 (Or.inl ⟨_, rfl⟩) (fun _ => hI) h dNa_init_6 (fun m6 h => ?_)
  refine wm_aload_n E dNa_init_9 rfl (j := 0) rfl ?_
  refine wm_iload_n E dNa_init_10 rfl (j := 2) rfl ?_
  refine wm_pI E fp_Na_13 (fun _ => hI) h dNa_init_11 (fun m11 h => ?_)
  refine wm_aload_n E dNa_init_14 rfl (j := 0) rfl ?_
  refine wm_iload_n E dNa_init_15 rfl (j := 3) rfl ?_
  refine wm_pI E fp_Na_17 (fun _ => hI) h dNa_init_16 (fun m16 h => ?_)
  exact wm_vret E hQ rfl (rtM h) (by decide) (by decide) dNa_init_19
def B_P_name_27   (μ : Mem) : Option ((Nat ⊕ Unit) × Mem) := some (.inl 0, μ)
set_option maxHeartbeats 4000000 in
set_option maxRecDepth 100000 in
theorem w_P_name_27 {X : CX} (E : EV X prog_1_method_7_code 5 "PlaceFinder" none) {μ0 μ' : Mem} {r : (Nat ⊕ Unit)} (hQ : RQ2 X 4 48 μ0 (cvV r) μ') (hR : xR X = { frames := 7, cells := 4, slots := 48, locals := 191 }) (hI : X.2.2.2.2.2.2.2.2.2.2.2.1.name = "name")   (μ : Mem) (h : B_P_name_27   μ = some (r, μ')) : WM X 5 27 [] [] 0 0 μ := by
  have h : (some (.inl 0, μ)) = some (r, μ') := h
  obtain ⟨μs, hX⟩ := rqXV hQ h
  exact wm_throw (ln := 2) (names := exU) (cls := "java/lang/IllegalArgumentException") E tf_P_91_154 hX ⟨(by rw [hR]; decide), by decide⟩ ⟨(by rw [hR]; decide), by decide⟩ (by rw [hR]; decide) (by rw [hR]; decide) (Nat.le_of_ble_eq_true rfl) dP_name_27 dP_name_30 (Or.inl ⟨rfl, dP_name_31⟩) dP_name_33 dP_name_36
def S_P_name (v0 : Option Nat) (v1 : Int32) (v2 : Int32) (v3 : Int32) (μ : Mem) : Option ((Nat ⊕ Unit) × Mem) := b1 (rc μ v0 11) (fun _ => b1 (S_P_placeOf v0 v1 μ) (fun x2 => if x2 = none then B_P_name_27 μ else b1 (S_P_areSpan v2 v3 μ) (fun x14 => if x14 = 0 then B_P_name_27 μ else b1 (gI μ v0 11 6) (fun x21 => if x21 = 0 then B_P_name_27 μ else b1 (gR μ x2 7 5) (fun x39 => b1 (rc μ x39 0) (fun _ => b1 (S_Al_size x39 μ) (fun x42 => if x42 < 2 then b1 (gR μ x2 7 5) (fun x61 => b2 (nO μ 6 [.null, .int 0, .int 0]) (fun x64 m64 => b2 (nO m64 10 [.null, .int 0]) (fun x68 m68 => b1 (gR m68 v0 11 5) (fun x73 => b1 (gI m68 v0 11 6) (fun x77 => b1 (rc m68 x68 10) (fun _ => b2 (S_Wo_init x68 x73 x77 m68) (fun x80 m80 => b1 (rc m80 x64 6) (fun _ => b2 (S_Na_init x64 x68 v2 v3 m80) (fun x85 m85 => b1 (rc m85 x61 0) (fun _ => b2 (S_Al_add x61 x64 m85) (fun x88 m88 => b1 (pV m88 v0 11 6 (vI 0)) (fun m94 => some (.inr (), m94))))))))))))) else some (.inl 1, μ))))))))
set_option maxHeartbeats 4000000 in
set_option maxRecDepth 100000 in
theorem w_P_name_e {X : CX} (E : EV X prog_1_method_7_code 5 "PlaceFinder" none) {μ0 μ' : Mem} {r : (Nat ⊕ Unit)} (hQ : RQ2 X 4 48 μ0 (cvV r) μ') (hR : xR X = { frames := 7, cells := 4, slots := 48, locals := 191 }) (hI : X.2.2.2.2.2.2.2.2.2.2.2.1.name = "name") (v0 : Option Nat) (v1 : Int32) (v2 : Int32) (v3 : Int32) (μ : Mem) (h : S_P_name v0 v1 v2 v3 μ = some (r, μ')) : WM X 5 0 [(0, vR v0), (1, vI v1), (2, vI v2), (3, vI v3)] [] 0 0 μ := by
  have h : (b1 (rc μ v0 11) (fun _ => b1 (S_P_placeOf v0 v1 μ) (fun x2 => if x2 = none then B_P_name_27 μ else b1 (S_P_areSpan v2 v3 μ) (fun x14 => if x14 = 0 then B_P_name_27 μ else b1 (gI μ v0 11 6) (fun x21 => if x21 = 0 then B_P_name_27 μ else b1 (gR μ x2 7 5) (fun x39 => b1 (rc μ x39 0) (fun _ => b1 (S_Al_size x39 μ) (fun x42 => if x42 < 2 then b1 (gR μ x2 7 5) (fun x61 => b2 (nO μ 6 [.null, .int 0, .int 0]) (fun x64 m64 => b2 (nO m64 10 [.null, .int 0]) (fun x68 m68 => b1 (gR m68 v0 11 5) (fun x73 => b1 (gI m68 v0 11 6) (fun x77 => b1 (rc m68 x68 10) (fun _ => b2 (S_Wo_init x68 x73 x77 m68) (fun x80 m80 => b1 (rc m80 x64 6) (fun _ => b2 (S_Na_init x64 x68 v2 v3 m80) (fun x85 m85 => b1 (rc m85 x61 0) (fun _ => b2 (S_Al_add x61 x64 m85) (fun x88 m88 => b1 (pV m88 v0 11 6 (vI 0)) (fun m94 => some (.inr (), m94))))))))))))) else some (.inl 1, μ))))))))) = some (r, μ') := h
  refine wm_aload_n E dP_name_0 rfl (j := 0) rfl ?_
  refine wm_iload_n E dP_name_1 rfl (j := 1) rfl ?_
  obtain ⟨u2, hr2, h⟩ := b1S h
  obtain ⟨x2, hc2, h⟩ := b1S h
  refine wm_cV (ci := 11) (As := [vI v1]) (st := []) E lk_P_124 rfl im_P_placeOf sl_P_placeOf hr2 (C_P_placeOf (xl X) X.1 v0 v1 μ _ hc2) rfl rfl (by rw [hR]; decide) (by rw [hR]; decide) (Nat.le_of_ble_eq_true rfl) dP_name_2 ?_
  refine wm_astore (lv' := [(4, vR x2), (0, vR v0), (1, vI v1), (2, vI v2), (3, vI v3)]) E dP_name_5 (by decide) rfl ?_
  refine wm_aload E dP_name_7 (j := 0) rfl ?_
  refine wm_ifnull (tgt := 27) E dP_name_9 (by decide) (fun c9 => ?_) (fun c9 => ?_)
  · have h := (if_pos c9).symm.trans h
    refine wm_pick (lv' := []) [] rfl ?_
    exact w_P_name_27 E hQ hR hI μ h
  · have h := (if_neg c9).symm.trans h
    refine wm_iload_n E dP_name_12 rfl (j := 3) rfl ?_
    refine wm_iload_n E dP_name_13 rfl (j := 4) rfl ?_
    obtain ⟨x14, hc14, h⟩ := b1S h
    refine wm_cS (As := [vI v2, vI v3]) (st := []) E lk_P_151 sc_P_areSpan (C_P_areSpan (xl X) X.1 v2 v3 μ _ hc14) rfl rfl (by rw [hR]; decide) (by rw [hR]; decide) (Nat.le_of_ble_eq_true rfl) dP_name_14 ?_
    refine wm_if_eq (tgt := 27) E dP_name_17 (by decide) (fun c17 => ?_) (fun c17 => ?_)
    · have h := (if_pos c17).symm.trans h
      refine wm_pick (lv' := []) [] rfl ?_
      exact w_P_name_27 E hQ hR hI μ h
    · have h := (if_neg c17).symm.trans h
      refine wm_aload_n E dP_name_20 rfl (j := 1) rfl ?_
      refine wm_gI E fd_P_40 h dP_name_21 (fun x21 h => ?_)
      refine wm_if_ne (tgt := 37) E dP_name_24 (by decide) (fun c24 => ?_) (fun c24 => ?_)
      · have h := (if_neg c24).symm.trans h
        refine wm_aload E dP_name_37 (j := 0) rfl ?_
        refine wm_gR E fd_P_156 h dP_name_39 (fun x39 h => ?_)
        obtain ⟨u42, hr42, h⟩ := b1S h
        obtain ⟨x42, hc42, h⟩ := b1S h
        refine wm_cV (ci := 0) (As := []) (st := []) E lk_P_98 rfl im_Al_size sl_Al_size hr42 (C_Al_size (xl X) X.1 x39 μ _ hc42) rfl rfl (by rw [hR]; decide) (by rw [hR]; decide) (Nat.le_of_ble_eq_true rfl) dP_name_42 ?_
        refine wm_iconst (x := 2) E dP_name_45 (by decide) ?_
        refine wm_icmp_lt (tgt := 59) E dP_name_46 (by decide) (fun c46 => ?_) (fun c46 => ?_)
        · have h := (if_pos c46).symm.trans h
          refine wm_aload E dP_name_59 (j := 0) rfl ?_
          refine wm_gR E fd_P_156 h dP_name_61 (fun x61 h => ?_)
          refine wm_new E nd_P_161 h (by rw [hR]; decide) (by rw [hR]; decide) dP_name_64 (fun x64 m64 h => ?_)
          refine wm_dup E dP_name_67 rfl ?_
          refine wm_new E nd_P_75 h (by rw [hR]; decide) (by rw [hR]; decide) dP_name_68 (fun x68 m68 h => ?_)
          refine wm_dup E dP_name_71 rfl ?_
          refine wm_aload_n E dP_name_72 rfl (j := 1) rfl ?_
          refine wm_gR E fd_P_36 h dP_name_73 (fun x73 h => ?_)
          refine wm_aload_n E dP_name_76 rfl (j := 1) rfl ?_
          refine wm_gI E fd_P_40 h dP_name_77 (fun x77 h => ?_)
          obtain ⟨u80, hr80, h⟩ := b1S h
          obtain ⟨x80, m80, hc80, h⟩ := b2S h
          refine wm_cI (ci := 10) (As := [vR x73, vI x77]) (st := [vR x68, vR x64, vR x64, vR x61]) E lk_P_77 rfl rfl im_Wo_init hr80 (C_Wo_init (xl X) X.1 x68 x73 x77 m68 _ _ hc80) rfl rfl (by rw [hR]; decide) (by rw [hR]; decide) (Nat.le_of_ble_eq_true rfl) dP_name_80 ?_
          refine wm_iload_n E dP_name_83 rfl (j := 3) rfl ?_
          refine wm_iload_n E dP_name_84 rfl (j := 4) rfl ?_
          obtain ⟨u85, hr85, h⟩ := b1S h
          obtain ⟨x85, m85, hc85, h⟩ := b2S h
          refine wm_cI (ci := 6) (As := [vR x68, vI v2, vI v3]) (st := [vR x64, vR x61]) E lk_P_163 rfl rfl im_Na_init hr85 (C_Na_init (xl X) X.1 x64 x68 v2 v3 m80 _ _ hc85) rfl rfl (by rw [hR]; decide) (by rw [hR]; decide) (Nat.le_of_ble_eq_true rfl) dP_name_85 ?_
          obtain ⟨u88, hr88, h⟩ := b1S h
          obtain ⟨x88, m88, hc88, h⟩ := b2S h
          refine wm_cV (ci := 0) (As := [vR x64]) (st := []) E lk_P_112 rfl im_Al_add sl_Al_add hr88 (C_Al_add (xl X) X.1 x61 x64 m85 _ _ hc88) rfl rfl (by rw [hR]; decide) (by rw [hR]; decide) (Nat.le_of_ble_eq_true rfl) dP_name_88 ?_
          refine wm_pop E dP_name_91 rfl ?_
          refine wm_aload_n E dP_name_92 rfl (j := 1) rfl ?_
          refine wm_iconst (x := 0) E dP_name_93 (by decide) ?_
          refine wm_pI E fp_P_40 (fun q => by cases q) h dP_name_94 (fun m94 h => ?_)
          exact wm_vret E (rqV hQ h) rfl rfl (by decide) (by decide) dP_name_97
        · have h := (if_neg c46).symm.trans h
          obtain ⟨μs, hX⟩ := rqXV hQ h
          exact wm_throw (ln := 2) (names := exU) (cls := "java/lang/IllegalStateException") E tf_P_102_159 hX ⟨(by rw [hR]; decide), by decide⟩ ⟨(by rw [hR]; decide), by decide⟩ (by rw [hR]; decide) (by rw [hR]; decide) (Nat.le_of_ble_eq_true rfl) dP_name_49 dP_name_52 (Or.inl ⟨rfl, dP_name_53⟩) dP_name_55 dP_name_58
      · have h := (if_pos c24).symm.trans h
        refine wm_pick (lv' := []) [] rfl ?_
        exact w_P_name_27 E hQ hR hI μ h
theorem C_P_name (l : Launch) (G : GG) (v0 : Option Nat) (v1 : Int32) (v2 : Int32) (v3 : Int32) (μ μ' : Mem) (r : Unit) (h : S_P_name v0 v1 v2 v3 μ = some (.inr r, μ')) : CT l G y_P_name prog_1_method_7_code 5 none 7 4 48 191 μ [vR v0, vI v1, vI v2, vI v3] none μ' := by
  refine wm_met (lv := [(0, vR v0), (1, vI v1), (2, vI v2), (3, vI v3)]) (by decide +kernel) (Nat.le_of_ble_eq_true rfl) rfl (fun X E hQ hR hI => ?_)
  exact w_P_name_e (r := .inr r) E hQ hR hI v0 v1 v2 v3 μ h
theorem X_P_name (l : Launch) (hl : LF l) (G : GG) (v0 : Option Nat) (v1 : Int32) (v2 : Int32) (v3 : Int32) (μ μ' : Mem) (k : Nat) (h : S_P_name v0 v1 v2 v3 (m_up μ) = some (.inl k, μ')) : CZ l G y_P_name prog_1_method_7_code 5 none 7 4 48 191 μ [vR v0, vI v1, vI v2, vI v3] (exN k) := by
  refine wm_metX hl (lv := [(0, vR v0), (1, vI v1), (2, vI v2), (3, vI v3)]) (by decide +kernel) (Nat.le_of_ble_eq_true rfl) rfl (fun X E hX hR hI => ?_)
  exact w_P_name_e (μ0 := μ) (r := .inl k) E ⟨μ, hX⟩ hR hI v0 v1 v2 v3 (m_up μ) h
def B_Li_isWithin_21 (μ : Mem)   (s0 : Int32) : Option Int32 := gd (¬ okZ s0 = true) (some (s0))
set_option maxHeartbeats 4000000 in
set_option maxRecDepth 100000 in
theorem w_Li_isWithin_21 {X : CX} (E : EV X prog_6_method_2_code 3 "PlaceFinder$Link" (some .boolean)) {μ0 μ : Mem} {r : Int32} (hQ : RQ X 0 0 μ0 (some (vI r)) μ) (hR : xR X = { frames := 0, cells := 0, slots := 0, locals := 0 }) (hI : X.2.2.2.2.2.2.2.2.2.2.2.1.name = "isWithin")  (s0 : Int32) (h : B_Li_isWithin_21 μ  s0 = some r) : WM X 3 21 [] [vI s0] 0 0 μ := by
  have h : (gd (¬ okZ s0 = true) (some (s0))) = some r := h
  obtain ⟨hz21, h⟩ := gdS h
  exact wm_zret (rt := .boolean) E hQ (rqI1 h) rfl (okZN hz21) (by decide) (by decide) dLi_isWithin_21
def B_Li_isWithin_20 (μ : Mem)    : Option Int32 := B_Li_isWithin_21 μ 0
set_option maxHeartbeats 4000000 in
set_option maxRecDepth 100000 in
theorem w_Li_isWithin_20 {X : CX} (E : EV X prog_6_method_2_code 3 "PlaceFinder$Link" (some .boolean)) {μ0 μ : Mem} {r : Int32} (hQ : RQ X 0 0 μ0 (some (vI r)) μ) (hR : xR X = { frames := 0, cells := 0, slots := 0, locals := 0 }) (hI : X.2.2.2.2.2.2.2.2.2.2.2.1.name = "isWithin")   (h : B_Li_isWithin_20 μ   = some r) : WM X 3 20 [] [] 0 0 μ := by
  have h : (B_Li_isWithin_21 μ 0) = some r := h
  refine wm_iconst (x := 0) E dLi_isWithin_20 (by decide) ?_
  refine wm_pick (lv' := []) [] rfl ?_
  exact w_Li_isWithin_21 E hQ hR hI 0 h
def S_Li_isWithin (v0 : Option Nat) (v1 : Int32) (v2 : Int32) (μ : Mem) : Option Int32 := b1 (gI μ v0 5 1) (fun x1 => if v2 < x1 then B_Li_isWithin_20 μ  else b1 (gI μ v0 5 2) (fun x10 => if x10 < v1 then B_Li_isWithin_20 μ  else B_Li_isWithin_21 μ 1))
set_option maxHeartbeats 4000000 in
set_option maxRecDepth 100000 in
theorem C_Li_isWithin (l : Launch) (G : GG) (v0 : Option Nat) (v1 : Int32) (v2 : Int32) (μ : Mem) (r : Int32) (h : S_Li_isWithin v0 v1 v2 μ = some r) : CT l G y_Li_isWithin prog_6_method_2_code 3 (some .boolean) 0 0 0 0 μ [vR v0, vI v1, vI v2] (some (vI r)) μ := by
  refine wm_met (lv := [(0, vR v0), (1, vI v1), (2, vI v2)]) (by decide +kernel) (Nat.le_of_ble_eq_true rfl) rfl (fun X E hQ hR hI => ?_)
  have h : (b1 (gI μ v0 5 1) (fun x1 => if v2 < x1 then B_Li_isWithin_20 μ  else b1 (gI μ v0 5 2) (fun x10 => if x10 < v1 then B_Li_isWithin_20 μ  else B_Li_isWithin_21 μ 1))) = some r := h
  refine wm_aload_n E dLi_isWithin_0 rfl (j := 0) rfl ?_
  refine wm_gI E fd_Li_13 h dLi_isWithin_1 (fun x1 h => ?_)
  refine wm_iload_n E dLi_isWithin_4 rfl (j := 2) rfl ?_
  refine wm_icmp_gt (tgt := 20) E dLi_isWithin_5 (by decide) (fun c5 => ?_) (fun c5 => ?_)
  · have h := (if_pos c5).symm.trans h
    refine wm_pick (lv' := []) [] rfl ?_
    exact w_Li_isWithin_20 E hQ hR hI  h
  · have h := (if_neg c5).symm.trans h
    refine wm_iload_n E dLi_isWithin_8 rfl (j := 1) rfl ?_
    refine wm_aload_n E dLi_isWithin_9 rfl (j := 0) rfl ?_
    refine wm_gI E fd_Li_17 h dLi_isWithin_10 (fun x10 h => ?_)
    refine wm_icmp_gt (tgt := 20) E dLi_isWithin_13 (by decide) (fun c13 => ?_) (fun c13 => ?_)
    · have h := (if_pos c13).symm.trans h
      refine wm_pick (lv' := []) [] rfl ?_
      exact w_Li_isWithin_20 E hQ hR hI  h
    · have h := (if_neg c13).symm.trans h
      refine wm_iconst (x := 1) E dLi_isWithin_16 (by decide) ?_
      refine wm_goto (tgt := 21) E dLi_isWithin_17 (by decide) ?_
      refine wm_pick (lv' := []) [] rfl ?_
      exact w_Li_isWithin_21 E hQ hR hI 1 h
def B_Pl_isLinkedWithin_2 (μ : Mem)   : Nat → Option Nat → Int32 → Int32 → Int32 → Option Int32
  | 0, _, _, _, _ => none
  | n + 1, v0, v1, v2, v3 => b1 (gR μ v0 7 6) (fun x4 => b1 (rc μ x4 0) (fun _ => b1 (S_Al_size x4 μ) (fun x7 => if x7 ≤ v3 then gd (¬ okZ 0 = true) (some (0)) else b1 (gR μ v0 7 6) (fun x14 => b1 (rc μ x14 0) (fun _ => b1 (S_Al_get x14 v3 μ) (fun x18 => b1 (cK μ x18 5) (fun _ => b1 (rc μ x18 5) (fun _ => b1 (S_Li_isWithin x18 v1 v2 μ) (fun x26 => if x26 = 0 then (fun v0 v1 v2 v3 => B_Pl_isLinkedWithin_2 μ n v0 v1 v2 v3) v0 v1 v2 (v3 + 1) else gd (¬ okZ 1 = true) (some (1)))))))))))
set_option maxHeartbeats 4000000 in
set_option maxRecDepth 100000 in
theorem w_Pl_isLinkedWithin_2 {X : CX} (E : EV X prog_8_method_8_code 4 "PlaceFinder$Place" (some .boolean)) {μ0 μ : Mem} {r : Int32} (hQ : RQ X 0 0 μ0 (some (vI r)) μ) (hR : xR X = { frames := 3, cells := 0, slots := 0, locals := 64 }) (hI : X.2.2.2.2.2.2.2.2.2.2.2.1.name = "isLinkedWithin")  (n : Nat) : ∀ (v0 : Option Nat) (v1 : Int32) (v2 : Int32) (v3 : Int32) (h : B_Pl_isLinkedWithin_2 μ  n v0 v1 v2 v3 = some r), WM X 4 2 [(0, vR v0), (1, vI v1), (2, vI v2), (3, vI v3)] [] 0 0 μ := by
  induction n with
  | zero => intro v0 v1 v2 v3 h; cases h
  | succ n ih =>
    intro v0 v1 v2 v3 h
    have h : (b1 (gR μ v0 7 6) (fun x4 => b1 (rc μ x4 0) (fun _ => b1 (S_Al_size x4 μ) (fun x7 => if x7 ≤ v3 then gd (¬ okZ 0 = true) (some (0)) else b1 (gR μ v0 7 6) (fun x14 => b1 (rc μ x14 0) (fun _ => b1 (S_Al_get x14 v3 μ) (fun x18 => b1 (cK μ x18 5) (fun _ => b1 (rc μ x18 5) (fun _ => b1 (S_Li_isWithin x18 v1 v2 μ) (fun x26 => if x26 = 0 then (fun v0 v1 v2 v3 => B_Pl_isLinkedWithin_2 μ n v0 v1 v2 v3) v0 v1 v2 (v3 + 1) else gd (¬ okZ 1 = true) (some (1)))))))))))) = some r := h
    refine wm_iload_n E dPl_isLinkedWithin_2 rfl (j := 3) rfl ?_
    refine wm_aload_n E dPl_isLinkedWithin_3 rfl (j := 0) rfl ?_
    refine wm_gR E fd_Pl_29 h dPl_isLinkedWithin_4 (fun x4 h => ?_)
    obtain ⟨u7, hr7, h⟩ := b1S h
    obtain ⟨x7, hc7, h⟩ := b1S h
    refine wm_cV (ci := 0) (As := []) (st := [vI v3]) E lk_Pl_38 rfl im_Al_size sl_Al_size hr7 (C_Al_size (xl X) X.1 x4 μ _ hc7) rfl rfl (by rw [hR]; decide) (by rw [hR]; decide) (Nat.le_of_ble_eq_true rfl) dPl_isLinkedWithin_7 ?_
    refine wm_icmp_ge (tgt := 40) E dPl_isLinkedWithin_10 (by decide) (fun c10 => ?_) (fun c10 => ?_)
    · have h := (if_pos c10).symm.trans h
      refine wm_iconst (x := 0) E dPl_isLinkedWithin_40 (by decide) ?_
      obtain ⟨hz41, h⟩ := gdS h
      exact wm_zret (rt := .boolean) E hQ (rqI1 h) rfl (okZN hz41) (by decide) (by decide) dPl_isLinkedWithin_41
    · have h := (if_neg c10).symm.trans h
      refine wm_aload_n E dPl_isLinkedWithin_13 rfl (j := 0) rfl ?_
      refine wm_gR E fd_Pl_29 h dPl_isLinkedWithin_14 (fun x14 h => ?_)
      refine wm_iload_n E dPl_isLinkedWithin_17 rfl (j := 3) rfl ?_
      obtain ⟨u18, hr18, h⟩ := b1S h
      obtain ⟨x18, hc18, h⟩ := b1S h
      refine wm_cV (ci := 0) (As := [vI v3]) (st := []) E lk_Pl_46 rfl im_Al_get sl_Al_get hr18 (C_Al_get (xl X) X.1 x14 v3 μ _ hc18) rfl rfl (by rw [hR]; decide) (by rw [hR]; decide) (Nat.le_of_ble_eq_true rfl) dPl_isLinkedWithin_18 ?_
      refine wm_ckc (ci := 5) E rfl cl_Pl_65 h dPl_isLinkedWithin_21 (fun h => ?_)
      refine wm_iload_n E dPl_isLinkedWithin_24 rfl (j := 1) rfl ?_
      refine wm_iload_n E dPl_isLinkedWithin_25 rfl (j := 2) rfl ?_
      obtain ⟨u26, hr26, h⟩ := b1S h
      obtain ⟨x26, hc26, h⟩ := b1S h
      refine wm_cV (ci := 5) (As := [vI v1, vI v2]) (st := []) E lk_Pl_67 rfl im_Li_isWithin sl_Li_isWithin hr26 (C_Li_isWithin (xl X) X.1 x18 v1 v2 μ _ hc26) rfl rfl (by rw [hR]; decide) (by rw [hR]; decide) (Nat.le_of_ble_eq_true rfl) dPl_isLinkedWithin_26 ?_
      refine wm_if_eq (tgt := 34) E dPl_isLinkedWithin_29 (by decide) (fun c29 => ?_) (fun c29 => ?_)
      · have h := (if_pos c29).symm.trans h
        refine wm_iinc (lv' := [(3, vI (v3 + 1)), (0, vR v0), (1, vI v1), (2, vI v2)]) (d := 1) E dPl_isLinkedWithin_34 (by decide) (j := 3) rfl (by decide) rfl ?_
        refine wm_goto (tgt := 2) E dPl_isLinkedWithin_37 (by decide) ?_
        refine wm_pick (lv' := [(0, vR v0), (1, vI v1), (2, vI v2), (3, vI (v3 + 1))]) [1, 2, 3, 0] rfl ?_
        exact ih v0 v1 v2 (v3 + 1) h
      · have h := (if_neg c29).symm.trans h
        refine wm_iconst (x := 1) E dPl_isLinkedWithin_32 (by decide) ?_
        obtain ⟨hz33, h⟩ := gdS h
        exact wm_zret (rt := .boolean) E hQ (rqI1 h) rfl (okZN hz33) (by decide) (by decide) dPl_isLinkedWithin_33
def S_Pl_isLinkedWithin (v0 : Option Nat) (v1 : Int32) (v2 : Int32) (μ : Mem) : Option Int32 := B_Pl_isLinkedWithin_2 μ fu v0 v1 v2 0
set_option maxHeartbeats 4000000 in
set_option maxRecDepth 100000 in
theorem C_Pl_isLinkedWithin (l : Launch) (G : GG) (v0 : Option Nat) (v1 : Int32) (v2 : Int32) (μ : Mem) (r : Int32) (h : S_Pl_isLinkedWithin v0 v1 v2 μ = some r) : CT l G y_Pl_isLinkedWithin prog_8_method_8_code 4 (some .boolean) 3 0 0 64 μ [vR v0, vI v1, vI v2] (some (vI r)) μ := by
  refine wm_met (lv := [(0, vR v0), (1, vI v1), (2, vI v2)]) (by decide +kernel) (Nat.le_of_ble_eq_true rfl) rfl (fun X E hQ hR hI => ?_)
  have h : (B_Pl_isLinkedWithin_2 μ fu v0 v1 v2 0) = some r := h
  refine wm_iconst (x := 0) E dPl_isLinkedWithin_0 (by decide) ?_
  refine wm_istore_n (lv' := [(3, vI 0), (0, vR v0), (1, vI v1), (2, vI v2)]) E dPl_isLinkedWithin_1 rfl (by decide) rfl ?_
  refine wm_pick (lv' := [(0, vR v0), (1, vI v1), (2, vI v2), (3, vI 0)]) [1, 2, 3, 0] rfl ?_
  exact w_Pl_isLinkedWithin_2 E hQ hR hI fu v0 v1 v2 0 h
def B_P_comesTo_15 (μ : Mem) (f : Option Nat → Int32 → Int32 → Int32 → Int32 → Option Int32)   : Option Int32 := gd (¬ okZ 1 = true) (some (1))
set_option maxHeartbeats 4000000 in
set_option maxRecDepth 100000 in
theorem w_P_comesTo_15 {X : CX} {F L : Nat} (E : EV X prog_1_method_30_code 9 "PlaceFinder" (some .boolean)) {μ0 μ : Mem} {r : Int32} (hQ : RQ X 0 0 μ0 (some (vI r)) μ) (hR : xR X = { frames := F + 1, cells := 0, slots := 0, locals := L + 28 }) (hI : X.2.2.2.2.2.2.2.2.2.2.2.1.name = "comesTo") (f : Option Nat → Int32 → Int32 → Int32 → Int32 → Option Int32) (hf : ∀ (v0 : Option Nat) (v1 : Int32) (v2 : Int32) (v3 : Int32) (v4 : Int32) (r : Int32), f v0 v1 v2 v3 v4 = some r → CT (xl X) X.1 y_P_comesTo prog_1_method_30_code 9 (some .boolean) F 0 0 L μ [vR v0, vI v1, vI v2, vI v3, vI v4] (some (vI r)) μ) (hF : 5 ≤ F) (hL : 200 ≤ L)   (h : B_P_comesTo_15 μ f   = some r) : WM X 9 15 [] [] 0 0 μ := by
  have h : (gd (¬ okZ 1 = true) (some (1))) = some r := h
  refine wm_iconst (x := 1) E dP_comesTo_15 (by decide) ?_
  obtain ⟨hz16, h⟩ := gdS h
  exact wm_zret (rt := .boolean) E hQ (rqI1 h) rfl (okZN hz16) (by decide) (by decide) dP_comesTo_16
def B_P_comesTo_97 (μ : Mem) (f : Option Nat → Int32 → Int32 → Int32 → Int32 → Option Int32) (k20 : Option Nat → Int32 → Int32 → Int32 → Int32 → Int32 → Option Int32) (v0 : Option Nat) (v1 : Int32) (v2 : Int32) (v3 : Int32) (v4 : Int32) (v5 : Int32) : Option Int32 := k20 v0 v1 v2 v3 v4 (v5 + 1)
set_option maxHeartbeats 4000000 in
set_option maxRecDepth 100000 in
theorem w_P_comesTo_97 {X : CX} {F L : Nat} (E : EV X prog_1_method_30_code 9 "PlaceFinder" (some .boolean)) {μ0 μ : Mem} {r : Int32} (hQ : RQ X 0 0 μ0 (some (vI r)) μ) (hR : xR X = { frames := F + 1, cells := 0, slots := 0, locals := L + 28 }) (hI : X.2.2.2.2.2.2.2.2.2.2.2.1.name = "comesTo") (f : Option Nat → Int32 → Int32 → Int32 → Int32 → Option Int32) (hf : ∀ (v0 : Option Nat) (v1 : Int32) (v2 : Int32) (v3 : Int32) (v4 : Int32) (r : Int32), f v0 v1 v2 v3 v4 = some r → CT (xl X) X.1 y_P_comesTo prog_1_method_30_code 9 (some .boolean) F 0 0 L μ [vR v0, vI v1, vI v2, vI v3, vI v4] (some (vI r)) μ) (hF : 5 ≤ F) (hL : 200 ≤ L) (k20 : Option Nat → Int32 → Int32 → Int32 → Int32 → Int32 → Option Int32) (hk20 : ∀ (v0 : Option Nat) (v1 : Int32) (v2 : Int32) (v3 : Int32) (v4 : Int32) (v5 : Int32), k20 v0 v1 v2 v3 v4 v5 = some r → WM X 9 20 [(0, vR v0), (1, vI v1), (2, vI v2), (3, vI v3), (4, vI v4), (5, vI v5)] [] 0 0 μ) (v0 : Option Nat) (v1 : Int32) (v2 : Int32) (v3 : Int32) (v4 : Int32) (v5 : Int32) (h : B_P_comesTo_97 μ f k20 v0 v1 v2 v3 v4 v5 = some r) : WM X 9 97 [(0, vR v0), (1, vI v1), (2, vI v2), (3, vI v3), (4, vI v4), (5, vI v5)] [] 0 0 μ := by
  have h : (k20 v0 v1 v2 v3 v4 (v5 + 1)) = some r := h
  refine wm_iinc (lv' := [(5, vI (v5 + 1)), (0, vR v0), (1, vI v1), (2, vI v2), (3, vI v3), (4, vI v4)]) (d := 1) E dP_comesTo_97 (by decide) (j := 5) rfl (by decide) rfl ?_
  refine wm_goto (tgt := 20) E dP_comesTo_100 (by decide) ?_
  refine wm_pick (lv' := [(0, vR v0), (1, vI v1), (2, vI v2), (3, vI v3), (4, vI v4), (5, vI (v5 + 1))]) [1, 2, 3, 4, 5, 0] rfl ?_
  exact hk20 v0 v1 v2 v3 v4 (v5 + 1) h
def B_P_comesTo_20 (μ : Mem) (f : Option Nat → Int32 → Int32 → Int32 → Int32 → Option Int32)  : Nat → Option Nat → Int32 → Int32 → Int32 → Int32 → Int32 → Option Int32
  | 0, _, _, _, _, _, _ => none
  | n + 1, v0, v1, v2, v3, v4, v5 => b1 (gR μ v0 7 6) (fun x23 => b1 (rc μ x23 0) (fun _ => b1 (S_Al_size x23 μ) (fun x26 => if x26 ≤ v5 then gd (¬ okZ 0 = true) (some (0)) else b1 (gR μ v0 7 6) (fun x33 => b1 (rc μ x33 0) (fun _ => b1 (S_Al_get x33 v5 μ) (fun x38 => b1 (cK μ x38 5) (fun _ => b1 (gI μ x38 5 1) (fun x49 => b1 (S_Ma_max v2 x49 μ) (fun x52 => b1 (gI μ x38 5 2) (fun x60 => b1 (S_Ma_min v3 x60 μ) (fun x63 => if x63 < x52 then B_P_comesTo_97 μ f (fun v0 v1 v2 v3 v4 v5 => B_P_comesTo_20 μ f n v0 v1 v2 v3 v4 v5) v0 v1 v2 v3 v4 v5 else b1 (gR μ x38 5 0) (fun x77 => b1 (f x77 v1 x52 x63 (v4 + 1)) (fun x89 => if x89 = 0 then B_P_comesTo_97 μ f (fun v0 v1 v2 v3 v4 v5 => B_P_comesTo_20 μ f n v0 v1 v2 v3 v4 v5) v0 v1 v2 v3 v4 v5 else gd (¬ okZ 1 = true) (some (1)))))))))))))))
set_option maxHeartbeats 4000000 in
set_option maxRecDepth 100000 in
theorem w_P_comesTo_20 {X : CX} {F L : Nat} (E : EV X prog_1_method_30_code 9 "PlaceFinder" (some .boolean)) {μ0 μ : Mem} {r : Int32} (hQ : RQ X 0 0 μ0 (some (vI r)) μ) (hR : xR X = { frames := F + 1, cells := 0, slots := 0, locals := L + 28 }) (hI : X.2.2.2.2.2.2.2.2.2.2.2.1.name = "comesTo") (f : Option Nat → Int32 → Int32 → Int32 → Int32 → Option Int32) (hf : ∀ (v0 : Option Nat) (v1 : Int32) (v2 : Int32) (v3 : Int32) (v4 : Int32) (r : Int32), f v0 v1 v2 v3 v4 = some r → CT (xl X) X.1 y_P_comesTo prog_1_method_30_code 9 (some .boolean) F 0 0 L μ [vR v0, vI v1, vI v2, vI v3, vI v4] (some (vI r)) μ) (hF : 5 ≤ F) (hL : 200 ≤ L)  (n : Nat) : ∀ (v0 : Option Nat) (v1 : Int32) (v2 : Int32) (v3 : Int32) (v4 : Int32) (v5 : Int32) (h : B_P_comesTo_20 μ f  n v0 v1 v2 v3 v4 v5 = some r), WM X 9 20 [(0, vR v0), (1, vI v1), (2, vI v2), (3, vI v3), (4, vI v4), (5, vI v5)] [] 0 0 μ := by
  induction n with
  | zero => intro v0 v1 v2 v3 v4 v5 h; cases h
  | succ n ih =>
    intro v0 v1 v2 v3 v4 v5 h
    have h : (b1 (gR μ v0 7 6) (fun x23 => b1 (rc μ x23 0) (fun _ => b1 (S_Al_size x23 μ) (fun x26 => if x26 ≤ v5 then gd (¬ okZ 0 = true) (some (0)) else b1 (gR μ v0 7 6) (fun x33 => b1 (rc μ x33 0) (fun _ => b1 (S_Al_get x33 v5 μ) (fun x38 => b1 (cK μ x38 5) (fun _ => b1 (gI μ x38 5 1) (fun x49 => b1 (S_Ma_max v2 x49 μ) (fun x52 => b1 (gI μ x38 5 2) (fun x60 => b1 (S_Ma_min v3 x60 μ) (fun x63 => if x63 < x52 then B_P_comesTo_97 μ f (fun v0 v1 v2 v3 v4 v5 => B_P_comesTo_20 μ f n v0 v1 v2 v3 v4 v5) v0 v1 v2 v3 v4 v5 else b1 (gR μ x38 5 0) (fun x77 => b1 (f x77 v1 x52 x63 (v4 + 1)) (fun x89 => if x89 = 0 then B_P_comesTo_97 μ f (fun v0 v1 v2 v3 v4 v5 => B_P_comesTo_20 μ f n v0 v1 v2 v3 v4 v5) v0 v1 v2 v3 v4 v5 else gd (¬ okZ 1 = true) (some (1)))))))))))))))) = some r := h
    refine wm_iload E dP_comesTo_20 (j := 5) rfl ?_
    refine wm_aload_n E dP_comesTo_22 rfl (j := 0) rfl ?_
    refine wm_gR E fd_P_180 h dP_comesTo_23 (fun x23 h => ?_)
    obtain ⟨u26, hr26, h⟩ := b1S h
    obtain ⟨x26, hc26, h⟩ := b1S h
    refine wm_cV (ci := 0) (As := []) (st := [vI v5]) E lk_P_98 rfl im_Al_size sl_Al_size hr26 (C_Al_size (xl X) X.1 x23 μ _ hc26) rfl rfl (by rw [hR]; dsimp only; omega) (by rw [hR]; dsimp only; omega) (Nat.le_of_ble_eq_true rfl) dP_comesTo_26 ?_
    refine wm_icmp_ge (tgt := 103) E dP_comesTo_29 (by decide) (fun c29 => ?_) (fun c29 => ?_)
    · have h := (if_pos c29).symm.trans h
      refine wm_iconst (x := 0) E dP_comesTo_103 (by decide) ?_
      obtain ⟨hz104, h⟩ := gdS h
      exact wm_zret (rt := .boolean) E hQ (rqI1 h) rfl (okZN hz104) (by decide) (by decide) dP_comesTo_104
    · have h := (if_neg c29).symm.trans h
      refine wm_aload_n E dP_comesTo_32 rfl (j := 0) rfl ?_
      refine wm_gR E fd_P_180 h dP_comesTo_33 (fun x33 h => ?_)
      refine wm_iload E dP_comesTo_36 (j := 5) rfl ?_
      obtain ⟨u38, hr38, h⟩ := b1S h
      obtain ⟨x38, hc38, h⟩ := b1S h
      refine wm_cV (ci := 0) (As := [vI v5]) (st := []) E lk_P_223 rfl im_Al_get sl_Al_get hr38 (C_Al_get (xl X) X.1 x33 v5 μ _ hc38) rfl rfl (by rw [hR]; dsimp only; omega) (by rw [hR]; dsimp only; omega) (Nat.le_of_ble_eq_true rfl) dP_comesTo_38 ?_
      refine wm_ckc (ci := 5) E rfl cl_P_185 h dP_comesTo_41 (fun h => ?_)
      refine wm_astore (lv' := [(6, vR x38), (0, vR v0), (1, vI v1), (2, vI v2), (3, vI v3), (4, vI v4), (5, vI v5)]) E dP_comesTo_44 (by decide) rfl ?_
      refine wm_iload_n E dP_comesTo_46 rfl (j := 3) rfl ?_
      refine wm_aload E dP_comesTo_47 (j := 0) rfl ?_
      refine wm_gI E fd_P_329 h dP_comesTo_49 (fun x49 h => ?_)
      obtain ⟨x52, hc52, h⟩ := b1S h
      refine wm_cS (As := [vI v2, vI x49]) (st := []) E lk_P_332 sc_Ma_max (C_Ma_max (xl X) X.1 v2 x49 μ _ hc52) rfl rfl (by rw [hR]; dsimp only; omega) (by rw [hR]; dsimp only; omega) (Nat.le_of_ble_eq_true rfl) dP_comesTo_52 ?_
      refine wm_istore (lv' := [(7, vI x52), (6, vR x38), (0, vR v0), (1, vI v1), (2, vI v2), (3, vI v3), (4, vI v4), (5, vI v5)]) E dP_comesTo_55 (by decide) rfl ?_
      refine wm_iload_n E dP_comesTo_57 rfl (j := 5) rfl ?_
      refine wm_aload E dP_comesTo_58 (j := 1) rfl ?_
      refine wm_gI E fd_P_338 h dP_comesTo_60 (fun x60 h => ?_)
      obtain ⟨x63, hc63, h⟩ := b1S h
      refine wm_cS (As := [vI v3, vI x60]) (st := []) E lk_P_341 sc_Ma_min (C_Ma_min (xl X) X.1 v3 x60 μ _ hc63) rfl rfl (by rw [hR]; dsimp only; omega) (by rw [hR]; dsimp only; omega) (Nat.le_of_ble_eq_true rfl) dP_comesTo_63 ?_
      refine wm_istore (lv' := [(8, vI x63), (7, vI x52), (6, vR x38), (0, vR v0), (1, vI v1), (2, vI v2), (3, vI v3), (4, vI v4), (5, vI v5)]) E dP_comesTo_66 (by decide) rfl ?_
      refine wm_iload E dP_comesTo_68 (j := 1) rfl ?_
      refine wm_iload E dP_comesTo_70 (j := 0) rfl ?_
      refine wm_icmp_gt (tgt := 97) E dP_comesTo_72 (by decide) (fun c72 => ?_) (fun c72 => ?_)
      · have h := (if_pos c72).symm.trans h
        refine wm_pick (lv' := [(0, vR v0), (1, vI v1), (2, vI v2), (3, vI v3), (4, vI v4), (5, vI v5)]) [3, 4, 5, 6, 7, 8] rfl ?_
        exact w_P_comesTo_97 E hQ hR hI f hf hF hL (fun v0 v1 v2 v3 v4 v5 => B_P_comesTo_20 μ f n v0 v1 v2 v3 v4 v5) ih v0 v1 v2 v3 v4 v5 h
      · have h := (if_neg c72).symm.trans h
        refine wm_aload E dP_comesTo_75 (j := 2) rfl ?_
        refine wm_gR E fd_P_344 h dP_comesTo_77 (fun x77 h => ?_)
        refine wm_iload_n E dP_comesTo_80 rfl (j := 4) rfl ?_
        refine wm_iload E dP_comesTo_81 (j := 1) rfl ?_
        refine wm_iload E dP_comesTo_83 (j := 0) rfl ?_
        refine wm_iload E dP_comesTo_85 (j := 7) rfl ?_
        refine wm_iconst (x := 1) E dP_comesTo_87 (by decide) ?_
        refine wm_iadd E dP_comesTo_88 ?_
        obtain ⟨x89, hc89, h⟩ := b1S h
        refine wm_cS (As := [vR x77, vI v1, vI x52, vI x63, vI (v4 + 1)]) (st := []) E lk_P_176 sc_P_comesTo (hf x77 v1 x52 x63 (v4 + 1) _ hc89) rfl rfl (by rw [hR]; dsimp only; omega) (by rw [hR]; dsimp only; omega) (Nat.le_of_ble_eq_true rfl) dP_comesTo_89 ?_
        refine wm_if_eq (tgt := 97) E dP_comesTo_92 (by decide) (fun c92 => ?_) (fun c92 => ?_)
        · have h := (if_pos c92).symm.trans h
          refine wm_pick (lv' := [(0, vR v0), (1, vI v1), (2, vI v2), (3, vI v3), (4, vI v4), (5, vI v5)]) [3, 4, 5, 6, 7, 8] rfl ?_
          exact w_P_comesTo_97 E hQ hR hI f hf hF hL (fun v0 v1 v2 v3 v4 v5 => B_P_comesTo_20 μ f n v0 v1 v2 v3 v4 v5) ih v0 v1 v2 v3 v4 v5 h
        · have h := (if_neg c92).symm.trans h
          refine wm_iconst (x := 1) E dP_comesTo_95 (by decide) ?_
          obtain ⟨hz96, h⟩ := gdS h
          exact wm_zret (rt := .boolean) E hQ (rqI1 h) rfl (okZN hz96) (by decide) (by decide) dP_comesTo_96
def F_P_comesTo (μ : Mem) (f : Option Nat → Int32 → Int32 → Int32 → Int32 → Option Int32) (v0 : Option Nat) (v1 : Int32) (v2 : Int32) (v3 : Int32) (v4 : Int32) : Option Int32 := b1 (gI μ v0 7 0) (fun x1 => if x1 = v1 then B_P_comesTo_15 μ f  else if v4 < 30 then B_P_comesTo_20 μ f fu v0 v1 v2 v3 v4 0 else B_P_comesTo_15 μ f )
def G_P_comesTo (μ : Mem) : Nat → Option Nat → Int32 → Int32 → Int32 → Int32 → Option Int32
  | 0, _, _, _, _, _ => none
  | n + 1, v0, v1, v2, v3, v4 => F_P_comesTo μ (G_P_comesTo μ n) v0 v1 v2 v3 v4
def S_P_comesTo (n : Nat) (v0 : Option Nat) (v1 : Int32) (v2 : Int32) (v3 : Int32) (v4 : Int32) (μ : Mem) : Option Int32 := G_P_comesTo μ n v0 v1 v2 v3 v4
set_option maxHeartbeats 4000000 in
set_option maxRecDepth 100000 in
theorem w_P_comesTo_e {X : CX} {F L : Nat} (E : EV X prog_1_method_30_code 9 "PlaceFinder" (some .boolean)) {μ0 μ : Mem} {r : Int32} (hQ : RQ X 0 0 μ0 (some (vI r)) μ) (hR : xR X = { frames := F + 1, cells := 0, slots := 0, locals := L + 28 }) (hI : X.2.2.2.2.2.2.2.2.2.2.2.1.name = "comesTo") (f : Option Nat → Int32 → Int32 → Int32 → Int32 → Option Int32) (hf : ∀ (v0 : Option Nat) (v1 : Int32) (v2 : Int32) (v3 : Int32) (v4 : Int32) (r : Int32), f v0 v1 v2 v3 v4 = some r → CT (xl X) X.1 y_P_comesTo prog_1_method_30_code 9 (some .boolean) F 0 0 L μ [vR v0, vI v1, vI v2, vI v3, vI v4] (some (vI r)) μ) (hF : 5 ≤ F) (hL : 200 ≤ L) (v0 : Option Nat) (v1 : Int32) (v2 : Int32) (v3 : Int32) (v4 : Int32) (h : F_P_comesTo μ f v0 v1 v2 v3 v4 = some r) : WM X 9 0 [(0, vR v0), (1, vI v1), (2, vI v2), (3, vI v3), (4, vI v4)] [] 0 0 μ := by
  have h : (b1 (gI μ v0 7 0) (fun x1 => if x1 = v1 then B_P_comesTo_15 μ f  else if v4 < 30 then B_P_comesTo_20 μ f fu v0 v1 v2 v3 v4 0 else B_P_comesTo_15 μ f )) = some r := h
  refine wm_aload_n E dP_comesTo_0 rfl (j := 0) rfl ?_
  refine wm_gI E fd_P_270 h dP_comesTo_1 (fun x1 h => ?_)
  refine wm_iload_n E dP_comesTo_4 rfl (j := 1) rfl ?_
  refine wm_icmp_eq (tgt := 15) E dP_comesTo_5 (by decide) (fun c5 => ?_) (fun c5 => ?_)
  · have h := (if_pos c5).symm.trans h
    refine wm_pick (lv' := []) [] rfl ?_
    exact w_P_comesTo_15 E hQ hR hI f hf hF hL  h
  · have h := (if_neg c5).symm.trans h
    refine wm_iload E dP_comesTo_8 (j := 4) rfl ?_
    refine wm_bipush (x := 30) E dP_comesTo_10 (by decide) ?_
    refine wm_icmp_lt (tgt := 17) E dP_comesTo_12 (by decide) (fun c12 => ?_) (fun c12 => ?_)
    · have h := (if_pos c12).symm.trans h
      refine wm_iconst (x := 0) E dP_comesTo_17 (by decide) ?_
      refine wm_istore (lv' := [(5, vI 0), (0, vR v0), (1, vI v1), (2, vI v2), (3, vI v3), (4, vI v4)]) E dP_comesTo_18 (by decide) rfl ?_
      refine wm_pick (lv' := [(0, vR v0), (1, vI v1), (2, vI v2), (3, vI v3), (4, vI v4), (5, vI 0)]) [1, 2, 3, 4, 5, 0] rfl ?_
      exact w_P_comesTo_20 E hQ hR hI f hf hF hL fu v0 v1 v2 v3 v4 0 h
    · have h := (if_neg c12).symm.trans h
      refine wm_pick (lv' := []) [] rfl ?_
      exact w_P_comesTo_15 E hQ hR hI f hf hF hL  h
theorem C_P_comesTo (n : Nat) : ∀ (l : Launch) (G : GG) (v0 : Option Nat) (v1 : Int32) (v2 : Int32) (v3 : Int32) (v4 : Int32) (μ : Mem) (r : Int32) (h : S_P_comesTo n v0 v1 v2 v3 v4 μ = some r), CT l G y_P_comesTo prog_1_method_30_code 9 (some .boolean) (5 + n) 0 0 (200 + 28 * n) μ [vR v0, vI v1, vI v2, vI v3, vI v4] (some (vI r)) μ := by
  induction n with
  | zero => intro l G v0 v1 v2 v3 v4 μ r h; cases h
  | succ n ih =>
    intro l G v0 v1 v2 v3 v4 μ r h
    refine wm_met (lv := [(0, vR v0), (1, vI v1), (2, vI v2), (3, vI v3), (4, vI v4)]) (by decide +kernel) (Nat.le_of_ble_eq_true rfl) rfl (fun X E hQ hR hI => ?_)
    exact w_P_comesTo_e (F := 5 + n) (L := 200 + 28 * n) E hQ hR hI (G_P_comesTo μ n) (fun v0 v1 v2 v3 v4 r h => ih (xl X) X.1 v0 v1 v2 v3 v4 μ r h) (Nat.le_add_right _ _) (Nat.le_add_right _ _) v0 v1 v2 v3 v4 h
