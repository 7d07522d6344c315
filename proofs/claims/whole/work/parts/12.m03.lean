def B_M_parentOf_57 (k5 : Option Nat → Int32 → Int32 → Int32 → Int32 → Mem → Option (Int32 × Mem)) (v0 : Option Nat) (v1 : Int32) (v2 : Int32) (v3 : Int32) (v4 : Int32) (μ : Mem) : Option (Int32 × Mem) := k5 v0 v1 v2 v3 (v4 + 1) μ
set_option maxHeartbeats 4000000 in
set_option maxRecDepth 100000 in
theorem w_M_parentOf_57 {X : CX} (E : EV X prog_13_method_29_code 5 "PlaceFinderModel" (some .int)) {μ0 μ' : Mem} {r : Int32} (hQ : RQ X 0 0 μ0 (some (vI r)) μ') (hR : xR X = { frames := 1, cells := 0, slots := 0, locals := 22 }) (hI : X.2.2.2.2.2.2.2.2.2.2.2.1.name = "parentOf") (k5 : Option Nat → Int32 → Int32 → Int32 → Int32 → Mem → Option (Int32 × Mem)) (hk5 : ∀ (v0 : Option Nat) (v1 : Int32) (v2 : Int32) (v3 : Int32) (v4 : Int32) (μ : Mem), k5 v0 v1 v2 v3 v4 μ = some (r, μ') → WM X 5 5 [(0, vR v0), (1, vI v1), (2, vI v2), (3, vI v3), (4, vI v4)] [] 0 0 μ) (v0 : Option Nat) (v1 : Int32) (v2 : Int32) (v3 : Int32) (v4 : Int32) (μ : Mem) (h : B_M_parentOf_57 k5 v0 v1 v2 v3 v4 μ = some (r, μ')) : WM X 5 57 [(0, vR v0), (1, vI v1), (2, vI v2), (3, vI v3), (4, vI v4)] [] 0 0 μ := by
  have h : (k5 v0 v1 v2 v3 (v4 + 1) μ) = some (r, μ') := h
  refine wm_iinc (lv' := [(4, vI (v4 + 1)), (0, vR v0), (1, vI v1), (2, vI v2), (3, vI v3)]) (d := 1) E dM_parentOf_57 (by decide) (j := 4) rfl (by decide) rfl ?_
  refine wm_goto (tgt := 5) E dM_parentOf_60 (by decide) ?_
  refine wm_pick (lv' := [(0, vR v0), (1, vI v1), (2, vI v2), (3, vI v3), (4, vI (v4 + 1))]) [1, 2, 3, 4, 0] rfl ?_
  exact hk5 v0 v1 v2 v3 (v4 + 1) μ h
def B_M_parentOf_5  : Nat → Option Nat → Int32 → Int32 → Int32 → Int32 → Mem → Option (Int32 × Mem)
  | 0, _, _, _, _, _, _ => none
  | n + 1, v0, v1, v2, v3, v4, μ => b1 (gR μ v0 12 14) (fun x8 => b1 (aI μ x8 0 v1) (fun x12 => if x12 ≤ v4 then some (v3, μ) else b1 (gR μ v0 12 16) (fun x18 => b1 (aI μ x18 0 ((4 * v1) + v4)) (fun x27 => b1 (gR μ v0 12 17) (fun x29 => b1 (aI μ x29 0 ((4 * v1) + v4)) (fun x38 => b2 (S_M_in v2 x27 x38 μ) (fun x39 m39 => if x39 = 0 then B_M_parentOf_57 (fun v0 v1 v2 v3 v4 μ => B_M_parentOf_5 n v0 v1 v2 v3 v4 μ) v0 v1 v2 v3 v4 m39 else b1 (gR m39 v0 12 15) (fun x46 => b1 (aI m39 x46 0 ((4 * v1) + v4)) (fun x55 => B_M_parentOf_57 (fun v0 v1 v2 v3 v4 μ => B_M_parentOf_5 n v0 v1 v2 v3 v4 μ) v0 v1 v2 x55 v4 m39)))))))))
set_option maxHeartbeats 4000000 in
set_option maxRecDepth 100000 in
theorem w_M_parentOf_5 {X : CX} (E : EV X prog_13_method_29_code 5 "PlaceFinderModel" (some .int)) {μ0 μ' : Mem} {r : Int32} (hQ : RQ X 0 0 μ0 (some (vI r)) μ') (hR : xR X = { frames := 1, cells := 0, slots := 0, locals := 22 }) (hI : X.2.2.2.2.2.2.2.2.2.2.2.1.name = "parentOf")  (n : Nat) : ∀ (v0 : Option Nat) (v1 : Int32) (v2 : Int32) (v3 : Int32) (v4 : Int32) (μ : Mem) (h : B_M_parentOf_5  n v0 v1 v2 v3 v4 μ = some (r, μ')), WM X 5 5 [(0, vR v0), (1, vI v1), (2, vI v2), (3, vI v3), (4, vI v4)] [] 0 0 μ := by
  induction n with
  | zero => intro v0 v1 v2 v3 v4 μ h; cases h
  | succ n ih =>
    intro v0 v1 v2 v3 v4 μ h
    have h : (b1 (gR μ v0 12 14) (fun x8 => b1 (aI μ x8 0 v1) (fun x12 => if x12 ≤ v4 then some (v3, μ) else b1 (gR μ v0 12 16) (fun x18 => b1 (aI μ x18 0 ((4 * v1) + v4)) (fun x27 => b1 (gR μ v0 12 17) (fun x29 => b1 (aI μ x29 0 ((4 * v1) + v4)) (fun x38 => b2 (S_M_in v2 x27 x38 μ) (fun x39 m39 => if x39 = 0 then B_M_parentOf_57 (fun v0 v1 v2 v3 v4 μ => B_M_parentOf_5 n v0 v1 v2 v3 v4 μ) v0 v1 v2 v3 v4 m39 else b1 (gR m39 v0 12 15) (fun x46 => b1 (aI m39 x46 0 ((4 * v1) + v4)) (fun x55 => B_M_parentOf_57 (fun v0 v1 v2 v3 v4 μ => B_M_parentOf_5 n v0 v1 v2 v3 v4 μ) v0 v1 v2 x55 v4 m39)))))))))) = some (r, μ') := h
    refine wm_iload E dM_parentOf_5 (j := 4) rfl ?_
    refine wm_aload_n E dM_parentOf_7 rfl (j := 0) rfl ?_
    refine wm_gR E fd_M_46 h dM_parentOf_8 (fun x8 h => ?_)
    refine wm_iload_n E dM_parentOf_11 rfl (j := 1) rfl ?_
    refine wm_iald (t := 0) E rfl h dM_parentOf_12 (fun x12 h => ?_)
    refine wm_icmp_ge (tgt := 63) E dM_parentOf_13 (by decide) (fun c13 => ?_) (fun c13 => ?_)
    · have h := (if_pos c13).symm.trans h
      refine wm_iload_n E dM_parentOf_63 rfl (j := 3) rfl ?_
      exact wm_iret (rt := .int) E hQ (rtI h) (rtM h) (by decide) (by decide) dM_parentOf_64
    · have h := (if_neg c13).symm.trans h
      refine wm_iload_n E dM_parentOf_16 rfl (j := 2) rfl ?_
      refine wm_aload_n E dM_parentOf_17 rfl (j := 0) rfl ?_
      refine wm_gR E fd_M_52 h dM_parentOf_18 (fun x18 h => ?_)
      refine wm_iconst (x := 4) E dM_parentOf_21 (by decide) ?_
      refine wm_iload_n E dM_parentOf_22 rfl (j := 1) rfl ?_
      refine wm_imul E dM_parentOf_23 ?_
      refine wm_iload E dM_parentOf_24 (j := 4) rfl ?_
      refine wm_iadd E dM_parentOf_26 ?_
      refine wm_iald (t := 0) E rfl h dM_parentOf_27 (fun x27 h => ?_)
      refine wm_aload_n E dM_parentOf_28 rfl (j := 0) rfl ?_
      refine wm_gR E fd_M_55 h dM_parentOf_29 (fun x29 h => ?_)
      refine wm_iconst (x := 4) E dM_parentOf_32 (by decide) ?_
      refine wm_iload_n E dM_parentOf_33 rfl (j := 1) rfl ?_
      refine wm_imul E dM_parentOf_34 ?_
      refine wm_iload E dM_parentOf_35 (j := 4) rfl ?_
      refine wm_iadd E dM_parentOf_37 ?_
      refine wm_iald (t := 0) E rfl h dM_parentOf_38 (fun x38 h => ?_)
      obtain ⟨x39, m39, hc39, h⟩ := b2S h
      refine wm_cS (As := [vI v2, vI x27, vI x38]) (st := []) E lk_M_139 sc_M_in (C_M_in (xl X) X.1 v2 x27 x38 μ _ _ hc39) rfl rfl (by rw [hR]; decide) (by rw [hR]; decide) (Nat.le_of_ble_eq_true rfl) dM_parentOf_39 ?_
      refine wm_if_eq (tgt := 57) E dM_parentOf_42 (by decide) (fun c42 => ?_) (fun c42 => ?_)
      · have h := (if_pos c42).symm.trans h
        refine wm_pick (lv' := [(0, vR v0), (1, vI v1), (2, vI v2), (3, vI v3), (4, vI v4)]) [0, 1, 2, 3, 4] rfl ?_
        exact w_M_parentOf_57 E hQ hR hI (fun v0 v1 v2 v3 v4 μ => B_M_parentOf_5 n v0 v1 v2 v3 v4 μ) ih v0 v1 v2 v3 v4 m39 h
      · have h := (if_neg c42).symm.trans h
        refine wm_aload_n E dM_parentOf_45 rfl (j := 0) rfl ?_
        refine wm_gR E fd_M_49 h dM_parentOf_46 (fun x46 h => ?_)
        refine wm_iconst (x := 4) E dM_parentOf_49 (by decide) ?_
        refine wm_iload_n E dM_parentOf_50 rfl (j := 1) rfl ?_
        refine wm_imul E dM_parentOf_51 ?_
        refine wm_iload E dM_parentOf_52 (j := 4) rfl ?_
        refine wm_iadd E dM_parentOf_54 ?_
        refine wm_iald (t := 0) E rfl h dM_parentOf_55 (fun x55 h => ?_)
        refine wm_istore_n (lv' := [(3, vI x55), (0, vR v0), (1, vI v1), (2, vI v2), (4, vI v4)]) E dM_parentOf_56 rfl (by decide) rfl ?_
        refine wm_pick (lv' := [(0, vR v0), (1, vI v1), (2, vI v2), (3, vI x55), (4, vI v4)]) [1, 2, 3, 0, 4] rfl ?_
        exact w_M_parentOf_57 E hQ hR hI (fun v0 v1 v2 v3 v4 μ => B_M_parentOf_5 n v0 v1 v2 v3 v4 μ) ih v0 v1 v2 x55 v4 m39 h
def S_M_parentOf (v0 : Option Nat) (v1 : Int32) (v2 : Int32) (μ : Mem) : Option (Int32 × Mem) := b0 ((-1)) (fun x1 => B_M_parentOf_5 fu v0 v1 v2 x1 0 μ)
set_option maxHeartbeats 4000000 in
set_option maxRecDepth 100000 in
theorem C_M_parentOf (l : Launch) (G : GG) (v0 : Option Nat) (v1 : Int32) (v2 : Int32) (μ μ' : Mem) (r : Int32) (h : S_M_parentOf v0 v1 v2 μ = some (r, μ')) : CT l G y_M_parentOf prog_13_method_29_code 5 (some .int) 1 0 0 22 μ [vR v0, vI v1, vI v2] (some (vI r)) μ' := by
  refine wm_met (lv := [(0, vR v0), (1, vI v1), (2, vI v2)]) (by decide +kernel) (Nat.le_of_ble_eq_true rfl) rfl (fun X E hQ hR hI => ?_)
  have h : (b0 ((-1)) (fun x1 => B_M_parentOf_5 fu v0 v1 v2 x1 0 μ)) = some (r, μ') := h
  refine wm_iconst (x := -1) E dM_parentOf_0 (by decide) ?_
  refine wm_letI h (fun x1 h => ?_)
  refine wm_istore_n (lv' := [(3, vI x1), (0, vR v0), (1, vI v1), (2, vI v2)]) E dM_parentOf_1 rfl (by decide) rfl ?_
  refine wm_iconst (x := 0) E dM_parentOf_2 (by decide) ?_
  refine wm_istore (lv' := [(4, vI 0), (3, vI x1), (0, vR v0), (1, vI v1), (2, vI v2)]) E dM_parentOf_3 (by decide) rfl ?_
  refine wm_pick (lv' := [(0, vR v0), (1, vI v1), (2, vI v2), (3, vI x1), (4, vI 0)]) [2, 3, 4, 1, 0] rfl ?_
  exact w_M_parentOf_5 E hQ hR hI fu v0 v1 v2 x1 0 μ h
def B_M_isAbove_42   (μ : Mem) : Option (Int32 × Mem) := gd (¬ okZ 0 = true) (some (0, μ))
set_option maxHeartbeats 4000000 in
set_option maxRecDepth 100000 in
theorem w_M_isAbove_42 {X : CX} (E : EV X prog_13_method_30_code 6 "PlaceFinderModel" (some .boolean)) {μ0 μ' : Mem} {r : Int32} (hQ : RQ X 0 0 μ0 (some (vI r)) μ') (hR : xR X = { frames := 2, cells := 0, slots := 0, locals := 46 }) (hI : X.2.2.2.2.2.2.2.2.2.2.2.1.name = "isAbove")   (μ : Mem) (h : B_M_isAbove_42   μ = some (r, μ')) : WM X 6 42 [] [] 0 0 μ := by
  have h : (gd (¬ okZ 0 = true) (some (0, μ))) = some (r, μ') := h
  refine wm_iconst (x := 0) E dM_isAbove_42 (by decide) ?_
  obtain ⟨hz43, h⟩ := gdS h
  exact wm_zret (rt := .boolean) E hQ (rtI h) (rtM h) (okZN hz43) (by decide) (by decide) dM_isAbove_43
def B_M_isAbove_6  : Nat → Option Nat → Int32 → Int32 → Int32 → Int32 → Mem → Option (Int32 × Mem)
  | 0, _, _, _, _, _, _ => none
  | n + 1, v0, v1, v3, v4, v5, μ => if 30 < v5 then B_M_isAbove_42 μ else if v4 = ((-1)) then B_M_isAbove_42 μ else if v4 = v1 then gd (¬ okZ 1 = true) (some (1, μ)) else b1 (rc μ v0 12) (fun _ => b2 (S_M_parentOf v0 v4 v3 μ) (fun x31 m31 => (fun v0 v1 v3 v4 v5 μ => B_M_isAbove_6 n v0 v1 v3 v4 v5 μ) v0 v1 v3 x31 (v5 + 1) m31))
set_option maxHeartbeats 4000000 in
set_option maxRecDepth 100000 in
theorem w_M_isAbove_6 {X : CX} (E : EV X prog_13_method_30_code 6 "PlaceFinderModel" (some .boolean)) {μ0 μ' : Mem} {r : Int32} (hQ : RQ X 0 0 μ0 (some (vI r)) μ') (hR : xR X = { frames := 2, cells := 0, slots := 0, locals := 46 }) (hI : X.2.2.2.2.2.2.2.2.2.2.2.1.name = "isAbove")  (n : Nat) : ∀ (v0 : Option Nat) (v1 : Int32) (v3 : Int32) (v4 : Int32) (v5 : Int32) (μ : Mem) (h : B_M_isAbove_6  n v0 v1 v3 v4 v5 μ = some (r, μ')), WM X 6 6 [(0, vR v0), (1, vI v1), (3, vI v3), (4, vI v4), (5, vI v5)] [] 0 0 μ := by
  induction n with
  | zero => intro v0 v1 v3 v4 v5 μ h; cases h
  | succ n ih =>
    intro v0 v1 v3 v4 v5 μ h
    have h : (if 30 < v5 then B_M_isAbove_42 μ else if v4 = ((-1)) then B_M_isAbove_42 μ else if v4 = v1 then gd (¬ okZ 1 = true) (some (1, μ)) else b1 (rc μ v0 12) (fun _ => b2 (S_M_parentOf v0 v4 v3 μ) (fun x31 m31 => (fun v0 v1 v3 v4 v5 μ => B_M_isAbove_6 n v0 v1 v3 v4 v5 μ) v0 v1 v3 x31 (v5 + 1) m31))) = some (r, μ') := h
    refine wm_iload E dM_isAbove_6 (j := 4) rfl ?_
    refine wm_bipush (x := 30) E dM_isAbove_8 (by decide) ?_
    refine wm_icmp_gt (tgt := 42) E dM_isAbove_10 (by decide) (fun c10 => ?_) (fun c10 => ?_)
    · have h := (if_pos c10).symm.trans h
      refine wm_pick (lv' := []) [] rfl ?_
      exact w_M_isAbove_42 E hQ hR hI μ h
    · have h := (if_neg c10).symm.trans h
      refine wm_iload E dM_isAbove_13 (j := 3) rfl ?_
      refine wm_iconst (x := -1) E dM_isAbove_15 (by decide) ?_
      refine wm_icmp_eq (tgt := 42) E dM_isAbove_16 (by decide) (fun c16 => ?_) (fun c16 => ?_)
      · have h := (if_pos c16).symm.trans h
        refine wm_pick (lv' := []) [] rfl ?_
        exact w_M_isAbove_42 E hQ hR hI μ h
      · have h := (if_neg c16).symm.trans h
        refine wm_iload E dM_isAbove_19 (j := 3) rfl ?_
        refine wm_iload_n E dM_isAbove_21 rfl (j := 1) rfl ?_
        refine wm_icmp_ne (tgt := 27) E dM_isAbove_22 (by decide) (fun c22 => ?_) (fun c22 => ?_)
        · have h := (if_neg c22).symm.trans h
          refine wm_aload_n E dM_isAbove_27 rfl (j := 0) rfl ?_
          refine wm_iload E dM_isAbove_28 (j := 3) rfl ?_
          refine wm_iload_n E dM_isAbove_30 rfl (j := 2) rfl ?_
          obtain ⟨u31, hr31, h⟩ := b1S h
          obtain ⟨x31, m31, hc31, h⟩ := b2S h
          refine wm_cV (ci := 12) (As := [vI v4, vI v3]) (st := []) E lk_M_202 rfl im_M_parentOf sl_M_parentOf hr31 (C_M_parentOf (xl X) X.1 v0 v4 v3 μ _ _ hc31) rfl rfl (by rw [hR]; decide) (by rw [hR]; decide) (Nat.le_of_ble_eq_true rfl) dM_isAbove_31 ?_
          refine wm_istore (lv' := [(4, vI x31), (0, vR v0), (1, vI v1), (3, vI v3), (5, vI v5)]) E dM_isAbove_34 (by decide) rfl ?_
          refine wm_iinc (lv' := [(5, vI (v5 + 1)), (4, vI x31), (0, vR v0), (1, vI v1), (3, vI v3)]) (d := 1) E dM_isAbove_36 (by decide) (j := 4) rfl (by decide) rfl ?_
          refine wm_goto (tgt := 6) E dM_isAbove_39 (by decide) ?_
          refine wm_pick (lv' := [(0, vR v0), (1, vI v1), (3, vI v3), (4, vI x31), (5, vI (v5 + 1))]) [2, 3, 4, 1, 0] rfl ?_
          exact ih v0 v1 v3 x31 (v5 + 1) m31 h
        · have h := (if_pos c22).symm.trans h
          refine wm_iconst (x := 1) E dM_isAbove_25 (by decide) ?_
          obtain ⟨hz26, h⟩ := gdS h
          exact wm_zret (rt := .boolean) E hQ (rtI h) (rtM h) (okZN hz26) (by decide) (by decide) dM_isAbove_26
def S_M_isAbove (v0 : Option Nat) (v1 : Int32) (v2 : Int32) (v3 : Int32) (μ : Mem) : Option (Int32 × Mem) := B_M_isAbove_6 fu v0 v1 v3 v2 0 μ
set_option maxHeartbeats 4000000 in
set_option maxRecDepth 100000 in
theorem C_M_isAbove (l : Launch) (G : GG) (v0 : Option Nat) (v1 : Int32) (v2 : Int32) (v3 : Int32) (μ μ' : Mem) (r : Int32) (h : S_M_isAbove v0 v1 v2 v3 μ = some (r, μ')) : CT l G y_M_isAbove prog_13_method_30_code 6 (some .boolean) 2 0 0 46 μ [vR v0, vI v1, vI v2, vI v3] (some (vI r)) μ' := by
  refine wm_met (lv := [(0, vR v0), (1, vI v1), (2, vI v2), (3, vI v3)]) (by decide +kernel) (Nat.le_of_ble_eq_true rfl) rfl (fun X E hQ hR hI => ?_)
  have h : (B_M_isAbove_6 fu v0 v1 v3 v2 0 μ) = some (r, μ') := h
  refine wm_iload_n E dM_isAbove_0 rfl (j := 2) rfl ?_
  refine wm_istore (lv' := [(4, vI v2), (0, vR v0), (1, vI v1), (2, vI v2), (3, vI v3)]) E dM_isAbove_1 (by decide) rfl ?_
  refine wm_iconst (x := 0) E dM_isAbove_3 (by decide) ?_
  refine wm_istore (lv' := [(5, vI 0), (4, vI v2), (0, vR v0), (1, vI v1), (2, vI v2), (3, vI v3)]) E dM_isAbove_4 (by decide) rfl ?_
  refine wm_pick (lv' := [(0, vR v0), (1, vI v1), (3, vI v3), (4, vI v2), (5, vI 0)]) [2, 3, 5, 1, 0] rfl ?_
  exact w_M_isAbove_6 E hQ hR hI fu v0 v1 v3 v2 0 μ h
def B_M_parent_218  (v0 : Option Nat) (v1 : Int32) (v2 : Int32) (v3 : Int32) (v4 : Int32) (μ : Mem) : Option (Unit × Mem) := b1 (gI μ v0 12 0) (fun x219 => if x219 ≤ 0 then b1 (gR μ v0 12 14) (fun x230 => b1 (aI μ x230 0 v1) (fun x234 => b0 ((4 * v1) + x234) (fun x236 => b1 (gR μ v0 12 15) (fun x239 => b1 (sI μ x239 0 x236 v2) (fun m245 => b1 (gR m245 v0 12 16) (fun x247 => b1 (sI m245 x247 0 x236 v3) (fun m253 => b1 (gR m253 v0 12 17) (fun x255 => b1 (sI m253 x255 0 x236 v4) (fun m262 => b1 (gR m262 v0 12 14) (fun x264 => b1 (aI m262 x264 0 v1) (fun x269 => b1 (sI m262 x264 0 v1 (x269 + 1)) (fun m272 => some ((), m272))))))))))))) else some ((), μ))
set_option maxHeartbeats 4000000 in
set_option maxRecDepth 100000 in
theorem w_M_parent_218 {X : CX} (E : EV X prog_13_method_31_code 8 "PlaceFinderModel" none) {μ0 μ' : Mem} {r : Unit} (hQ : RQ X 0 0 μ0 none μ') (hR : xR X = { frames := 3, cells := 0, slots := 0, locals := 71 }) (hI : X.2.2.2.2.2.2.2.2.2.2.2.1.name = "parent")  (v0 : Option Nat) (v1 : Int32) (v2 : Int32) (v3 : Int32) (v4 : Int32) (μ : Mem) (h : B_M_parent_218  v0 v1 v2 v3 v4 μ = some (r, μ')) : WM X 8 218 [(0, vR v0), (1, vI v1), (2, vI v2), (3, vI v3), (4, vI v4)] [] 0 0 μ := by
  have h : (b1 (gI μ v0 12 0) (fun x219 => if x219 ≤ 0 then b1 (gR μ v0 12 14) (fun x230 => b1 (aI μ x230 0 v1) (fun x234 => b0 ((4 * v1) + x234) (fun x236 => b1 (gR μ v0 12 15) (fun x239 => b1 (sI μ x239 0 x236 v2) (fun m245 => b1 (gR m245 v0 12 16) (fun x247 => b1 (sI m245 x247 0 x236 v3) (fun m253 => b1 (gR m253 v0 12 17) (fun x255 => b1 (sI m253 x255 0 x236 v4) (fun m262 => b1 (gR m262 v0 12 14) (fun x264 => b1 (aI m262 x264 0 v1) (fun x269 => b1 (sI m262 x264 0 v1 (x269 + 1)) (fun m272 => some ((), m272))))))))))))) else some ((), μ))) = some (r, μ') := h
  refine wm_aload_n E dM_parent_218 rfl (j := 0) rfl ?_
  refine wm_gI E fd_M_132 h dM_parent_219 (fun x219 h => ?_)
  refine wm_if_le (tgt := 226) E dM_parent_222 (by decide) (fun c222 => ?_) (fun c222 => ?_)
  · have h := (if_pos c222).symm.trans h
    refine wm_iconst (x := 4) E dM_parent_226 (by decide) ?_
    refine wm_iload_n E dM_parent_227 rfl (j := 1) rfl ?_
    refine wm_imul E dM_parent_228 ?_
    refine wm_aload_n E dM_parent_229 rfl (j := 0) rfl ?_
    refine wm_gR E fd_M_46 h dM_parent_230 (fun x230 h => ?_)
    refine wm_iload_n E dM_parent_233 rfl (j := 1) rfl ?_
    refine wm_iald (t := 0) E rfl h dM_parent_234 (fun x234 h => ?_)
    refine wm_iadd E dM_parent_235 ?_
    refine wm_letI h (fun x236 h => ?_)
    refine wm_istore (lv' := [(5, vI x236), (0, vR v0), (1, vI v1), (2, vI v2), (3, vI v3), (4, vI v4)]) E dM_parent_236 (by decide) rfl ?_
    refine wm_aload_n E dM_parent_238 rfl (j := 1) rfl ?_
    refine wm_gR E fd_M_49 h dM_parent_239 (fun x239 h => ?_)
    refine wm_iload E dM_parent_242 (j := 0) rfl ?_
    refine wm_iload_n E dM_parent_244 rfl (j := 3) rfl ?_
    refine wm_iast (t := 0) E rfl h dM_parent_245 (fun m245 h => ?_)
    refine wm_aload_n E dM_parent_246 rfl (j := 1) rfl ?_
    refine wm_gR E fd_M_52 h dM_parent_247 (fun x247 h => ?_)
    refine wm_iload E dM_parent_250 (j := 0) rfl ?_
    refine wm_iload_n E dM_parent_252 rfl (j := 4) rfl ?_
    refine wm_iast (t := 0) E rfl h dM_parent_253 (fun m253 h => ?_)
    refine wm_aload_n E dM_parent_254 rfl (j := 1) rfl ?_
    refine wm_gR E fd_M_55 h dM_parent_255 (fun x255 h => ?_)
    refine wm_iload E dM_parent_258 (j := 0) rfl ?_
    refine wm_iload E dM_parent_260 (j := 5) rfl ?_
    refine wm_iast (t := 0) E rfl h dM_parent_262 (fun m262 h => ?_)
    refine wm_aload_n E dM_parent_263 rfl (j := 1) rfl ?_
    refine wm_gR E fd_M_46 h dM_parent_264 (fun x264 h => ?_)
    refine wm_iload_n E dM_parent_267 rfl (j := 2) rfl ?_
    refine wm_dup2_11 E dM_parent_268 rfl rfl ?_
    refine wm_iald (t := 0) E rfl h dM_parent_269 (fun x269 h => ?_)
    refine wm_iconst (x := 1) E dM_parent_270 (by decide) ?_
    refine wm_iadd E dM_parent_271 ?_
    refine wm_iast (t := 0) E rfl h dM_parent_272 (fun m272 h => ?_)
    exact wm_vret E hQ rfl (rtM h) (by decide) (by decide) dM_parent_273
  · have h := (if_neg c222).symm.trans h
    exact wm_vret E hQ rfl (rtM h) (by decide) (by decide) dM_parent_225
def B_M_parent_206 (k134 : Option Nat → Int32 → Int32 → Int32 → Int32 → Int32 → Mem → Option (Unit × Mem)) (k153 : Option Nat → Int32 → Int32 → Int32 → Int32 → Int32 → Int32 → Mem → Option (Unit × Mem)) (v0 : Option Nat) (v1 : Int32) (v2 : Int32) (v3 : Int32) (v4 : Int32) (v5 : Int32) (v6 : Int32) (μ : Mem) : Option (Unit × Mem) := k153 v0 v1 v2 v3 v4 v5 (v6 + 1) μ
set_option maxHeartbeats 4000000 in
set_option maxRecDepth 100000 in
theorem w_M_parent_206 {X : CX} (E : EV X prog_13_method_31_code 8 "PlaceFinderModel" none) {μ0 μ' : Mem} {r : Unit} (hQ : RQ X 0 0 μ0 none μ') (hR : xR X = { frames := 3, cells := 0, slots := 0, locals := 71 }) (hI : X.2.2.2.2.2.2.2.2.2.2.2.1.name = "parent") (k134 : Option Nat → Int32 → Int32 → Int32 → Int32 → Int32 → Mem → Option (Unit × Mem)) (hk134 : ∀ (v0 : Option Nat) (v1 : Int32) (v2 : Int32) (v3 : Int32) (v4 : Int32) (v5 : Int32) (μ : Mem), k134 v0 v1 v2 v3 v4 v5 μ = some (r, μ') → WM X 8 134 [(0, vR v0), (1, vI v1), (2, vI v2), (3, vI v3), (4, vI v4), (5, vI v5)] [] 0 0 μ) (k153 : Option Nat → Int32 → Int32 → Int32 → Int32 → Int32 → Int32 → Mem → Option (Unit × Mem)) (hk153 : ∀ (v0 : Option Nat) (v1 : Int32) (v2 : Int32) (v3 : Int32) (v4 : Int32) (v5 : Int32) (v6 : Int32) (μ : Mem), k153 v0 v1 v2 v3 v4 v5 v6 μ = some (r, μ') → WM X 8 153 [(0, vR v0), (1, vI v1), (2, vI v2), (3, vI v3), (4, vI v4), (5, vI v5), (6, vI v6)] [] 0 0 μ) (v0 : Option Nat) (v1 : Int32) (v2 : Int32) (v3 : Int32) (v4 : Int32) (v5 : Int32) (v6 : Int32) (μ : Mem) (h : B_M_parent_206 k134 k153 v0 v1 v2 v3 v4 v5 v6 μ = some (r, μ')) : WM X 8 206 [(0, vR v0), (1, vI v1), (2, vI v2), (3, vI v3), (4, vI v4), (5, vI v5), (6, vI v6)] [] 0 0 μ := by
  have h : (k153 v0 v1 v2 v3 v4 v5 (v6 + 1) μ) = some (r, μ') := h
  refine wm_iinc (lv' := [(6, vI (v6 + 1)), (0, vR v0), (1, vI v1), (2, vI v2), (3, vI v3), (4, vI v4), (5, vI v5)]) (d := 1) E dM_parent_206 (by decide) (j := 6) rfl (by decide) rfl ?_
  refine wm_goto (tgt := 153) E dM_parent_209 (by decide) ?_
  refine wm_pick (lv' := [(0, vR v0), (1, vI v1), (2, vI v2), (3, vI v3), (4, vI v4), (5, vI v5), (6, vI (v6 + 1))]) [1, 2, 3, 4, 5, 6, 0] rfl ?_
  exact hk153 v0 v1 v2 v3 v4 v5 (v6 + 1) μ h
def B_M_parent_153 (k134 : Option Nat → Int32 → Int32 → Int32 → Int32 → Int32 → Mem → Option (Unit × Mem)) : Nat → Option Nat → Int32 → Int32 → Int32 → Int32 → Int32 → Int32 → Mem → Option (Unit × Mem)
  | 0, _, _, _, _, _, _, _, _ => none
  | n + 1, v0, v1, v2, v3, v4, v5, v6, μ => b1 (gR μ v0 12 14) (fun x156 => b1 (aI μ x156 0 v5) (fun x161 => if x161 ≤ v6 then k134 v0 v1 v2 v3 v4 (v5 + 1) μ else b1 (gR μ v0 12 16) (fun x166 => b1 (aI μ x166 0 ((4 * v5) + v6)) (fun x176 => b2 (S_M_in x176 v3 v4 μ) (fun x184 m184 => if x184 = 0 then B_M_parent_206 k134 (fun v0 v1 v2 v3 v4 v5 v6 μ => B_M_parent_153 k134 n v0 v1 v2 v3 v4 v5 v6 μ) v0 v1 v2 v3 v4 v5 v6 m184 else b1 (rc m184 v0 12) (fun _ => b2 (S_M_isAbove v0 v1 v2 x176 m184) (fun x195 m195 => if x195 = 0 then B_M_parent_206 k134 (fun v0 v1 v2 v3 v4 v5 v6 μ => B_M_parent_153 k134 n v0 v1 v2 v3 v4 v5 v6 μ) v0 v1 v2 v3 v4 v5 v6 m195 else b1 (pV m195 v0 12 0 (vI 3)) (fun m203 => B_M_parent_206 k134 (fun v0 v1 v2 v3 v4 v5 v6 μ => B_M_parent_153 k134 n v0 v1 v2 v3 v4 v5 v6 μ) v0 v1 v2 v3 v4 v5 v6 m203))))))))
set_option maxHeartbeats 4000000 in
set_option maxRecDepth 100000 in
theorem w_M_parent_153 {X : CX} (E : EV X prog_13_method_31_code 8 "PlaceFinderModel" none) {μ0 μ' : Mem} {r : Unit} (hQ : RQ X 0 0 μ0 none μ') (hR : xR X = { frames := 3, cells := 0, slots := 0, locals := 71 }) (hI : X.2.2.2.2.2.2.2.2.2.2.2.1.name = "parent") (k134 : Option Nat → Int32 → Int32 → Int32 → Int32 → Int32 → Mem → Option (Unit × Mem)) (hk134 : ∀ (v0 : Option Nat) (v1 : Int32) (v2 : Int32) (v3 : Int32) (v4 : Int32) (v5 : Int32) (μ : Mem), k134 v0 v1 v2 v3 v4 v5 μ = some (r, μ') → WM X 8 134 [(0, vR v0), (1, vI v1), (2, vI v2), (3, vI v3), (4, vI v4), (5, vI v5)] [] 0 0 μ) (n : Nat) : ∀ (v0 : Option Nat) (v1 : Int32) (v2 : Int32) (v3 : Int32) (v4 : Int32) (v5 : Int32) (v6 : Int32) (μ : Mem) (h : B_M_parent_153 k134 n v0 v1 v2 v3 v4 v5 v6 μ = some (r, μ')), WM X 8 153 [(0, vR v0), (1, vI v1), (2, vI v2), (3, vI v3), (4, vI v4), (5, vI v5), (6, vI v6)] [] 0 0 μ := by
  induction n with
  | zero => intro v0 v1 v2 v3 v4 v5 v6 μ h; cases h
  | succ n ih =>
    intro v0 v1 v2 v3 v4 v5 v6 μ h
    have h : (b1 (gR μ v0 12 14) (fun x156 => b1 (aI μ x156 0 v5) (fun x161 => if x161 ≤ v6 then k134 v0 v1 v2 v3 v4 (v5 + 1) μ else b1 (gR μ v0 12 16) (fun x166 => b1 (aI μ x166 0 ((4 * v5) + v6)) (fun x176 => b2 (S_M_in x176 v3 v4 μ) (fun x184 m184 => if x184 = 0 then B_M_parent_206 k134 (fun v0 v1 v2 v3 v4 v5 v6 μ => B_M_parent_153 k134 n v0 v1 v2 v3 v4 v5 v6 μ) v0 v1 v2 v3 v4 v5 v6 m184 else b1 (rc m184 v0 12) (fun _ => b2 (S_M_isAbove v0 v1 v2 x176 m184) (fun x195 m195 => if x195 = 0 then B_M_parent_206 k134 (fun v0 v1 v2 v3 v4 v5 v6 μ => B_M_parent_153 k134 n v0 v1 v2 v3 v4 v5 v6 μ) v0 v1 v2 v3 v4 v5 v6 m195 else b1 (pV m195 v0 12 0 (vI 3)) (fun m203 => B_M_parent_206 k134 (fun v0 v1 v2 v3 v4 v5 v6 μ => B_M_parent_153 k134 n v0 v1 v2 v3 v4 v5 v6 μ) v0 v1 v2 v3 v4 v5 v6 m203))))))))) = some (r, μ') := h
    refine wm_iload E dM_parent_153 (j := 6) rfl ?_
    refine wm_aload_n E dM_parent_155 rfl (j := 0) rfl ?_
    refine wm_gR E fd_M_46 h dM_parent_156 (fun x156 h => ?_)
    refine wm_iload E dM_parent_159 (j := 5) rfl ?_
    refine wm_iald (t := 0) E rfl h dM_parent_161 (fun x161 h => ?_)
    refine wm_icmp_ge (tgt := 212) E dM_parent_162 (by decide) (fun c162 => ?_) (fun c162 => ?_)
    · have h := (if_pos c162).symm.trans h
      refine wm_iinc (lv' := [(5, vI (v5 + 1)), (0, vR v0), (1, vI v1), (2, vI v2), (3, vI v3), (4, vI v4), (6, vI v6)]) (d := 1) E dM_parent_212 (by decide) (j := 5) rfl (by decide) rfl ?_
      refine wm_goto (tgt := 134) E dM_parent_215 (by decide) ?_
      refine wm_pick (lv' := [(0, vR v0), (1, vI v1), (2, vI v2), (3, vI v3), (4, vI v4), (5, vI (v5 + 1))]) [1, 2, 3, 4, 5, 0] rfl ?_
      exact hk134 v0 v1 v2 v3 v4 (v5 + 1) μ h
    · have h := (if_neg c162).symm.trans h
      refine wm_aload_n E dM_parent_165 rfl (j := 0) rfl ?_
      refine wm_gR E fd_M_52 h dM_parent_166 (fun x166 h => ?_)
      refine wm_iconst (x := 4) E dM_parent_169 (by decide) ?_
      refine wm_iload E dM_parent_170 (j := 5) rfl ?_
      refine wm_imul E dM_parent_172 ?_
      refine wm_iload E dM_parent_173 (j := 6) rfl ?_
      refine wm_iadd E dM_parent_175 ?_
      refine wm_iald (t := 0) E rfl h dM_parent_176 (fun x176 h => ?_)
      refine wm_istore (lv' := [(7, vI x176), (0, vR v0), (1, vI v1), (2, vI v2), (3, vI v3), (4, vI v4), (5, vI v5), (6, vI v6)]) E dM_parent_177 (by decide) rfl ?_
      refine wm_iload E dM_parent_179 (j := 0) rfl ?_
      refine wm_iload_n E dM_parent_181 rfl (j := 4) rfl ?_
      refine wm_iload E dM_parent_182 (j := 5) rfl ?_
      obtain ⟨x184, m184, hc184, h⟩ := b2S h
      refine wm_cS (As := [vI x176, vI v3, vI v4]) (st := []) E lk_M_139 sc_M_in (C_M_in (xl X) X.1 x176 v3 v4 μ _ _ hc184) rfl rfl (by rw [hR]; decide) (by rw [hR]; decide) (Nat.le_of_ble_eq_true rfl) dM_parent_184 ?_
      refine wm_if_eq (tgt := 206) E dM_parent_187 (by decide) (fun c187 => ?_) (fun c187 => ?_)
      · have h := (if_pos c187).symm.trans h
        refine wm_pick (lv' := [(0, vR v0), (1, vI v1), (2, vI v2), (3, vI v3), (4, vI v4), (5, vI v5), (6, vI v6)]) [1, 2, 3, 4, 5, 6, 7] rfl ?_
        exact w_M_parent_206 E hQ hR hI k134 hk134 (fun v0 v1 v2 v3 v4 v5 v6 μ => B_M_parent_153 k134 n v0 v1 v2 v3 v4 v5 v6 μ) ih v0 v1 v2 v3 v4 v5 v6 m184 h
      · have h := (if_neg c187).symm.trans h
        refine wm_aload_n E dM_parent_190 rfl (j := 1) rfl ?_
        refine wm_iload_n E dM_parent_191 rfl (j := 2) rfl ?_
        refine wm_iload_n E dM_parent_192 rfl (j := 3) rfl ?_
        refine wm_iload E dM_parent_193 (j := 0) rfl ?_
        obtain ⟨u195, hr195, h⟩ := b1S h
        obtain ⟨x195, m195, hc195, h⟩ := b2S h
        refine wm_cV (ci := 12) (As := [vI v1, vI v2, vI x176]) (st := []) E lk_M_205 rfl im_M_isAbove sl_M_isAbove hr195 (C_M_isAbove (xl X) X.1 v0 v1 v2 x176 m184 _ _ hc195) rfl rfl (by rw [hR]; decide) (by rw [hR]; decide) (Nat.le_of_ble_eq_true rfl) dM_parent_195 ?_
        refine wm_if_eq (tgt := 206) E dM_parent_198 (by decide) (fun c198 => ?_) (fun c198 => ?_)
        · have h := (if_pos c198).symm.trans h
          refine wm_pick (lv' := [(0, vR v0), (1, vI v1), (2, vI v2), (3, vI v3), (4, vI v4), (5, vI v5), (6, vI v6)]) [1, 2, 3, 4, 5, 6, 7] rfl ?_
          exact w_M_parent_206 E hQ hR hI k134 hk134 (fun v0 v1 v2 v3 v4 v5 v6 μ => B_M_parent_153 k134 n v0 v1 v2 v3 v4 v5 v6 μ) ih v0 v1 v2 v3 v4 v5 v6 m195 h
        · have h := (if_neg c198).symm.trans h
          refine wm_aload_n E dM_parent_201 rfl (j := 1) rfl ?_
          refine wm_iconst (x := 3) E dM_parent_202 (by decide) ?_
          refine wm_pI E fp_M_132 (fun q => by cases q) h dM_parent_203 (fun m203 h => ?_)
          refine wm_pick (lv' := [(0, vR v0), (1, vI v1), (2, vI v2), (3, vI v3), (4, vI v4), (5, vI v5), (6, vI v6)]) [1, 2, 3, 4, 5, 6, 7] rfl ?_
          exact w_M_parent_206 E hQ hR hI k134 hk134 (fun v0 v1 v2 v3 v4 v5 v6 μ => B_M_parent_153 k134 n v0 v1 v2 v3 v4 v5 v6 μ) ih v0 v1 v2 v3 v4 v5 v6 m203 h
def B_M_parent_134  : Nat → Option Nat → Int32 → Int32 → Int32 → Int32 → Int32 → Mem → Option (Unit × Mem)
  | 0, _, _, _, _, _, _, _ => none
  | n + 1, v0, v1, v2, v3, v4, v5, μ => b1 (gI μ v0 12 1) (fun x137 => if x137 ≤ v5 then B_M_parent_218 v0 v1 v2 v3 v4 μ else b1 (gI μ v0 12 0) (fun x144 => if x144 = 0 then B_M_parent_153 (fun v0 v1 v2 v3 v4 v5 μ => B_M_parent_134 n v0 v1 v2 v3 v4 v5 μ) fu v0 v1 v2 v3 v4 v5 0 μ else B_M_parent_218 v0 v1 v2 v3 v4 μ))
set_option maxHeartbeats 4000000 in
set_option maxRecDepth 100000 in
theorem w_M_parent_134 {X : CX} (E : EV X prog_13_method_31_code 8 "PlaceFinderModel" none) {μ0 μ' : Mem} {r : Unit} (hQ : RQ X 0 0 μ0 none μ') (hR : xR X = { frames := 3, cells := 0, slots := 0, locals := 71 }) (hI : X.2.2.2.2.2.2.2.2.2.2.2.1.name = "parent")  (n : Nat) : ∀ (v0 : Option Nat) (v1 : Int32) (v2 : Int32) (v3 : Int32) (v4 : Int32) (v5 : Int32) (μ : Mem) (h : B_M_parent_134  n v0 v1 v2 v3 v4 v5 μ = some (r, μ')), WM X 8 134 [(0, vR v0), (1, vI v1), (2, vI v2), (3, vI v3), (4, vI v4), (5, vI v5)] [] 0 0 μ := by
  induction n with
  | zero => intro v0 v1 v2 v3 v4 v5 μ h; cases h
  | succ n ih =>
    intro v0 v1 v2 v3 v4 v5 μ h
    have h : (b1 (gI μ v0 12 1) (fun x137 => if x137 ≤ v5 then B_M_parent_218 v0 v1 v2 v3 v4 μ else b1 (gI μ v0 12 0) (fun x144 => if x144 = 0 then B_M_parent_153 (fun v0 v1 v2 v3 v4 v5 μ => B_M_parent_134 n v0 v1 v2 v3 v4 v5 μ) fu v0 v1 v2 v3 v4 v5 0 μ else B_M_parent_218 v0 v1 v2 v3 v4 μ))) = some (r, μ') := h
    refine wm_iload E dM_parent_134 (j := 5) rfl ?_
    refine wm_aload_n E dM_parent_136 rfl (j := 0) rfl ?_
    refine wm_gI E fd_M_136 h dM_parent_137 (fun x137 h => ?_)
    refine wm_icmp_ge (tgt := 218) E dM_parent_140 (by decide) (fun c140 => ?_) (fun c140 => ?_)
    · have h := (if_pos c140).symm.trans h
      refine wm_pick (lv' := [(0, vR v0), (1, vI v1), (2, vI v2), (3, vI v3), (4, vI v4)]) [0, 1, 2, 3, 4] rfl ?_
      exact w_M_parent_218 E hQ hR hI v0 v1 v2 v3 v4 μ h
    · have h := (if_neg c140).symm.trans h
      refine wm_aload_n E dM_parent_143 rfl (j := 0) rfl ?_
      refine wm_gI E fd_M_132 h dM_parent_144 (fun x144 h => ?_)
      refine wm_if_ne (tgt := 218) E dM_parent_147 (by decide) (fun c147 => ?_) (fun c147 => ?_)
      · have h := (if_neg c147).symm.trans h
        refine wm_pick (lv' := [(0, vR v0), (1, vI v1), (2, vI v2), (3, vI v3), (4, vI v4)]) [0, 1, 2, 3, 4] rfl ?_
        exact w_M_parent_218 E hQ hR hI v0 v1 v2 v3 v4 μ h
      · have h := (if_pos c147).symm.trans h
        refine wm_iconst (x := 0) E dM_parent_150 (by decide) ?_
        refine wm_istore (lv' := [(6, vI 0), (0, vR v0), (1, vI v1), (2, vI v2), (3, vI v3), (4, vI v4), (5, vI v5)]) E dM_parent_151 (by decide) rfl ?_
        refine wm_pick (lv' := [(0, vR v0), (1, vI v1), (2, vI v2), (3, vI v3), (4, vI v4), (5, vI v5), (6, vI 0)]) [1, 2, 3, 4, 5, 6, 0] rfl ?_
        exact w_M_parent_153 E hQ hR hI (fun v0 v1 v2 v3 v4 v5 μ => B_M_parent_134 n v0 v1 v2 v3 v4 v5 μ) ih fu v0 v1 v2 v3 v4 v5 0 μ h
def B_M_parent_131  (v0 : Option Nat) (v1 : Int32) (v2 : Int32) (v3 : Int32) (v4 : Int32) (μ : Mem) : Option (Unit × Mem) := B_M_parent_134 fu v0 v1 v2 v3 v4 0 μ
set_option maxHeartbeats 4000000 in
set_option maxRecDepth 100000 in
theorem w_M_parent_131 {X : CX} (E : EV X prog_13_method_31_code 8 "PlaceFinderModel" none) {μ0 μ' : Mem} {r : Unit} (hQ : RQ X 0 0 μ0 none μ') (hR : xR X = { frames := 3, cells := 0, slots := 0, locals := 71 }) (hI : X.2.2.2.2.2.2.2.2.2.2.2.1.name = "parent")  (v0 : Option Nat) (v1 : Int32) (v2 : Int32) (v3 : Int32) (v4 : Int32) (μ : Mem) (h : B_M_parent_131  v0 v1 v2 v3 v4 μ = some (r, μ')) : WM X 8 131 [(0, vR v0), (1, vI v1), (2, vI v2), (3, vI v3), (4, vI v4)] [] 0 0 μ := by
  have h : (B_M_parent_134 fu v0 v1 v2 v3 v4 0 μ) = some (r, μ') := h
  refine wm_iconst (x := 0) E dM_parent_131 (by decide) ?_
  refine wm_istore (lv' := [(5, vI 0), (0, vR v0), (1, vI v1), (2, vI v2), (3, vI v3), (4, vI v4)]) E dM_parent_132 (by decide) rfl ?_
  refine wm_pick (lv' := [(0, vR v0), (1, vI v1), (2, vI v2), (3, vI v3), (4, vI v4), (5, vI 0)]) [1, 2, 3, 4, 5, 0] rfl ?_
  exact w_M_parent_134 E hQ hR hI fu v0 v1 v2 v3 v4 0 μ h
def B_M_parent_126  (v0 : Option Nat) (v1 : Int32) (v2 : Int32) (v3 : Int32) (v4 : Int32) (μ : Mem) : Option (Unit × Mem) := b1 (pV μ v0 12 0 (vI 3)) (fun m128 => B_M_parent_131 v0 v1 v2 v3 v4 m128)
set_option maxHeartbeats 4000000 in
set_option maxRecDepth 100000 in
theorem w_M_parent_126 {X : CX} (E : EV X prog_13_method_31_code 8 "PlaceFinderModel" none) {μ0 μ' : Mem} {r : Unit} (hQ : RQ X 0 0 μ0 none μ') (hR : xR X = { frames := 3, cells := 0, slots := 0, locals := 71 }) (hI : X.2.2.2.2.2.2.2.2.2.2.2.1.name = "parent")  (v0 : Option Nat) (v1 : Int32) (v2 : Int32) (v3 : Int32) (v4 : Int32) (μ : Mem) (h : B_M_parent_126  v0 v1 v2 v3 v4 μ = some (r, μ')) : WM X 8 126 [(0, vR v0), (1, vI v1), (2, vI v2), (3, vI v3), (4, vI v4)] [] 0 0 μ := by
  have h : (b1 (pV μ v0 12 0 (vI 3)) (fun m128 => B_M_parent_131 v0 v1 v2 v3 v4 m128)) = some (r, μ') := h
  refine wm_aload_n E dM_parent_126 rfl (j := 0) rfl ?_
  refine wm_iconst (x := 3) E dM_parent_127 (by decide) ?_
  refine wm_pI E fp_M_132 (fun q => by cases q) h dM_parent_128 (fun m128 h => ?_)
  refine wm_pick (lv' := [(0, vR v0), (1, vI v1), (2, vI v2), (3, vI v3), (4, vI v4)]) [0, 1, 2, 3, 4] rfl ?_
  exact w_M_parent_131 E hQ hR hI v0 v1 v2 v3 v4 m128 h
def B_M_parent_92 (k45 : Option Nat → Int32 → Int32 → Int32 → Int32 → Int32 → Mem → Option (Unit × Mem)) (v0 : Option Nat) (v1 : Int32) (v2 : Int32) (v3 : Int32) (v4 : Int32) (v5 : Int32) (μ : Mem) : Option (Unit × Mem) := k45 v0 v1 v2 v3 v4 (v5 + 1) μ
set_option maxHeartbeats 4000000 in
set_option maxRecDepth 100000 in
theorem w_M_parent_92 {X : CX} (E : EV X prog_13_method_31_code 8 "PlaceFinderModel" none) {μ0 μ' : Mem} {r : Unit} (hQ : RQ X 0 0 μ0 none μ') (hR : xR X = { frames := 3, cells := 0, slots := 0, locals := 71 }) (hI : X.2.2.2.2.2.2.2.2.2.2.2.1.name = "parent") (k45 : Option Nat → Int32 → Int32 → Int32 → Int32 → Int32 → Mem → Option (Unit × Mem)) (hk45 : ∀ (v0 : Option Nat) (v1 : Int32) (v2 : Int32) (v3 : Int32) (v4 : Int32) (v5 : Int32) (μ : Mem), k45 v0 v1 v2 v3 v4 v5 μ = some (r, μ') → WM X 8 45 [(0, vR v0), (1, vI v1), (2, vI v2), (3, vI v3), (4, vI v4), (5, vI v5)] [] 0 0 μ) (v0 : Option Nat) (v1 : Int32) (v2 : Int32) (v3 : Int32) (v4 : Int32) (v5 : Int32) (μ : Mem) (h : B_M_parent_92 k45 v0 v1 v2 v3 v4 v5 μ = some (r, μ')) : WM X 8 92 [(0, vR v0), (1, vI v1), (2, vI v2), (3, vI v3), (4, vI v4), (5, vI v5)] [] 0 0 μ := by
  have h : (k45 v0 v1 v2 v3 v4 (v5 + 1) μ) = some (r, μ') := h
  refine wm_iinc (lv' := [(5, vI (v5 + 1)), (0, vR v0), (1, vI v1), (2, vI v2), (3, vI v3), (4, vI v4)]) (d := 1) E dM_parent_92 (by decide) (j := 5) rfl (by decide) rfl ?_
  refine wm_goto (tgt := 45) E dM_parent_95 (by decide) ?_
  refine wm_pick (lv' := [(0, vR v0), (1, vI v1), (2, vI v2), (3, vI v3), (4, vI v4), (5, vI (v5 + 1))]) [1, 2, 3, 4, 5, 0] rfl ?_
  exact hk45 v0 v1 v2 v3 v4 (v5 + 1) μ h
def B_M_parent_45  : Nat → Option Nat → Int32 → Int32 → Int32 → Int32 → Int32 → Mem → Option (Unit × Mem)
  | 0, _, _, _, _, _, _, _ => none
  | n + 1, v0, v1, v2, v3, v4, v5, μ => b1 (gR μ v0 12 14) (fun x48 => b1 (aI μ x48 0 v1) (fun x52 => if x52 ≤ v5 then b1 (gI μ v0 12 0) (fun x99 => if x99 ≤ 0 then b1 (gR μ v0 12 14) (fun x107 => b1 (aI μ x107 0 v1) (fun x111 => if x111 = 4 then B_M_parent_126 v0 v1 v2 v3 v4 μ else b1 (rc μ v0 12) (fun _ => b2 (S_M_isAbove v0 v1 v2 v3 μ) (fun x120 m120 => if x120 = 0 then B_M_parent_131 v0 v1 v2 v3 v4 m120 else B_M_parent_126 v0 v1 v2 v3 v4 m120)))) else some ((), μ)) else b1 (gR μ v0 12 16) (fun x57 => b1 (aI μ x57 0 ((4 * v1) + v5)) (fun x66 => if v4 < x66 then B_M_parent_92 (fun v0 v1 v2 v3 v4 v5 μ => B_M_parent_45 n v0 v1 v2 v3 v4 v5 μ) v0 v1 v2 v3 v4 v5 μ else b1 (gR μ v0 12 17) (fun x74 => b1 (aI μ x74 0 ((4 * v1) + v5)) (fun x83 => if x83 < v3 then B_M_parent_92 (fun v0 v1 v2 v3 v4 v5 μ => B_M_parent_45 n v0 v1 v2 v3 v4 v5 μ) v0 v1 v2 v3 v4 v5 μ else b1 (pV μ v0 12 0 (vI 2)) (fun m89 => B_M_parent_92 (fun v0 v1 v2 v3 v4 v5 μ => B_M_parent_45 n v0 v1 v2 v3 v4 v5 μ) v0 v1 v2 v3 v4 v5 m89)))))))
set_option maxHeartbeats 4000000 in
set_option maxRecDepth 100000 in
theorem w_M_parent_45 {X : CX} (E : EV X prog_13_method_31_code 8 "PlaceFinderModel" none) {μ0 μ' : Mem} {r : Unit} (hQ : RQ X 0 0 μ0 none μ') (hR : xR X = { frames := 3, cells := 0, slots := 0, locals := 71 }) (hI : X.2.2.2.2.2.2.2.2.2.2.2.1.name = "parent")  (n : Nat) : ∀ (v0 : Option Nat) (v1 : Int32) (v2 : Int32) (v3 : Int32) (v4 : Int32) (v5 : Int32) (μ : Mem) (h : B_M_parent_45  n v0 v1 v2 v3 v4 v5 μ = some (r, μ')), WM X 8 45 [(0, vR v0), (1, vI v1), (2, vI v2), (3, vI v3), (4, vI v4), (5, vI v5)] [] 0 0 μ := by
  induction n with
  | zero => intro v0 v1 v2 v3 v4 v5 μ h; cases h
  | succ n ih =>
    intro v0 v1 v2 v3 v4 v5 μ h
    have h : (b1 (gR μ v0 12 14) (fun x48 => b1 (aI μ x48 0 v1) (fun x52 => if x52 ≤ v5 then b1 (gI μ v0 12 0) (fun x99 => if x99 ≤ 0 then b1 (gR μ v0 12 14) (fun x107 => b1 (aI μ x107 0 v1) (fun x111 => if x111 = 4 then B_M_parent_126 v0 v1 v2 v3 v4 μ else b1 (rc μ v0 12) (fun _ => b2 (S_M_isAbove v0 v1 v2 v3 μ) (fun x120 m120 => if x120 = 0 then B_M_parent_131 v0 v1 v2 v3 v4 m120 else B_M_parent_126 v0 v1 v2 v3 v4 m120)))) else some ((), μ)) else b1 (gR μ v0 12 16) (fun x57 => b1 (aI μ x57 0 ((4 * v1) + v5)) (fun x66 => if v4 < x66 then B_M_parent_92 (fun v0 v1 v2 v3 v4 v5 μ => B_M_parent_45 n v0 v1 v2 v3 v4 v5 μ) v0 v1 v2 v3 v4 v5 μ else b1 (gR μ v0 12 17) (fun x74 => b1 (aI μ x74 0 ((4 * v1) + v5)) (fun x83 => if x83 < v3 then B_M_parent_92 (fun v0 v1 v2 v3 v4 v5 μ => B_M_parent_45 n v0 v1 v2 v3 v4 v5 μ) v0 v1 v2 v3 v4 v5 μ else b1 (pV μ v0 12 0 (vI 2)) (fun m89 => B_M_parent_92 (fun v0 v1 v2 v3 v4 v5 μ => B_M_parent_45 n v0 v1 v2 v3 v4 v5 μ) v0 v1 v2 v3 v4 v5 m89)))))))) = some (r, μ') := h
    refine wm_iload E dM_parent_45 (j := 5) rfl ?_
    refine wm_aload_n E dM_parent_47 rfl (j := 0) rfl ?_
    refine wm_gR E fd_M_46 h dM_parent_48 (fun x48 h => ?_)
    refine wm_iload_n E dM_parent_51 rfl (j := 1) rfl ?_
    refine wm_iald (t := 0) E rfl h dM_parent_52 (fun x52 h => ?_)
    refine wm_icmp_ge (tgt := 98) E dM_parent_53 (by decide) (fun c53 => ?_) (fun c53 => ?_)
    · have h := (if_pos c53).symm.trans h
      refine wm_aload_n E dM_parent_98 rfl (j := 0) rfl ?_
      refine wm_gI E fd_M_132 h dM_parent_99 (fun x99 h => ?_)
      refine wm_if_le (tgt := 106) E dM_parent_102 (by decide) (fun c102 => ?_) (fun c102 => ?_)
      · have h := (if_pos c102).symm.trans h
        refine wm_aload_n E dM_parent_106 rfl (j := 0) rfl ?_
        refine wm_gR E fd_M_46 h dM_parent_107 (fun x107 h => ?_)
        refine wm_iload_n E dM_parent_110 rfl (j := 1) rfl ?_
        refine wm_iald (t := 0) E rfl h dM_parent_111 (fun x111 h => ?_)
        refine wm_iconst (x := 4) E dM_parent_112 (by decide) ?_
        refine wm_icmp_eq (tgt := 126) E dM_parent_113 (by decide) (fun c113 => ?_) (fun c113 => ?_)
        · have h := (if_pos c113).symm.trans h
          refine wm_pick (lv' := [(0, vR v0), (1, vI v1), (2, vI v2), (3, vI v3), (4, vI v4)]) [0, 1, 2, 3, 4] rfl ?_
          exact w_M_parent_126 E hQ hR hI v0 v1 v2 v3 v4 μ h
        · have h := (if_neg c113).symm.trans h
          refine wm_aload_n E dM_parent_116 rfl (j := 0) rfl ?_
          refine wm_iload_n E dM_parent_117 rfl (j := 1) rfl ?_
          refine wm_iload_n E dM_parent_118 rfl (j := 2) rfl ?_
          refine wm_iload_n E dM_parent_119 rfl (j := 3) rfl ?_
          obtain ⟨u120, hr120, h⟩ := b1S h
          obtain ⟨x120, m120, hc120, h⟩ := b2S h
          refine wm_cV (ci := 12) (As := [vI v1, vI v2, vI v3]) (st := []) E lk_M_205 rfl im_M_isAbove sl_M_isAbove hr120 (C_M_isAbove (xl X) X.1 v0 v1 v2 v3 μ _ _ hc120) rfl rfl (by rw [hR]; decide) (by rw [hR]; decide) (Nat.le_of_ble_eq_true rfl) dM_parent_120 ?_
          refine wm_if_eq (tgt := 131) E dM_parent_123 (by decide) (fun c123 => ?_) (fun c123 => ?_)
          · have h := (if_pos c123).symm.trans h
            refine wm_pick (lv' := [(0, vR v0), (1, vI v1), (2, vI v2), (3, vI v3), (4, vI v4)]) [0, 1, 2, 3, 4] rfl ?_
            exact w_M_parent_131 E hQ hR hI v0 v1 v2 v3 v4 m120 h
          · have h := (if_neg c123).symm.trans h
            refine wm_pick (lv' := [(0, vR v0), (1, vI v1), (2, vI v2), (3, vI v3), (4, vI v4)]) [0, 1, 2, 3, 4] rfl ?_
            exact w_M_parent_126 E hQ hR hI v0 v1 v2 v3 v4 m120 h
      · have h := (if_neg c102).symm.trans h
        exact wm_vret E hQ rfl (rtM h) (by decide) (by decide) dM_parent_105
    · have h := (if_neg c53).symm.trans h
      refine wm_aload_n E dM_parent_56 rfl (j := 0) rfl ?_
      refine wm_gR E fd_M_52 h dM_parent_57 (fun x57 h => ?_)
      refine wm_iconst (x := 4) E dM_parent_60 (by decide) ?_
      refine wm_iload_n E dM_parent_61 rfl (j := 1) rfl ?_
      refine wm_imul E dM_parent_62 ?_
      refine wm_iload E dM_parent_63 (j := 5) rfl ?_
      refine wm_iadd E dM_parent_65 ?_
      refine wm_iald (t := 0) E rfl h dM_parent_66 (fun x66 h => ?_)
      refine wm_iload E dM_parent_67 (j := 4) rfl ?_
      refine wm_icmp_gt (tgt := 92) E dM_parent_69 (by decide) (fun c69 => ?_) (fun c69 => ?_)
      · have h := (if_pos c69).symm.trans h
        refine wm_pick (lv' := [(0, vR v0), (1, vI v1), (2, vI v2), (3, vI v3), (4, vI v4), (5, vI v5)]) [0, 1, 2, 3, 4, 5] rfl ?_
        exact w_M_parent_92 E hQ hR hI (fun v0 v1 v2 v3 v4 v5 μ => B_M_parent_45 n v0 v1 v2 v3 v4 v5 μ) ih v0 v1 v2 v3 v4 v5 μ h
      · have h := (if_neg c69).symm.trans h
        refine wm_iload_n E dM_parent_72 rfl (j := 3) rfl ?_
        refine wm_aload_n E dM_parent_73 rfl (j := 0) rfl ?_
        refine wm_gR E fd_M_55 h dM_parent_74 (fun x74 h => ?_)
        refine wm_iconst (x := 4) E dM_parent_77 (by decide) ?_
        refine wm_iload_n E dM_parent_78 rfl (j := 1) rfl ?_
        refine wm_imul E dM_parent_79 ?_
        refine wm_iload E dM_parent_80 (j := 5) rfl ?_
        refine wm_iadd E dM_parent_82 ?_
        refine wm_iald (t := 0) E rfl h dM_parent_83 (fun x83 h => ?_)
        refine wm_icmp_gt (tgt := 92) E dM_parent_84 (by decide) (fun c84 => ?_) (fun c84 => ?_)
        · have h := (if_pos c84).symm.trans h
          refine wm_pick (lv' := [(0, vR v0), (1, vI v1), (2, vI v2), (3, vI v3), (4, vI v4), (5, vI v5)]) [0, 1, 2, 3, 4, 5] rfl ?_
          exact w_M_parent_92 E hQ hR hI (fun v0 v1 v2 v3 v4 v5 μ => B_M_parent_45 n v0 v1 v2 v3 v4 v5 μ) ih v0 v1 v2 v3 v4 v5 μ h
        · have h := (if_neg c84).symm.trans h
          refine wm_aload_n E dM_parent_87 rfl (j := 0) rfl ?_
          refine wm_iconst (x := 2) E dM_parent_88 (by decide) ?_
          refine wm_pI E fp_M_132 (fun q => by cases q) h dM_parent_89 (fun m89 h => ?_)
          refine wm_pick (lv' := [(0, vR v0), (1, vI v1), (2, vI v2), (3, vI v3), (4, vI v4), (5, vI v5)]) [0, 1, 2, 3, 4, 5] rfl ?_
          exact w_M_parent_92 E hQ hR hI (fun v0 v1 v2 v3 v4 v5 μ => B_M_parent_45 n v0 v1 v2 v3 v4 v5 μ) ih v0 v1 v2 v3 v4 v5 m89 h
def B_M_parent_31  (v0 : Option Nat) (v1 : Int32) (v2 : Int32) (v3 : Int32) (v4 : Int32) (s0 : Option Nat) (s1 : Int32) (μ : Mem) : Option (Unit × Mem) := b1 (pV μ s0 12 0 (vI s1)) (fun m31 => b1 (gI m31 v0 12 0) (fun x35 => if x35 ≤ 0 then B_M_parent_45 fu v0 v1 v2 v3 v4 0 m31 else some ((), m31)))
set_option maxHeartbeats 4000000 in
set_option maxRecDepth 100000 in
theorem w_M_parent_31 {X : CX} (E : EV X prog_13_method_31_code 8 "PlaceFinderModel" none) {μ0 μ' : Mem} {r : Unit} (hQ : RQ X 0 0 μ0 none μ') (hR : xR X = { frames := 3, cells := 0, slots := 0, locals := 71 }) (hI : X.2.2.2.2.2.2.2.2.2.2.2.1.name = "parent")  (v0 : Option Nat) (v1 : Int32) (v2 : Int32) (v3 : Int32) (v4 : Int32) (s0 : Option Nat) (s1 : Int32) (μ : Mem) (h : B_M_parent_31  v0 v1 v2 v3 v4 s0 s1 μ = some (r, μ')) : WM X 8 31 [(0, vR v0), (1, vI v1), (2, vI v2), (3, vI v3), (4, vI v4)] [vI s1, vR s0] 0 0 μ := by
  have h : (b1 (pV μ s0 12 0 (vI s1)) (fun m31 => b1 (gI m31 v0 12 0) (fun x35 => if x35 ≤ 0 then B_M_parent_45 fu v0 v1 v2 v3 v4 0 m31 else some ((), m31)))) = some (r, μ') := h
  refine wm_pI E fp_M_132 (fun q => by cases q) h dM_parent_31 (fun m31 h => ?_)
  refine wm_aload_n E dM_parent_34 rfl (j := 0) rfl ?_
  refine wm_gI E fd_M_132 h dM_parent_35 (fun x35 h => ?_)
  refine wm_if_le (tgt := 42) E dM_parent_38 (by decide) (fun c38 => ?_) (fun c38 => ?_)
  · have h := (if_pos c38).symm.trans h
    refine wm_iconst (x := 0) E dM_parent_42 (by decide) ?_
    refine wm_istore (lv' := [(5, vI 0), (0, vR v0), (1, vI v1), (2, vI v2), (3, vI v3), (4, vI v4)]) E dM_parent_43 (by decide) rfl ?_
    refine wm_pick (lv' := [(0, vR v0), (1, vI v1), (2, vI v2), (3, vI v3), (4, vI v4), (5, vI 0)]) [1, 2, 3, 4, 5, 0] rfl ?_
    exact w_M_parent_45 E hQ hR hI fu v0 v1 v2 v3 v4 0 m31 h
  · have h := (if_neg c38).symm.trans h
    exact wm_vret E hQ rfl (rtM h) (by decide) (by decide) dM_parent_41
def B_M_parent_26  (v0 : Option Nat) (v1 : Int32) (v2 : Int32) (v3 : Int32) (v4 : Int32) (s0 : Option Nat) (μ : Mem) : Option (Unit × Mem) := B_M_parent_31 v0 v1 v2 v3 v4 s0 1 μ
set_option maxHeartbeats 4000000 in
set_option maxRecDepth 100000 in
theorem w_M_parent_26 {X : CX} (E : EV X prog_13_method_31_code 8 "PlaceFinderModel" none) {μ0 μ' : Mem} {r : Unit} (hQ : RQ X 0 0 μ0 none μ') (hR : xR X = { frames := 3, cells := 0, slots := 0, locals := 71 }) (hI : X.2.2.2.2.2.2.2.2.2.2.2.1.name = "parent")  (v0 : Option Nat) (v1 : Int32) (v2 : Int32) (v3 : Int32) (v4 : Int32) (s0 : Option Nat) (μ : Mem) (h : B_M_parent_26  v0 v1 v2 v3 v4 s0 μ = some (r, μ')) : WM X 8 26 [(0, vR v0), (1, vI v1), (2, vI v2), (3, vI v3), (4, vI v4)] [vR s0] 0 0 μ := by
  have h : (B_M_parent_31 v0 v1 v2 v3 v4 s0 1 μ) = some (r, μ') := h
  refine wm_iconst (x := 1) E dM_parent_26 (by decide) ?_
  refine wm_goto (tgt := 31) E dM_parent_27 (by decide) ?_
  refine wm_pick (lv' := [(0, vR v0), (1, vI v1), (2, vI v2), (3, vI v3), (4, vI v4)]) [0, 1, 2, 3, 4] rfl ?_
  exact w_M_parent_31 E hQ hR hI v0 v1 v2 v3 v4 s0 1 μ h
def S_M_parent (v0 : Option Nat) (v1 : Int32) (v2 : Int32) (v3 : Int32) (v4 : Int32) (μ : Mem) : Option (Unit × Mem) := b1 (rc μ v0 12) (fun _ => b2 (S_M_isPlace v0 v1 μ) (fun x3 m3 => if x3 = 0 then B_M_parent_26 v0 v1 v2 v3 v4 v0 m3 else b1 (rc m3 v0 12) (fun _ => b2 (S_M_isPlace v0 v2 m3) (fun x11 m11 => if x11 = 0 then B_M_parent_26 v0 v1 v2 v3 v4 v0 m11 else b2 (S_M_isSpan v3 v4 m11) (fun x20 m20 => if x20 = 0 then B_M_parent_26 v0 v1 v2 v3 v4 v0 m20 else B_M_parent_31 v0 v1 v2 v3 v4 v0 0 m20)))))
set_option maxHeartbeats 4000000 in
set_option maxRecDepth 100000 in
theorem C_M_parent (l : Launch) (G : GG) (v0 : Option Nat) (v1 : Int32) (v2 : Int32) (v3 : Int32) (v4 : Int32) (μ μ' : Mem) (r : Unit) (h : S_M_parent v0 v1 v2 v3 v4 μ = some (r, μ')) : CT l G y_M_parent prog_13_method_31_code 8 none 3 0 0 71 μ [vR v0, vI v1, vI v2, vI v3, vI v4] none μ' := by
  refine wm_met (lv := [(0, vR v0), (1, vI v1), (2, vI v2), (3, vI v3), (4, vI v4)]) (by decide +kernel) (Nat.le_of_ble_eq_true rfl) rfl (fun X E hQ hR hI => ?_)
  have h : (b1 (rc μ v0 12) (fun _ => b2 (S_M_isPlace v0 v1 μ) (fun x3 m3 => if x3 = 0 then B_M_parent_26 v0 v1 v2 v3 v4 v0 m3 else b1 (rc m3 v0 12) (fun _ => b2 (S_M_isPlace v0 v2 m3) (fun x11 m11 => if x11 = 0 then B_M_parent_26 v0 v1 v2 v3 v4 v0 m11 else b2 (S_M_isSpan v3 v4 m11) (fun x20 m20 => if x20 = 0 then B_M_parent_26 v0 v1 v2 v3 v4 v0 m20 else B_M_parent_31 v0 v1 v2 v3 v4 v0 0 m20)))))) = some (r, μ') := h
  refine wm_aload_n E dM_parent_0 rfl (j := 0) rfl ?_
  refine wm_aload_n E dM_parent_1 rfl (j := 0) rfl ?_
  refine wm_iload_n E dM_parent_2 rfl (j := 1) rfl ?_
  obtain ⟨u3, hr3, h⟩ := b1S h
  obtain ⟨x3, m3, hc3, h⟩ := b2S h
  refine wm_cV (ci := 12) (As := [vI v1]) (st := [vR v0]) E lk_M_154 rfl im_M_isPlace sl_M_isPlace hr3 (C_M_isPlace (xl X) X.1 v0 v1 μ _ _ hc3) rfl rfl (by rw [hR]; decide) (by rw [hR]; decide) (Nat.le_of_ble_eq_true rfl) dM_parent_3 ?_
  refine wm_if_eq (tgt := 26) E dM_parent_6 (by decide) (fun c6 => ?_) (fun c6 => ?_)
  · have h := (if_pos c6).symm.trans h
    refine wm_pick (lv' := [(0, vR v0), (1, vI v1), (2, vI v2), (3, vI v3), (4, vI v4)]) [0, 1, 2, 3, 4] rfl ?_
    exact w_M_parent_26 E hQ hR hI v0 v1 v2 v3 v4 v0 m3 h
  · have h := (if_neg c6).symm.trans h
    refine wm_aload_n E dM_parent_9 rfl (j := 0) rfl ?_
    refine wm_iload_n E dM_parent_10 rfl (j := 2) rfl ?_
    obtain ⟨u11, hr11, h⟩ := b1S h
    obtain ⟨x11, m11, hc11, h⟩ := b2S h
    refine wm_cV (ci := 12) (As := [vI v2]) (st := [vR v0]) E lk_M_154 rfl im_M_isPlace sl_M_isPlace hr11 (C_M_isPlace (xl X) X.1 v0 v2 m3 _ _ hc11) rfl rfl (by rw [hR]; decide) (by rw [hR]; decide) (Nat.le_of_ble_eq_true rfl) dM_parent_11 ?_
    refine wm_if_eq (tgt := 26) E dM_parent_14 (by decide) (fun c14 => ?_) (fun c14 => ?_)
    · have h := (if_pos c14).symm.trans h
      refine wm_pick (lv' := [(0, vR v0), (1, vI v1), (2, vI v2), (3, vI v3), (4, vI v4)]) [0, 1, 2, 3, 4] rfl ?_
      exact w_M_parent_26 E hQ hR hI v0 v1 v2 v3 v4 v0 m11 h
    · have h := (if_neg c14).symm.trans h
      refine wm_iload_n E dM_parent_17 rfl (j := 3) rfl ?_
      refine wm_iload E dM_parent_18 (j := 4) rfl ?_
      obtain ⟨x20, m20, hc20, h⟩ := b2S h
      refine wm_cS (As := [vI v3, vI v4]) (st := [vR v0]) E lk_M_195 sc_M_isSpan (C_M_isSpan (xl X) X.1 v3 v4 m11 _ _ hc20) rfl rfl (by rw [hR]; decide) (by rw [hR]; decide) (Nat.le_of_ble_eq_true rfl) dM_parent_20 ?_
      refine wm_if_ne (tgt := 30) E dM_parent_23 (by decide) (fun c23 => ?_) (fun c23 => ?_)
      · have h := (if_neg c23).symm.trans h
        refine wm_iconst (x := 0) E dM_parent_30 (by decide) ?_
        refine wm_pick (lv' := [(0, vR v0), (1, vI v1), (2, vI v2), (3, vI v3), (4, vI v4)]) [0, 1, 2, 3, 4] rfl ?_
        exact w_M_parent_31 E hQ hR hI v0 v1 v2 v3 v4 v0 0 m20 h
      · have h := (if_pos c23).symm.trans h
        refine wm_pick (lv' := [(0, vR v0), (1, vI v1), (2, vI v2), (3, vI v3), (4, vI v4)]) [0, 1, 2, 3, 4] rfl ?_
        exact w_M_parent_26 E hQ hR hI v0 v1 v2 v3 v4 v0 m20 h
def B_M_remove_52   (μ : Mem) : Option (Unit × Mem) := some ((), μ)
set_option maxHeartbeats 4000000 in
set_option maxRecDepth 100000 in
theorem w_M_remove_52 {X : CX} (E : EV X prog_13_method_32_code 3 "PlaceFinderModel" none) {μ0 μ' : Mem} {r : Unit} (hQ : RQ X 0 0 μ0 none μ') (hR : xR X = { frames := 2, cells := 0, slots := 0, locals := 43 }) (hI : X.2.2.2.2.2.2.2.2.2.2.2.1.name = "remove")   (μ : Mem) (h : B_M_remove_52   μ = some (r, μ')) : WM X 3 52 [] [] 0 0 μ := by
  have h : (some ((), μ)) = some (r, μ') := h
  exact wm_vret E hQ rfl (rtM h) (by decide) (by decide) dM_remove_52
def B_M_remove_35  (v0 : Option Nat) (v1 : Int32) (v2 : Int32) (s0 : Option Nat) (s1 : Int32) (μ : Mem) : Option (Unit × Mem) := b1 (pV μ s0 12 0 (vI s1)) (fun m35 => b1 (gI m35 v0 12 0) (fun x39 => if x39 = 0 then b1 (gR m35 v0 12 3) (fun x46 => b1 (sI m35 x46 0 v1 v2) (fun m51 => B_M_remove_52 m51)) else B_M_remove_52 m35))
set_option maxHeartbeats 4000000 in
set_option maxRecDepth 100000 in
theorem w_M_remove_35 {X : CX} (E : EV X prog_13_method_32_code 3 "PlaceFinderModel" none) {μ0 μ' : Mem} {r : Unit} (hQ : RQ X 0 0 μ0 none μ') (hR : xR X = { frames := 2, cells := 0, slots := 0, locals := 43 }) (hI : X.2.2.2.2.2.2.2.2.2.2.2.1.name = "remove")  (v0 : Option Nat) (v1 : Int32) (v2 : Int32) (s0 : Option Nat) (s1 : Int32) (μ : Mem) (h : B_M_remove_35  v0 v1 v2 s0 s1 μ = some (r, μ')) : WM X 3 35 [(0, vR v0), (1, vI v1), (2, vI v2)] [vI s1, vR s0] 0 0 μ := by
  have h : (b1 (pV μ s0 12 0 (vI s1)) (fun m35 => b1 (gI m35 v0 12 0) (fun x39 => if x39 = 0 then b1 (gR m35 v0 12 3) (fun x46 => b1 (sI m35 x46 0 v1 v2) (fun m51 => B_M_remove_52 m51)) else B_M_remove_52 m35))) = some (r, μ') := h
  refine wm_pI E fp_M_132 (fun q => by cases q) h dM_remove_35 (fun m35 h => ?_)
  refine wm_aload_n E dM_remove_38 rfl (j := 0) rfl ?_
  refine wm_gI E fd_M_132 h dM_remove_39 (fun x39 h => ?_)
  refine wm_if_ne (tgt := 52) E dM_remove_42 (by decide) (fun c42 => ?_) (fun c42 => ?_)
  · have h := (if_neg c42).symm.trans h
    refine wm_pick (lv' := []) [] rfl ?_
    exact w_M_remove_52 E hQ hR hI m35 h
  · have h := (if_pos c42).symm.trans h
    refine wm_aload_n E dM_remove_45 rfl (j := 0) rfl ?_
    refine wm_gR E fd_M_13 h dM_remove_46 (fun x46 h => ?_)
    refine wm_iload_n E dM_remove_49 rfl (j := 1) rfl ?_
    refine wm_iload_n E dM_remove_50 rfl (j := 2) rfl ?_
    refine wm_iast (t := 0) E rfl h dM_remove_51 (fun m51 h => ?_)
    refine wm_pick (lv' := []) [] rfl ?_
    exact w_M_remove_52 E hQ hR hI m51 h
def B_M_remove_16  (v0 : Option Nat) (v1 : Int32) (v2 : Int32) (s0 : Option Nat) (μ : Mem) : Option (Unit × Mem) := B_M_remove_35 v0 v1 v2 s0 1 μ
set_option maxHeartbeats 4000000 in
set_option maxRecDepth 100000 in
theorem w_M_remove_16 {X : CX} (E : EV X prog_13_method_32_code 3 "PlaceFinderModel" none) {μ0 μ' : Mem} {r : Unit} (hQ : RQ X 0 0 μ0 none μ') (hR : xR X = { frames := 2, cells := 0, slots := 0, locals := 43 }) (hI : X.2.2.2.2.2.2.2.2.2.2.2.1.name = "remove")  (v0 : Option Nat) (v1 : Int32) (v2 : Int32) (s0 : Option Nat) (μ : Mem) (h : B_M_remove_16  v0 v1 v2 s0 μ = some (r, μ')) : WM X 3 16 [(0, vR v0), (1, vI v1), (2, vI v2)] [vR s0] 0 0 μ := by
  have h : (B_M_remove_35 v0 v1 v2 s0 1 μ) = some (r, μ') := h
  refine wm_iconst (x := 1) E dM_remove_16 (by decide) ?_
  refine wm_goto (tgt := 35) E dM_remove_17 (by decide) ?_
  refine wm_pick (lv' := [(0, vR v0), (1, vI v1), (2, vI v2)]) [0, 1, 2] rfl ?_
  exact w_M_remove_35 E hQ hR hI v0 v1 v2 s0 1 μ h
def S_M_remove (v0 : Option Nat) (v1 : Int32) (v2 : Int32) (μ : Mem) : Option (Unit × Mem) := b1 (rc μ v0 12) (fun _ => b2 (S_M_isPlace v0 v1 μ) (fun x3 m3 => if x3 = 0 then B_M_remove_16 v0 v1 v2 v0 m3 else b2 (S_M_isDay v2 m3) (fun x10 m10 => if x10 = 0 then B_M_remove_16 v0 v1 v2 v0 m10 else b1 (gR m10 v0 12 3) (fun x21 => b1 (aI m10 x21 0 v1) (fun x25 => if v2 < x25 then B_M_remove_35 v0 v1 v2 v0 0 m10 else B_M_remove_35 v0 v1 v2 v0 2 m10)))))
set_option maxHeartbeats 4000000 in
set_option maxRecDepth 100000 in
theorem C_M_remove (l : Launch) (G : GG) (v0 : Option Nat) (v1 : Int32) (v2 : Int32) (μ μ' : Mem) (r : Unit) (h : S_M_remove v0 v1 v2 μ = some (r, μ')) : CT l G y_M_remove prog_13_method_32_code 3 none 2 0 0 43 μ [vR v0, vI v1, vI v2] none μ' := by
  refine wm_met (lv := [(0, vR v0), (1, vI v1), (2, vI v2)]) (by decide +kernel) (Nat.le_of_ble_eq_true rfl) rfl (fun X E hQ hR hI => ?_)
  have h : (b1 (rc μ v0 12) (fun _ => b2 (S_M_isPlace v0 v1 μ) (fun x3 m3 => if x3 = 0 then B_M_remove_16 v0 v1 v2 v0 m3 else b2 (S_M_isDay v2 m3) (fun x10 m10 => if x10 = 0 then B_M_remove_16 v0 v1 v2 v0 m10 else b1 (gR m10 v0 12 3) (fun x21 => b1 (aI m10 x21 0 v1) (fun x25 => if v2 < x25 then B_M_remove_35 v0 v1 v2 v0 0 m10 else B_M_remove_35 v0 v1 v2 v0 2 m10)))))) = some (r, μ') := h
  refine wm_aload_n E dM_remove_0 rfl (j := 0) rfl ?_
  refine wm_aload_n E dM_remove_1 rfl (j := 0) rfl ?_
  refine wm_iload_n E dM_remove_2 rfl (j := 1) rfl ?_
  obtain ⟨u3, hr3, h⟩ := b1S h
  obtain ⟨x3, m3, hc3, h⟩ := b2S h
  refine wm_cV (ci := 12) (As := [vI v1]) (st := [vR v0]) E lk_M_154 rfl im_M_isPlace sl_M_isPlace hr3 (C_M_isPlace (xl X) X.1 v0 v1 μ _ _ hc3) rfl rfl (by rw [hR]; decide) (by rw [hR]; decide) (Nat.le_of_ble_eq_true rfl) dM_remove_3 ?_
  refine wm_if_eq (tgt := 16) E dM_remove_6 (by decide) (fun c6 => ?_) (fun c6 => ?_)
  · have h := (if_pos c6).symm.trans h
    refine wm_pick (lv' := [(0, vR v0), (1, vI v1), (2, vI v2)]) [0, 1, 2] rfl ?_
    exact w_M_remove_16 E hQ hR hI v0 v1 v2 v0 m3 h
  · have h := (if_neg c6).symm.trans h
    refine wm_iload_n E dM_remove_9 rfl (j := 2) rfl ?_
    obtain ⟨x10, m10, hc10, h⟩ := b2S h
    refine wm_cS (As := [vI v2]) (st := [vR v0]) E lk_M_143 sc_M_isDay (C_M_isDay (xl X) X.1 v2 m3 _ _ hc10) rfl rfl (by rw [hR]; decide) (by rw [hR]; decide) (Nat.le_of_ble_eq_true rfl) dM_remove_10 ?_
    refine wm_if_ne (tgt := 20) E dM_remove_13 (by decide) (fun c13 => ?_) (fun c13 => ?_)
    · have h := (if_neg c13).symm.trans h
      refine wm_aload_n E dM_remove_20 rfl (j := 0) rfl ?_
      refine wm_gR E fd_M_13 h dM_remove_21 (fun x21 h => ?_)
      refine wm_iload_n E dM_remove_24 rfl (j := 1) rfl ?_
      refine wm_iald (t := 0) E rfl h dM_remove_25 (fun x25 h => ?_)
      refine wm_iload_n E dM_remove_26 rfl (j := 2) rfl ?_
      refine wm_icmp_gt (tgt := 34) E dM_remove_27 (by decide) (fun c27 => ?_) (fun c27 => ?_)
      · have h := (if_pos c27).symm.trans h
        refine wm_iconst (x := 0) E dM_remove_34 (by decide) ?_
        refine wm_pick (lv' := [(0, vR v0), (1, vI v1), (2, vI v2)]) [0, 1, 2] rfl ?_
        exact w_M_remove_35 E hQ hR hI v0 v1 v2 v0 0 m10 h
      · have h := (if_neg c27).symm.trans h
        refine wm_iconst (x := 2) E dM_remove_30 (by decide) ?_
        refine wm_goto (tgt := 35) E dM_remove_31 (by decide) ?_
        refine wm_pick (lv' := [(0, vR v0), (1, vI v1), (2, vI v2)]) [0, 1, 2] rfl ?_
        exact w_M_remove_35 E hQ hR hI v0 v1 v2 v0 2 m10 h
    · have h := (if_pos c13).symm.trans h
      refine wm_pick (lv' := [(0, vR v0), (1, vI v1), (2, vI v2)]) [0, 1, 2] rfl ?_
      exact w_M_remove_16 E hQ hR hI v0 v1 v2 v0 m10 h
def B_M_chain_75  (v4 : Int32) (μ : Mem) : Option (Int32 × Mem) := some (v4, μ)
set_option maxHeartbeats 4000000 in
set_option maxRecDepth 100000 in
theorem w_M_chain_75 {X : CX} (E : EV X prog_13_method_33_code 6 "PlaceFinderModel" (some .int)) {μ0 μ' : Mem} {r : Int32} (hQ : RQ X 0 0 μ0 (some (vI r)) μ') (hR : xR X = { frames := 2, cells := 0, slots := 0, locals := 46 }) (hI : X.2.2.2.2.2.2.2.2.2.2.2.1.name = "chain")  (v4 : Int32) (μ : Mem) (h : B_M_chain_75  v4 μ = some (r, μ')) : WM X 6 75 [(4, vI v4)] [] 0 0 μ := by
  have h : (some (v4, μ)) = some (r, μ') := h
  refine wm_iload E dM_chain_75 (j := 0) rfl ?_
  exact wm_iret (rt := .int) E hQ (rtI h) (rtM h) (by decide) (by decide) dM_chain_77
def B_M_chain_48  : Nat → Option Nat → Int32 → Int32 → Int32 → Int32 → Mem → Option (Int32 × Mem)
  | 0, _, _, _, _, _, _ => none
  | n + 1, v0, v2, v3, v4, v5, μ => if v3 ≤ v5 then B_M_chain_75 v4 μ else if v4 = ((-1)) then B_M_chain_75 v4 μ else b1 (rc μ v0 12) (fun _ => b2 (S_M_parentOf v0 v4 v2 μ) (fun x64 m64 => (fun v0 v2 v3 v4 v5 μ => B_M_chain_48 n v0 v2 v3 v4 v5 μ) v0 v2 v3 x64 (v5 + 1) m64))
set_option maxHeartbeats 4000000 in
set_option maxRecDepth 100000 in
theorem w_M_chain_48 {X : CX} (E : EV X prog_13_method_33_code 6 "PlaceFinderModel" (some .int)) {μ0 μ' : Mem} {r : Int32} (hQ : RQ X 0 0 μ0 (some (vI r)) μ') (hR : xR X = { frames := 2, cells := 0, slots := 0, locals := 46 }) (hI : X.2.2.2.2.2.2.2.2.2.2.2.1.name = "chain")  (n : Nat) : ∀ (v0 : Option Nat) (v2 : Int32) (v3 : Int32) (v4 : Int32) (v5 : Int32) (μ : Mem) (h : B_M_chain_48  n v0 v2 v3 v4 v5 μ = some (r, μ')), WM X 6 48 [(0, vR v0), (2, vI v2), (3, vI v3), (4, vI v4), (5, vI v5)] [] 0 0 μ := by
  induction n with
  | zero => intro v0 v2 v3 v4 v5 μ h; cases h
  | succ n ih =>
    intro v0 v2 v3 v4 v5 μ h
    have h : (if v3 ≤ v5 then B_M_chain_75 v4 μ else if v4 = ((-1)) then B_M_chain_75 v4 μ else b1 (rc μ v0 12) (fun _ => b2 (S_M_parentOf v0 v4 v2 μ) (fun x64 m64 => (fun v0 v2 v3 v4 v5 μ => B_M_chain_48 n v0 v2 v3 v4 v5 μ) v0 v2 v3 x64 (v5 + 1) m64))) = some (r, μ') := h
    refine wm_iload E dM_chain_48 (j := 4) rfl ?_
    refine wm_iload_n E dM_chain_50 rfl (j := 2) rfl ?_
    refine wm_icmp_ge (tgt := 75) E dM_chain_51 (by decide) (fun c51 => ?_) (fun c51 => ?_)
    · have h := (if_pos c51).symm.trans h
      refine wm_pick (lv' := [(4, vI v4)]) [3] rfl ?_
      exact w_M_chain_75 E hQ hR hI v4 μ h
    · have h := (if_neg c51).symm.trans h
      refine wm_iload E dM_chain_54 (j := 3) rfl ?_
      refine wm_iconst (x := -1) E dM_chain_56 (by decide) ?_
      refine wm_icmp_eq (tgt := 75) E dM_chain_57 (by decide) (fun c57 => ?_) (fun c57 => ?_)
      · have h := (if_pos c57).symm.trans h
        refine wm_pick (lv' := [(4, vI v4)]) [3] rfl ?_
        exact w_M_chain_75 E hQ hR hI v4 μ h
      · have h := (if_neg c57).symm.trans h
        refine wm_aload_n E dM_chain_60 rfl (j := 0) rfl ?_
        refine wm_iload E dM_chain_61 (j := 3) rfl ?_
        refine wm_iload_n E dM_chain_63 rfl (j := 1) rfl ?_
        obtain ⟨u64, hr64, h⟩ := b1S h
        obtain ⟨x64, m64, hc64, h⟩ := b2S h
        refine wm_cV (ci := 12) (As := [vI v4, vI v2]) (st := []) E lk_M_202 rfl im_M_parentOf sl_M_parentOf hr64 (C_M_parentOf (xl X) X.1 v0 v4 v2 μ _ _ hc64) rfl rfl (by rw [hR]; decide) (by rw [hR]; decide) (Nat.le_of_ble_eq_true rfl) dM_chain_64 ?_
        refine wm_istore (lv' := [(4, vI x64), (0, vR v0), (2, vI v2), (3, vI v3), (5, vI v5)]) E dM_chain_67 (by decide) rfl ?_
        refine wm_iinc (lv' := [(5, vI (v5 + 1)), (4, vI x64), (0, vR v0), (2, vI v2), (3, vI v3)]) (d := 1) E dM_chain_69 (by decide) (j := 4) rfl (by decide) rfl ?_
        refine wm_goto (tgt := 48) E dM_chain_72 (by decide) ?_
        refine wm_pick (lv' := [(0, vR v0), (2, vI v2), (3, vI v3), (4, vI x64), (5, vI (v5 + 1))]) [2, 3, 4, 1, 0] rfl ?_
        exact ih v0 v2 v3 x64 (v5 + 1) m64 h
def B_M_chain_25  (v0 : Option Nat) (v1 : Int32) (v2 : Int32) (v3 : Int32) (s0 : Option Nat) (s1 : Int32) (μ : Mem) : Option (Int32 × Mem) := b1 (pV μ s0 12 0 (vI s1)) (fun m25 => b1 (gI m25 v0 12 0) (fun x29 => if x29 ≤ 0 then b1 (rc m25 v0 12) (fun _ => b2 (S_M_parentOf v0 v1 v2 m25) (fun x40 m40 => B_M_chain_48 fu v0 v2 v3 x40 0 m40)) else some (0, m25)))
set_option maxHeartbeats 4000000 in
set_option maxRecDepth 100000 in
theorem w_M_chain_25 {X : CX} (E : EV X prog_13_method_33_code 6 "PlaceFinderModel" (some .int)) {μ0 μ' : Mem} {r : Int32} (hQ : RQ X 0 0 μ0 (some (vI r)) μ') (hR : xR X = { frames := 2, cells := 0, slots := 0, locals := 46 }) (hI : X.2.2.2.2.2.2.2.2.2.2.2.1.name = "chain")  (v0 : Option Nat) (v1 : Int32) (v2 : Int32) (v3 : Int32) (s0 : Option Nat) (s1 : Int32) (μ : Mem) (h : B_M_chain_25  v0 v1 v2 v3 s0 s1 μ = some (r, μ')) : WM X 6 25 [(0, vR v0), (1, vI v1), (2, vI v2), (3, vI v3)] [vI s1, vR s0] 0 0 μ := by
  have h : (b1 (pV μ s0 12 0 (vI s1)) (fun m25 => b1 (gI m25 v0 12 0) (fun x29 => if x29 ≤ 0 then b1 (rc m25 v0 12) (fun _ => b2 (S_M_parentOf v0 v1 v2 m25) (fun x40 m40 => B_M_chain_48 fu v0 v2 v3 x40 0 m40)) else some (0, m25)))) = some (r, μ') := h
  refine wm_pI E fp_M_132 (fun q => by cases q) h dM_chain_25 (fun m25 h => ?_)
  refine wm_aload_n E dM_chain_28 rfl (j := 0) rfl ?_
  refine wm_gI E fd_M_132 h dM_chain_29 (fun x29 h => ?_)
  refine wm_if_le (tgt := 37) E dM_chain_32 (by decide) (fun c32 => ?_) (fun c32 => ?_)
  · have h := (if_pos c32).symm.trans h
    refine wm_aload_n E dM_chain_37 rfl (j := 0) rfl ?_
    refine wm_iload_n E dM_chain_38 rfl (j := 1) rfl ?_
    refine wm_iload_n E dM_chain_39 rfl (j := 2) rfl ?_
    obtain ⟨u40, hr40, h⟩ := b1S h
    obtain ⟨x40, m40, hc40, h⟩ := b2S h
    refine wm_cV (ci := 12) (As := [vI v1, vI v2]) (st := []) E lk_M_202 rfl im_M_parentOf sl_M_parentOf hr40 (C_M_parentOf (xl X) X.1 v0 v1 v2 m25 _ _ hc40) rfl rfl (by rw [hR]; decide) (by rw [hR]; decide) (Nat.le_of_ble_eq_true rfl) dM_chain_40 ?_
    refine wm_istore (lv' := [(4, vI x40), (0, vR v0), (1, vI v1), (2, vI v2), (3, vI v3)]) E dM_chain_43 (by decide) rfl ?_
    refine wm_iconst (x := 0) E dM_chain_45 (by decide) ?_
    refine wm_istore (lv' := [(5, vI 0), (4, vI x40), (0, vR v0), (1, vI v1), (2, vI v2), (3, vI v3)]) E dM_chain_46 (by decide) rfl ?_
    refine wm_pick (lv' := [(0, vR v0), (2, vI v2), (3, vI v3), (4, vI x40), (5, vI 0)]) [2, 4, 5, 1, 0] rfl ?_
    exact w_M_chain_48 E hQ hR hI fu v0 v2 v3 x40 0 m40 h
  · have h := (if_neg c32).symm.trans h
    refine wm_iconst (x := 0) E dM_chain_35 (by decide) ?_
    exact wm_iret (rt := .int) E hQ (rtI h) (rtM h) (by decide) (by decide) dM_chain_36
def B_M_chain_20  (v0 : Option Nat) (v1 : Int32) (v2 : Int32) (v3 : Int32) (s0 : Option Nat) (μ : Mem) : Option (Int32 × Mem) := B_M_chain_25 v0 v1 v2 v3 s0 1 μ
set_option maxHeartbeats 4000000 in
set_option maxRecDepth 100000 in
theorem w_M_chain_20 {X : CX} (E : EV X prog_13_method_33_code 6 "PlaceFinderModel" (some .int)) {μ0 μ' : Mem} {r : Int32} (hQ : RQ X 0 0 μ0 (some (vI r)) μ') (hR : xR X = { frames := 2, cells := 0, slots := 0, locals := 46 }) (hI : X.2.2.2.2.2.2.2.2.2.2.2.1.name = "chain")  (v0 : Option Nat) (v1 : Int32) (v2 : Int32) (v3 : Int32) (s0 : Option Nat) (μ : Mem) (h : B_M_chain_20  v0 v1 v2 v3 s0 μ = some (r, μ')) : WM X 6 20 [(0, vR v0), (1, vI v1), (2, vI v2), (3, vI v3)] [vR s0] 0 0 μ := by
  have h : (B_M_chain_25 v0 v1 v2 v3 s0 1 μ) = some (r, μ') := h
  refine wm_iconst (x := 1) E dM_chain_20 (by decide) ?_
  refine wm_goto (tgt := 25) E dM_chain_21 (by decide) ?_
  refine wm_pick (lv' := [(0, vR v0), (1, vI v1), (2, vI v2), (3, vI v3)]) [0, 1, 2, 3] rfl ?_
  exact w_M_chain_25 E hQ hR hI v0 v1 v2 v3 s0 1 μ h
def S_M_chain (v0 : Option Nat) (v1 : Int32) (v2 : Int32) (v3 : Int32) (μ : Mem) : Option (Int32 × Mem) := b1 (rc μ v0 12) (fun _ => b2 (S_M_isPlace v0 v1 μ) (fun x3 m3 => if x3 = 0 then B_M_chain_20 v0 v1 v2 v3 v0 m3 else b2 (S_M_isDay v2 m3) (fun x10 m10 => if x10 = 0 then B_M_chain_20 v0 v1 v2 v3 v0 m10 else if 0 ≤ v3 then B_M_chain_25 v0 v1 v2 v3 v0 0 m10 else B_M_chain_20 v0 v1 v2 v3 v0 m10)))
set_option maxHeartbeats 4000000 in
set_option maxRecDepth 100000 in
theorem C_M_chain (l : Launch) (G : GG) (v0 : Option Nat) (v1 : Int32) (v2 : Int32) (v3 : Int32) (μ μ' : Mem) (r : Int32) (h : S_M_chain v0 v1 v2 v3 μ = some (r, μ')) : CT l G y_M_chain prog_13_method_33_code 6 (some .int) 2 0 0 46 μ [vR v0, vI v1, vI v2, vI v3] (some (vI r)) μ' := by
  refine wm_met (lv := [(0, vR v0), (1, vI v1), (2, vI v2), (3, vI v3)]) (by decide +kernel) (Nat.le_of_ble_eq_true rfl) rfl (fun X E hQ hR hI => ?_)
  have h : (b1 (rc μ v0 12) (fun _ => b2 (S_M_isPlace v0 v1 μ) (fun x3 m3 => if x3 = 0 then B_M_chain_20 v0 v1 v2 v3 v0 m3 else b2 (S_M_isDay v2 m3) (fun x10 m10 => if x10 = 0 then B_M_chain_20 v0 v1 v2 v3 v0 m10 else if 0 ≤ v3 then B_M_chain_25 v0 v1 v2 v3 v0 0 m10 else B_M_chain_20 v0 v1 v2 v3 v0 m10)))) = some (r, μ') := h
  refine wm_aload_n E dM_chain_0 rfl (j := 0) rfl ?_
  refine wm_aload_n E dM_chain_1 rfl (j := 0) rfl ?_
  refine wm_iload_n E dM_chain_2 rfl (j := 1) rfl ?_
  obtain ⟨u3, hr3, h⟩ := b1S h
  obtain ⟨x3, m3, hc3, h⟩ := b2S h
  refine wm_cV (ci := 12) (As := [vI v1]) (st := [vR v0]) E lk_M_154 rfl im_M_isPlace sl_M_isPlace hr3 (C_M_isPlace (xl X) X.1 v0 v1 μ _ _ hc3) rfl rfl (by rw [hR]; decide) (by rw [hR]; decide) (Nat.le_of_ble_eq_true rfl) dM_chain_3 ?_
  refine wm_if_eq (tgt := 20) E dM_chain_6 (by decide) (fun c6 => ?_) (fun c6 => ?_)
  · have h := (if_pos c6).symm.trans h
    refine wm_pick (lv' := [(0, vR v0), (1, vI v1), (2, vI v2), (3, vI v3)]) [0, 1, 2, 3] rfl ?_
    exact w_M_chain_20 E hQ hR hI v0 v1 v2 v3 v0 m3 h
  · have h := (if_neg c6).symm.trans h
    refine wm_iload_n E dM_chain_9 rfl (j := 2) rfl ?_
    obtain ⟨x10, m10, hc10, h⟩ := b2S h
    refine wm_cS (As := [vI v2]) (st := [vR v0]) E lk_M_143 sc_M_isDay (C_M_isDay (xl X) X.1 v2 m3 _ _ hc10) rfl rfl (by rw [hR]; decide) (by rw [hR]; decide) (Nat.le_of_ble_eq_true rfl) dM_chain_10 ?_
    refine wm_if_eq (tgt := 20) E dM_chain_13 (by decide) (fun c13 => ?_) (fun c13 => ?_)
    · have h := (if_pos c13).symm.trans h
      refine wm_pick (lv' := [(0, vR v0), (1, vI v1), (2, vI v2), (3, vI v3)]) [0, 1, 2, 3] rfl ?_
      exact w_M_chain_20 E hQ hR hI v0 v1 v2 v3 v0 m10 h
    · have h := (if_neg c13).symm.trans h
      refine wm_iload_n E dM_chain_16 rfl (j := 3) rfl ?_
      refine wm_if_ge (tgt := 24) E dM_chain_17 (by decide) (fun c17 => ?_) (fun c17 => ?_)
      · have h := (if_pos c17).symm.trans h
        refine wm_iconst (x := 0) E dM_chain_24 (by decide) ?_
        refine wm_pick (lv' := [(0, vR v0), (1, vI v1), (2, vI v2), (3, vI v3)]) [0, 1, 2, 3] rfl ?_
        exact w_M_chain_25 E hQ hR hI v0 v1 v2 v3 v0 0 m10 h
      · have h := (if_neg c17).symm.trans h
        refine wm_pick (lv' := [(0, vR v0), (1, vI v1), (2, vI v2), (3, vI v3)]) [0, 1, 2, 3] rfl ?_
        exact w_M_chain_20 E hQ hR hI v0 v1 v2 v3 v0 m10 h
def B_M_condition_295  (v0 : Option Nat) (μ : Mem) : Option (Int32 × Mem) := b1 (gR μ v0 12 23) (fun x296 => b1 (aI μ x296 0 0) (fun x300 => some (x300, μ)))
set_option maxHeartbeats 4000000 in
set_option maxRecDepth 100000 in
theorem w_M_condition_295 {X : CX} (E : EV X prog_13_method_34_code 8 "PlaceFinderModel" (some .int)) {μ0 μ' : Mem} {r : Int32} (hQ : RQ X 0 0 μ0 (some (vI r)) μ') (hR : xR X = { frames := 3, cells := 0, slots := 0, locals := 67 }) (hI : X.2.2.2.2.2.2.2.2.2.2.2.1.name = "condition")  (v0 : Option Nat) (μ : Mem) (h : B_M_condition_295  v0 μ = some (r, μ')) : WM X 8 295 [(0, vR v0)] [] 0 0 μ := by
  have h : (b1 (gR μ v0 12 23) (fun x296 => b1 (aI μ x296 0 0) (fun x300 => some (x300, μ)))) = some (r, μ') := h
  refine wm_aload_n E dM_condition_295 rfl (j := 0) rfl ?_
  refine wm_gR E fd_M_67 h dM_condition_296 (fun x296 h => ?_)
  refine wm_iconst (x := 0) E dM_condition_299 (by decide) ?_
  refine wm_iald (t := 0) E rfl h dM_condition_300 (fun x300 h => ?_)
  exact wm_iret (rt := .int) E hQ (rtI h) (rtM h) (by decide) (by decide) dM_condition_301
def B_M_condition_255  : Nat → Option Nat → Int32 → Int32 → Mem → Option (Int32 × Mem)
  | 0, _, _, _, _ => none
  | n + 1, v0, v6, v7, μ => b1 (gI μ v0 12 38) (fun x258 => if x258 ≤ v7 then b1 (pV μ v0 12 21 (vI 0)) (fun m292 => B_M_condition_295 v0 m292) else b1 (gR μ v0 12 29) (fun x265 => b1 (gR μ v0 12 39) (fun x277 => b1 (aI μ x277 0 v7) (fun x282 => b1 (sI μ x265 0 ((10 * v6) + v7) x282) (fun m283 => (fun v0 v6 v7 μ => B_M_condition_255 n v0 v6 v7 μ) v0 v6 (v7 + 1) m283)))))
set_option maxHeartbeats 4000000 in
set_option maxRecDepth 100000 in
theorem w_M_condition_255 {X : CX} (E : EV X prog_13_method_34_code 8 "PlaceFinderModel" (some .int)) {μ0 μ' : Mem} {r : Int32} (hQ : RQ X 0 0 μ0 (some (vI r)) μ') (hR : xR X = { frames := 3, cells := 0, slots := 0, locals := 67 }) (hI : X.2.2.2.2.2.2.2.2.2.2.2.1.name = "condition")  (n : Nat) : ∀ (v0 : Option Nat) (v6 : Int32) (v7 : Int32) (μ : Mem) (h : B_M_condition_255  n v0 v6 v7 μ = some (r, μ')), WM X 8 255 [(0, vR v0), (6, vI v6), (7, vI v7)] [] 0 0 μ := by
  induction n with
  | zero => intro v0 v6 v7 μ h; cases h
  | succ n ih =>
    intro v0 v6 v7 μ h
    have h : (b1 (gI μ v0 12 38) (fun x258 => if x258 ≤ v7 then b1 (pV μ v0 12 21 (vI 0)) (fun m292 => B_M_condition_295 v0 m292) else b1 (gR μ v0 12 29) (fun x265 => b1 (gR μ v0 12 39) (fun x277 => b1 (aI μ x277 0 v7) (fun x282 => b1 (sI μ x265 0 ((10 * v6) + v7) x282) (fun m283 => (fun v0 v6 v7 μ => B_M_condition_255 n v0 v6 v7 μ) v0 v6 (v7 + 1) m283)))))) = some (r, μ') := h
    refine wm_iload E dM_condition_255 (j := 2) rfl ?_
    refine wm_aload_n E dM_condition_257 rfl (j := 0) rfl ?_
    refine wm_gI E fd_M_179 h dM_condition_258 (fun x258 h => ?_)
    refine wm_icmp_ge (tgt := 290) E dM_condition_261 (by decide) (fun c261 => ?_) (fun c261 => ?_)
    · have h := (if_pos c261).symm.trans h
      refine wm_aload_n E dM_condition_290 rfl (j := 0) rfl ?_
      refine wm_iconst (x := 0) E dM_condition_291 (by decide) ?_
      refine wm_pI E fp_M_172 (fun q => by cases q) h dM_condition_292 (fun m292 h => ?_)
      refine wm_pick (lv' := [(0, vR v0)]) [0] rfl ?_
      exact w_M_condition_295 E hQ hR hI v0 m292 h
    · have h := (if_neg c261).symm.trans h
      refine wm_aload_n E dM_condition_264 rfl (j := 0) rfl ?_
      refine wm_gR E fd_M_85 h dM_condition_265 (fun x265 h => ?_)
      refine wm_bipush (x := 10) E dM_condition_268 (by decide) ?_
      refine wm_iload E dM_condition_270 (j := 1) rfl ?_
      refine wm_imul E dM_condition_272 ?_
      refine wm_iload E dM_condition_273 (j := 2) rfl ?_
      refine wm_iadd E dM_condition_275 ?_
      refine wm_aload_n E dM_condition_276 rfl (j := 0) rfl ?_
      refine wm_gR E fd_M_110 h dM_condition_277 (fun x277 h => ?_)
      refine wm_iload E dM_condition_280 (j := 2) rfl ?_
      refine wm_iald (t := 0) E rfl h dM_condition_282 (fun x282 h => ?_)
      refine wm_iast (t := 0) E rfl h dM_condition_283 (fun m283 h => ?_)
      refine wm_iinc (lv' := [(7, vI (v7 + 1)), (0, vR v0), (6, vI v6)]) (d := 1) E dM_condition_284 (by decide) (j := 2) rfl (by decide) rfl ?_
      refine wm_goto (tgt := 255) E dM_condition_287 (by decide) ?_
      refine wm_pick (lv' := [(0, vR v0), (6, vI v6), (7, vI (v7 + 1))]) [1, 2, 0] rfl ?_
      exact ih v0 v6 (v7 + 1) m283 h
def B_M_condition_161  (v0 : Option Nat) (v1 : Int32) (v2 : Int32) (v3 : Int32) (v4 : Int32) (s0 : Option Nat) (s1 : Int32) (μ : Mem) : Option (Int32 × Mem) := b1 (pV μ s0 12 0 (vI s1)) (fun m161 => b1 (gI m161 v0 12 0) (fun x165 => if x165 ≤ 0 then b1 (gR m161 v0 12 23) (fun x174 => b1 (aI m161 x174 0 0) (fun x178 => b1 (gR m161 v0 12 23) (fun x182 => b1 (aI m161 x182 0 0) (fun x187 => b1 (sI m161 x182 0 0 (x187 + 1)) (fun m190 => b1 (gR m190 v0 12 24) (fun x192 => b1 (sI m190 x192 0 x178 v1) (fun m198 => b1 (gR m198 v0 12 25) (fun x200 => b1 (sI m198 x200 0 x178 v2) (fun m206 => b1 (gR m206 v0 12 26) (fun x208 => b1 (sI m206 x208 0 x178 v3) (fun m214 => b1 (gR m214 v0 12 27) (fun x216 => b1 (sI m214 x216 0 x178 v4) (fun m223 => b1 (gR m223 v0 12 28) (fun x225 => b1 (sI m223 x225 0 x178 0) (fun m231 => if 4 ≤ v1 then B_M_condition_295 v0 m231 else b1 (rc m231 v0 12) (fun _ => b2 (S_M_foldTyped v0 m231) (fun x238 m238 => b1 (gR m238 v0 12 28) (fun x242 => b1 (gI m238 v0 12 38) (fun x248 => b1 (sI m238 x242 0 x178 x248) (fun m251 => B_M_condition_255 fu v0 x178 0 m251)))))))))))))))))))) else some (0, m161)))
set_option maxHeartbeats 4000000 in
set_option maxRecDepth 100000 in
theorem w_M_condition_161 {X : CX} (E : EV X prog_13_method_34_code 8 "PlaceFinderModel" (some .int)) {μ0 μ' : Mem} {r : Int32} (hQ : RQ X 0 0 μ0 (some (vI r)) μ') (hR : xR X = { frames := 3, cells := 0, slots := 0, locals := 67 }) (hI : X.2.2.2.2.2.2.2.2.2.2.2.1.name = "condition")  (v0 : Option Nat) (v1 : Int32) (v2 : Int32) (v3 : Int32) (v4 : Int32) (s0 : Option Nat) (s1 : Int32) (μ : Mem) (h : B_M_condition_161  v0 v1 v2 v3 v4 s0 s1 μ = some (r, μ')) : WM X 8 161 [(0, vR v0), (1, vI v1), (2, vI v2), (3, vI v3), (4, vI v4)] [vI s1, vR s0] 0 0 μ := by
  have h : (b1 (pV μ s0 12 0 (vI s1)) (fun m161 => b1 (gI m161 v0 12 0) (fun x165 => if x165 ≤ 0 then b1 (gR m161 v0 12 23) (fun x174 => b1 (aI m161 x174 0 0) (fun x178 => b1 (gR m161 v0 12 23) (fun x182 => b1 (aI m161 x182 0 0) (fun x187 => b1 (sI m161 x182 0 0 (x187 + 1)) (fun m190 => b1 (gR m190 v0 12 24) (fun x192 => b1 (sI m190 x192 0 x178 v1) (fun m198 => b1 (gR m198 v0 12 25) (fun x200 => b1 (sI m198 x200 0 x178 v2) (fun m206 => b1 (gR m206 v0 12 26) (fun x208 => b1 (sI m206 x208 0 x178 v3) (fun m214 => b1 (gR m214 v0 12 27) (fun x216 => b1 (sI m214 x216 0 x178 v4) (fun m223 => b1 (gR m223 v0 12 28) (fun x225 => b1 (sI m223 x225 0 x178 0) (fun m231 => if 4 ≤ v1 then B_M_condition_295 v0 m231 else b1 (rc m231 v0 12) (fun _ => b2 (S_M_foldTyped v0 m231) (fun x238 m238 => b1 (gR m238 v0 12 28) (fun x242 => b1 (gI m238 v0 12 38) (fun x248 => b1 (sI m238 x242 0 x178 x248) (fun m251 => B_M_condition_255 fu v0 x178 0 m251)))))))))))))))))))) else some (0, m161)))) = some (r, μ') := h
  refine wm_pI E fp_M_132 (fun q => by cases q) h dM_condition_161 (fun m161 h => ?_)
  refine wm_aload_n E dM_condition_164 rfl (j := 0) rfl ?_
  refine wm_gI E fd_M_132 h dM_condition_165 (fun x165 h => ?_)
  refine wm_if_le (tgt := 173) E dM_condition_168 (by decide) (fun c168 => ?_) (fun c168 => ?_)
  · have h := (if_pos c168).symm.trans h
    refine wm_aload_n E dM_condition_173 rfl (j := 0) rfl ?_
    refine wm_gR E fd_M_67 h dM_condition_174 (fun x174 h => ?_)
    refine wm_iconst (x := 0) E dM_condition_177 (by decide) ?_
    refine wm_iald (t := 0) E rfl h dM_condition_178 (fun x178 h => ?_)
    refine wm_istore (lv' := [(6, vI x178), (0, vR v0), (1, vI v1), (2, vI v2), (3, vI v3), (4, vI v4)]) E dM_condition_179 (by decide) rfl ?_
    refine wm_aload_n E dM_condition_181 rfl (j := 1) rfl ?_
    refine wm_gR E fd_M_67 h dM_condition_182 (fun x182 h => ?_)
    refine wm_iconst (x := 0) E dM_condition_185 (by decide) ?_
    refine wm_dup2_11 E dM_condition_186 rfl rfl ?_
    refine wm_iald (t := 0) E rfl h dM_condition_187 (fun x187 h => ?_)
    refine wm_iconst (x := 1) E dM_condition_188 (by decide) ?_
    refine wm_iadd E dM_condition_189 ?_
    refine wm_iast (t := 0) E rfl h dM_condition_190 (fun m190 h => ?_)
    refine wm_aload_n E dM_condition_191 rfl (j := 1) rfl ?_
    refine wm_gR E fd_M_70 h dM_condition_192 (fun x192 h => ?_)
    refine wm_iload E dM_condition_195 (j := 0) rfl ?_
    refine wm_iload_n E dM_condition_197 rfl (j := 2) rfl ?_
    refine wm_iast (t := 0) E rfl h dM_condition_198 (fun m198 h => ?_)
    refine wm_aload_n E dM_condition_199 rfl (j := 1) rfl ?_
    refine wm_gR E fd_M_73 h dM_condition_200 (fun x200 h => ?_)
    refine wm_iload E dM_condition_203 (j := 0) rfl ?_
    refine wm_iload_n E dM_condition_205 rfl (j := 3) rfl ?_
    refine wm_iast (t := 0) E rfl h dM_condition_206 (fun m206 h => ?_)
    refine wm_aload_n E dM_condition_207 rfl (j := 1) rfl ?_
    refine wm_gR E fd_M_76 h dM_condition_208 (fun x208 h => ?_)
    refine wm_iload E dM_condition_211 (j := 0) rfl ?_
    refine wm_iload_n E dM_condition_213 rfl (j := 4) rfl ?_
    refine wm_iast (t := 0) E rfl h dM_condition_214 (fun m214 h => ?_)
    refine wm_aload_n E dM_condition_215 rfl (j := 1) rfl ?_
    refine wm_gR E fd_M_79 h dM_condition_216 (fun x216 h => ?_)
    refine wm_iload E dM_condition_219 (j := 0) rfl ?_
    refine wm_iload E dM_condition_221 (j := 5) rfl ?_
    refine wm_iast (t := 0) E rfl h dM_condition_223 (fun m223 h => ?_)
    refine wm_aload_n E dM_condition_224 rfl (j := 1) rfl ?_
    refine wm_gR E fd_M_82 h dM_condition_225 (fun x225 h => ?_)
    refine wm_iload E dM_condition_228 (j := 0) rfl ?_
    refine wm_iconst (x := 0) E dM_condition_230 (by decide) ?_
    refine wm_iast (t := 0) E rfl h dM_condition_231 (fun m231 h => ?_)
    refine wm_iload_n E dM_condition_232 rfl (j := 2) rfl ?_
    refine wm_iconst (x := 4) E dM_condition_233 (by decide) ?_
    refine wm_icmp_ge (tgt := 295) E dM_condition_234 (by decide) (fun c234 => ?_) (fun c234 => ?_)
    · have h := (if_pos c234).symm.trans h
      refine wm_pick (lv' := [(0, vR v0)]) [1] rfl ?_
      exact w_M_condition_295 E hQ hR hI v0 m231 h
    · have h := (if_neg c234).symm.trans h
      refine wm_aload_n E dM_condition_237 rfl (j := 1) rfl ?_
      obtain ⟨u238, hr238, h⟩ := b1S h
      obtain ⟨x238, m238, hc238, h⟩ := b2S h
      refine wm_cV (ci := 12) (As := []) (st := []) E lk_M_188 rfl im_M_foldTyped sl_M_foldTyped hr238 (C_M_foldTyped (xl X) X.1 v0 m231 _ _ hc238) rfl rfl (by rw [hR]; decide) (by rw [hR]; decide) (Nat.le_of_ble_eq_true rfl) dM_condition_238 ?_
      refine wm_aload_n E dM_condition_241 rfl (j := 1) rfl ?_
      refine wm_gR E fd_M_82 h dM_condition_242 (fun x242 h => ?_)
      refine wm_iload E dM_condition_245 (j := 0) rfl ?_
      refine wm_aload_n E dM_condition_247 rfl (j := 1) rfl ?_
      refine wm_gI E fd_M_179 h dM_condition_248 (fun x248 h => ?_)
      refine wm_iast (t := 0) E rfl h dM_condition_251 (fun m251 h => ?_)
      refine wm_iconst (x := 0) E dM_condition_252 (by decide) ?_
      refine wm_istore (lv' := [(7, vI 0), (6, vI x178), (0, vR v0), (1, vI v1), (2, vI v2), (3, vI v3), (4, vI v4)]) E dM_condition_253 (by decide) rfl ?_
      refine wm_pick (lv' := [(0, vR v0), (6, vI x178), (7, vI 0)]) [2, 1, 0] rfl ?_
      exact w_M_condition_255 E hQ hR hI fu v0 x178 0 m251 h
  · have h := (if_neg c168).symm.trans h
    refine wm_iconst (x := 0) E dM_condition_171 (by decide) ?_
    exact wm_iret (rt := .int) E hQ (rtI h) (rtM h) (by decide) (by decide) dM_condition_172
def B_M_condition_136  (v0 : Option Nat) (v1 : Int32) (v2 : Int32) (v3 : Int32) (v4 : Int32) (v5 : Int32) (μ : Mem) : Option (Int32 × Mem) := if v5 = 0 then B_M_condition_161 v0 v1 v2 v3 v4 v0 1 μ else b1 (gR μ v0 12 23) (fun x147 => b1 (aI μ x147 0 0) (fun x151 => if x151 = 5 then B_M_condition_161 v0 v1 v2 v3 v4 v0 2 μ else B_M_condition_161 v0 v1 v2 v3 v4 v0 0 μ))
set_option maxHeartbeats 4000000 in
set_option maxRecDepth 100000 in
theorem w_M_condition_136 {X : CX} (E : EV X prog_13_method_34_code 8 "PlaceFinderModel" (some .int)) {μ0 μ' : Mem} {r : Int32} (hQ : RQ X 0 0 μ0 (some (vI r)) μ') (hR : xR X = { frames := 3, cells := 0, slots := 0, locals := 67 }) (hI : X.2.2.2.2.2.2.2.2.2.2.2.1.name = "condition")  (v0 : Option Nat) (v1 : Int32) (v2 : Int32) (v3 : Int32) (v4 : Int32) (v5 : Int32) (μ : Mem) (h : B_M_condition_136  v0 v1 v2 v3 v4 v5 μ = some (r, μ')) : WM X 8 136 [(0, vR v0), (1, vI v1), (2, vI v2), (3, vI v3), (4, vI v4), (5, vI v5)] [] 0 0 μ := by
  have h : (if v5 = 0 then B_M_condition_161 v0 v1 v2 v3 v4 v0 1 μ else b1 (gR μ v0 12 23) (fun x147 => b1 (aI μ x147 0 0) (fun x151 => if x151 = 5 then B_M_condition_161 v0 v1 v2 v3 v4 v0 2 μ else B_M_condition_161 v0 v1 v2 v3 v4 v0 0 μ))) = some (r, μ') := h
  refine wm_aload_n E dM_condition_136 rfl (j := 0) rfl ?_
  refine wm_iload E dM_condition_137 (j := 5) rfl ?_
  refine wm_if_ne (tgt := 146) E dM_condition_139 (by decide) (fun c139 => ?_) (fun c139 => ?_)
  · have h := (if_neg c139).symm.trans h
    refine wm_aload_n E dM_condition_146 rfl (j := 0) rfl ?_
    refine wm_gR E fd_M_67 h dM_condition_147 (fun x147 h => ?_)
    refine wm_iconst (x := 0) E dM_condition_150 (by decide) ?_
    refine wm_iald (t := 0) E rfl h dM_condition_151 (fun x151 h => ?_)
    refine wm_iconst (x := 5) E dM_condition_152 (by decide) ?_
    refine wm_icmp_ne (tgt := 160) E dM_condition_153 (by decide) (fun c153 => ?_) (fun c153 => ?_)
    · have h := (if_neg c153).symm.trans h
      refine wm_iconst (x := 0) E dM_condition_160 (by decide) ?_
      refine wm_pick (lv' := [(0, vR v0), (1, vI v1), (2, vI v2), (3, vI v3), (4, vI v4)]) [0, 1, 2, 3, 4] rfl ?_
      exact w_M_condition_161 E hQ hR hI v0 v1 v2 v3 v4 v0 0 μ h
    · have h := (if_pos c153).symm.trans h
      refine wm_iconst (x := 2) E dM_condition_156 (by decide) ?_
      refine wm_goto (tgt := 161) E dM_condition_157 (by decide) ?_
      refine wm_pick (lv' := [(0, vR v0), (1, vI v1), (2, vI v2), (3, vI v3), (4, vI v4)]) [0, 1, 2, 3, 4] rfl ?_
      exact w_M_condition_161 E hQ hR hI v0 v1 v2 v3 v4 v0 2 μ h
  · have h := (if_pos c139).symm.trans h
    refine wm_iconst (x := 1) E dM_condition_142 (by decide) ?_
    refine wm_goto (tgt := 161) E dM_condition_143 (by decide) ?_
    refine wm_pick (lv' := [(0, vR v0), (1, vI v1), (2, vI v2), (3, vI v3), (4, vI v4)]) [0, 1, 2, 3, 4] rfl ?_
    exact w_M_condition_161 E hQ hR hI v0 v1 v2 v3 v4 v0 1 μ h
def B_M_condition_120  (v0 : Option Nat) (v1 : Int32) (v2 : Int32) (v3 : Int32) (v4 : Int32) (v5 : Int32) (μ : Mem) : Option (Int32 × Mem) := if v1 = 8 then b2 (S_M_in v2 0 10000 μ) (fun x131 m131 => B_M_condition_136 v0 v1 v2 v3 v4 x131 m131) else B_M_condition_136 v0 v1 v2 v3 v4 v5 μ
set_option maxHeartbeats 4000000 in
set_option maxRecDepth 100000 in
theorem w_M_condition_120 {X : CX} (E : EV X prog_13_method_34_code 8 "PlaceFinderModel" (some .int)) {μ0 μ' : Mem} {r : Int32} (hQ : RQ X 0 0 μ0 (some (vI r)) μ') (hR : xR X = { frames := 3, cells := 0, slots := 0, locals := 67 }) (hI : X.2.2.2.2.2.2.2.2.2.2.2.1.name = "condition")  (v0 : Option Nat) (v1 : Int32) (v2 : Int32) (v3 : Int32) (v4 : Int32) (v5 : Int32) (μ : Mem) (h : B_M_condition_120  v0 v1 v2 v3 v4 v5 μ = some (r, μ')) : WM X 8 120 [(0, vR v0), (1, vI v1), (2, vI v2), (3, vI v3), (4, vI v4), (5, vI v5)] [] 0 0 μ := by
  have h : (if v1 = 8 then b2 (S_M_in v2 0 10000 μ) (fun x131 m131 => B_M_condition_136 v0 v1 v2 v3 v4 x131 m131) else B_M_condition_136 v0 v1 v2 v3 v4 v5 μ) = some (r, μ') := h
  refine wm_iload_n E dM_condition_120 rfl (j := 1) rfl ?_
  refine wm_bipush (x := 8) E dM_condition_121 (by decide) ?_
  refine wm_icmp_ne (tgt := 136) E dM_condition_123 (by decide) (fun c123 => ?_) (fun c123 => ?_)
  · have h := (if_neg c123).symm.trans h
    refine wm_pick (lv' := [(0, vR v0), (1, vI v1), (2, vI v2), (3, vI v3), (4, vI v4), (5, vI v5)]) [0, 1, 2, 3, 4, 5] rfl ?_
    exact w_M_condition_136 E hQ hR hI v0 v1 v2 v3 v4 v5 μ h
  · have h := (if_pos c123).symm.trans h
    refine wm_iload_n E dM_condition_126 rfl (j := 2) rfl ?_
    refine wm_iconst (x := 0) E dM_condition_127 (by decide) ?_
    refine wm_sipush (x := 10000) E dM_condition_128 (by decide) ?_
    obtain ⟨x131, m131, hc131, h⟩ := b2S h
    refine wm_cS (As := [vI v2, vI 0, vI 10000]) (st := []) E lk_M_139 sc_M_in (C_M_in (xl X) X.1 v2 0 10000 μ _ _ hc131) rfl rfl (by rw [hR]; decide) (by rw [hR]; decide) (Nat.le_of_ble_eq_true rfl) dM_condition_131 ?_
    refine wm_istore (lv' := [(5, vI x131), (0, vR v0), (1, vI v1), (2, vI v2), (3, vI v3), (4, vI v4)]) E dM_condition_134 (by decide) rfl ?_
    refine wm_pick (lv' := [(0, vR v0), (1, vI v1), (2, vI v2), (3, vI v3), (4, vI v4), (5, vI x131)]) [1, 2, 3, 4, 5, 0] rfl ?_
    exact w_M_condition_136 E hQ hR hI v0 v1 v2 v3 v4 x131 m131 h
def B_M_condition_118  (v0 : Option Nat) (v1 : Int32) (v2 : Int32) (v3 : Int32) (v4 : Int32) (s0 : Int32) (μ : Mem) : Option (Int32 × Mem) := B_M_condition_120 v0 v1 v2 v3 v4 s0 μ
set_option maxHeartbeats 4000000 in
set_option maxRecDepth 100000 in
theorem w_M_condition_118 {X : CX} (E : EV X prog_13_method_34_code 8 "PlaceFinderModel" (some .int)) {μ0 μ' : Mem} {r : Int32} (hQ : RQ X 0 0 μ0 (some (vI r)) μ') (hR : xR X = { frames := 3, cells := 0, slots := 0, locals := 67 }) (hI : X.2.2.2.2.2.2.2.2.2.2.2.1.name = "condition")  (v0 : Option Nat) (v1 : Int32) (v2 : Int32) (v3 : Int32) (v4 : Int32) (s0 : Int32) (μ : Mem) (h : B_M_condition_118  v0 v1 v2 v3 v4 s0 μ = some (r, μ')) : WM X 8 118 [(0, vR v0), (1, vI v1), (2, vI v2), (3, vI v3), (4, vI v4)] [vI s0] 0 0 μ := by
  have h : (B_M_condition_120 v0 v1 v2 v3 v4 s0 μ) = some (r, μ') := h
  refine wm_istore (lv' := [(5, vI s0), (0, vR v0), (1, vI v1), (2, vI v2), (3, vI v3), (4, vI v4)]) E dM_condition_118 (by decide) rfl ?_
  refine wm_pick (lv' := [(0, vR v0), (1, vI v1), (2, vI v2), (3, vI v3), (4, vI v4), (5, vI s0)]) [1, 2, 3, 4, 5, 0] rfl ?_
  exact w_M_condition_120 E hQ hR hI v0 v1 v2 v3 v4 s0 μ h
def B_M_condition_117  (v0 : Option Nat) (v1 : Int32) (v2 : Int32) (v3 : Int32) (v4 : Int32) (μ : Mem) : Option (Int32 × Mem) := B_M_condition_118 v0 v1 v2 v3 v4 0 μ
set_option maxHeartbeats 4000000 in
set_option maxRecDepth 100000 in
theorem w_M_condition_117 {X : CX} (E : EV X prog_13_method_34_code 8 "PlaceFinderModel" (some .int)) {μ0 μ' : Mem} {r : Int32} (hQ : RQ X 0 0 μ0 (some (vI r)) μ') (hR : xR X = { frames := 3, cells := 0, slots := 0, locals := 67 }) (hI : X.2.2.2.2.2.2.2.2.2.2.2.1.name = "condition")  (v0 : Option Nat) (v1 : Int32) (v2 : Int32) (v3 : Int32) (v4 : Int32) (μ : Mem) (h : B_M_condition_117  v0 v1 v2 v3 v4 μ = some (r, μ')) : WM X 8 117 [(0, vR v0), (1, vI v1), (2, vI v2), (3, vI v3), (4, vI v4)] [] 0 0 μ := by
  have h : (B_M_condition_118 v0 v1 v2 v3 v4 0 μ) = some (r, μ') := h
  refine wm_iconst (x := 0) E dM_condition_117 (by decide) ?_
  refine wm_pick (lv' := [(0, vR v0), (1, vI v1), (2, vI v2), (3, vI v3), (4, vI v4)]) [0, 1, 2, 3, 4] rfl ?_
  exact w_M_condition_118 E hQ hR hI v0 v1 v2 v3 v4 0 μ h
def B_M_condition_87  (v0 : Option Nat) (v1 : Int32) (v2 : Int32) (v3 : Int32) (v4 : Int32) (v5 : Int32) (μ : Mem) : Option (Int32 × Mem) := if v1 = 7 then b2 (S_M_isAt v2 v3 μ) (fun x95 m95 => if x95 = 0 then B_M_condition_117 v0 v1 v2 v3 v4 m95 else b2 (S_M_in v4 0 10000 m95) (fun x107 m107 => if x107 = 0 then B_M_condition_117 v0 v1 v2 v3 v4 m107 else B_M_condition_118 v0 v1 v2 v3 v4 1 m107)) else B_M_condition_120 v0 v1 v2 v3 v4 v5 μ
set_option maxHeartbeats 4000000 in
set_option maxRecDepth 100000 in
theorem w_M_condition_87 {X : CX} (E : EV X prog_13_method_34_code 8 "PlaceFinderModel" (some .int)) {μ0 μ' : Mem} {r : Int32} (hQ : RQ X 0 0 μ0 (some (vI r)) μ') (hR : xR X = { frames := 3, cells := 0, slots := 0, locals := 67 }) (hI : X.2.2.2.2.2.2.2.2.2.2.2.1.name = "condition")  (v0 : Option Nat) (v1 : Int32) (v2 : Int32) (v3 : Int32) (v4 : Int32) (v5 : Int32) (μ : Mem) (h : B_M_condition_87  v0 v1 v2 v3 v4 v5 μ = some (r, μ')) : WM X 8 87 [(0, vR v0), (1, vI v1), (2, vI v2), (3, vI v3), (4, vI v4), (5, vI v5)] [] 0 0 μ := by
  have h : (if v1 = 7 then b2 (S_M_isAt v2 v3 μ) (fun x95 m95 => if x95 = 0 then B_M_condition_117 v0 v1 v2 v3 v4 m95 else b2 (S_M_in v4 0 10000 m95) (fun x107 m107 => if x107 = 0 then B_M_condition_117 v0 v1 v2 v3 v4 m107 else B_M_condition_118 v0 v1 v2 v3 v4 1 m107)) else B_M_condition_120 v0 v1 v2 v3 v4 v5 μ) = some (r, μ') := h
  refine wm_iload_n E dM_condition_87 rfl (j := 1) rfl ?_
  refine wm_bipush (x := 7) E dM_condition_88 (by decide) ?_
  refine wm_icmp_ne (tgt := 120) E dM_condition_90 (by decide) (fun c90 => ?_) (fun c90 => ?_)
  · have h := (if_neg c90).symm.trans h
    refine wm_pick (lv' := [(0, vR v0), (1, vI v1), (2, vI v2), (3, vI v3), (4, vI v4), (5, vI v5)]) [0, 1, 2, 3, 4, 5] rfl ?_
    exact w_M_condition_120 E hQ hR hI v0 v1 v2 v3 v4 v5 μ h
  · have h := (if_pos c90).symm.trans h
    refine wm_iload_n E dM_condition_93 rfl (j := 2) rfl ?_
    refine wm_iload_n E dM_condition_94 rfl (j := 3) rfl ?_
    obtain ⟨x95, m95, hc95, h⟩ := b2S h
    refine wm_cS (As := [vI v2, vI v3]) (st := []) E lk_M_147 sc_M_isAt (C_M_isAt (xl X) X.1 v2 v3 μ _ _ hc95) rfl rfl (by rw [hR]; decide) (by rw [hR]; decide) (Nat.le_of_ble_eq_true rfl) dM_condition_95 ?_
    refine wm_if_eq (tgt := 117) E dM_condition_98 (by decide) (fun c98 => ?_) (fun c98 => ?_)
    · have h := (if_pos c98).symm.trans h
      refine wm_pick (lv' := [(0, vR v0), (1, vI v1), (2, vI v2), (3, vI v3), (4, vI v4)]) [0, 1, 2, 3, 4] rfl ?_
      exact w_M_condition_117 E hQ hR hI v0 v1 v2 v3 v4 m95 h
    · have h := (if_neg c98).symm.trans h
      refine wm_iload E dM_condition_101 (j := 4) rfl ?_
      refine wm_iconst (x := 0) E dM_condition_103 (by decide) ?_
      refine wm_sipush (x := 10000) E dM_condition_104 (by decide) ?_
      obtain ⟨x107, m107, hc107, h⟩ := b2S h
      refine wm_cS (As := [vI v4, vI 0, vI 10000]) (st := []) E lk_M_139 sc_M_in (C_M_in (xl X) X.1 v4 0 10000 m95 _ _ hc107) rfl rfl (by rw [hR]; decide) (by rw [hR]; decide) (Nat.le_of_ble_eq_true rfl) dM_condition_107 ?_
      refine wm_if_eq (tgt := 117) E dM_condition_110 (by decide) (fun c110 => ?_) (fun c110 => ?_)
      · have h := (if_pos c110).symm.trans h
        refine wm_pick (lv' := [(0, vR v0), (1, vI v1), (2, vI v2), (3, vI v3), (4, vI v4)]) [0, 1, 2, 3, 4] rfl ?_
        exact w_M_condition_117 E hQ hR hI v0 v1 v2 v3 v4 m107 h
      · have h := (if_neg c110).symm.trans h
        refine wm_iconst (x := 1) E dM_condition_113 (by decide) ?_
        refine wm_goto (tgt := 118) E dM_condition_114 (by decide) ?_
        refine wm_pick (lv' := [(0, vR v0), (1, vI v1), (2, vI v2), (3, vI v3), (4, vI v4)]) [0, 1, 2, 3, 4] rfl ?_
        exact w_M_condition_118 E hQ hR hI v0 v1 v2 v3 v4 1 m107 h
def B_M_condition_80  (v0 : Option Nat) (v1 : Int32) (v2 : Int32) (v3 : Int32) (v4 : Int32) (μ : Mem) : Option (Int32 × Mem) := b1 (rc μ v0 12) (fun _ => b2 (S_M_isPlace v0 v2 μ) (fun x82 m82 => B_M_condition_87 v0 v1 v2 v3 v4 x82 m82))
set_option maxHeartbeats 4000000 in
set_option maxRecDepth 100000 in
theorem w_M_condition_80 {X : CX} (E : EV X prog_13_method_34_code 8 "PlaceFinderModel" (some .int)) {μ0 μ' : Mem} {r : Int32} (hQ : RQ X 0 0 μ0 (some (vI r)) μ') (hR : xR X = { frames := 3, cells := 0, slots := 0, locals := 67 }) (hI : X.2.2.2.2.2.2.2.2.2.2.2.1.name = "condition")  (v0 : Option Nat) (v1 : Int32) (v2 : Int32) (v3 : Int32) (v4 : Int32) (μ : Mem) (h : B_M_condition_80  v0 v1 v2 v3 v4 μ = some (r, μ')) : WM X 8 80 [(0, vR v0), (1, vI v1), (2, vI v2), (3, vI v3), (4, vI v4)] [] 0 0 μ := by
  have h : (b1 (rc μ v0 12) (fun _ => b2 (S_M_isPlace v0 v2 μ) (fun x82 m82 => B_M_condition_87 v0 v1 v2 v3 v4 x82 m82))) = some (r, μ') := h
  refine wm_aload_n E dM_condition_80 rfl (j := 0) rfl ?_
  refine wm_iload_n E dM_condition_81 rfl (j := 2) rfl ?_
  obtain ⟨u82, hr82, h⟩ := b1S h
  obtain ⟨x82, m82, hc82, h⟩ := b2S h
  refine wm_cV (ci := 12) (As := [vI v2]) (st := []) E lk_M_154 rfl im_M_isPlace sl_M_isPlace hr82 (C_M_isPlace (xl X) X.1 v0 v2 μ _ _ hc82) rfl rfl (by rw [hR]; decide) (by rw [hR]; decide) (Nat.le_of_ble_eq_true rfl) dM_condition_82 ?_
  refine wm_istore (lv' := [(5, vI x82), (0, vR v0), (1, vI v1), (2, vI v2), (3, vI v3), (4, vI v4)]) E dM_condition_85 (by decide) rfl ?_
  refine wm_pick (lv' := [(0, vR v0), (1, vI v1), (2, vI v2), (3, vI v3), (4, vI v4), (5, vI x82)]) [1, 2, 3, 4, 5, 0] rfl ?_
  exact w_M_condition_87 E hQ hR hI v0 v1 v2 v3 v4 x82 m82 h
def B_M_condition_69  (v0 : Option Nat) (v1 : Int32) (v2 : Int32) (v3 : Int32) (v4 : Int32) (v5 : Int32) (μ : Mem) : Option (Int32 × Mem) := if v1 = 5 then B_M_condition_80 v0 v1 v2 v3 v4 μ else if v1 = 6 then B_M_condition_80 v0 v1 v2 v3 v4 μ else B_M_condition_87 v0 v1 v2 v3 v4 v5 μ
set_option maxHeartbeats 4000000 in
set_option maxRecDepth 100000 in
theorem w_M_condition_69 {X : CX} (E : EV X prog_13_method_34_code 8 "PlaceFinderModel" (some .int)) {μ0 μ' : Mem} {r : Int32} (hQ : RQ X 0 0 μ0 (some (vI r)) μ') (hR : xR X = { frames := 3, cells := 0, slots := 0, locals := 67 }) (hI : X.2.2.2.2.2.2.2.2.2.2.2.1.name = "condition")  (v0 : Option Nat) (v1 : Int32) (v2 : Int32) (v3 : Int32) (v4 : Int32) (v5 : Int32) (μ : Mem) (h : B_M_condition_69  v0 v1 v2 v3 v4 v5 μ = some (r, μ')) : WM X 8 69 [(0, vR v0), (1, vI v1), (2, vI v2), (3, vI v3), (4, vI v4), (5, vI v5)] [] 0 0 μ := by
  have h : (if v1 = 5 then B_M_condition_80 v0 v1 v2 v3 v4 μ else if v1 = 6 then B_M_condition_80 v0 v1 v2 v3 v4 μ else B_M_condition_87 v0 v1 v2 v3 v4 v5 μ) = some (r, μ') := h
  refine wm_iload_n E dM_condition_69 rfl (j := 1) rfl ?_
  refine wm_iconst (x := 5) E dM_condition_70 (by decide) ?_
  refine wm_icmp_eq (tgt := 80) E dM_condition_71 (by decide) (fun c71 => ?_) (fun c71 => ?_)
  · have h := (if_pos c71).symm.trans h
    refine wm_pick (lv' := [(0, vR v0), (1, vI v1), (2, vI v2), (3, vI v3), (4, vI v4)]) [0, 1, 2, 3, 4] rfl ?_
    exact w_M_condition_80 E hQ hR hI v0 v1 v2 v3 v4 μ h
  · have h := (if_neg c71).symm.trans h
    refine wm_iload_n E dM_condition_74 rfl (j := 1) rfl ?_
    refine wm_bipush (x := 6) E dM_condition_75 (by decide) ?_
    refine wm_icmp_ne (tgt := 87) E dM_condition_77 (by decide) (fun c77 => ?_) (fun c77 => ?_)
    · have h := (if_neg c77).symm.trans h
      refine wm_pick (lv' := [(0, vR v0), (1, vI v1), (2, vI v2), (3, vI v3), (4, vI v4), (5, vI v5)]) [0, 1, 2, 3, 4, 5] rfl ?_
      exact w_M_condition_87 E hQ hR hI v0 v1 v2 v3 v4 v5 μ h
    · have h := (if_pos c77).symm.trans h
      refine wm_pick (lv' := [(0, vR v0), (1, vI v1), (2, vI v2), (3, vI v3), (4, vI v4)]) [0, 1, 2, 3, 4] rfl ?_
      exact w_M_condition_80 E hQ hR hI v0 v1 v2 v3 v4 μ h
def B_M_condition_55  (v0 : Option Nat) (v1 : Int32) (v2 : Int32) (v3 : Int32) (v4 : Int32) (v5 : Int32) (μ : Mem) : Option (Int32 × Mem) := if v1 = 4 then b2 (S_M_in v2 0 7 μ) (fun x64 m64 => B_M_condition_69 v0 v1 v2 v3 v4 x64 m64) else B_M_condition_69 v0 v1 v2 v3 v4 v5 μ
set_option maxHeartbeats 4000000 in
set_option maxRecDepth 100000 in
theorem w_M_condition_55 {X : CX} (E : EV X prog_13_method_34_code 8 "PlaceFinderModel" (some .int)) {μ0 μ' : Mem} {r : Int32} (hQ : RQ X 0 0 μ0 (some (vI r)) μ') (hR : xR X = { frames := 3, cells := 0, slots := 0, locals := 67 }) (hI : X.2.2.2.2.2.2.2.2.2.2.2.1.name = "condition")  (v0 : Option Nat) (v1 : Int32) (v2 : Int32) (v3 : Int32) (v4 : Int32) (v5 : Int32) (μ : Mem) (h : B_M_condition_55  v0 v1 v2 v3 v4 v5 μ = some (r, μ')) : WM X 8 55 [(0, vR v0), (1, vI v1), (2, vI v2), (3, vI v3), (4, vI v4), (5, vI v5)] [] 0 0 μ := by
  have h : (if v1 = 4 then b2 (S_M_in v2 0 7 μ) (fun x64 m64 => B_M_condition_69 v0 v1 v2 v3 v4 x64 m64) else B_M_condition_69 v0 v1 v2 v3 v4 v5 μ) = some (r, μ') := h
  refine wm_iload_n E dM_condition_55 rfl (j := 1) rfl ?_
  refine wm_iconst (x := 4) E dM_condition_56 (by decide) ?_
  refine wm_icmp_ne (tgt := 69) E dM_condition_57 (by decide) (fun c57 => ?_) (fun c57 => ?_)
  · have h := (if_neg c57).symm.trans h
    refine wm_pick (lv' := [(0, vR v0), (1, vI v1), (2, vI v2), (3, vI v3), (4, vI v4), (5, vI v5)]) [0, 1, 2, 3, 4, 5] rfl ?_
    exact w_M_condition_69 E hQ hR hI v0 v1 v2 v3 v4 v5 μ h
  · have h := (if_pos c57).symm.trans h
    refine wm_iload_n E dM_condition_60 rfl (j := 2) rfl ?_
    refine wm_iconst (x := 0) E dM_condition_61 (by decide) ?_
    refine wm_bipush (x := 7) E dM_condition_62 (by decide) ?_
    obtain ⟨x64, m64, hc64, h⟩ := b2S h
    refine wm_cS (As := [vI v2, vI 0, vI 7]) (st := []) E lk_M_139 sc_M_in (C_M_in (xl X) X.1 v2 0 7 μ _ _ hc64) rfl rfl (by rw [hR]; decide) (by rw [hR]; decide) (Nat.le_of_ble_eq_true rfl) dM_condition_64 ?_
    refine wm_istore (lv' := [(5, vI x64), (0, vR v0), (1, vI v1), (2, vI v2), (3, vI v3), (4, vI v4)]) E dM_condition_67 (by decide) rfl ?_
    refine wm_pick (lv' := [(0, vR v0), (1, vI v1), (2, vI v2), (3, vI v3), (4, vI v4), (5, vI x64)]) [1, 2, 3, 4, 5, 0] rfl ?_
    exact w_M_condition_69 E hQ hR hI v0 v1 v2 v3 v4 x64 m64 h
def B_M_condition_53  (v0 : Option Nat) (v1 : Int32) (v2 : Int32) (v3 : Int32) (v4 : Int32) (s0 : Int32) (μ : Mem) : Option (Int32 × Mem) := B_M_condition_55 v0 v1 v2 v3 v4 s0 μ
set_option maxHeartbeats 4000000 in
set_option maxRecDepth 100000 in
theorem w_M_condition_53 {X : CX} (E : EV X prog_13_method_34_code 8 "PlaceFinderModel" (some .int)) {μ0 μ' : Mem} {r : Int32} (hQ : RQ X 0 0 μ0 (some (vI r)) μ') (hR : xR X = { frames := 3, cells := 0, slots := 0, locals := 67 }) (hI : X.2.2.2.2.2.2.2.2.2.2.2.1.name = "condition")  (v0 : Option Nat) (v1 : Int32) (v2 : Int32) (v3 : Int32) (v4 : Int32) (s0 : Int32) (μ : Mem) (h : B_M_condition_53  v0 v1 v2 v3 v4 s0 μ = some (r, μ')) : WM X 8 53 [(0, vR v0), (1, vI v1), (2, vI v2), (3, vI v3), (4, vI v4)] [vI s0] 0 0 μ := by
  have h : (B_M_condition_55 v0 v1 v2 v3 v4 s0 μ) = some (r, μ') := h
  refine wm_istore (lv' := [(5, vI s0), (0, vR v0), (1, vI v1), (2, vI v2), (3, vI v3), (4, vI v4)]) E dM_condition_53 (by decide) rfl ?_
  refine wm_pick (lv' := [(0, vR v0), (1, vI v1), (2, vI v2), (3, vI v3), (4, vI v4), (5, vI s0)]) [1, 2, 3, 4, 5, 0] rfl ?_
  exact w_M_condition_55 E hQ hR hI v0 v1 v2 v3 v4 s0 μ h
def B_M_condition_52  (v0 : Option Nat) (v1 : Int32) (v2 : Int32) (v3 : Int32) (v4 : Int32) (μ : Mem) : Option (Int32 × Mem) := B_M_condition_53 v0 v1 v2 v3 v4 0 μ
set_option maxHeartbeats 4000000 in
set_option maxRecDepth 100000 in
theorem w_M_condition_52 {X : CX} (E : EV X prog_13_method_34_code 8 "PlaceFinderModel" (some .int)) {μ0 μ' : Mem} {r : Int32} (hQ : RQ X 0 0 μ0 (some (vI r)) μ') (hR : xR X = { frames := 3, cells := 0, slots := 0, locals := 67 }) (hI : X.2.2.2.2.2.2.2.2.2.2.2.1.name = "condition")  (v0 : Option Nat) (v1 : Int32) (v2 : Int32) (v3 : Int32) (v4 : Int32) (μ : Mem) (h : B_M_condition_52  v0 v1 v2 v3 v4 μ = some (r, μ')) : WM X 8 52 [(0, vR v0), (1, vI v1), (2, vI v2), (3, vI v3), (4, vI v4)] [] 0 0 μ := by
  have h : (B_M_condition_53 v0 v1 v2 v3 v4 0 μ) = some (r, μ') := h
  refine wm_iconst (x := 0) E dM_condition_52 (by decide) ?_
  refine wm_pick (lv' := [(0, vR v0), (1, vI v1), (2, vI v2), (3, vI v3), (4, vI v4)]) [0, 1, 2, 3, 4] rfl ?_
  exact w_M_condition_53 E hQ hR hI v0 v1 v2 v3 v4 0 μ h
def B_M_condition_27  (v0 : Option Nat) (v1 : Int32) (v2 : Int32) (v3 : Int32) (v4 : Int32) (s0 : Int32) (μ : Mem) : Option (Int32 × Mem) := if v1 = 2 then if s0 = 0 then B_M_condition_52 v0 v1 v2 v3 v4 μ else b2 (S_M_in v2 0 2 μ) (fun x42 m42 => if x42 = 0 then B_M_condition_52 v0 v1 v2 v3 v4 m42 else B_M_condition_53 v0 v1 v2 v3 v4 1 m42) else B_M_condition_55 v0 v1 v2 v3 v4 s0 μ
set_option maxHeartbeats 4000000 in
set_option maxRecDepth 100000 in
theorem w_M_condition_27 {X : CX} (E : EV X prog_13_method_34_code 8 "PlaceFinderModel" (some .int)) {μ0 μ' : Mem} {r : Int32} (hQ : RQ X 0 0 μ0 (some (vI r)) μ') (hR : xR X = { frames := 3, cells := 0, slots := 0, locals := 67 }) (hI : X.2.2.2.2.2.2.2.2.2.2.2.1.name = "condition")  (v0 : Option Nat) (v1 : Int32) (v2 : Int32) (v3 : Int32) (v4 : Int32) (s0 : Int32) (μ : Mem) (h : B_M_condition_27  v0 v1 v2 v3 v4 s0 μ = some (r, μ')) : WM X 8 27 [(0, vR v0), (1, vI v1), (2, vI v2), (3, vI v3), (4, vI v4)] [vI s0] 0 0 μ := by
  have h : (if v1 = 2 then if s0 = 0 then B_M_condition_52 v0 v1 v2 v3 v4 μ else b2 (S_M_in v2 0 2 μ) (fun x42 m42 => if x42 = 0 then B_M_condition_52 v0 v1 v2 v3 v4 m42 else B_M_condition_53 v0 v1 v2 v3 v4 1 m42) else B_M_condition_55 v0 v1 v2 v3 v4 s0 μ) = some (r, μ') := h
  refine wm_istore (lv' := [(5, vI s0), (0, vR v0), (1, vI v1), (2, vI v2), (3, vI v3), (4, vI v4)]) E dM_condition_27 (by decide) rfl ?_
  refine wm_iload_n E dM_condition_29 rfl (j := 2) rfl ?_
  refine wm_iconst (x := 2) E dM_condition_30 (by decide) ?_
  refine wm_icmp_ne (tgt := 55) E dM_condition_31 (by decide) (fun c31 => ?_) (fun c31 => ?_)
  · have h := (if_neg c31).symm.trans h
    refine wm_pick (lv' := [(0, vR v0), (1, vI v1), (2, vI v2), (3, vI v3), (4, vI v4), (5, vI s0)]) [1, 2, 3, 4, 5, 0] rfl ?_
    exact w_M_condition_55 E hQ hR hI v0 v1 v2 v3 v4 s0 μ h
  · have h := (if_pos c31).symm.trans h
    refine wm_iload E dM_condition_34 (j := 0) rfl ?_
    refine wm_if_eq (tgt := 52) E dM_condition_36 (by decide) (fun c36 => ?_) (fun c36 => ?_)
    · have h := (if_pos c36).symm.trans h
      refine wm_pick (lv' := [(0, vR v0), (1, vI v1), (2, vI v2), (3, vI v3), (4, vI v4)]) [1, 2, 3, 4, 5] rfl ?_
      exact w_M_condition_52 E hQ hR hI v0 v1 v2 v3 v4 μ h
    · have h := (if_neg c36).symm.trans h
      refine wm_iload_n E dM_condition_39 rfl (j := 3) rfl ?_
      refine wm_iconst (x := 0) E dM_condition_40 (by decide) ?_
      refine wm_iconst (x := 2) E dM_condition_41 (by decide) ?_
      obtain ⟨x42, m42, hc42, h⟩ := b2S h
      refine wm_cS (As := [vI v2, vI 0, vI 2]) (st := []) E lk_M_139 sc_M_in (C_M_in (xl X) X.1 v2 0 2 μ _ _ hc42) rfl rfl (by rw [hR]; decide) (by rw [hR]; decide) (Nat.le_of_ble_eq_true rfl) dM_condition_42 ?_
      refine wm_if_eq (tgt := 52) E dM_condition_45 (by decide) (fun c45 => ?_) (fun c45 => ?_)
      · have h := (if_pos c45).symm.trans h
        refine wm_pick (lv' := [(0, vR v0), (1, vI v1), (2, vI v2), (3, vI v3), (4, vI v4)]) [1, 2, 3, 4, 5] rfl ?_
        exact w_M_condition_52 E hQ hR hI v0 v1 v2 v3 v4 m42 h
      · have h := (if_neg c45).symm.trans h
        refine wm_iconst (x := 1) E dM_condition_48 (by decide) ?_
        refine wm_goto (tgt := 53) E dM_condition_49 (by decide) ?_
        refine wm_pick (lv' := [(0, vR v0), (1, vI v1), (2, vI v2), (3, vI v3), (4, vI v4)]) [1, 2, 3, 4, 5] rfl ?_
        exact w_M_condition_53 E hQ hR hI v0 v1 v2 v3 v4 1 m42 h
def B_M_condition_26  (v0 : Option Nat) (v1 : Int32) (v2 : Int32) (v3 : Int32) (v4 : Int32) (μ : Mem) : Option (Int32 × Mem) := B_M_condition_27 v0 v1 v2 v3 v4 0 μ
set_option maxHeartbeats 4000000 in
set_option maxRecDepth 100000 in
theorem w_M_condition_26 {X : CX} (E : EV X prog_13_method_34_code 8 "PlaceFinderModel" (some .int)) {μ0 μ' : Mem} {r : Int32} (hQ : RQ X 0 0 μ0 (some (vI r)) μ') (hR : xR X = { frames := 3, cells := 0, slots := 0, locals := 67 }) (hI : X.2.2.2.2.2.2.2.2.2.2.2.1.name = "condition")  (v0 : Option Nat) (v1 : Int32) (v2 : Int32) (v3 : Int32) (v4 : Int32) (μ : Mem) (h : B_M_condition_26  v0 v1 v2 v3 v4 μ = some (r, μ')) : WM X 8 26 [(0, vR v0), (1, vI v1), (2, vI v2), (3, vI v3), (4, vI v4)] [] 0 0 μ := by
  have h : (B_M_condition_27 v0 v1 v2 v3 v4 0 μ) = some (r, μ') := h
  refine wm_iconst (x := 0) E dM_condition_26 (by decide) ?_
  refine wm_pick (lv' := [(0, vR v0), (1, vI v1), (2, vI v2), (3, vI v3), (4, vI v4)]) [0, 1, 2, 3, 4] rfl ?_
  exact w_M_condition_27 E hQ hR hI v0 v1 v2 v3 v4 0 μ h
def B_M_condition_22  (v0 : Option Nat) (v1 : Int32) (v2 : Int32) (v3 : Int32) (v4 : Int32) (μ : Mem) : Option (Int32 × Mem) := B_M_condition_27 v0 v1 v2 v3 v4 1 μ
set_option maxHeartbeats 4000000 in
set_option maxRecDepth 100000 in
theorem w_M_condition_22 {X : CX} (E : EV X prog_13_method_34_code 8 "PlaceFinderModel" (some .int)) {μ0 μ' : Mem} {r : Int32} (hQ : RQ X 0 0 μ0 (some (vI r)) μ') (hR : xR X = { frames := 3, cells := 0, slots := 0, locals := 67 }) (hI : X.2.2.2.2.2.2.2.2.2.2.2.1.name = "condition")  (v0 : Option Nat) (v1 : Int32) (v2 : Int32) (v3 : Int32) (v4 : Int32) (μ : Mem) (h : B_M_condition_22  v0 v1 v2 v3 v4 μ = some (r, μ')) : WM X 8 22 [(0, vR v0), (1, vI v1), (2, vI v2), (3, vI v3), (4, vI v4)] [] 0 0 μ := by
  have h : (B_M_condition_27 v0 v1 v2 v3 v4 1 μ) = some (r, μ') := h
  refine wm_iconst (x := 1) E dM_condition_22 (by decide) ?_
  refine wm_goto (tgt := 27) E dM_condition_23 (by decide) ?_
  refine wm_pick (lv' := [(0, vR v0), (1, vI v1), (2, vI v2), (3, vI v3), (4, vI v4)]) [0, 1, 2, 3, 4] rfl ?_
  exact w_M_condition_27 E hQ hR hI v0 v1 v2 v3 v4 1 μ h
def S_M_condition (v0 : Option Nat) (v1 : Int32) (v2 : Int32) (v3 : Int32) (v4 : Int32) (μ : Mem) : Option (Int32 × Mem) := b2 (S_M_in v1 0 8 μ) (fun x4 m4 => if x4 = 0 then B_M_condition_26 v0 v1 v2 v3 v4 m4 else if 3 < v1 then B_M_condition_22 v0 v1 v2 v3 v4 m4 else b1 (gI m4 v0 12 21) (fun x16 => if x16 ≤ 0 then B_M_condition_26 v0 v1 v2 v3 v4 m4 else B_M_condition_22 v0 v1 v2 v3 v4 m4))
set_option maxHeartbeats 4000000 in
set_option maxRecDepth 100000 in
theorem C_M_condition (l : Launch) (G : GG) (v0 : Option Nat) (v1 : Int32) (v2 : Int32) (v3 : Int32) (v4 : Int32) (μ μ' : Mem) (r : Int32) (h : S_M_condition v0 v1 v2 v3 v4 μ = some (r, μ')) : CT l G y_M_condition prog_13_method_34_code 8 (some .int) 3 0 0 67 μ [vR v0, vI v1, vI v2, vI v3, vI v4] (some (vI r)) μ' := by
  refine wm_met (lv := [(0, vR v0), (1, vI v1), (2, vI v2), (3, vI v3), (4, vI v4)]) (by decide +kernel) (Nat.le_of_ble_eq_true rfl) rfl (fun X E hQ hR hI => ?_)
  have h : (b2 (S_M_in v1 0 8 μ) (fun x4 m4 => if x4 = 0 then B_M_condition_26 v0 v1 v2 v3 v4 m4 else if 3 < v1 then B_M_condition_22 v0 v1 v2 v3 v4 m4 else b1 (gI m4 v0 12 21) (fun x16 => if x16 ≤ 0 then B_M_condition_26 v0 v1 v2 v3 v4 m4 else B_M_condition_22 v0 v1 v2 v3 v4 m4))) = some (r, μ') := h
  refine wm_iload_n E dM_condition_0 rfl (j := 1) rfl ?_
  refine wm_iconst (x := 0) E dM_condition_1 (by decide) ?_
  refine wm_bipush (x := 8) E dM_condition_2 (by decide) ?_
  obtain ⟨x4, m4, hc4, h⟩ := b2S h
  refine wm_cS (As := [vI v1, vI 0, vI 8]) (st := []) E lk_M_139 sc_M_in (C_M_in (xl X) X.1 v1 0 8 μ _ _ hc4) rfl rfl (by rw [hR]; decide) (by rw [hR]; decide) (Nat.le_of_ble_eq_true rfl) dM_condition_4 ?_
  refine wm_if_eq (tgt := 26) E dM_condition_7 (by decide) (fun c7 => ?_) (fun c7 => ?_)
  · have h := (if_pos c7).symm.trans h
    refine wm_pick (lv' := [(0, vR v0), (1, vI v1), (2, vI v2), (3, vI v3), (4, vI v4)]) [0, 1, 2, 3, 4] rfl ?_
    exact w_M_condition_26 E hQ hR hI v0 v1 v2 v3 v4 m4 h
  · have h := (if_neg c7).symm.trans h
    refine wm_iload_n E dM_condition_10 rfl (j := 1) rfl ?_
    refine wm_iconst (x := 3) E dM_condition_11 (by decide) ?_
    refine wm_icmp_gt (tgt := 22) E dM_condition_12 (by decide) (fun c12 => ?_) (fun c12 => ?_)
    · have h := (if_pos c12).symm.trans h
      refine wm_pick (lv' := [(0, vR v0), (1, vI v1), (2, vI v2), (3, vI v3), (4, vI v4)]) [0, 1, 2, 3, 4] rfl ?_
      exact w_M_condition_22 E hQ hR hI v0 v1 v2 v3 v4 m4 h
    · have h := (if_neg c12).symm.trans h
      refine wm_aload_n E dM_condition_15 rfl (j := 0) rfl ?_
      refine wm_gI E fd_M_172 h dM_condition_16 (fun x16 h => ?_)
      refine wm_if_le (tgt := 26) E dM_condition_19 (by decide) (fun c19 => ?_) (fun c19 => ?_)
      · have h := (if_pos c19).symm.trans h
        refine wm_pick (lv' := [(0, vR v0), (1, vI v1), (2, vI v2), (3, vI v3), (4, vI v4)]) [0, 1, 2, 3, 4] rfl ?_
        exact w_M_condition_26 E hQ hR hI v0 v1 v2 v3 v4 m4 h
      · have h := (if_neg c19).symm.trans h
        refine wm_pick (lv' := [(0, vR v0), (1, vI v1), (2, vI v2), (3, vI v3), (4, vI v4)]) [0, 1, 2, 3, 4] rfl ?_
        exact w_M_condition_22 E hQ hR hI v0 v1 v2 v3 v4 m4 h
