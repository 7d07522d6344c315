def B_P_firstAround_2  : Nat → Option Nat → Int32 → Mem → Option (Option Nat × Mem)
  | 0, _, _, _ => none
  | n + 1, v0, v1, μ => b1 (gR μ v0 11 7) (fun x4 => b1 (rc μ x4 0) (fun _ => b2 (S_Al_size x4 μ) (fun x7 m7 => if x7 ≤ v1 then some (none, m7) else b1 (gR m7 v0 11 7) (fun x14 => b1 (rc m7 x14 0) (fun _ => b2 (S_Al_get x14 v1 m7) (fun x18 m18 => b1 (cK m18 x18 1) (fun _ => b1 (gI m18 x18 1 0) (fun x24 => if x24 = 7 then b1 (gR m18 v0 11 7) (fun x33 => b1 (rc m18 x33 0) (fun _ => b2 (S_Al_get x33 v1 m18) (fun x37 m37 => b1 (cK m37 x37 1) (fun _ => some (x37, m37))))) else (fun v0 v1 μ => B_P_firstAround_2 n v0 v1 μ) v0 (v1 + 1) m18))))))))
set_option maxHeartbeats 4000000 in
set_option maxRecDepth 100000 in
theorem w_P_firstAround_2 {X : CX} (E : EV X prog_1_method_38_code 2 "PlaceFinder" (some (.object "PlaceFinder$Condition"))) {μ0 μ' : Mem} {r : Option Nat} (hQ : RQ X 0 0 μ0 (some (vR r)) μ') (hR : xR X = { frames := 3, cells := 0, slots := 0, locals := 64 }) (hI : X.2.2.2.2.2.2.2.2.2.2.2.1.name = "firstAround")  (n : Nat) : ∀ (v0 : Option Nat) (v1 : Int32) (μ : Mem) (h : B_P_firstAround_2  n v0 v1 μ = some (r, μ')), WM X 2 2 [(0, vR v0), (1, vI v1)] [] 0 0 μ := by
  induction n with
  | zero => intro v0 v1 μ h; cases h
  | succ n ih =>
    intro v0 v1 μ h
    have h : (b1 (gR μ v0 11 7) (fun x4 => b1 (rc μ x4 0) (fun _ => b2 (S_Al_size x4 μ) (fun x7 m7 => if x7 ≤ v1 then some (none, m7) else b1 (gR m7 v0 11 7) (fun x14 => b1 (rc m7 x14 0) (fun _ => b2 (S_Al_get x14 v1 m7) (fun x18 m18 => b1 (cK m18 x18 1) (fun _ => b1 (gI m18 x18 1 0) (fun x24 => if x24 = 7 then b1 (gR m18 v0 11 7) (fun x33 => b1 (rc m18 x33 0) (fun _ => b2 (S_Al_get x33 v1 m18) (fun x37 m37 => b1 (cK m37 x37 1) (fun _ => some (x37, m37))))) else (fun v0 v1 μ => B_P_firstAround_2 n v0 v1 μ) v0 (v1 + 1) m18))))))))) = some (r, μ') := h
    refine wm_iload_n E dP_firstAround_2 rfl (j := 1) rfl ?_
    refine wm_aload_n E dP_firstAround_3 rfl (j := 0) rfl ?_
    refine wm_gR E fd_P_43 h dP_firstAround_4 (fun x4 h => ?_)
    obtain ⟨u7, hr7, h⟩ := b1S h
    obtain ⟨x7, m7, hc7, h⟩ := b2S h
    refine wm_cV (ci := 0) (As := []) (st := [vI v1]) E lk_P_98 rfl im_Al_size sl_Al_size hr7 (C_Al_size (xl X) X.1 x4 μ _ _ hc7) rfl rfl (by rw [hR]; decide) (by rw [hR]; decide) (Nat.le_of_ble_eq_true rfl) dP_firstAround_7 ?_
    refine wm_icmp_ge (tgt := 50) E dP_firstAround_10 (by decide) (fun c10 => ?_) (fun c10 => ?_)
    · have h := (if_pos c10).symm.trans h
      refine wm_null E dP_firstAround_50 ?_
      exact wm_aret E hQ (rtR h) (rtM h) (Or.inl ⟨_, rfl⟩) (by decide) (by decide) dP_firstAround_51
    · have h := (if_neg c10).symm.trans h
      refine wm_aload_n E dP_firstAround_13 rfl (j := 0) rfl ?_
      refine wm_gR E fd_P_43 h dP_firstAround_14 (fun x14 h => ?_)
      refine wm_iload_n E dP_firstAround_17 rfl (j := 1) rfl ?_
      obtain ⟨u18, hr18, h⟩ := b1S h
      obtain ⟨x18, m18, hc18, h⟩ := b2S h
      refine wm_cV (ci := 0) (As := [vI v1]) (st := []) E lk_P_223 rfl im_Al_get sl_Al_get hr18 (C_Al_get (xl X) X.1 x14 v1 m7 _ _ hc18) rfl rfl (by rw [hR]; decide) (by rw [hR]; decide) (Nat.le_of_ble_eq_true rfl) dP_firstAround_18 ?_
      refine wm_ckc (ci := 1) E rfl cl_P_73 h dP_firstAround_21 (fun h => ?_)
      refine wm_gI E fd_P_352 h dP_firstAround_24 (fun x24 h => ?_)
      refine wm_bipush (x := 7) E dP_firstAround_27 (by decide) ?_
      refine wm_icmp_ne (tgt := 44) E dP_firstAround_29 (by decide) (fun c29 => ?_) (fun c29 => ?_)
      · have h := (if_neg c29).symm.trans h
        refine wm_iinc (lv' := [(1, vI (v1 + 1)), (0, vR v0)]) (d := 1) E dP_firstAround_44 (by decide) (j := 1) rfl (by decide) rfl ?_
        refine wm_goto (tgt := 2) E dP_firstAround_47 (by decide) ?_
        refine wm_pick (lv' := [(0, vR v0), (1, vI (v1 + 1))]) [1, 0] rfl ?_
        exact ih v0 (v1 + 1) m18 h
      · have h := (if_pos c29).symm.trans h
        refine wm_aload_n E dP_firstAround_32 rfl (j := 0) rfl ?_
        refine wm_gR E fd_P_43 h dP_firstAround_33 (fun x33 h => ?_)
        refine wm_iload_n E dP_firstAround_36 rfl (j := 1) rfl ?_
        obtain ⟨u37, hr37, h⟩ := b1S h
        obtain ⟨x37, m37, hc37, h⟩ := b2S h
        refine wm_cV (ci := 0) (As := [vI v1]) (st := []) E lk_P_223 rfl im_Al_get sl_Al_get hr37 (C_Al_get (xl X) X.1 x33 v1 m18 _ _ hc37) rfl rfl (by rw [hR]; decide) (by rw [hR]; decide) (Nat.le_of_ble_eq_true rfl) dP_firstAround_37 ?_
        refine wm_ckc (ci := 1) E rfl cl_P_73 h dP_firstAround_40 (fun h => ?_)
        exact wm_aret E hQ (rtR h) (rtM h) (Or.inl ⟨_, rfl⟩) (by decide) (by decide) dP_firstAround_43
def S_P_firstAround (v0 : Option Nat) (μ : Mem) : Option (Option Nat × Mem) := B_P_firstAround_2 fu v0 0 μ
set_option maxHeartbeats 4000000 in
set_option maxRecDepth 100000 in
theorem C_P_firstAround (l : Launch) (G : GG) (v0 : Option Nat) (μ μ' : Mem) (r : Option Nat) (h : S_P_firstAround v0 μ = some (r, μ')) : CT l G y_P_firstAround prog_1_method_38_code 2 (some (.object "PlaceFinder$Condition")) 3 0 0 64 μ [vR v0] (some (vR r)) μ' := by
  refine wm_met (lv := [(0, vR v0)]) (by decide +kernel) (Nat.le_of_ble_eq_true rfl) rfl (fun X E hQ hR hI => ?_)
  have h : (B_P_firstAround_2 fu v0 0 μ) = some (r, μ') := h
  refine wm_iconst (x := 0) E dP_firstAround_0 (by decide) ?_
  refine wm_istore_n (lv' := [(1, vI 0), (0, vR v0)]) E dP_firstAround_1 rfl (by decide) rfl ?_
  refine wm_pick (lv' := [(0, vR v0), (1, vI 0)]) [1, 0] rfl ?_
  exact w_P_firstAround_2 E hQ hR hI fu v0 0 μ h
def S_Hi_empty (v0 : Option Nat) (μ : Mem) : Option (Unit × Mem) := b1 (pV μ v0 4 2 (vI 0)) (fun m2 => some ((), m2))
set_option maxHeartbeats 4000000 in
set_option maxRecDepth 100000 in
theorem C_Hi_empty (l : Launch) (G : GG) (v0 : Option Nat) (μ μ' : Mem) (r : Unit) (h : S_Hi_empty v0 μ = some (r, μ')) : CT l G y_Hi_empty prog_5_method_2_code 1 none 0 0 0 0 μ [vR v0] none μ' := by
  refine wm_met (lv := [(0, vR v0)]) (by decide +kernel) (Nat.le_of_ble_eq_true rfl) rfl (fun X E hQ hR hI => ?_)
  have h : (b1 (pV μ v0 4 2 (vI 0)) (fun m2 => some ((), m2))) = some (r, μ') := h
  refine wm_aload_n E dHi_empty_0 rfl (j := 0) rfl ?_
  refine wm_iconst (x := 0) E dHi_empty_1 (by decide) ?_
  refine wm_pI E fp_Hi_19 (fun q => by cases q) h dHi_empty_2 (fun m2 h => ?_)
  exact wm_vret E hQ rfl (rtM h) (by decide) (by decide) dHi_empty_5
def B_Pl_shapeOn_37 (k4 : Option Nat → Int32 → Option Nat → Int32 → Mem → Option (Option Nat × Mem)) (v0 : Option Nat) (v1 : Int32) (v2 : Option Nat) (v3 : Int32) (μ : Mem) : Option (Option Nat × Mem) := k4 v0 v1 v2 (v3 + 1) μ
set_option maxHeartbeats 4000000 in
set_option maxRecDepth 100000 in
theorem w_Pl_shapeOn_37 {X : CX} (E : EV X prog_8_method_4_code 4 "PlaceFinder$Place" (some (.object "PlaceFinder$Corners"))) {μ0 μ' : Mem} {r : Option Nat} (hQ : RQ X 0 0 μ0 (some (vR r)) μ') (hR : xR X = { frames := 3, cells := 0, slots := 0, locals := 64 }) (hI : X.2.2.2.2.2.2.2.2.2.2.2.1.name = "shapeOn") (k4 : Option Nat → Int32 → Option Nat → Int32 → Mem → Option (Option Nat × Mem)) (hk4 : ∀ (v0 : Option Nat) (v1 : Int32) (v2 : Option Nat) (v3 : Int32) (μ : Mem), k4 v0 v1 v2 v3 μ = some (r, μ') → WM X 4 4 [(0, vR v0), (1, vI v1), (2, vR v2), (3, vI v3)] [] 0 0 μ) (v0 : Option Nat) (v1 : Int32) (v2 : Option Nat) (v3 : Int32) (μ : Mem) (h : B_Pl_shapeOn_37 k4 v0 v1 v2 v3 μ = some (r, μ')) : WM X 4 37 [(0, vR v0), (1, vI v1), (2, vR v2), (3, vI v3)] [] 0 0 μ := by
  have h : (k4 v0 v1 v2 (v3 + 1) μ) = some (r, μ') := h
  refine wm_iinc (lv' := [(3, vI (v3 + 1)), (0, vR v0), (1, vI v1), (2, vR v2)]) (d := 1) E dPl_shapeOn_37 (by decide) (j := 3) rfl (by decide) rfl ?_
  refine wm_goto (tgt := 4) E dPl_shapeOn_40 (by decide) ?_
  refine wm_pick (lv' := [(0, vR v0), (1, vI v1), (2, vR v2), (3, vI (v3 + 1))]) [1, 2, 3, 0] rfl ?_
  exact hk4 v0 v1 v2 (v3 + 1) μ h
def B_Pl_shapeOn_4  : Nat → Option Nat → Int32 → Option Nat → Int32 → Mem → Option (Option Nat × Mem)
  | 0, _, _, _, _, _ => none
  | n + 1, v0, v1, v2, v3, μ => b1 (gR μ v0 7 3) (fun x6 => b1 (rc μ x6 0) (fun _ => b2 (S_Al_size x6 μ) (fun x9 m9 => if x9 ≤ v3 then some (v2, m9) else b1 (gR m9 v0 7 4) (fun x16 => b1 (aI m9 x16 0 v3) (fun x20 => if v1 < x20 then B_Pl_shapeOn_37 (fun v0 v1 v2 v3 μ => B_Pl_shapeOn_4 n v0 v1 v2 v3 μ) v0 v1 v2 v3 m9 else b1 (gR m9 v0 7 3) (fun x26 => b1 (rc m9 x26 0) (fun _ => b2 (S_Al_get x26 v3 m9) (fun x30 m30 => b1 (cK m30 x30 2) (fun _ => B_Pl_shapeOn_37 (fun v0 v1 v2 v3 μ => B_Pl_shapeOn_4 n v0 v1 v2 v3 μ) v0 v1 x30 v3 m30)))))))))
set_option maxHeartbeats 4000000 in
set_option maxRecDepth 100000 in
theorem w_Pl_shapeOn_4 {X : CX} (E : EV X prog_8_method_4_code 4 "PlaceFinder$Place" (some (.object "PlaceFinder$Corners"))) {μ0 μ' : Mem} {r : Option Nat} (hQ : RQ X 0 0 μ0 (some (vR r)) μ') (hR : xR X = { frames := 3, cells := 0, slots := 0, locals := 64 }) (hI : X.2.2.2.2.2.2.2.2.2.2.2.1.name = "shapeOn")  (n : Nat) : ∀ (v0 : Option Nat) (v1 : Int32) (v2 : Option Nat) (v3 : Int32) (μ : Mem) (h : B_Pl_shapeOn_4  n v0 v1 v2 v3 μ = some (r, μ')), WM X 4 4 [(0, vR v0), (1, vI v1), (2, vR v2), (3, vI v3)] [] 0 0 μ := by
  induction n with
  | zero => intro v0 v1 v2 v3 μ h; cases h
  | succ n ih =>
    intro v0 v1 v2 v3 μ h
    have h : (b1 (gR μ v0 7 3) (fun x6 => b1 (rc μ x6 0) (fun _ => b2 (S_Al_size x6 μ) (fun x9 m9 => if x9 ≤ v3 then some (v2, m9) else b1 (gR m9 v0 7 4) (fun x16 => b1 (aI m9 x16 0 v3) (fun x20 => if v1 < x20 then B_Pl_shapeOn_37 (fun v0 v1 v2 v3 μ => B_Pl_shapeOn_4 n v0 v1 v2 v3 μ) v0 v1 v2 v3 m9 else b1 (gR m9 v0 7 3) (fun x26 => b1 (rc m9 x26 0) (fun _ => b2 (S_Al_get x26 v3 m9) (fun x30 m30 => b1 (cK m30 x30 2) (fun _ => B_Pl_shapeOn_37 (fun v0 v1 v2 v3 μ => B_Pl_shapeOn_4 n v0 v1 v2 v3 μ) v0 v1 x30 v3 m30)))))))))) = some (r, μ') := h
    refine wm_iload_n E dPl_shapeOn_4 rfl (j := 3) rfl ?_
    refine wm_aload_n E dPl_shapeOn_5 rfl (j := 0) rfl ?_
    refine wm_gR E fd_Pl_18 h dPl_shapeOn_6 (fun x6 h => ?_)
    obtain ⟨u9, hr9, h⟩ := b1S h
    obtain ⟨x9, m9, hc9, h⟩ := b2S h
    refine wm_cV (ci := 0) (As := []) (st := [vI v3]) E lk_Pl_38 rfl im_Al_size sl_Al_size hr9 (C_Al_size (xl X) X.1 x6 μ _ _ hc9) rfl rfl (by rw [hR]; decide) (by rw [hR]; decide) (Nat.le_of_ble_eq_true rfl) dPl_shapeOn_9 ?_
    refine wm_icmp_ge (tgt := 43) E dPl_shapeOn_12 (by decide) (fun c12 => ?_) (fun c12 => ?_)
    · have h := (if_pos c12).symm.trans h
      refine wm_aload_n E dPl_shapeOn_43 rfl (j := 2) rfl ?_
      exact wm_aret E hQ (rtR h) (rtM h) (Or.inl ⟨_, rfl⟩) (by decide) (by decide) dPl_shapeOn_44
    · have h := (if_neg c12).symm.trans h
      refine wm_aload_n E dPl_shapeOn_15 rfl (j := 0) rfl ?_
      refine wm_gR E fd_Pl_22 h dPl_shapeOn_16 (fun x16 h => ?_)
      refine wm_iload_n E dPl_shapeOn_19 rfl (j := 3) rfl ?_
      refine wm_iald (t := 0) E rfl h dPl_shapeOn_20 (fun x20 h => ?_)
      refine wm_iload_n E dPl_shapeOn_21 rfl (j := 1) rfl ?_
      refine wm_icmp_gt (tgt := 37) E dPl_shapeOn_22 (by decide) (fun c22 => ?_) (fun c22 => ?_)
      · have h := (if_pos c22).symm.trans h
        refine wm_pick (lv' := [(0, vR v0), (1, vI v1), (2, vR v2), (3, vI v3)]) [0, 1, 2, 3] rfl ?_
        exact w_Pl_shapeOn_37 E hQ hR hI (fun v0 v1 v2 v3 μ => B_Pl_shapeOn_4 n v0 v1 v2 v3 μ) ih v0 v1 v2 v3 m9 h
      · have h := (if_neg c22).symm.trans h
        refine wm_aload_n E dPl_shapeOn_25 rfl (j := 0) rfl ?_
        refine wm_gR E fd_Pl_18 h dPl_shapeOn_26 (fun x26 h => ?_)
        refine wm_iload_n E dPl_shapeOn_29 rfl (j := 3) rfl ?_
        obtain ⟨u30, hr30, h⟩ := b1S h
        obtain ⟨x30, m30, hc30, h⟩ := b2S h
        refine wm_cV (ci := 0) (As := [vI v3]) (st := []) E lk_Pl_46 rfl im_Al_get sl_Al_get hr30 (C_Al_get (xl X) X.1 x26 v3 m9 _ _ hc30) rfl rfl (by rw [hR]; decide) (by rw [hR]; decide) (Nat.le_of_ble_eq_true rfl) dPl_shapeOn_30 ?_
        refine wm_ckc (ci := 2) E rfl cl_Pl_50 h dPl_shapeOn_33 (fun h => ?_)
        refine wm_astore_n (lv' := [(2, vR x30), (0, vR v0), (1, vI v1), (3, vI v3)]) E dPl_shapeOn_36 rfl (by decide) rfl ?_
        refine wm_pick (lv' := [(0, vR v0), (1, vI v1), (2, vR x30), (3, vI v3)]) [1, 2, 0, 3] rfl ?_
        exact w_Pl_shapeOn_37 E hQ hR hI (fun v0 v1 v2 v3 μ => B_Pl_shapeOn_4 n v0 v1 v2 v3 μ) ih v0 v1 x30 v3 m30 h
def S_Pl_shapeOn (v0 : Option Nat) (v1 : Int32) (μ : Mem) : Option (Option Nat × Mem) := B_Pl_shapeOn_4 fu v0 v1 none 0 μ
set_option maxHeartbeats 4000000 in
set_option maxRecDepth 100000 in
theorem C_Pl_shapeOn (l : Launch) (G : GG) (v0 : Option Nat) (v1 : Int32) (μ μ' : Mem) (r : Option Nat) (h : S_Pl_shapeOn v0 v1 μ = some (r, μ')) : CT l G y_Pl_shapeOn prog_8_method_4_code 4 (some (.object "PlaceFinder$Corners")) 3 0 0 64 μ [vR v0, vI v1] (some (vR r)) μ' := by
  refine wm_met (lv := [(0, vR v0), (1, vI v1)]) (by decide +kernel) (Nat.le_of_ble_eq_true rfl) rfl (fun X E hQ hR hI => ?_)
  have h : (B_Pl_shapeOn_4 fu v0 v1 none 0 μ) = some (r, μ') := h
  refine wm_null E dPl_shapeOn_0 ?_
  refine wm_astore_n (lv' := [(2, vR none), (0, vR v0), (1, vI v1)]) E dPl_shapeOn_1 rfl (by decide) rfl ?_
  refine wm_iconst (x := 0) E dPl_shapeOn_2 (by decide) ?_
  refine wm_istore_n (lv' := [(3, vI 0), (2, vR none), (0, vR v0), (1, vI v1)]) E dPl_shapeOn_3 rfl (by decide) rfl ?_
  refine wm_pick (lv' := [(0, vR v0), (1, vI v1), (2, vR none), (3, vI 0)]) [2, 3, 1, 0] rfl ?_
  exact w_Pl_shapeOn_4 E hQ hR hI fu v0 v1 none 0 μ h
def B_Co_isInBox_83  (s0 : Int32) (μ : Mem) : Option (Int32 × Mem) := gd (¬ okZ s0 = true) (some (s0, μ))
set_option maxHeartbeats 4000000 in
set_option maxRecDepth 100000 in
theorem w_Co_isInBox_83 {X : CX} (E : EV X prog_3_method_10_code 5 "PlaceFinder$Corners" (some .boolean)) {μ0 μ' : Mem} {r : Int32} (hQ : RQ X 0 0 μ0 (some (vI r)) μ') (hR : xR X = { frames := 1, cells := 0, slots := 0, locals := 21 }) (hI : X.2.2.2.2.2.2.2.2.2.2.2.1.name = "isInBox")  (s0 : Int32) (μ : Mem) (h : B_Co_isInBox_83  s0 μ = some (r, μ')) : WM X 5 83 [] [vI s0] 0 0 μ := by
  have h : (gd (¬ okZ s0 = true) (some (s0, μ))) = some (r, μ') := h
  obtain ⟨hz83, h⟩ := gdS h
  exact wm_zret (rt := .boolean) E hQ (rtI h) (rtM h) (okZN hz83) (by decide) (by decide) dCo_isInBox_83
def B_Co_isInBox_82   (μ : Mem) : Option (Int32 × Mem) := B_Co_isInBox_83 0 μ
set_option maxHeartbeats 4000000 in
set_option maxRecDepth 100000 in
theorem w_Co_isInBox_82 {X : CX} (E : EV X prog_3_method_10_code 5 "PlaceFinder$Corners" (some .boolean)) {μ0 μ' : Mem} {r : Int32} (hQ : RQ X 0 0 μ0 (some (vI r)) μ') (hR : xR X = { frames := 1, cells := 0, slots := 0, locals := 21 }) (hI : X.2.2.2.2.2.2.2.2.2.2.2.1.name = "isInBox")   (μ : Mem) (h : B_Co_isInBox_82   μ = some (r, μ')) : WM X 5 82 [] [] 0 0 μ := by
  have h : (B_Co_isInBox_83 0 μ) = some (r, μ') := h
  refine wm_iconst (x := 0) E dCo_isInBox_82 (by decide) ?_
  refine wm_pick (lv' := []) [] rfl ?_
  exact w_Co_isInBox_83 E hQ hR hI 0 μ h
def S_Co_isInBox (v0 : Option Nat) (v1 : Int32) (v2 : Int32) (v3 : Int32) (v4 : Int32) (μ : Mem) : Option (Int32 × Mem) := b1 (gR μ v0 2 1) (fun x2 => b1 (aI μ x2 0 v1) (fun x6 => b1 (gR μ v0 2 1) (fun x8 => b1 (aI μ x8 0 v2) (fun x12 => b2 (S_Ma_min x6 x12 μ) (fun x13 m13 => if v3 < x13 then B_Co_isInBox_82 m13 else b1 (gR m13 v0 2 1) (fun x21 => b1 (aI m13 x21 0 v1) (fun x25 => b1 (gR m13 v0 2 1) (fun x27 => b1 (aI m13 x27 0 v2) (fun x31 => b2 (S_Ma_max x25 x31 m13) (fun x32 m32 => if x32 < v3 then B_Co_isInBox_82 m32 else b1 (gR m32 v0 2 2) (fun x41 => b1 (aI m32 x41 0 v1) (fun x45 => b1 (gR m32 v0 2 2) (fun x47 => b1 (aI m32 x47 0 v2) (fun x51 => b2 (S_Ma_min x45 x51 m32) (fun x52 m52 => if v4 < x52 then B_Co_isInBox_82 m52 else b1 (gR m52 v0 2 2) (fun x61 => b1 (aI m52 x61 0 v1) (fun x65 => b1 (gR m52 v0 2 2) (fun x67 => b1 (aI m52 x67 0 v2) (fun x71 => b2 (S_Ma_max x65 x71 m52) (fun x72 m72 => if x72 < v4 then B_Co_isInBox_82 m72 else B_Co_isInBox_83 1 m72))))))))))))))))))))
set_option maxHeartbeats 4000000 in
set_option maxRecDepth 100000 in
theorem C_Co_isInBox (l : Launch) (G : GG) (v0 : Option Nat) (v1 : Int32) (v2 : Int32) (v3 : Int32) (v4 : Int32) (μ μ' : Mem) (r : Int32) (h : S_Co_isInBox v0 v1 v2 v3 v4 μ = some (r, μ')) : CT l G y_Co_isInBox prog_3_method_10_code 5 (some .boolean) 1 0 0 21 μ [vR v0, vI v1, vI v2, vI v3, vI v4] (some (vI r)) μ' := by
  refine wm_met (lv := [(0, vR v0), (1, vI v1), (2, vI v2), (3, vI v3), (4, vI v4)]) (by decide +kernel) (Nat.le_of_ble_eq_true rfl) rfl (fun X E hQ hR hI => ?_)
  have h : (b1 (gR μ v0 2 1) (fun x2 => b1 (aI μ x2 0 v1) (fun x6 => b1 (gR μ v0 2 1) (fun x8 => b1 (aI μ x8 0 v2) (fun x12 => b2 (S_Ma_min x6 x12 μ) (fun x13 m13 => if v3 < x13 then B_Co_isInBox_82 m13 else b1 (gR m13 v0 2 1) (fun x21 => b1 (aI m13 x21 0 v1) (fun x25 => b1 (gR m13 v0 2 1) (fun x27 => b1 (aI m13 x27 0 v2) (fun x31 => b2 (S_Ma_max x25 x31 m13) (fun x32 m32 => if x32 < v3 then B_Co_isInBox_82 m32 else b1 (gR m32 v0 2 2) (fun x41 => b1 (aI m32 x41 0 v1) (fun x45 => b1 (gR m32 v0 2 2) (fun x47 => b1 (aI m32 x47 0 v2) (fun x51 => b2 (S_Ma_min x45 x51 m32) (fun x52 m52 => if v4 < x52 then B_Co_isInBox_82 m52 else b1 (gR m52 v0 2 2) (fun x61 => b1 (aI m52 x61 0 v1) (fun x65 => b1 (gR m52 v0 2 2) (fun x67 => b1 (aI m52 x67 0 v2) (fun x71 => b2 (S_Ma_max x65 x71 m52) (fun x72 m72 => if x72 < v4 then B_Co_isInBox_82 m72 else B_Co_isInBox_83 1 m72))))))))))))))))))))) = some (r, μ') := h
  refine wm_iload_n E dCo_isInBox_0 rfl (j := 3) rfl ?_
  refine wm_aload_n E dCo_isInBox_1 rfl (j := 0) rfl ?_
  refine wm_gR E fd_Co_21 h dCo_isInBox_2 (fun x2 h => ?_)
  refine wm_iload_n E dCo_isInBox_5 rfl (j := 1) rfl ?_
  refine wm_iald (t := 0) E rfl h dCo_isInBox_6 (fun x6 h => ?_)
  refine wm_aload_n E dCo_isInBox_7 rfl (j := 0) rfl ?_
  refine wm_gR E fd_Co_21 h dCo_isInBox_8 (fun x8 h => ?_)
  refine wm_iload_n E dCo_isInBox_11 rfl (j := 2) rfl ?_
  refine wm_iald (t := 0) E rfl h dCo_isInBox_12 (fun x12 h => ?_)
  obtain ⟨x13, m13, hc13, h⟩ := b2S h
  refine wm_cS (As := [vI x6, vI x12]) (st := [vI v3]) E lk_Co_41 sc_Ma_min (C_Ma_min (xl X) X.1 x6 x12 μ _ _ hc13) rfl rfl (by rw [hR]; decide) (by rw [hR]; decide) (Nat.le_of_ble_eq_true rfl) dCo_isInBox_13 ?_
  refine wm_icmp_lt (tgt := 82) E dCo_isInBox_16 (by decide) (fun c16 => ?_) (fun c16 => ?_)
  · have h := (if_pos c16).symm.trans h
    refine wm_pick (lv' := []) [] rfl ?_
    exact w_Co_isInBox_82 E hQ hR hI m13 h
  · have h := (if_neg c16).symm.trans h
    refine wm_iload_n E dCo_isInBox_19 rfl (j := 3) rfl ?_
    refine wm_aload_n E dCo_isInBox_20 rfl (j := 0) rfl ?_
    refine wm_gR E fd_Co_21 h dCo_isInBox_21 (fun x21 h => ?_)
    refine wm_iload_n E dCo_isInBox_24 rfl (j := 1) rfl ?_
    refine wm_iald (t := 0) E rfl h dCo_isInBox_25 (fun x25 h => ?_)
    refine wm_aload_n E dCo_isInBox_26 rfl (j := 0) rfl ?_
    refine wm_gR E fd_Co_21 h dCo_isInBox_27 (fun x27 h => ?_)
    refine wm_iload_n E dCo_isInBox_30 rfl (j := 2) rfl ?_
    refine wm_iald (t := 0) E rfl h dCo_isInBox_31 (fun x31 h => ?_)
    obtain ⟨x32, m32, hc32, h⟩ := b2S h
    refine wm_cS (As := [vI x25, vI x31]) (st := [vI v3]) E lk_Co_55 sc_Ma_max (C_Ma_max (xl X) X.1 x25 x31 m13 _ _ hc32) rfl rfl (by rw [hR]; decide) (by rw [hR]; decide) (Nat.le_of_ble_eq_true rfl) dCo_isInBox_32 ?_
    refine wm_icmp_gt (tgt := 82) E dCo_isInBox_35 (by decide) (fun c35 => ?_) (fun c35 => ?_)
    · have h := (if_pos c35).symm.trans h
      refine wm_pick (lv' := []) [] rfl ?_
      exact w_Co_isInBox_82 E hQ hR hI m32 h
    · have h := (if_neg c35).symm.trans h
      refine wm_iload E dCo_isInBox_38 (j := 4) rfl ?_
      refine wm_aload_n E dCo_isInBox_40 rfl (j := 0) rfl ?_
      refine wm_gR E fd_Co_25 h dCo_isInBox_41 (fun x41 h => ?_)
      refine wm_iload_n E dCo_isInBox_44 rfl (j := 1) rfl ?_
      refine wm_iald (t := 0) E rfl h dCo_isInBox_45 (fun x45 h => ?_)
      refine wm_aload_n E dCo_isInBox_46 rfl (j := 0) rfl ?_
      refine wm_gR E fd_Co_25 h dCo_isInBox_47 (fun x47 h => ?_)
      refine wm_iload_n E dCo_isInBox_50 rfl (j := 2) rfl ?_
      refine wm_iald (t := 0) E rfl h dCo_isInBox_51 (fun x51 h => ?_)
      obtain ⟨x52, m52, hc52, h⟩ := b2S h
      refine wm_cS (As := [vI x45, vI x51]) (st := [vI v4]) E lk_Co_41 sc_Ma_min (C_Ma_min (xl X) X.1 x45 x51 m32 _ _ hc52) rfl rfl (by rw [hR]; decide) (by rw [hR]; decide) (Nat.le_of_ble_eq_true rfl) dCo_isInBox_52 ?_
      refine wm_icmp_lt (tgt := 82) E dCo_isInBox_55 (by decide) (fun c55 => ?_) (fun c55 => ?_)
      · have h := (if_pos c55).symm.trans h
        refine wm_pick (lv' := []) [] rfl ?_
        exact w_Co_isInBox_82 E hQ hR hI m52 h
      · have h := (if_neg c55).symm.trans h
        refine wm_iload E dCo_isInBox_58 (j := 4) rfl ?_
        refine wm_aload_n E dCo_isInBox_60 rfl (j := 0) rfl ?_
        refine wm_gR E fd_Co_25 h dCo_isInBox_61 (fun x61 h => ?_)
        refine wm_iload_n E dCo_isInBox_64 rfl (j := 1) rfl ?_
        refine wm_iald (t := 0) E rfl h dCo_isInBox_65 (fun x65 h => ?_)
        refine wm_aload_n E dCo_isInBox_66 rfl (j := 0) rfl ?_
        refine wm_gR E fd_Co_25 h dCo_isInBox_67 (fun x67 h => ?_)
        refine wm_iload_n E dCo_isInBox_70 rfl (j := 2) rfl ?_
        refine wm_iald (t := 0) E rfl h dCo_isInBox_71 (fun x71 h => ?_)
        obtain ⟨x72, m72, hc72, h⟩ := b2S h
        refine wm_cS (As := [vI x65, vI x71]) (st := [vI v4]) E lk_Co_55 sc_Ma_max (C_Ma_max (xl X) X.1 x65 x71 m52 _ _ hc72) rfl rfl (by rw [hR]; decide) (by rw [hR]; decide) (Nat.le_of_ble_eq_true rfl) dCo_isInBox_72 ?_
        refine wm_icmp_gt (tgt := 82) E dCo_isInBox_75 (by decide) (fun c75 => ?_) (fun c75 => ?_)
        · have h := (if_pos c75).symm.trans h
          refine wm_pick (lv' := []) [] rfl ?_
          exact w_Co_isInBox_82 E hQ hR hI m72 h
        · have h := (if_neg c75).symm.trans h
          refine wm_iconst (x := 1) E dCo_isInBox_78 (by decide) ?_
          refine wm_goto (tgt := 83) E dCo_isInBox_79 (by decide) ?_
          refine wm_pick (lv' := []) [] rfl ?_
          exact w_Co_isInBox_83 E hQ hR hI 1 m72 h
def B_Co_hasInside_179 (k5 : Option Nat → Int32 → Int32 → Int32 → Int32 → Mem → Option (Int32 × Mem)) (v0 : Option Nat) (v1 : Int32) (v2 : Int32) (v3 : Int32) (v4 : Int32) (μ : Mem) : Option (Int32 × Mem) := k5 v0 v1 v2 v3 (v4 + 1) μ
set_option maxHeartbeats 4000000 in
set_option maxRecDepth 100000 in
theorem w_Co_hasInside_179 {X : CX} (E : EV X prog_3_method_9_code 8 "PlaceFinder$Corners" (some .boolean)) {μ0 μ' : Mem} {r : Int32} (hQ : RQ X 0 0 μ0 (some (vI r)) μ') (hR : xR X = { frames := 2, cells := 0, slots := 0, locals := 45 }) (hI : X.2.2.2.2.2.2.2.2.2.2.2.1.name = "hasInside") (k5 : Option Nat → Int32 → Int32 → Int32 → Int32 → Mem → Option (Int32 × Mem)) (hk5 : ∀ (v0 : Option Nat) (v1 : Int32) (v2 : Int32) (v3 : Int32) (v4 : Int32) (μ : Mem), k5 v0 v1 v2 v3 v4 μ = some (r, μ') → WM X 8 5 [(0, vR v0), (1, vI v1), (2, vI v2), (3, vI v3), (4, vI v4)] [] 0 0 μ) (v0 : Option Nat) (v1 : Int32) (v2 : Int32) (v3 : Int32) (v4 : Int32) (μ : Mem) (h : B_Co_hasInside_179 k5 v0 v1 v2 v3 v4 μ = some (r, μ')) : WM X 8 179 [(0, vR v0), (1, vI v1), (2, vI v2), (3, vI v3), (4, vI v4)] [] 0 0 μ := by
  have h : (k5 v0 v1 v2 v3 (v4 + 1) μ) = some (r, μ') := h
  refine wm_iinc (lv' := [(4, vI (v4 + 1)), (0, vR v0), (1, vI v1), (2, vI v2), (3, vI v3)]) (d := 1) E dCo_hasInside_179 (by decide) (j := 4) rfl (by decide) rfl ?_
  refine wm_goto (tgt := 5) E dCo_hasInside_182 (by decide) ?_
  refine wm_pick (lv' := [(0, vR v0), (1, vI v1), (2, vI v2), (3, vI v3), (4, vI (v4 + 1))]) [1, 2, 3, 4, 0] rfl ?_
  exact hk5 v0 v1 v2 v3 (v4 + 1) μ h
def B_Co_hasInside_178 (k5 : Option Nat → Int32 → Int32 → Int32 → Int32 → Mem → Option (Int32 × Mem)) (v0 : Option Nat) (v1 : Int32) (v2 : Int32) (v4 : Int32) (s0 : Int32) (μ : Mem) : Option (Int32 × Mem) := B_Co_hasInside_179 k5 v0 v1 v2 s0 v4 μ
set_option maxHeartbeats 4000000 in
set_option maxRecDepth 100000 in
theorem w_Co_hasInside_178 {X : CX} (E : EV X prog_3_method_9_code 8 "PlaceFinder$Corners" (some .boolean)) {μ0 μ' : Mem} {r : Int32} (hQ : RQ X 0 0 μ0 (some (vI r)) μ') (hR : xR X = { frames := 2, cells := 0, slots := 0, locals := 45 }) (hI : X.2.2.2.2.2.2.2.2.2.2.2.1.name = "hasInside") (k5 : Option Nat → Int32 → Int32 → Int32 → Int32 → Mem → Option (Int32 × Mem)) (hk5 : ∀ (v0 : Option Nat) (v1 : Int32) (v2 : Int32) (v3 : Int32) (v4 : Int32) (μ : Mem), k5 v0 v1 v2 v3 v4 μ = some (r, μ') → WM X 8 5 [(0, vR v0), (1, vI v1), (2, vI v2), (3, vI v3), (4, vI v4)] [] 0 0 μ) (v0 : Option Nat) (v1 : Int32) (v2 : Int32) (v4 : Int32) (s0 : Int32) (μ : Mem) (h : B_Co_hasInside_178 k5 v0 v1 v2 v4 s0 μ = some (r, μ')) : WM X 8 178 [(0, vR v0), (1, vI v1), (2, vI v2), (4, vI v4)] [vI s0] 0 0 μ := by
  have h : (B_Co_hasInside_179 k5 v0 v1 v2 s0 v4 μ) = some (r, μ') := h
  refine wm_istore_n (lv' := [(3, vI s0), (0, vR v0), (1, vI v1), (2, vI v2), (4, vI v4)]) E dCo_hasInside_178 rfl (by decide) rfl ?_
  refine wm_pick (lv' := [(0, vR v0), (1, vI v1), (2, vI v2), (3, vI s0), (4, vI v4)]) [1, 2, 3, 0, 4] rfl ?_
  exact w_Co_hasInside_179 E hQ hR hI k5 hk5 v0 v1 v2 s0 v4 μ h
def B_Co_hasInside_164 (k5 : Option Nat → Int32 → Int32 → Int32 → Int32 → Mem → Option (Int32 × Mem)) (v0 : Option Nat) (v1 : Int32) (v2 : Int32) (v3 : Int32) (v4 : Int32) (v7 : Int32) (s0 : Int32) (μ : Mem) : Option (Int32 × Mem) := if s0 = v7 then if v3 = 0 then B_Co_hasInside_178 k5 v0 v1 v2 v4 1 μ else B_Co_hasInside_178 k5 v0 v1 v2 v4 0 μ else B_Co_hasInside_179 k5 v0 v1 v2 v3 v4 μ
set_option maxHeartbeats 4000000 in
set_option maxRecDepth 100000 in
theorem w_Co_hasInside_164 {X : CX} (E : EV X prog_3_method_9_code 8 "PlaceFinder$Corners" (some .boolean)) {μ0 μ' : Mem} {r : Int32} (hQ : RQ X 0 0 μ0 (some (vI r)) μ') (hR : xR X = { frames := 2, cells := 0, slots := 0, locals := 45 }) (hI : X.2.2.2.2.2.2.2.2.2.2.2.1.name = "hasInside") (k5 : Option Nat → Int32 → Int32 → Int32 → Int32 → Mem → Option (Int32 × Mem)) (hk5 : ∀ (v0 : Option Nat) (v1 : Int32) (v2 : Int32) (v3 : Int32) (v4 : Int32) (μ : Mem), k5 v0 v1 v2 v3 v4 μ = some (r, μ') → WM X 8 5 [(0, vR v0), (1, vI v1), (2, vI v2), (3, vI v3), (4, vI v4)] [] 0 0 μ) (v0 : Option Nat) (v1 : Int32) (v2 : Int32) (v3 : Int32) (v4 : Int32) (v7 : Int32) (s0 : Int32) (μ : Mem) (h : B_Co_hasInside_164 k5 v0 v1 v2 v3 v4 v7 s0 μ = some (r, μ')) : WM X 8 164 [(0, vR v0), (1, vI v1), (2, vI v2), (3, vI v3), (4, vI v4), (7, vI v7)] [vI s0] 0 0 μ := by
  have h : (if s0 = v7 then if v3 = 0 then B_Co_hasInside_178 k5 v0 v1 v2 v4 1 μ else B_Co_hasInside_178 k5 v0 v1 v2 v4 0 μ else B_Co_hasInside_179 k5 v0 v1 v2 v3 v4 μ) = some (r, μ') := h
  refine wm_iload E dCo_hasInside_164 (j := 5) rfl ?_
  refine wm_icmp_ne (tgt := 179) E dCo_hasInside_166 (by decide) (fun c166 => ?_) (fun c166 => ?_)
  · have h := (if_neg c166).symm.trans h
    refine wm_pick (lv' := [(0, vR v0), (1, vI v1), (2, vI v2), (3, vI v3), (4, vI v4)]) [0, 1, 2, 3, 4] rfl ?_
    exact w_Co_hasInside_179 E hQ hR hI k5 hk5 v0 v1 v2 v3 v4 μ h
  · have h := (if_pos c166).symm.trans h
    refine wm_iload_n E dCo_hasInside_169 rfl (j := 3) rfl ?_
    refine wm_if_ne (tgt := 177) E dCo_hasInside_170 (by decide) (fun c170 => ?_) (fun c170 => ?_)
    · have h := (if_neg c170).symm.trans h
      refine wm_iconst (x := 0) E dCo_hasInside_177 (by decide) ?_
      refine wm_pick (lv' := [(0, vR v0), (1, vI v1), (2, vI v2), (4, vI v4)]) [0, 1, 2, 4] rfl ?_
      exact w_Co_hasInside_178 E hQ hR hI k5 hk5 v0 v1 v2 v4 0 μ h
    · have h := (if_pos c170).symm.trans h
      refine wm_iconst (x := 1) E dCo_hasInside_173 (by decide) ?_
      refine wm_goto (tgt := 178) E dCo_hasInside_174 (by decide) ?_
      refine wm_pick (lv' := [(0, vR v0), (1, vI v1), (2, vI v2), (4, vI v4)]) [0, 1, 2, 4] rfl ?_
      exact w_Co_hasInside_178 E hQ hR hI k5 hk5 v0 v1 v2 v4 1 μ h
def B_Co_hasInside_151 (k5 : Option Nat → Int32 → Int32 → Int32 → Int32 → Mem → Option (Int32 × Mem)) (v0 : Option Nat) (v1 : Int32) (v2 : Int32) (v3 : Int32) (v4 : Int32) (v6 : Int32) (v7 : Int32) (s0 : Int32) (s1 : Int32) (μ : Mem) : Option (Int32 × Mem) := if s0 = s1 then B_Co_hasInside_179 k5 v0 v1 v2 v3 v4 μ else if v6 ≤ 0 then B_Co_hasInside_164 k5 v0 v1 v2 v3 v4 v7 0 μ else B_Co_hasInside_164 k5 v0 v1 v2 v3 v4 v7 1 μ
set_option maxHeartbeats 4000000 in
set_option maxRecDepth 100000 in
theorem w_Co_hasInside_151 {X : CX} (E : EV X prog_3_method_9_code 8 "PlaceFinder$Corners" (some .boolean)) {μ0 μ' : Mem} {r : Int32} (hQ : RQ X 0 0 μ0 (some (vI r)) μ') (hR : xR X = { frames := 2, cells := 0, slots := 0, locals := 45 }) (hI : X.2.2.2.2.2.2.2.2.2.2.2.1.name = "hasInside") (k5 : Option Nat → Int32 → Int32 → Int32 → Int32 → Mem → Option (Int32 × Mem)) (hk5 : ∀ (v0 : Option Nat) (v1 : Int32) (v2 : Int32) (v3 : Int32) (v4 : Int32) (μ : Mem), k5 v0 v1 v2 v3 v4 μ = some (r, μ') → WM X 8 5 [(0, vR v0), (1, vI v1), (2, vI v2), (3, vI v3), (4, vI v4)] [] 0 0 μ) (v0 : Option Nat) (v1 : Int32) (v2 : Int32) (v3 : Int32) (v4 : Int32) (v6 : Int32) (v7 : Int32) (s0 : Int32) (s1 : Int32) (μ : Mem) (h : B_Co_hasInside_151 k5 v0 v1 v2 v3 v4 v6 v7 s0 s1 μ = some (r, μ')) : WM X 8 151 [(0, vR v0), (1, vI v1), (2, vI v2), (3, vI v3), (4, vI v4), (6, vI v6), (7, vI v7)] [vI s1, vI s0] 0 0 μ := by
  have h : (if s0 = s1 then B_Co_hasInside_179 k5 v0 v1 v2 v3 v4 μ else if v6 ≤ 0 then B_Co_hasInside_164 k5 v0 v1 v2 v3 v4 v7 0 μ else B_Co_hasInside_164 k5 v0 v1 v2 v3 v4 v7 1 μ) = some (r, μ') := h
  refine wm_icmp_eq (tgt := 179) E dCo_hasInside_151 (by decide) (fun c151 => ?_) (fun c151 => ?_)
  · have h := (if_pos c151).symm.trans h
    refine wm_pick (lv' := [(0, vR v0), (1, vI v1), (2, vI v2), (3, vI v3), (4, vI v4)]) [0, 1, 2, 3, 4] rfl ?_
    exact w_Co_hasInside_179 E hQ hR hI k5 hk5 v0 v1 v2 v3 v4 μ h
  · have h := (if_neg c151).symm.trans h
    refine wm_iload E dCo_hasInside_154 (j := 5) rfl ?_
    refine wm_if_le (tgt := 163) E dCo_hasInside_156 (by decide) (fun c156 => ?_) (fun c156 => ?_)
    · have h := (if_pos c156).symm.trans h
      refine wm_iconst (x := 0) E dCo_hasInside_163 (by decide) ?_
      refine wm_pick (lv' := [(0, vR v0), (1, vI v1), (2, vI v2), (3, vI v3), (4, vI v4), (7, vI v7)]) [0, 1, 2, 3, 4, 6] rfl ?_
      exact w_Co_hasInside_164 E hQ hR hI k5 hk5 v0 v1 v2 v3 v4 v7 0 μ h
    · have h := (if_neg c156).symm.trans h
      refine wm_iconst (x := 1) E dCo_hasInside_159 (by decide) ?_
      refine wm_goto (tgt := 164) E dCo_hasInside_160 (by decide) ?_
      refine wm_pick (lv' := [(0, vR v0), (1, vI v1), (2, vI v2), (3, vI v3), (4, vI v4), (7, vI v7)]) [0, 1, 2, 3, 4, 6] rfl ?_
      exact w_Co_hasInside_164 E hQ hR hI k5 hk5 v0 v1 v2 v3 v4 v7 1 μ h
def B_Co_hasInside_135 (k5 : Option Nat → Int32 → Int32 → Int32 → Int32 → Mem → Option (Int32 × Mem)) (v0 : Option Nat) (v1 : Int32) (v2 : Int32) (v3 : Int32) (v4 : Int32) (v5 : Int32) (v6 : Int32) (v7 : Int32) (s0 : Int32) (μ : Mem) : Option (Int32 × Mem) := b1 (gR μ v0 2 2) (fun x136 => b1 (aI μ x136 0 v5) (fun x141 => if x141 ≤ v2 then B_Co_hasInside_151 k5 v0 v1 v2 v3 v4 v6 v7 s0 0 μ else B_Co_hasInside_151 k5 v0 v1 v2 v3 v4 v6 v7 s0 1 μ))
set_option maxHeartbeats 4000000 in
set_option maxRecDepth 100000 in
theorem w_Co_hasInside_135 {X : CX} (E : EV X prog_3_method_9_code 8 "PlaceFinder$Corners" (some .boolean)) {μ0 μ' : Mem} {r : Int32} (hQ : RQ X 0 0 μ0 (some (vI r)) μ') (hR : xR X = { frames := 2, cells := 0, slots := 0, locals := 45 }) (hI : X.2.2.2.2.2.2.2.2.2.2.2.1.name = "hasInside") (k5 : Option Nat → Int32 → Int32 → Int32 → Int32 → Mem → Option (Int32 × Mem)) (hk5 : ∀ (v0 : Option Nat) (v1 : Int32) (v2 : Int32) (v3 : Int32) (v4 : Int32) (μ : Mem), k5 v0 v1 v2 v3 v4 μ = some (r, μ') → WM X 8 5 [(0, vR v0), (1, vI v1), (2, vI v2), (3, vI v3), (4, vI v4)] [] 0 0 μ) (v0 : Option Nat) (v1 : Int32) (v2 : Int32) (v3 : Int32) (v4 : Int32) (v5 : Int32) (v6 : Int32) (v7 : Int32) (s0 : Int32) (μ : Mem) (h : B_Co_hasInside_135 k5 v0 v1 v2 v3 v4 v5 v6 v7 s0 μ = some (r, μ')) : WM X 8 135 [(0, vR v0), (1, vI v1), (2, vI v2), (3, vI v3), (4, vI v4), (5, vI v5), (6, vI v6), (7, vI v7)] [vI s0] 0 0 μ := by
  have h : (b1 (gR μ v0 2 2) (fun x136 => b1 (aI μ x136 0 v5) (fun x141 => if x141 ≤ v2 then B_Co_hasInside_151 k5 v0 v1 v2 v3 v4 v6 v7 s0 0 μ else B_Co_hasInside_151 k5 v0 v1 v2 v3 v4 v6 v7 s0 1 μ))) = some (r, μ') := h
  refine wm_aload_n E dCo_hasInside_135 rfl (j := 0) rfl ?_
  refine wm_gR E fd_Co_25 h dCo_hasInside_136 (fun x136 h => ?_)
  refine wm_iload E dCo_hasInside_139 (j := 5) rfl ?_
  refine wm_iald (t := 0) E rfl h dCo_hasInside_141 (fun x141 h => ?_)
  refine wm_iload_n E dCo_hasInside_142 rfl (j := 2) rfl ?_
  refine wm_icmp_le (tgt := 150) E dCo_hasInside_143 (by decide) (fun c143 => ?_) (fun c143 => ?_)
  · have h := (if_pos c143).symm.trans h
    refine wm_iconst (x := 0) E dCo_hasInside_150 (by decide) ?_
    refine wm_pick (lv' := [(0, vR v0), (1, vI v1), (2, vI v2), (3, vI v3), (4, vI v4), (6, vI v6), (7, vI v7)]) [0, 1, 2, 3, 4, 6, 7] rfl ?_
    exact w_Co_hasInside_151 E hQ hR hI k5 hk5 v0 v1 v2 v3 v4 v6 v7 s0 0 μ h
  · have h := (if_neg c143).symm.trans h
    refine wm_iconst (x := 1) E dCo_hasInside_146 (by decide) ?_
    refine wm_goto (tgt := 151) E dCo_hasInside_147 (by decide) ?_
    refine wm_pick (lv' := [(0, vR v0), (1, vI v1), (2, vI v2), (3, vI v3), (4, vI v4), (6, vI v6), (7, vI v7)]) [0, 1, 2, 3, 4, 6, 7] rfl ?_
    exact w_Co_hasInside_151 E hQ hR hI k5 hk5 v0 v1 v2 v3 v4 v6 v7 s0 1 μ h
def B_Co_hasInside_117 (k5 : Option Nat → Int32 → Int32 → Int32 → Int32 → Mem → Option (Int32 × Mem)) (v0 : Option Nat) (v1 : Int32) (v2 : Int32) (v3 : Int32) (v4 : Int32) (v5 : Int32) (v6 : Int32) (s0 : Int32) (μ : Mem) : Option (Int32 × Mem) := b1 (gR μ v0 2 2) (fun x120 => b1 (aI μ x120 0 v4) (fun x125 => if x125 ≤ v2 then B_Co_hasInside_135 k5 v0 v1 v2 v3 v4 v5 v6 s0 0 μ else B_Co_hasInside_135 k5 v0 v1 v2 v3 v4 v5 v6 s0 1 μ))
set_option maxHeartbeats 4000000 in
set_option maxRecDepth 100000 in
theorem w_Co_hasInside_117 {X : CX} (E : EV X prog_3_method_9_code 8 "PlaceFinder$Corners" (some .boolean)) {μ0 μ' : Mem} {r : Int32} (hQ : RQ X 0 0 μ0 (some (vI r)) μ') (hR : xR X = { frames := 2, cells := 0, slots := 0, locals := 45 }) (hI : X.2.2.2.2.2.2.2.2.2.2.2.1.name = "hasInside") (k5 : Option Nat → Int32 → Int32 → Int32 → Int32 → Mem → Option (Int32 × Mem)) (hk5 : ∀ (v0 : Option Nat) (v1 : Int32) (v2 : Int32) (v3 : Int32) (v4 : Int32) (μ : Mem), k5 v0 v1 v2 v3 v4 μ = some (r, μ') → WM X 8 5 [(0, vR v0), (1, vI v1), (2, vI v2), (3, vI v3), (4, vI v4)] [] 0 0 μ) (v0 : Option Nat) (v1 : Int32) (v2 : Int32) (v3 : Int32) (v4 : Int32) (v5 : Int32) (v6 : Int32) (s0 : Int32) (μ : Mem) (h : B_Co_hasInside_117 k5 v0 v1 v2 v3 v4 v5 v6 s0 μ = some (r, μ')) : WM X 8 117 [(0, vR v0), (1, vI v1), (2, vI v2), (3, vI v3), (4, vI v4), (5, vI v5), (6, vI v6)] [vI s0] 0 0 μ := by
  have h : (b1 (gR μ v0 2 2) (fun x120 => b1 (aI μ x120 0 v4) (fun x125 => if x125 ≤ v2 then B_Co_hasInside_135 k5 v0 v1 v2 v3 v4 v5 v6 s0 0 μ else B_Co_hasInside_135 k5 v0 v1 v2 v3 v4 v5 v6 s0 1 μ))) = some (r, μ') := h
  refine wm_istore (lv' := [(7, vI s0), (0, vR v0), (1, vI v1), (2, vI v2), (3, vI v3), (4, vI v4), (5, vI v5), (6, vI v6)]) E dCo_hasInside_117 (by decide) rfl ?_
  refine wm_aload_n E dCo_hasInside_119 rfl (j := 1) rfl ?_
  refine wm_gR E fd_Co_25 h dCo_hasInside_120 (fun x120 h => ?_)
  refine wm_iload E dCo_hasInside_123 (j := 5) rfl ?_
  refine wm_iald (t := 0) E rfl h dCo_hasInside_125 (fun x125 h => ?_)
  refine wm_iload_n E dCo_hasInside_126 rfl (j := 3) rfl ?_
  refine wm_icmp_le (tgt := 134) E dCo_hasInside_127 (by decide) (fun c127 => ?_) (fun c127 => ?_)
  · have h := (if_pos c127).symm.trans h
    refine wm_iconst (x := 0) E dCo_hasInside_134 (by decide) ?_
    refine wm_pick (lv' := [(0, vR v0), (1, vI v1), (2, vI v2), (3, vI v3), (4, vI v4), (5, vI v5), (6, vI v6), (7, vI s0)]) [1, 2, 3, 4, 5, 6, 7, 0] rfl ?_
    exact w_Co_hasInside_135 E hQ hR hI k5 hk5 v0 v1 v2 v3 v4 v5 v6 s0 0 μ h
  · have h := (if_neg c127).symm.trans h
    refine wm_iconst (x := 1) E dCo_hasInside_130 (by decide) ?_
    refine wm_goto (tgt := 135) E dCo_hasInside_131 (by decide) ?_
    refine wm_pick (lv' := [(0, vR v0), (1, vI v1), (2, vI v2), (3, vI v3), (4, vI v4), (5, vI v5), (6, vI v6), (7, vI s0)]) [1, 2, 3, 4, 5, 6, 7, 0] rfl ?_
    exact w_Co_hasInside_135 E hQ hR hI k5 hk5 v0 v1 v2 v3 v4 v5 v6 s0 1 μ h
def B_Co_hasInside_95 (k5 : Option Nat → Int32 → Int32 → Int32 → Int32 → Mem → Option (Int32 × Mem)) (v0 : Option Nat) (v1 : Int32) (v2 : Int32) (v3 : Int32) (v4 : Int32) (v5 : Int32) (v6 : Int32) (μ : Mem) : Option (Int32 × Mem) := b1 (gR μ v0 2 2) (fun x96 => b1 (aI μ x96 0 v5) (fun x101 => b1 (gR μ v0 2 2) (fun x103 => b1 (aI μ x103 0 v4) (fun x108 => if x101 ≤ x108 then B_Co_hasInside_117 k5 v0 v1 v2 v3 v4 v5 v6 0 μ else B_Co_hasInside_117 k5 v0 v1 v2 v3 v4 v5 v6 1 μ))))
set_option maxHeartbeats 4000000 in
set_option maxRecDepth 100000 in
theorem w_Co_hasInside_95 {X : CX} (E : EV X prog_3_method_9_code 8 "PlaceFinder$Corners" (some .boolean)) {μ0 μ' : Mem} {r : Int32} (hQ : RQ X 0 0 μ0 (some (vI r)) μ') (hR : xR X = { frames := 2, cells := 0, slots := 0, locals := 45 }) (hI : X.2.2.2.2.2.2.2.2.2.2.2.1.name = "hasInside") (k5 : Option Nat → Int32 → Int32 → Int32 → Int32 → Mem → Option (Int32 × Mem)) (hk5 : ∀ (v0 : Option Nat) (v1 : Int32) (v2 : Int32) (v3 : Int32) (v4 : Int32) (μ : Mem), k5 v0 v1 v2 v3 v4 μ = some (r, μ') → WM X 8 5 [(0, vR v0), (1, vI v1), (2, vI v2), (3, vI v3), (4, vI v4)] [] 0 0 μ) (v0 : Option Nat) (v1 : Int32) (v2 : Int32) (v3 : Int32) (v4 : Int32) (v5 : Int32) (v6 : Int32) (μ : Mem) (h : B_Co_hasInside_95 k5 v0 v1 v2 v3 v4 v5 v6 μ = some (r, μ')) : WM X 8 95 [(0, vR v0), (1, vI v1), (2, vI v2), (3, vI v3), (4, vI v4), (5, vI v5), (6, vI v6)] [] 0 0 μ := by
  have h : (b1 (gR μ v0 2 2) (fun x96 => b1 (aI μ x96 0 v5) (fun x101 => b1 (gR μ v0 2 2) (fun x103 => b1 (aI μ x103 0 v4) (fun x108 => if x101 ≤ x108 then B_Co_hasInside_117 k5 v0 v1 v2 v3 v4 v5 v6 0 μ else B_Co_hasInside_117 k5 v0 v1 v2 v3 v4 v5 v6 1 μ))))) = some (r, μ') := h
  refine wm_aload_n E dCo_hasInside_95 rfl (j := 0) rfl ?_
  refine wm_gR E fd_Co_25 h dCo_hasInside_96 (fun x96 h => ?_)
  refine wm_iload E dCo_hasInside_99 (j := 5) rfl ?_
  refine wm_iald (t := 0) E rfl h dCo_hasInside_101 (fun x101 h => ?_)
  refine wm_aload_n E dCo_hasInside_102 rfl (j := 0) rfl ?_
  refine wm_gR E fd_Co_25 h dCo_hasInside_103 (fun x103 h => ?_)
  refine wm_iload E dCo_hasInside_106 (j := 4) rfl ?_
  refine wm_iald (t := 0) E rfl h dCo_hasInside_108 (fun x108 h => ?_)
  refine wm_icmp_le (tgt := 116) E dCo_hasInside_109 (by decide) (fun c109 => ?_) (fun c109 => ?_)
  · have h := (if_pos c109).symm.trans h
    refine wm_iconst (x := 0) E dCo_hasInside_116 (by decide) ?_
    refine wm_pick (lv' := [(0, vR v0), (1, vI v1), (2, vI v2), (3, vI v3), (4, vI v4), (5, vI v5), (6, vI v6)]) [0, 1, 2, 3, 4, 5, 6] rfl ?_
    exact w_Co_hasInside_117 E hQ hR hI k5 hk5 v0 v1 v2 v3 v4 v5 v6 0 μ h
  · have h := (if_neg c109).symm.trans h
    refine wm_iconst (x := 1) E dCo_hasInside_112 (by decide) ?_
    refine wm_goto (tgt := 117) E dCo_hasInside_113 (by decide) ?_
    refine wm_pick (lv' := [(0, vR v0), (1, vI v1), (2, vI v2), (3, vI v3), (4, vI v4), (5, vI v5), (6, vI v6)]) [0, 1, 2, 3, 4, 5, 6] rfl ?_
    exact w_Co_hasInside_117 E hQ hR hI k5 hk5 v0 v1 v2 v3 v4 v5 v6 1 μ h
def B_Co_hasInside_5  : Nat → Option Nat → Int32 → Int32 → Int32 → Int32 → Mem → Option (Int32 × Mem)
  | 0, _, _, _, _, _, _ => none
  | n + 1, v0, v1, v2, v3, v4, μ => b1 (gI μ v0 2 0) (fun x8 => if x8 ≤ v4 then gd (¬ okZ v3 = true) (some (v3, μ)) else b1 (rc μ v0 2) (fun _ => b2 (S_Co_following v0 v4 μ) (fun x17 m17 => b1 (gR m17 v0 2 1) (fun x23 => b1 (aI m17 x23 0 v4) (fun x28 => b1 (gR m17 v0 2 2) (fun x32 => b1 (aI m17 x32 0 x17) (fun x37 => b1 (gR m17 v0 2 2) (fun x39 => b1 (aI m17 x39 0 v4) (fun x44 => b1 (gR m17 v0 2 2) (fun x49 => b1 (aI m17 x49 0 v4) (fun x54 => b1 (gR m17 v0 2 1) (fun x57 => b1 (aI m17 x57 0 x17) (fun x62 => b1 (gR m17 v0 2 1) (fun x64 => b1 (aI m17 x64 0 v4) (fun x69 => b0 (((x28 - v1) * (x37 - x44)) + ((v2 - x54) * (x62 - x69))) (fun x73 => if x73 = 0 then b1 (rc m17 v0 2) (fun _ => b2 (S_Co_isInBox v0 v4 x17 v1 v2 m17) (fun x87 m87 => if x87 = 0 then B_Co_hasInside_95 (fun v0 v1 v2 v3 v4 μ => B_Co_hasInside_5 n v0 v1 v2 v3 v4 μ) v0 v1 v2 v3 v4 x17 x73 m87 else gd (¬ okZ 1 = true) (some (1, m87)))) else B_Co_hasInside_95 (fun v0 v1 v2 v3 v4 μ => B_Co_hasInside_5 n v0 v1 v2 v3 v4 μ) v0 v1 v2 v3 v4 x17 x73 m17))))))))))))))))
set_option maxHeartbeats 4000000 in
set_option maxRecDepth 100000 in
theorem w_Co_hasInside_5 {X : CX} (E : EV X prog_3_method_9_code 8 "PlaceFinder$Corners" (some .boolean)) {μ0 μ' : Mem} {r : Int32} (hQ : RQ X 0 0 μ0 (some (vI r)) μ') (hR : xR X = { frames := 2, cells := 0, slots := 0, locals := 45 }) (hI : X.2.2.2.2.2.2.2.2.2.2.2.1.name = "hasInside")  (n : Nat) : ∀ (v0 : Option Nat) (v1 : Int32) (v2 : Int32) (v3 : Int32) (v4 : Int32) (μ : Mem) (h : B_Co_hasInside_5  n v0 v1 v2 v3 v4 μ = some (r, μ')), WM X 8 5 [(0, vR v0), (1, vI v1), (2, vI v2), (3, vI v3), (4, vI v4)] [] 0 0 μ := by
  induction n with
  | zero => intro v0 v1 v2 v3 v4 μ h; cases h
  | succ n ih =>
    intro v0 v1 v2 v3 v4 μ h
    have h : (b1 (gI μ v0 2 0) (fun x8 => if x8 ≤ v4 then gd (¬ okZ v3 = true) (some (v3, μ)) else b1 (rc μ v0 2) (fun _ => b2 (S_Co_following v0 v4 μ) (fun x17 m17 => b1 (gR m17 v0 2 1) (fun x23 => b1 (aI m17 x23 0 v4) (fun x28 => b1 (gR m17 v0 2 2) (fun x32 => b1 (aI m17 x32 0 x17) (fun x37 => b1 (gR m17 v0 2 2) (fun x39 => b1 (aI m17 x39 0 v4) (fun x44 => b1 (gR m17 v0 2 2) (fun x49 => b1 (aI m17 x49 0 v4) (fun x54 => b1 (gR m17 v0 2 1) (fun x57 => b1 (aI m17 x57 0 x17) (fun x62 => b1 (gR m17 v0 2 1) (fun x64 => b1 (aI m17 x64 0 v4) (fun x69 => b0 (((x28 - v1) * (x37 - x44)) + ((v2 - x54) * (x62 - x69))) (fun x73 => if x73 = 0 then b1 (rc m17 v0 2) (fun _ => b2 (S_Co_isInBox v0 v4 x17 v1 v2 m17) (fun x87 m87 => if x87 = 0 then B_Co_hasInside_95 (fun v0 v1 v2 v3 v4 μ => B_Co_hasInside_5 n v0 v1 v2 v3 v4 μ) v0 v1 v2 v3 v4 x17 x73 m87 else gd (¬ okZ 1 = true) (some (1, m87)))) else B_Co_hasInside_95 (fun v0 v1 v2 v3 v4 μ => B_Co_hasInside_5 n v0 v1 v2 v3 v4 μ) v0 v1 v2 v3 v4 x17 x73 m17))))))))))))))))) = some (r, μ') := h
    refine wm_iload E dCo_hasInside_5 (j := 4) rfl ?_
    refine wm_aload_n E dCo_hasInside_7 rfl (j := 0) rfl ?_
    refine wm_gI E fd_Co_9 h dCo_hasInside_8 (fun x8 h => ?_)
    refine wm_icmp_ge (tgt := 185) E dCo_hasInside_11 (by decide) (fun c11 => ?_) (fun c11 => ?_)
    · have h := (if_pos c11).symm.trans h
      refine wm_iload_n E dCo_hasInside_185 rfl (j := 3) rfl ?_
      obtain ⟨hz186, h⟩ := gdS h
      exact wm_zret (rt := .boolean) E hQ (rtI h) (rtM h) (okZN hz186) (by decide) (by decide) dCo_hasInside_186
    · have h := (if_neg c11).symm.trans h
      refine wm_aload_n E dCo_hasInside_14 rfl (j := 0) rfl ?_
      refine wm_iload E dCo_hasInside_15 (j := 4) rfl ?_
      obtain ⟨u17, hr17, h⟩ := b1S h
      obtain ⟨x17, m17, hc17, h⟩ := b2S h
      refine wm_cV (ci := 2) (As := [vI v4]) (st := []) E lk_Co_32 rfl im_Co_following sl_Co_following hr17 (C_Co_following (xl X) X.1 v0 v4 μ _ _ hc17) rfl rfl (by rw [hR]; decide) (by rw [hR]; decide) (Nat.le_of_ble_eq_true rfl) dCo_hasInside_17 ?_
      refine wm_istore (lv' := [(5, vI x17), (0, vR v0), (1, vI v1), (2, vI v2), (3, vI v3), (4, vI v4)]) E dCo_hasInside_20 (by decide) rfl ?_
      refine wm_aload_n E dCo_hasInside_22 rfl (j := 1) rfl ?_
      refine wm_gR E fd_Co_21 h dCo_hasInside_23 (fun x23 h => ?_)
      refine wm_iload E dCo_hasInside_26 (j := 5) rfl ?_
      refine wm_iald (t := 0) E rfl h dCo_hasInside_28 (fun x28 h => ?_)
      refine wm_iload_n E dCo_hasInside_29 rfl (j := 2) rfl ?_
      refine wm_isub E dCo_hasInside_30 ?_
      refine wm_aload_n E dCo_hasInside_31 rfl (j := 1) rfl ?_
      refine wm_gR E fd_Co_25 h dCo_hasInside_32 (fun x32 h => ?_)
      refine wm_iload E dCo_hasInside_35 (j := 0) rfl ?_
      refine wm_iald (t := 0) E rfl h dCo_hasInside_37 (fun x37 h => ?_)
      refine wm_aload_n E dCo_hasInside_38 rfl (j := 1) rfl ?_
      refine wm_gR E fd_Co_25 h dCo_hasInside_39 (fun x39 h => ?_)
      refine wm_iload E dCo_hasInside_42 (j := 5) rfl ?_
      refine wm_iald (t := 0) E rfl h dCo_hasInside_44 (fun x44 h => ?_)
      refine wm_isub E dCo_hasInside_45 ?_
      refine wm_imul E dCo_hasInside_46 ?_
      refine wm_iload_n E dCo_hasInside_47 rfl (j := 3) rfl ?_
      refine wm_aload_n E dCo_hasInside_48 rfl (j := 1) rfl ?_
      refine wm_gR E fd_Co_25 h dCo_hasInside_49 (fun x49 h => ?_)
      refine wm_iload E dCo_hasInside_52 (j := 5) rfl ?_
      refine wm_iald (t := 0) E rfl h dCo_hasInside_54 (fun x54 h => ?_)
      refine wm_isub E dCo_hasInside_55 ?_
      refine wm_aload_n E dCo_hasInside_56 rfl (j := 1) rfl ?_
      refine wm_gR E fd_Co_21 h dCo_hasInside_57 (fun x57 h => ?_)
      refine wm_iload E dCo_hasInside_60 (j := 0) rfl ?_
      refine wm_iald (t := 0) E rfl h dCo_hasInside_62 (fun x62 h => ?_)
      refine wm_aload_n E dCo_hasInside_63 rfl (j := 1) rfl ?_
      refine wm_gR E fd_Co_21 h dCo_hasInside_64 (fun x64 h => ?_)
      refine wm_iload E dCo_hasInside_67 (j := 5) rfl ?_
      refine wm_iald (t := 0) E rfl h dCo_hasInside_69 (fun x69 h => ?_)
      refine wm_isub E dCo_hasInside_70 ?_
      refine wm_imul E dCo_hasInside_71 ?_
      refine wm_iadd E dCo_hasInside_72 ?_
      refine wm_letI h (fun x73 h => ?_)
      refine wm_istore (lv' := [(6, vI x73), (5, vI x17), (0, vR v0), (1, vI v1), (2, vI v2), (3, vI v3), (4, vI v4)]) E dCo_hasInside_73 (by decide) rfl ?_
      refine wm_iload E dCo_hasInside_75 (j := 0) rfl ?_
      refine wm_if_ne (tgt := 95) E dCo_hasInside_77 (by decide) (fun c77 => ?_) (fun c77 => ?_)
      · have h := (if_neg c77).symm.trans h
        refine wm_pick (lv' := [(0, vR v0), (1, vI v1), (2, vI v2), (3, vI v3), (4, vI v4), (5, vI x17), (6, vI x73)]) [2, 3, 4, 5, 6, 1, 0] rfl ?_
        exact w_Co_hasInside_95 E hQ hR hI (fun v0 v1 v2 v3 v4 μ => B_Co_hasInside_5 n v0 v1 v2 v3 v4 μ) ih v0 v1 v2 v3 v4 x17 x73 m17 h
      · have h := (if_pos c77).symm.trans h
        refine wm_aload_n E dCo_hasInside_80 rfl (j := 2) rfl ?_
        refine wm_iload E dCo_hasInside_81 (j := 6) rfl ?_
        refine wm_iload E dCo_hasInside_83 (j := 1) rfl ?_
        refine wm_iload_n E dCo_hasInside_85 rfl (j := 3) rfl ?_
        refine wm_iload_n E dCo_hasInside_86 rfl (j := 4) rfl ?_
        obtain ⟨u87, hr87, h⟩ := b1S h
        obtain ⟨x87, m87, hc87, h⟩ := b2S h
        refine wm_cV (ci := 2) (As := [vI v4, vI x17, vI v1, vI v2]) (st := []) E lk_Co_51 rfl im_Co_isInBox sl_Co_isInBox hr87 (C_Co_isInBox (xl X) X.1 v0 v4 x17 v1 v2 m17 _ _ hc87) rfl rfl (by rw [hR]; decide) (by rw [hR]; decide) (Nat.le_of_ble_eq_true rfl) dCo_hasInside_87 ?_
        refine wm_if_eq (tgt := 95) E dCo_hasInside_90 (by decide) (fun c90 => ?_) (fun c90 => ?_)
        · have h := (if_pos c90).symm.trans h
          refine wm_pick (lv' := [(0, vR v0), (1, vI v1), (2, vI v2), (3, vI v3), (4, vI v4), (5, vI x17), (6, vI x73)]) [2, 3, 4, 5, 6, 1, 0] rfl ?_
          exact w_Co_hasInside_95 E hQ hR hI (fun v0 v1 v2 v3 v4 μ => B_Co_hasInside_5 n v0 v1 v2 v3 v4 μ) ih v0 v1 v2 v3 v4 x17 x73 m87 h
        · have h := (if_neg c90).symm.trans h
          refine wm_iconst (x := 1) E dCo_hasInside_93 (by decide) ?_
          obtain ⟨hz94, h⟩ := gdS h
          exact wm_zret (rt := .boolean) E hQ (rtI h) (rtM h) (okZN hz94) (by decide) (by decide) dCo_hasInside_94
def S_Co_hasInside (v0 : Option Nat) (v1 : Int32) (v2 : Int32) (μ : Mem) : Option (Int32 × Mem) := B_Co_hasInside_5 fu v0 v1 v2 0 0 μ
set_option maxHeartbeats 4000000 in
set_option maxRecDepth 100000 in
theorem C_Co_hasInside (l : Launch) (G : GG) (v0 : Option Nat) (v1 : Int32) (v2 : Int32) (μ μ' : Mem) (r : Int32) (h : S_Co_hasInside v0 v1 v2 μ = some (r, μ')) : CT l G y_Co_hasInside prog_3_method_9_code 8 (some .boolean) 2 0 0 45 μ [vR v0, vI v1, vI v2] (some (vI r)) μ' := by
  refine wm_met (lv := [(0, vR v0), (1, vI v1), (2, vI v2)]) (by decide +kernel) (Nat.le_of_ble_eq_true rfl) rfl (fun X E hQ hR hI => ?_)
  have h : (B_Co_hasInside_5 fu v0 v1 v2 0 0 μ) = some (r, μ') := h
  refine wm_iconst (x := 0) E dCo_hasInside_0 (by decide) ?_
  refine wm_istore_n (lv' := [(3, vI 0), (0, vR v0), (1, vI v1), (2, vI v2)]) E dCo_hasInside_1 rfl (by decide) rfl ?_
  refine wm_iconst (x := 0) E dCo_hasInside_2 (by decide) ?_
  refine wm_istore (lv' := [(4, vI 0), (3, vI 0), (0, vR v0), (1, vI v1), (2, vI v2)]) E dCo_hasInside_3 (by decide) rfl ?_
  refine wm_pick (lv' := [(0, vR v0), (1, vI v1), (2, vI v2), (3, vI 0), (4, vI 0)]) [2, 3, 4, 1, 0] rfl ?_
  exact w_Co_hasInside_5 E hQ hR hI fu v0 v1 v2 0 0 μ h
def B_Co_hasAllInside_2  : Nat → Option Nat → Option Nat → Int32 → Mem → Option (Int32 × Mem)
  | 0, _, _, _, _ => none
  | n + 1, v0, v1, v2, μ => b1 (gI μ v1 2 0) (fun x4 => if x4 ≤ v2 then gd (¬ okZ 1 = true) (some (1, μ)) else b1 (gR μ v1 2 1) (fun x12 => b1 (aI μ x12 0 v2) (fun x16 => b1 (gR μ v1 2 2) (fun x18 => b1 (aI μ x18 0 v2) (fun x22 => b1 (rc μ v0 2) (fun _ => b2 (S_Co_hasInside v0 x16 x22 μ) (fun x23 m23 => if x23 = 0 then gd (¬ okZ 0 = true) (some (0, m23)) else (fun v0 v1 v2 μ => B_Co_hasAllInside_2 n v0 v1 v2 μ) v0 v1 (v2 + 1) m23)))))))
set_option maxHeartbeats 4000000 in
set_option maxRecDepth 100000 in
theorem w_Co_hasAllInside_2 {X : CX} (E : EV X prog_3_method_8_code 3 "PlaceFinder$Corners" (some .boolean)) {μ0 μ' : Mem} {r : Int32} (hQ : RQ X 0 0 μ0 (some (vI r)) μ') (hR : xR X = { frames := 3, cells := 0, slots := 0, locals := 72 }) (hI : X.2.2.2.2.2.2.2.2.2.2.2.1.name = "hasAllInside")  (n : Nat) : ∀ (v0 : Option Nat) (v1 : Option Nat) (v2 : Int32) (μ : Mem) (h : B_Co_hasAllInside_2  n v0 v1 v2 μ = some (r, μ')), WM X 3 2 [(0, vR v0), (1, vR v1), (2, vI v2)] [] 0 0 μ := by
  induction n with
  | zero => intro v0 v1 v2 μ h; cases h
  | succ n ih =>
    intro v0 v1 v2 μ h
    have h : (b1 (gI μ v1 2 0) (fun x4 => if x4 ≤ v2 then gd (¬ okZ 1 = true) (some (1, μ)) else b1 (gR μ v1 2 1) (fun x12 => b1 (aI μ x12 0 v2) (fun x16 => b1 (gR μ v1 2 2) (fun x18 => b1 (aI μ x18 0 v2) (fun x22 => b1 (rc μ v0 2) (fun _ => b2 (S_Co_hasInside v0 x16 x22 μ) (fun x23 m23 => if x23 = 0 then gd (¬ okZ 0 = true) (some (0, m23)) else (fun v0 v1 v2 μ => B_Co_hasAllInside_2 n v0 v1 v2 μ) v0 v1 (v2 + 1) m23)))))))) = some (r, μ') := h
    refine wm_iload_n E dCo_hasAllInside_2 rfl (j := 2) rfl ?_
    refine wm_aload_n E dCo_hasAllInside_3 rfl (j := 1) rfl ?_
    refine wm_gI E fd_Co_9 h dCo_hasAllInside_4 (fun x4 h => ?_)
    refine wm_icmp_ge (tgt := 37) E dCo_hasAllInside_7 (by decide) (fun c7 => ?_) (fun c7 => ?_)
    · have h := (if_pos c7).symm.trans h
      refine wm_iconst (x := 1) E dCo_hasAllInside_37 (by decide) ?_
      obtain ⟨hz38, h⟩ := gdS h
      exact wm_zret (rt := .boolean) E hQ (rtI h) (rtM h) (okZN hz38) (by decide) (by decide) dCo_hasAllInside_38
    · have h := (if_neg c7).symm.trans h
      refine wm_aload_n E dCo_hasAllInside_10 rfl (j := 0) rfl ?_
      refine wm_aload_n E dCo_hasAllInside_11 rfl (j := 1) rfl ?_
      refine wm_gR E fd_Co_21 h dCo_hasAllInside_12 (fun x12 h => ?_)
      refine wm_iload_n E dCo_hasAllInside_15 rfl (j := 2) rfl ?_
      refine wm_iald (t := 0) E rfl h dCo_hasAllInside_16 (fun x16 h => ?_)
      refine wm_aload_n E dCo_hasAllInside_17 rfl (j := 1) rfl ?_
      refine wm_gR E fd_Co_25 h dCo_hasAllInside_18 (fun x18 h => ?_)
      refine wm_iload_n E dCo_hasAllInside_21 rfl (j := 2) rfl ?_
      refine wm_iald (t := 0) E rfl h dCo_hasAllInside_22 (fun x22 h => ?_)
      obtain ⟨u23, hr23, h⟩ := b1S h
      obtain ⟨x23, m23, hc23, h⟩ := b2S h
      refine wm_cV (ci := 2) (As := [vI x16, vI x22]) (st := []) E lk_Co_47 rfl im_Co_hasInside sl_Co_hasInside hr23 (C_Co_hasInside (xl X) X.1 v0 x16 x22 μ _ _ hc23) rfl rfl (by rw [hR]; decide) (by rw [hR]; decide) (Nat.le_of_ble_eq_true rfl) dCo_hasAllInside_23 ?_
      refine wm_if_ne (tgt := 31) E dCo_hasAllInside_26 (by decide) (fun c26 => ?_) (fun c26 => ?_)
      · have h := (if_neg c26).symm.trans h
        refine wm_iinc (lv' := [(2, vI (v2 + 1)), (0, vR v0), (1, vR v1)]) (d := 1) E dCo_hasAllInside_31 (by decide) (j := 2) rfl (by decide) rfl ?_
        refine wm_goto (tgt := 2) E dCo_hasAllInside_34 (by decide) ?_
        refine wm_pick (lv' := [(0, vR v0), (1, vR v1), (2, vI (v2 + 1))]) [1, 2, 0] rfl ?_
        exact ih v0 v1 (v2 + 1) m23 h
      · have h := (if_pos c26).symm.trans h
        refine wm_iconst (x := 0) E dCo_hasAllInside_29 (by decide) ?_
        obtain ⟨hz30, h⟩ := gdS h
        exact wm_zret (rt := .boolean) E hQ (rtI h) (rtM h) (okZN hz30) (by decide) (by decide) dCo_hasAllInside_30
def S_Co_hasAllInside (v0 : Option Nat) (v1 : Option Nat) (μ : Mem) : Option (Int32 × Mem) := B_Co_hasAllInside_2 fu v0 v1 0 μ
set_option maxHeartbeats 4000000 in
set_option maxRecDepth 100000 in
theorem C_Co_hasAllInside (l : Launch) (G : GG) (v0 : Option Nat) (v1 : Option Nat) (μ μ' : Mem) (r : Int32) (h : S_Co_hasAllInside v0 v1 μ = some (r, μ')) : CT l G y_Co_hasAllInside prog_3_method_8_code 3 (some .boolean) 3 0 0 72 μ [vR v0, vR v1] (some (vI r)) μ' := by
  refine wm_met (lv := [(0, vR v0), (1, vR v1)]) (by decide +kernel) (Nat.le_of_ble_eq_true rfl) rfl (fun X E hQ hR hI => ?_)
  have h : (B_Co_hasAllInside_2 fu v0 v1 0 μ) = some (r, μ') := h
  refine wm_iconst (x := 0) E dCo_hasAllInside_0 (by decide) ?_
  refine wm_istore_n (lv' := [(2, vI 0), (0, vR v0), (1, vR v1)]) E dCo_hasAllInside_1 rfl (by decide) rfl ?_
  refine wm_pick (lv' := [(0, vR v0), (1, vR v1), (2, vI 0)]) [1, 2, 0] rfl ?_
  exact w_Co_hasAllInside_2 E hQ hR hI fu v0 v1 0 μ h
def B_P_liesInPlace_49  (s0 : Int32) (μ : Mem) : Option (Int32 × Mem) := gd (¬ okZ s0 = true) (some (s0, μ))
set_option maxHeartbeats 4000000 in
set_option maxRecDepth 100000 in
theorem w_P_liesInPlace_49 {X : CX} (E : EV X prog_1_method_33_code 6 "PlaceFinder" (some .boolean)) {μ0 μ' : Mem} {r : Int32} (hQ : RQ X 0 0 μ0 (some (vI r)) μ') (hR : xR X = { frames := 4, cells := 0, slots := 0, locals := 94 }) (hI : X.2.2.2.2.2.2.2.2.2.2.2.1.name = "liesInPlace")  (s0 : Int32) (μ : Mem) (h : B_P_liesInPlace_49  s0 μ = some (r, μ')) : WM X 6 49 [] [vI s0] 0 0 μ := by
  have h : (gd (¬ okZ s0 = true) (some (s0, μ))) = some (r, μ') := h
  obtain ⟨hz49, h⟩ := gdS h
  exact wm_zret (rt := .boolean) E hQ (rtI h) (rtM h) (okZN hz49) (by decide) (by decide) dP_liesInPlace_49
def B_P_liesInPlace_48   (μ : Mem) : Option (Int32 × Mem) := B_P_liesInPlace_49 0 μ
set_option maxHeartbeats 4000000 in
set_option maxRecDepth 100000 in
theorem w_P_liesInPlace_48 {X : CX} (E : EV X prog_1_method_33_code 6 "PlaceFinder" (some .boolean)) {μ0 μ' : Mem} {r : Int32} (hQ : RQ X 0 0 μ0 (some (vI r)) μ') (hR : xR X = { frames := 4, cells := 0, slots := 0, locals := 94 }) (hI : X.2.2.2.2.2.2.2.2.2.2.2.1.name = "liesInPlace")   (μ : Mem) (h : B_P_liesInPlace_48   μ = some (r, μ')) : WM X 6 48 [] [] 0 0 μ := by
  have h : (B_P_liesInPlace_49 0 μ) = some (r, μ') := h
  refine wm_iconst (x := 0) E dP_liesInPlace_48 (by decide) ?_
  refine wm_pick (lv' := []) [] rfl ?_
  exact w_P_liesInPlace_49 E hQ hR hI 0 μ h
def S_P_liesInPlace (v0 : Option Nat) (v1 : Option Nat) (v2 : Int32) (v3 : Int32) (μ : Mem) : Option (Int32 × Mem) := b1 (rc μ v0 11) (fun _ => b2 (S_P_placeOf v0 v2 μ) (fun x2 m2 => if x2 = none then gd (¬ okZ 0 = true) (some (0, m2)) else b1 (rc m2 x2 7) (fun _ => b2 (S_Pl_shapeOn x2 v3 m2) (fun x17 m17 => if x17 = none then B_P_liesInPlace_48 m17 else b1 (rc m17 x17 2) (fun _ => b2 (S_Co_isArea x17 m17) (fun x29 m29 => if x29 = 0 then B_P_liesInPlace_48 m29 else b1 (rc m29 x17 2) (fun _ => b2 (S_Co_hasAllInside x17 v1 m29) (fun x38 m38 => if x38 = 0 then B_P_liesInPlace_48 m38 else B_P_liesInPlace_49 1 m38))))))))
set_option maxHeartbeats 4000000 in
set_option maxRecDepth 100000 in
theorem C_P_liesInPlace (l : Launch) (G : GG) (v0 : Option Nat) (v1 : Option Nat) (v2 : Int32) (v3 : Int32) (μ μ' : Mem) (r : Int32) (h : S_P_liesInPlace v0 v1 v2 v3 μ = some (r, μ')) : CT l G y_P_liesInPlace prog_1_method_33_code 6 (some .boolean) 4 0 0 94 μ [vR v0, vR v1, vI v2, vI v3] (some (vI r)) μ' := by
  refine wm_met (lv := [(0, vR v0), (1, vR v1), (2, vI v2), (3, vI v3)]) (by decide +kernel) (Nat.le_of_ble_eq_true rfl) rfl (fun X E hQ hR hI => ?_)
  have h : (b1 (rc μ v0 11) (fun _ => b2 (S_P_placeOf v0 v2 μ) (fun x2 m2 => if x2 = none then gd (¬ okZ 0 = true) (some (0, m2)) else b1 (rc m2 x2 7) (fun _ => b2 (S_Pl_shapeOn x2 v3 m2) (fun x17 m17 => if x17 = none then B_P_liesInPlace_48 m17 else b1 (rc m17 x17 2) (fun _ => b2 (S_Co_isArea x17 m17) (fun x29 m29 => if x29 = 0 then B_P_liesInPlace_48 m29 else b1 (rc m29 x17 2) (fun _ => b2 (S_Co_hasAllInside x17 v1 m29) (fun x38 m38 => if x38 = 0 then B_P_liesInPlace_48 m38 else B_P_liesInPlace_49 1 m38))))))))) = some (r, μ') := h
  refine wm_aload_n E dP_liesInPlace_0 rfl (j := 0) rfl ?_
  refine wm_iload_n E dP_liesInPlace_1 rfl (j := 2) rfl ?_
  obtain ⟨u2, hr2, h⟩ := b1S h
  obtain ⟨x2, m2, hc2, h⟩ := b2S h
  refine wm_cV (ci := 11) (As := [vI v2]) (st := []) E lk_P_124 rfl im_P_placeOf sl_P_placeOf hr2 (C_P_placeOf (xl X) X.1 v0 v2 μ _ _ hc2) rfl rfl (by rw [hR]; decide) (by rw [hR]; decide) (Nat.le_of_ble_eq_true rfl) dP_liesInPlace_2 ?_
  refine wm_astore (lv' := [(4, vR x2), (0, vR v0), (1, vR v1), (2, vI v2), (3, vI v3)]) E dP_liesInPlace_5 (by decide) rfl ?_
  refine wm_aload E dP_liesInPlace_7 (j := 0) rfl ?_
  refine wm_ifnonnull (tgt := 14) E dP_liesInPlace_9 (by decide) (fun c9 => ?_) (fun c9 => ?_)
  · have h := (if_neg c9).symm.trans h
    refine wm_aload E dP_liesInPlace_14 (j := 0) rfl ?_
    refine wm_iload_n E dP_liesInPlace_16 rfl (j := 4) rfl ?_
    obtain ⟨u17, hr17, h⟩ := b1S h
    obtain ⟨x17, m17, hc17, h⟩ := b2S h
    refine wm_cV (ci := 7) (As := [vI v3]) (st := []) E lk_P_275 rfl im_Pl_shapeOn sl_Pl_shapeOn hr17 (C_Pl_shapeOn (xl X) X.1 x2 v3 m2 _ _ hc17) rfl rfl (by rw [hR]; decide) (by rw [hR]; decide) (Nat.le_of_ble_eq_true rfl) dP_liesInPlace_17 ?_
    refine wm_astore (lv' := [(5, vR x17), (4, vR x2), (0, vR v0), (1, vR v1), (2, vI v2), (3, vI v3)]) E dP_liesInPlace_20 (by decide) rfl ?_
    refine wm_aload E dP_liesInPlace_22 (j := 0) rfl ?_
    refine wm_ifnull (tgt := 48) E dP_liesInPlace_24 (by decide) (fun c24 => ?_) (fun c24 => ?_)
    · have h := (if_pos c24).symm.trans h
      refine wm_pick (lv' := []) [] rfl ?_
      exact w_P_liesInPlace_48 E hQ hR hI m17 h
    · have h := (if_neg c24).symm.trans h
      refine wm_aload E dP_liesInPlace_27 (j := 0) rfl ?_
      obtain ⟨u29, hr29, h⟩ := b1S h
      obtain ⟨x29, m29, hc29, h⟩ := b2S h
      refine wm_cV (ci := 2) (As := []) (st := []) E lk_P_137 rfl im_Co_isArea sl_Co_isArea hr29 (C_Co_isArea (xl X) X.1 x17 m17 _ _ hc29) rfl rfl (by rw [hR]; decide) (by rw [hR]; decide) (Nat.le_of_ble_eq_true rfl) dP_liesInPlace_29 ?_
      refine wm_if_eq (tgt := 48) E dP_liesInPlace_32 (by decide) (fun c32 => ?_) (fun c32 => ?_)
      · have h := (if_pos c32).symm.trans h
        refine wm_pick (lv' := []) [] rfl ?_
        exact w_P_liesInPlace_48 E hQ hR hI m29 h
      · have h := (if_neg c32).symm.trans h
        refine wm_aload E dP_liesInPlace_35 (j := 0) rfl ?_
        refine wm_aload_n E dP_liesInPlace_37 rfl (j := 3) rfl ?_
        obtain ⟨u38, hr38, h⟩ := b1S h
        obtain ⟨x38, m38, hc38, h⟩ := b2S h
        refine wm_cV (ci := 2) (As := [vR v1]) (st := []) E lk_P_385 rfl im_Co_hasAllInside sl_Co_hasAllInside hr38 (C_Co_hasAllInside (xl X) X.1 x17 v1 m29 _ _ hc38) rfl rfl (by rw [hR]; decide) (by rw [hR]; decide) (Nat.le_of_ble_eq_true rfl) dP_liesInPlace_38 ?_
        refine wm_if_eq (tgt := 48) E dP_liesInPlace_41 (by decide) (fun c41 => ?_) (fun c41 => ?_)
        · have h := (if_pos c41).symm.trans h
          refine wm_pick (lv' := []) [] rfl ?_
          exact w_P_liesInPlace_48 E hQ hR hI m38 h
        · have h := (if_neg c41).symm.trans h
          refine wm_iconst (x := 1) E dP_liesInPlace_44 (by decide) ?_
          refine wm_goto (tgt := 49) E dP_liesInPlace_45 (by decide) ?_
          refine wm_pick (lv' := []) [] rfl ?_
          exact w_P_liesInPlace_49 E hQ hR hI 1 m38 h
  · have h := (if_pos c9).symm.trans h
    refine wm_iconst (x := 0) E dP_liesInPlace_12 (by decide) ?_
    obtain ⟨hz13, h⟩ := gdS h
    exact wm_zret (rt := .boolean) E hQ (rtI h) (rtM h) (okZN hz13) (by decide) (by decide) dP_liesInPlace_13
def B_Pl_aboveOn_2  : Nat → Option Nat → Int32 → Int32 → Mem → Option (Option Nat × Mem)
  | 0, _, _, _, _ => none
  | n + 1, v0, v1, v2, μ => b1 (gR μ v0 7 6) (fun x4 => b1 (rc μ x4 0) (fun _ => b2 (S_Al_size x4 μ) (fun x7 m7 => if x7 ≤ v2 then some (none, m7) else b1 (gR m7 v0 7 6) (fun x14 => b1 (rc m7 x14 0) (fun _ => b2 (S_Al_get x14 v2 m7) (fun x18 m18 => b1 (cK m18 x18 5) (fun _ => b1 (rc m18 x18 5) (fun _ => b2 (S_Li_isWithin x18 v1 v1 m18) (fun x26 m26 => if x26 = 0 then (fun v0 v1 v2 μ => B_Pl_aboveOn_2 n v0 v1 v2 μ) v0 v1 (v2 + 1) m26 else b1 (gR m26 v0 7 6) (fun x33 => b1 (rc m26 x33 0) (fun _ => b2 (S_Al_get x33 v2 m26) (fun x37 m37 => b1 (cK m37 x37 5) (fun _ => b1 (gR m37 x37 5 0) (fun x43 => some (x43, m37)))))))))))))))
set_option maxHeartbeats 4000000 in
set_option maxRecDepth 100000 in
theorem w_Pl_aboveOn_2 {X : CX} (E : EV X prog_8_method_9_code 3 "PlaceFinder$Place" (some (.object "PlaceFinder$Place"))) {μ0 μ' : Mem} {r : Option Nat} (hQ : RQ X 0 0 μ0 (some (vR r)) μ') (hR : xR X = { frames := 3, cells := 0, slots := 0, locals := 64 }) (hI : X.2.2.2.2.2.2.2.2.2.2.2.1.name = "aboveOn")  (n : Nat) : ∀ (v0 : Option Nat) (v1 : Int32) (v2 : Int32) (μ : Mem) (h : B_Pl_aboveOn_2  n v0 v1 v2 μ = some (r, μ')), WM X 3 2 [(0, vR v0), (1, vI v1), (2, vI v2)] [] 0 0 μ := by
  induction n with
  | zero => intro v0 v1 v2 μ h; cases h
  | succ n ih =>
    intro v0 v1 v2 μ h
    have h : (b1 (gR μ v0 7 6) (fun x4 => b1 (rc μ x4 0) (fun _ => b2 (S_Al_size x4 μ) (fun x7 m7 => if x7 ≤ v2 then some (none, m7) else b1 (gR m7 v0 7 6) (fun x14 => b1 (rc m7 x14 0) (fun _ => b2 (S_Al_get x14 v2 m7) (fun x18 m18 => b1 (cK m18 x18 5) (fun _ => b1 (rc m18 x18 5) (fun _ => b2 (S_Li_isWithin x18 v1 v1 m18) (fun x26 m26 => if x26 = 0 then (fun v0 v1 v2 μ => B_Pl_aboveOn_2 n v0 v1 v2 μ) v0 v1 (v2 + 1) m26 else b1 (gR m26 v0 7 6) (fun x33 => b1 (rc m26 x33 0) (fun _ => b2 (S_Al_get x33 v2 m26) (fun x37 m37 => b1 (cK m37 x37 5) (fun _ => b1 (gR m37 x37 5 0) (fun x43 => some (x43, m37)))))))))))))))) = some (r, μ') := h
    refine wm_iload_n E dPl_aboveOn_2 rfl (j := 2) rfl ?_
    refine wm_aload_n E dPl_aboveOn_3 rfl (j := 0) rfl ?_
    refine wm_gR E fd_Pl_29 h dPl_aboveOn_4 (fun x4 h => ?_)
    obtain ⟨u7, hr7, h⟩ := b1S h
    obtain ⟨x7, m7, hc7, h⟩ := b2S h
    refine wm_cV (ci := 0) (As := []) (st := [vI v2]) E lk_Pl_38 rfl im_Al_size sl_Al_size hr7 (C_Al_size (xl X) X.1 x4 μ _ _ hc7) rfl rfl (by rw [hR]; decide) (by rw [hR]; decide) (Nat.le_of_ble_eq_true rfl) dPl_aboveOn_7 ?_
    refine wm_icmp_ge (tgt := 53) E dPl_aboveOn_10 (by decide) (fun c10 => ?_) (fun c10 => ?_)
    · have h := (if_pos c10).symm.trans h
      refine wm_null E dPl_aboveOn_53 ?_
      exact wm_aret E hQ (rtR h) (rtM h) (Or.inl ⟨_, rfl⟩) (by decide) (by decide) dPl_aboveOn_54
    · have h := (if_neg c10).symm.trans h
      refine wm_aload_n E dPl_aboveOn_13 rfl (j := 0) rfl ?_
      refine wm_gR E fd_Pl_29 h dPl_aboveOn_14 (fun x14 h => ?_)
      refine wm_iload_n E dPl_aboveOn_17 rfl (j := 2) rfl ?_
      obtain ⟨u18, hr18, h⟩ := b1S h
      obtain ⟨x18, m18, hc18, h⟩ := b2S h
      refine wm_cV (ci := 0) (As := [vI v2]) (st := []) E lk_Pl_46 rfl im_Al_get sl_Al_get hr18 (C_Al_get (xl X) X.1 x14 v2 m7 _ _ hc18) rfl rfl (by rw [hR]; decide) (by rw [hR]; decide) (Nat.le_of_ble_eq_true rfl) dPl_aboveOn_18 ?_
      refine wm_ckc (ci := 5) E rfl cl_Pl_65 h dPl_aboveOn_21 (fun h => ?_)
      refine wm_iload_n E dPl_aboveOn_24 rfl (j := 1) rfl ?_
      refine wm_iload_n E dPl_aboveOn_25 rfl (j := 1) rfl ?_
      obtain ⟨u26, hr26, h⟩ := b1S h
      obtain ⟨x26, m26, hc26, h⟩ := b2S h
      refine wm_cV (ci := 5) (As := [vI v1, vI v1]) (st := []) E lk_Pl_67 rfl im_Li_isWithin sl_Li_isWithin hr26 (C_Li_isWithin (xl X) X.1 x18 v1 v1 m18 _ _ hc26) rfl rfl (by rw [hR]; decide) (by rw [hR]; decide) (Nat.le_of_ble_eq_true rfl) dPl_aboveOn_26 ?_
      refine wm_if_eq (tgt := 47) E dPl_aboveOn_29 (by decide) (fun c29 => ?_) (fun c29 => ?_)
      · have h := (if_pos c29).symm.trans h
        refine wm_iinc (lv' := [(2, vI (v2 + 1)), (0, vR v0), (1, vI v1)]) (d := 1) E dPl_aboveOn_47 (by decide) (j := 2) rfl (by decide) rfl ?_
        refine wm_goto (tgt := 2) E dPl_aboveOn_50 (by decide) ?_
        refine wm_pick (lv' := [(0, vR v0), (1, vI v1), (2, vI (v2 + 1))]) [1, 2, 0] rfl ?_
        exact ih v0 v1 (v2 + 1) m26 h
      · have h := (if_neg c29).symm.trans h
        refine wm_aload_n E dPl_aboveOn_32 rfl (j := 0) rfl ?_
        refine wm_gR E fd_Pl_29 h dPl_aboveOn_33 (fun x33 h => ?_)
        refine wm_iload_n E dPl_aboveOn_36 rfl (j := 2) rfl ?_
        obtain ⟨u37, hr37, h⟩ := b1S h
        obtain ⟨x37, m37, hc37, h⟩ := b2S h
        refine wm_cV (ci := 0) (As := [vI v2]) (st := []) E lk_Pl_46 rfl im_Al_get sl_Al_get hr37 (C_Al_get (xl X) X.1 x33 v2 m26 _ _ hc37) rfl rfl (by rw [hR]; decide) (by rw [hR]; decide) (Nat.le_of_ble_eq_true rfl) dPl_aboveOn_37 ?_
        refine wm_ckc (ci := 5) E rfl cl_Pl_65 h dPl_aboveOn_40 (fun h => ?_)
        refine wm_gR E fd_Pl_71 h dPl_aboveOn_43 (fun x43 h => ?_)
        exact wm_aret E hQ (rtR h) (rtM h) (Or.inl ⟨_, rfl⟩) (by decide) (by decide) dPl_aboveOn_46
def S_Pl_aboveOn (v0 : Option Nat) (v1 : Int32) (μ : Mem) : Option (Option Nat × Mem) := B_Pl_aboveOn_2 fu v0 v1 0 μ
set_option maxHeartbeats 4000000 in
set_option maxRecDepth 100000 in
theorem C_Pl_aboveOn (l : Launch) (G : GG) (v0 : Option Nat) (v1 : Int32) (μ μ' : Mem) (r : Option Nat) (h : S_Pl_aboveOn v0 v1 μ = some (r, μ')) : CT l G y_Pl_aboveOn prog_8_method_9_code 3 (some (.object "PlaceFinder$Place")) 3 0 0 64 μ [vR v0, vI v1] (some (vR r)) μ' := by
  refine wm_met (lv := [(0, vR v0), (1, vI v1)]) (by decide +kernel) (Nat.le_of_ble_eq_true rfl) rfl (fun X E hQ hR hI => ?_)
  have h : (B_Pl_aboveOn_2 fu v0 v1 0 μ) = some (r, μ') := h
  refine wm_iconst (x := 0) E dPl_aboveOn_0 (by decide) ?_
  refine wm_istore_n (lv' := [(2, vI 0), (0, vR v0), (1, vI v1)]) E dPl_aboveOn_1 rfl (by decide) rfl ?_
  refine wm_pick (lv' := [(0, vR v0), (1, vI v1), (2, vI 0)]) [1, 2, 0] rfl ?_
  exact w_Pl_aboveOn_2 E hQ hR hI fu v0 v1 0 μ h
def B_P_isBelow_42   (μ : Mem) : Option (Int32 × Mem) := gd (¬ okZ 0 = true) (some (0, μ))
set_option maxHeartbeats 4000000 in
set_option maxRecDepth 100000 in
theorem w_P_isBelow_42 {X : CX} (E : EV X prog_1_method_34_code 5 "PlaceFinder" (some .boolean)) {μ0 μ' : Mem} {r : Int32} (hQ : RQ X 0 0 μ0 (some (vI r)) μ') (hR : xR X = { frames := 4, cells := 0, slots := 0, locals := 86 }) (hI : X.2.2.2.2.2.2.2.2.2.2.2.1.name = "isBelow")   (μ : Mem) (h : B_P_isBelow_42   μ = some (r, μ')) : WM X 5 42 [] [] 0 0 μ := by
  have h : (gd (¬ okZ 0 = true) (some (0, μ))) = some (r, μ') := h
  refine wm_iconst (x := 0) E dP_isBelow_42 (by decide) ?_
  obtain ⟨hz43, h⟩ := gdS h
  exact wm_zret (rt := .boolean) E hQ (rtI h) (rtM h) (okZN hz43) (by decide) (by decide) dP_isBelow_43
def B_P_isBelow_9  : Nat → Int32 → Int32 → Option Nat → Int32 → Mem → Option (Int32 × Mem)
  | 0, _, _, _, _, _ => none
  | n + 1, v1, v2, v3, v4, μ => if 30 ≤ v4 then B_P_isBelow_42 μ else if v3 = none then B_P_isBelow_42 μ else b1 (gI μ v3 7 0) (fun x21 => if x21 = v1 then gd (¬ okZ 1 = true) (some (1, μ)) else b1 (rc μ v3 7) (fun _ => b2 (S_Pl_aboveOn v3 v2 μ) (fun x32 m32 => (fun v1 v2 v3 v4 μ => B_P_isBelow_9 n v1 v2 v3 v4 μ) v1 v2 x32 (v4 + 1) m32)))
set_option maxHeartbeats 4000000 in
set_option maxRecDepth 100000 in
theorem w_P_isBelow_9 {X : CX} (E : EV X prog_1_method_34_code 5 "PlaceFinder" (some .boolean)) {μ0 μ' : Mem} {r : Int32} (hQ : RQ X 0 0 μ0 (some (vI r)) μ') (hR : xR X = { frames := 4, cells := 0, slots := 0, locals := 86 }) (hI : X.2.2.2.2.2.2.2.2.2.2.2.1.name = "isBelow")  (n : Nat) : ∀ (v1 : Int32) (v2 : Int32) (v3 : Option Nat) (v4 : Int32) (μ : Mem) (h : B_P_isBelow_9  n v1 v2 v3 v4 μ = some (r, μ')), WM X 5 9 [(1, vI v1), (2, vI v2), (3, vR v3), (4, vI v4)] [] 0 0 μ := by
  induction n with
  | zero => intro v1 v2 v3 v4 μ h; cases h
  | succ n ih =>
    intro v1 v2 v3 v4 μ h
    have h : (if 30 ≤ v4 then B_P_isBelow_42 μ else if v3 = none then B_P_isBelow_42 μ else b1 (gI μ v3 7 0) (fun x21 => if x21 = v1 then gd (¬ okZ 1 = true) (some (1, μ)) else b1 (rc μ v3 7) (fun _ => b2 (S_Pl_aboveOn v3 v2 μ) (fun x32 m32 => (fun v1 v2 v3 v4 μ => B_P_isBelow_9 n v1 v2 v3 v4 μ) v1 v2 x32 (v4 + 1) m32)))) = some (r, μ') := h
    refine wm_iload E dP_isBelow_9 (j := 3) rfl ?_
    refine wm_bipush (x := 30) E dP_isBelow_11 (by decide) ?_
    refine wm_icmp_ge (tgt := 42) E dP_isBelow_13 (by decide) (fun c13 => ?_) (fun c13 => ?_)
    · have h := (if_pos c13).symm.trans h
      refine wm_pick (lv' := []) [] rfl ?_
      exact w_P_isBelow_42 E hQ hR hI μ h
    · have h := (if_neg c13).symm.trans h
      refine wm_aload_n E dP_isBelow_16 rfl (j := 2) rfl ?_
      refine wm_ifnull (tgt := 42) E dP_isBelow_17 (by decide) (fun c17 => ?_) (fun c17 => ?_)
      · have h := (if_pos c17).symm.trans h
        refine wm_pick (lv' := []) [] rfl ?_
        exact w_P_isBelow_42 E hQ hR hI μ h
      · have h := (if_neg c17).symm.trans h
        refine wm_aload_n E dP_isBelow_20 rfl (j := 2) rfl ?_
        refine wm_gI E fd_P_270 h dP_isBelow_21 (fun x21 h => ?_)
        refine wm_iload_n E dP_isBelow_24 rfl (j := 0) rfl ?_
        refine wm_icmp_ne (tgt := 30) E dP_isBelow_25 (by decide) (fun c25 => ?_) (fun c25 => ?_)
        · have h := (if_neg c25).symm.trans h
          refine wm_aload_n E dP_isBelow_30 rfl (j := 2) rfl ?_
          refine wm_iload_n E dP_isBelow_31 rfl (j := 1) rfl ?_
          obtain ⟨u32, hr32, h⟩ := b1S h
          obtain ⟨x32, m32, hc32, h⟩ := b2S h
          refine wm_cV (ci := 7) (As := [vI v2]) (st := []) E lk_P_267 rfl im_Pl_aboveOn sl_Pl_aboveOn hr32 (C_Pl_aboveOn (xl X) X.1 v3 v2 μ _ _ hc32) rfl rfl (by rw [hR]; decide) (by rw [hR]; decide) (Nat.le_of_ble_eq_true rfl) dP_isBelow_32 ?_
          refine wm_astore_n (lv' := [(3, vR x32), (1, vI v1), (2, vI v2), (4, vI v4)]) E dP_isBelow_35 rfl (by decide) rfl ?_
          refine wm_iinc (lv' := [(4, vI (v4 + 1)), (3, vR x32), (1, vI v1), (2, vI v2)]) (d := 1) E dP_isBelow_36 (by decide) (j := 3) rfl (by decide) rfl ?_
          refine wm_goto (tgt := 9) E dP_isBelow_39 (by decide) ?_
          refine wm_pick (lv' := [(1, vI v1), (2, vI v2), (3, vR x32), (4, vI (v4 + 1))]) [2, 3, 1, 0] rfl ?_
          exact ih v1 v2 x32 (v4 + 1) m32 h
        · have h := (if_pos c25).symm.trans h
          refine wm_iconst (x := 1) E dP_isBelow_28 (by decide) ?_
          obtain ⟨hz29, h⟩ := gdS h
          exact wm_zret (rt := .boolean) E hQ (rtI h) (rtM h) (okZN hz29) (by decide) (by decide) dP_isBelow_29
def S_P_isBelow (v0 : Option Nat) (v1 : Int32) (v2 : Int32) (μ : Mem) : Option (Int32 × Mem) := b1 (rc μ v0 7) (fun _ => b2 (S_Pl_aboveOn v0 v2 μ) (fun x2 m2 => B_P_isBelow_9 fu v1 v2 x2 0 m2))
set_option maxHeartbeats 4000000 in
set_option maxRecDepth 100000 in
theorem C_P_isBelow (l : Launch) (G : GG) (v0 : Option Nat) (v1 : Int32) (v2 : Int32) (μ μ' : Mem) (r : Int32) (h : S_P_isBelow v0 v1 v2 μ = some (r, μ')) : CT l G y_P_isBelow prog_1_method_34_code 5 (some .boolean) 4 0 0 86 μ [vR v0, vI v1, vI v2] (some (vI r)) μ' := by
  refine wm_met (lv := [(0, vR v0), (1, vI v1), (2, vI v2)]) (by decide +kernel) (Nat.le_of_ble_eq_true rfl) rfl (fun X E hQ hR hI => ?_)
  have h : (b1 (rc μ v0 7) (fun _ => b2 (S_Pl_aboveOn v0 v2 μ) (fun x2 m2 => B_P_isBelow_9 fu v1 v2 x2 0 m2))) = some (r, μ') := h
  refine wm_aload_n E dP_isBelow_0 rfl (j := 0) rfl ?_
  refine wm_iload_n E dP_isBelow_1 rfl (j := 2) rfl ?_
  obtain ⟨u2, hr2, h⟩ := b1S h
  obtain ⟨x2, m2, hc2, h⟩ := b2S h
  refine wm_cV (ci := 7) (As := [vI v2]) (st := []) E lk_P_267 rfl im_Pl_aboveOn sl_Pl_aboveOn hr2 (C_Pl_aboveOn (xl X) X.1 v0 v2 μ _ _ hc2) rfl rfl (by rw [hR]; decide) (by rw [hR]; decide) (Nat.le_of_ble_eq_true rfl) dP_isBelow_2 ?_
  refine wm_astore_n (lv' := [(3, vR x2), (0, vR v0), (1, vI v1), (2, vI v2)]) E dP_isBelow_5 rfl (by decide) rfl ?_
  refine wm_iconst (x := 0) E dP_isBelow_6 (by decide) ?_
  refine wm_istore (lv' := [(4, vI 0), (3, vR x2), (0, vR v0), (1, vI v1), (2, vI v2)]) E dP_isBelow_7 (by decide) rfl ?_
  refine wm_pick (lv' := [(1, vI v1), (2, vI v2), (3, vR x2), (4, vI 0)]) [3, 4, 1, 0] rfl ?_
  exact w_P_isBelow_9 E hQ hR hI fu v1 v2 x2 0 m2 h
def S_Co_squareFrom (v0 : Option Nat) (v1 : Int32) (v2 : Int32) (v3 : Int32) (μ : Mem) : Option (Int32 × Mem) := b1 (gR μ v0 2 1) (fun x2 => b1 (aI μ x2 0 v1) (fun x6 => b0 (v2 - x6) (fun x8 => b1 (gR μ v0 2 2) (fun x12 => b1 (aI μ x12 0 v1) (fun x16 => b0 (v3 - x16) (fun x18 => some ((x8 * x8) + (x18 * x18), μ)))))))
set_option maxHeartbeats 4000000 in
set_option maxRecDepth 100000 in
theorem C_Co_squareFrom (l : Launch) (G : GG) (v0 : Option Nat) (v1 : Int32) (v2 : Int32) (v3 : Int32) (μ μ' : Mem) (r : Int32) (h : S_Co_squareFrom v0 v1 v2 v3 μ = some (r, μ')) : CT l G y_Co_squareFrom prog_3_method_7_code 6 (some .int) 0 0 0 0 μ [vR v0, vI v1, vI v2, vI v3] (some (vI r)) μ' := by
  refine wm_met (lv := [(0, vR v0), (1, vI v1), (2, vI v2), (3, vI v3)]) (by decide +kernel) (Nat.le_of_ble_eq_true rfl) rfl (fun X E hQ hR hI => ?_)
  have h : (b1 (gR μ v0 2 1) (fun x2 => b1 (aI μ x2 0 v1) (fun x6 => b0 (v2 - x6) (fun x8 => b1 (gR μ v0 2 2) (fun x12 => b1 (aI μ x12 0 v1) (fun x16 => b0 (v3 - x16) (fun x18 => some ((x8 * x8) + (x18 * x18), μ)))))))) = some (r, μ') := h
  refine wm_iload_n E dCo_squareFrom_0 rfl (j := 2) rfl ?_
  refine wm_aload_n E dCo_squareFrom_1 rfl (j := 0) rfl ?_
  refine wm_gR E fd_Co_21 h dCo_squareFrom_2 (fun x2 h => ?_)
  refine wm_iload_n E dCo_squareFrom_5 rfl (j := 1) rfl ?_
  refine wm_iald (t := 0) E rfl h dCo_squareFrom_6 (fun x6 h => ?_)
  refine wm_isub E dCo_squareFrom_7 ?_
  refine wm_letI h (fun x8 h => ?_)
  refine wm_istore (lv' := [(4, vI x8), (0, vR v0), (1, vI v1), (2, vI v2), (3, vI v3)]) E dCo_squareFrom_8 (by decide) rfl ?_
  refine wm_iload_n E dCo_squareFrom_10 rfl (j := 4) rfl ?_
  refine wm_aload_n E dCo_squareFrom_11 rfl (j := 1) rfl ?_
  refine wm_gR E fd_Co_25 h dCo_squareFrom_12 (fun x12 h => ?_)
  refine wm_iload_n E dCo_squareFrom_15 rfl (j := 2) rfl ?_
  refine wm_iald (t := 0) E rfl h dCo_squareFrom_16 (fun x16 h => ?_)
  refine wm_isub E dCo_squareFrom_17 ?_
  refine wm_letI h (fun x18 h => ?_)
  refine wm_istore (lv' := [(5, vI x18), (4, vI x8), (0, vR v0), (1, vI v1), (2, vI v2), (3, vI v3)]) E dCo_squareFrom_18 (by decide) rfl ?_
  refine wm_iload E dCo_squareFrom_20 (j := 1) rfl ?_
  refine wm_iload E dCo_squareFrom_22 (j := 1) rfl ?_
  refine wm_imul E dCo_squareFrom_24 ?_
  refine wm_iload E dCo_squareFrom_25 (j := 0) rfl ?_
  refine wm_iload E dCo_squareFrom_27 (j := 0) rfl ?_
  refine wm_imul E dCo_squareFrom_29 ?_
  refine wm_iadd E dCo_squareFrom_30 ?_
  exact wm_iret (rt := .int) E hQ (rtI h) (rtM h) (by decide) (by decide) dCo_squareFrom_31
def B_Co_squareTo_6  : Nat → Option Nat → Int32 → Int32 → Int32 → Int32 → Mem → Option (Int32 × Mem)
  | 0, _, _, _, _, _, _ => none
  | n + 1, v0, v1, v2, v3, v4, μ => b1 (gI μ v0 2 0) (fun x9 => if x9 ≤ v4 then some (v3, μ) else b1 (rc μ v0 2) (fun _ => b2 (S_Co_squareFrom v0 v4 v1 v2 μ) (fun x21 m21 => b2 (S_Ma_min v3 x21 m21) (fun x24 m24 => (fun v0 v1 v2 v3 v4 μ => B_Co_squareTo_6 n v0 v1 v2 v3 v4 μ) v0 v1 v2 x24 (v4 + 1) m24))))
set_option maxHeartbeats 4000000 in
set_option maxRecDepth 100000 in
theorem w_Co_squareTo_6 {X : CX} (E : EV X prog_3_method_6_code 5 "PlaceFinder$Corners" (some .int)) {μ0 μ' : Mem} {r : Int32} (hQ : RQ X 0 0 μ0 (some (vI r)) μ') (hR : xR X = { frames := 1, cells := 0, slots := 0, locals := 25 }) (hI : X.2.2.2.2.2.2.2.2.2.2.2.1.name = "squareTo")  (n : Nat) : ∀ (v0 : Option Nat) (v1 : Int32) (v2 : Int32) (v3 : Int32) (v4 : Int32) (μ : Mem) (h : B_Co_squareTo_6  n v0 v1 v2 v3 v4 μ = some (r, μ')), WM X 5 6 [(0, vR v0), (1, vI v1), (2, vI v2), (3, vI v3), (4, vI v4)] [] 0 0 μ := by
  induction n with
  | zero => intro v0 v1 v2 v3 v4 μ h; cases h
  | succ n ih =>
    intro v0 v1 v2 v3 v4 μ h
    have h : (b1 (gI μ v0 2 0) (fun x9 => if x9 ≤ v4 then some (v3, μ) else b1 (rc μ v0 2) (fun _ => b2 (S_Co_squareFrom v0 v4 v1 v2 μ) (fun x21 m21 => b2 (S_Ma_min v3 x21 m21) (fun x24 m24 => (fun v0 v1 v2 v3 v4 μ => B_Co_squareTo_6 n v0 v1 v2 v3 v4 μ) v0 v1 v2 x24 (v4 + 1) m24))))) = some (r, μ') := h
    refine wm_iload E dCo_squareTo_6 (j := 4) rfl ?_
    refine wm_aload_n E dCo_squareTo_8 rfl (j := 0) rfl ?_
    refine wm_gI E fd_Co_9 h dCo_squareTo_9 (fun x9 h => ?_)
    refine wm_icmp_ge (tgt := 34) E dCo_squareTo_12 (by decide) (fun c12 => ?_) (fun c12 => ?_)
    · have h := (if_pos c12).symm.trans h
      refine wm_iload_n E dCo_squareTo_34 rfl (j := 3) rfl ?_
      exact wm_iret (rt := .int) E hQ (rtI h) (rtM h) (by decide) (by decide) dCo_squareTo_35
    · have h := (if_neg c12).symm.trans h
      refine wm_iload_n E dCo_squareTo_15 rfl (j := 3) rfl ?_
      refine wm_aload_n E dCo_squareTo_16 rfl (j := 0) rfl ?_
      refine wm_iload E dCo_squareTo_17 (j := 4) rfl ?_
      refine wm_iload_n E dCo_squareTo_19 rfl (j := 1) rfl ?_
      refine wm_iload_n E dCo_squareTo_20 rfl (j := 2) rfl ?_
      obtain ⟨u21, hr21, h⟩ := b1S h
      obtain ⟨x21, m21, hc21, h⟩ := b2S h
      refine wm_cV (ci := 2) (As := [vI v4, vI v1, vI v2]) (st := [vI v3]) E lk_Co_37 rfl im_Co_squareFrom sl_Co_squareFrom hr21 (C_Co_squareFrom (xl X) X.1 v0 v4 v1 v2 μ _ _ hc21) rfl rfl (by rw [hR]; decide) (by rw [hR]; decide) (Nat.le_of_ble_eq_true rfl) dCo_squareTo_21 ?_
      obtain ⟨x24, m24, hc24, h⟩ := b2S h
      refine wm_cS (As := [vI v3, vI x21]) (st := []) E lk_Co_41 sc_Ma_min (C_Ma_min (xl X) X.1 v3 x21 m21 _ _ hc24) rfl rfl (by rw [hR]; decide) (by rw [hR]; decide) (Nat.le_of_ble_eq_true rfl) dCo_squareTo_24 ?_
      refine wm_istore_n (lv' := [(3, vI x24), (0, vR v0), (1, vI v1), (2, vI v2), (4, vI v4)]) E dCo_squareTo_27 rfl (by decide) rfl ?_
      refine wm_iinc (lv' := [(4, vI (v4 + 1)), (3, vI x24), (0, vR v0), (1, vI v1), (2, vI v2)]) (d := 1) E dCo_squareTo_28 (by decide) (j := 4) rfl (by decide) rfl ?_
      refine wm_goto (tgt := 6) E dCo_squareTo_31 (by decide) ?_
      refine wm_pick (lv' := [(0, vR v0), (1, vI v1), (2, vI v2), (3, vI x24), (4, vI (v4 + 1))]) [2, 3, 4, 1, 0] rfl ?_
      exact ih v0 v1 v2 x24 (v4 + 1) m24 h
def S_Co_squareTo (v0 : Option Nat) (v1 : Int32) (v2 : Int32) (μ : Mem) : Option (Int32 × Mem) := B_Co_squareTo_6 fu v0 v1 v2 1073741824 0 μ
set_option maxHeartbeats 4000000 in
set_option maxRecDepth 100000 in
theorem C_Co_squareTo (l : Launch) (G : GG) (v0 : Option Nat) (v1 : Int32) (v2 : Int32) (μ μ' : Mem) (r : Int32) (h : S_Co_squareTo v0 v1 v2 μ = some (r, μ')) : CT l G y_Co_squareTo prog_3_method_6_code 5 (some .int) 1 0 0 25 μ [vR v0, vI v1, vI v2] (some (vI r)) μ' := by
  refine wm_met (lv := [(0, vR v0), (1, vI v1), (2, vI v2)]) (by decide +kernel) (Nat.le_of_ble_eq_true rfl) rfl (fun X E hQ hR hI => ?_)
  have h : (B_Co_squareTo_6 fu v0 v1 v2 1073741824 0 μ) = some (r, μ') := h
  refine wm_ldc (x := 1073741824) E cn_Co_36 dCo_squareTo_0 ?_
  refine wm_istore_n (lv' := [(3, vI 1073741824), (0, vR v0), (1, vI v1), (2, vI v2)]) E dCo_squareTo_2 rfl (by decide) rfl ?_
  refine wm_iconst (x := 0) E dCo_squareTo_3 (by decide) ?_
  refine wm_istore (lv' := [(4, vI 0), (3, vI 1073741824), (0, vR v0), (1, vI v1), (2, vI v2)]) E dCo_squareTo_4 (by decide) rfl ?_
  refine wm_pick (lv' := [(0, vR v0), (1, vI v1), (2, vI v2), (3, vI 1073741824), (4, vI 0)]) [2, 3, 4, 1, 0] rfl ?_
  exact w_Co_squareTo_6 E hQ hR hI fu v0 v1 v2 1073741824 0 μ h
def B_Lo_compare_21  (s0 : Int32) (μ : Mem) : Option (Int32 × Mem) := some (s0, μ)
set_option maxHeartbeats 4000000 in
set_option maxRecDepth 100000 in
theorem w_Lo_compare_21 {X : CX} (E : EV X prog_22_method_42_code 4 "java/lang/Long" (some .int)) {μ0 μ' : Mem} {r : Int32} (hQ : RQ X 0 0 μ0 (some (vI r)) μ') (hR : xR X = { frames := 0, cells := 0, slots := 0, locals := 0 }) (hI : X.2.2.2.2.2.2.2.2.2.2.2.1.name = "compare")  (s0 : Int32) (μ : Mem) (h : B_Lo_compare_21  s0 μ = some (r, μ')) : WM X 4 21 [] [vI s0] 0 0 μ := by
  have h : (some (s0, μ)) = some (r, μ') := h
  exact wm_iret (rt := .int) E hQ (rtI h) (rtM h) (by decide) (by decide) dLo_compare_21
def S_Lo_compare (v0 : Int64) (v2 : Int64) (μ : Mem) : Option (Int32 × Mem) := if 0 ≤ (lg_cmp v0 v2) then if (lg_cmp v0 v2) = 0 then B_Lo_compare_21 0 μ else B_Lo_compare_21 1 μ else B_Lo_compare_21 ((-1)) μ
set_option maxHeartbeats 4000000 in
set_option maxRecDepth 100000 in
theorem C_Lo_compare (l : Launch) (G : GG) (v0 : Int64) (v2 : Int64) (μ μ' : Mem) (r : Int32) (h : S_Lo_compare v0 v2 μ = some (r, μ')) : CT l G y_Lo_compare prog_22_method_42_code 4 (some .int) 0 0 0 0 μ [vL v0, vL v2] (some (vI r)) μ' := by
  refine wm_met (lv := [(0, vL v0), (2, vL v2)]) (by decide +kernel) (Nat.le_of_ble_eq_true rfl) rfl (fun X E hQ hR hI => ?_)
  have h : (if 0 ≤ (lg_cmp v0 v2) then if (lg_cmp v0 v2) = 0 then B_Lo_compare_21 0 μ else B_Lo_compare_21 1 μ else B_Lo_compare_21 ((-1)) μ) = some (r, μ') := h
  refine wm_lload_n E dLo_compare_0 rfl (j := 0) rfl ?_
  refine wm_lload_n E dLo_compare_1 rfl (j := 1) rfl ?_
  refine wm_lcmp E dLo_compare_2 ?_
  refine wm_if_ge (tgt := 10) E dLo_compare_3 (by decide) (fun c3 => ?_) (fun c3 => ?_)
  · have h := (if_pos c3).symm.trans h
    refine wm_lload_n E dLo_compare_10 rfl (j := 0) rfl ?_
    refine wm_lload_n E dLo_compare_11 rfl (j := 1) rfl ?_
    refine wm_lcmp E dLo_compare_12 ?_
    refine wm_if_ne (tgt := 20) E dLo_compare_13 (by decide) (fun c13 => ?_) (fun c13 => ?_)
    · have h := (if_neg c13).symm.trans h
      refine wm_iconst (x := 1) E dLo_compare_20 (by decide) ?_
      refine wm_pick (lv' := []) [] rfl ?_
      exact w_Lo_compare_21 E hQ hR hI 1 μ h
    · have h := (if_pos c13).symm.trans h
      refine wm_iconst (x := 0) E dLo_compare_16 (by decide) ?_
      refine wm_goto (tgt := 21) E dLo_compare_17 (by decide) ?_
      refine wm_pick (lv' := []) [] rfl ?_
      exact w_Lo_compare_21 E hQ hR hI 0 μ h
  · have h := (if_neg c3).symm.trans h
    refine wm_iconst (x := -1) E dLo_compare_6 (by decide) ?_
    refine wm_goto (tgt := 21) E dLo_compare_7 (by decide) ?_
    refine wm_pick (lv' := []) [] rfl ?_
    exact w_Lo_compare_21 E hQ hR hI ((-1)) μ h
def B_Rs_takeIfBetter_107   (μ : Mem) : Option (Unit × Mem) := some ((), μ)
set_option maxHeartbeats 4000000 in
set_option maxRecDepth 100000 in
theorem w_Rs_takeIfBetter_107 {X : CX} (E : EV X prog_9_method_4_code 10 "PlaceFinder$RouteSearch" none) {μ0 μ' : Mem} {r : Unit} (hQ : RQ X 0 0 μ0 none μ') (hR : xR X = { frames := 1, cells := 0, slots := 0, locals := 23 }) (hI : X.2.2.2.2.2.2.2.2.2.2.2.1.name = "takeIfBetter")   (μ : Mem) (h : B_Rs_takeIfBetter_107   μ = some (r, μ')) : WM X 10 107 [] [] 0 0 μ := by
  have h : (some ((), μ)) = some (r, μ') := h
  exact wm_vret E hQ rfl (rtM h) (by decide) (by decide) dRs_takeIfBetter_107
def B_Rs_takeIfBetter_75  (v0 : Option Nat) (v1 : Int32) (v2 : Int32) (v3 : Int64) (v5 : Int64) (v7 : Int64) (μ : Mem) : Option (Unit × Mem) := b1 (pZ μ v0 8 0 1) (fun m77 => b1 (pV m77 v0 8 1 (vI v1)) (fun m82 => b1 (pV m82 v0 8 2 (vI v2)) (fun m87 => b1 (pV m87 v0 8 3 (vL v3)) (fun m92 => b1 (pV m92 v0 8 4 (vL v5)) (fun m98 => b1 (pV m98 v0 8 5 (vL v7)) (fun m104 => B_Rs_takeIfBetter_107 m104))))))
set_option maxHeartbeats 4000000 in
set_option maxRecDepth 100000 in
theorem w_Rs_takeIfBetter_75 {X : CX} (E : EV X prog_9_method_4_code 10 "PlaceFinder$RouteSearch" none) {μ0 μ' : Mem} {r : Unit} (hQ : RQ X 0 0 μ0 none μ') (hR : xR X = { frames := 1, cells := 0, slots := 0, locals := 23 }) (hI : X.2.2.2.2.2.2.2.2.2.2.2.1.name = "takeIfBetter")  (v0 : Option Nat) (v1 : Int32) (v2 : Int32) (v3 : Int64) (v5 : Int64) (v7 : Int64) (μ : Mem) (h : B_Rs_takeIfBetter_75  v0 v1 v2 v3 v5 v7 μ = some (r, μ')) : WM X 10 75 [(0, vR v0), (1, vI v1), (2, vI v2), (3, vL v3), (5, vL v5), (7, vL v7)] [] 0 0 μ := by
  have h : (b1 (pZ μ v0 8 0 1) (fun m77 => b1 (pV m77 v0 8 1 (vI v1)) (fun m82 => b1 (pV m82 v0 8 2 (vI v2)) (fun m87 => b1 (pV m87 v0 8 3 (vL v3)) (fun m92 => b1 (pV m92 v0 8 4 (vL v5)) (fun m98 => b1 (pV m98 v0 8 5 (vL v7)) (fun m104 => B_Rs_takeIfBetter_107 m104))))))) = some (r, μ') := h
  refine wm_aload_n E dRs_takeIfBetter_75 rfl (j := 0) rfl ?_
  refine wm_iconst (x := 1) E dRs_takeIfBetter_76 (by decide) ?_
  refine wm_pZ E fp_Rs_7 (fun q => by cases q) h dRs_takeIfBetter_77 (fun m77 h => ?_)
  refine wm_aload_n E dRs_takeIfBetter_80 rfl (j := 0) rfl ?_
  refine wm_iload_n E dRs_takeIfBetter_81 rfl (j := 1) rfl ?_
  refine wm_pI E fp_Rs_54 (fun q => by cases q) h dRs_takeIfBetter_82 (fun m82 h => ?_)
  refine wm_aload_n E dRs_takeIfBetter_85 rfl (j := 0) rfl ?_
  refine wm_iload_n E dRs_takeIfBetter_86 rfl (j := 2) rfl ?_
  refine wm_pI E fp_Rs_57 (fun q => by cases q) h dRs_takeIfBetter_87 (fun m87 h => ?_)
  refine wm_aload_n E dRs_takeIfBetter_90 rfl (j := 0) rfl ?_
  refine wm_lload_n E dRs_takeIfBetter_91 rfl (j := 3) rfl ?_
  refine wm_pL E fp_Rs_38 (fun q => by cases q) h dRs_takeIfBetter_92 (fun m92 h => ?_)
  refine wm_aload_n E dRs_takeIfBetter_95 rfl (j := 0) rfl ?_
  refine wm_lload E dRs_takeIfBetter_96 (j := 4) rfl ?_
  refine wm_pL E fp_Rs_51 (fun q => by cases q) h dRs_takeIfBetter_98 (fun m98 h => ?_)
  refine wm_aload_n E dRs_takeIfBetter_101 rfl (j := 0) rfl ?_
  refine wm_lload E dRs_takeIfBetter_102 (j := 5) rfl ?_
  refine wm_pL E fp_Rs_48 (fun q => by cases q) h dRs_takeIfBetter_104 (fun m104 h => ?_)
  refine wm_pick (lv' := []) [] rfl ?_
  exact w_Rs_takeIfBetter_107 E hQ hR hI m104 h
def B_Rs_takeIfBetter_49  (v0 : Option Nat) (v1 : Int32) (v2 : Int32) (v3 : Int64) (v5 : Int64) (v7 : Int64) (v9 : Int32) (μ : Mem) : Option (Unit × Mem) := if v9 < 0 then B_Rs_takeIfBetter_75 v0 v1 v2 v3 v5 v7 μ else if v9 = 0 then b1 (gI μ v0 8 1) (fun x61 => if v1 = x61 then b1 (gI μ v0 8 2) (fun x69 => if x69 ≤ v2 then B_Rs_takeIfBetter_107 μ else B_Rs_takeIfBetter_75 v0 v1 v2 v3 v5 v7 μ) else B_Rs_takeIfBetter_107 μ) else B_Rs_takeIfBetter_107 μ
set_option maxHeartbeats 4000000 in
set_option maxRecDepth 100000 in
theorem w_Rs_takeIfBetter_49 {X : CX} (E : EV X prog_9_method_4_code 10 "PlaceFinder$RouteSearch" none) {μ0 μ' : Mem} {r : Unit} (hQ : RQ X 0 0 μ0 none μ') (hR : xR X = { frames := 1, cells := 0, slots := 0, locals := 23 }) (hI : X.2.2.2.2.2.2.2.2.2.2.2.1.name = "takeIfBetter")  (v0 : Option Nat) (v1 : Int32) (v2 : Int32) (v3 : Int64) (v5 : Int64) (v7 : Int64) (v9 : Int32) (μ : Mem) (h : B_Rs_takeIfBetter_49  v0 v1 v2 v3 v5 v7 v9 μ = some (r, μ')) : WM X 10 49 [(0, vR v0), (1, vI v1), (2, vI v2), (3, vL v3), (5, vL v5), (7, vL v7), (9, vI v9)] [] 0 0 μ := by
  have h : (if v9 < 0 then B_Rs_takeIfBetter_75 v0 v1 v2 v3 v5 v7 μ else if v9 = 0 then b1 (gI μ v0 8 1) (fun x61 => if v1 = x61 then b1 (gI μ v0 8 2) (fun x69 => if x69 ≤ v2 then B_Rs_takeIfBetter_107 μ else B_Rs_takeIfBetter_75 v0 v1 v2 v3 v5 v7 μ) else B_Rs_takeIfBetter_107 μ) else B_Rs_takeIfBetter_107 μ) = some (r, μ') := h
  refine wm_iload E dRs_takeIfBetter_49 (j := 6) rfl ?_
  refine wm_if_lt (tgt := 75) E dRs_takeIfBetter_51 (by decide) (fun c51 => ?_) (fun c51 => ?_)
  · have h := (if_pos c51).symm.trans h
    refine wm_pick (lv' := [(0, vR v0), (1, vI v1), (2, vI v2), (3, vL v3), (5, vL v5), (7, vL v7)]) [0, 1, 2, 3, 4, 5] rfl ?_
    exact w_Rs_takeIfBetter_75 E hQ hR hI v0 v1 v2 v3 v5 v7 μ h
  · have h := (if_neg c51).symm.trans h
    refine wm_iload E dRs_takeIfBetter_54 (j := 6) rfl ?_
    refine wm_if_ne (tgt := 107) E dRs_takeIfBetter_56 (by decide) (fun c56 => ?_) (fun c56 => ?_)
    · have h := (if_neg c56).symm.trans h
      refine wm_pick (lv' := []) [] rfl ?_
      exact w_Rs_takeIfBetter_107 E hQ hR hI μ h
    · have h := (if_pos c56).symm.trans h
      refine wm_iload_n E dRs_takeIfBetter_59 rfl (j := 1) rfl ?_
      refine wm_aload_n E dRs_takeIfBetter_60 rfl (j := 0) rfl ?_
      refine wm_gI E fd_Rs_54 h dRs_takeIfBetter_61 (fun x61 h => ?_)
      refine wm_icmp_ne (tgt := 107) E dRs_takeIfBetter_64 (by decide) (fun c64 => ?_) (fun c64 => ?_)
      · have h := (if_neg c64).symm.trans h
        refine wm_pick (lv' := []) [] rfl ?_
        exact w_Rs_takeIfBetter_107 E hQ hR hI μ h
      · have h := (if_pos c64).symm.trans h
        refine wm_iload_n E dRs_takeIfBetter_67 rfl (j := 2) rfl ?_
        refine wm_aload_n E dRs_takeIfBetter_68 rfl (j := 0) rfl ?_
        refine wm_gI E fd_Rs_57 h dRs_takeIfBetter_69 (fun x69 h => ?_)
        refine wm_icmp_ge (tgt := 107) E dRs_takeIfBetter_72 (by decide) (fun c72 => ?_) (fun c72 => ?_)
        · have h := (if_pos c72).symm.trans h
          refine wm_pick (lv' := []) [] rfl ?_
          exact w_Rs_takeIfBetter_107 E hQ hR hI μ h
        · have h := (if_neg c72).symm.trans h
          refine wm_pick (lv' := [(0, vR v0), (1, vI v1), (2, vI v2), (3, vL v3), (5, vL v5), (7, vL v7)]) [0, 1, 2, 3, 4, 5] rfl ?_
          exact w_Rs_takeIfBetter_75 E hQ hR hI v0 v1 v2 v3 v5 v7 μ h
def B_Rs_takeIfBetter_47  (v0 : Option Nat) (v1 : Int32) (v2 : Int32) (v3 : Int64) (v5 : Int64) (v7 : Int64) (s0 : Int32) (μ : Mem) : Option (Unit × Mem) := B_Rs_takeIfBetter_49 v0 v1 v2 v3 v5 v7 s0 μ
set_option maxHeartbeats 4000000 in
set_option maxRecDepth 100000 in
theorem w_Rs_takeIfBetter_47 {X : CX} (E : EV X prog_9_method_4_code 10 "PlaceFinder$RouteSearch" none) {μ0 μ' : Mem} {r : Unit} (hQ : RQ X 0 0 μ0 none μ') (hR : xR X = { frames := 1, cells := 0, slots := 0, locals := 23 }) (hI : X.2.2.2.2.2.2.2.2.2.2.2.1.name = "takeIfBetter")  (v0 : Option Nat) (v1 : Int32) (v2 : Int32) (v3 : Int64) (v5 : Int64) (v7 : Int64) (s0 : Int32) (μ : Mem) (h : B_Rs_takeIfBetter_47  v0 v1 v2 v3 v5 v7 s0 μ = some (r, μ')) : WM X 10 47 [(0, vR v0), (1, vI v1), (2, vI v2), (3, vL v3), (5, vL v5), (7, vL v7)] [vI s0] 0 0 μ := by
  have h : (B_Rs_takeIfBetter_49 v0 v1 v2 v3 v5 v7 s0 μ) = some (r, μ') := h
  refine wm_istore (lv' := [(9, vI s0), (0, vR v0), (1, vI v1), (2, vI v2), (3, vL v3), (5, vL v5), (7, vL v7)]) E dRs_takeIfBetter_47 (by decide) rfl ?_
  refine wm_pick (lv' := [(0, vR v0), (1, vI v1), (2, vI v2), (3, vL v3), (5, vL v5), (7, vL v7), (9, vI s0)]) [1, 2, 3, 4, 5, 6, 0] rfl ?_
  exact w_Rs_takeIfBetter_49 E hQ hR hI v0 v1 v2 v3 v5 v7 s0 μ h
def S_Rs_takeIfBetter (v0 : Option Nat) (v1 : Int32) (v2 : Int32) (v3 : Int64) (v5 : Int64) (v7 : Int64) (μ : Mem) : Option (Unit × Mem) := b0 ((-1)) (fun x1 => b1 (gI μ v0 8 0) (fun x4 => if x4 = 0 then B_Rs_takeIfBetter_49 v0 v1 v2 v3 v5 v7 x1 μ else b1 (gL μ v0 8 3) (fun x12 => if (lg_cmp v3 x12) = 0 then b1 (gL μ v0 8 5) (fun x33 => b1 (gL μ v0 8 4) (fun x38 => b2 (S_Lo_compare (v5 * x33) (x38 * v7) μ) (fun x44 m44 => B_Rs_takeIfBetter_47 v0 v1 v2 v3 v5 v7 x44 m44))) else b1 (gL μ v0 8 3) (fun x21 => b2 (S_Lo_compare v3 x21 μ) (fun x24 m24 => B_Rs_takeIfBetter_47 v0 v1 v2 v3 v5 v7 x24 m24)))))
set_option maxHeartbeats 4000000 in
set_option maxRecDepth 100000 in
theorem C_Rs_takeIfBetter (l : Launch) (G : GG) (v0 : Option Nat) (v1 : Int32) (v2 : Int32) (v3 : Int64) (v5 : Int64) (v7 : Int64) (μ μ' : Mem) (r : Unit) (h : S_Rs_takeIfBetter v0 v1 v2 v3 v5 v7 μ = some (r, μ')) : CT l G y_Rs_takeIfBetter prog_9_method_4_code 10 none 1 0 0 23 μ [vR v0, vI v1, vI v2, vL v3, vL v5, vL v7] none μ' := by
  refine wm_met (lv := [(0, vR v0), (1, vI v1), (2, vI v2), (3, vL v3), (5, vL v5), (7, vL v7)]) (by decide +kernel) (Nat.le_of_ble_eq_true rfl) rfl (fun X E hQ hR hI => ?_)
  have h : (b0 ((-1)) (fun x1 => b1 (gI μ v0 8 0) (fun x4 => if x4 = 0 then B_Rs_takeIfBetter_49 v0 v1 v2 v3 v5 v7 x1 μ else b1 (gL μ v0 8 3) (fun x12 => if (lg_cmp v3 x12) = 0 then b1 (gL μ v0 8 5) (fun x33 => b1 (gL μ v0 8 4) (fun x38 => b2 (S_Lo_compare (v5 * x33) (x38 * v7) μ) (fun x44 m44 => B_Rs_takeIfBetter_47 v0 v1 v2 v3 v5 v7 x44 m44))) else b1 (gL μ v0 8 3) (fun x21 => b2 (S_Lo_compare v3 x21 μ) (fun x24 m24 => B_Rs_takeIfBetter_47 v0 v1 v2 v3 v5 v7 x24 m24)))))) = some (r, μ') := h
  refine wm_iconst (x := -1) E dRs_takeIfBetter_0 (by decide) ?_
  refine wm_letI h (fun x1 h => ?_)
  refine wm_istore (lv' := [(9, vI x1), (0, vR v0), (1, vI v1), (2, vI v2), (3, vL v3), (5, vL v5), (7, vL v7)]) E dRs_takeIfBetter_1 (by decide) rfl ?_
  refine wm_aload_n E dRs_takeIfBetter_3 rfl (j := 1) rfl ?_
  refine wm_gI E fd_Rs_7 h dRs_takeIfBetter_4 (fun x4 h => ?_)
  refine wm_if_eq (tgt := 49) E dRs_takeIfBetter_7 (by decide) (fun c7 => ?_) (fun c7 => ?_)
  · have h := (if_pos c7).symm.trans h
    refine wm_pick (lv' := [(0, vR v0), (1, vI v1), (2, vI v2), (3, vL v3), (5, vL v5), (7, vL v7), (9, vI x1)]) [1, 2, 3, 4, 5, 6, 0] rfl ?_
    exact w_Rs_takeIfBetter_49 E hQ hR hI v0 v1 v2 v3 v5 v7 x1 μ h
  · have h := (if_neg c7).symm.trans h
    refine wm_lload_n E dRs_takeIfBetter_10 rfl (j := 4) rfl ?_
    refine wm_aload_n E dRs_takeIfBetter_11 rfl (j := 1) rfl ?_
    refine wm_gL E fd_Rs_38 h dRs_takeIfBetter_12 (fun x12 h => ?_)
    refine wm_lcmp E dRs_takeIfBetter_15 ?_
    refine wm_if_eq (tgt := 30) E dRs_takeIfBetter_16 (by decide) (fun c16 => ?_) (fun c16 => ?_)
    · have h := (if_pos c16).symm.trans h
      refine wm_lload E dRs_takeIfBetter_30 (j := 5) rfl ?_
      refine wm_aload_n E dRs_takeIfBetter_32 rfl (j := 1) rfl ?_
      refine wm_gL E fd_Rs_48 h dRs_takeIfBetter_33 (fun x33 h => ?_)
      refine wm_lmul E dRs_takeIfBetter_36 ?_
      refine wm_aload_n E dRs_takeIfBetter_37 rfl (j := 1) rfl ?_
      refine wm_gL E fd_Rs_51 h dRs_takeIfBetter_38 (fun x38 h => ?_)
      refine wm_lload E dRs_takeIfBetter_41 (j := 6) rfl ?_
      refine wm_lmul E dRs_takeIfBetter_43 ?_
      obtain ⟨x44, m44, hc44, h⟩ := b2S h
      refine wm_cS (As := [vL (v5 * x33), vL (x38 * v7)]) (st := []) E lk_Rs_42 sc_Lo_compare (C_Lo_compare (xl X) X.1 (v5 * x33) (x38 * v7) μ _ _ hc44) rfl rfl (by rw [hR]; decide) (by rw [hR]; decide) (Nat.le_of_ble_eq_true rfl) dRs_takeIfBetter_44 ?_
      refine wm_pick (lv' := [(0, vR v0), (1, vI v1), (2, vI v2), (3, vL v3), (5, vL v5), (7, vL v7)]) [1, 2, 3, 4, 5, 6] rfl ?_
      exact w_Rs_takeIfBetter_47 E hQ hR hI v0 v1 v2 v3 v5 v7 x44 m44 h
    · have h := (if_neg c16).symm.trans h
      refine wm_lload_n E dRs_takeIfBetter_19 rfl (j := 4) rfl ?_
      refine wm_aload_n E dRs_takeIfBetter_20 rfl (j := 1) rfl ?_
      refine wm_gL E fd_Rs_38 h dRs_takeIfBetter_21 (fun x21 h => ?_)
      obtain ⟨x24, m24, hc24, h⟩ := b2S h
      refine wm_cS (As := [vL v3, vL x21]) (st := []) E lk_Rs_42 sc_Lo_compare (C_Lo_compare (xl X) X.1 v3 x21 μ _ _ hc24) rfl rfl (by rw [hR]; decide) (by rw [hR]; decide) (Nat.le_of_ble_eq_true rfl) dRs_takeIfBetter_24 ?_
      refine wm_goto (tgt := 47) E dRs_takeIfBetter_27 (by decide) ?_
      refine wm_pick (lv' := [(0, vR v0), (1, vI v1), (2, vI v2), (3, vL v3), (5, vL v5), (7, vL v7)]) [1, 2, 3, 4, 5, 6] rfl ?_
      exact w_Rs_takeIfBetter_47 E hQ hR hI v0 v1 v2 v3 v5 v7 x24 m24 h
