def B_Ec_count_13 (k2 : Option Nat → Option Nat → Option Nat → Int32 → Mem → Option (Int32 × Mem)) : Nat → Option Nat → Option Nat → Option Nat → Int32 → Int32 → Mem → Option (Int32 × Mem)
  | 0, _, _, _, _, _, _ => none
  | n + 1, v0, v1, v2, v3, v4, μ => b1 (gI μ v2 10 1) (fun x16 => if x16 < v4 then k2 v0 v1 v2 (v3 + 1) μ else b1 (gR μ v0 3 0) (fun x23 => b1 (aR μ x23 6 v3) (fun x27 => b1 (gR μ v1 10 0) (fun x32 => b1 (gR μ v2 10 0) (fun x37 => b1 (rc μ v0 3) (fun _ => b1 (S_Ec_leastFor v0 x32 v3 x37 v4 μ) (fun x42 => b1 (sI μ x27 0 v4 x42) (fun m45 => (fun v0 v1 v2 v3 v4 μ => B_Ec_count_13 k2 n v0 v1 v2 v3 v4 μ) v0 v1 v2 v3 (v4 + 1) m45))))))))
set_option maxHeartbeats 4000000 in
set_option maxRecDepth 100000 in
theorem w_Ec_count_13 {X : CX} (E : EV X prog_4_method_2_code 5 "PlaceFinder$ErrorCounter" (some .int)) {μ0 μ' : Mem} {r : Int32} (hQ : RQ X 0 0 μ0 (some (vI r)) μ') (hR : xR X = { frames := 2, cells := 0, slots := 0, locals := 49 }) (hI : X.2.2.2.2.2.2.2.2.2.2.2.1.name = "count") (k2 : Option Nat → Option Nat → Option Nat → Int32 → Mem → Option (Int32 × Mem)) (hk2 : ∀ (v0 : Option Nat) (v1 : Option Nat) (v2 : Option Nat) (v3 : Int32) (μ : Mem), k2 v0 v1 v2 v3 μ = some (r, μ') → WM X 5 2 [(0, vR v0), (1, vR v1), (2, vR v2), (3, vI v3)] [] 0 0 μ) (n : Nat) : ∀ (v0 : Option Nat) (v1 : Option Nat) (v2 : Option Nat) (v3 : Int32) (v4 : Int32) (μ : Mem) (h : B_Ec_count_13 k2 n v0 v1 v2 v3 v4 μ = some (r, μ')), WM X 5 13 [(0, vR v0), (1, vR v1), (2, vR v2), (3, vI v3), (4, vI v4)] [] 0 0 μ := by
  induction n with
  | zero => intro v0 v1 v2 v3 v4 μ h; cases h
  | succ n ih =>
    intro v0 v1 v2 v3 v4 μ h
    have h : (b1 (gI μ v2 10 1) (fun x16 => if x16 < v4 then k2 v0 v1 v2 (v3 + 1) μ else b1 (gR μ v0 3 0) (fun x23 => b1 (aR μ x23 6 v3) (fun x27 => b1 (gR μ v1 10 0) (fun x32 => b1 (gR μ v2 10 0) (fun x37 => b1 (rc μ v0 3) (fun _ => b1 (S_Ec_leastFor v0 x32 v3 x37 v4 μ) (fun x42 => b1 (sI μ x27 0 v4 x42) (fun m45 => (fun v0 v1 v2 v3 v4 μ => B_Ec_count_13 k2 n v0 v1 v2 v3 v4 μ) v0 v1 v2 v3 (v4 + 1) m45))))))))) = some (r, μ') := h
    refine wm_iload E dEc_count_13 (j := 4) rfl ?_
    refine wm_aload_n E dEc_count_15 rfl (j := 2) rfl ?_
    refine wm_gI E fd_Ec_16 h dEc_count_16 (fun x16 h => ?_)
    refine wm_icmp_gt (tgt := 52) E dEc_count_19 (by decide) (fun c19 => ?_) (fun c19 => ?_)
    · have h := (if_pos c19).symm.trans h
      refine wm_iinc (lv' := [(3, vI (v3 + 1)), (0, vR v0), (1, vR v1), (2, vR v2), (4, vI v4)]) (d := 1) E dEc_count_52 (by decide) (j := 3) rfl (by decide) rfl ?_
      refine wm_goto (tgt := 2) E dEc_count_55 (by decide) ?_
      refine wm_pick (lv' := [(0, vR v0), (1, vR v1), (2, vR v2), (3, vI (v3 + 1))]) [1, 2, 3, 0] rfl ?_
      exact hk2 v0 v1 v2 (v3 + 1) μ h
    · have h := (if_neg c19).symm.trans h
      refine wm_aload_n E dEc_count_22 rfl (j := 0) rfl ?_
      refine wm_gR E fd_Ec_11 h dEc_count_23 (fun x23 h => ?_)
      refine wm_iload_n E dEc_count_26 rfl (j := 3) rfl ?_
      refine wm_aald (t := 6) E rfl rfl h dEc_count_27 (fun x27 h => ?_)
      refine wm_iload E dEc_count_28 (j := 4) rfl ?_
      refine wm_aload_n E dEc_count_30 rfl (j := 0) rfl ?_
      refine wm_aload_n E dEc_count_31 rfl (j := 1) rfl ?_
      refine wm_gR E fd_Ec_22 h dEc_count_32 (fun x32 h => ?_)
      refine wm_iload_n E dEc_count_35 rfl (j := 3) rfl ?_
      refine wm_aload_n E dEc_count_36 rfl (j := 2) rfl ?_
      refine wm_gR E fd_Ec_22 h dEc_count_37 (fun x37 h => ?_)
      refine wm_iload E dEc_count_40 (j := 4) rfl ?_
      obtain ⟨u42, hr42, h⟩ := b1S h
      obtain ⟨x42, hc42, h⟩ := b1S h
      refine wm_cV (ci := 3) (As := [vR x32, vI v3, vR x37, vI v4]) (st := [vI v4, vR x27]) E lk_Ec_26 rfl im_Ec_leastFor sl_Ec_leastFor hr42 (C_Ec_leastFor (xl X) X.1 v0 x32 v3 x37 v4 μ _ hc42) rfl rfl (by rw [hR]; decide) (by rw [hR]; decide) (Nat.le_of_ble_eq_true rfl) dEc_count_42 ?_
      refine wm_iast (t := 0) E rfl h dEc_count_45 (fun m45 h => ?_)
      refine wm_iinc (lv' := [(4, vI (v4 + 1)), (0, vR v0), (1, vR v1), (2, vR v2), (3, vI v3)]) (d := 1) E dEc_count_46 (by decide) (j := 4) rfl (by decide) rfl ?_
      refine wm_goto (tgt := 13) E dEc_count_49 (by decide) ?_
      refine wm_pick (lv' := [(0, vR v0), (1, vR v1), (2, vR v2), (3, vI v3), (4, vI (v4 + 1))]) [1, 2, 3, 4, 0] rfl ?_
      exact ih v0 v1 v2 v3 (v4 + 1) m45 h
def B_Ec_count_2  : Nat → Option Nat → Option Nat → Option Nat → Int32 → Mem → Option (Int32 × Mem)
  | 0, _, _, _, _, _ => none
  | n + 1, v0, v1, v2, v3, μ => b1 (gI μ v1 10 1) (fun x4 => if x4 < v3 then b1 (gR μ v0 3 0) (fun x59 => b1 (gI μ v1 10 1) (fun x63 => b1 (aR μ x59 6 x63) (fun x66 => b1 (gI μ v2 10 1) (fun x68 => b1 (aI μ x66 0 x68) (fun x71 => some (x71, μ)))))) else B_Ec_count_13 (fun v0 v1 v2 v3 μ => B_Ec_count_2 n v0 v1 v2 v3 μ) fu v0 v1 v2 v3 0 μ)
set_option maxHeartbeats 4000000 in
set_option maxRecDepth 100000 in
theorem w_Ec_count_2 {X : CX} (E : EV X prog_4_method_2_code 5 "PlaceFinder$ErrorCounter" (some .int)) {μ0 μ' : Mem} {r : Int32} (hQ : RQ X 0 0 μ0 (some (vI r)) μ') (hR : xR X = { frames := 2, cells := 0, slots := 0, locals := 49 }) (hI : X.2.2.2.2.2.2.2.2.2.2.2.1.name = "count")  (n : Nat) : ∀ (v0 : Option Nat) (v1 : Option Nat) (v2 : Option Nat) (v3 : Int32) (μ : Mem) (h : B_Ec_count_2  n v0 v1 v2 v3 μ = some (r, μ')), WM X 5 2 [(0, vR v0), (1, vR v1), (2, vR v2), (3, vI v3)] [] 0 0 μ := by
  induction n with
  | zero => intro v0 v1 v2 v3 μ h; cases h
  | succ n ih =>
    intro v0 v1 v2 v3 μ h
    have h : (b1 (gI μ v1 10 1) (fun x4 => if x4 < v3 then b1 (gR μ v0 3 0) (fun x59 => b1 (gI μ v1 10 1) (fun x63 => b1 (aR μ x59 6 x63) (fun x66 => b1 (gI μ v2 10 1) (fun x68 => b1 (aI μ x66 0 x68) (fun x71 => some (x71, μ)))))) else B_Ec_count_13 (fun v0 v1 v2 v3 μ => B_Ec_count_2 n v0 v1 v2 v3 μ) fu v0 v1 v2 v3 0 μ)) = some (r, μ') := h
    refine wm_iload_n E dEc_count_2 rfl (j := 3) rfl ?_
    refine wm_aload_n E dEc_count_3 rfl (j := 1) rfl ?_
    refine wm_gI E fd_Ec_16 h dEc_count_4 (fun x4 h => ?_)
    refine wm_icmp_gt (tgt := 58) E dEc_count_7 (by decide) (fun c7 => ?_) (fun c7 => ?_)
    · have h := (if_pos c7).symm.trans h
      refine wm_aload_n E dEc_count_58 rfl (j := 0) rfl ?_
      refine wm_gR E fd_Ec_11 h dEc_count_59 (fun x59 h => ?_)
      refine wm_aload_n E dEc_count_62 rfl (j := 1) rfl ?_
      refine wm_gI E fd_Ec_16 h dEc_count_63 (fun x63 h => ?_)
      refine wm_aald (t := 6) E rfl rfl h dEc_count_66 (fun x66 h => ?_)
      refine wm_aload_n E dEc_count_67 rfl (j := 2) rfl ?_
      refine wm_gI E fd_Ec_16 h dEc_count_68 (fun x68 h => ?_)
      refine wm_iald (t := 0) E rfl h dEc_count_71 (fun x71 h => ?_)
      exact wm_iret (rt := .int) E hQ (rtI h) (rtM h) (by decide) (by decide) dEc_count_72
    · have h := (if_neg c7).symm.trans h
      refine wm_iconst (x := 0) E dEc_count_10 (by decide) ?_
      refine wm_istore (lv' := [(4, vI 0), (0, vR v0), (1, vR v1), (2, vR v2), (3, vI v3)]) E dEc_count_11 (by decide) rfl ?_
      refine wm_pick (lv' := [(0, vR v0), (1, vR v1), (2, vR v2), (3, vI v3), (4, vI 0)]) [1, 2, 3, 4, 0] rfl ?_
      exact w_Ec_count_13 E hQ hR hI (fun v0 v1 v2 v3 μ => B_Ec_count_2 n v0 v1 v2 v3 μ) ih fu v0 v1 v2 v3 0 μ h
def S_Ec_count (v0 : Option Nat) (v1 : Option Nat) (v2 : Option Nat) (μ : Mem) : Option (Int32 × Mem) := B_Ec_count_2 fu v0 v1 v2 0 μ
set_option maxHeartbeats 4000000 in
set_option maxRecDepth 100000 in
theorem C_Ec_count (l : Launch) (G : GG) (v0 : Option Nat) (v1 : Option Nat) (v2 : Option Nat) (μ μ' : Mem) (r : Int32) (h : S_Ec_count v0 v1 v2 μ = some (r, μ')) : CT l G y_Ec_count prog_4_method_2_code 5 (some .int) 2 0 0 49 μ [vR v0, vR v1, vR v2] (some (vI r)) μ' := by
  refine wm_met (lv := [(0, vR v0), (1, vR v1), (2, vR v2)]) (by decide +kernel) (Nat.le_of_ble_eq_true rfl) rfl (fun X E hQ hR hI => ?_)
  have h : (B_Ec_count_2 fu v0 v1 v2 0 μ) = some (r, μ') := h
  refine wm_iconst (x := 0) E dEc_count_0 (by decide) ?_
  refine wm_istore_n (lv' := [(3, vI 0), (0, vR v0), (1, vR v1), (2, vR v2)]) E dEc_count_1 rfl (by decide) rfl ?_
  refine wm_pick (lv' := [(0, vR v0), (1, vR v1), (2, vR v2), (3, vI 0)]) [1, 2, 3, 0] rfl ?_
  exact w_Ec_count_2 E hQ hR hI fu v0 v1 v2 0 μ h
def B_St_isLatin1_18 (μ : Mem)   (s0 : Int32) : Option Int32 := gd (¬ okZ s0 = true) (some (s0))
set_option maxHeartbeats 4000000 in
set_option maxRecDepth 100000 in
theorem w_St_isLatin1_18 {X : CX} (E : EV X prog_25_method_154_code 1 "java/lang/String" (some .boolean)) {μ0 μ : Mem} {r : Int32} (hQ : RQ X 0 0 μ0 (some (vI r)) μ) (hR : xR X = { frames := 0, cells := 0, slots := 0, locals := 0 }) (hI : X.2.2.2.2.2.2.2.2.2.2.2.1.name = "isLatin1")  (s0 : Int32) (h : B_St_isLatin1_18 μ  s0 = some r) : WM X 1 18 [] [vI s0] 0 0 μ := by
  have h : (gd (¬ okZ s0 = true) (some (s0))) = some r := h
  obtain ⟨hz18, h⟩ := gdS h
  exact wm_zret (rt := .boolean) E hQ (rqI1 h) rfl (okZN hz18) (by decide) (by decide) dSt_isLatin1_18
def B_St_isLatin1_17 (μ : Mem)    : Option Int32 := B_St_isLatin1_18 μ 0
set_option maxHeartbeats 4000000 in
set_option maxRecDepth 100000 in
theorem w_St_isLatin1_17 {X : CX} (E : EV X prog_25_method_154_code 1 "java/lang/String" (some .boolean)) {μ0 μ : Mem} {r : Int32} (hQ : RQ X 0 0 μ0 (some (vI r)) μ) (hR : xR X = { frames := 0, cells := 0, slots := 0, locals := 0 }) (hI : X.2.2.2.2.2.2.2.2.2.2.2.1.name = "isLatin1")   (h : B_St_isLatin1_17 μ   = some r) : WM X 1 17 [] [] 0 0 μ := by
  have h : (B_St_isLatin1_18 μ 0) = some r := h
  refine wm_iconst (x := 0) E dSt_isLatin1_17 (by decide) ?_
  refine wm_pick (lv' := []) [] rfl ?_
  exact w_St_isLatin1_18 E hQ hR hI 0 h
def S_St_isLatin1 (v0 : Option Nat) (μ : Mem) : Option Int32 := b0 (1 : Int32) (fun x0 => if x0 = 0 then B_St_isLatin1_17 μ  else b1 (gSc μ v0) (fun x7 => if x7 = 0 then B_St_isLatin1_18 μ 1 else B_St_isLatin1_17 μ ))
set_option maxHeartbeats 4000000 in
set_option maxRecDepth 100000 in
theorem C_St_isLatin1 (l : Launch) (G : GG) (v0 : Option Nat) (μ : Mem) (r : Int32) (h : S_St_isLatin1 v0 μ = some r) : CT l G y_St_isLatin1 prog_25_method_154_code 1 (some .boolean) 0 0 0 0 μ [vR v0] (some (vI r)) μ := by
  refine wm_met (lv := [(0, vR v0)]) (by decide +kernel) (Nat.le_of_ble_eq_true rfl) rfl (fun X E hQ hR hI => ?_)
  have h : (b0 (1 : Int32) (fun x0 => if x0 = 0 then B_St_isLatin1_17 μ  else b1 (gSc μ v0) (fun x7 => if x7 = 0 then B_St_isLatin1_18 μ 1 else B_St_isLatin1_17 μ ))) = some r := h
  refine wm_gzC E fl_St_38 dSt_isLatin1_0 ?_
  refine wm_letI h (fun x0 h => ?_)
  refine wm_if_eq (tgt := 17) E dSt_isLatin1_3 (by decide) (fun c3 => ?_) (fun c3 => ?_)
  · have h := (if_pos c3).symm.trans h
    refine wm_pick (lv' := []) [] rfl ?_
    exact w_St_isLatin1_17 E hQ hR hI  h
  · have h := (if_neg c3).symm.trans h
    refine wm_aload_n E dSt_isLatin1_6 rfl (j := 0) rfl ?_
    refine wm_gSc E fl_St_15 h dSt_isLatin1_7 (fun x7 h => ?_)
    refine wm_if_ne (tgt := 17) E dSt_isLatin1_10 (by decide) (fun c10 => ?_) (fun c10 => ?_)
    · have h := (if_neg c10).symm.trans h
      refine wm_pick (lv' := []) [] rfl ?_
      exact w_St_isLatin1_17 E hQ hR hI  h
    · have h := (if_pos c10).symm.trans h
      refine wm_iconst (x := 1) E dSt_isLatin1_13 (by decide) ?_
      refine wm_goto (tgt := 18) E dSt_isLatin1_14 (by decide) ?_
      refine wm_pick (lv' := []) [] rfl ?_
      exact w_St_isLatin1_18 E hQ hR hI 1 h
def S_St_checkIndex (v0 : Int32) (v1 : Int32) (μ : Mem) : Option Unit := b1 (S_Pr_checkIndex v0 v1 (mB μ) μ) (fun x5 => some ())
set_option maxHeartbeats 4000000 in
set_option maxRecDepth 100000 in
theorem C_St_checkIndex (l : Launch) (G : GG) (v0 : Int32) (v1 : Int32) (μ : Mem) (r : Unit) (h : S_St_checkIndex v0 v1 μ = some r) : CT l G y_St_checkIndex prog_25_method_155_code 2 none 1 0 0 22 μ [vI v0, vI v1] none μ := by
  refine wm_met (lv := [(0, vI v0), (1, vI v1)]) (by decide +kernel) (Nat.le_of_ble_eq_true rfl) rfl (fun X E hQ hR hI => ?_)
  have h : (b1 (S_Pr_checkIndex v0 v1 (mB μ) μ) (fun x5 => some ())) = some r := h
  refine wm_iload_n E dSt_checkIndex_0 rfl (j := 0) rfl ?_
  refine wm_iload_n E dSt_checkIndex_1 rfl (j := 1) rfl ?_
  refine wm_gzF E fl_St_1053 dSt_checkIndex_2 ?_
  obtain ⟨x5, hc5, h⟩ := b1S h
  refine wm_cS (As := [vI v0, vI v1, vR (mB μ)]) (st := []) E lk_St_1059 sc_Pr_checkIndex (C_Pr_checkIndex (xl X) X.1 v0 v1 (mB μ) μ _ hc5) rfl rfl (by rw [hR]; decide) (by rw [hR]; decide) (Nat.le_of_ble_eq_true rfl) dSt_checkIndex_5 ?_
  refine wm_pop E dSt_checkIndex_8 rfl ?_
  exact wm_vret E hQ rfl rfl (by decide) (by decide) dSt_checkIndex_9
def S_Sl_charAt (v0 : Option Nat) (v1 : Int32) (μ : Mem) : Option Int32 := b1 (aLb μ v0) (fun x2 => b1 (S_St_checkIndex v1 x2 μ) (fun x3 => b1 (aB μ v0 v1) (fun x8 => gd (¬ okC (((x8 &&& 255 : Int32).toUInt32 % 65536).toInt32) = true) (some (((x8 &&& 255 : Int32).toUInt32 % 65536).toInt32)))))
set_option maxHeartbeats 4000000 in
set_option maxRecDepth 100000 in
theorem C_Sl_charAt (l : Launch) (G : GG) (v0 : Option Nat) (v1 : Int32) (μ : Mem) (r : Int32) (h : S_Sl_charAt v0 v1 μ = some r) : CT l G y_Sl_charAt prog_26_method_2_code 2 (some .char) 2 0 0 43 μ [vR v0, vI v1] (some (vI r)) μ := by
  refine wm_met (lv := [(0, vR v0), (1, vI v1)]) (by decide +kernel) (Nat.le_of_ble_eq_true rfl) rfl (fun X E hQ hR hI => ?_)
  have h : (b1 (aLb μ v0) (fun x2 => b1 (S_St_checkIndex v1 x2 μ) (fun x3 => b1 (aB μ v0 v1) (fun x8 => gd (¬ okC (((x8 &&& 255 : Int32).toUInt32 % 65536).toInt32) = true) (some (((x8 &&& 255 : Int32).toUInt32 % 65536).toInt32)))))) = some r := h
  refine wm_iload_n E dSl_charAt_0 rfl (j := 1) rfl ?_
  refine wm_aload_n E dSl_charAt_1 rfl (j := 0) rfl ?_
  refine wm_aLb E h dSl_charAt_2 (fun x2 h => ?_)
  obtain ⟨x3, hc3, h⟩ := b1S h
  refine wm_cS (As := [vI v1, vI x2]) (st := []) E lk_Sl_9 sc_St_checkIndex (C_St_checkIndex (xl X) X.1 v1 x2 μ _ hc3) rfl rfl (by rw [hR]; decide) (by rw [hR]; decide) (Nat.le_of_ble_eq_true rfl) dSl_charAt_3 ?_
  refine wm_aload_n E dSl_charAt_6 rfl (j := 0) rfl ?_
  refine wm_iload_n E dSl_charAt_7 rfl (j := 1) rfl ?_
  refine wm_aB E h dSl_charAt_8 (fun x8 h => ?_)
  refine wm_sipush (x := 255) E dSl_charAt_9 (by decide) ?_
  refine wm_iand E dSl_charAt_12 ?_
  refine wm_i2c E dSl_charAt_13 ?_
  obtain ⟨hz14, h⟩ := gdS h
  exact wm_zret (rt := .char) E hQ (rqI1 h) rfl (okCN hz14) (by decide) (by decide) dSl_charAt_14
def S_Sv_length (v0 : Option Nat) (μ : Mem) : Option Int32 := b1 (aLen μ v0) (fun x1 => some (x1 >>> (1 &&& 31)))
set_option maxHeartbeats 4000000 in
set_option maxRecDepth 100000 in
theorem C_Sv_length (l : Launch) (G : GG) (v0 : Option Nat) (μ : Mem) (r : Int32) (h : S_Sv_length v0 μ = some r) : CT l G y_Sv_length prog_27_method_6_code 1 (some .int) 0 0 0 0 μ [vR v0] (some (vI r)) μ := by
  refine wm_met (lv := [(0, vR v0)]) (by decide +kernel) (Nat.le_of_ble_eq_true rfl) rfl (fun X E hQ hR hI => ?_)
  have h : (b1 (aLen μ v0) (fun x1 => some (x1 >>> (1 &&& 31)))) = some r := h
  refine wm_aload_n E dSv_length_0 rfl (j := 0) rfl ?_
  refine wm_alen E h dSv_length_1 (fun x1 h => ?_)
  refine wm_iconst (x := 1) E dSv_length_2 (by decide) ?_
  refine wm_ishr E dSv_length_3 ?_
  exact wm_iret (rt := .int) E hQ (rqI1 h) rfl (by decide) (by decide) dSv_length_4
def S_Sv_checkIndex (v0 : Int32) (v1 : Option Nat) (μ : Mem) : Option Unit := b1 (S_Sv_length v1 μ) (fun x2 => b1 (S_St_checkIndex v0 x2 μ) (fun x5 => some ()))
set_option maxHeartbeats 4000000 in
set_option maxRecDepth 100000 in
theorem C_Sv_checkIndex (l : Launch) (G : GG) (v0 : Int32) (v1 : Option Nat) (μ : Mem) (r : Unit) (h : S_Sv_checkIndex v0 v1 μ = some r) : CT l G y_Sv_checkIndex prog_27_method_91_code 2 none 2 0 0 43 μ [vI v0, vR v1] none μ := by
  refine wm_met (lv := [(0, vI v0), (1, vR v1)]) (by decide +kernel) (Nat.le_of_ble_eq_true rfl) rfl (fun X E hQ hR hI => ?_)
  have h : (b1 (S_Sv_length v1 μ) (fun x2 => b1 (S_St_checkIndex v0 x2 μ) (fun x5 => some ()))) = some r := h
  refine wm_iload_n E dSv_checkIndex_0 rfl (j := 0) rfl ?_
  refine wm_aload_n E dSv_checkIndex_1 rfl (j := 1) rfl ?_
  obtain ⟨x2, hc2, h⟩ := b1S h
  refine wm_cS (As := [vR v1]) (st := [vI v0]) E lk_Sv_48 sc_Sv_length (C_Sv_length (xl X) X.1 v1 μ _ hc2) rfl rfl (by rw [hR]; decide) (by rw [hR]; decide) (Nat.le_of_ble_eq_true rfl) dSv_checkIndex_2 ?_
  obtain ⟨x5, hc5, h⟩ := b1S h
  refine wm_cS (As := [vI v0, vI x2]) (st := []) E lk_Sv_414 sc_St_checkIndex (C_St_checkIndex (xl X) X.1 v0 x2 μ _ hc5) rfl rfl (by rw [hR]; decide) (by rw [hR]; decide) (Nat.le_of_ble_eq_true rfl) dSv_checkIndex_5 ?_
  exact wm_vret E hQ rfl rfl (by decide) (by decide) dSv_checkIndex_8
def S_St_charAt (v0 : Option Nat) (v1 : Int32) (μ : Mem) : Option Int32 := b1 (rS μ v0) (fun _ => b1 (S_St_isLatin1 v0 μ) (fun x1 => if x1 = 0 then none else b1 (gSv μ v0) (fun x8 => b1 (S_Sl_charAt x8 v1 μ) (fun x12 => gd (¬ okC x12 = true) (some (x12))))))
set_option maxHeartbeats 4000000 in
set_option maxRecDepth 100000 in
theorem C_St_charAt (l : Launch) (G : GG) (v0 : Option Nat) (v1 : Int32) (μ : Mem) (r : Int32) (h : S_St_charAt v0 v1 μ = some r) : CT l G y_St_charAt prog_25_method_56_code 2 (some .char) 3 0 0 64 μ [vR v0, vI v1] (some (vI r)) μ := by
  refine wm_met (lv := [(0, vR v0), (1, vI v1)]) (by decide +kernel) (Nat.le_of_ble_eq_true rfl) rfl (fun X E hQ hR hI => ?_)
  have h : (b1 (rS μ v0) (fun _ => b1 (S_St_isLatin1 v0 μ) (fun x1 => if x1 = 0 then none else b1 (gSv μ v0) (fun x8 => b1 (S_Sl_charAt x8 v1 μ) (fun x12 => gd (¬ okC x12 = true) (some (x12))))))) = some r := h
  refine wm_aload_n E dSt_charAt_0 rfl (j := 0) rfl ?_
  obtain ⟨u1, hr1, h⟩ := b1S h
  obtain ⟨x1, hc1, h⟩ := b1S h
  refine wm_cVs (As := []) (st := []) E lk_St_492 im_St_isLatin1 sl_St_isLatin1 hr1 (C_St_isLatin1 (xl X) X.1 v0 μ _ hc1) rfl rfl (by rw [hR]; decide) (by rw [hR]; decide) (Nat.le_of_ble_eq_true rfl) dSt_charAt_1 ?_
  refine wm_if_eq (tgt := 16) E dSt_charAt_4 (by decide) (fun c4 => ?_) (fun c4 => ?_)
  · have h := (if_pos c4).symm.trans h
    cases h
  · have h := (if_neg c4).symm.trans h
    refine wm_aload_n E dSt_charAt_7 rfl (j := 0) rfl ?_
    refine wm_gSv E fl_St_9 h dSt_charAt_8 (fun x8 h => ?_)
    refine wm_iload_n E dSt_charAt_11 rfl (j := 1) rfl ?_
    obtain ⟨x12, hc12, h⟩ := b1S h
    refine wm_cS (As := [vR x8, vI v1]) (st := []) E lk_St_495 sc_Sl_charAt (C_Sl_charAt (xl X) X.1 x8 v1 μ _ hc12) rfl rfl (by rw [hR]; decide) (by rw [hR]; decide) (Nat.le_of_ble_eq_true rfl) dSt_charAt_12 ?_
    obtain ⟨hz15, h⟩ := gdS h
    exact wm_zret (rt := .char) E hQ (rqI1 h) rfl (okCN hz15) (by decide) (by decide) dSt_charAt_15
def S_Wo_soundClass (v0 : Option Nat) (v1 : Int32) (μ : Mem) : Option Int32 := b1 (gR μ v0 10 0) (fun x3 => b1 (aI μ x3 2 v1) (fun x7 => b1 (rS μ (some (mS μ))) (fun _ => b1 (S_St_charAt (some (mS μ)) (x7 - 97) μ) (fun x11 => some (x11 - 48)))))
set_option maxHeartbeats 4000000 in
set_option maxRecDepth 100000 in
theorem C_Wo_soundClass (l : Launch) (G : GG) (v0 : Option Nat) (v1 : Int32) (μ : Mem) (r : Int32) (h : S_Wo_soundClass v0 v1 μ = some r) : CT l G y_Wo_soundClass prog_11_method_6_code 2 (some .int) 4 0 0 85 μ [vR v0, vI v1] (some (vI r)) μ := by
  refine wm_met (lv := [(0, vR v0), (1, vI v1)]) (by decide +kernel) (Nat.le_of_ble_eq_true rfl) rfl (fun X E hQ hR hI => ?_)
  have h : (b1 (gR μ v0 10 0) (fun x3 => b1 (aI μ x3 2 v1) (fun x7 => b1 (rS μ (some (mS μ))) (fun _ => b1 (S_St_charAt (some (mS μ)) (x7 - 97) μ) (fun x11 => some (x11 - 48)))))) = some r := h
  refine wm_ldS E rfl dWo_soundClass_0 ?_
  refine wm_aload_n E dWo_soundClass_2 rfl (j := 0) rfl ?_
  refine wm_gR E fd_Wo_9 h dWo_soundClass_3 (fun x3 h => ?_)
  refine wm_iload_n E dWo_soundClass_6 rfl (j := 1) rfl ?_
  refine wm_cald (t := 2) E rfl h dWo_soundClass_7 (fun x7 h => ?_)
  refine wm_bipush (x := 97) E dWo_soundClass_8 (by decide) ?_
  refine wm_isub E dWo_soundClass_10 ?_
  obtain ⟨u11, hr11, h⟩ := b1S h
  obtain ⟨x11, hc11, h⟩ := b1S h
  refine wm_cVs (As := [vI (x7 - 97)]) (st := []) E lk_Wo_31 im_St_charAt sl_St_charAt hr11 (C_St_charAt (xl X) X.1 (some (mS μ)) (x7 - 97) μ _ hc11) rfl rfl (by rw [hR]; decide) (by rw [hR]; decide) (Nat.le_of_ble_eq_true rfl) dWo_soundClass_11 ?_
  refine wm_bipush (x := 48) E dWo_soundClass_14 (by decide) ?_
  refine wm_isub E dWo_soundClass_16 ?_
  exact wm_iret (rt := .int) E hQ (rqI1 h) rfl (by decide) (by decide) dWo_soundClass_17
def B_Wo_soundCode_78 (μ : Mem)   (v1 : Int32) : Option Int32 := some (v1)
set_option maxHeartbeats 4000000 in
set_option maxRecDepth 100000 in
theorem w_Wo_soundCode_78 {X : CX} (E : EV X prog_11_method_5_code 5 "PlaceFinder$Word" (some .int)) {μ0 μ : Mem} {r : Int32} (hQ : RQ X 0 0 μ0 (some (vI r)) μ) (hR : xR X = { frames := 5, cells := 0, slots := 0, locals := 106 }) (hI : X.2.2.2.2.2.2.2.2.2.2.2.1.name = "soundCode")  (v1 : Int32) (h : B_Wo_soundCode_78 μ  v1 = some r) : WM X 5 78 [(1, vI v1)] [] 0 0 μ := by
  have h : (some (v1)) = some r := h
  refine wm_iload_n E dWo_soundCode_78 rfl (j := 0) rfl ?_
  exact wm_iret (rt := .int) E hQ (rqI1 h) rfl (by decide) (by decide) dWo_soundCode_79
def B_Wo_soundCode_72 (μ : Mem)  (k25 : Option Nat → Int32 → Int32 → Int32 → Option Int32) (v0 : Option Nat) (v1 : Int32) (v2 : Int32) (v3 : Int32) : Option Int32 := k25 v0 v1 v2 (v3 + 1)
set_option maxHeartbeats 4000000 in
set_option maxRecDepth 100000 in
theorem w_Wo_soundCode_72 {X : CX} (E : EV X prog_11_method_5_code 5 "PlaceFinder$Word" (some .int)) {μ0 μ : Mem} {r : Int32} (hQ : RQ X 0 0 μ0 (some (vI r)) μ) (hR : xR X = { frames := 5, cells := 0, slots := 0, locals := 106 }) (hI : X.2.2.2.2.2.2.2.2.2.2.2.1.name = "soundCode") (k25 : Option Nat → Int32 → Int32 → Int32 → Option Int32) (hk25 : ∀ (v0 : Option Nat) (v1 : Int32) (v2 : Int32) (v3 : Int32), k25 v0 v1 v2 v3 = some r → WM X 5 25 [(0, vR v0), (1, vI v1), (2, vI v2), (3, vI v3)] [] 0 0 μ) (v0 : Option Nat) (v1 : Int32) (v2 : Int32) (v3 : Int32) (h : B_Wo_soundCode_72 μ k25 v0 v1 v2 v3 = some r) : WM X 5 72 [(0, vR v0), (1, vI v1), (2, vI v2), (3, vI v3)] [] 0 0 μ := by
  have h : (k25 v0 v1 v2 (v3 + 1)) = some r := h
  refine wm_iinc (lv' := [(3, vI (v3 + 1)), (0, vR v0), (1, vI v1), (2, vI v2)]) (d := 1) E dWo_soundCode_72 (by decide) (j := 3) rfl (by decide) rfl ?_
  refine wm_goto (tgt := 25) E dWo_soundCode_75 (by decide) ?_
  refine wm_pick (lv' := [(0, vR v0), (1, vI v1), (2, vI v2), (3, vI (v3 + 1))]) [1, 2, 3, 0] rfl ?_
  exact hk25 v0 v1 v2 (v3 + 1) h
def B_Wo_soundCode_25 (μ : Mem)   : Nat → Option Nat → Int32 → Int32 → Int32 → Option Int32
  | 0, _, _, _, _ => none
  | n + 1, v0, v1, v2, v3 => b1 (gI μ v0 10 1) (fun x27 => if x27 ≤ v3 then B_Wo_soundCode_78 μ v1 else if 4 ≤ v2 then B_Wo_soundCode_78 μ v1 else b1 (rc μ v0 10) (fun _ => b1 (S_Wo_soundClass v0 v3 μ) (fun x40 => if x40 = 0 then B_Wo_soundCode_72 μ (fun v0 v1 v2 v3 => B_Wo_soundCode_25 μ n v0 v1 v2 v3) v0 v1 v2 v3 else b1 (rc μ v0 10) (fun _ => b1 (S_Wo_soundClass v0 (v3 - 1) μ) (fun x56 => if x40 = x56 then B_Wo_soundCode_72 μ (fun v0 v1 v2 v3 => B_Wo_soundCode_25 μ n v0 v1 v2 v3) v0 v1 v2 v3 else b0 ((v1 <<< (5 &&& 31)) + x40) (fun x68 => B_Wo_soundCode_72 μ (fun v0 v1 v2 v3 => B_Wo_soundCode_25 μ n v0 v1 v2 v3) v0 x68 (v2 + 1) v3))))))
set_option maxHeartbeats 4000000 in
set_option maxRecDepth 100000 in
theorem w_Wo_soundCode_25 {X : CX} (E : EV X prog_11_method_5_code 5 "PlaceFinder$Word" (some .int)) {μ0 μ : Mem} {r : Int32} (hQ : RQ X 0 0 μ0 (some (vI r)) μ) (hR : xR X = { frames := 5, cells := 0, slots := 0, locals := 106 }) (hI : X.2.2.2.2.2.2.2.2.2.2.2.1.name = "soundCode")  (n : Nat) : ∀ (v0 : Option Nat) (v1 : Int32) (v2 : Int32) (v3 : Int32) (h : B_Wo_soundCode_25 μ  n v0 v1 v2 v3 = some r), WM X 5 25 [(0, vR v0), (1, vI v1), (2, vI v2), (3, vI v3)] [] 0 0 μ := by
  induction n with
  | zero => intro v0 v1 v2 v3 h; cases h
  | succ n ih =>
    intro v0 v1 v2 v3 h
    have h : (b1 (gI μ v0 10 1) (fun x27 => if x27 ≤ v3 then B_Wo_soundCode_78 μ v1 else if 4 ≤ v2 then B_Wo_soundCode_78 μ v1 else b1 (rc μ v0 10) (fun _ => b1 (S_Wo_soundClass v0 v3 μ) (fun x40 => if x40 = 0 then B_Wo_soundCode_72 μ (fun v0 v1 v2 v3 => B_Wo_soundCode_25 μ n v0 v1 v2 v3) v0 v1 v2 v3 else b1 (rc μ v0 10) (fun _ => b1 (S_Wo_soundClass v0 (v3 - 1) μ) (fun x56 => if x40 = x56 then B_Wo_soundCode_72 μ (fun v0 v1 v2 v3 => B_Wo_soundCode_25 μ n v0 v1 v2 v3) v0 v1 v2 v3 else b0 ((v1 <<< (5 &&& 31)) + x40) (fun x68 => B_Wo_soundCode_72 μ (fun v0 v1 v2 v3 => B_Wo_soundCode_25 μ n v0 v1 v2 v3) v0 x68 (v2 + 1) v3))))))) = some r := h
    refine wm_iload_n E dWo_soundCode_25 rfl (j := 3) rfl ?_
    refine wm_aload_n E dWo_soundCode_26 rfl (j := 0) rfl ?_
    refine wm_gI E fd_Wo_19 h dWo_soundCode_27 (fun x27 h => ?_)
    refine wm_icmp_ge (tgt := 78) E dWo_soundCode_30 (by decide) (fun c30 => ?_) (fun c30 => ?_)
    · have h := (if_pos c30).symm.trans h
      refine wm_pick (lv' := [(1, vI v1)]) [1] rfl ?_
      exact w_Wo_soundCode_78 E hQ hR hI v1 h
    · have h := (if_neg c30).symm.trans h
      refine wm_iload_n E dWo_soundCode_33 rfl (j := 2) rfl ?_
      refine wm_iconst (x := 4) E dWo_soundCode_34 (by decide) ?_
      refine wm_icmp_ge (tgt := 78) E dWo_soundCode_35 (by decide) (fun c35 => ?_) (fun c35 => ?_)
      · have h := (if_pos c35).symm.trans h
        refine wm_pick (lv' := [(1, vI v1)]) [1] rfl ?_
        exact w_Wo_soundCode_78 E hQ hR hI v1 h
      · have h := (if_neg c35).symm.trans h
        refine wm_aload_n E dWo_soundCode_38 rfl (j := 0) rfl ?_
        refine wm_iload_n E dWo_soundCode_39 rfl (j := 3) rfl ?_
        obtain ⟨u40, hr40, h⟩ := b1S h
        obtain ⟨x40, hc40, h⟩ := b1S h
        refine wm_cV (ci := 10) (As := [vI v3]) (st := []) E lk_Wo_25 rfl im_Wo_soundClass sl_Wo_soundClass hr40 (C_Wo_soundClass (xl X) X.1 v0 v3 μ _ hc40) rfl rfl (by rw [hR]; decide) (by rw [hR]; decide) (Nat.le_of_ble_eq_true rfl) dWo_soundCode_40 ?_
        refine wm_istore (lv' := [(4, vI x40), (0, vR v0), (1, vI v1), (2, vI v2), (3, vI v3)]) E dWo_soundCode_43 (by decide) rfl ?_
        refine wm_iload E dWo_soundCode_45 (j := 0) rfl ?_
        refine wm_if_eq (tgt := 72) E dWo_soundCode_47 (by decide) (fun c47 => ?_) (fun c47 => ?_)
        · have h := (if_pos c47).symm.trans h
          refine wm_pick (lv' := [(0, vR v0), (1, vI v1), (2, vI v2), (3, vI v3)]) [1, 2, 3, 4] rfl ?_
          exact w_Wo_soundCode_72 E hQ hR hI (fun v0 v1 v2 v3 => B_Wo_soundCode_25 μ n v0 v1 v2 v3) ih v0 v1 v2 v3 h
        · have h := (if_neg c47).symm.trans h
          refine wm_iload E dWo_soundCode_50 (j := 0) rfl ?_
          refine wm_aload_n E dWo_soundCode_52 rfl (j := 1) rfl ?_
          refine wm_iload_n E dWo_soundCode_53 rfl (j := 4) rfl ?_
          refine wm_iconst (x := 1) E dWo_soundCode_54 (by decide) ?_
          refine wm_isub E dWo_soundCode_55 ?_
          obtain ⟨u56, hr56, h⟩ := b1S h
          obtain ⟨x56, hc56, h⟩ := b1S h
          refine wm_cV (ci := 10) (As := [vI (v3 - 1)]) (st := [vI x40]) E lk_Wo_25 rfl im_Wo_soundClass sl_Wo_soundClass hr56 (C_Wo_soundClass (xl X) X.1 v0 (v3 - 1) μ _ hc56) rfl rfl (by rw [hR]; decide) (by rw [hR]; decide) (Nat.le_of_ble_eq_true rfl) dWo_soundCode_56 ?_
          refine wm_icmp_eq (tgt := 72) E dWo_soundCode_59 (by decide) (fun c59 => ?_) (fun c59 => ?_)
          · have h := (if_pos c59).symm.trans h
            refine wm_pick (lv' := [(0, vR v0), (1, vI v1), (2, vI v2), (3, vI v3)]) [1, 2, 3, 4] rfl ?_
            exact w_Wo_soundCode_72 E hQ hR hI (fun v0 v1 v2 v3 => B_Wo_soundCode_25 μ n v0 v1 v2 v3) ih v0 v1 v2 v3 h
          · have h := (if_neg c59).symm.trans h
            refine wm_iload_n E dWo_soundCode_62 rfl (j := 2) rfl ?_
            refine wm_iconst (x := 5) E dWo_soundCode_63 (by decide) ?_
            refine wm_ishl E dWo_soundCode_64 ?_
            refine wm_iload E dWo_soundCode_65 (j := 0) rfl ?_
            refine wm_iadd E dWo_soundCode_67 ?_
            refine wm_letI h (fun x68 h => ?_)
            refine wm_istore_n (lv' := [(1, vI x68), (4, vI x40), (0, vR v0), (2, vI v2), (3, vI v3)]) E dWo_soundCode_68 rfl (by decide) rfl ?_
            refine wm_iinc (lv' := [(2, vI (v2 + 1)), (1, vI x68), (4, vI x40), (0, vR v0), (3, vI v3)]) (d := 1) E dWo_soundCode_69 (by decide) (j := 3) rfl (by decide) rfl ?_
            refine wm_pick (lv' := [(0, vR v0), (1, vI x68), (2, vI (v2 + 1)), (3, vI v3)]) [3, 1, 0, 4] rfl ?_
            exact w_Wo_soundCode_72 E hQ hR hI (fun v0 v1 v2 v3 => B_Wo_soundCode_25 μ n v0 v1 v2 v3) ih v0 x68 (v2 + 1) v3 h
def S_Wo_soundCode (v0 : Option Nat) (μ : Mem) : Option Int32 := b1 (gI μ v0 10 1) (fun x1 => if x1 = 0 then some (0) else b1 (gR μ v0 10 0) (fun x10 => b1 (aI μ x10 2 0) (fun x14 => b0 ((x14 - 97) + 1) (fun x20 => B_Wo_soundCode_25 μ fu v0 x20 1 1))))
set_option maxHeartbeats 4000000 in
set_option maxRecDepth 100000 in
theorem C_Wo_soundCode (l : Launch) (G : GG) (v0 : Option Nat) (μ : Mem) (r : Int32) (h : S_Wo_soundCode v0 μ = some r) : CT l G y_Wo_soundCode prog_11_method_5_code 5 (some .int) 5 0 0 106 μ [vR v0] (some (vI r)) μ := by
  refine wm_met (lv := [(0, vR v0)]) (by decide +kernel) (Nat.le_of_ble_eq_true rfl) rfl (fun X E hQ hR hI => ?_)
  have h : (b1 (gI μ v0 10 1) (fun x1 => if x1 = 0 then some (0) else b1 (gR μ v0 10 0) (fun x10 => b1 (aI μ x10 2 0) (fun x14 => b0 ((x14 - 97) + 1) (fun x20 => B_Wo_soundCode_25 μ fu v0 x20 1 1))))) = some r := h
  refine wm_aload_n E dWo_soundCode_0 rfl (j := 0) rfl ?_
  refine wm_gI E fd_Wo_19 h dWo_soundCode_1 (fun x1 h => ?_)
  refine wm_if_ne (tgt := 9) E dWo_soundCode_4 (by decide) (fun c4 => ?_) (fun c4 => ?_)
  · have h := (if_neg c4).symm.trans h
    refine wm_aload_n E dWo_soundCode_9 rfl (j := 0) rfl ?_
    refine wm_gR E fd_Wo_9 h dWo_soundCode_10 (fun x10 h => ?_)
    refine wm_iconst (x := 0) E dWo_soundCode_13 (by decide) ?_
    refine wm_cald (t := 2) E rfl h dWo_soundCode_14 (fun x14 h => ?_)
    refine wm_bipush (x := 97) E dWo_soundCode_15 (by decide) ?_
    refine wm_isub E dWo_soundCode_17 ?_
    refine wm_iconst (x := 1) E dWo_soundCode_18 (by decide) ?_
    refine wm_iadd E dWo_soundCode_19 ?_
    refine wm_letI h (fun x20 h => ?_)
    refine wm_istore_n (lv' := [(1, vI x20), (0, vR v0)]) E dWo_soundCode_20 rfl (by decide) rfl ?_
    refine wm_iconst (x := 1) E dWo_soundCode_21 (by decide) ?_
    refine wm_istore_n (lv' := [(2, vI 1), (1, vI x20), (0, vR v0)]) E dWo_soundCode_22 rfl (by decide) rfl ?_
    refine wm_iconst (x := 1) E dWo_soundCode_23 (by decide) ?_
    refine wm_istore_n (lv' := [(3, vI 1), (2, vI 1), (1, vI x20), (0, vR v0)]) E dWo_soundCode_24 rfl (by decide) rfl ?_
    refine wm_pick (lv' := [(0, vR v0), (1, vI x20), (2, vI 1), (3, vI 1)]) [3, 2, 1, 0] rfl ?_
    exact w_Wo_soundCode_25 E hQ hR hI fu v0 x20 1 1 h
  · have h := (if_pos c4).symm.trans h
    refine wm_iconst (x := 0) E dWo_soundCode_7 (by decide) ?_
    exact wm_iret (rt := .int) E hQ (rqI1 h) rfl (by decide) (by decide) dWo_soundCode_8
def B_P_wordFits_56  (s0 : Int32) (μ : Mem) : Option (Int32 × Mem) := gd (¬ okZ s0 = true) (some (s0, μ))
set_option maxHeartbeats 4000000 in
set_option maxRecDepth 100000 in
theorem w_P_wordFits_56 {X : CX} (E : EV X prog_1_method_36_code 3 "PlaceFinder" (some .boolean)) {μ0 μ' : Mem} {r : Int32} (hQ : RQ X 0 0 μ0 (some (vI r)) μ') (hR : xR X = { frames := 6, cells := 0, slots := 0, locals := 130 }) (hI : X.2.2.2.2.2.2.2.2.2.2.2.1.name = "wordFits")  (s0 : Int32) (μ : Mem) (h : B_P_wordFits_56  s0 μ = some (r, μ')) : WM X 3 56 [] [vI s0] 0 0 μ := by
  have h : (gd (¬ okZ s0 = true) (some (s0, μ))) = some (r, μ') := h
  obtain ⟨hz56, h⟩ := gdS h
  exact wm_zret (rt := .boolean) E hQ (rtI h) (rtM h) (okZN hz56) (by decide) (by decide) dP_wordFits_56
def B_P_wordFits_90  (s0 : Int32) (μ : Mem) : Option (Int32 × Mem) := gd (¬ okZ s0 = true) (some (s0, μ))
set_option maxHeartbeats 4000000 in
set_option maxRecDepth 100000 in
theorem w_P_wordFits_90 {X : CX} (E : EV X prog_1_method_36_code 3 "PlaceFinder" (some .boolean)) {μ0 μ' : Mem} {r : Int32} (hQ : RQ X 0 0 μ0 (some (vI r)) μ') (hR : xR X = { frames := 6, cells := 0, slots := 0, locals := 130 }) (hI : X.2.2.2.2.2.2.2.2.2.2.2.1.name = "wordFits")  (s0 : Int32) (μ : Mem) (h : B_P_wordFits_90  s0 μ = some (r, μ')) : WM X 3 90 [] [vI s0] 0 0 μ := by
  have h : (gd (¬ okZ s0 = true) (some (s0, μ))) = some (r, μ') := h
  obtain ⟨hz90, h⟩ := gdS h
  exact wm_zret (rt := .boolean) E hQ (rtI h) (rtM h) (okZN hz90) (by decide) (by decide) dP_wordFits_90
def B_P_wordFits_110  (s0 : Int32) (μ : Mem) : Option (Int32 × Mem) := gd (¬ okZ s0 = true) (some (s0, μ))
set_option maxHeartbeats 4000000 in
set_option maxRecDepth 100000 in
theorem w_P_wordFits_110 {X : CX} (E : EV X prog_1_method_36_code 3 "PlaceFinder" (some .boolean)) {μ0 μ' : Mem} {r : Int32} (hQ : RQ X 0 0 μ0 (some (vI r)) μ') (hR : xR X = { frames := 6, cells := 0, slots := 0, locals := 130 }) (hI : X.2.2.2.2.2.2.2.2.2.2.2.1.name = "wordFits")  (s0 : Int32) (μ : Mem) (h : B_P_wordFits_110  s0 μ = some (r, μ')) : WM X 3 110 [] [vI s0] 0 0 μ := by
  have h : (gd (¬ okZ s0 = true) (some (s0, μ))) = some (r, μ') := h
  obtain ⟨hz110, h⟩ := gdS h
  exact wm_zret (rt := .boolean) E hQ (rtI h) (rtM h) (okZN hz110) (by decide) (by decide) dP_wordFits_110
def S_P_wordFits (v0 : Option Nat) (v1 : Option Nat) (v2 : Option Nat) (μ : Mem) : Option (Int32 × Mem) := b1 (gI μ v2 1 0) (fun x1 => if x1 = 0 then b1 (rc μ v1 10) (fun _ => b1 (S_Wo_rank v1 μ) (fun x37 => b1 (gR μ v2 1 4) (fun x41 => b1 (rc μ x41 10) (fun _ => b1 (S_Wo_rank x41 μ) (fun x44 => if (lg_cmp x37 x44) = 0 then B_P_wordFits_56 1 μ else B_P_wordFits_56 0 μ))))) else if x1 = 1 then b1 (gR μ v2 1 4) (fun x59 => b1 (rc μ v1 10) (fun _ => b1 (S_Wo_beginsWith v1 x59 μ) (fun x62 => gd (¬ okZ x62 = true) (some (x62, μ))))) else if x1 = 2 then b1 (gR μ v0 11 10) (fun x67 => b1 (gR μ v2 1 4) (fun x72 => b1 (rc μ x67 3) (fun _ => b2 (S_Ec_count x67 v1 x72 μ) (fun x75 m75 => b1 (gI m75 v2 1 1) (fun x79 => if x79 < x75 then B_P_wordFits_90 0 m75 else B_P_wordFits_90 1 m75))))) else if x1 = 3 then b1 (rc μ v1 10) (fun _ => b1 (S_Wo_soundCode v1 μ) (fun x92 => b1 (gR μ v2 1 4) (fun x96 => b1 (rc μ x96 10) (fun _ => b1 (S_Wo_soundCode x96 μ) (fun x99 => if x92 = x99 then B_P_wordFits_110 1 μ else B_P_wordFits_110 0 μ))))) else gd (¬ okZ 0 = true) (some (0, μ)))
set_option maxHeartbeats 4000000 in
set_option maxRecDepth 100000 in
theorem C_P_wordFits (l : Launch) (G : GG) (v0 : Option Nat) (v1 : Option Nat) (v2 : Option Nat) (μ μ' : Mem) (r : Int32) (h : S_P_wordFits v0 v1 v2 μ = some (r, μ')) : CT l G y_P_wordFits prog_1_method_36_code 3 (some .boolean) 6 0 0 130 μ [vR v0, vR v1, vR v2] (some (vI r)) μ' := by
  refine wm_met (lv := [(0, vR v0), (1, vR v1), (2, vR v2)]) (by decide +kernel) (Nat.le_of_ble_eq_true rfl) rfl (fun X E hQ hR hI => ?_)
  have h : (b1 (gI μ v2 1 0) (fun x1 => if x1 = 0 then b1 (rc μ v1 10) (fun _ => b1 (S_Wo_rank v1 μ) (fun x37 => b1 (gR μ v2 1 4) (fun x41 => b1 (rc μ x41 10) (fun _ => b1 (S_Wo_rank x41 μ) (fun x44 => if (lg_cmp x37 x44) = 0 then B_P_wordFits_56 1 μ else B_P_wordFits_56 0 μ))))) else if x1 = 1 then b1 (gR μ v2 1 4) (fun x59 => b1 (rc μ v1 10) (fun _ => b1 (S_Wo_beginsWith v1 x59 μ) (fun x62 => gd (¬ okZ x62 = true) (some (x62, μ))))) else if x1 = 2 then b1 (gR μ v0 11 10) (fun x67 => b1 (gR μ v2 1 4) (fun x72 => b1 (rc μ x67 3) (fun _ => b2 (S_Ec_count x67 v1 x72 μ) (fun x75 m75 => b1 (gI m75 v2 1 1) (fun x79 => if x79 < x75 then B_P_wordFits_90 0 m75 else B_P_wordFits_90 1 m75))))) else if x1 = 3 then b1 (rc μ v1 10) (fun _ => b1 (S_Wo_soundCode v1 μ) (fun x92 => b1 (gR μ v2 1 4) (fun x96 => b1 (rc μ x96 10) (fun _ => b1 (S_Wo_soundCode x96 μ) (fun x99 => if x92 = x99 then B_P_wordFits_110 1 μ else B_P_wordFits_110 0 μ))))) else gd (¬ okZ 0 = true) (some (0, μ)))) = some (r, μ') := h
  refine wm_aload_n E dP_wordFits_0 rfl (j := 2) rfl ?_
  refine wm_gI E fd_P_352 h dP_wordFits_1 (fun x1 h => ?_)
  by_cases c4_0 : x1 = 0
  · have h := (if_pos c4_0).symm.trans h
    refine wm_tabIn (tgt := 36) E dP_wordFits_4 (0) ((congrArg Int32.toInt c4_0).trans (by decide)) (by decide) (by decide) rfl (by decide) ?_
    refine wm_aload_n E dP_wordFits_36 rfl (j := 1) rfl ?_
    obtain ⟨u37, hr37, h⟩ := b1S h
    obtain ⟨x37, hc37, h⟩ := b1S h
    refine wm_cV (ci := 10) (As := []) (st := []) E lk_P_396 rfl im_Wo_rank sl_Wo_rank hr37 (C_Wo_rank (xl X) X.1 v1 μ _ hc37) rfl rfl (by rw [hR]; decide) (by rw [hR]; decide) (Nat.le_of_ble_eq_true rfl) dP_wordFits_37 ?_
    refine wm_aload_n E dP_wordFits_40 rfl (j := 2) rfl ?_
    refine wm_gR E fd_P_403 h dP_wordFits_41 (fun x41 h => ?_)
    obtain ⟨u44, hr44, h⟩ := b1S h
    obtain ⟨x44, hc44, h⟩ := b1S h
    refine wm_cV (ci := 10) (As := []) (st := [vL x37]) E lk_P_396 rfl im_Wo_rank sl_Wo_rank hr44 (C_Wo_rank (xl X) X.1 x41 μ _ hc44) rfl rfl (by rw [hR]; decide) (by rw [hR]; decide) (Nat.le_of_ble_eq_true rfl) dP_wordFits_44 ?_
    refine wm_lcmp E dP_wordFits_47 ?_
    refine wm_if_ne (tgt := 55) E dP_wordFits_48 (by decide) (fun c48 => ?_) (fun c48 => ?_)
    · have h := (if_neg c48).symm.trans h
      refine wm_iconst (x := 0) E dP_wordFits_55 (by decide) ?_
      refine wm_pick (lv' := []) [] rfl ?_
      exact w_P_wordFits_56 E hQ hR hI 0 μ h
    · have h := (if_pos c48).symm.trans h
      refine wm_iconst (x := 1) E dP_wordFits_51 (by decide) ?_
      refine wm_goto (tgt := 56) E dP_wordFits_52 (by decide) ?_
      refine wm_pick (lv' := []) [] rfl ?_
      exact w_P_wordFits_56 E hQ hR hI 1 μ h
  · have h := (if_neg c4_0).symm.trans h
    by_cases c4_1 : x1 = 1
    · have h := (if_pos c4_1).symm.trans h
      refine wm_tabIn (tgt := 57) E dP_wordFits_4 (1) ((congrArg Int32.toInt c4_1).trans (by decide)) (by decide) (by decide) rfl (by decide) ?_
      refine wm_aload_n E dP_wordFits_57 rfl (j := 1) rfl ?_
      refine wm_aload_n E dP_wordFits_58 rfl (j := 2) rfl ?_
      refine wm_gR E fd_P_403 h dP_wordFits_59 (fun x59 h => ?_)
      obtain ⟨u62, hr62, h⟩ := b1S h
      obtain ⟨x62, hc62, h⟩ := b1S h
      refine wm_cV (ci := 10) (As := [vR x59]) (st := []) E lk_P_404 rfl im_Wo_beginsWith sl_Wo_beginsWith hr62 (C_Wo_beginsWith (xl X) X.1 v1 x59 μ _ hc62) rfl rfl (by rw [hR]; decide) (by rw [hR]; decide) (Nat.le_of_ble_eq_true rfl) dP_wordFits_62 ?_
      obtain ⟨hz65, h⟩ := gdS h
      exact wm_zret (rt := .boolean) E hQ (rtI h) (rtM h) (okZN hz65) (by decide) (by decide) dP_wordFits_65
    · have h := (if_neg c4_1).symm.trans h
      by_cases c4_2 : x1 = 2
      · have h := (if_pos c4_2).symm.trans h
        refine wm_tabIn (tgt := 66) E dP_wordFits_4 (2) ((congrArg Int32.toInt c4_2).trans (by decide)) (by decide) (by decide) rfl (by decide) ?_
        refine wm_aload_n E dP_wordFits_66 rfl (j := 0) rfl ?_
        refine wm_gR E fd_P_62 h dP_wordFits_67 (fun x67 h => ?_)
        refine wm_aload_n E dP_wordFits_70 rfl (j := 1) rfl ?_
        refine wm_aload_n E dP_wordFits_71 rfl (j := 2) rfl ?_
        refine wm_gR E fd_P_403 h dP_wordFits_72 (fun x72 h => ?_)
        obtain ⟨u75, hr75, h⟩ := b1S h
        obtain ⟨x75, m75, hc75, h⟩ := b2S h
        refine wm_cV (ci := 3) (As := [vR v1, vR x72]) (st := []) E lk_P_294 rfl im_Ec_count sl_Ec_count hr75 (C_Ec_count (xl X) X.1 x67 v1 x72 μ _ _ hc75) rfl rfl (by rw [hR]; decide) (by rw [hR]; decide) (Nat.le_of_ble_eq_true rfl) dP_wordFits_75 ?_
        refine wm_aload_n E dP_wordFits_78 rfl (j := 2) rfl ?_
        refine wm_gI E fd_P_353 h dP_wordFits_79 (fun x79 h => ?_)
        refine wm_icmp_gt (tgt := 89) E dP_wordFits_82 (by decide) (fun c82 => ?_) (fun c82 => ?_)
        · have h := (if_pos c82).symm.trans h
          refine wm_iconst (x := 0) E dP_wordFits_89 (by decide) ?_
          refine wm_pick (lv' := []) [] rfl ?_
          exact w_P_wordFits_90 E hQ hR hI 0 m75 h
        · have h := (if_neg c82).symm.trans h
          refine wm_iconst (x := 1) E dP_wordFits_85 (by decide) ?_
          refine wm_goto (tgt := 90) E dP_wordFits_86 (by decide) ?_
          refine wm_pick (lv' := []) [] rfl ?_
          exact w_P_wordFits_90 E hQ hR hI 1 m75 h
      · have h := (if_neg c4_2).symm.trans h
        by_cases c4_3 : x1 = 3
        · have h := (if_pos c4_3).symm.trans h
          refine wm_tabIn (tgt := 91) E dP_wordFits_4 (3) ((congrArg Int32.toInt c4_3).trans (by decide)) (by decide) (by decide) rfl (by decide) ?_
          refine wm_aload_n E dP_wordFits_91 rfl (j := 1) rfl ?_
          obtain ⟨u92, hr92, h⟩ := b1S h
          obtain ⟨x92, hc92, h⟩ := b1S h
          refine wm_cV (ci := 10) (As := []) (st := []) E lk_P_282 rfl im_Wo_soundCode sl_Wo_soundCode hr92 (C_Wo_soundCode (xl X) X.1 v1 μ _ hc92) rfl rfl (by rw [hR]; decide) (by rw [hR]; decide) (Nat.le_of_ble_eq_true rfl) dP_wordFits_92 ?_
          refine wm_aload_n E dP_wordFits_95 rfl (j := 2) rfl ?_
          refine wm_gR E fd_P_403 h dP_wordFits_96 (fun x96 h => ?_)
          obtain ⟨u99, hr99, h⟩ := b1S h
          obtain ⟨x99, hc99, h⟩ := b1S h
          refine wm_cV (ci := 10) (As := []) (st := [vI x92]) E lk_P_282 rfl im_Wo_soundCode sl_Wo_soundCode hr99 (C_Wo_soundCode (xl X) X.1 x96 μ _ hc99) rfl rfl (by rw [hR]; decide) (by rw [hR]; decide) (Nat.le_of_ble_eq_true rfl) dP_wordFits_99 ?_
          refine wm_icmp_ne (tgt := 109) E dP_wordFits_102 (by decide) (fun c102 => ?_) (fun c102 => ?_)
          · have h := (if_neg c102).symm.trans h
            refine wm_iconst (x := 0) E dP_wordFits_109 (by decide) ?_
            refine wm_pick (lv' := []) [] rfl ?_
            exact w_P_wordFits_110 E hQ hR hI 0 μ h
          · have h := (if_pos c102).symm.trans h
            refine wm_iconst (x := 1) E dP_wordFits_105 (by decide) ?_
            refine wm_goto (tgt := 110) E dP_wordFits_106 (by decide) ?_
            refine wm_pick (lv' := []) [] rfl ?_
            exact w_P_wordFits_110 E hQ hR hI 1 μ h
        · have h := (if_neg c4_3).symm.trans h
          have e4_0 : x1.toInt ≠ 0 := fun q => c4_0 (Int32.toInt_inj.mp (q.trans (by decide)))
          have e4_1 : x1.toInt ≠ 1 := fun q => c4_1 (Int32.toInt_inj.mp (q.trans (by decide)))
          have e4_2 : x1.toInt ≠ 2 := fun q => c4_2 (Int32.toInt_inj.mp (q.trans (by decide)))
          have e4_3 : x1.toInt ≠ 3 := fun q => c4_3 (Int32.toInt_inj.mp (q.trans (by decide)))
          refine wm_tabOut (tgt := 111) E dP_wordFits_4 (by omega) (by decide) ?_
          refine wm_iconst (x := 0) E dP_wordFits_111 (by decide) ?_
          obtain ⟨hz112, h⟩ := gdS h
          exact wm_zret (rt := .boolean) E hQ (rtI h) (rtM h) (okZN hz112) (by decide) (by decide) dP_wordFits_112
def B_Ma_min2_11 (μ : Mem)   (s0 : Int64) : Option Int64 := some (s0)
set_option maxHeartbeats 4000000 in
set_option maxRecDepth 100000 in
theorem w_Ma_min2_11 {X : CX} (E : EV X prog_23_method_70_code 4 "java/lang/Math" (some .long)) {μ0 μ : Mem} {r : Int64} (hQ : RQ X 0 0 μ0 (some (vL r)) μ) (hR : xR X = { frames := 0, cells := 0, slots := 0, locals := 0 }) (hI : X.2.2.2.2.2.2.2.2.2.2.2.1.name = "min")  (s0 : Int64) (h : B_Ma_min2_11 μ  s0 = some r) : WM X 4 11 [] [vL s0] 0 0 μ := by
  have h : (some (s0)) = some r := h
  exact wm_lret (rt := .long) E hQ (rqL0 h) rfl (by decide) (by decide) dMa_min2_11
def S_Ma_min2 (v0 : Int64) (v2 : Int64) (μ : Mem) : Option Int64 := if 0 < (lg_cmp v0 v2) then B_Ma_min2_11 μ v2 else B_Ma_min2_11 μ v0
set_option maxHeartbeats 4000000 in
set_option maxRecDepth 100000 in
theorem C_Ma_min2 (l : Launch) (G : GG) (v0 : Int64) (v2 : Int64) (μ : Mem) (r : Int64) (h : S_Ma_min2 v0 v2 μ = some r) : CT l G y_Ma_min2 prog_23_method_70_code 4 (some .long) 0 0 0 0 μ [vL v0, vL v2] (some (vL r)) μ := by
  refine wm_met (lv := [(0, vL v0), (2, vL v2)]) (by decide +kernel) (Nat.le_of_ble_eq_true rfl) rfl (fun X E hQ hR hI => ?_)
  have h : (if 0 < (lg_cmp v0 v2) then B_Ma_min2_11 μ v2 else B_Ma_min2_11 μ v0) = some r := h
  refine wm_lload_n E dMa_min2_0 rfl (j := 0) rfl ?_
  refine wm_lload_n E dMa_min2_1 rfl (j := 1) rfl ?_
  refine wm_lcmp E dMa_min2_2 ?_
  refine wm_if_gt (tgt := 10) E dMa_min2_3 (by decide) (fun c3 => ?_) (fun c3 => ?_)
  · have h := (if_pos c3).symm.trans h
    refine wm_lload_n E dMa_min2_10 rfl (j := 1) rfl ?_
    refine wm_pick (lv' := []) [] rfl ?_
    exact w_Ma_min2_11 E hQ hR hI v2 h
  · have h := (if_neg c3).symm.trans h
    refine wm_lload_n E dMa_min2_6 rfl (j := 0) rfl ?_
    refine wm_goto (tgt := 11) E dMa_min2_7 (by decide) ?_
    refine wm_pick (lv' := []) [] rfl ?_
    exact w_Ma_min2_11 E hQ hR hI v0 h
def B_P_leastName_71 (k8 : Option Nat → Option Nat → Option Nat → Int32 → Int64 → Int32 → Mem → Option (Int64 × Mem)) (v0 : Option Nat) (v1 : Option Nat) (v2 : Option Nat) (v3 : Int32) (v4 : Int64) (v6 : Int32) (μ : Mem) : Option (Int64 × Mem) := k8 v0 v1 v2 v3 v4 (v6 + 1) μ
set_option maxHeartbeats 4000000 in
set_option maxRecDepth 100000 in
theorem w_P_leastName_71 {X : CX} (E : EV X prog_1_method_35_code 8 "PlaceFinder" (some .long)) {μ0 μ' : Mem} {r : Int64} (hQ : RQ X 0 0 μ0 (some (vL r)) μ') (hR : xR X = { frames := 7, cells := 0, slots := 0, locals := 152 }) (hI : X.2.2.2.2.2.2.2.2.2.2.2.1.name = "leastName") (k8 : Option Nat → Option Nat → Option Nat → Int32 → Int64 → Int32 → Mem → Option (Int64 × Mem)) (hk8 : ∀ (v0 : Option Nat) (v1 : Option Nat) (v2 : Option Nat) (v3 : Int32) (v4 : Int64) (v6 : Int32) (μ : Mem), k8 v0 v1 v2 v3 v4 v6 μ = some (r, μ') → WM X 8 8 [(0, vR v0), (1, vR v1), (2, vR v2), (3, vI v3), (4, vL v4), (6, vI v6)] [] 0 0 μ) (v0 : Option Nat) (v1 : Option Nat) (v2 : Option Nat) (v3 : Int32) (v4 : Int64) (v6 : Int32) (μ : Mem) (h : B_P_leastName_71 k8 v0 v1 v2 v3 v4 v6 μ = some (r, μ')) : WM X 8 71 [(0, vR v0), (1, vR v1), (2, vR v2), (3, vI v3), (4, vL v4), (6, vI v6)] [] 0 0 μ := by
  have h : (k8 v0 v1 v2 v3 v4 (v6 + 1) μ) = some (r, μ') := h
  refine wm_iinc (lv' := [(6, vI (v6 + 1)), (0, vR v0), (1, vR v1), (2, vR v2), (3, vI v3), (4, vL v4)]) (d := 1) E dP_leastName_71 (by decide) (j := 5) rfl (by decide) rfl ?_
  refine wm_goto (tgt := 8) E dP_leastName_74 (by decide) ?_
  refine wm_pick (lv' := [(0, vR v0), (1, vR v1), (2, vR v2), (3, vI v3), (4, vL v4), (6, vI (v6 + 1))]) [1, 2, 3, 4, 5, 0] rfl ?_
  exact hk8 v0 v1 v2 v3 v4 (v6 + 1) μ h
def B_P_leastName_8  : Nat → Option Nat → Option Nat → Option Nat → Int32 → Int64 → Int32 → Mem → Option (Int64 × Mem)
  | 0, _, _, _, _, _, _, _ => none
  | n + 1, v0, v1, v2, v3, v4, v6, μ => b1 (gR μ v1 7 5) (fun x11 => b1 (rc μ x11 0) (fun _ => b1 (S_Al_size x11 μ) (fun x14 => if x14 ≤ v6 then some (v4, μ) else b1 (gR μ v1 7 5) (fun x21 => b1 (rc μ x21 0) (fun _ => b1 (S_Al_get x21 v6 μ) (fun x26 => b1 (cK μ x26 6) (fun _ => b1 (rc μ x26 6) (fun _ => b1 (S_Na_isOf x26 v3 μ) (fun x37 => if x37 = 0 then B_P_leastName_71 (fun v0 v1 v2 v3 v4 v6 μ => B_P_leastName_8 n v0 v1 v2 v3 v4 v6 μ) v0 v1 v2 v3 v4 v6 μ else b1 (gR μ x26 6 0) (fun x46 => b1 (rc μ v0 11) (fun _ => b2 (S_P_wordFits v0 x46 v2 μ) (fun x50 m50 => if x50 = 0 then B_P_leastName_71 (fun v0 v1 v2 v3 v4 v6 μ => B_P_leastName_8 n v0 v1 v2 v3 v4 v6 μ) v0 v1 v2 v3 v4 v6 m50 else b1 (gR m50 x26 6 0) (fun x60 => b1 (rc m50 x60 10) (fun _ => b1 (S_Wo_rank x60 m50) (fun x63 => b1 (S_Ma_min2 v4 x63 m50) (fun x66 => B_P_leastName_71 (fun v0 v1 v2 v3 v4 v6 μ => B_P_leastName_8 n v0 v1 v2 v3 v4 v6 μ) v0 v1 v2 v3 x66 v6 m50))))))))))))))))
set_option maxHeartbeats 4000000 in
set_option maxRecDepth 100000 in
theorem w_P_leastName_8 {X : CX} (E : EV X prog_1_method_35_code 8 "PlaceFinder" (some .long)) {μ0 μ' : Mem} {r : Int64} (hQ : RQ X 0 0 μ0 (some (vL r)) μ') (hR : xR X = { frames := 7, cells := 0, slots := 0, locals := 152 }) (hI : X.2.2.2.2.2.2.2.2.2.2.2.1.name = "leastName")  (n : Nat) : ∀ (v0 : Option Nat) (v1 : Option Nat) (v2 : Option Nat) (v3 : Int32) (v4 : Int64) (v6 : Int32) (μ : Mem) (h : B_P_leastName_8  n v0 v1 v2 v3 v4 v6 μ = some (r, μ')), WM X 8 8 [(0, vR v0), (1, vR v1), (2, vR v2), (3, vI v3), (4, vL v4), (6, vI v6)] [] 0 0 μ := by
  induction n with
  | zero => intro v0 v1 v2 v3 v4 v6 μ h; cases h
  | succ n ih =>
    intro v0 v1 v2 v3 v4 v6 μ h
    have h : (b1 (gR μ v1 7 5) (fun x11 => b1 (rc μ x11 0) (fun _ => b1 (S_Al_size x11 μ) (fun x14 => if x14 ≤ v6 then some (v4, μ) else b1 (gR μ v1 7 5) (fun x21 => b1 (rc μ x21 0) (fun _ => b1 (S_Al_get x21 v6 μ) (fun x26 => b1 (cK μ x26 6) (fun _ => b1 (rc μ x26 6) (fun _ => b1 (S_Na_isOf x26 v3 μ) (fun x37 => if x37 = 0 then B_P_leastName_71 (fun v0 v1 v2 v3 v4 v6 μ => B_P_leastName_8 n v0 v1 v2 v3 v4 v6 μ) v0 v1 v2 v3 v4 v6 μ else b1 (gR μ x26 6 0) (fun x46 => b1 (rc μ v0 11) (fun _ => b2 (S_P_wordFits v0 x46 v2 μ) (fun x50 m50 => if x50 = 0 then B_P_leastName_71 (fun v0 v1 v2 v3 v4 v6 μ => B_P_leastName_8 n v0 v1 v2 v3 v4 v6 μ) v0 v1 v2 v3 v4 v6 m50 else b1 (gR m50 x26 6 0) (fun x60 => b1 (rc m50 x60 10) (fun _ => b1 (S_Wo_rank x60 m50) (fun x63 => b1 (S_Ma_min2 v4 x63 m50) (fun x66 => B_P_leastName_71 (fun v0 v1 v2 v3 v4 v6 μ => B_P_leastName_8 n v0 v1 v2 v3 v4 v6 μ) v0 v1 v2 v3 x66 v6 m50))))))))))))))))) = some (r, μ') := h
    refine wm_iload E dP_leastName_8 (j := 5) rfl ?_
    refine wm_aload_n E dP_leastName_10 rfl (j := 1) rfl ?_
    refine wm_gR E fd_P_156 h dP_leastName_11 (fun x11 h => ?_)
    obtain ⟨u14, hr14, h⟩ := b1S h
    obtain ⟨x14, hc14, h⟩ := b1S h
    refine wm_cV (ci := 0) (As := []) (st := [vI v6]) E lk_P_98 rfl im_Al_size sl_Al_size hr14 (C_Al_size (xl X) X.1 x11 μ _ hc14) rfl rfl (by rw [hR]; decide) (by rw [hR]; decide) (Nat.le_of_ble_eq_true rfl) dP_leastName_14 ?_
    refine wm_icmp_ge (tgt := 77) E dP_leastName_17 (by decide) (fun c17 => ?_) (fun c17 => ?_)
    · have h := (if_pos c17).symm.trans h
      refine wm_lload E dP_leastName_77 (j := 4) rfl ?_
      exact wm_lret (rt := .long) E hQ (rtL h) (rtM h) (by decide) (by decide) dP_leastName_79
    · have h := (if_neg c17).symm.trans h
      refine wm_aload_n E dP_leastName_20 rfl (j := 1) rfl ?_
      refine wm_gR E fd_P_156 h dP_leastName_21 (fun x21 h => ?_)
      refine wm_iload E dP_leastName_24 (j := 5) rfl ?_
      obtain ⟨u26, hr26, h⟩ := b1S h
      obtain ⟨x26, hc26, h⟩ := b1S h
      refine wm_cV (ci := 0) (As := [vI v6]) (st := []) E lk_P_223 rfl im_Al_get sl_Al_get hr26 (C_Al_get (xl X) X.1 x21 v6 μ _ hc26) rfl rfl (by rw [hR]; decide) (by rw [hR]; decide) (Nat.le_of_ble_eq_true rfl) dP_leastName_26 ?_
      refine wm_ckc (ci := 6) E rfl cl_P_161 h dP_leastName_29 (fun h => ?_)
      refine wm_astore (lv' := [(7, vR x26), (0, vR v0), (1, vR v1), (2, vR v2), (3, vI v3), (4, vL v4), (6, vI v6)]) E dP_leastName_32 (by decide) rfl ?_
      refine wm_aload E dP_leastName_34 (j := 0) rfl ?_
      refine wm_iload_n E dP_leastName_36 rfl (j := 4) rfl ?_
      obtain ⟨u37, hr37, h⟩ := b1S h
      obtain ⟨x37, hc37, h⟩ := b1S h
      refine wm_cV (ci := 6) (As := [vI v3]) (st := []) E lk_P_389 rfl im_Na_isOf sl_Na_isOf hr37 (C_Na_isOf (xl X) X.1 x26 v3 μ _ hc37) rfl rfl (by rw [hR]; decide) (by rw [hR]; decide) (Nat.le_of_ble_eq_true rfl) dP_leastName_37 ?_
      refine wm_if_eq (tgt := 71) E dP_leastName_40 (by decide) (fun c40 => ?_) (fun c40 => ?_)
      · have h := (if_pos c40).symm.trans h
        refine wm_pick (lv' := [(0, vR v0), (1, vR v1), (2, vR v2), (3, vI v3), (4, vL v4), (6, vI v6)]) [1, 2, 3, 4, 5, 6] rfl ?_
        exact w_P_leastName_71 E hQ hR hI (fun v0 v1 v2 v3 v4 v6 μ => B_P_leastName_8 n v0 v1 v2 v3 v4 v6 μ) ih v0 v1 v2 v3 v4 v6 μ h
      · have h := (if_neg c40).symm.trans h
        refine wm_aload_n E dP_leastName_43 rfl (j := 1) rfl ?_
        refine wm_aload E dP_leastName_44 (j := 0) rfl ?_
        refine wm_gR E fd_P_290 h dP_leastName_46 (fun x46 h => ?_)
        refine wm_aload_n E dP_leastName_49 rfl (j := 3) rfl ?_
        obtain ⟨u50, hr50, h⟩ := b1S h
        obtain ⟨x50, m50, hc50, h⟩ := b2S h
        refine wm_cV (ci := 11) (As := [vR x46, vR v2]) (st := []) E lk_P_392 rfl im_P_wordFits sl_P_wordFits hr50 (C_P_wordFits (xl X) X.1 v0 x46 v2 μ _ _ hc50) rfl rfl (by rw [hR]; decide) (by rw [hR]; decide) (Nat.le_of_ble_eq_true rfl) dP_leastName_50 ?_
        refine wm_if_eq (tgt := 71) E dP_leastName_53 (by decide) (fun c53 => ?_) (fun c53 => ?_)
        · have h := (if_pos c53).symm.trans h
          refine wm_pick (lv' := [(0, vR v0), (1, vR v1), (2, vR v2), (3, vI v3), (4, vL v4), (6, vI v6)]) [1, 2, 3, 4, 5, 6] rfl ?_
          exact w_P_leastName_71 E hQ hR hI (fun v0 v1 v2 v3 v4 v6 μ => B_P_leastName_8 n v0 v1 v2 v3 v4 v6 μ) ih v0 v1 v2 v3 v4 v6 m50 h
        · have h := (if_neg c53).symm.trans h
          refine wm_lload E dP_leastName_56 (j := 5) rfl ?_
          refine wm_aload E dP_leastName_58 (j := 0) rfl ?_
          refine wm_gR E fd_P_290 h dP_leastName_60 (fun x60 h => ?_)
          obtain ⟨u63, hr63, h⟩ := b1S h
          obtain ⟨x63, hc63, h⟩ := b1S h
          refine wm_cV (ci := 10) (As := []) (st := [vL v4]) E lk_P_396 rfl im_Wo_rank sl_Wo_rank hr63 (C_Wo_rank (xl X) X.1 x60 m50 _ hc63) rfl rfl (by rw [hR]; decide) (by rw [hR]; decide) (Nat.le_of_ble_eq_true rfl) dP_leastName_63 ?_
          obtain ⟨x66, hc66, h⟩ := b1S h
          refine wm_cS (As := [vL v4, vL x63]) (st := []) E lk_P_400 sc_Ma_min2 (C_Ma_min2 (xl X) X.1 v4 x63 m50 _ hc66) rfl rfl (by rw [hR]; decide) (by rw [hR]; decide) (Nat.le_of_ble_eq_true rfl) dP_leastName_66 ?_
          refine wm_lstore (lv' := [(4, vL x66), (7, vR x26), (0, vR v0), (1, vR v1), (2, vR v2), (3, vI v3), (6, vI v6)]) E dP_leastName_69 (by decide) rfl ?_
          refine wm_pick (lv' := [(0, vR v0), (1, vR v1), (2, vR v2), (3, vI v3), (4, vL x66), (6, vI v6)]) [2, 3, 4, 5, 0, 6] rfl ?_
          exact w_P_leastName_71 E hQ hR hI (fun v0 v1 v2 v3 v4 v6 μ => B_P_leastName_8 n v0 v1 v2 v3 v4 v6 μ) ih v0 v1 v2 v3 x66 v6 m50 h
def S_P_leastName (v0 : Option Nat) (v1 : Option Nat) (v2 : Option Nat) (v3 : Int32) (μ : Mem) : Option (Int64 × Mem) := B_P_leastName_8 fu v0 v1 v2 v3 1152921504606846976 0 μ
set_option maxHeartbeats 4000000 in
set_option maxRecDepth 100000 in
theorem C_P_leastName (l : Launch) (G : GG) (v0 : Option Nat) (v1 : Option Nat) (v2 : Option Nat) (v3 : Int32) (μ μ' : Mem) (r : Int64) (h : S_P_leastName v0 v1 v2 v3 μ = some (r, μ')) : CT l G y_P_leastName prog_1_method_35_code 8 (some .long) 7 0 0 152 μ [vR v0, vR v1, vR v2, vI v3] (some (vL r)) μ' := by
  refine wm_met (lv := [(0, vR v0), (1, vR v1), (2, vR v2), (3, vI v3)]) (by decide +kernel) (Nat.le_of_ble_eq_true rfl) rfl (fun X E hQ hR hI => ?_)
  have h : (B_P_leastName_8 fu v0 v1 v2 v3 1152921504606846976 0 μ) = some (r, μ') := h
  refine wm_ldc2 (x := 1152921504606846976) E cn_P_383 dP_leastName_0 ?_
  refine wm_lstore (lv' := [(4, vL 1152921504606846976), (0, vR v0), (1, vR v1), (2, vR v2), (3, vI v3)]) E dP_leastName_3 (by decide) rfl ?_
  refine wm_iconst (x := 0) E dP_leastName_5 (by decide) ?_
  refine wm_istore (lv' := [(6, vI 0), (4, vL 1152921504606846976), (0, vR v0), (1, vR v1), (2, vR v2), (3, vI v3)]) E dP_leastName_6 (by decide) rfl ?_
  refine wm_pick (lv' := [(0, vR v0), (1, vR v1), (2, vR v2), (3, vI v3), (4, vL 1152921504606846976), (6, vI 0)]) [2, 3, 4, 5, 1, 0] rfl ?_
  exact w_P_leastName_8 E hQ hR hI fu v0 v1 v2 v3 1152921504606846976 0 μ h
def B_P_fits_56  (s0 : Int32) (μ : Mem) : Option (Int32 × Mem) := gd (¬ okZ s0 = true) (some (s0, μ))
set_option maxHeartbeats 4000000 in
set_option maxRecDepth 100000 in
theorem w_P_fits_56 {X : CX} (E : EV X prog_1_method_32_code 6 "PlaceFinder" (some .boolean)) {μ0 μ' : Mem} {r : Int32} (hQ : RQ X 0 0 μ0 (some (vI r)) μ') (hR : xR X = { frames := 8, cells := 0, slots := 0, locals := 179 }) (hI : X.2.2.2.2.2.2.2.2.2.2.2.1.name = "fits")  (s0 : Int32) (μ : Mem) (h : B_P_fits_56  s0 μ = some (r, μ')) : WM X 6 56 [] [vI s0] 0 0 μ := by
  have h : (gd (¬ okZ s0 = true) (some (s0, μ))) = some (r, μ') := h
  obtain ⟨hz56, h⟩ := gdS h
  exact wm_zret (rt := .boolean) E hQ (rtI h) (rtM h) (okZN hz56) (by decide) (by decide) dP_fits_56
def B_P_fits_109  (s0 : Int32) (μ : Mem) : Option (Int32 × Mem) := gd (¬ okZ s0 = true) (some (s0, μ))
set_option maxHeartbeats 4000000 in
set_option maxRecDepth 100000 in
theorem w_P_fits_109 {X : CX} (E : EV X prog_1_method_32_code 6 "PlaceFinder" (some .boolean)) {μ0 μ' : Mem} {r : Int32} (hQ : RQ X 0 0 μ0 (some (vI r)) μ') (hR : xR X = { frames := 8, cells := 0, slots := 0, locals := 179 }) (hI : X.2.2.2.2.2.2.2.2.2.2.2.1.name = "fits")  (s0 : Int32) (μ : Mem) (h : B_P_fits_109  s0 μ = some (r, μ')) : WM X 6 109 [] [vI s0] 0 0 μ := by
  have h : (gd (¬ okZ s0 = true) (some (s0, μ))) = some (r, μ') := h
  obtain ⟨hz109, h⟩ := gdS h
  exact wm_zret (rt := .boolean) E hQ (rtI h) (rtM h) (okZN hz109) (by decide) (by decide) dP_fits_109
def B_P_fits_152  (s0 : Int32) (μ : Mem) : Option (Int32 × Mem) := gd (¬ okZ s0 = true) (some (s0, μ))
set_option maxHeartbeats 4000000 in
set_option maxRecDepth 100000 in
theorem w_P_fits_152 {X : CX} (E : EV X prog_1_method_32_code 6 "PlaceFinder" (some .boolean)) {μ0 μ' : Mem} {r : Int32} (hQ : RQ X 0 0 μ0 (some (vI r)) μ') (hR : xR X = { frames := 8, cells := 0, slots := 0, locals := 179 }) (hI : X.2.2.2.2.2.2.2.2.2.2.2.1.name = "fits")  (s0 : Int32) (μ : Mem) (h : B_P_fits_152  s0 μ = some (r, μ')) : WM X 6 152 [] [vI s0] 0 0 μ := by
  have h : (gd (¬ okZ s0 = true) (some (s0, μ))) = some (r, μ') := h
  obtain ⟨hz152, h⟩ := gdS h
  exact wm_zret (rt := .boolean) E hQ (rtI h) (rtM h) (okZN hz152) (by decide) (by decide) dP_fits_152
def S_P_fits (v0 : Option Nat) (v1 : Option Nat) (v2 : Option Nat) (v3 : Option Nat) (v4 : Option Nat) (v5 : Int32) (μ : Mem) : Option (Int32 × Mem) := b1 (gI μ v3 1 0) (fun x1 => if x1 = 4 then b1 (gI μ v1 7 1) (fun x41 => b1 (gI μ v3 1 1) (fun x45 => if x41 = x45 then B_P_fits_56 1 μ else B_P_fits_56 0 μ)) else if x1 = 5 then b1 (gI μ v3 1 1) (fun x60 => b1 (rc μ v0 11) (fun _ => b1 (S_P_liesInPlace v0 v2 x60 v5 μ) (fun x65 => gd (¬ okZ x65 = true) (some (x65, μ))))) else if x1 = 6 then b1 (gI μ v3 1 1) (fun x71 => b1 (S_P_isBelow v1 x71 v5 μ) (fun x76 => gd (¬ okZ x76 = true) (some (x76, μ)))) else if x1 = 7 then b1 (gI μ v3 1 1) (fun x82 => b1 (gI μ v3 1 2) (fun x86 => b1 (rc μ v2 2) (fun _ => b1 (S_Co_squareTo v2 x82 x86 μ) (fun x89 => b1 (gI μ v3 1 3) (fun x93 => b1 (gI μ v3 1 3) (fun x97 => if (x93 * x97) < x89 then B_P_fits_109 0 μ else B_P_fits_109 1 μ)))))) else if x1 = 8 then b1 (gR μ v0 11 11) (fun x111 => b1 (rc μ x111 8) (fun _ => b2 (S_Rs_start x111 v4 v2 μ) (fun x117 m117 => b1 (gR m117 v0 11 11) (fun x121 => b1 (gI m117 v3 1 1) (fun x125 => b1 (rc m117 x121 8) (fun _ => b1 (S_Rs_isWithin x121 x125 m117) (fun x128 => gd (¬ okZ x128 = true) (some (x128, m117))))))))) else b1 (rc μ v0 11) (fun _ => b2 (S_P_leastName v0 v1 v3 v5 μ) (fun x137 m137 => if (lg_cmp x137 1152921504606846976) = 0 then B_P_fits_152 0 m137 else B_P_fits_152 1 m137)))
set_option maxHeartbeats 4000000 in
set_option maxRecDepth 100000 in
theorem C_P_fits (l : Launch) (G : GG) (v0 : Option Nat) (v1 : Option Nat) (v2 : Option Nat) (v3 : Option Nat) (v4 : Option Nat) (v5 : Int32) (μ μ' : Mem) (r : Int32) (h : S_P_fits v0 v1 v2 v3 v4 v5 μ = some (r, μ')) : CT l G y_P_fits prog_1_method_32_code 6 (some .boolean) 8 0 0 179 μ [vR v0, vR v1, vR v2, vR v3, vR v4, vI v5] (some (vI r)) μ' := by
  refine wm_met (lv := [(0, vR v0), (1, vR v1), (2, vR v2), (3, vR v3), (4, vR v4), (5, vI v5)]) (by decide +kernel) (Nat.le_of_ble_eq_true rfl) rfl (fun X E hQ hR hI => ?_)
  have h : (b1 (gI μ v3 1 0) (fun x1 => if x1 = 4 then b1 (gI μ v1 7 1) (fun x41 => b1 (gI μ v3 1 1) (fun x45 => if x41 = x45 then B_P_fits_56 1 μ else B_P_fits_56 0 μ)) else if x1 = 5 then b1 (gI μ v3 1 1) (fun x60 => b1 (rc μ v0 11) (fun _ => b1 (S_P_liesInPlace v0 v2 x60 v5 μ) (fun x65 => gd (¬ okZ x65 = true) (some (x65, μ))))) else if x1 = 6 then b1 (gI μ v3 1 1) (fun x71 => b1 (S_P_isBelow v1 x71 v5 μ) (fun x76 => gd (¬ okZ x76 = true) (some (x76, μ)))) else if x1 = 7 then b1 (gI μ v3 1 1) (fun x82 => b1 (gI μ v3 1 2) (fun x86 => b1 (rc μ v2 2) (fun _ => b1 (S_Co_squareTo v2 x82 x86 μ) (fun x89 => b1 (gI μ v3 1 3) (fun x93 => b1 (gI μ v3 1 3) (fun x97 => if (x93 * x97) < x89 then B_P_fits_109 0 μ else B_P_fits_109 1 μ)))))) else if x1 = 8 then b1 (gR μ v0 11 11) (fun x111 => b1 (rc μ x111 8) (fun _ => b2 (S_Rs_start x111 v4 v2 μ) (fun x117 m117 => b1 (gR m117 v0 11 11) (fun x121 => b1 (gI m117 v3 1 1) (fun x125 => b1 (rc m117 x121 8) (fun _ => b1 (S_Rs_isWithin x121 x125 m117) (fun x128 => gd (¬ okZ x128 = true) (some (x128, m117))))))))) else b1 (rc μ v0 11) (fun _ => b2 (S_P_leastName v0 v1 v3 v5 μ) (fun x137 m137 => if (lg_cmp x137 1152921504606846976) = 0 then B_P_fits_152 0 m137 else B_P_fits_152 1 m137)))) = some (r, μ') := h
  refine wm_aload_n E dP_fits_0 rfl (j := 3) rfl ?_
  refine wm_gI E fd_P_352 h dP_fits_1 (fun x1 h => ?_)
  by_cases c4_4 : x1 = 4
  · have h := (if_pos c4_4).symm.trans h
    refine wm_tabIn (tgt := 40) E dP_fits_4 (4) ((congrArg Int32.toInt c4_4).trans (by decide)) (by decide) (by decide) rfl (by decide) ?_
    refine wm_aload_n E dP_fits_40 rfl (j := 1) rfl ?_
    refine wm_gI E fd_P_246 h dP_fits_41 (fun x41 h => ?_)
    refine wm_aload_n E dP_fits_44 rfl (j := 3) rfl ?_
    refine wm_gI E fd_P_353 h dP_fits_45 (fun x45 h => ?_)
    refine wm_icmp_ne (tgt := 55) E dP_fits_48 (by decide) (fun c48 => ?_) (fun c48 => ?_)
    · have h := (if_neg c48).symm.trans h
      refine wm_iconst (x := 0) E dP_fits_55 (by decide) ?_
      refine wm_pick (lv' := []) [] rfl ?_
      exact w_P_fits_56 E hQ hR hI 0 μ h
    · have h := (if_pos c48).symm.trans h
      refine wm_iconst (x := 1) E dP_fits_51 (by decide) ?_
      refine wm_goto (tgt := 56) E dP_fits_52 (by decide) ?_
      refine wm_pick (lv' := []) [] rfl ?_
      exact w_P_fits_56 E hQ hR hI 1 μ h
  · have h := (if_neg c4_4).symm.trans h
    by_cases c4_5 : x1 = 5
    · have h := (if_pos c4_5).symm.trans h
      refine wm_tabIn (tgt := 57) E dP_fits_4 (5) ((congrArg Int32.toInt c4_5).trans (by decide)) (by decide) (by decide) rfl (by decide) ?_
      refine wm_aload_n E dP_fits_57 rfl (j := 0) rfl ?_
      refine wm_aload_n E dP_fits_58 rfl (j := 2) rfl ?_
      refine wm_aload_n E dP_fits_59 rfl (j := 3) rfl ?_
      refine wm_gI E fd_P_353 h dP_fits_60 (fun x60 h => ?_)
      refine wm_iload E dP_fits_63 (j := 5) rfl ?_
      obtain ⟨u65, hr65, h⟩ := b1S h
      obtain ⟨x65, hc65, h⟩ := b1S h
      refine wm_cV (ci := 11) (As := [vR v2, vI x60, vI v5]) (st := []) E lk_P_356 rfl im_P_liesInPlace sl_P_liesInPlace hr65 (C_P_liesInPlace (xl X) X.1 v0 v2 x60 v5 μ _ hc65) rfl rfl (by rw [hR]; decide) (by rw [hR]; decide) (Nat.le_of_ble_eq_true rfl) dP_fits_65 ?_
      obtain ⟨hz68, h⟩ := gdS h
      exact wm_zret (rt := .boolean) E hQ (rtI h) (rtM h) (okZN hz68) (by decide) (by decide) dP_fits_68
    · have h := (if_neg c4_5).symm.trans h
      by_cases c4_6 : x1 = 6
      · have h := (if_pos c4_6).symm.trans h
        refine wm_tabIn (tgt := 69) E dP_fits_4 (6) ((congrArg Int32.toInt c4_6).trans (by decide)) (by decide) (by decide) rfl (by decide) ?_
        refine wm_aload_n E dP_fits_69 rfl (j := 1) rfl ?_
        refine wm_aload_n E dP_fits_70 rfl (j := 3) rfl ?_
        refine wm_gI E fd_P_353 h dP_fits_71 (fun x71 h => ?_)
        refine wm_iload E dP_fits_74 (j := 5) rfl ?_
        obtain ⟨x76, hc76, h⟩ := b1S h
        refine wm_cS (As := [vR v1, vI x71, vI v5]) (st := []) E lk_P_360 sc_P_isBelow (C_P_isBelow (xl X) X.1 v1 x71 v5 μ _ hc76) rfl rfl (by rw [hR]; decide) (by rw [hR]; decide) (Nat.le_of_ble_eq_true rfl) dP_fits_76 ?_
        obtain ⟨hz79, h⟩ := gdS h
        exact wm_zret (rt := .boolean) E hQ (rtI h) (rtM h) (okZN hz79) (by decide) (by decide) dP_fits_79
      · have h := (if_neg c4_6).symm.trans h
        by_cases c4_7 : x1 = 7
        · have h := (if_pos c4_7).symm.trans h
          refine wm_tabIn (tgt := 80) E dP_fits_4 (7) ((congrArg Int32.toInt c4_7).trans (by decide)) (by decide) (by decide) rfl (by decide) ?_
          refine wm_aload_n E dP_fits_80 rfl (j := 2) rfl ?_
          refine wm_aload_n E dP_fits_81 rfl (j := 3) rfl ?_
          refine wm_gI E fd_P_353 h dP_fits_82 (fun x82 h => ?_)
          refine wm_aload_n E dP_fits_85 rfl (j := 3) rfl ?_
          refine wm_gI E fd_P_364 h dP_fits_86 (fun x86 h => ?_)
          obtain ⟨u89, hr89, h⟩ := b1S h
          obtain ⟨x89, hc89, h⟩ := b1S h
          refine wm_cV (ci := 2) (As := [vI x82, vI x86]) (st := []) E lk_P_367 rfl im_Co_squareTo sl_Co_squareTo hr89 (C_Co_squareTo (xl X) X.1 v2 x82 x86 μ _ hc89) rfl rfl (by rw [hR]; decide) (by rw [hR]; decide) (Nat.le_of_ble_eq_true rfl) dP_fits_89 ?_
          refine wm_aload_n E dP_fits_92 rfl (j := 3) rfl ?_
          refine wm_gI E fd_P_369 h dP_fits_93 (fun x93 h => ?_)
          refine wm_aload_n E dP_fits_96 rfl (j := 3) rfl ?_
          refine wm_gI E fd_P_369 h dP_fits_97 (fun x97 h => ?_)
          refine wm_imul E dP_fits_100 ?_
          refine wm_icmp_gt (tgt := 108) E dP_fits_101 (by decide) (fun c101 => ?_) (fun c101 => ?_)
          · have h := (if_pos c101).symm.trans h
            refine wm_iconst (x := 0) E dP_fits_108 (by decide) ?_
            refine wm_pick (lv' := []) [] rfl ?_
            exact w_P_fits_109 E hQ hR hI 0 μ h
          · have h := (if_neg c101).symm.trans h
            refine wm_iconst (x := 1) E dP_fits_104 (by decide) ?_
            refine wm_goto (tgt := 109) E dP_fits_105 (by decide) ?_
            refine wm_pick (lv' := []) [] rfl ?_
            exact w_P_fits_109 E hQ hR hI 1 μ h
        · have h := (if_neg c4_7).symm.trans h
          by_cases c4_8 : x1 = 8
          · have h := (if_pos c4_8).symm.trans h
            refine wm_tabIn (tgt := 110) E dP_fits_4 (8) ((congrArg Int32.toInt c4_8).trans (by decide)) (by decide) (by decide) rfl (by decide) ?_
            refine wm_aload_n E dP_fits_110 rfl (j := 0) rfl ?_
            refine wm_gR E fd_P_69 h dP_fits_111 (fun x111 h => ?_)
            refine wm_aload E dP_fits_114 (j := 4) rfl ?_
            refine wm_aload_n E dP_fits_116 rfl (j := 2) rfl ?_
            obtain ⟨u117, hr117, h⟩ := b1S h
            obtain ⟨x117, m117, hc117, h⟩ := b2S h
            refine wm_cV (ci := 8) (As := [vR v4, vR v2]) (st := []) E lk_P_372 rfl im_Rs_start sl_Rs_start hr117 (C_Rs_start (xl X) X.1 x111 v4 v2 μ _ _ hc117) rfl rfl (by rw [hR]; decide) (by rw [hR]; decide) (Nat.le_of_ble_eq_true rfl) dP_fits_117 ?_
            refine wm_aload_n E dP_fits_120 rfl (j := 0) rfl ?_
            refine wm_gR E fd_P_69 h dP_fits_121 (fun x121 h => ?_)
            refine wm_aload_n E dP_fits_124 rfl (j := 3) rfl ?_
            refine wm_gI E fd_P_353 h dP_fits_125 (fun x125 h => ?_)
            obtain ⟨u128, hr128, h⟩ := b1S h
            obtain ⟨x128, hc128, h⟩ := b1S h
            refine wm_cV (ci := 8) (As := [vI x125]) (st := []) E lk_P_376 rfl im_Rs_isWithin sl_Rs_isWithin hr128 (C_Rs_isWithin (xl X) X.1 x121 x125 m117 _ hc128) rfl rfl (by rw [hR]; decide) (by rw [hR]; decide) (Nat.le_of_ble_eq_true rfl) dP_fits_128 ?_
            obtain ⟨hz131, h⟩ := gdS h
            exact wm_zret (rt := .boolean) E hQ (rtI h) (rtM h) (okZN hz131) (by decide) (by decide) dP_fits_131
          · have h := (if_neg c4_8).symm.trans h
            have e4_4 : x1.toInt ≠ 4 := fun q => c4_4 (Int32.toInt_inj.mp (q.trans (by decide)))
            have e4_5 : x1.toInt ≠ 5 := fun q => c4_5 (Int32.toInt_inj.mp (q.trans (by decide)))
            have e4_6 : x1.toInt ≠ 6 := fun q => c4_6 (Int32.toInt_inj.mp (q.trans (by decide)))
            have e4_7 : x1.toInt ≠ 7 := fun q => c4_7 (Int32.toInt_inj.mp (q.trans (by decide)))
            have e4_8 : x1.toInt ≠ 8 := fun q => c4_8 (Int32.toInt_inj.mp (q.trans (by decide)))
            refine wm_tabOut (tgt := 132) E dP_fits_4 (by omega) (by decide) ?_
            refine wm_aload_n E dP_fits_132 rfl (j := 0) rfl ?_
            refine wm_aload_n E dP_fits_133 rfl (j := 1) rfl ?_
            refine wm_aload_n E dP_fits_134 rfl (j := 3) rfl ?_
            refine wm_iload E dP_fits_135 (j := 5) rfl ?_
            obtain ⟨u137, hr137, h⟩ := b1S h
            obtain ⟨x137, m137, hc137, h⟩ := b2S h
            refine wm_cV (ci := 11) (As := [vR v1, vR v3, vI v5]) (st := []) E lk_P_379 rfl im_P_leastName sl_P_leastName hr137 (C_P_leastName (xl X) X.1 v0 v1 v3 v5 μ _ _ hc137) rfl rfl (by rw [hR]; decide) (by rw [hR]; decide) (Nat.le_of_ble_eq_true rfl) dP_fits_137 ?_
            refine wm_ldc2 (x := 1152921504606846976) E cn_P_383 dP_fits_140 ?_
            refine wm_lcmp E dP_fits_143 ?_
            refine wm_if_eq (tgt := 151) E dP_fits_144 (by decide) (fun c144 => ?_) (fun c144 => ?_)
            · have h := (if_pos c144).symm.trans h
              refine wm_iconst (x := 0) E dP_fits_151 (by decide) ?_
              refine wm_pick (lv' := []) [] rfl ?_
              exact w_P_fits_152 E hQ hR hI 0 m137 h
            · have h := (if_neg c144).symm.trans h
              refine wm_iconst (x := 1) E dP_fits_147 (by decide) ?_
              refine wm_goto (tgt := 152) E dP_fits_148 (by decide) ?_
              refine wm_pick (lv' := []) [] rfl ?_
              exact w_P_fits_152 E hQ hR hI 1 m137 h
def B_P_meets_22   (μ : Mem) : Option (Int32 × Mem) := gd (¬ okZ 0 = true) (some (0, μ))
set_option maxHeartbeats 4000000 in
set_option maxRecDepth 100000 in
theorem w_P_meets_22 {X : CX} (E : EV X prog_1_method_31_code 7 "PlaceFinder" (some .boolean)) {μ0 μ' : Mem} {r : Int32} (hQ : RQ X 0 0 μ0 (some (vI r)) μ') (hR : xR X = { frames := 9, cells := 0, slots := 0, locals := 204 }) (hI : X.2.2.2.2.2.2.2.2.2.2.2.1.name = "meets")   (μ : Mem) (h : B_P_meets_22   μ = some (r, μ')) : WM X 7 22 [] [] 0 0 μ := by
  have h : (gd (¬ okZ 0 = true) (some (0, μ))) = some (r, μ') := h
  refine wm_iconst (x := 0) E dP_meets_22 (by decide) ?_
  obtain ⟨hz23, h⟩ := gdS h
  exact wm_zret (rt := .boolean) E hQ (rtI h) (rtM h) (okZN hz23) (by decide) (by decide) dP_meets_23
def B_P_meets_27  : Nat → Option Nat → Option Nat → Option Nat → Option Nat → Int32 → Option Nat → Int32 → Mem → Option (Int32 × Mem)
  | 0, _, _, _, _, _, _, _, _ => none
  | n + 1, v0, v1, v2, v3, v4, v5, v6, μ => b1 (rc μ v2 0) (fun _ => b1 (S_Al_size v2 μ) (fun x30 => if x30 ≤ v6 then gd (¬ okZ 1 = true) (some (1, μ)) else b1 (rc μ v2 0) (fun _ => b1 (S_Al_get v2 v6 μ) (fun x43 => b1 (cK μ x43 1) (fun _ => b1 (rc μ v0 11) (fun _ => b2 (S_P_fits v0 v1 v5 x43 v3 v4 μ) (fun x52 m52 => if x52 = 0 then gd (¬ okZ 0 = true) (some (0, m52)) else (fun v0 v1 v2 v3 v4 v5 v6 μ => B_P_meets_27 n v0 v1 v2 v3 v4 v5 v6 μ) v0 v1 v2 v3 v4 v5 (v6 + 1) m52)))))))
set_option maxHeartbeats 4000000 in
set_option maxRecDepth 100000 in
theorem w_P_meets_27 {X : CX} (E : EV X prog_1_method_31_code 7 "PlaceFinder" (some .boolean)) {μ0 μ' : Mem} {r : Int32} (hQ : RQ X 0 0 μ0 (some (vI r)) μ') (hR : xR X = { frames := 9, cells := 0, slots := 0, locals := 204 }) (hI : X.2.2.2.2.2.2.2.2.2.2.2.1.name = "meets")  (n : Nat) : ∀ (v0 : Option Nat) (v1 : Option Nat) (v2 : Option Nat) (v3 : Option Nat) (v4 : Int32) (v5 : Option Nat) (v6 : Int32) (μ : Mem) (h : B_P_meets_27  n v0 v1 v2 v3 v4 v5 v6 μ = some (r, μ')), WM X 7 27 [(0, vR v0), (1, vR v1), (2, vR v2), (3, vR v3), (4, vI v4), (5, vR v5), (6, vI v6)] [] 0 0 μ := by
  induction n with
  | zero => intro v0 v1 v2 v3 v4 v5 v6 μ h; cases h
  | succ n ih =>
    intro v0 v1 v2 v3 v4 v5 v6 μ h
    have h : (b1 (rc μ v2 0) (fun _ => b1 (S_Al_size v2 μ) (fun x30 => if x30 ≤ v6 then gd (¬ okZ 1 = true) (some (1, μ)) else b1 (rc μ v2 0) (fun _ => b1 (S_Al_get v2 v6 μ) (fun x43 => b1 (cK μ x43 1) (fun _ => b1 (rc μ v0 11) (fun _ => b2 (S_P_fits v0 v1 v5 x43 v3 v4 μ) (fun x52 m52 => if x52 = 0 then gd (¬ okZ 0 = true) (some (0, m52)) else (fun v0 v1 v2 v3 v4 v5 v6 μ => B_P_meets_27 n v0 v1 v2 v3 v4 v5 v6 μ) v0 v1 v2 v3 v4 v5 (v6 + 1) m52)))))))) = some (r, μ') := h
    refine wm_iload E dP_meets_27 (j := 6) rfl ?_
    refine wm_aload_n E dP_meets_29 rfl (j := 2) rfl ?_
    obtain ⟨u30, hr30, h⟩ := b1S h
    obtain ⟨x30, hc30, h⟩ := b1S h
    refine wm_cV (ci := 0) (As := []) (st := [vI v6]) E lk_P_98 rfl im_Al_size sl_Al_size hr30 (C_Al_size (xl X) X.1 v2 μ _ hc30) rfl rfl (by rw [hR]; decide) (by rw [hR]; decide) (Nat.le_of_ble_eq_true rfl) dP_meets_30 ?_
    refine wm_icmp_ge (tgt := 66) E dP_meets_33 (by decide) (fun c33 => ?_) (fun c33 => ?_)
    · have h := (if_pos c33).symm.trans h
      refine wm_iconst (x := 1) E dP_meets_66 (by decide) ?_
      obtain ⟨hz67, h⟩ := gdS h
      exact wm_zret (rt := .boolean) E hQ (rtI h) (rtM h) (okZN hz67) (by decide) (by decide) dP_meets_67
    · have h := (if_neg c33).symm.trans h
      refine wm_aload_n E dP_meets_36 rfl (j := 0) rfl ?_
      refine wm_aload_n E dP_meets_37 rfl (j := 1) rfl ?_
      refine wm_aload E dP_meets_38 (j := 5) rfl ?_
      refine wm_aload_n E dP_meets_40 rfl (j := 2) rfl ?_
      refine wm_iload E dP_meets_41 (j := 6) rfl ?_
      obtain ⟨u43, hr43, h⟩ := b1S h
      obtain ⟨x43, hc43, h⟩ := b1S h
      refine wm_cV (ci := 0) (As := [vI v6]) (st := [vR v5, vR v1, vR v0]) E lk_P_223 rfl im_Al_get sl_Al_get hr43 (C_Al_get (xl X) X.1 v2 v6 μ _ hc43) rfl rfl (by rw [hR]; decide) (by rw [hR]; decide) (Nat.le_of_ble_eq_true rfl) dP_meets_43 ?_
      refine wm_ckc (ci := 1) E rfl cl_P_73 h dP_meets_46 (fun h => ?_)
      refine wm_aload_n E dP_meets_49 rfl (j := 3) rfl ?_
      refine wm_iload E dP_meets_50 (j := 4) rfl ?_
      obtain ⟨u52, hr52, h⟩ := b1S h
      obtain ⟨x52, m52, hc52, h⟩ := b2S h
      refine wm_cV (ci := 11) (As := [vR v1, vR v5, vR x43, vR v3, vI v4]) (st := []) E lk_P_348 rfl im_P_fits sl_P_fits hr52 (C_P_fits (xl X) X.1 v0 v1 v5 x43 v3 v4 μ _ _ hc52) rfl rfl (by rw [hR]; decide) (by rw [hR]; decide) (Nat.le_of_ble_eq_true rfl) dP_meets_52 ?_
      refine wm_if_ne (tgt := 60) E dP_meets_55 (by decide) (fun c55 => ?_) (fun c55 => ?_)
      · have h := (if_neg c55).symm.trans h
        refine wm_iinc (lv' := [(6, vI (v6 + 1)), (0, vR v0), (1, vR v1), (2, vR v2), (3, vR v3), (4, vI v4), (5, vR v5)]) (d := 1) E dP_meets_60 (by decide) (j := 6) rfl (by decide) rfl ?_
        refine wm_goto (tgt := 27) E dP_meets_63 (by decide) ?_
        refine wm_pick (lv' := [(0, vR v0), (1, vR v1), (2, vR v2), (3, vR v3), (4, vI v4), (5, vR v5), (6, vI (v6 + 1))]) [1, 2, 3, 4, 5, 6, 0] rfl ?_
        exact ih v0 v1 v2 v3 v4 v5 (v6 + 1) m52 h
      · have h := (if_pos c55).symm.trans h
        refine wm_iconst (x := 0) E dP_meets_58 (by decide) ?_
        obtain ⟨hz59, h⟩ := gdS h
        exact wm_zret (rt := .boolean) E hQ (rtI h) (rtM h) (okZN hz59) (by decide) (by decide) dP_meets_59
def S_P_meets (v0 : Option Nat) (v1 : Option Nat) (v2 : Option Nat) (v3 : Option Nat) (v4 : Int32) (μ : Mem) : Option (Int32 × Mem) := b1 (rc μ v1 7) (fun _ => b1 (S_Pl_shapeOn v1 v4 μ) (fun x3 => if x3 = none then B_P_meets_22 μ else b1 (rc μ v1 7) (fun _ => b1 (S_Pl_isRemovedOn v1 v4 μ) (fun x16 => if x16 = 0 then B_P_meets_27 fu v0 v1 v2 v3 v4 x3 0 μ else B_P_meets_22 μ))))
set_option maxHeartbeats 4000000 in
set_option maxRecDepth 100000 in
theorem C_P_meets (l : Launch) (G : GG) (v0 : Option Nat) (v1 : Option Nat) (v2 : Option Nat) (v3 : Option Nat) (v4 : Int32) (μ μ' : Mem) (r : Int32) (h : S_P_meets v0 v1 v2 v3 v4 μ = some (r, μ')) : CT l G y_P_meets prog_1_method_31_code 7 (some .boolean) 9 0 0 204 μ [vR v0, vR v1, vR v2, vR v3, vI v4] (some (vI r)) μ' := by
  refine wm_met (lv := [(0, vR v0), (1, vR v1), (2, vR v2), (3, vR v3), (4, vI v4)]) (by decide +kernel) (Nat.le_of_ble_eq_true rfl) rfl (fun X E hQ hR hI => ?_)
  have h : (b1 (rc μ v1 7) (fun _ => b1 (S_Pl_shapeOn v1 v4 μ) (fun x3 => if x3 = none then B_P_meets_22 μ else b1 (rc μ v1 7) (fun _ => b1 (S_Pl_isRemovedOn v1 v4 μ) (fun x16 => if x16 = 0 then B_P_meets_27 fu v0 v1 v2 v3 v4 x3 0 μ else B_P_meets_22 μ))))) = some (r, μ') := h
  refine wm_aload_n E dP_meets_0 rfl (j := 1) rfl ?_
  refine wm_iload E dP_meets_1 (j := 4) rfl ?_
  obtain ⟨u3, hr3, h⟩ := b1S h
  obtain ⟨x3, hc3, h⟩ := b1S h
  refine wm_cV (ci := 7) (As := [vI v4]) (st := []) E lk_P_275 rfl im_Pl_shapeOn sl_Pl_shapeOn hr3 (C_Pl_shapeOn (xl X) X.1 v1 v4 μ _ hc3) rfl rfl (by rw [hR]; decide) (by rw [hR]; decide) (Nat.le_of_ble_eq_true rfl) dP_meets_3 ?_
  refine wm_astore (lv' := [(5, vR x3), (0, vR v0), (1, vR v1), (2, vR v2), (3, vR v3), (4, vI v4)]) E dP_meets_6 (by decide) rfl ?_
  refine wm_aload E dP_meets_8 (j := 0) rfl ?_
  refine wm_ifnull (tgt := 22) E dP_meets_10 (by decide) (fun c10 => ?_) (fun c10 => ?_)
  · have h := (if_pos c10).symm.trans h
    refine wm_pick (lv' := []) [] rfl ?_
    exact w_P_meets_22 E hQ hR hI μ h
  · have h := (if_neg c10).symm.trans h
    refine wm_aload_n E dP_meets_13 rfl (j := 2) rfl ?_
    refine wm_iload E dP_meets_14 (j := 5) rfl ?_
    obtain ⟨u16, hr16, h⟩ := b1S h
    obtain ⟨x16, hc16, h⟩ := b1S h
    refine wm_cV (ci := 7) (As := [vI v4]) (st := []) E lk_P_190 rfl im_Pl_isRemovedOn sl_Pl_isRemovedOn hr16 (C_Pl_isRemovedOn (xl X) X.1 v1 v4 μ _ hc16) rfl rfl (by rw [hR]; decide) (by rw [hR]; decide) (Nat.le_of_ble_eq_true rfl) dP_meets_16 ?_
    refine wm_if_eq (tgt := 24) E dP_meets_19 (by decide) (fun c19 => ?_) (fun c19 => ?_)
    · have h := (if_pos c19).symm.trans h
      refine wm_iconst (x := 0) E dP_meets_24 (by decide) ?_
      refine wm_istore (lv' := [(6, vI 0), (5, vR x3), (0, vR v0), (1, vR v1), (2, vR v2), (3, vR v3), (4, vI v4)]) E dP_meets_25 (by decide) rfl ?_
      refine wm_pick (lv' := [(0, vR v0), (1, vR v1), (2, vR v2), (3, vR v3), (4, vI v4), (5, vR x3), (6, vI 0)]) [2, 3, 4, 5, 6, 1, 0] rfl ?_
      exact w_P_meets_27 E hQ hR hI fu v0 v1 v2 v3 v4 x3 0 μ h
    · have h := (if_neg c19).symm.trans h
      refine wm_pick (lv' := []) [] rfl ?_
      exact w_P_meets_22 E hQ hR hI μ h
def B_Pl_squareTo_24 (μ : Mem)   (s0 : Int32) : Option Int32 := some (s0)
set_option maxHeartbeats 4000000 in
set_option maxRecDepth 100000 in
theorem w_Pl_squareTo_24 {X : CX} (E : EV X prog_8_method_7_code 5 "PlaceFinder$Place" (some .int)) {μ0 μ : Mem} {r : Int32} (hQ : RQ X 0 0 μ0 (some (vI r)) μ) (hR : xR X = { frames := 4, cells := 0, slots := 0, locals := 87 }) (hI : X.2.2.2.2.2.2.2.2.2.2.2.1.name = "squareTo")  (s0 : Int32) (h : B_Pl_squareTo_24 μ  s0 = some r) : WM X 5 24 [] [vI s0] 0 0 μ := by
  have h : (some (s0)) = some r := h
  exact wm_iret (rt := .int) E hQ (rqI1 h) rfl (by decide) (by decide) dPl_squareTo_24
def S_Pl_squareTo (v0 : Option Nat) (v1 : Int32) (v2 : Int32) (v3 : Int32) (μ : Mem) : Option Int32 := b1 (rc μ v0 7) (fun _ => b1 (S_Pl_shapeOn v0 v3 μ) (fun x2 => if x2 = none then B_Pl_squareTo_24 μ 1073741824 else b1 (rc μ x2 2) (fun _ => b1 (S_Co_squareTo x2 v1 v2 μ) (fun x21 => B_Pl_squareTo_24 μ x21))))
set_option maxHeartbeats 4000000 in
set_option maxRecDepth 100000 in
theorem C_Pl_squareTo (l : Launch) (G : GG) (v0 : Option Nat) (v1 : Int32) (v2 : Int32) (v3 : Int32) (μ : Mem) (r : Int32) (h : S_Pl_squareTo v0 v1 v2 v3 μ = some r) : CT l G y_Pl_squareTo prog_8_method_7_code 5 (some .int) 4 0 0 87 μ [vR v0, vI v1, vI v2, vI v3] (some (vI r)) μ := by
  refine wm_met (lv := [(0, vR v0), (1, vI v1), (2, vI v2), (3, vI v3)]) (by decide +kernel) (Nat.le_of_ble_eq_true rfl) rfl (fun X E hQ hR hI => ?_)
  have h : (b1 (rc μ v0 7) (fun _ => b1 (S_Pl_shapeOn v0 v3 μ) (fun x2 => if x2 = none then B_Pl_squareTo_24 μ 1073741824 else b1 (rc μ x2 2) (fun _ => b1 (S_Co_squareTo x2 v1 v2 μ) (fun x21 => B_Pl_squareTo_24 μ x21))))) = some r := h
  refine wm_aload_n E dPl_squareTo_0 rfl (j := 0) rfl ?_
  refine wm_iload_n E dPl_squareTo_1 rfl (j := 3) rfl ?_
  obtain ⟨u2, hr2, h⟩ := b1S h
  obtain ⟨x2, hc2, h⟩ := b1S h
  refine wm_cV (ci := 7) (As := [vI v3]) (st := []) E lk_Pl_52 rfl im_Pl_shapeOn sl_Pl_shapeOn hr2 (C_Pl_shapeOn (xl X) X.1 v0 v3 μ _ hc2) rfl rfl (by rw [hR]; decide) (by rw [hR]; decide) (Nat.le_of_ble_eq_true rfl) dPl_squareTo_2 ?_
  refine wm_astore (lv' := [(4, vR x2), (0, vR v0), (1, vI v1), (2, vI v2), (3, vI v3)]) E dPl_squareTo_5 (by decide) rfl ?_
  refine wm_aload E dPl_squareTo_7 (j := 0) rfl ?_
  refine wm_ifnonnull (tgt := 17) E dPl_squareTo_9 (by decide) (fun c9 => ?_) (fun c9 => ?_)
  · have h := (if_neg c9).symm.trans h
    refine wm_aload E dPl_squareTo_17 (j := 0) rfl ?_
    refine wm_iload_n E dPl_squareTo_19 rfl (j := 2) rfl ?_
    refine wm_iload_n E dPl_squareTo_20 rfl (j := 3) rfl ?_
    obtain ⟨u21, hr21, h⟩ := b1S h
    obtain ⟨x21, hc21, h⟩ := b1S h
    refine wm_cV (ci := 2) (As := [vI v1, vI v2]) (st := []) E lk_Pl_61 rfl im_Co_squareTo sl_Co_squareTo hr21 (C_Co_squareTo (xl X) X.1 x2 v1 v2 μ _ hc21) rfl rfl (by rw [hR]; decide) (by rw [hR]; decide) (Nat.le_of_ble_eq_true rfl) dPl_squareTo_21 ?_
    refine wm_pick (lv' := []) [] rfl ?_
    exact w_Pl_squareTo_24 E hQ hR hI x21 h
  · have h := (if_pos c9).symm.trans h
    refine wm_ldc (x := 1073741824) E cn_Pl_60 dPl_squareTo_12 ?_
    refine wm_goto (tgt := 24) E dPl_squareTo_14 (by decide) ?_
    refine wm_pick (lv' := []) [] rfl ?_
    exact w_Pl_squareTo_24 E hQ hR hI 1073741824 h
def B_Rs_positionKey_25 (μ : Mem)   (s0 : Int64) : Option Int64 := some (s0)
set_option maxHeartbeats 4000000 in
set_option maxRecDepth 100000 in
theorem w_Rs_positionKey_25 {X : CX} (E : EV X prog_9_method_6_code 1 "PlaceFinder$RouteSearch" (some .long)) {μ0 μ : Mem} {r : Int64} (hQ : RQ X 0 0 μ0 (some (vL r)) μ) (hR : xR X = { frames := 0, cells := 0, slots := 0, locals := 0 }) (hI : X.2.2.2.2.2.2.2.2.2.2.2.1.name = "positionKey")  (s0 : Int64) (h : B_Rs_positionKey_25 μ  s0 = some r) : WM X 1 25 [] [vL s0] 0 0 μ := by
  have h : (some (s0)) = some r := h
  exact wm_lret (rt := .long) E hQ (rqL0 h) rfl (by decide) (by decide) dRs_positionKey_25
def S_Rs_positionKey (v0 : Option Nat) (μ : Mem) : Option Int64 := b1 (gI μ v0 8 0) (fun x1 => if x1 = 0 then B_Rs_positionKey_25 μ 0 else b1 (gI μ v0 8 1) (fun x8 => b1 (gI μ v0 8 2) (fun x16 => B_Rs_positionKey_25 μ ((((x8 : Int32).toInt64) <<< ((32 : Int32).toInt64 &&& 63)) + ((x16 : Int32).toInt64)))))
set_option maxHeartbeats 4000000 in
set_option maxRecDepth 100000 in
theorem C_Rs_positionKey (l : Launch) (G : GG) (v0 : Option Nat) (μ : Mem) (r : Int64) (h : S_Rs_positionKey v0 μ = some r) : CT l G y_Rs_positionKey prog_9_method_6_code 1 (some .long) 0 0 0 0 μ [vR v0] (some (vL r)) μ := by
  refine wm_met (lv := [(0, vR v0)]) (by decide +kernel) (Nat.le_of_ble_eq_true rfl) rfl (fun X E hQ hR hI => ?_)
  have h : (b1 (gI μ v0 8 0) (fun x1 => if x1 = 0 then B_Rs_positionKey_25 μ 0 else b1 (gI μ v0 8 1) (fun x8 => b1 (gI μ v0 8 2) (fun x16 => B_Rs_positionKey_25 μ ((((x8 : Int32).toInt64) <<< ((32 : Int32).toInt64 &&& 63)) + ((x16 : Int32).toInt64)))))) = some r := h
  refine wm_aload_n E dRs_positionKey_0 rfl (j := 0) rfl ?_
  refine wm_gI E fd_Rs_7 h dRs_positionKey_1 (fun x1 h => ?_)
  refine wm_if_eq (tgt := 24) E dRs_positionKey_4 (by decide) (fun c4 => ?_) (fun c4 => ?_)
  · have h := (if_pos c4).symm.trans h
    refine wm_lconst (x := 0) E dRs_positionKey_24 (by decide) ?_
    refine wm_pick (lv' := []) [] rfl ?_
    exact w_Rs_positionKey_25 E hQ hR hI 0 h
  · have h := (if_neg c4).symm.trans h
    refine wm_aload_n E dRs_positionKey_7 rfl (j := 0) rfl ?_
    refine wm_gI E fd_Rs_54 h dRs_positionKey_8 (fun x8 h => ?_)
    refine wm_i2l E dRs_positionKey_11 ?_
    refine wm_bipush (x := 32) E dRs_positionKey_12 (by decide) ?_
    refine wm_lshl E dRs_positionKey_14 ?_
    refine wm_aload_n E dRs_positionKey_15 rfl (j := 0) rfl ?_
    refine wm_gI E fd_Rs_57 h dRs_positionKey_16 (fun x16 h => ?_)
    refine wm_i2l E dRs_positionKey_19 ?_
    refine wm_ladd E dRs_positionKey_20 ?_
    refine wm_goto (tgt := 25) E dRs_positionKey_21 (by decide) ?_
    refine wm_pick (lv' := []) [] rfl ?_
    exact w_Rs_positionKey_25 E hQ hR hI ((((x8 : Int32).toInt64) <<< ((32 : Int32).toInt64 &&& 63)) + ((x16 : Int32).toInt64)) h
def S_P_routeKey (v0 : Option Nat) (v1 : Option Nat) (μ : Mem) : Option (Int64 × Mem) := if v1 = none then some (0, μ) else b1 (gR μ v0 11 11) (fun x7 => b1 (gR μ v0 11 4) (fun x11 => b1 (rc μ x7 8) (fun _ => b2 (S_Rs_start x7 x11 v1 μ) (fun x15 m15 => b1 (gR m15 v0 11 11) (fun x19 => b1 (rc m15 x19 8) (fun _ => b1 (S_Rs_positionKey x19 m15) (fun x22 => some (x22, m15))))))))
set_option maxHeartbeats 4000000 in
set_option maxRecDepth 100000 in
theorem C_P_routeKey (l : Launch) (G : GG) (v0 : Option Nat) (v1 : Option Nat) (μ μ' : Mem) (r : Int64) (h : S_P_routeKey v0 v1 μ = some (r, μ')) : CT l G y_P_routeKey prog_1_method_40_code 2 (some .long) 4 0 0 108 μ [vR v0, vR v1] (some (vL r)) μ' := by
  refine wm_met (lv := [(0, vR v0), (1, vR v1)]) (by decide +kernel) (Nat.le_of_ble_eq_true rfl) rfl (fun X E hQ hR hI => ?_)
  have h : (if v1 = none then some (0, μ) else b1 (gR μ v0 11 11) (fun x7 => b1 (gR μ v0 11 4) (fun x11 => b1 (rc μ x7 8) (fun _ => b2 (S_Rs_start x7 x11 v1 μ) (fun x15 m15 => b1 (gR m15 v0 11 11) (fun x19 => b1 (rc m15 x19 8) (fun _ => b1 (S_Rs_positionKey x19 m15) (fun x22 => some (x22, m15))))))))) = some (r, μ') := h
  refine wm_aload_n E dP_routeKey_0 rfl (j := 1) rfl ?_
  refine wm_ifnonnull (tgt := 6) E dP_routeKey_1 (by decide) (fun c1 => ?_) (fun c1 => ?_)
  · have h := (if_neg c1).symm.trans h
    refine wm_aload_n E dP_routeKey_6 rfl (j := 0) rfl ?_
    refine wm_gR E fd_P_69 h dP_routeKey_7 (fun x7 h => ?_)
    refine wm_aload_n E dP_routeKey_10 rfl (j := 0) rfl ?_
    refine wm_gR E fd_P_32 h dP_routeKey_11 (fun x11 h => ?_)
    refine wm_aload_n E dP_routeKey_14 rfl (j := 1) rfl ?_
    obtain ⟨u15, hr15, h⟩ := b1S h
    obtain ⟨x15, m15, hc15, h⟩ := b2S h
    refine wm_cV (ci := 8) (As := [vR x11, vR v1]) (st := []) E lk_P_372 rfl im_Rs_start sl_Rs_start hr15 (C_Rs_start (xl X) X.1 x7 x11 v1 μ _ _ hc15) rfl rfl (by rw [hR]; decide) (by rw [hR]; decide) (Nat.le_of_ble_eq_true rfl) dP_routeKey_15 ?_
    refine wm_aload_n E dP_routeKey_18 rfl (j := 0) rfl ?_
    refine wm_gR E fd_P_69 h dP_routeKey_19 (fun x19 h => ?_)
    obtain ⟨u22, hr22, h⟩ := b1S h
    obtain ⟨x22, hc22, h⟩ := b1S h
    refine wm_cV (ci := 8) (As := []) (st := []) E lk_P_412 rfl im_Rs_positionKey sl_Rs_positionKey hr22 (C_Rs_positionKey (xl X) X.1 x19 m15 _ hc22) rfl rfl (by rw [hR]; decide) (by rw [hR]; decide) (Nat.le_of_ble_eq_true rfl) dP_routeKey_22 ?_
    exact wm_lret (rt := .long) E hQ (rtL h) (rtM h) (by decide) (by decide) dP_routeKey_25
  · have h := (if_pos c1).symm.trans h
    refine wm_lconst (x := 0) E dP_routeKey_4 (by decide) ?_
    exact wm_lret (rt := .long) E hQ (rtL h) (rtM h) (by decide) (by decide) dP_routeKey_5
def B_P_orderKey_71  (s0 : Int64) (μ : Mem) : Option (Int64 × Mem) := some (s0, μ)
set_option maxHeartbeats 4000000 in
set_option maxRecDepth 100000 in
theorem w_P_orderKey_71 {X : CX} (E : EV X prog_1_method_39_code 6 "PlaceFinder" (some .long)) {μ0 μ' : Mem} {r : Int64} (hQ : RQ X 0 0 μ0 (some (vL r)) μ') (hR : xR X = { frames := 8, cells := 0, slots := 0, locals := 179 }) (hI : X.2.2.2.2.2.2.2.2.2.2.2.1.name = "orderKey")  (s0 : Int64) (μ : Mem) (h : B_P_orderKey_71  s0 μ = some (r, μ')) : WM X 6 71 [] [vL s0] 0 0 μ := by
  have h : (some (s0, μ)) = some (r, μ') := h
  exact wm_lret (rt := .long) E hQ (rtL h) (rtM h) (by decide) (by decide) dP_orderKey_71
def S_P_orderKey (v0 : Option Nat) (v1 : Option Nat) (v2 : Int32) (v3 : Option Nat) (v4 : Option Nat) (v5 : Int32) (μ : Mem) : Option (Int64 × Mem) := if v2 = 1 then b1 (rc μ v0 11) (fun _ => b2 (S_P_leastName v0 v1 v3 v5 μ) (fun x33 m33 => some (x33, m33))) else if v2 = 2 then if v4 = none then b1 (rc μ v1 7) (fun _ => b1 (S_Pl_squareTo v1 0 0 v5 μ) (fun x47 => B_P_orderKey_71 ((x47 : Int32).toInt64) μ)) else b1 (gI μ v4 1 1) (fun x57 => b1 (gI μ v4 1 2) (fun x62 => b1 (rc μ v1 7) (fun _ => b1 (S_Pl_squareTo v1 x57 x62 v5 μ) (fun x67 => B_P_orderKey_71 ((x67 : Int32).toInt64) μ)))) else if v2 = 3 then b1 (rc μ v1 7) (fun _ => b1 (S_Pl_shapeOn v1 v5 μ) (fun x76 => b1 (rc μ v0 11) (fun _ => b2 (S_P_routeKey v0 x76 μ) (fun x79 m79 => some (x79, m79))))) else some (0, μ)
set_option maxHeartbeats 4000000 in
set_option maxRecDepth 100000 in
theorem C_P_orderKey (l : Launch) (G : GG) (v0 : Option Nat) (v1 : Option Nat) (v2 : Int32) (v3 : Option Nat) (v4 : Option Nat) (v5 : Int32) (μ μ' : Mem) (r : Int64) (h : S_P_orderKey v0 v1 v2 v3 v4 v5 μ = some (r, μ')) : CT l G y_P_orderKey prog_1_method_39_code 6 (some .long) 8 0 0 179 μ [vR v0, vR v1, vI v2, vR v3, vR v4, vI v5] (some (vL r)) μ' := by
  refine wm_met (lv := [(0, vR v0), (1, vR v1), (2, vI v2), (3, vR v3), (4, vR v4), (5, vI v5)]) (by decide +kernel) (Nat.le_of_ble_eq_true rfl) rfl (fun X E hQ hR hI => ?_)
  have h : (if v2 = 1 then b1 (rc μ v0 11) (fun _ => b2 (S_P_leastName v0 v1 v3 v5 μ) (fun x33 m33 => some (x33, m33))) else if v2 = 2 then if v4 = none then b1 (rc μ v1 7) (fun _ => b1 (S_Pl_squareTo v1 0 0 v5 μ) (fun x47 => B_P_orderKey_71 ((x47 : Int32).toInt64) μ)) else b1 (gI μ v4 1 1) (fun x57 => b1 (gI μ v4 1 2) (fun x62 => b1 (rc μ v1 7) (fun _ => b1 (S_Pl_squareTo v1 x57 x62 v5 μ) (fun x67 => B_P_orderKey_71 ((x67 : Int32).toInt64) μ)))) else if v2 = 3 then b1 (rc μ v1 7) (fun _ => b1 (S_Pl_shapeOn v1 v5 μ) (fun x76 => b1 (rc μ v0 11) (fun _ => b2 (S_P_routeKey v0 x76 μ) (fun x79 m79 => some (x79, m79))))) else some (0, μ)) = some (r, μ') := h
  refine wm_iload_n E dP_orderKey_0 rfl (j := 2) rfl ?_
  by_cases c1_1 : v2 = 1
  · have h := (if_pos c1_1).symm.trans h
    refine wm_tabIn (tgt := 28) E dP_orderKey_1 (1) ((congrArg Int32.toInt c1_1).trans (by decide)) (by decide) (by decide) rfl (by decide) ?_
    refine wm_aload_n E dP_orderKey_28 rfl (j := 0) rfl ?_
    refine wm_aload_n E dP_orderKey_29 rfl (j := 1) rfl ?_
    refine wm_aload_n E dP_orderKey_30 rfl (j := 3) rfl ?_
    refine wm_iload E dP_orderKey_31 (j := 5) rfl ?_
    obtain ⟨u33, hr33, h⟩ := b1S h
    obtain ⟨x33, m33, hc33, h⟩ := b2S h
    refine wm_cV (ci := 11) (As := [vR v1, vR v3, vI v5]) (st := []) E lk_P_379 rfl im_P_leastName sl_P_leastName hr33 (C_P_leastName (xl X) X.1 v0 v1 v3 v5 μ _ _ hc33) rfl rfl (by rw [hR]; decide) (by rw [hR]; decide) (Nat.le_of_ble_eq_true rfl) dP_orderKey_33 ?_
    exact wm_lret (rt := .long) E hQ (rtL h) (rtM h) (by decide) (by decide) dP_orderKey_36
  · have h := (if_neg c1_1).symm.trans h
    by_cases c1_2 : v2 = 2
    · have h := (if_pos c1_2).symm.trans h
      refine wm_tabIn (tgt := 37) E dP_orderKey_1 (2) ((congrArg Int32.toInt c1_2).trans (by decide)) (by decide) (by decide) rfl (by decide) ?_
      refine wm_aload E dP_orderKey_37 (j := 4) rfl ?_
      refine wm_ifnonnull (tgt := 54) E dP_orderKey_39 (by decide) (fun c39 => ?_) (fun c39 => ?_)
      · have h := (if_neg c39).symm.trans h
        refine wm_aload_n E dP_orderKey_54 rfl (j := 1) rfl ?_
        refine wm_aload E dP_orderKey_55 (j := 4) rfl ?_
        refine wm_gI E fd_P_353 h dP_orderKey_57 (fun x57 h => ?_)
        refine wm_aload E dP_orderKey_60 (j := 4) rfl ?_
        refine wm_gI E fd_P_364 h dP_orderKey_62 (fun x62 h => ?_)
        refine wm_iload E dP_orderKey_65 (j := 5) rfl ?_
        obtain ⟨u67, hr67, h⟩ := b1S h
        obtain ⟨x67, hc67, h⟩ := b1S h
        refine wm_cV (ci := 7) (As := [vI x57, vI x62, vI v5]) (st := []) E lk_P_249 rfl im_Pl_squareTo sl_Pl_squareTo hr67 (C_Pl_squareTo (xl X) X.1 v1 x57 x62 v5 μ _ hc67) rfl rfl (by rw [hR]; decide) (by rw [hR]; decide) (Nat.le_of_ble_eq_true rfl) dP_orderKey_67 ?_
        refine wm_i2l E dP_orderKey_70 ?_
        refine wm_pick (lv' := []) [] rfl ?_
        exact w_P_orderKey_71 E hQ hR hI ((x67 : Int32).toInt64) μ h
      · have h := (if_pos c39).symm.trans h
        refine wm_aload_n E dP_orderKey_42 rfl (j := 1) rfl ?_
        refine wm_iconst (x := 0) E dP_orderKey_43 (by decide) ?_
        refine wm_iconst (x := 0) E dP_orderKey_44 (by decide) ?_
        refine wm_iload E dP_orderKey_45 (j := 5) rfl ?_
        obtain ⟨u47, hr47, h⟩ := b1S h
        obtain ⟨x47, hc47, h⟩ := b1S h
        refine wm_cV (ci := 7) (As := [vI 0, vI 0, vI v5]) (st := []) E lk_P_249 rfl im_Pl_squareTo sl_Pl_squareTo hr47 (C_Pl_squareTo (xl X) X.1 v1 0 0 v5 μ _ hc47) rfl rfl (by rw [hR]; decide) (by rw [hR]; decide) (Nat.le_of_ble_eq_true rfl) dP_orderKey_47 ?_
        refine wm_i2l E dP_orderKey_50 ?_
        refine wm_goto (tgt := 71) E dP_orderKey_51 (by decide) ?_
        refine wm_pick (lv' := []) [] rfl ?_
        exact w_P_orderKey_71 E hQ hR hI ((x47 : Int32).toInt64) μ h
    · have h := (if_neg c1_2).symm.trans h
      by_cases c1_3 : v2 = 3
      · have h := (if_pos c1_3).symm.trans h
        refine wm_tabIn (tgt := 72) E dP_orderKey_1 (3) ((congrArg Int32.toInt c1_3).trans (by decide)) (by decide) (by decide) rfl (by decide) ?_
        refine wm_aload_n E dP_orderKey_72 rfl (j := 0) rfl ?_
        refine wm_aload_n E dP_orderKey_73 rfl (j := 1) rfl ?_
        refine wm_iload E dP_orderKey_74 (j := 5) rfl ?_
        obtain ⟨u76, hr76, h⟩ := b1S h
        obtain ⟨x76, hc76, h⟩ := b1S h
        refine wm_cV (ci := 7) (As := [vI v5]) (st := [vR v0]) E lk_P_275 rfl im_Pl_shapeOn sl_Pl_shapeOn hr76 (C_Pl_shapeOn (xl X) X.1 v1 v5 μ _ hc76) rfl rfl (by rw [hR]; decide) (by rw [hR]; decide) (Nat.le_of_ble_eq_true rfl) dP_orderKey_76 ?_
        obtain ⟨u79, hr79, h⟩ := b1S h
        obtain ⟨x79, m79, hc79, h⟩ := b2S h
        refine wm_cV (ci := 11) (As := [vR x76]) (st := []) E lk_P_408 rfl im_P_routeKey sl_P_routeKey hr79 (C_P_routeKey (xl X) X.1 v0 x76 μ _ _ hc79) rfl rfl (by rw [hR]; decide) (by rw [hR]; decide) (Nat.le_of_ble_eq_true rfl) dP_orderKey_79 ?_
        exact wm_lret (rt := .long) E hQ (rtL h) (rtM h) (by decide) (by decide) dP_orderKey_82
      · have h := (if_neg c1_3).symm.trans h
        have e1_1 : v2.toInt ≠ 1 := fun q => c1_1 (Int32.toInt_inj.mp (q.trans (by decide)))
        have e1_2 : v2.toInt ≠ 2 := fun q => c1_2 (Int32.toInt_inj.mp (q.trans (by decide)))
        have e1_3 : v2.toInt ≠ 3 := fun q => c1_3 (Int32.toInt_inj.mp (q.trans (by decide)))
        refine wm_tabOut (tgt := 83) E dP_orderKey_1 (by omega) (by decide) ?_
        refine wm_lconst (x := 0) E dP_orderKey_83 (by decide) ?_
        exact wm_lret (rt := .long) E hQ (rtL h) (rtM h) (by decide) (by decide) dP_orderKey_84
