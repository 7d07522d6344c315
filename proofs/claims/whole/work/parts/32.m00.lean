def S_Ac_init (v0 : Option Nat) (μ : Mem) : Option (Unit × Mem) := b1 (rc μ v0 0) (fun _ => some ((), μ))
set_option maxHeartbeats 4000000 in
set_option maxRecDepth 100000 in
theorem C_Ac_init (l : Launch) (G : GG) (v0 : Option Nat) (μ μ' : Mem) (r : Unit) (h : S_Ac_init v0 μ = some (r, μ')) : CT l G y_Ac_init prog_31_method_1_code 1 none 1 0 0 60 μ [vR v0] none μ' := by
  refine wm_met (lv := [(0, vR v0)]) (by decide +kernel) (Nat.le_of_ble_eq_true rfl) rfl (fun X E hQ hR hI => ?_)
  have h : (b1 (rc μ v0 0) (fun _ => some ((), μ))) = some (r, μ') := h
  refine wm_aload_n E dAc_init_0 rfl (j := 0) rfl ?_
  obtain ⟨u1, hr1, h⟩ := b1S h
  refine wm_obj E hr1 oi_Ac_1 (by rw [hR]; decide) (by rw [hR]; decide) rfl dAc_init_1 ?_
  exact wm_vret E hQ rfl (rtM h) (by decide) (by decide) dAc_init_4
def S_Ab_init (v0 : Option Nat) (μ : Mem) : Option (Unit × Mem) := b1 (rc μ v0 0) (fun _ => b2 (S_Ac_init v0 μ) (fun x1 m1 => b1 (pV m1 v0 0 2 (vI 0)) (fun m6 => some ((), m6))))
set_option maxHeartbeats 4000000 in
set_option maxRecDepth 100000 in
theorem C_Ab_init (l : Launch) (G : GG) (v0 : Option Nat) (μ μ' : Mem) (r : Unit) (h : S_Ab_init v0 μ = some (r, μ')) : CT l G y_Ab_init prog_32_method_1_code 1 none 2 0 0 80 μ [vR v0] none μ' := by
  refine wm_met (lv := [(0, vR v0)]) (by decide +kernel) (Nat.le_of_ble_eq_true rfl) rfl (fun X E hQ hR hI => ?_)
  have h : (b1 (rc μ v0 0) (fun _ => b2 (S_Ac_init v0 μ) (fun x1 m1 => b1 (pV m1 v0 0 2 (vI 0)) (fun m6 => some ((), m6))))) = some (r, μ') := h
  refine wm_aload_n E dAb_init_0 rfl (j := 0) rfl ?_
  obtain ⟨u1, hr1, h⟩ := b1S h
  obtain ⟨x1, m1, hc1, h⟩ := b2S h
  refine wm_cI (ci := 0) (As := []) (st := []) E lk_Ab_1 rfl rfl im_Ac_init hr1 (C_Ac_init (xl X) X.1 v0 μ _ _ hc1) rfl rfl (by rw [hR]; decide) (by rw [hR]; decide) (Nat.le_of_ble_eq_true rfl) dAb_init_1 ?_
  refine wm_aload_n E dAb_init_4 rfl (j := 0) rfl ?_
  refine wm_iconst (x := 0) E dAb_init_5 (by decide) ?_
  refine wm_pI E fp_Ab_7 (fun q => by cases q) h dAb_init_6 (fun m6 h => ?_)
  exact wm_vret E hQ rfl (rtM h) (by decide) (by decide) dAb_init_9
def S_Al_init (v0 : Option Nat) (μ : Mem) : Option (Unit × Mem) := b1 (rc μ v0 0) (fun _ => b2 (S_Ab_init v0 μ) (fun x1 m1 => b1 (pV m1 v0 0 0 (vR (some (mD m1)))) (fun m8 => some ((), m8))))
set_option maxHeartbeats 4000000 in
set_option maxRecDepth 100000 in
theorem C_Al_init (l : Launch) (G : GG) (v0 : Option Nat) (μ μ' : Mem) (r : Unit) (h : S_Al_init v0 μ = some (r, μ')) : CT l G y_Al_init prog_33_method_2_code 1 none 3 0 0 100 μ [vR v0] none μ' := by
  refine wm_met (lv := [(0, vR v0)]) (by decide +kernel) (Nat.le_of_ble_eq_true rfl) rfl (fun X E hQ hR hI => ?_)
  have h : (b1 (rc μ v0 0) (fun _ => b2 (S_Ab_init v0 μ) (fun x1 m1 => b1 (pV m1 v0 0 0 (vR (some (mD m1)))) (fun m8 => some ((), m8))))) = some (r, μ') := h
  refine wm_aload_n E dAl_init_0 rfl (j := 0) rfl ?_
  obtain ⟨u1, hr1, h⟩ := b1S h
  obtain ⟨x1, m1, hc1, h⟩ := b2S h
  refine wm_cI (ci := 0) (As := []) (st := []) E lk_Al_1 rfl rfl im_Ab_init hr1 (C_Ab_init (xl X) X.1 v0 μ _ _ hc1) rfl rfl (by rw [hR]; decide) (by rw [hR]; decide) (Nat.le_of_ble_eq_true rfl) dAl_init_1 ?_
  refine wm_aload_n E dAl_init_4 rfl (j := 0) rfl ?_
  refine wm_gets E fl_Al_39 dAl_init_5 ?_
  refine wm_pR E fp_Al_9 (Or.inr ⟨_, rfl⟩) (fun q => by cases q) h dAl_init_8 (fun m8 h => ?_)
  exact wm_vret E hQ rfl (rtM h) (by decide) (by decide) dAl_init_11
def B_Ma_min_10 (μ : Mem)   (s0 : Int32) : Option Int32 := some (s0)
set_option maxHeartbeats 4000000 in
set_option maxRecDepth 100000 in
theorem w_Ma_min_10 {X : CX} (E : EV X prog_23_method_69_code 2 "java/lang/Math" (some .int)) {μ0 μ : Mem} {r : Int32} (hQ : RQ X 0 0 μ0 (some (vI r)) μ) (hR : xR X = { frames := 0, cells := 0, slots := 0, locals := 0 }) (hI : X.2.2.2.2.2.2.2.2.2.2.2.1.name = "min")  (s0 : Int32) (h : B_Ma_min_10 μ  s0 = some r) : WM X 2 10 [] [vI s0] 0 0 μ := by
  have h : (some (s0)) = some r := h
  exact wm_iret (rt := .int) E hQ (rqI1 h) rfl (by decide) (by decide) dMa_min_10
def S_Ma_min (v0 : Int32) (v1 : Int32) (μ : Mem) : Option Int32 := if v1 < v0 then B_Ma_min_10 μ v1 else B_Ma_min_10 μ v0
set_option maxHeartbeats 4000000 in
set_option maxRecDepth 100000 in
theorem C_Ma_min (l : Launch) (G : GG) (v0 : Int32) (v1 : Int32) (μ : Mem) (r : Int32) (h : S_Ma_min v0 v1 μ = some r) : CT l G y_Ma_min prog_23_method_69_code 2 (some .int) 0 0 0 0 μ [vI v0, vI v1] (some (vI r)) μ := by
  refine wm_met (lv := [(0, vI v0), (1, vI v1)]) (by decide +kernel) (Nat.le_of_ble_eq_true rfl) rfl (fun X E hQ hR hI => ?_)
  have h : (if v1 < v0 then B_Ma_min_10 μ v1 else B_Ma_min_10 μ v0) = some r := h
  refine wm_iload_n E dMa_min_0 rfl (j := 0) rfl ?_
  refine wm_iload_n E dMa_min_1 rfl (j := 1) rfl ?_
  refine wm_icmp_gt (tgt := 9) E dMa_min_2 (by decide) (fun c2 => ?_) (fun c2 => ?_)
  · have h := (if_pos c2).symm.trans h
    refine wm_iload_n E dMa_min_9 rfl (j := 1) rfl ?_
    refine wm_pick (lv' := []) [] rfl ?_
    exact w_Ma_min_10 E hQ hR hI v1 h
  · have h := (if_neg c2).symm.trans h
    refine wm_iload_n E dMa_min_5 rfl (j := 0) rfl ?_
    refine wm_goto (tgt := 10) E dMa_min_6 (by decide) ?_
    refine wm_pick (lv' := []) [] rfl ?_
    exact w_Ma_min_10 E hQ hR hI v0 h
def S_As_copyOf (v0 : Option Nat) (v1 : Int32) (μ : Mem) : Option (Option Nat × Mem) := b1 (aLen μ v0) (fun x2 => if v1 = x2 then b2 (clI μ v0 0 8) (fun x7 m7 => b1 (cKA m7 x7 0) (fun _ => some (x7, m7))) else b2 (nI_ μ 0 v1 8) (fun x15 m15 => b1 (aLen m15 v0) (fun x23 => b1 (S_Ma_min x23 v1 m15) (fun x25 => b1 (acI m15 v0 0 x15 0 x25 0) (fun m28 => some (x15, m28))))))
set_option maxHeartbeats 4000000 in
set_option maxRecDepth 100000 in
theorem C_As_copyOf (l : Launch) (G : GG) (v0 : Option Nat) (v1 : Int32) (μ μ' : Mem) (r : Option Nat) (h : S_As_copyOf v0 v1 μ = some (r, μ')) : CT l G y_As_copyOf prog_34_method_123_code 3 (some (.array .int)) 1 1 8 60 μ [vR v0, vI v1] (some (vR r)) μ' := by
  refine wm_met (lv := [(0, vR v0), (1, vI v1)]) (by decide +kernel) (Nat.le_of_ble_eq_true rfl) rfl (fun X E hQ hR hI => ?_)
  have h : (b1 (aLen μ v0) (fun x2 => if v1 = x2 then b2 (clI μ v0 0 8) (fun x7 m7 => b1 (cKA m7 x7 0) (fun _ => some (x7, m7))) else b2 (nI_ μ 0 v1 8) (fun x15 m15 => b1 (aLen m15 v0) (fun x23 => b1 (S_Ma_min x23 v1 m15) (fun x25 => b1 (acI m15 v0 0 x15 0 x25 0) (fun m28 => some (x15, m28))))))) = some (r, μ') := h
  refine wm_iload_n E dAs_copyOf_0 rfl (j := 1) rfl ?_
  refine wm_aload_n E dAs_copyOf_1 rfl (j := 0) rfl ?_
  refine wm_alen E h dAs_copyOf_2 (fun x2 h => ?_)
  refine wm_icmp_ne (tgt := 14) E dAs_copyOf_3 (by decide) (fun c3 => ?_) (fun c3 => ?_)
  · have h := (if_neg c3).symm.trans h
    refine wm_iload_n E dAs_copyOf_14 rfl (j := 1) rfl ?_
    refine wm_newi (t := 0) (B := 8) E rfl rfl rfl ac_I h (by decide) (by rw [hR]; decide) (by rw [hR]; decide) dAs_copyOf_15 (fun x15 m15 h => ?_)
    refine wm_astore_n (lv' := [(2, vR x15), (0, vR v0), (1, vI v1)]) E dAs_copyOf_17 rfl (by decide) rfl ?_
    refine wm_aload_n E dAs_copyOf_18 rfl (j := 1) rfl ?_
    refine wm_iconst (x := 0) E dAs_copyOf_19 (by decide) ?_
    refine wm_aload_n E dAs_copyOf_20 rfl (j := 0) rfl ?_
    refine wm_iconst (x := 0) E dAs_copyOf_21 (by decide) ?_
    refine wm_aload_n E dAs_copyOf_22 rfl (j := 1) rfl ?_
    refine wm_alen E h dAs_copyOf_23 (fun x23 h => ?_)
    refine wm_iload_n E dAs_copyOf_24 rfl (j := 2) rfl ?_
    obtain ⟨x25, hc25, h⟩ := b1S h
    refine wm_cS (As := [vI x23, vI v1]) (st := [vI 0, vR x15, vI 0, vR v0]) E lk_As_304 sc_Ma_min (C_Ma_min (xl X) X.1 x23 v1 m15 _ hc25) rfl rfl (by rw [hR]; decide) (by rw [hR]; decide) (Nat.le_of_ble_eq_true rfl) dAs_copyOf_25 ?_
    refine wm_acI (t := 0) E yc_As_150 rfl h (by rw [hR]; decide) (by rw [hR]; decide) (Nat.le_of_ble_eq_true rfl) dAs_copyOf_28 (fun m28 h => ?_)
    refine wm_aload_n E dAs_copyOf_31 rfl (j := 0) rfl ?_
    exact wm_aret E hQ (rtR h) (rtM h) (Or.inr ⟨_, rfl⟩) (by decide) (by decide) dAs_copyOf_32
  · have h := (if_pos c3).symm.trans h
    refine wm_aload_n E dAs_copyOf_6 rfl (j := 0) rfl ?_
    refine wm_cln (t := 0) (B := 8) E kl_As_316 rfl h (by rw [hR]; decide) (by rw [hR]; decide) (by rw [hR]; decide) (by rw [hR]; decide) (Nat.le_of_ble_eq_true rfl) dAs_copyOf_7 (fun x7 m7 h => ?_)
    refine wm_ckA (t := 0) E rfl cl_As_317 h dAs_copyOf_10 (fun h => ?_)
    exact wm_aret E hQ (rtR h) (rtM h) (Or.inr ⟨_, rfl⟩) (by decide) (by decide) dAs_copyOf_13
def S_Co_init (v0 : Option Nat) (v1 : Option Nat) (v2 : Option Nat) (v3 : Int32) (μ : Mem) : Option (Unit × Mem) := b1 (rc μ v0 2) (fun _ => b1 (pV μ v0 2 0 (vI v3)) (fun m6 => b2 (S_As_copyOf v1 v3 m6) (fun x12 m12 => b1 (pV m12 v0 2 1 (vR x12)) (fun m15 => b2 (S_As_copyOf v2 v3 m15) (fun x21 m21 => b1 (pV m21 v0 2 2 (vR x21)) (fun m24 => some ((), m24)))))))
set_option maxHeartbeats 4000000 in
set_option maxRecDepth 100000 in
theorem C_Co_init (l : Launch) (G : GG) (v0 : Option Nat) (v1 : Option Nat) (v2 : Option Nat) (v3 : Int32) (μ μ' : Mem) (r : Unit) (h : S_Co_init v0 v1 v2 v3 μ = some (r, μ')) : CT l G y_Co_init prog_3_method_1_code 4 none 2 2 16 82 μ [vR v0, vR v1, vR v2, vI v3] none μ' := by
  refine wm_met (lv := [(0, vR v0), (1, vR v1), (2, vR v2), (3, vI v3)]) (by decide +kernel) (Nat.le_of_ble_eq_true rfl) rfl (fun X E hQ hR hI => ?_)
  have h : (b1 (rc μ v0 2) (fun _ => b1 (pV μ v0 2 0 (vI v3)) (fun m6 => b2 (S_As_copyOf v1 v3 m6) (fun x12 m12 => b1 (pV m12 v0 2 1 (vR x12)) (fun m15 => b2 (S_As_copyOf v2 v3 m15) (fun x21 m21 => b1 (pV m21 v0 2 2 (vR x21)) (fun m24 => some ((), m24)))))))) = some (r, μ') := h
  refine wm_aload_n E dCo_init_0 rfl (j := 0) rfl ?_
  obtain ⟨u1, hr1, h⟩ := b1S h
  refine wm_obj E hr1 oi_Co_3 (by rw [hR]; decide) (by rw [hR]; decide) rfl dCo_init_1 ?_
  refine wm_aload_n E dCo_init_4 rfl (j := 0) rfl ?_
  refine wm_iload_n E dCo_init_5 rfl (j := 3) rfl ?_
  refine wm_pI E fp_Co_9 (fun _ => hI) h dCo_init_6 (fun m6 h => ?_)
  refine wm_aload_n E dCo_init_9 rfl (j := 0) rfl ?_
  refine wm_aload_n E dCo_init_10 rfl (j := 1) rfl ?_
  refine wm_iload_n E dCo_init_11 rfl (j := 3) rfl ?_
  obtain ⟨x12, m12, hc12, h⟩ := b2S h
  refine wm_cS (As := [vR v1, vI v3]) (st := [vR v0]) E lk_Co_15 sc_As_copyOf (C_As_copyOf (xl X) X.1 v1 v3 m6 _ _ hc12) rfl rfl (by rw [hR]; decide) (by rw [hR]; decide) (Nat.le_of_ble_eq_true rfl) dCo_init_12 ?_
  refine wm_pR E fp_Co_21 (Or.inr ⟨_, rfl⟩) (fun _ => hI) h dCo_init_15 (fun m15 h => ?_)
  refine wm_aload_n E dCo_init_18 rfl (j := 0) rfl ?_
  refine wm_aload_n E dCo_init_19 rfl (j := 2) rfl ?_
  refine wm_iload_n E dCo_init_20 rfl (j := 3) rfl ?_
  obtain ⟨x21, m21, hc21, h⟩ := b2S h
  refine wm_cS (As := [vR v2, vI v3]) (st := [vR v0]) E lk_Co_15 sc_As_copyOf (C_As_copyOf (xl X) X.1 v2 v3 m15 _ _ hc21) rfl rfl (by rw [hR]; decide) (by rw [hR]; decide) (Nat.le_of_ble_eq_true rfl) dCo_init_21 ?_
  refine wm_pR E fp_Co_25 (Or.inr ⟨_, rfl⟩) (fun _ => hI) h dCo_init_24 (fun m24 h => ?_)
  exact wm_vret E hQ rfl (rtM h) (by decide) (by decide) dCo_init_27
def S_Hi_init (v0 : Option Nat) (μ : Mem) : Option (Unit × Mem) := b1 (rc μ v0 4) (fun _ => b2 (nI_ μ 0 30 30) (fun x7 m7 => b1 (pV m7 v0 4 0 (vR x7)) (fun m9 => b2 (nL_ m9 1 30 30) (fun x15 m15 => b1 (pV m15 v0 4 1 (vR x15)) (fun m17 => b1 (pV m17 v0 4 2 (vI 0)) (fun m22 => some ((), m22)))))))
set_option maxHeartbeats 4000000 in
set_option maxRecDepth 100000 in
theorem C_Hi_init (l : Launch) (G : GG) (v0 : Option Nat) (μ μ' : Mem) (r : Unit) (h : S_Hi_init v0 μ = some (r, μ')) : CT l G y_Hi_init prog_5_method_1_code 1 none 1 2 60 60 μ [vR v0] none μ' := by
  refine wm_met (lv := [(0, vR v0)]) (by decide +kernel) (Nat.le_of_ble_eq_true rfl) rfl (fun X E hQ hR hI => ?_)
  have h : (b1 (rc μ v0 4) (fun _ => b2 (nI_ μ 0 30 30) (fun x7 m7 => b1 (pV m7 v0 4 0 (vR x7)) (fun m9 => b2 (nL_ m9 1 30 30) (fun x15 m15 => b1 (pV m15 v0 4 1 (vR x15)) (fun m17 => b1 (pV m17 v0 4 2 (vI 0)) (fun m22 => some ((), m22)))))))) = some (r, μ') := h
  refine wm_aload_n E dHi_init_0 rfl (j := 0) rfl ?_
  obtain ⟨u1, hr1, h⟩ := b1S h
  refine wm_obj E hr1 oi_Hi_3 (by rw [hR]; decide) (by rw [hR]; decide) rfl dHi_init_1 ?_
  refine wm_aload_n E dHi_init_4 rfl (j := 0) rfl ?_
  refine wm_bipush (x := 30) E dHi_init_5 (by decide) ?_
  refine wm_newi (t := 0) (B := 30) E rfl rfl rfl ac_I h (by decide) (by rw [hR]; decide) (by rw [hR]; decide) dHi_init_7 (fun x7 m7 h => ?_)
  refine wm_pR E fp_Hi_9 (Or.inr ⟨_, rfl⟩) (fun _ => hI) h dHi_init_9 (fun m9 h => ?_)
  refine wm_aload_n E dHi_init_12 rfl (j := 0) rfl ?_
  refine wm_bipush (x := 30) E dHi_init_13 (by decide) ?_
  refine wm_newl (t := 1) (B := 30) E rfl rfl rfl ac_J h (by decide) (by rw [hR]; decide) (by rw [hR]; decide) dHi_init_15 (fun x15 m15 h => ?_)
  refine wm_pR E fp_Hi_15 (Or.inr ⟨_, rfl⟩) (fun _ => hI) h dHi_init_17 (fun m17 h => ?_)
  refine wm_aload_n E dHi_init_20 rfl (j := 0) rfl ?_
  refine wm_iconst (x := 0) E dHi_init_21 (by decide) ?_
  refine wm_pI E fp_Hi_19 (fun q => by cases q) h dHi_init_22 (fun m22 h => ?_)
  exact wm_vret E hQ rfl (rtM h) (by decide) (by decide) dHi_init_25
def S_Ec_init (v0 : Option Nat) (μ : Mem) : Option (Unit × Mem) := b1 (rc μ v0 3) (fun _ => b2 (nT_ μ 6 0 11 11) (fun x9 m9 => b1 (pV m9 v0 3 0 (vR x9)) (fun m13 => some ((), m13))))
set_option maxHeartbeats 4000000 in
set_option maxRecDepth 100000 in
theorem C_Ec_init (l : Launch) (G : GG) (v0 : Option Nat) (μ μ' : Mem) (r : Unit) (h : S_Ec_init v0 μ = some (r, μ')) : CT l G y_Ec_init prog_4_method_1_code 1 none 1 12 132 60 μ [vR v0] none μ' := by
  refine wm_met (lv := [(0, vR v0)]) (by decide +kernel) (Nat.le_of_ble_eq_true rfl) rfl (fun X E hQ hR hI => ?_)
  have h : (b1 (rc μ v0 3) (fun _ => b2 (nT_ μ 6 0 11 11) (fun x9 m9 => b1 (pV m9 v0 3 0 (vR x9)) (fun m13 => some ((), m13))))) = some (r, μ') := h
  refine wm_aload_n E dEc_init_0 rfl (j := 0) rfl ?_
  obtain ⟨u1, hr1, h⟩ := b1S h
  refine wm_obj E hr1 oi_Ec_3 (by rw [hR]; decide) (by rw [hR]; decide) rfl dEc_init_1 ?_
  refine wm_aload_n E dEc_init_4 rfl (j := 0) rfl ?_
  refine wm_bipush (x := 11) E dEc_init_5 (by decide) ?_
  refine wm_bipush (x := 11) E dEc_init_7 (by decide) ?_
  refine wm_mna (t := 6) (t0 := 0) E rfl rfl cl_Ec_9 ao_int ac_I h (by rw [hR]; decide) (by rw [hR]; decide) dEc_init_9 (fun x9 m9 h => ?_)
  refine wm_pR E fp_Ec_11 (Or.inr ⟨_, rfl⟩) (fun _ => hI) h dEc_init_13 (fun m13 h => ?_)
  exact wm_vret E hQ rfl (rtM h) (by decide) (by decide) dEc_init_16
def S_Rs_init (v0 : Option Nat) (μ : Mem) : Option (Unit × Mem) := b1 (rc μ v0 8) (fun _ => some ((), μ))
set_option maxHeartbeats 4000000 in
set_option maxRecDepth 100000 in
theorem C_Rs_init (l : Launch) (G : GG) (v0 : Option Nat) (μ μ' : Mem) (r : Unit) (h : S_Rs_init v0 μ = some (r, μ')) : CT l G y_Rs_init prog_9_method_1_code 1 none 1 0 0 60 μ [vR v0] none μ' := by
  refine wm_met (lv := [(0, vR v0)]) (by decide +kernel) (Nat.le_of_ble_eq_true rfl) rfl (fun X E hQ hR hI => ?_)
  have h : (b1 (rc μ v0 8) (fun _ => some ((), μ))) = some (r, μ') := h
  refine wm_aload_n E dRs_init_0 rfl (j := 0) rfl ?_
  obtain ⟨u1, hr1, h⟩ := b1S h
  refine wm_obj E hr1 oi_Rs_1 (by rw [hR]; decide) (by rw [hR]; decide) rfl dRs_init_1 ?_
  exact wm_vret E hQ rfl (rtM h) (by decide) (by decide) dRs_init_4
def B_Wo_joinedLetter_60 (μ : Mem)   (s0 : Int32) : Option Int32 := gd (¬ okC s0 = true) (some (s0))
set_option maxHeartbeats 4000000 in
set_option maxRecDepth 100000 in
theorem w_Wo_joinedLetter_60 {X : CX} (E : EV X prog_11_method_2_code 2 "PlaceFinder$Word" (some .char)) {μ0 μ : Mem} {r : Int32} (hQ : RQ X 0 0 μ0 (some (vI r)) μ) (hR : xR X = { frames := 0, cells := 0, slots := 0, locals := 0 }) (hI : X.2.2.2.2.2.2.2.2.2.2.2.1.name = "joinedLetter")  (s0 : Int32) (h : B_Wo_joinedLetter_60 μ  s0 = some r) : WM X 2 60 [] [vI s0] 0 0 μ := by
  have h : (gd (¬ okC s0 = true) (some (s0))) = some r := h
  obtain ⟨hz60, h⟩ := gdS h
  exact wm_zret (rt := .char) E hQ (rqI1 h) rfl (okCN hz60) (by decide) (by decide) dWo_joinedLetter_60
def B_Wo_joinedLetter_59 (μ : Mem)    : Option Int32 := B_Wo_joinedLetter_60 μ 0
set_option maxHeartbeats 4000000 in
set_option maxRecDepth 100000 in
theorem w_Wo_joinedLetter_59 {X : CX} (E : EV X prog_11_method_2_code 2 "PlaceFinder$Word" (some .char)) {μ0 μ : Mem} {r : Int32} (hQ : RQ X 0 0 μ0 (some (vI r)) μ) (hR : xR X = { frames := 0, cells := 0, slots := 0, locals := 0 }) (hI : X.2.2.2.2.2.2.2.2.2.2.2.1.name = "joinedLetter")   (h : B_Wo_joinedLetter_59 μ   = some r) : WM X 2 59 [] [] 0 0 μ := by
  have h : (B_Wo_joinedLetter_60 μ 0) = some r := h
  refine wm_iconst (x := 0) E dWo_joinedLetter_59 (by decide) ?_
  refine wm_pick (lv' := []) [] rfl ?_
  exact w_Wo_joinedLetter_60 E hQ hR hI 0 h
def B_Wo_joinedLetter_42 (μ : Mem)   (v0 : Int32) (v1 : Int32) : Option Int32 := if v0 = 116 then if v1 = 104 then B_Wo_joinedLetter_60 μ 116 else B_Wo_joinedLetter_59 μ  else B_Wo_joinedLetter_59 μ 
set_option maxHeartbeats 4000000 in
set_option maxRecDepth 100000 in
theorem w_Wo_joinedLetter_42 {X : CX} (E : EV X prog_11_method_2_code 2 "PlaceFinder$Word" (some .char)) {μ0 μ : Mem} {r : Int32} (hQ : RQ X 0 0 μ0 (some (vI r)) μ) (hR : xR X = { frames := 0, cells := 0, slots := 0, locals := 0 }) (hI : X.2.2.2.2.2.2.2.2.2.2.2.1.name = "joinedLetter")  (v0 : Int32) (v1 : Int32) (h : B_Wo_joinedLetter_42 μ  v0 v1 = some r) : WM X 2 42 [(0, vI v0), (1, vI v1)] [] 0 0 μ := by
  have h : (if v0 = 116 then if v1 = 104 then B_Wo_joinedLetter_60 μ 116 else B_Wo_joinedLetter_59 μ  else B_Wo_joinedLetter_59 μ ) = some r := h
  refine wm_iload_n E dWo_joinedLetter_42 rfl (j := 0) rfl ?_
  refine wm_bipush (x := 116) E dWo_joinedLetter_43 (by decide) ?_
  refine wm_icmp_ne (tgt := 59) E dWo_joinedLetter_45 (by decide) (fun c45 => ?_) (fun c45 => ?_)
  · have h := (if_neg c45).symm.trans h
    refine wm_pick (lv' := []) [] rfl ?_
    exact w_Wo_joinedLetter_59 E hQ hR hI  h
  · have h := (if_pos c45).symm.trans h
    refine wm_iload_n E dWo_joinedLetter_48 rfl (j := 1) rfl ?_
    refine wm_bipush (x := 104) E dWo_joinedLetter_49 (by decide) ?_
    refine wm_icmp_ne (tgt := 59) E dWo_joinedLetter_51 (by decide) (fun c51 => ?_) (fun c51 => ?_)
    · have h := (if_neg c51).symm.trans h
      refine wm_pick (lv' := []) [] rfl ?_
      exact w_Wo_joinedLetter_59 E hQ hR hI  h
    · have h := (if_pos c51).symm.trans h
      refine wm_bipush (x := 116) E dWo_joinedLetter_54 (by decide) ?_
      refine wm_goto (tgt := 60) E dWo_joinedLetter_56 (by decide) ?_
      refine wm_pick (lv' := []) [] rfl ?_
      exact w_Wo_joinedLetter_60 E hQ hR hI 116 h
def B_Wo_joinedLetter_39 (μ : Mem)    : Option Int32 := gd (¬ okC 107 = true) (some (107))
set_option maxHeartbeats 4000000 in
set_option maxRecDepth 100000 in
theorem w_Wo_joinedLetter_39 {X : CX} (E : EV X prog_11_method_2_code 2 "PlaceFinder$Word" (some .char)) {μ0 μ : Mem} {r : Int32} (hQ : RQ X 0 0 μ0 (some (vI r)) μ) (hR : xR X = { frames := 0, cells := 0, slots := 0, locals := 0 }) (hI : X.2.2.2.2.2.2.2.2.2.2.2.1.name = "joinedLetter")   (h : B_Wo_joinedLetter_39 μ   = some r) : WM X 2 39 [] [] 0 0 μ := by
  have h : (gd (¬ okC 107 = true) (some (107))) = some r := h
  refine wm_bipush (x := 107) E dWo_joinedLetter_39 (by decide) ?_
  obtain ⟨hz41, h⟩ := gdS h
  exact wm_zret (rt := .char) E hQ (rqI1 h) rfl (okCN hz41) (by decide) (by decide) dWo_joinedLetter_41
def B_Wo_joinedLetter_27 (μ : Mem)   (v0 : Int32) (v1 : Int32) : Option Int32 := if v0 = 113 then if v1 = 117 then B_Wo_joinedLetter_39 μ  else B_Wo_joinedLetter_42 μ v0 v1 else B_Wo_joinedLetter_42 μ v0 v1
set_option maxHeartbeats 4000000 in
set_option maxRecDepth 100000 in
theorem w_Wo_joinedLetter_27 {X : CX} (E : EV X prog_11_method_2_code 2 "PlaceFinder$Word" (some .char)) {μ0 μ : Mem} {r : Int32} (hQ : RQ X 0 0 μ0 (some (vI r)) μ) (hR : xR X = { frames := 0, cells := 0, slots := 0, locals := 0 }) (hI : X.2.2.2.2.2.2.2.2.2.2.2.1.name = "joinedLetter")  (v0 : Int32) (v1 : Int32) (h : B_Wo_joinedLetter_27 μ  v0 v1 = some r) : WM X 2 27 [(0, vI v0), (1, vI v1)] [] 0 0 μ := by
  have h : (if v0 = 113 then if v1 = 117 then B_Wo_joinedLetter_39 μ  else B_Wo_joinedLetter_42 μ v0 v1 else B_Wo_joinedLetter_42 μ v0 v1) = some r := h
  refine wm_iload_n E dWo_joinedLetter_27 rfl (j := 0) rfl ?_
  refine wm_bipush (x := 113) E dWo_joinedLetter_28 (by decide) ?_
  refine wm_icmp_ne (tgt := 42) E dWo_joinedLetter_30 (by decide) (fun c30 => ?_) (fun c30 => ?_)
  · have h := (if_neg c30).symm.trans h
    refine wm_pick (lv' := [(0, vI v0), (1, vI v1)]) [0, 1] rfl ?_
    exact w_Wo_joinedLetter_42 E hQ hR hI v0 v1 h
  · have h := (if_pos c30).symm.trans h
    refine wm_iload_n E dWo_joinedLetter_33 rfl (j := 1) rfl ?_
    refine wm_bipush (x := 117) E dWo_joinedLetter_34 (by decide) ?_
    refine wm_icmp_ne (tgt := 42) E dWo_joinedLetter_36 (by decide) (fun c36 => ?_) (fun c36 => ?_)
    · have h := (if_neg c36).symm.trans h
      refine wm_pick (lv' := [(0, vI v0), (1, vI v1)]) [0, 1] rfl ?_
      exact w_Wo_joinedLetter_42 E hQ hR hI v0 v1 h
    · have h := (if_pos c36).symm.trans h
      refine wm_pick (lv' := []) [] rfl ?_
      exact w_Wo_joinedLetter_39 E hQ hR hI  h
def B_Wo_joinedLetter_15 (μ : Mem)   (v0 : Int32) (v1 : Int32) : Option Int32 := if v0 = 99 then if v1 = 107 then B_Wo_joinedLetter_39 μ  else B_Wo_joinedLetter_27 μ v0 v1 else B_Wo_joinedLetter_27 μ v0 v1
set_option maxHeartbeats 4000000 in
set_option maxRecDepth 100000 in
theorem w_Wo_joinedLetter_15 {X : CX} (E : EV X prog_11_method_2_code 2 "PlaceFinder$Word" (some .char)) {μ0 μ : Mem} {r : Int32} (hQ : RQ X 0 0 μ0 (some (vI r)) μ) (hR : xR X = { frames := 0, cells := 0, slots := 0, locals := 0 }) (hI : X.2.2.2.2.2.2.2.2.2.2.2.1.name = "joinedLetter")  (v0 : Int32) (v1 : Int32) (h : B_Wo_joinedLetter_15 μ  v0 v1 = some r) : WM X 2 15 [(0, vI v0), (1, vI v1)] [] 0 0 μ := by
  have h : (if v0 = 99 then if v1 = 107 then B_Wo_joinedLetter_39 μ  else B_Wo_joinedLetter_27 μ v0 v1 else B_Wo_joinedLetter_27 μ v0 v1) = some r := h
  refine wm_iload_n E dWo_joinedLetter_15 rfl (j := 0) rfl ?_
  refine wm_bipush (x := 99) E dWo_joinedLetter_16 (by decide) ?_
  refine wm_icmp_ne (tgt := 27) E dWo_joinedLetter_18 (by decide) (fun c18 => ?_) (fun c18 => ?_)
  · have h := (if_neg c18).symm.trans h
    refine wm_pick (lv' := [(0, vI v0), (1, vI v1)]) [0, 1] rfl ?_
    exact w_Wo_joinedLetter_27 E hQ hR hI v0 v1 h
  · have h := (if_pos c18).symm.trans h
    refine wm_iload_n E dWo_joinedLetter_21 rfl (j := 1) rfl ?_
    refine wm_bipush (x := 107) E dWo_joinedLetter_22 (by decide) ?_
    refine wm_icmp_eq (tgt := 39) E dWo_joinedLetter_24 (by decide) (fun c24 => ?_) (fun c24 => ?_)
    · have h := (if_pos c24).symm.trans h
      refine wm_pick (lv' := []) [] rfl ?_
      exact w_Wo_joinedLetter_39 E hQ hR hI  h
    · have h := (if_neg c24).symm.trans h
      refine wm_pick (lv' := [(0, vI v0), (1, vI v1)]) [0, 1] rfl ?_
      exact w_Wo_joinedLetter_27 E hQ hR hI v0 v1 h
def S_Wo_joinedLetter (v0 : Int32) (v1 : Int32) (μ : Mem) : Option Int32 := if v0 = 112 then if v1 = 104 then gd (¬ okC 102 = true) (some (102)) else B_Wo_joinedLetter_15 μ v0 v1 else B_Wo_joinedLetter_15 μ v0 v1
set_option maxHeartbeats 4000000 in
set_option maxRecDepth 100000 in
theorem C_Wo_joinedLetter (l : Launch) (G : GG) (v0 : Int32) (v1 : Int32) (μ : Mem) (r : Int32) (h : S_Wo_joinedLetter v0 v1 μ = some r) : CT l G y_Wo_joinedLetter prog_11_method_2_code 2 (some .char) 0 0 0 0 μ [vI v0, vI v1] (some (vI r)) μ := by
  refine wm_met (lv := [(0, vI v0), (1, vI v1)]) (by decide +kernel) (Nat.le_of_ble_eq_true rfl) rfl (fun X E hQ hR hI => ?_)
  have h : (if v0 = 112 then if v1 = 104 then gd (¬ okC 102 = true) (some (102)) else B_Wo_joinedLetter_15 μ v0 v1 else B_Wo_joinedLetter_15 μ v0 v1) = some r := h
  refine wm_iload_n E dWo_joinedLetter_0 rfl (j := 0) rfl ?_
  refine wm_bipush (x := 112) E dWo_joinedLetter_1 (by decide) ?_
  refine wm_icmp_ne (tgt := 15) E dWo_joinedLetter_3 (by decide) (fun c3 => ?_) (fun c3 => ?_)
  · have h := (if_neg c3).symm.trans h
    refine wm_pick (lv' := [(0, vI v0), (1, vI v1)]) [0, 1] rfl ?_
    exact w_Wo_joinedLetter_15 E hQ hR hI v0 v1 h
  · have h := (if_pos c3).symm.trans h
    refine wm_iload_n E dWo_joinedLetter_6 rfl (j := 1) rfl ?_
    refine wm_bipush (x := 104) E dWo_joinedLetter_7 (by decide) ?_
    refine wm_icmp_ne (tgt := 15) E dWo_joinedLetter_9 (by decide) (fun c9 => ?_) (fun c9 => ?_)
    · have h := (if_neg c9).symm.trans h
      refine wm_pick (lv' := [(0, vI v0), (1, vI v1)]) [0, 1] rfl ?_
      exact w_Wo_joinedLetter_15 E hQ hR hI v0 v1 h
    · have h := (if_pos c9).symm.trans h
      refine wm_bipush (x := 102) E dWo_joinedLetter_12 (by decide) ?_
      obtain ⟨hz14, h⟩ := gdS h
      exact wm_zret (rt := .char) E hQ (rqI1 h) rfl (okCN hz14) (by decide) (by decide) dWo_joinedLetter_14
def B_Wo_init_129 (k16 : Option Nat → Option Nat → Int32 → Int32 → Int32 → Mem → Option (Unit × Mem)) (v0 : Option Nat) (v1 : Option Nat) (v2 : Int32) (v3 : Int32) (v4 : Int32) (μ : Mem) : Option (Unit × Mem) := k16 v0 v1 v2 v3 (v4 + 1) μ
set_option maxHeartbeats 4000000 in
set_option maxRecDepth 100000 in
theorem w_Wo_init_129 {X : CX} (E : EV X prog_11_method_1_code 7 "PlaceFinder$Word" none) {μ0 μ' : Mem} {r : Unit} (hQ : RQ X 1 10 μ0 none μ') (hR : xR X = { frames := 1, cells := 1, slots := 10, locals := 60 }) (hI : X.2.2.2.2.2.2.2.2.2.2.2.1.name = "<init>") (k16 : Option Nat → Option Nat → Int32 → Int32 → Int32 → Mem → Option (Unit × Mem)) (hk16 : ∀ (v0 : Option Nat) (v1 : Option Nat) (v2 : Int32) (v3 : Int32) (v4 : Int32) (μ : Mem), k16 v0 v1 v2 v3 v4 μ = some (r, μ') → WM X 7 16 [(0, vR v0), (1, vR v1), (2, vI v2), (3, vI v3), (4, vI v4)] [] 1 10 μ) (v0 : Option Nat) (v1 : Option Nat) (v2 : Int32) (v3 : Int32) (v4 : Int32) (μ : Mem) (h : B_Wo_init_129 k16 v0 v1 v2 v3 v4 μ = some (r, μ')) : WM X 7 129 [(0, vR v0), (1, vR v1), (2, vI v2), (3, vI v3), (4, vI v4)] [] 1 10 μ := by
  have h : (k16 v0 v1 v2 v3 (v4 + 1) μ) = some (r, μ') := h
  refine wm_iinc (lv' := [(4, vI (v4 + 1)), (0, vR v0), (1, vR v1), (2, vI v2), (3, vI v3)]) (d := 1) E dWo_init_129 (by decide) (j := 4) rfl (by decide) rfl ?_
  refine wm_goto (tgt := 16) E dWo_init_132 (by decide) ?_
  refine wm_pick (lv' := [(0, vR v0), (1, vR v1), (2, vI v2), (3, vI v3), (4, vI (v4 + 1))]) [1, 2, 3, 4, 0] rfl ?_
  exact hk16 v0 v1 v2 v3 (v4 + 1) μ h
def B_Wo_init_118 (k16 : Option Nat → Option Nat → Int32 → Int32 → Int32 → Mem → Option (Unit × Mem)) (v0 : Option Nat) (v1 : Option Nat) (v2 : Int32) (v3 : Int32) (v4 : Int32) (v6 : Int32) (μ : Mem) : Option (Unit × Mem) := b1 (gR μ v0 10 0) (fun x119 => b1 (sI μ x119 2 v3 (vp_nar .char v6)) (fun m125 => B_Wo_init_129 k16 v0 v1 v2 (v3 + 1) v4 m125))
set_option maxHeartbeats 4000000 in
set_option maxRecDepth 100000 in
theorem w_Wo_init_118 {X : CX} (E : EV X prog_11_method_1_code 7 "PlaceFinder$Word" none) {μ0 μ' : Mem} {r : Unit} (hQ : RQ X 1 10 μ0 none μ') (hR : xR X = { frames := 1, cells := 1, slots := 10, locals := 60 }) (hI : X.2.2.2.2.2.2.2.2.2.2.2.1.name = "<init>") (k16 : Option Nat → Option Nat → Int32 → Int32 → Int32 → Mem → Option (Unit × Mem)) (hk16 : ∀ (v0 : Option Nat) (v1 : Option Nat) (v2 : Int32) (v3 : Int32) (v4 : Int32) (μ : Mem), k16 v0 v1 v2 v3 v4 μ = some (r, μ') → WM X 7 16 [(0, vR v0), (1, vR v1), (2, vI v2), (3, vI v3), (4, vI v4)] [] 1 10 μ) (v0 : Option Nat) (v1 : Option Nat) (v2 : Int32) (v3 : Int32) (v4 : Int32) (v6 : Int32) (μ : Mem) (h : B_Wo_init_118 k16 v0 v1 v2 v3 v4 v6 μ = some (r, μ')) : WM X 7 118 [(0, vR v0), (1, vR v1), (2, vI v2), (3, vI v3), (4, vI v4), (6, vI v6)] [] 1 10 μ := by
  have h : (b1 (gR μ v0 10 0) (fun x119 => b1 (sI μ x119 2 v3 (vp_nar .char v6)) (fun m125 => B_Wo_init_129 k16 v0 v1 v2 (v3 + 1) v4 m125))) = some (r, μ') := h
  refine wm_aload_n E dWo_init_118 rfl (j := 0) rfl ?_
  refine wm_gR E fd_Wo_9 h dWo_init_119 (fun x119 h => ?_)
  refine wm_iload_n E dWo_init_122 rfl (j := 3) rfl ?_
  refine wm_iload E dWo_init_123 (j := 5) rfl ?_
  refine wm_cast (t := 2) E rfl h dWo_init_125 (fun m125 h => ?_)
  refine wm_iinc (lv' := [(3, vI (v3 + 1)), (0, vR v0), (1, vR v1), (2, vI v2), (4, vI v4), (6, vI v6)]) (d := 1) E dWo_init_126 (by decide) (j := 3) rfl (by decide) rfl ?_
  refine wm_pick (lv' := [(0, vR v0), (1, vR v1), (2, vI v2), (3, vI (v3 + 1)), (4, vI v4)]) [1, 2, 3, 0, 4] rfl ?_
  exact w_Wo_init_129 E hQ hR hI k16 hk16 v0 v1 v2 (v3 + 1) v4 m125 h
def B_Wo_init_101 (k16 : Option Nat → Option Nat → Int32 → Int32 → Int32 → Mem → Option (Unit × Mem)) (v0 : Option Nat) (v1 : Option Nat) (v2 : Int32) (v3 : Int32) (v4 : Int32) (v6 : Int32) (μ : Mem) : Option (Unit × Mem) := if v3 = 0 then B_Wo_init_118 k16 v0 v1 v2 v3 v4 v6 μ else b1 (gR μ v0 10 0) (fun x106 => b1 (aI μ x106 2 (v3 - 1)) (fun x112 => if x112 = v6 then B_Wo_init_129 k16 v0 v1 v2 v3 v4 μ else B_Wo_init_118 k16 v0 v1 v2 v3 v4 v6 μ))
set_option maxHeartbeats 4000000 in
set_option maxRecDepth 100000 in
theorem w_Wo_init_101 {X : CX} (E : EV X prog_11_method_1_code 7 "PlaceFinder$Word" none) {μ0 μ' : Mem} {r : Unit} (hQ : RQ X 1 10 μ0 none μ') (hR : xR X = { frames := 1, cells := 1, slots := 10, locals := 60 }) (hI : X.2.2.2.2.2.2.2.2.2.2.2.1.name = "<init>") (k16 : Option Nat → Option Nat → Int32 → Int32 → Int32 → Mem → Option (Unit × Mem)) (hk16 : ∀ (v0 : Option Nat) (v1 : Option Nat) (v2 : Int32) (v3 : Int32) (v4 : Int32) (μ : Mem), k16 v0 v1 v2 v3 v4 μ = some (r, μ') → WM X 7 16 [(0, vR v0), (1, vR v1), (2, vI v2), (3, vI v3), (4, vI v4)] [] 1 10 μ) (v0 : Option Nat) (v1 : Option Nat) (v2 : Int32) (v3 : Int32) (v4 : Int32) (v6 : Int32) (μ : Mem) (h : B_Wo_init_101 k16 v0 v1 v2 v3 v4 v6 μ = some (r, μ')) : WM X 7 101 [(0, vR v0), (1, vR v1), (2, vI v2), (3, vI v3), (4, vI v4), (6, vI v6)] [] 1 10 μ := by
  have h : (if v3 = 0 then B_Wo_init_118 k16 v0 v1 v2 v3 v4 v6 μ else b1 (gR μ v0 10 0) (fun x106 => b1 (aI μ x106 2 (v3 - 1)) (fun x112 => if x112 = v6 then B_Wo_init_129 k16 v0 v1 v2 v3 v4 μ else B_Wo_init_118 k16 v0 v1 v2 v3 v4 v6 μ))) = some (r, μ') := h
  refine wm_iload_n E dWo_init_101 rfl (j := 3) rfl ?_
  refine wm_if_eq (tgt := 118) E dWo_init_102 (by decide) (fun c102 => ?_) (fun c102 => ?_)
  · have h := (if_pos c102).symm.trans h
    refine wm_pick (lv' := [(0, vR v0), (1, vR v1), (2, vI v2), (3, vI v3), (4, vI v4), (6, vI v6)]) [0, 1, 2, 3, 4, 5] rfl ?_
    exact w_Wo_init_118 E hQ hR hI k16 hk16 v0 v1 v2 v3 v4 v6 μ h
  · have h := (if_neg c102).symm.trans h
    refine wm_aload_n E dWo_init_105 rfl (j := 0) rfl ?_
    refine wm_gR E fd_Wo_9 h dWo_init_106 (fun x106 h => ?_)
    refine wm_iload_n E dWo_init_109 rfl (j := 3) rfl ?_
    refine wm_iconst (x := 1) E dWo_init_110 (by decide) ?_
    refine wm_isub E dWo_init_111 ?_
    refine wm_cald (t := 2) E rfl h dWo_init_112 (fun x112 h => ?_)
    refine wm_iload E dWo_init_113 (j := 5) rfl ?_
    refine wm_icmp_eq (tgt := 129) E dWo_init_115 (by decide) (fun c115 => ?_) (fun c115 => ?_)
    · have h := (if_pos c115).symm.trans h
      refine wm_pick (lv' := [(0, vR v0), (1, vR v1), (2, vI v2), (3, vI v3), (4, vI v4)]) [0, 1, 2, 3, 4] rfl ?_
      exact w_Wo_init_129 E hQ hR hI k16 hk16 v0 v1 v2 v3 v4 μ h
    · have h := (if_neg c115).symm.trans h
      refine wm_pick (lv' := [(0, vR v0), (1, vR v1), (2, vI v2), (3, vI v3), (4, vI v4), (6, vI v6)]) [0, 1, 2, 3, 4, 5] rfl ?_
      exact w_Wo_init_118 E hQ hR hI k16 hk16 v0 v1 v2 v3 v4 v6 μ h
def B_Wo_init_76 (k16 : Option Nat → Option Nat → Int32 → Int32 → Int32 → Mem → Option (Unit × Mem)) : Nat → Option Nat → Option Nat → Int32 → Int32 → Int32 → Int32 → Mem → Option (Unit × Mem)
  | 0, _, _, _, _, _, _, _ => none
  | n + 1, v0, v1, v2, v3, v4, v6, μ => if v2 ≤ (v4 + 1) then B_Wo_init_101 k16 v0 v1 v2 v3 v4 v6 μ else b1 (aI μ v1 2 (v4 + 1)) (fun x89 => if x89 = v6 then (fun v0 v1 v2 v3 v4 v6 μ => B_Wo_init_76 k16 n v0 v1 v2 v3 v4 v6 μ) v0 v1 v2 v3 (v4 + 1) v6 μ else B_Wo_init_101 k16 v0 v1 v2 v3 v4 v6 μ)
set_option maxHeartbeats 4000000 in
set_option maxRecDepth 100000 in
theorem w_Wo_init_76 {X : CX} (E : EV X prog_11_method_1_code 7 "PlaceFinder$Word" none) {μ0 μ' : Mem} {r : Unit} (hQ : RQ X 1 10 μ0 none μ') (hR : xR X = { frames := 1, cells := 1, slots := 10, locals := 60 }) (hI : X.2.2.2.2.2.2.2.2.2.2.2.1.name = "<init>") (k16 : Option Nat → Option Nat → Int32 → Int32 → Int32 → Mem → Option (Unit × Mem)) (hk16 : ∀ (v0 : Option Nat) (v1 : Option Nat) (v2 : Int32) (v3 : Int32) (v4 : Int32) (μ : Mem), k16 v0 v1 v2 v3 v4 μ = some (r, μ') → WM X 7 16 [(0, vR v0), (1, vR v1), (2, vI v2), (3, vI v3), (4, vI v4)] [] 1 10 μ) (n : Nat) : ∀ (v0 : Option Nat) (v1 : Option Nat) (v2 : Int32) (v3 : Int32) (v4 : Int32) (v6 : Int32) (μ : Mem) (h : B_Wo_init_76 k16 n v0 v1 v2 v3 v4 v6 μ = some (r, μ')), WM X 7 76 [(0, vR v0), (1, vR v1), (2, vI v2), (3, vI v3), (4, vI v4), (6, vI v6)] [] 1 10 μ := by
  induction n with
  | zero => intro v0 v1 v2 v3 v4 v6 μ h; cases h
  | succ n ih =>
    intro v0 v1 v2 v3 v4 v6 μ h
    have h : (if v2 ≤ (v4 + 1) then B_Wo_init_101 k16 v0 v1 v2 v3 v4 v6 μ else b1 (aI μ v1 2 (v4 + 1)) (fun x89 => if x89 = v6 then (fun v0 v1 v2 v3 v4 v6 μ => B_Wo_init_76 k16 n v0 v1 v2 v3 v4 v6 μ) v0 v1 v2 v3 (v4 + 1) v6 μ else B_Wo_init_101 k16 v0 v1 v2 v3 v4 v6 μ)) = some (r, μ') := h
    refine wm_iload E dWo_init_76 (j := 4) rfl ?_
    refine wm_iconst (x := 1) E dWo_init_78 (by decide) ?_
    refine wm_iadd E dWo_init_79 ?_
    refine wm_iload_n E dWo_init_80 rfl (j := 2) rfl ?_
    refine wm_icmp_ge (tgt := 101) E dWo_init_81 (by decide) (fun c81 => ?_) (fun c81 => ?_)
    · have h := (if_pos c81).symm.trans h
      refine wm_pick (lv' := [(0, vR v0), (1, vR v1), (2, vI v2), (3, vI v3), (4, vI v4), (6, vI v6)]) [0, 1, 2, 3, 4, 5] rfl ?_
      exact w_Wo_init_101 E hQ hR hI k16 hk16 v0 v1 v2 v3 v4 v6 μ h
    · have h := (if_neg c81).symm.trans h
      refine wm_aload_n E dWo_init_84 rfl (j := 1) rfl ?_
      refine wm_iload E dWo_init_85 (j := 4) rfl ?_
      refine wm_iconst (x := 1) E dWo_init_87 (by decide) ?_
      refine wm_iadd E dWo_init_88 ?_
      refine wm_cald (t := 2) E rfl h dWo_init_89 (fun x89 h => ?_)
      refine wm_iload E dWo_init_90 (j := 5) rfl ?_
      refine wm_icmp_ne (tgt := 101) E dWo_init_92 (by decide) (fun c92 => ?_) (fun c92 => ?_)
      · have h := (if_neg c92).symm.trans h
        refine wm_pick (lv' := [(0, vR v0), (1, vR v1), (2, vI v2), (3, vI v3), (4, vI v4), (6, vI v6)]) [0, 1, 2, 3, 4, 5] rfl ?_
        exact w_Wo_init_101 E hQ hR hI k16 hk16 v0 v1 v2 v3 v4 v6 μ h
      · have h := (if_pos c92).symm.trans h
        refine wm_iinc (lv' := [(4, vI (v4 + 1)), (0, vR v0), (1, vR v1), (2, vI v2), (3, vI v3), (6, vI v6)]) (d := 1) E dWo_init_95 (by decide) (j := 4) rfl (by decide) rfl ?_
        refine wm_goto (tgt := 76) E dWo_init_98 (by decide) ?_
        refine wm_pick (lv' := [(0, vR v0), (1, vR v1), (2, vI v2), (3, vI v3), (4, vI (v4 + 1)), (6, vI v6)]) [1, 2, 3, 4, 0, 5] rfl ?_
        exact ih v0 v1 v2 v3 (v4 + 1) v6 μ h
def B_Wo_init_63 (k16 : Option Nat → Option Nat → Int32 → Int32 → Int32 → Mem → Option (Unit × Mem)) (v0 : Option Nat) (v1 : Option Nat) (v2 : Int32) (v3 : Int32) (v4 : Int32) (v5 : Int32) (s0 : Int32) (μ : Mem) : Option (Unit × Mem) := if v5 = 0 then B_Wo_init_76 k16 fu v0 v1 v2 v3 v4 s0 μ else B_Wo_init_101 k16 v0 v1 v2 v3 (v4 + 1) s0 μ
set_option maxHeartbeats 4000000 in
set_option maxRecDepth 100000 in
theorem w_Wo_init_63 {X : CX} (E : EV X prog_11_method_1_code 7 "PlaceFinder$Word" none) {μ0 μ' : Mem} {r : Unit} (hQ : RQ X 1 10 μ0 none μ') (hR : xR X = { frames := 1, cells := 1, slots := 10, locals := 60 }) (hI : X.2.2.2.2.2.2.2.2.2.2.2.1.name = "<init>") (k16 : Option Nat → Option Nat → Int32 → Int32 → Int32 → Mem → Option (Unit × Mem)) (hk16 : ∀ (v0 : Option Nat) (v1 : Option Nat) (v2 : Int32) (v3 : Int32) (v4 : Int32) (μ : Mem), k16 v0 v1 v2 v3 v4 μ = some (r, μ') → WM X 7 16 [(0, vR v0), (1, vR v1), (2, vI v2), (3, vI v3), (4, vI v4)] [] 1 10 μ) (v0 : Option Nat) (v1 : Option Nat) (v2 : Int32) (v3 : Int32) (v4 : Int32) (v5 : Int32) (s0 : Int32) (μ : Mem) (h : B_Wo_init_63 k16 v0 v1 v2 v3 v4 v5 s0 μ = some (r, μ')) : WM X 7 63 [(0, vR v0), (1, vR v1), (2, vI v2), (3, vI v3), (4, vI v4), (5, vI v5)] [vI s0] 1 10 μ := by
  have h : (if v5 = 0 then B_Wo_init_76 k16 fu v0 v1 v2 v3 v4 s0 μ else B_Wo_init_101 k16 v0 v1 v2 v3 (v4 + 1) s0 μ) = some (r, μ') := h
  refine wm_istore (lv' := [(6, vI s0), (0, vR v0), (1, vR v1), (2, vI v2), (3, vI v3), (4, vI v4), (5, vI v5)]) E dWo_init_63 (by decide) rfl ?_
  refine wm_iload E dWo_init_65 (j := 6) rfl ?_
  refine wm_if_eq (tgt := 76) E dWo_init_67 (by decide) (fun c67 => ?_) (fun c67 => ?_)
  · have h := (if_pos c67).symm.trans h
    refine wm_pick (lv' := [(0, vR v0), (1, vR v1), (2, vI v2), (3, vI v3), (4, vI v4), (6, vI s0)]) [1, 2, 3, 4, 5, 0] rfl ?_
    exact w_Wo_init_76 E hQ hR hI k16 hk16 fu v0 v1 v2 v3 v4 s0 μ h
  · have h := (if_neg c67).symm.trans h
    refine wm_iinc (lv' := [(4, vI (v4 + 1)), (6, vI s0), (0, vR v0), (1, vR v1), (2, vI v2), (3, vI v3), (5, vI v5)]) (d := 1) E dWo_init_70 (by decide) (j := 5) rfl (by decide) rfl ?_
    refine wm_goto (tgt := 101) E dWo_init_73 (by decide) ?_
    refine wm_pick (lv' := [(0, vR v0), (1, vR v1), (2, vI v2), (3, vI v3), (4, vI (v4 + 1)), (6, vI s0)]) [2, 3, 4, 5, 0, 1] rfl ?_
    exact w_Wo_init_101 E hQ hR hI k16 hk16 v0 v1 v2 v3 (v4 + 1) s0 μ h
def B_Wo_init_47 (k16 : Option Nat → Option Nat → Int32 → Int32 → Int32 → Mem → Option (Unit × Mem)) (v0 : Option Nat) (v1 : Option Nat) (v2 : Int32) (v3 : Int32) (v4 : Int32) (s0 : Int32) (μ : Mem) : Option (Unit × Mem) := if s0 = 0 then b1 (aI μ v1 2 v4) (fun x57 => B_Wo_init_63 k16 v0 v1 v2 v3 v4 s0 x57 μ) else B_Wo_init_63 k16 v0 v1 v2 v3 v4 s0 s0 μ
set_option maxHeartbeats 4000000 in
set_option maxRecDepth 100000 in
theorem w_Wo_init_47 {X : CX} (E : EV X prog_11_method_1_code 7 "PlaceFinder$Word" none) {μ0 μ' : Mem} {r : Unit} (hQ : RQ X 1 10 μ0 none μ') (hR : xR X = { frames := 1, cells := 1, slots := 10, locals := 60 }) (hI : X.2.2.2.2.2.2.2.2.2.2.2.1.name = "<init>") (k16 : Option Nat → Option Nat → Int32 → Int32 → Int32 → Mem → Option (Unit × Mem)) (hk16 : ∀ (v0 : Option Nat) (v1 : Option Nat) (v2 : Int32) (v3 : Int32) (v4 : Int32) (μ : Mem), k16 v0 v1 v2 v3 v4 μ = some (r, μ') → WM X 7 16 [(0, vR v0), (1, vR v1), (2, vI v2), (3, vI v3), (4, vI v4)] [] 1 10 μ) (v0 : Option Nat) (v1 : Option Nat) (v2 : Int32) (v3 : Int32) (v4 : Int32) (s0 : Int32) (μ : Mem) (h : B_Wo_init_47 k16 v0 v1 v2 v3 v4 s0 μ = some (r, μ')) : WM X 7 47 [(0, vR v0), (1, vR v1), (2, vI v2), (3, vI v3), (4, vI v4)] [vI s0] 1 10 μ := by
  have h : (if s0 = 0 then b1 (aI μ v1 2 v4) (fun x57 => B_Wo_init_63 k16 v0 v1 v2 v3 v4 s0 x57 μ) else B_Wo_init_63 k16 v0 v1 v2 v3 v4 s0 s0 μ) = some (r, μ') := h
  refine wm_istore (lv' := [(5, vI s0), (0, vR v0), (1, vR v1), (2, vI v2), (3, vI v3), (4, vI v4)]) E dWo_init_47 (by decide) rfl ?_
  refine wm_iload E dWo_init_49 (j := 0) rfl ?_
  refine wm_if_ne (tgt := 61) E dWo_init_51 (by decide) (fun c51 => ?_) (fun c51 => ?_)
  · have h := (if_neg c51).symm.trans h
    refine wm_iload E dWo_init_61 (j := 0) rfl ?_
    refine wm_pick (lv' := [(0, vR v0), (1, vR v1), (2, vI v2), (3, vI v3), (4, vI v4), (5, vI s0)]) [1, 2, 3, 4, 5, 0] rfl ?_
    exact w_Wo_init_63 E hQ hR hI k16 hk16 v0 v1 v2 v3 v4 s0 s0 μ h
  · have h := (if_pos c51).symm.trans h
    refine wm_aload_n E dWo_init_54 rfl (j := 2) rfl ?_
    refine wm_iload E dWo_init_55 (j := 5) rfl ?_
    refine wm_cald (t := 2) E rfl h dWo_init_57 (fun x57 h => ?_)
    refine wm_goto (tgt := 63) E dWo_init_58 (by decide) ?_
    refine wm_pick (lv' := [(0, vR v0), (1, vR v1), (2, vI v2), (3, vI v3), (4, vI v4), (5, vI s0)]) [1, 2, 3, 4, 5, 0] rfl ?_
    exact w_Wo_init_63 E hQ hR hI k16 hk16 v0 v1 v2 v3 v4 s0 x57 μ h
def B_Wo_init_16  : Nat → Option Nat → Option Nat → Int32 → Int32 → Int32 → Mem → Option (Unit × Mem)
  | 0, _, _, _, _, _, _ => none
  | n + 1, v0, v1, v2, v3, v4, μ => if v2 ≤ v4 then b1 (pV μ v0 10 1 (vI v3)) (fun m137 => some ((), m137)) else if v2 ≤ (v4 + 1) then B_Wo_init_47 (fun v0 v1 v2 v3 v4 μ => B_Wo_init_16 n v0 v1 v2 v3 v4 μ) v0 v1 v2 v3 v4 0 μ else b1 (aI μ v1 2 v4) (fun x33 => b1 (aI μ v1 2 (v4 + 1)) (fun x39 => b1 (S_Wo_joinedLetter x33 x39 μ) (fun x40 => B_Wo_init_47 (fun v0 v1 v2 v3 v4 μ => B_Wo_init_16 n v0 v1 v2 v3 v4 μ) v0 v1 v2 v3 v4 x40 μ)))
set_option maxHeartbeats 4000000 in
set_option maxRecDepth 100000 in
theorem w_Wo_init_16 {X : CX} (E : EV X prog_11_method_1_code 7 "PlaceFinder$Word" none) {μ0 μ' : Mem} {r : Unit} (hQ : RQ X 1 10 μ0 none μ') (hR : xR X = { frames := 1, cells := 1, slots := 10, locals := 60 }) (hI : X.2.2.2.2.2.2.2.2.2.2.2.1.name = "<init>")  (n : Nat) : ∀ (v0 : Option Nat) (v1 : Option Nat) (v2 : Int32) (v3 : Int32) (v4 : Int32) (μ : Mem) (h : B_Wo_init_16  n v0 v1 v2 v3 v4 μ = some (r, μ')), WM X 7 16 [(0, vR v0), (1, vR v1), (2, vI v2), (3, vI v3), (4, vI v4)] [] 1 10 μ := by
  induction n with
  | zero => intro v0 v1 v2 v3 v4 μ h; cases h
  | succ n ih =>
    intro v0 v1 v2 v3 v4 μ h
    have h : (if v2 ≤ v4 then b1 (pV μ v0 10 1 (vI v3)) (fun m137 => some ((), m137)) else if v2 ≤ (v4 + 1) then B_Wo_init_47 (fun v0 v1 v2 v3 v4 μ => B_Wo_init_16 n v0 v1 v2 v3 v4 μ) v0 v1 v2 v3 v4 0 μ else b1 (aI μ v1 2 v4) (fun x33 => b1 (aI μ v1 2 (v4 + 1)) (fun x39 => b1 (S_Wo_joinedLetter x33 x39 μ) (fun x40 => B_Wo_init_47 (fun v0 v1 v2 v3 v4 μ => B_Wo_init_16 n v0 v1 v2 v3 v4 μ) v0 v1 v2 v3 v4 x40 μ)))) = some (r, μ') := h
    refine wm_iload E dWo_init_16 (j := 4) rfl ?_
    refine wm_iload_n E dWo_init_18 rfl (j := 2) rfl ?_
    refine wm_icmp_ge (tgt := 135) E dWo_init_19 (by decide) (fun c19 => ?_) (fun c19 => ?_)
    · have h := (if_pos c19).symm.trans h
      refine wm_aload_n E dWo_init_135 rfl (j := 0) rfl ?_
      refine wm_iload_n E dWo_init_136 rfl (j := 3) rfl ?_
      refine wm_pI E fp_Wo_19 (fun _ => hI) h dWo_init_137 (fun m137 h => ?_)
      exact wm_vret E hQ rfl (rtM h) (by decide) (by decide) dWo_init_140
    · have h := (if_neg c19).symm.trans h
      refine wm_iload E dWo_init_22 (j := 4) rfl ?_
      refine wm_iconst (x := 1) E dWo_init_24 (by decide) ?_
      refine wm_iadd E dWo_init_25 ?_
      refine wm_iload_n E dWo_init_26 rfl (j := 2) rfl ?_
      refine wm_icmp_ge (tgt := 46) E dWo_init_27 (by decide) (fun c27 => ?_) (fun c27 => ?_)
      · have h := (if_pos c27).symm.trans h
        refine wm_iconst (x := 0) E dWo_init_46 (by decide) ?_
        refine wm_pick (lv' := [(0, vR v0), (1, vR v1), (2, vI v2), (3, vI v3), (4, vI v4)]) [0, 1, 2, 3, 4] rfl ?_
        exact w_Wo_init_47 E hQ hR hI (fun v0 v1 v2 v3 v4 μ => B_Wo_init_16 n v0 v1 v2 v3 v4 μ) ih v0 v1 v2 v3 v4 0 μ h
      · have h := (if_neg c27).symm.trans h
        refine wm_aload_n E dWo_init_30 rfl (j := 1) rfl ?_
        refine wm_iload E dWo_init_31 (j := 4) rfl ?_
        refine wm_cald (t := 2) E rfl h dWo_init_33 (fun x33 h => ?_)
        refine wm_aload_n E dWo_init_34 rfl (j := 1) rfl ?_
        refine wm_iload E dWo_init_35 (j := 4) rfl ?_
        refine wm_iconst (x := 1) E dWo_init_37 (by decide) ?_
        refine wm_iadd E dWo_init_38 ?_
        refine wm_cald (t := 2) E rfl h dWo_init_39 (fun x39 h => ?_)
        obtain ⟨x40, hc40, h⟩ := b1S h
        refine wm_cS (As := [vI x33, vI x39]) (st := []) E lk_Wo_15 sc_Wo_joinedLetter (C_Wo_joinedLetter (xl X) X.1 x33 x39 μ _ hc40) rfl rfl (by rw [hR]; decide) (by rw [hR]; decide) (Nat.le_of_ble_eq_true rfl) dWo_init_40 ?_
        refine wm_goto (tgt := 47) E dWo_init_43 (by decide) ?_
        refine wm_pick (lv' := [(0, vR v0), (1, vR v1), (2, vI v2), (3, vI v3), (4, vI v4)]) [0, 1, 2, 3, 4] rfl ?_
        exact w_Wo_init_47 E hQ hR hI (fun v0 v1 v2 v3 v4 μ => B_Wo_init_16 n v0 v1 v2 v3 v4 μ) ih v0 v1 v2 v3 v4 x40 μ h
def S_Wo_init (v0 : Option Nat) (v1 : Option Nat) (v2 : Int32) (μ : Mem) : Option (Unit × Mem) := b1 (rc μ v0 10) (fun _ => b2 (nI_ μ 2 v2 10) (fun x6 m6 => b1 (pV m6 v0 10 0 (vR x6)) (fun m8 => B_Wo_init_16 fu v0 v1 v2 0 0 m8)))
set_option maxHeartbeats 4000000 in
set_option maxRecDepth 100000 in
theorem C_Wo_init (l : Launch) (G : GG) (v0 : Option Nat) (v1 : Option Nat) (v2 : Int32) (μ μ' : Mem) (r : Unit) (h : S_Wo_init v0 v1 v2 μ = some (r, μ')) : CT l G y_Wo_init prog_11_method_1_code 7 none 1 1 10 60 μ [vR v0, vR v1, vI v2] none μ' := by
  refine wm_met (lv := [(0, vR v0), (1, vR v1), (2, vI v2)]) (by decide +kernel) (Nat.le_of_ble_eq_true rfl) rfl (fun X E hQ hR hI => ?_)
  have h : (b1 (rc μ v0 10) (fun _ => b2 (nI_ μ 2 v2 10) (fun x6 m6 => b1 (pV m6 v0 10 0 (vR x6)) (fun m8 => B_Wo_init_16 fu v0 v1 v2 0 0 m8)))) = some (r, μ') := h
  refine wm_aload_n E dWo_init_0 rfl (j := 0) rfl ?_
  obtain ⟨u1, hr1, h⟩ := b1S h
  refine wm_obj E hr1 oi_Wo_3 (by rw [hR]; decide) (by rw [hR]; decide) rfl dWo_init_1 ?_
  refine wm_aload_n E dWo_init_4 rfl (j := 0) rfl ?_
  refine wm_iload_n E dWo_init_5 rfl (j := 2) rfl ?_
  refine wm_newi (t := 2) (B := 10) E rfl rfl rfl ac_C h (by decide) (by rw [hR]; decide) (by rw [hR]; decide) dWo_init_6 (fun x6 m6 h => ?_)
  refine wm_pR E fp_Wo_9 (Or.inr ⟨_, rfl⟩) (fun _ => hI) h dWo_init_8 (fun m8 h => ?_)
  refine wm_iconst (x := 0) E dWo_init_11 (by decide) ?_
  refine wm_istore_n (lv' := [(3, vI 0), (0, vR v0), (1, vR v1), (2, vI v2)]) E dWo_init_12 rfl (by decide) rfl ?_
  refine wm_iconst (x := 0) E dWo_init_13 (by decide) ?_
  refine wm_istore (lv' := [(4, vI 0), (3, vI 0), (0, vR v0), (1, vR v1), (2, vI v2)]) E dWo_init_14 (by decide) rfl ?_
  refine wm_pick (lv' := [(0, vR v0), (1, vR v1), (2, vI v2), (3, vI 0), (4, vI 0)]) [2, 3, 4, 1, 0] rfl ?_
  exact w_Wo_init_16 E hQ hR hI fu v0 v1 v2 0 0 m8 h
def S_Cn_init (v0 : Option Nat) (v1 : Int32) (v2 : Int32) (v3 : Int32) (v4 : Int32) (v5 : Option Nat) (μ : Mem) : Option (Unit × Mem) := b1 (rc μ v0 1) (fun _ => b1 (pV μ v0 1 0 (vI v1)) (fun m6 => b1 (pV m6 v0 1 1 (vI v2)) (fun m11 => b1 (pV m11 v0 1 2 (vI v3)) (fun m16 => b1 (pV m16 v0 1 3 (vI v4)) (fun m22 => b1 (pV m22 v0 1 4 (vR v5)) (fun m28 => some ((), m28)))))))
set_option maxHeartbeats 4000000 in
set_option maxRecDepth 100000 in
theorem C_Cn_init (l : Launch) (G : GG) (v0 : Option Nat) (v1 : Int32) (v2 : Int32) (v3 : Int32) (v4 : Int32) (v5 : Option Nat) (μ μ' : Mem) (r : Unit) (h : S_Cn_init v0 v1 v2 v3 v4 v5 μ = some (r, μ')) : CT l G y_Cn_init prog_2_method_1_code 6 none 1 0 0 60 μ [vR v0, vI v1, vI v2, vI v3, vI v4, vR v5] none μ' := by
  refine wm_met (lv := [(0, vR v0), (1, vI v1), (2, vI v2), (3, vI v3), (4, vI v4), (5, vR v5)]) (by decide +kernel) (Nat.le_of_ble_eq_true rfl) rfl (fun X E hQ hR hI => ?_)
  have h : (b1 (rc μ v0 1) (fun _ => b1 (pV μ v0 1 0 (vI v1)) (fun m6 => b1 (pV m6 v0 1 1 (vI v2)) (fun m11 => b1 (pV m11 v0 1 2 (vI v3)) (fun m16 => b1 (pV m16 v0 1 3 (vI v4)) (fun m22 => b1 (pV m22 v0 1 4 (vR v5)) (fun m28 => some ((), m28)))))))) = some (r, μ') := h
  refine wm_aload_n E dCn_init_0 rfl (j := 0) rfl ?_
  obtain ⟨u1, hr1, h⟩ := b1S h
  refine wm_obj E hr1 oi_Cn_1 (by rw [hR]; decide) (by rw [hR]; decide) rfl dCn_init_1 ?_
  refine wm_aload_n E dCn_init_4 rfl (j := 0) rfl ?_
  refine wm_iload_n E dCn_init_5 rfl (j := 1) rfl ?_
  refine wm_pI E fp_Cn_7 (fun _ => hI) h dCn_init_6 (fun m6 h => ?_)
  refine wm_aload_n E dCn_init_9 rfl (j := 0) rfl ?_
  refine wm_iload_n E dCn_init_10 rfl (j := 2) rfl ?_
  refine wm_pI E fp_Cn_13 (fun _ => hI) h dCn_init_11 (fun m11 h => ?_)
  refine wm_aload_n E dCn_init_14 rfl (j := 0) rfl ?_
  refine wm_iload_n E dCn_init_15 rfl (j := 3) rfl ?_
  refine wm_pI E fp_Cn_16 (fun _ => hI) h dCn_init_16 (fun m16 h => ?_)
  refine wm_aload_n E dCn_init_19 rfl (j := 0) rfl ?_
  refine wm_iload E dCn_init_20 (j := 4) rfl ?_
  refine wm_pI E fp_Cn_19 (fun _ => hI) h dCn_init_22 (fun m22 h => ?_)
  refine wm_aload_n E dCn_init_25 rfl (j := 0) rfl ?_
  refine wm_aload E dCn_init_26 (j := 5) rfl ?_
  refine wm_pR E fp_Cn_22 (Or.inl ⟨_, rfl⟩) (fun _ => hI) h dCn_init_28 (fun m28 h => ?_)
  exact wm_vret E hQ rfl (rtM h) (by decide) (by decide) dCn_init_31
def S_P_init (v0 : Option Nat) (μ : Mem) : Option (Unit × Mem) := b1 (rc μ v0 11) (fun _ => b2 (nO μ 0 [.null, .int 0, .int 0]) (fun x5 m5 => b1 (rc m5 x5 0) (fun _ => b2 (S_Al_init x5 m5) (fun x9 m9 => b1 (pV m9 v0 11 0 (vR x5)) (fun m12 => b2 (nI_ m12 0 8 8) (fun x18 m18 => b1 (pV m18 v0 11 1 (vR x18)) (fun m20 => b2 (nI_ m20 0 8 8) (fun x26 m26 => b1 (pV m26 v0 11 2 (vR x26)) (fun m28 => b1 (pV m28 v0 11 3 (vI 0)) (fun m33 => b2 (nO m33 2 [.int 0, .null, .null]) (fun x37 m37 => b2 (nI_ m37 0 0 0) (fun x42 m42 => b2 (nI_ m42 0 0 0) (fun x45 m45 => b1 (rc m45 x37 2) (fun _ => b2 (S_Co_init x37 x42 x45 0 m45) (fun x48 m48 => b1 (pV m48 v0 11 4 (vR x37)) (fun m51 => b2 (nI_ m51 2 10 10) (fun x57 m57 => b1 (pV m57 v0 11 5 (vR x57)) (fun m59 => b1 (pV m59 v0 11 6 (vI 0)) (fun m64 => b2 (nO m64 0 [.null, .int 0, .int 0]) (fun x68 m68 => b1 (rc m68 x68 0) (fun _ => b2 (S_Al_init x68 m68) (fun x72 m72 => b1 (pV m72 v0 11 7 (vR x68)) (fun m75 => b2 (nR_ m75 5 4 4) (fun x80 m80 => b1 (pV m80 v0 11 8 (vR x80)) (fun m83 => b2 (nO m83 4 [.null, .null, .int 0]) (fun x87 m87 => b1 (rc m87 x87 4) (fun _ => b2 (S_Hi_init x87 m87) (fun x91 m91 => b1 (pV m91 v0 11 9 (vR x87)) (fun m94 => b2 (nO m94 3 [.null]) (fun x98 m98 => b1 (rc m98 x98 3) (fun _ => b2 (S_Ec_init x98 m98) (fun x102 m102 => b1 (pV m102 v0 11 10 (vR x98)) (fun m105 => b2 (nO m105 8 [.int 0, .int 0, .int 0, .long 0, .long 0, .long 0]) (fun x109 m109 => b1 (rc m109 x109 8) (fun _ => b2 (S_Rs_init x109 m109) (fun x113 m113 => b1 (pV m113 v0 11 11 (vR x109)) (fun m116 => b2 (nO m116 1 [.int 0, .int 0, .int 0, .int 0, .null]) (fun x120 m120 => b2 (nO m120 10 [.null, .int 0]) (fun x128 m128 => b2 (nI_ m128 2 0 0) (fun x133 m133 => b1 (rc m133 x128 10) (fun _ => b2 (S_Wo_init x128 x133 0 m133) (fun x136 m136 => b1 (rc m136 x120 1) (fun _ => b2 (S_Cn_init x120 1 0 0 0 x128 m136) (fun x139 m139 => b1 (pV m139 v0 11 12 (vR x120)) (fun m142 => some ((), m142))))))))))))))))))))))))))))))))))))))))))))))
set_option maxHeartbeats 4000000 in
set_option maxRecDepth 100000 in
theorem C_P_init (l : Launch) (G : GG) (v0 : Option Nat) (μ μ' : Mem) (r : Unit) (h : S_P_init v0 μ = some (r, μ')) : CT l G y_P_init prog_1_method_1_code 1 none 4 32 274 120 μ [vR v0] none μ' := by
  refine wm_met (lv := [(0, vR v0)]) (by decide +kernel) (Nat.le_of_ble_eq_true rfl) rfl (fun X E hQ hR hI => ?_)
  have h : (b1 (rc μ v0 11) (fun _ => b2 (nO μ 0 [.null, .int 0, .int 0]) (fun x5 m5 => b1 (rc m5 x5 0) (fun _ => b2 (S_Al_init x5 m5) (fun x9 m9 => b1 (pV m9 v0 11 0 (vR x5)) (fun m12 => b2 (nI_ m12 0 8 8) (fun x18 m18 => b1 (pV m18 v0 11 1 (vR x18)) (fun m20 => b2 (nI_ m20 0 8 8) (fun x26 m26 => b1 (pV m26 v0 11 2 (vR x26)) (fun m28 => b1 (pV m28 v0 11 3 (vI 0)) (fun m33 => b2 (nO m33 2 [.int 0, .null, .null]) (fun x37 m37 => b2 (nI_ m37 0 0 0) (fun x42 m42 => b2 (nI_ m42 0 0 0) (fun x45 m45 => b1 (rc m45 x37 2) (fun _ => b2 (S_Co_init x37 x42 x45 0 m45) (fun x48 m48 => b1 (pV m48 v0 11 4 (vR x37)) (fun m51 => b2 (nI_ m51 2 10 10) (fun x57 m57 => b1 (pV m57 v0 11 5 (vR x57)) (fun m59 => b1 (pV m59 v0 11 6 (vI 0)) (fun m64 => b2 (nO m64 0 [.null, .int 0, .int 0]) (fun x68 m68 => b1 (rc m68 x68 0) (fun _ => b2 (S_Al_init x68 m68) (fun x72 m72 => b1 (pV m72 v0 11 7 (vR x68)) (fun m75 => b2 (nR_ m75 5 4 4) (fun x80 m80 => b1 (pV m80 v0 11 8 (vR x80)) (fun m83 => b2 (nO m83 4 [.null, .null, .int 0]) (fun x87 m87 => b1 (rc m87 x87 4) (fun _ => b2 (S_Hi_init x87 m87) (fun x91 m91 => b1 (pV m91 v0 11 9 (vR x87)) (fun m94 => b2 (nO m94 3 [.null]) (fun x98 m98 => b1 (rc m98 x98 3) (fun _ => b2 (S_Ec_init x98 m98) (fun x102 m102 => b1 (pV m102 v0 11 10 (vR x98)) (fun m105 => b2 (nO m105 8 [.int 0, .int 0, .int 0, .long 0, .long 0, .long 0]) (fun x109 m109 => b1 (rc m109 x109 8) (fun _ => b2 (S_Rs_init x109 m109) (fun x113 m113 => b1 (pV m113 v0 11 11 (vR x109)) (fun m116 => b2 (nO m116 1 [.int 0, .int 0, .int 0, .int 0, .null]) (fun x120 m120 => b2 (nO m120 10 [.null, .int 0]) (fun x128 m128 => b2 (nI_ m128 2 0 0) (fun x133 m133 => b1 (rc m133 x128 10) (fun _ => b2 (S_Wo_init x128 x133 0 m133) (fun x136 m136 => b1 (rc m136 x120 1) (fun _ => b2 (S_Cn_init x120 1 0 0 0 x128 m136) (fun x139 m139 => b1 (pV m139 v0 11 12 (vR x120)) (fun m142 => some ((), m142))))))))))))))))))))))))))))))))))))))))))))))) = some (r, μ') := h
  refine wm_aload_n E dP_init_0 rfl (j := 0) rfl ?_
  obtain ⟨u1, hr1, h⟩ := b1S h
  refine wm_obj E hr1 oi_P_1 (by rw [hR]; decide) (by rw [hR]; decide) rfl dP_init_1 ?_
  refine wm_aload_n E dP_init_4 rfl (j := 0) rfl ?_
  refine wm_new E nd_P_7 h (by rw [hR]; decide) (by rw [hR]; decide) dP_init_5 (fun x5 m5 h => ?_)
  refine wm_dup E dP_init_8 rfl ?_
  obtain ⟨u9, hr9, h⟩ := b1S h
  obtain ⟨x9, m9, hc9, h⟩ := b2S h
  refine wm_cI (ci := 0) (As := []) (st := [vR x5, vR v0]) E lk_P_9 rfl rfl im_Al_init hr9 (C_Al_init (xl X) X.1 x5 m5 _ _ hc9) rfl rfl (by rw [hR]; decide) (by rw [hR]; decide) (Nat.le_of_ble_eq_true rfl) dP_init_9 ?_
  refine wm_pR E fp_P_10 (Or.inl ⟨_, rfl⟩) (fun _ => hI) h dP_init_12 (fun m12 h => ?_)
  refine wm_aload_n E dP_init_15 rfl (j := 0) rfl ?_
  refine wm_bipush (x := 8) E dP_init_16 (by decide) ?_
  refine wm_newi (t := 0) (B := 8) E rfl rfl rfl ac_I h (by decide) (by rw [hR]; decide) (by rw [hR]; decide) dP_init_18 (fun x18 m18 h => ?_)
  refine wm_pR E fp_P_16 (Or.inr ⟨_, rfl⟩) (fun _ => hI) h dP_init_20 (fun m20 h => ?_)
  refine wm_aload_n E dP_init_23 rfl (j := 0) rfl ?_
  refine wm_bipush (x := 8) E dP_init_24 (by decide) ?_
  refine wm_newi (t := 0) (B := 8) E rfl rfl rfl ac_I h (by decide) (by rw [hR]; decide) (by rw [hR]; decide) dP_init_26 (fun x26 m26 h => ?_)
  refine wm_pR E fp_P_20 (Or.inr ⟨_, rfl⟩) (fun _ => hI) h dP_init_28 (fun m28 h => ?_)
  refine wm_aload_n E dP_init_31 rfl (j := 0) rfl ?_
  refine wm_iconst (x := 0) E dP_init_32 (by decide) ?_
  refine wm_pI E fp_P_23 (fun q => by cases q) h dP_init_33 (fun m33 h => ?_)
  refine wm_aload_n E dP_init_36 rfl (j := 0) rfl ?_
  refine wm_new E nd_P_27 h (by rw [hR]; decide) (by rw [hR]; decide) dP_init_37 (fun x37 m37 h => ?_)
  refine wm_dup E dP_init_40 rfl ?_
  refine wm_iconst (x := 0) E dP_init_41 (by decide) ?_
  refine wm_newi (t := 0) (B := 0) E rfl rfl rfl ac_I h (by decide) (by rw [hR]; decide) (by rw [hR]; decide) dP_init_42 (fun x42 m42 h => ?_)
  refine wm_iconst (x := 0) E dP_init_44 (by decide) ?_
  refine wm_newi (t := 0) (B := 0) E rfl rfl rfl ac_I h (by decide) (by rw [hR]; decide) (by rw [hR]; decide) dP_init_45 (fun x45 m45 h => ?_)
  refine wm_iconst (x := 0) E dP_init_47 (by decide) ?_
  obtain ⟨u48, hr48, h⟩ := b1S h
  obtain ⟨x48, m48, hc48, h⟩ := b2S h
  refine wm_cI (ci := 2) (As := [vR x42, vR x45, vI 0]) (st := [vR x37, vR v0]) E lk_P_29 rfl rfl im_Co_init hr48 (C_Co_init (xl X) X.1 x37 x42 x45 0 m45 _ _ hc48) rfl rfl (by rw [hR]; decide) (by rw [hR]; decide) (Nat.le_of_ble_eq_true rfl) dP_init_48 ?_
  refine wm_pR E fp_P_32 (Or.inl ⟨_, rfl⟩) (fun q => by cases q) h dP_init_51 (fun m51 h => ?_)
  refine wm_aload_n E dP_init_54 rfl (j := 0) rfl ?_
  refine wm_bipush (x := 10) E dP_init_55 (by decide) ?_
  refine wm_newi (t := 2) (B := 10) E rfl rfl rfl ac_C h (by decide) (by rw [hR]; decide) (by rw [hR]; decide) dP_init_57 (fun x57 m57 h => ?_)
  refine wm_pR E fp_P_36 (Or.inr ⟨_, rfl⟩) (fun _ => hI) h dP_init_59 (fun m59 h => ?_)
  refine wm_aload_n E dP_init_62 rfl (j := 0) rfl ?_
  refine wm_iconst (x := 0) E dP_init_63 (by decide) ?_
  refine wm_pI E fp_P_40 (fun q => by cases q) h dP_init_64 (fun m64 h => ?_)
  refine wm_aload_n E dP_init_67 rfl (j := 0) rfl ?_
  refine wm_new E nd_P_7 h (by rw [hR]; decide) (by rw [hR]; decide) dP_init_68 (fun x68 m68 h => ?_)
  refine wm_dup E dP_init_71 rfl ?_
  obtain ⟨u72, hr72, h⟩ := b1S h
  obtain ⟨x72, m72, hc72, h⟩ := b2S h
  refine wm_cI (ci := 0) (As := []) (st := [vR x68, vR v0]) E lk_P_9 rfl rfl im_Al_init hr72 (C_Al_init (xl X) X.1 x68 m68 _ _ hc72) rfl rfl (by rw [hR]; decide) (by rw [hR]; decide) (Nat.le_of_ble_eq_true rfl) dP_init_72 ?_
  refine wm_pR E fp_P_43 (Or.inl ⟨_, rfl⟩) (fun _ => hI) h dP_init_75 (fun m75 h => ?_)
  refine wm_aload_n E dP_init_78 rfl (j := 0) rfl ?_
  refine wm_iconst (x := 4) E dP_init_79 (by decide) ?_
  refine wm_newr (t := 5) (B := 4) E rfl cl_P_46 ao_Wa h (by decide) (by rw [hR]; decide) (by rw [hR]; decide) dP_init_80 (fun x80 m80 h => ?_)
  refine wm_pR E fp_P_48 (Or.inr ⟨_, rfl⟩) (fun _ => hI) h dP_init_83 (fun m83 h => ?_)
  refine wm_aload_n E dP_init_86 rfl (j := 0) rfl ?_
  refine wm_new E nd_P_52 h (by rw [hR]; decide) (by rw [hR]; decide) dP_init_87 (fun x87 m87 h => ?_)
  refine wm_dup E dP_init_90 rfl ?_
  obtain ⟨u91, hr91, h⟩ := b1S h
  obtain ⟨x91, m91, hc91, h⟩ := b2S h
  refine wm_cI (ci := 4) (As := []) (st := [vR x87, vR v0]) E lk_P_54 rfl rfl im_Hi_init hr91 (C_Hi_init (xl X) X.1 x87 m87 _ _ hc91) rfl rfl (by rw [hR]; decide) (by rw [hR]; decide) (Nat.le_of_ble_eq_true rfl) dP_init_91 ?_
  refine wm_pR E fp_P_55 (Or.inl ⟨_, rfl⟩) (fun _ => hI) h dP_init_94 (fun m94 h => ?_)
  refine wm_aload_n E dP_init_97 rfl (j := 0) rfl ?_
  refine wm_new E nd_P_59 h (by rw [hR]; decide) (by rw [hR]; decide) dP_init_98 (fun x98 m98 h => ?_)
  refine wm_dup E dP_init_101 rfl ?_
  obtain ⟨u102, hr102, h⟩ := b1S h
  obtain ⟨x102, m102, hc102, h⟩ := b2S h
  refine wm_cI (ci := 3) (As := []) (st := [vR x98, vR v0]) E lk_P_61 rfl rfl im_Ec_init hr102 (C_Ec_init (xl X) X.1 x98 m98 _ _ hc102) rfl rfl (by rw [hR]; decide) (by rw [hR]; decide) (Nat.le_of_ble_eq_true rfl) dP_init_102 ?_
  refine wm_pR E fp_P_62 (Or.inl ⟨_, rfl⟩) (fun _ => hI) h dP_init_105 (fun m105 h => ?_)
  refine wm_aload_n E dP_init_108 rfl (j := 0) rfl ?_
  refine wm_new E nd_P_66 h (by rw [hR]; decide) (by rw [hR]; decide) dP_init_109 (fun x109 m109 h => ?_)
  refine wm_dup E dP_init_112 rfl ?_
  obtain ⟨u113, hr113, h⟩ := b1S h
  obtain ⟨x113, m113, hc113, h⟩ := b2S h
  refine wm_cI (ci := 8) (As := []) (st := [vR x109, vR v0]) E lk_P_68 rfl rfl im_Rs_init hr113 (C_Rs_init (xl X) X.1 x109 m109 _ _ hc113) rfl rfl (by rw [hR]; decide) (by rw [hR]; decide) (Nat.le_of_ble_eq_true rfl) dP_init_113 ?_
  refine wm_pR E fp_P_69 (Or.inl ⟨_, rfl⟩) (fun _ => hI) h dP_init_116 (fun m116 h => ?_)
  refine wm_aload_n E dP_init_119 rfl (j := 0) rfl ?_
  refine wm_new E nd_P_73 h (by rw [hR]; decide) (by rw [hR]; decide) dP_init_120 (fun x120 m120 h => ?_)
  refine wm_dup E dP_init_123 rfl ?_
  refine wm_iconst (x := 1) E dP_init_124 (by decide) ?_
  refine wm_iconst (x := 0) E dP_init_125 (by decide) ?_
  refine wm_iconst (x := 0) E dP_init_126 (by decide) ?_
  refine wm_iconst (x := 0) E dP_init_127 (by decide) ?_
  refine wm_new E nd_P_75 h (by rw [hR]; decide) (by rw [hR]; decide) dP_init_128 (fun x128 m128 h => ?_)
  refine wm_dup E dP_init_131 rfl ?_
  refine wm_iconst (x := 0) E dP_init_132 (by decide) ?_
  refine wm_newi (t := 2) (B := 0) E rfl rfl rfl ac_C h (by decide) (by rw [hR]; decide) (by rw [hR]; decide) dP_init_133 (fun x133 m133 h => ?_)
  refine wm_iconst (x := 0) E dP_init_135 (by decide) ?_
  obtain ⟨u136, hr136, h⟩ := b1S h
  obtain ⟨x136, m136, hc136, h⟩ := b2S h
  refine wm_cI (ci := 10) (As := [vR x133, vI 0]) (st := [vR x128, vI 0, vI 0, vI 0, vI 1, vR x120, vR x120, vR v0]) E lk_P_77 rfl rfl im_Wo_init hr136 (C_Wo_init (xl X) X.1 x128 x133 0 m133 _ _ hc136) rfl rfl (by rw [hR]; decide) (by rw [hR]; decide) (Nat.le_of_ble_eq_true rfl) dP_init_136 ?_
  obtain ⟨u139, hr139, h⟩ := b1S h
  obtain ⟨x139, m139, hc139, h⟩ := b2S h
  refine wm_cI (ci := 1) (As := [vI 1, vI 0, vI 0, vI 0, vR x128]) (st := [vR x120, vR v0]) E lk_P_80 rfl rfl im_Cn_init hr139 (C_Cn_init (xl X) X.1 x120 1 0 0 0 x128 m136 _ _ hc139) rfl rfl (by rw [hR]; decide) (by rw [hR]; decide) (Nat.le_of_ble_eq_true rfl) dP_init_139 ?_
  refine wm_pR E fp_P_83 (Or.inl ⟨_, rfl⟩) (fun _ => hI) h dP_init_142 (fun m142 h => ?_)
  exact wm_vret E hQ rfl (rtM h) (by decide) (by decide) dP_init_145
def B_P_isKind_15 (μ : Mem)   (s0 : Int32) : Option Int32 := gd (¬ okZ s0 = true) (some (s0))
set_option maxHeartbeats 4000000 in
set_option maxRecDepth 100000 in
theorem w_P_isKind_15 {X : CX} (E : EV X prog_1_method_22_code 1 "PlaceFinder" (some .boolean)) {μ0 μ : Mem} {r : Int32} (hQ : RQ X 0 0 μ0 (some (vI r)) μ) (hR : xR X = { frames := 0, cells := 0, slots := 0, locals := 0 }) (hI : X.2.2.2.2.2.2.2.2.2.2.2.1.name = "isKind")  (s0 : Int32) (h : B_P_isKind_15 μ  s0 = some r) : WM X 1 15 [] [vI s0] 0 0 μ := by
  have h : (gd (¬ okZ s0 = true) (some (s0))) = some r := h
  obtain ⟨hz15, h⟩ := gdS h
  exact wm_zret (rt := .boolean) E hQ (rqI1 h) rfl (okZN hz15) (by decide) (by decide) dP_isKind_15
def B_P_isKind_14 (μ : Mem)    : Option Int32 := B_P_isKind_15 μ 0
set_option maxHeartbeats 4000000 in
set_option maxRecDepth 100000 in
theorem w_P_isKind_14 {X : CX} (E : EV X prog_1_method_22_code 1 "PlaceFinder" (some .boolean)) {μ0 μ : Mem} {r : Int32} (hQ : RQ X 0 0 μ0 (some (vI r)) μ) (hR : xR X = { frames := 0, cells := 0, slots := 0, locals := 0 }) (hI : X.2.2.2.2.2.2.2.2.2.2.2.1.name = "isKind")   (h : B_P_isKind_14 μ   = some r) : WM X 1 14 [] [] 0 0 μ := by
  have h : (B_P_isKind_15 μ 0) = some r := h
  refine wm_iconst (x := 0) E dP_isKind_14 (by decide) ?_
  refine wm_pick (lv' := []) [] rfl ?_
  exact w_P_isKind_15 E hQ hR hI 0 h
def S_P_isKind (v0 : Int32) (μ : Mem) : Option Int32 := if v0 < 0 then B_P_isKind_14 μ  else if 7 < v0 then B_P_isKind_14 μ  else B_P_isKind_15 μ 1
set_option maxHeartbeats 4000000 in
set_option maxRecDepth 100000 in
theorem C_P_isKind (l : Launch) (G : GG) (v0 : Int32) (μ : Mem) (r : Int32) (h : S_P_isKind v0 μ = some r) : CT l G y_P_isKind prog_1_method_22_code 1 (some .boolean) 0 0 0 0 μ [vI v0] (some (vI r)) μ := by
  refine wm_met (lv := [(0, vI v0)]) (by decide +kernel) (Nat.le_of_ble_eq_true rfl) rfl (fun X E hQ hR hI => ?_)
  have h : (if v0 < 0 then B_P_isKind_14 μ  else if 7 < v0 then B_P_isKind_14 μ  else B_P_isKind_15 μ 1) = some r := h
  refine wm_iload_n E dP_isKind_0 rfl (j := 0) rfl ?_
  refine wm_if_lt (tgt := 14) E dP_isKind_1 (by decide) (fun c1 => ?_) (fun c1 => ?_)
  · have h := (if_pos c1).symm.trans h
    refine wm_pick (lv' := []) [] rfl ?_
    exact w_P_isKind_14 E hQ hR hI  h
  · have h := (if_neg c1).symm.trans h
    refine wm_iload_n E dP_isKind_4 rfl (j := 0) rfl ?_
    refine wm_bipush (x := 7) E dP_isKind_5 (by decide) ?_
    refine wm_icmp_gt (tgt := 14) E dP_isKind_7 (by decide) (fun c7 => ?_) (fun c7 => ?_)
    · have h := (if_pos c7).symm.trans h
      refine wm_pick (lv' := []) [] rfl ?_
      exact w_P_isKind_14 E hQ hR hI  h
    · have h := (if_neg c7).symm.trans h
      refine wm_iconst (x := 1) E dP_isKind_10 (by decide) ?_
      refine wm_goto (tgt := 15) E dP_isKind_11 (by decide) ?_
      refine wm_pick (lv' := []) [] rfl ?_
      exact w_P_isKind_15 E hQ hR hI 1 h
def S_Al_size (v0 : Option Nat) (μ : Mem) : Option Int32 := b1 (gI μ v0 0 1) (fun x1 => some (x1))
set_option maxHeartbeats 4000000 in
set_option maxRecDepth 100000 in
theorem C_Al_size (l : Launch) (G : GG) (v0 : Option Nat) (μ : Mem) (r : Int32) (h : S_Al_size v0 μ = some r) : CT l G y_Al_size prog_33_method_8_code 1 (some .int) 0 0 0 0 μ [vR v0] (some (vI r)) μ := by
  refine wm_met (lv := [(0, vR v0)]) (by decide +kernel) (Nat.le_of_ble_eq_true rfl) rfl (fun X E hQ hR hI => ?_)
  have h : (b1 (gI μ v0 0 1) (fun x1 => some (x1))) = some r := h
  refine wm_aload_n E dAl_size_0 rfl (j := 0) rfl ?_
  refine wm_gI E fd_Al_48 h dAl_size_1 (fun x1 h => ?_)
  exact wm_iret (rt := .int) E hQ (rqI1 h) rfl (by decide) (by decide) dAl_size_4
def S_Pl_init (v0 : Option Nat) (v1 : Int32) (v2 : Int32) (μ : Mem) : Option (Unit × Mem) := b1 (rc μ v0 7) (fun _ => b1 (pV μ v0 7 2 (vI 10000)) (fun m8 => b2 (nO m8 0 [.null, .int 0, .int 0]) (fun x12 m12 => b1 (rc m12 x12 0) (fun _ => b2 (S_Al_init x12 m12) (fun x16 m16 => b1 (pV m16 v0 7 3 (vR x12)) (fun m19 => b2 (nI_ m19 0 3 3) (fun x24 m24 => b1 (pV m24 v0 7 4 (vR x24)) (fun m26 => b2 (nO m26 0 [.null, .int 0, .int 0]) (fun x30 m30 => b1 (rc m30 x30 0) (fun _ => b2 (S_Al_init x30 m30) (fun x34 m34 => b1 (pV m34 v0 7 5 (vR x30)) (fun m37 => b2 (nO m37 0 [.null, .int 0, .int 0]) (fun x41 m41 => b1 (rc m41 x41 0) (fun _ => b2 (S_Al_init x41 m41) (fun x45 m45 => b1 (pV m45 v0 7 6 (vR x41)) (fun m48 => b1 (pV m48 v0 7 0 (vI v1)) (fun m53 => b1 (pV m53 v0 7 1 (vI v2)) (fun m58 => some ((), m58)))))))))))))))))))
set_option maxHeartbeats 4000000 in
set_option maxRecDepth 100000 in
theorem C_Pl_init (l : Launch) (G : GG) (v0 : Option Nat) (v1 : Int32) (v2 : Int32) (μ μ' : Mem) (r : Unit) (h : S_Pl_init v0 v1 v2 μ = some (r, μ')) : CT l G y_Pl_init prog_8_method_1_code 3 none 4 4 12 120 μ [vR v0, vI v1, vI v2] none μ' := by
  refine wm_met (lv := [(0, vR v0), (1, vI v1), (2, vI v2)]) (by decide +kernel) (Nat.le_of_ble_eq_true rfl) rfl (fun X E hQ hR hI => ?_)
  have h : (b1 (rc μ v0 7) (fun _ => b1 (pV μ v0 7 2 (vI 10000)) (fun m8 => b2 (nO m8 0 [.null, .int 0, .int 0]) (fun x12 m12 => b1 (rc m12 x12 0) (fun _ => b2 (S_Al_init x12 m12) (fun x16 m16 => b1 (pV m16 v0 7 3 (vR x12)) (fun m19 => b2 (nI_ m19 0 3 3) (fun x24 m24 => b1 (pV m24 v0 7 4 (vR x24)) (fun m26 => b2 (nO m26 0 [.null, .int 0, .int 0]) (fun x30 m30 => b1 (rc m30 x30 0) (fun _ => b2 (S_Al_init x30 m30) (fun x34 m34 => b1 (pV m34 v0 7 5 (vR x30)) (fun m37 => b2 (nO m37 0 [.null, .int 0, .int 0]) (fun x41 m41 => b1 (rc m41 x41 0) (fun _ => b2 (S_Al_init x41 m41) (fun x45 m45 => b1 (pV m45 v0 7 6 (vR x41)) (fun m48 => b1 (pV m48 v0 7 0 (vI v1)) (fun m53 => b1 (pV m53 v0 7 1 (vI v2)) (fun m58 => some ((), m58)))))))))))))))))))) = some (r, μ') := h
  refine wm_aload_n E dPl_init_0 rfl (j := 0) rfl ?_
  obtain ⟨u1, hr1, h⟩ := b1S h
  refine wm_obj E hr1 oi_Pl_3 (by rw [hR]; decide) (by rw [hR]; decide) rfl dPl_init_1 ?_
  refine wm_aload_n E dPl_init_4 rfl (j := 0) rfl ?_
  refine wm_sipush (x := 10000) E dPl_init_5 (by decide) ?_
  refine wm_pI E fp_Pl_9 (fun q => by cases q) h dPl_init_8 (fun m8 h => ?_)
  refine wm_aload_n E dPl_init_11 rfl (j := 0) rfl ?_
  refine wm_new E nd_Pl_15 h (by rw [hR]; decide) (by rw [hR]; decide) dPl_init_12 (fun x12 m12 h => ?_)
  refine wm_dup E dPl_init_15 rfl ?_
  obtain ⟨u16, hr16, h⟩ := b1S h
  obtain ⟨x16, m16, hc16, h⟩ := b2S h
  refine wm_cI (ci := 0) (As := []) (st := [vR x12, vR v0]) E lk_Pl_17 rfl rfl im_Al_init hr16 (C_Al_init (xl X) X.1 x12 m12 _ _ hc16) rfl rfl (by rw [hR]; decide) (by rw [hR]; decide) (Nat.le_of_ble_eq_true rfl) dPl_init_16 ?_
  refine wm_pR E fp_Pl_18 (Or.inl ⟨_, rfl⟩) (fun _ => hI) h dPl_init_19 (fun m19 h => ?_)
  refine wm_aload_n E dPl_init_22 rfl (j := 0) rfl ?_
  refine wm_iconst (x := 3) E dPl_init_23 (by decide) ?_
  refine wm_newi (t := 0) (B := 3) E rfl rfl rfl ac_I h (by decide) (by rw [hR]; decide) (by rw [hR]; decide) dPl_init_24 (fun x24 m24 h => ?_)
  refine wm_pR E fp_Pl_22 (Or.inr ⟨_, rfl⟩) (fun _ => hI) h dPl_init_26 (fun m26 h => ?_)
  refine wm_aload_n E dPl_init_29 rfl (j := 0) rfl ?_
  refine wm_new E nd_Pl_15 h (by rw [hR]; decide) (by rw [hR]; decide) dPl_init_30 (fun x30 m30 h => ?_)
  refine wm_dup E dPl_init_33 rfl ?_
  obtain ⟨u34, hr34, h⟩ := b1S h
  obtain ⟨x34, m34, hc34, h⟩ := b2S h
  refine wm_cI (ci := 0) (As := []) (st := [vR x30, vR v0]) E lk_Pl_17 rfl rfl im_Al_init hr34 (C_Al_init (xl X) X.1 x30 m30 _ _ hc34) rfl rfl (by rw [hR]; decide) (by rw [hR]; decide) (Nat.le_of_ble_eq_true rfl) dPl_init_34 ?_
  refine wm_pR E fp_Pl_26 (Or.inl ⟨_, rfl⟩) (fun _ => hI) h dPl_init_37 (fun m37 h => ?_)
  refine wm_aload_n E dPl_init_40 rfl (j := 0) rfl ?_
  refine wm_new E nd_Pl_15 h (by rw [hR]; decide) (by rw [hR]; decide) dPl_init_41 (fun x41 m41 h => ?_)
  refine wm_dup E dPl_init_44 rfl ?_
  obtain ⟨u45, hr45, h⟩ := b1S h
  obtain ⟨x45, m45, hc45, h⟩ := b2S h
  refine wm_cI (ci := 0) (As := []) (st := [vR x41, vR v0]) E lk_Pl_17 rfl rfl im_Al_init hr45 (C_Al_init (xl X) X.1 x41 m41 _ _ hc45) rfl rfl (by rw [hR]; decide) (by rw [hR]; decide) (Nat.le_of_ble_eq_true rfl) dPl_init_45 ?_
  refine wm_pR E fp_Pl_29 (Or.inl ⟨_, rfl⟩) (fun _ => hI) h dPl_init_48 (fun m48 h => ?_)
  refine wm_aload_n E dPl_init_51 rfl (j := 0) rfl ?_
  refine wm_iload_n E dPl_init_52 rfl (j := 1) rfl ?_
  refine wm_pI E fp_Pl_32 (fun _ => hI) h dPl_init_53 (fun m53 h => ?_)
  refine wm_aload_n E dPl_init_56 rfl (j := 0) rfl ?_
  refine wm_iload_n E dPl_init_57 rfl (j := 2) rfl ?_
  refine wm_pI E fp_Pl_35 (fun _ => hI) h dPl_init_58 (fun m58 h => ?_)
  exact wm_vret E hQ rfl (rtM h) (by decide) (by decide) dPl_init_61
def B_Ma_max_10 (μ : Mem)   (s0 : Int32) : Option Int32 := some (s0)
set_option maxHeartbeats 4000000 in
set_option maxRecDepth 100000 in
theorem w_Ma_max_10 {X : CX} (E : EV X prog_23_method_65_code 2 "java/lang/Math" (some .int)) {μ0 μ : Mem} {r : Int32} (hQ : RQ X 0 0 μ0 (some (vI r)) μ) (hR : xR X = { frames := 0, cells := 0, slots := 0, locals := 0 }) (hI : X.2.2.2.2.2.2.2.2.2.2.2.1.name = "max")  (s0 : Int32) (h : B_Ma_max_10 μ  s0 = some r) : WM X 2 10 [] [vI s0] 0 0 μ := by
  have h : (some (s0)) = some r := h
  exact wm_iret (rt := .int) E hQ (rqI1 h) rfl (by decide) (by decide) dMa_max_10
def S_Ma_max (v0 : Int32) (v1 : Int32) (μ : Mem) : Option Int32 := if v0 < v1 then B_Ma_max_10 μ v1 else B_Ma_max_10 μ v0
set_option maxHeartbeats 4000000 in
set_option maxRecDepth 100000 in
theorem C_Ma_max (l : Launch) (G : GG) (v0 : Int32) (v1 : Int32) (μ : Mem) (r : Int32) (h : S_Ma_max v0 v1 μ = some r) : CT l G y_Ma_max prog_23_method_65_code 2 (some .int) 0 0 0 0 μ [vI v0, vI v1] (some (vI r)) μ := by
  refine wm_met (lv := [(0, vI v0), (1, vI v1)]) (by decide +kernel) (Nat.le_of_ble_eq_true rfl) rfl (fun X E hQ hR hI => ?_)
  have h : (if v0 < v1 then B_Ma_max_10 μ v1 else B_Ma_max_10 μ v0) = some r := h
  refine wm_iload_n E dMa_max_0 rfl (j := 0) rfl ?_
  refine wm_iload_n E dMa_max_1 rfl (j := 1) rfl ?_
  refine wm_icmp_lt (tgt := 9) E dMa_max_2 (by decide) (fun c2 => ?_) (fun c2 => ?_)
  · have h := (if_pos c2).symm.trans h
    refine wm_iload_n E dMa_max_9 rfl (j := 1) rfl ?_
    refine wm_pick (lv' := []) [] rfl ?_
    exact w_Ma_max_10 E hQ hR hI v1 h
  · have h := (if_neg c2).symm.trans h
    refine wm_iload_n E dMa_max_5 rfl (j := 0) rfl ?_
    refine wm_goto (tgt := 10) E dMa_max_6 (by decide) ?_
    refine wm_pick (lv' := []) [] rfl ?_
    exact w_Ma_max_10 E hQ hR hI v0 h
def S_Su_newLength (v0 : Int32) (v1 : Int32) (v2 : Int32) (μ : Mem) : Option Int32 := b1 (S_Ma_max v1 v2 μ) (fun x3 => b0 (v0 + x3) (fun x7 => if x7 ≤ 0 then none else if 2147483639 < x7 then none else some (x7)))
set_option maxHeartbeats 4000000 in
set_option maxRecDepth 100000 in
theorem C_Su_newLength (l : Launch) (G : GG) (v0 : Int32) (v1 : Int32) (v2 : Int32) (μ : Mem) (r : Int32) (h : S_Su_newLength v0 v1 v2 μ = some r) : CT l G y_Su_newLength prog_41_method_27_code 4 (some .int) 1 0 0 21 μ [vI v0, vI v1, vI v2] (some (vI r)) μ := by
  refine wm_met (lv := [(0, vI v0), (1, vI v1), (2, vI v2)]) (by decide +kernel) (Nat.le_of_ble_eq_true rfl) rfl (fun X E hQ hR hI => ?_)
  have h : (b1 (S_Ma_max v1 v2 μ) (fun x3 => b0 (v0 + x3) (fun x7 => if x7 ≤ 0 then none else if 2147483639 < x7 then none else some (x7)))) = some r := h
  refine wm_iload_n E dSu_newLength_0 rfl (j := 0) rfl ?_
  refine wm_iload_n E dSu_newLength_1 rfl (j := 1) rfl ?_
  refine wm_iload_n E dSu_newLength_2 rfl (j := 2) rfl ?_
  obtain ⟨x3, hc3, h⟩ := b1S h
  refine wm_cS (As := [vI v1, vI v2]) (st := [vI v0]) E lk_Su_194 sc_Ma_max (C_Ma_max (xl X) X.1 v1 v2 μ _ hc3) rfl rfl (by rw [hR]; decide) (by rw [hR]; decide) (Nat.le_of_ble_eq_true rfl) dSu_newLength_3 ?_
  refine wm_iadd E dSu_newLength_6 ?_
  refine wm_letI h (fun x7 h => ?_)
  refine wm_istore_n (lv' := [(3, vI x7), (0, vI v0), (1, vI v1), (2, vI v2)]) E dSu_newLength_7 rfl (by decide) rfl ?_
  refine wm_iconst (x := 0) E dSu_newLength_8 (by decide) ?_
  refine wm_iload_n E dSu_newLength_9 rfl (j := 0) rfl ?_
  refine wm_icmp_ge (tgt := 21) E dSu_newLength_10 (by decide) (fun c10 => ?_) (fun c10 => ?_)
  · have h := (if_pos c10).symm.trans h
    cases h
  · have h := (if_neg c10).symm.trans h
    refine wm_iload_n E dSu_newLength_13 rfl (j := 0) rfl ?_
    refine wm_ldc (x := 2147483639) E cn_Su_200 dSu_newLength_14 ?_
    refine wm_icmp_gt (tgt := 21) E dSu_newLength_16 (by decide) (fun c16 => ?_) (fun c16 => ?_)
    · have h := (if_pos c16).symm.trans h
      cases h
    · have h := (if_neg c16).symm.trans h
      refine wm_iload_n E dSu_newLength_19 rfl (j := 0) rfl ?_
      exact wm_iret (rt := .int) E hQ (rqI1 h) rfl (by decide) (by decide) dSu_newLength_20
def S_As_copyOf3 (v0 : Option Nat) (v1 : Int32) (v2 : Option Nat) (μ : Mem) : Option (Option Nat × Mem) := if v2 = (some (mC μ)) then b2 (nR_ μ 4 v1 33) (fun x7 m7 => b1 (aLen m7 v0) (fun x30 => b1 (S_Ma_min x30 v1 m7) (fun x32 => b1 (acR m7 v0 0 x7 0 x32 4 [1, 2, 5, 6, 7]) (fun m35 => some (x7, m35))))) else none
set_option maxHeartbeats 4000000 in
set_option maxRecDepth 100000 in
theorem C_As_copyOf3 (l : Launch) (G : GG) (v0 : Option Nat) (v1 : Int32) (v2 : Option Nat) (μ μ' : Mem) (r : Option Nat) (h : S_As_copyOf3 v0 v1 v2 μ = some (r, μ')) : CT l G y_As_copyOf3 prog_34_method_120_code 4 (some (.array (.object "java/lang/Object"))) 1 1 33 60 μ [vR v0, vI v1, vR v2] (some (vR r)) μ' := by
  refine wm_met (lv := [(0, vR v0), (1, vI v1), (2, vR v2)]) (by decide +kernel) (Nat.le_of_ble_eq_true rfl) rfl (fun X E hQ hR hI => ?_)
  have h : (if v2 = (some (mC μ)) then b2 (nR_ μ 4 v1 33) (fun x7 m7 => b1 (aLen m7 v0) (fun x30 => b1 (S_Ma_min x30 v1 m7) (fun x32 => b1 (acR m7 v0 0 x7 0 x32 4 [1, 2, 5, 6, 7]) (fun m35 => some (x7, m35))))) else none) = some (r, μ') := h
  refine wm_aload_n E dAs_copyOf3_0 rfl (j := 2) rfl ?_
  refine wm_ldM E cl_As_110 dAs_copyOf3_1 ?_
  refine wm_acmp_ne (tgt := 13) E dAs_copyOf3_3 (by decide) (fun c3 => ?_) (fun c3 => ?_)
  · have h := (if_neg c3).symm.trans h
    cases h
  · have h := (if_pos c3).symm.trans h
    refine wm_iload_n E dAs_copyOf3_6 rfl (j := 1) rfl ?_
    refine wm_newr (t := 4) (B := 33) E rfl cl_As_2 ao_Object h (by decide) (by rw [hR]; decide) (by rw [hR]; decide) dAs_copyOf3_7 (fun x7 m7 h => ?_)
    refine wm_goto (tgt := 24) E dAs_copyOf3_10 (by decide) ?_
    refine wm_astore_n (lv' := [(3, vR x7), (0, vR v0), (1, vI v1), (2, vR v2)]) E dAs_copyOf3_24 rfl (by decide) rfl ?_
    refine wm_aload_n E dAs_copyOf3_25 rfl (j := 1) rfl ?_
    refine wm_iconst (x := 0) E dAs_copyOf3_26 (by decide) ?_
    refine wm_aload_n E dAs_copyOf3_27 rfl (j := 0) rfl ?_
    refine wm_iconst (x := 0) E dAs_copyOf3_28 (by decide) ?_
    refine wm_aload_n E dAs_copyOf3_29 rfl (j := 1) rfl ?_
    refine wm_alen E h dAs_copyOf3_30 (fun x30 h => ?_)
    refine wm_iload_n E dAs_copyOf3_31 rfl (j := 2) rfl ?_
    obtain ⟨x32, hc32, h⟩ := b1S h
    refine wm_cS (As := [vI x30, vI v1]) (st := [vI 0, vR x7, vI 0, vR v0]) E lk_As_304 sc_Ma_min (C_Ma_min (xl X) X.1 x30 v1 m7 _ hc32) rfl rfl (by rw [hR]; decide) (by rw [hR]; decide) (Nat.le_of_ble_eq_true rfl) dAs_copyOf3_32 ?_
    refine wm_acR (t := 4) (cs := [1, 2, 5, 6, 7]) E yc_As_150 rfl as_As_copyOf3_35 h (by rw [hR]; decide) (by rw [hR]; decide) (Nat.le_of_ble_eq_true rfl) dAs_copyOf3_35 (fun m35 h => ?_)
    refine wm_aload_n E dAs_copyOf3_38 rfl (j := 0) rfl ?_
    exact wm_aret E hQ (rtR h) (rtM h) (Or.inr ⟨_, rfl⟩) (by decide) (by decide) dAs_copyOf3_39
def S_As_copyOf2 (v0 : Option Nat) (v1 : Int32) (μ : Mem) : Option (Option Nat × Mem) := b1 (aC μ v0 4) (fun _ => b2 (S_As_copyOf3 v0 v1 (some (mC μ)) μ) (fun x6 m6 => some (x6, m6)))
set_option maxHeartbeats 4000000 in
set_option maxRecDepth 100000 in
theorem C_As_copyOf2 (l : Launch) (G : GG) (v0 : Option Nat) (v1 : Int32) (μ μ' : Mem) (r : Option Nat) (h : S_As_copyOf2 v0 v1 μ = some (r, μ')) : CT l G y_As_copyOf2 prog_34_method_119_code 2 (some (.array (.object "java/lang/Object"))) 2 1 33 83 μ [vR v0, vI v1] (some (vR r)) μ' := by
  refine wm_met (lv := [(0, vR v0), (1, vI v1)]) (by decide +kernel) (Nat.le_of_ble_eq_true rfl) rfl (fun X E hQ hR hI => ?_)
  have h : (b1 (aC μ v0 4) (fun _ => b2 (S_As_copyOf3 v0 v1 (some (mC μ)) μ) (fun x6 m6 => some (x6, m6)))) = some (r, μ') := h
  refine wm_aload_n E dAs_copyOf2_0 rfl (j := 0) rfl ?_
  refine wm_iload_n E dAs_copyOf2_1 rfl (j := 1) rfl ?_
  refine wm_aload_n E dAs_copyOf2_2 rfl (j := 0) rfl ?_
  obtain ⟨u3, hr3, h⟩ := b1S h
  refine wm_getC E gc_As_86 hr3 (by rw [hR]; decide) (by rw [hR]; decide) (Nat.le_of_ble_eq_true rfl) dAs_copyOf2_3 ?_
  obtain ⟨x6, m6, hc6, h⟩ := b2S h
  refine wm_cS (As := [vR v0, vI v1, vR (some (mC μ))]) (st := []) E lk_As_300 sc_As_copyOf3 (C_As_copyOf3 (xl X) X.1 v0 v1 (some (mC μ)) μ _ _ hc6) rfl rfl (by rw [hR]; decide) (by rw [hR]; decide) (Nat.le_of_ble_eq_true rfl) dAs_copyOf2_6 ?_
  exact wm_aret E hQ (rtR h) (rtM h) (Or.inr ⟨_, rfl⟩) (by decide) (by decide) dAs_copyOf2_9
def B_Al_grow2_20  (v0 : Option Nat) (v1 : Int32) (v2 : Int32) (μ : Mem) : Option (Option Nat × Mem) := b1 (S_Su_newLength v2 (v1 - v2) (v2 >>> (1 &&& 31)) μ) (fun x27 => b1 (gR μ v0 0 0) (fun x33 => b2 (S_As_copyOf2 x33 x27 μ) (fun x37 m37 => b1 (pV m37 v0 0 0 (vR x37)) (fun m41 => some (x37, m41)))))
set_option maxHeartbeats 4000000 in
set_option maxRecDepth 100000 in
theorem w_Al_grow2_20 {X : CX} (E : EV X prog_33_method_6_code 4 "java/util/ArrayList" (some (.array (.object "java/lang/Object")))) {μ0 μ' : Mem} {r : Option Nat} (hQ : RQ X 1 33 μ0 (some (vR r)) μ') (hR : xR X = { frames := 3, cells := 1, slots := 33, locals := 104 }) (hI : X.2.2.2.2.2.2.2.2.2.2.2.1.name = "grow")  (v0 : Option Nat) (v1 : Int32) (v2 : Int32) (μ : Mem) (h : B_Al_grow2_20  v0 v1 v2 μ = some (r, μ')) : WM X 4 20 [(0, vR v0), (1, vI v1), (2, vI v2)] [] 0 0 μ := by
  have h : (b1 (S_Su_newLength v2 (v1 - v2) (v2 >>> (1 &&& 31)) μ) (fun x27 => b1 (gR μ v0 0 0) (fun x33 => b2 (S_As_copyOf2 x33 x27 μ) (fun x37 m37 => b1 (pV m37 v0 0 0 (vR x37)) (fun m41 => some (x37, m41)))))) = some (r, μ') := h
  refine wm_iload_n E dAl_grow2_20 rfl (j := 2) rfl ?_
  refine wm_iload_n E dAl_grow2_21 rfl (j := 1) rfl ?_
  refine wm_iload_n E dAl_grow2_22 rfl (j := 2) rfl ?_
  refine wm_isub E dAl_grow2_23 ?_
  refine wm_iload_n E dAl_grow2_24 rfl (j := 2) rfl ?_
  refine wm_iconst (x := 1) E dAl_grow2_25 (by decide) ?_
  refine wm_ishr E dAl_grow2_26 ?_
  obtain ⟨x27, hc27, h⟩ := b1S h
  refine wm_cS (As := [vI v2, vI (v1 - v2), vI (v2 >>> (1 &&& 31))]) (st := []) E lk_Al_73 sc_Su_newLength (C_Su_newLength (xl X) X.1 v2 (v1 - v2) (v2 >>> (1 &&& 31)) μ _ hc27) rfl rfl (by rw [hR]; decide) (by rw [hR]; decide) (Nat.le_of_ble_eq_true rfl) dAl_grow2_27 ?_
  refine wm_istore_n (lv' := [(3, vI x27), (0, vR v0), (1, vI v1), (2, vI v2)]) E dAl_grow2_30 rfl (by decide) rfl ?_
  refine wm_aload_n E dAl_grow2_31 rfl (j := 1) rfl ?_
  refine wm_aload_n E dAl_grow2_32 rfl (j := 1) rfl ?_
  refine wm_gR E fd_Al_9 h dAl_grow2_33 (fun x33 h => ?_)
  refine wm_iload_n E dAl_grow2_36 rfl (j := 0) rfl ?_
  obtain ⟨x37, m37, hc37, h⟩ := b2S h
  refine wm_cS (As := [vR x33, vI x27]) (st := [vR v0]) E lk_Al_66 sc_As_copyOf2 (C_As_copyOf2 (xl X) X.1 x33 x27 μ _ _ hc37) rfl rfl (by rw [hR]; decide) (by rw [hR]; decide) (Nat.le_of_ble_eq_true rfl) dAl_grow2_37 ?_
  refine wm_dup_x1 E dAl_grow2_40 rfl rfl ?_
  refine wm_pR E fp_Al_9 (Or.inr ⟨_, rfl⟩) (fun q => by cases q) h dAl_grow2_41 (fun m41 h => ?_)
  exact wm_aret E hQ (rtR h) (rtM h) (Or.inr ⟨_, rfl⟩) (by decide) (by decide) dAl_grow2_44
def S_Al_grow2 (v0 : Option Nat) (v1 : Int32) (μ : Mem) : Option (Option Nat × Mem) := b1 (gR μ v0 0 0) (fun x1 => b1 (aLen μ x1) (fun x4 => if 0 < x4 then B_Al_grow2_20 v0 v1 x4 μ else b1 (gR μ v0 0 0) (fun x11 => if x11 = (some (mD μ)) then b1 (S_Ma_max 10 v1 μ) (fun x49 => b2 (nR_ μ 4 x49 33) (fun x52 m52 => b1 (pV m52 v0 0 0 (vR x52)) (fun m56 => some (x52, m56)))) else B_Al_grow2_20 v0 v1 x4 μ)))
set_option maxHeartbeats 4000000 in
set_option maxRecDepth 100000 in
theorem C_Al_grow2 (l : Launch) (G : GG) (v0 : Option Nat) (v1 : Int32) (μ μ' : Mem) (r : Option Nat) (h : S_Al_grow2 v0 v1 μ = some (r, μ')) : CT l G y_Al_grow2 prog_33_method_6_code 4 (some (.array (.object "java/lang/Object"))) 3 1 33 104 μ [vR v0, vI v1] (some (vR r)) μ' := by
  refine wm_met (lv := [(0, vR v0), (1, vI v1)]) (by decide +kernel) (Nat.le_of_ble_eq_true rfl) rfl (fun X E hQ hR hI => ?_)
  have h : (b1 (gR μ v0 0 0) (fun x1 => b1 (aLen μ x1) (fun x4 => if 0 < x4 then B_Al_grow2_20 v0 v1 x4 μ else b1 (gR μ v0 0 0) (fun x11 => if x11 = (some (mD μ)) then b1 (S_Ma_max 10 v1 μ) (fun x49 => b2 (nR_ μ 4 x49 33) (fun x52 m52 => b1 (pV m52 v0 0 0 (vR x52)) (fun m56 => some (x52, m56)))) else B_Al_grow2_20 v0 v1 x4 μ)))) = some (r, μ') := h
  refine wm_aload_n E dAl_grow2_0 rfl (j := 0) rfl ?_
  refine wm_gR E fd_Al_9 h dAl_grow2_1 (fun x1 h => ?_)
  refine wm_alen E h dAl_grow2_4 (fun x4 h => ?_)
  refine wm_istore_n (lv' := [(2, vI x4), (0, vR v0), (1, vI v1)]) E dAl_grow2_5 rfl (by decide) rfl ?_
  refine wm_iload_n E dAl_grow2_6 rfl (j := 0) rfl ?_
  refine wm_if_gt (tgt := 20) E dAl_grow2_7 (by decide) (fun c7 => ?_) (fun c7 => ?_)
  · have h := (if_pos c7).symm.trans h
    refine wm_pick (lv' := [(0, vR v0), (1, vI v1), (2, vI x4)]) [1, 2, 0] rfl ?_
    exact w_Al_grow2_20 E hQ hR hI v0 v1 x4 μ h
  · have h := (if_neg c7).symm.trans h
    refine wm_aload_n E dAl_grow2_10 rfl (j := 1) rfl ?_
    refine wm_gR E fd_Al_9 h dAl_grow2_11 (fun x11 h => ?_)
    refine wm_gets E fl_Al_39 dAl_grow2_14 ?_
    refine wm_acmp_eq (tgt := 45) E dAl_grow2_17 (by decide) (fun c17 => ?_) (fun c17 => ?_)
    · have h := (if_pos c17).symm.trans h
      refine wm_aload_n E dAl_grow2_45 rfl (j := 1) rfl ?_
      refine wm_bipush (x := 10) E dAl_grow2_46 (by decide) ?_
      refine wm_iload_n E dAl_grow2_48 rfl (j := 2) rfl ?_
      obtain ⟨x49, hc49, h⟩ := b1S h
      refine wm_cS (As := [vI 10, vI v1]) (st := [vR v0]) E lk_Al_79 sc_Ma_max (C_Ma_max (xl X) X.1 10 v1 μ _ hc49) rfl rfl (by rw [hR]; decide) (by rw [hR]; decide) (Nat.le_of_ble_eq_true rfl) dAl_grow2_49 ?_
      refine wm_newr (t := 4) (B := 33) E rfl cl_Al_7 ao_Object h (by decide) (by rw [hR]; decide) (by rw [hR]; decide) dAl_grow2_52 (fun x52 m52 h => ?_)
      refine wm_dup_x1 E dAl_grow2_55 rfl rfl ?_
      refine wm_pR E fp_Al_9 (Or.inr ⟨_, rfl⟩) (fun q => by cases q) h dAl_grow2_56 (fun m56 h => ?_)
      exact wm_aret E hQ (rtR h) (rtM h) (Or.inr ⟨_, rfl⟩) (by decide) (by decide) dAl_grow2_59
    · have h := (if_neg c17).symm.trans h
      refine wm_pick (lv' := [(0, vR v0), (1, vI v1), (2, vI x4)]) [1, 2, 0] rfl ?_
      exact w_Al_grow2_20 E hQ hR hI v0 v1 x4 μ h
def S_Al_grow (v0 : Option Nat) (μ : Mem) : Option (Option Nat × Mem) := b1 (gI μ v0 0 1) (fun x2 => b1 (rc μ v0 0) (fun _ => b2 (S_Al_grow2 v0 (x2 + 1) μ) (fun x7 m7 => some (x7, m7))))
set_option maxHeartbeats 4000000 in
set_option maxRecDepth 100000 in
theorem C_Al_grow (l : Launch) (G : GG) (v0 : Option Nat) (μ μ' : Mem) (r : Option Nat) (h : S_Al_grow v0 μ = some (r, μ')) : CT l G y_Al_grow prog_33_method_7_code 1 (some (.array (.object "java/lang/Object"))) 4 1 33 127 μ [vR v0] (some (vR r)) μ' := by
  refine wm_met (lv := [(0, vR v0)]) (by decide +kernel) (Nat.le_of_ble_eq_true rfl) rfl (fun X E hQ hR hI => ?_)
  have h : (b1 (gI μ v0 0 1) (fun x2 => b1 (rc μ v0 0) (fun _ => b2 (S_Al_grow2 v0 (x2 + 1) μ) (fun x7 m7 => some (x7, m7))))) = some (r, μ') := h
  refine wm_aload_n E dAl_grow_0 rfl (j := 0) rfl ?_
  refine wm_aload_n E dAl_grow_1 rfl (j := 0) rfl ?_
  refine wm_gI E fd_Al_48 h dAl_grow_2 (fun x2 h => ?_)
  refine wm_iconst (x := 1) E dAl_grow_5 (by decide) ?_
  refine wm_iadd E dAl_grow_6 ?_
  obtain ⟨u7, hr7, h⟩ := b1S h
  obtain ⟨x7, m7, hc7, h⟩ := b2S h
  refine wm_cV (ci := 0) (As := [vI (x2 + 1)]) (st := []) E lk_Al_69 rfl im_Al_grow2 sl_Al_grow2 hr7 (C_Al_grow2 (xl X) X.1 v0 (x2 + 1) μ _ _ hc7) rfl rfl (by rw [hR]; decide) (by rw [hR]; decide) (Nat.le_of_ble_eq_true rfl) dAl_grow_7 ?_
  exact wm_aret E hQ (rtR h) (rtM h) (Or.inr ⟨_, rfl⟩) (by decide) (by decide) dAl_grow_10
def B_Al_add2_11  (v0 : Option Nat) (v1 : Option Nat) (v2 : Option Nat) (v3 : Int32) (μ : Mem) : Option (Unit × Mem) := b1 (sR μ v2 4 [1, 2, 5, 6, 7] v3 v1) (fun m14 => b1 (pV m14 v0 0 1 (vI (v3 + 1))) (fun m19 => some ((), m19)))
set_option maxHeartbeats 4000000 in
set_option maxRecDepth 100000 in
theorem w_Al_add2_11 {X : CX} (E : EV X prog_33_method_24_code 4 "java/util/ArrayList" none) {μ0 μ' : Mem} {r : Unit} (hQ : RQ X 1 33 μ0 none μ') (hR : xR X = { frames := 5, cells := 1, slots := 33, locals := 147 }) (hI : X.2.2.2.2.2.2.2.2.2.2.2.1.name = "add")  (v0 : Option Nat) (v1 : Option Nat) (v2 : Option Nat) (v3 : Int32) (μ : Mem) (h : B_Al_add2_11  v0 v1 v2 v3 μ = some (r, μ')) : WM X 4 11 [(0, vR v0), (1, vR v1), (2, vR v2), (3, vI v3)] [] 1 33 μ := by
  have h : (b1 (sR μ v2 4 [1, 2, 5, 6, 7] v3 v1) (fun m14 => b1 (pV m14 v0 0 1 (vI (v3 + 1))) (fun m19 => some ((), m19)))) = some (r, μ') := h
  refine wm_aload_n E dAl_add2_11 rfl (j := 2) rfl ?_
  refine wm_iload_n E dAl_add2_12 rfl (j := 3) rfl ?_
  refine wm_aload_n E dAl_add2_13 rfl (j := 1) rfl ?_
  refine wm_aast (t := 4) (cs := [1, 2, 5, 6, 7]) E rfl as_Al_add2_14 h dAl_add2_14 (fun m14 h => ?_)
  refine wm_aload_n E dAl_add2_15 rfl (j := 0) rfl ?_
  refine wm_iload_n E dAl_add2_16 rfl (j := 3) rfl ?_
  refine wm_iconst (x := 1) E dAl_add2_17 (by decide) ?_
  refine wm_iadd E dAl_add2_18 ?_
  refine wm_pI E fp_Al_48 (fun q => by cases q) h dAl_add2_19 (fun m19 h => ?_)
  exact wm_vret E hQ rfl (rtM h) (by decide) (by decide) dAl_add2_22
def S_Al_add2 (v0 : Option Nat) (v1 : Option Nat) (v2 : Option Nat) (v3 : Int32) (μ : Mem) : Option (Unit × Mem) := b1 (aLen μ v2) (fun x2 => if v3 = x2 then b1 (rc μ v0 0) (fun _ => b2 (S_Al_grow v0 μ) (fun x7 m7 => B_Al_add2_11 v0 v1 x7 v3 m7)) else B_Al_add2_11 v0 v1 v2 v3 μ)
set_option maxHeartbeats 4000000 in
set_option maxRecDepth 100000 in
theorem C_Al_add2 (l : Launch) (G : GG) (v0 : Option Nat) (v1 : Option Nat) (v2 : Option Nat) (v3 : Int32) (μ μ' : Mem) (r : Unit) (h : S_Al_add2 v0 v1 v2 v3 μ = some (r, μ')) : CT l G y_Al_add2 prog_33_method_24_code 4 none 5 1 33 147 μ [vR v0, vR v1, vR v2, vI v3] none μ' := by
  refine wm_met (lv := [(0, vR v0), (1, vR v1), (2, vR v2), (3, vI v3)]) (by decide +kernel) (Nat.le_of_ble_eq_true rfl) rfl (fun X E hQ hR hI => ?_)
  have h : (b1 (aLen μ v2) (fun x2 => if v3 = x2 then b1 (rc μ v0 0) (fun _ => b2 (S_Al_grow v0 μ) (fun x7 m7 => B_Al_add2_11 v0 v1 x7 v3 m7)) else B_Al_add2_11 v0 v1 v2 v3 μ)) = some (r, μ') := h
  refine wm_iload_n E dAl_add2_0 rfl (j := 3) rfl ?_
  refine wm_aload_n E dAl_add2_1 rfl (j := 2) rfl ?_
  refine wm_alen E h dAl_add2_2 (fun x2 h => ?_)
  refine wm_icmp_ne (tgt := 11) E dAl_add2_3 (by decide) (fun c3 => ?_) (fun c3 => ?_)
  · have h := (if_neg c3).symm.trans h
    refine wm_widen (k := 1) (n := 33) (by decide) (by decide) ?_
    refine wm_pick (lv' := [(0, vR v0), (1, vR v1), (2, vR v2), (3, vI v3)]) [0, 1, 2, 3] rfl ?_
    exact w_Al_add2_11 E hQ hR hI v0 v1 v2 v3 μ h
  · have h := (if_pos c3).symm.trans h
    refine wm_aload_n E dAl_add2_6 rfl (j := 0) rfl ?_
    obtain ⟨u7, hr7, h⟩ := b1S h
    obtain ⟨x7, m7, hc7, h⟩ := b2S h
    refine wm_cV (ci := 0) (As := []) (st := []) E lk_Al_129 rfl im_Al_grow sl_Al_grow hr7 (C_Al_grow (xl X) X.1 v0 μ _ _ hc7) rfl rfl (by rw [hR]; decide) (by rw [hR]; decide) (Nat.le_of_ble_eq_true rfl) dAl_add2_7 ?_
    refine wm_astore_n (lv' := [(2, vR x7), (0, vR v0), (1, vR v1), (3, vI v3)]) E dAl_add2_10 rfl (by decide) rfl ?_
    refine wm_pick (lv' := [(0, vR v0), (1, vR v1), (2, vR x7), (3, vI v3)]) [1, 2, 0, 3] rfl ?_
    exact w_Al_add2_11 E hQ hR hI v0 v1 x7 v3 m7 h
def S_Al_add (v0 : Option Nat) (v1 : Option Nat) (μ : Mem) : Option (Int32 × Mem) := b1 (gI μ v0 0 2) (fun x2 => b1 (pV μ v0 0 2 (vI (x2 + 1))) (fun m7 => b1 (gR m7 v0 0 0) (fun x13 => b1 (gI m7 v0 0 1) (fun x17 => b1 (rc m7 v0 0) (fun _ => b2 (S_Al_add2 v0 v1 x13 x17 m7) (fun x20 m20 => gd (¬ okZ 1 = true) (some (1, m20))))))))
set_option maxHeartbeats 4000000 in
set_option maxRecDepth 100000 in
theorem C_Al_add (l : Launch) (G : GG) (v0 : Option Nat) (v1 : Option Nat) (μ μ' : Mem) (r : Int32) (h : S_Al_add v0 v1 μ = some (r, μ')) : CT l G y_Al_add prog_33_method_25_code 2 (some .boolean) 6 1 33 170 μ [vR v0, vR v1] (some (vI r)) μ' := by
  refine wm_met (lv := [(0, vR v0), (1, vR v1)]) (by decide +kernel) (Nat.le_of_ble_eq_true rfl) rfl (fun X E hQ hR hI => ?_)
  have h : (b1 (gI μ v0 0 2) (fun x2 => b1 (pV μ v0 0 2 (vI (x2 + 1))) (fun m7 => b1 (gR m7 v0 0 0) (fun x13 => b1 (gI m7 v0 0 1) (fun x17 => b1 (rc m7 v0 0) (fun _ => b2 (S_Al_add2 v0 v1 x13 x17 m7) (fun x20 m20 => gd (¬ okZ 1 = true) (some (1, m20))))))))) = some (r, μ') := h
  refine wm_aload_n E dAl_add_0 rfl (j := 0) rfl ?_
  refine wm_dup E dAl_add_1 rfl ?_
  refine wm_gI E fd_Al_63 h dAl_add_2 (fun x2 h => ?_)
  refine wm_iconst (x := 1) E dAl_add_5 (by decide) ?_
  refine wm_iadd E dAl_add_6 ?_
  refine wm_pI E fp_Al_63 (fun q => by cases q) h dAl_add_7 (fun m7 h => ?_)
  refine wm_aload_n E dAl_add_10 rfl (j := 0) rfl ?_
  refine wm_aload_n E dAl_add_11 rfl (j := 1) rfl ?_
  refine wm_aload_n E dAl_add_12 rfl (j := 0) rfl ?_
  refine wm_gR E fd_Al_9 h dAl_add_13 (fun x13 h => ?_)
  refine wm_aload_n E dAl_add_16 rfl (j := 0) rfl ?_
  refine wm_gI E fd_Al_48 h dAl_add_17 (fun x17 h => ?_)
  obtain ⟨u20, hr20, h⟩ := b1S h
  obtain ⟨x20, m20, hc20, h⟩ := b2S h
  refine wm_cV (ci := 0) (As := [vR v1, vR x13, vI x17]) (st := []) E lk_Al_131 rfl im_Al_add2 sl_Al_add2 hr20 (C_Al_add2 (xl X) X.1 v0 v1 x13 x17 m7 _ _ hc20) rfl rfl (by rw [hR]; decide) (by rw [hR]; decide) (Nat.le_of_ble_eq_true rfl) dAl_add_20 ?_
  refine wm_iconst (x := 1) E dAl_add_23 (by decide) ?_
  obtain ⟨hz24, h⟩ := gdS h
  exact wm_zret (rt := .boolean) E hQ (rtI h) (rtM h) (okZN hz24) (by decide) (by decide) dAl_add_24
def S_P_place (v0 : Option Nat) (v1 : Int32) (μ : Mem) : Option ((Nat ⊕ Int32) × Mem) := b1 (S_P_isKind v1 μ) (fun x1 => if x1 = 0 then some (.inl 0, μ) else b1 (gR μ v0 11 0) (fun x18 => b1 (rc μ x18 0) (fun _ => b1 (S_Al_size x18 μ) (fun x21 => if x21 < 30 then b1 (gR μ v0 11 0) (fun x40 => b2 (nO μ 7 [.int 0, .int 0, .int 0, .null, .null, .null, .null]) (fun x43 m43 => b1 (gR m43 v0 11 0) (fun x48 => b1 (rc m43 x48 0) (fun _ => b1 (S_Al_size x48 m43) (fun x51 => b1 (rc m43 x43 7) (fun _ => b2 (S_Pl_init x43 x51 v1 m43) (fun x55 m55 => b1 (rc m55 x40 0) (fun _ => b2 (S_Al_add x40 x43 m55) (fun x58 m58 => b1 (gR m58 v0 11 0) (fun x63 => b1 (rc m58 x63 0) (fun _ => b1 (S_Al_size x63 m58) (fun x66 => some (.inr (x66 - 1), m58))))))))))))) else some (.inl 1, μ)))))
set_option maxHeartbeats 4000000 in
set_option maxRecDepth 100000 in
theorem w_P_place_e {X : CX} (E : EV X prog_1_method_2_code 2 "PlaceFinder" (some .int)) {μ0 μ' : Mem} {r : (Nat ⊕ Int32)} (hQ : RQ2 X 6 52 μ0 (cvI r) μ') (hR : xR X = { frames := 7, cells := 6, slots := 52, locals := 191 }) (hI : X.2.2.2.2.2.2.2.2.2.2.2.1.name = "place") (v0 : Option Nat) (v1 : Int32) (μ : Mem) (h : S_P_place v0 v1 μ = some (r, μ')) : WM X 2 0 [(0, vR v0), (1, vI v1)] [] 0 0 μ := by
  have h : (b1 (S_P_isKind v1 μ) (fun x1 => if x1 = 0 then some (.inl 0, μ) else b1 (gR μ v0 11 0) (fun x18 => b1 (rc μ x18 0) (fun _ => b1 (S_Al_size x18 μ) (fun x21 => if x21 < 30 then b1 (gR μ v0 11 0) (fun x40 => b2 (nO μ 7 [.int 0, .int 0, .int 0, .null, .null, .null, .null]) (fun x43 m43 => b1 (gR m43 v0 11 0) (fun x48 => b1 (rc m43 x48 0) (fun _ => b1 (S_Al_size x48 m43) (fun x51 => b1 (rc m43 x43 7) (fun _ => b2 (S_Pl_init x43 x51 v1 m43) (fun x55 m55 => b1 (rc m55 x40 0) (fun _ => b2 (S_Al_add x40 x43 m55) (fun x58 m58 => b1 (gR m58 v0 11 0) (fun x63 => b1 (rc m58 x63 0) (fun _ => b1 (S_Al_size x63 m58) (fun x66 => some (.inr (x66 - 1), m58))))))))))))) else some (.inl 1, μ)))))) = some (r, μ') := h
  refine wm_iload_n E dP_place_0 rfl (j := 1) rfl ?_
  obtain ⟨x1, hc1, h⟩ := b1S h
  refine wm_cS (As := [vI v1]) (st := []) E lk_P_87 sc_P_isKind (C_P_isKind (xl X) X.1 v1 μ _ hc1) rfl rfl (by rw [hR]; decide) (by rw [hR]; decide) (Nat.le_of_ble_eq_true rfl) dP_place_1 ?_
  refine wm_if_ne (tgt := 17) E dP_place_4 (by decide) (fun c4 => ?_) (fun c4 => ?_)
  · have h := (if_neg c4).symm.trans h
    refine wm_aload_n E dP_place_17 rfl (j := 0) rfl ?_
    refine wm_gR E fd_P_10 h dP_place_18 (fun x18 h => ?_)
    obtain ⟨u21, hr21, h⟩ := b1S h
    obtain ⟨x21, hc21, h⟩ := b1S h
    refine wm_cV (ci := 0) (As := []) (st := []) E lk_P_98 rfl im_Al_size sl_Al_size hr21 (C_Al_size (xl X) X.1 x18 μ _ hc21) rfl rfl (by rw [hR]; decide) (by rw [hR]; decide) (Nat.le_of_ble_eq_true rfl) dP_place_21 ?_
    refine wm_bipush (x := 30) E dP_place_24 (by decide) ?_
    refine wm_icmp_lt (tgt := 39) E dP_place_26 (by decide) (fun c26 => ?_) (fun c26 => ?_)
    · have h := (if_pos c26).symm.trans h
      refine wm_aload_n E dP_place_39 rfl (j := 0) rfl ?_
      refine wm_gR E fd_P_10 h dP_place_40 (fun x40 h => ?_)
      refine wm_new E nd_P_107 h (by rw [hR]; decide) (by rw [hR]; decide) dP_place_43 (fun x43 m43 h => ?_)
      refine wm_dup E dP_place_46 rfl ?_
      refine wm_aload_n E dP_place_47 rfl (j := 0) rfl ?_
      refine wm_gR E fd_P_10 h dP_place_48 (fun x48 h => ?_)
      obtain ⟨u51, hr51, h⟩ := b1S h
      obtain ⟨x51, hc51, h⟩ := b1S h
      refine wm_cV (ci := 0) (As := []) (st := [vR x43, vR x43, vR x40]) E lk_P_98 rfl im_Al_size sl_Al_size hr51 (C_Al_size (xl X) X.1 x48 m43 _ hc51) rfl rfl (by rw [hR]; decide) (by rw [hR]; decide) (Nat.le_of_ble_eq_true rfl) dP_place_51 ?_
      refine wm_iload_n E dP_place_54 rfl (j := 1) rfl ?_
      obtain ⟨u55, hr55, h⟩ := b1S h
      obtain ⟨x55, m55, hc55, h⟩ := b2S h
      refine wm_cI (ci := 7) (As := [vI x51, vI v1]) (st := [vR x43, vR x40]) E lk_P_109 rfl rfl im_Pl_init hr55 (C_Pl_init (xl X) X.1 x43 x51 v1 m43 _ _ hc55) rfl rfl (by rw [hR]; decide) (by rw [hR]; decide) (Nat.le_of_ble_eq_true rfl) dP_place_55 ?_
      obtain ⟨u58, hr58, h⟩ := b1S h
      obtain ⟨x58, m58, hc58, h⟩ := b2S h
      refine wm_cV (ci := 0) (As := [vR x43]) (st := []) E lk_P_112 rfl im_Al_add sl_Al_add hr58 (C_Al_add (xl X) X.1 x40 x43 m55 _ _ hc58) rfl rfl (by rw [hR]; decide) (by rw [hR]; decide) (Nat.le_of_ble_eq_true rfl) dP_place_58 ?_
      refine wm_pop E dP_place_61 rfl ?_
      refine wm_aload_n E dP_place_62 rfl (j := 0) rfl ?_
      refine wm_gR E fd_P_10 h dP_place_63 (fun x63 h => ?_)
      obtain ⟨u66, hr66, h⟩ := b1S h
      obtain ⟨x66, hc66, h⟩ := b1S h
      refine wm_cV (ci := 0) (As := []) (st := []) E lk_P_98 rfl im_Al_size sl_Al_size hr66 (C_Al_size (xl X) X.1 x63 m58 _ hc66) rfl rfl (by rw [hR]; decide) (by rw [hR]; decide) (Nat.le_of_ble_eq_true rfl) dP_place_66 ?_
      refine wm_iconst (x := 1) E dP_place_69 (by decide) ?_
      refine wm_isub E dP_place_70 ?_
      exact wm_iret (rt := .int) E (rqI hQ h) rfl rfl (by decide) (by decide) dP_place_71
    · have h := (if_neg c26).symm.trans h
      obtain ⟨μs, hX⟩ := rqXI hQ h
      exact wm_throw (ln := 2) (names := exU) (cls := "java/lang/IllegalStateException") E tf_P_102_104 hX ⟨(by rw [hR]; decide), by decide⟩ ⟨(by rw [hR]; decide), by decide⟩ (by rw [hR]; decide) (by rw [hR]; decide) (Nat.le_of_ble_eq_true rfl) dP_place_29 dP_place_32 (Or.inl ⟨rfl, dP_place_33⟩) dP_place_35 dP_place_38
  · have h := (if_pos c4).symm.trans h
    obtain ⟨μs, hX⟩ := rqXI hQ h
    exact wm_throw (ln := 2) (names := exU) (cls := "java/lang/IllegalArgumentException") E tf_P_91_93 hX ⟨(by rw [hR]; decide), by decide⟩ ⟨(by rw [hR]; decide), by decide⟩ (by rw [hR]; decide) (by rw [hR]; decide) (Nat.le_of_ble_eq_true rfl) dP_place_7 dP_place_10 (Or.inl ⟨rfl, dP_place_11⟩) dP_place_13 dP_place_16
theorem C_P_place (l : Launch) (G : GG) (v0 : Option Nat) (v1 : Int32) (μ μ' : Mem) (r : Int32) (h : S_P_place v0 v1 μ = some (.inr r, μ')) : CT l G y_P_place prog_1_method_2_code 2 (some .int) 7 6 52 191 μ [vR v0, vI v1] (some (vI r)) μ' := by
  refine wm_met (lv := [(0, vR v0), (1, vI v1)]) (by decide +kernel) (Nat.le_of_ble_eq_true rfl) rfl (fun X E hQ hR hI => ?_)
  exact w_P_place_e (r := .inr r) E hQ hR hI v0 v1 μ h
theorem X_P_place (l : Launch) (hl : LF l) (G : GG) (v0 : Option Nat) (v1 : Int32) (μ μ' : Mem) (k : Nat) (h : S_P_place v0 v1 (m_up μ) = some (.inl k, μ')) : CZ l G y_P_place prog_1_method_2_code 2 (some .int) 7 6 52 191 μ [vR v0, vI v1] (exN k) := by
  refine wm_metX hl (lv := [(0, vR v0), (1, vI v1)]) (by decide +kernel) (Nat.le_of_ble_eq_true rfl) rfl (fun X E hX hR hI => ?_)
  exact w_P_place_e (μ0 := μ) (r := .inl k) E ⟨μ, hX⟩ hR hI v0 v1 (m_up μ) h
