def S_Na_init (v0 : Option Nat) (v1 : Option Nat) (v2 : Int32) (v3 : Int32) (μ : Mem) : Option (Unit × Mem) := b1 (rc μ v0 6) (fun _ => b1 (pV μ v0 6 0 (vR v1)) (fun m6 => b1 (pV m6 v0 6 1 (vI v2)) (fun m11 => b1 (pV m11 v0 6 2 (vI v3)) (fun m16 => some ((), m16)))))
set_option maxHeartbeats 4000000 in
set_option maxRecDepth 100000 in
theorem C_Na_init (l : Launch) (G : GG) (v0 : Option Nat) (v1 : Option Nat) (v2 : Int32) (v3 : Int32) (μ μ' : Mem) (r : Unit) (h : S_Na_init v0 v1 v2 v3 μ = some (r, μ')) : CT l G y_Na_init prog_7_method_1_code 4 none 1 0 0 60 μ [vR v0, vR v1, vI v2, vI v3] none μ' := by
  refine wm_met (lv := [(0, vR v0), (1, vR v1), (2, vI v2), (3, vI v3)]) (by decide +kernel) (Nat.le_of_ble_eq_true rfl) rfl (fun X E hQ hR hI => ?_)
  have h : (b1 (rc μ v0 6) (fun _ => b1 (pV μ v0 6 0 (vR v1)) (fun m6 => b1 (pV m6 v0 6 1 (vI v2)) (fun m11 => b1 (pV m11 v0 6 2 (vI v3)) (fun m16 => some ((), m16)))))) = some (r, μ') := h
  refine wm_aload_n E dNa_init_0 rfl (j := 0) rfl ?_
  obtain ⟨u1, hr1, h⟩ := b1S h
  refine wm_obj E hr1 oi_Na_1 (by rw [hR]; decide) (by rw [hR]; decide) rfl dNa_init_1 ?_
  refine wm_aload_n E dNa_init_4 rfl (j := 0) rfl ?_
  refine wm_aload_n E dNa_init_5 rfl (j := 1) rfl ?_
  refine wm_pR E fp_Na_7 (Or.inl ⟨_, rfl⟩) (fun _ => hI) h dNa_init_6 (fun m6 h => ?_)
  refine wm_aload_n E dNa_init_9 rfl (j := 0) rfl ?_
  refine wm_iload_n E dNa_init_10 rfl (j := 2) rfl ?_
  refine wm_pI E fp_Na_13 (fun _ => hI) h dNa_init_11 (fun m11 h => ?_)
  refine wm_aload_n E dNa_init_14 rfl (j := 0) rfl ?_
  refine wm_iload_n E dNa_init_15 rfl (j := 3) rfl ?_
  refine wm_pI E fp_Na_17 (fun _ => hI) h dNa_init_16 (fun m16 h => ?_)
  exact wm_vret E hQ rfl (rtM h) (by decide) (by decide) dNa_init_19
def B_Li_isWithin_21  (s0 : Int32) (μ : Mem) : Option (Int32 × Mem) := gd (¬ okZ s0 = true) (some (s0, μ))
set_option maxHeartbeats 4000000 in
set_option maxRecDepth 100000 in
theorem w_Li_isWithin_21 {X : CX} (E : EV X prog_6_method_2_code 3 "PlaceFinder$Link" (some .boolean)) {μ0 μ' : Mem} {r : Int32} (hQ : RQ X 0 0 μ0 (some (vI r)) μ') (hR : xR X = { frames := 0, cells := 0, slots := 0, locals := 0 }) (hI : X.2.2.2.2.2.2.2.2.2.2.2.1.name = "isWithin")  (s0 : Int32) (μ : Mem) (h : B_Li_isWithin_21  s0 μ = some (r, μ')) : WM X 3 21 [] [vI s0] 0 0 μ := by
  have h : (gd (¬ okZ s0 = true) (some (s0, μ))) = some (r, μ') := h
  obtain ⟨hz21, h⟩ := gdS h
  exact wm_zret (rt := .boolean) E hQ (rtI h) (rtM h) (okZN hz21) (by decide) (by decide) dLi_isWithin_21
def B_Li_isWithin_20   (μ : Mem) : Option (Int32 × Mem) := B_Li_isWithin_21 0 μ
set_option maxHeartbeats 4000000 in
set_option maxRecDepth 100000 in
theorem w_Li_isWithin_20 {X : CX} (E : EV X prog_6_method_2_code 3 "PlaceFinder$Link" (some .boolean)) {μ0 μ' : Mem} {r : Int32} (hQ : RQ X 0 0 μ0 (some (vI r)) μ') (hR : xR X = { frames := 0, cells := 0, slots := 0, locals := 0 }) (hI : X.2.2.2.2.2.2.2.2.2.2.2.1.name = "isWithin")   (μ : Mem) (h : B_Li_isWithin_20   μ = some (r, μ')) : WM X 3 20 [] [] 0 0 μ := by
  have h : (B_Li_isWithin_21 0 μ) = some (r, μ') := h
  refine wm_iconst (x := 0) E dLi_isWithin_20 (by decide) ?_
  refine wm_pick (lv' := []) [] rfl ?_
  exact w_Li_isWithin_21 E hQ hR hI 0 μ h
def S_Li_isWithin (v0 : Option Nat) (v1 : Int32) (v2 : Int32) (μ : Mem) : Option (Int32 × Mem) := b1 (gI μ v0 5 1) (fun x1 => if v2 < x1 then B_Li_isWithin_20 μ else b1 (gI μ v0 5 2) (fun x10 => if x10 < v1 then B_Li_isWithin_20 μ else B_Li_isWithin_21 1 μ))
set_option maxHeartbeats 4000000 in
set_option maxRecDepth 100000 in
theorem C_Li_isWithin (l : Launch) (G : GG) (v0 : Option Nat) (v1 : Int32) (v2 : Int32) (μ μ' : Mem) (r : Int32) (h : S_Li_isWithin v0 v1 v2 μ = some (r, μ')) : CT l G y_Li_isWithin prog_6_method_2_code 3 (some .boolean) 0 0 0 0 μ [vR v0, vI v1, vI v2] (some (vI r)) μ' := by
  refine wm_met (lv := [(0, vR v0), (1, vI v1), (2, vI v2)]) (by decide +kernel) (Nat.le_of_ble_eq_true rfl) rfl (fun X E hQ hR hI => ?_)
  have h : (b1 (gI μ v0 5 1) (fun x1 => if v2 < x1 then B_Li_isWithin_20 μ else b1 (gI μ v0 5 2) (fun x10 => if x10 < v1 then B_Li_isWithin_20 μ else B_Li_isWithin_21 1 μ))) = some (r, μ') := h
  refine wm_aload_n E dLi_isWithin_0 rfl (j := 0) rfl ?_
  refine wm_gI E fd_Li_13 h dLi_isWithin_1 (fun x1 h => ?_)
  refine wm_iload_n E dLi_isWithin_4 rfl (j := 2) rfl ?_
  refine wm_icmp_gt (tgt := 20) E dLi_isWithin_5 (by decide) (fun c5 => ?_) (fun c5 => ?_)
  · have h := (if_pos c5).symm.trans h
    refine wm_pick (lv' := []) [] rfl ?_
    exact w_Li_isWithin_20 E hQ hR hI μ h
  · have h := (if_neg c5).symm.trans h
    refine wm_iload_n E dLi_isWithin_8 rfl (j := 1) rfl ?_
    refine wm_aload_n E dLi_isWithin_9 rfl (j := 0) rfl ?_
    refine wm_gI E fd_Li_17 h dLi_isWithin_10 (fun x10 h => ?_)
    refine wm_icmp_gt (tgt := 20) E dLi_isWithin_13 (by decide) (fun c13 => ?_) (fun c13 => ?_)
    · have h := (if_pos c13).symm.trans h
      refine wm_pick (lv' := []) [] rfl ?_
      exact w_Li_isWithin_20 E hQ hR hI μ h
    · have h := (if_neg c13).symm.trans h
      refine wm_iconst (x := 1) E dLi_isWithin_16 (by decide) ?_
      refine wm_goto (tgt := 21) E dLi_isWithin_17 (by decide) ?_
      refine wm_pick (lv' := []) [] rfl ?_
      exact w_Li_isWithin_21 E hQ hR hI 1 μ h
def B_Pl_isLinkedWithin_2  : Nat → Option Nat → Int32 → Int32 → Int32 → Mem → Option (Int32 × Mem)
  | 0, _, _, _, _, _ => none
  | n + 1, v0, v1, v2, v3, μ => b1 (gR μ v0 7 6) (fun x4 => b1 (rc μ x4 0) (fun _ => b2 (S_Al_size x4 μ) (fun x7 m7 => if x7 ≤ v3 then gd (¬ okZ 0 = true) (some (0, m7)) else b1 (gR m7 v0 7 6) (fun x14 => b1 (rc m7 x14 0) (fun _ => b2 (S_Al_get x14 v3 m7) (fun x18 m18 => b1 (cK m18 x18 5) (fun _ => b1 (rc m18 x18 5) (fun _ => b2 (S_Li_isWithin x18 v1 v2 m18) (fun x26 m26 => if x26 = 0 then (fun v0 v1 v2 v3 μ => B_Pl_isLinkedWithin_2 n v0 v1 v2 v3 μ) v0 v1 v2 (v3 + 1) m26 else gd (¬ okZ 1 = true) (some (1, m26)))))))))))
set_option maxHeartbeats 4000000 in
set_option maxRecDepth 100000 in
theorem w_Pl_isLinkedWithin_2 {X : CX} (E : EV X prog_8_method_8_code 4 "PlaceFinder$Place" (some .boolean)) {μ0 μ' : Mem} {r : Int32} (hQ : RQ X 0 0 μ0 (some (vI r)) μ') (hR : xR X = { frames := 3, cells := 0, slots := 0, locals := 64 }) (hI : X.2.2.2.2.2.2.2.2.2.2.2.1.name = "isLinkedWithin")  (n : Nat) : ∀ (v0 : Option Nat) (v1 : Int32) (v2 : Int32) (v3 : Int32) (μ : Mem) (h : B_Pl_isLinkedWithin_2  n v0 v1 v2 v3 μ = some (r, μ')), WM X 4 2 [(0, vR v0), (1, vI v1), (2, vI v2), (3, vI v3)] [] 0 0 μ := by
  induction n with
  | zero => intro v0 v1 v2 v3 μ h; cases h
  | succ n ih =>
    intro v0 v1 v2 v3 μ h
    have h : (b1 (gR μ v0 7 6) (fun x4 => b1 (rc μ x4 0) (fun _ => b2 (S_Al_size x4 μ) (fun x7 m7 => if x7 ≤ v3 then gd (¬ okZ 0 = true) (some (0, m7)) else b1 (gR m7 v0 7 6) (fun x14 => b1 (rc m7 x14 0) (fun _ => b2 (S_Al_get x14 v3 m7) (fun x18 m18 => b1 (cK m18 x18 5) (fun _ => b1 (rc m18 x18 5) (fun _ => b2 (S_Li_isWithin x18 v1 v2 m18) (fun x26 m26 => if x26 = 0 then (fun v0 v1 v2 v3 μ => B_Pl_isLinkedWithin_2 n v0 v1 v2 v3 μ) v0 v1 v2 (v3 + 1) m26 else gd (¬ okZ 1 = true) (some (1, m26)))))))))))) = some (r, μ') := h
    refine wm_iload_n E dPl_isLinkedWithin_2 rfl (j := 3) rfl ?_
    refine wm_aload_n E dPl_isLinkedWithin_3 rfl (j := 0) rfl ?_
    refine wm_gR E fd_Pl_29 h dPl_isLinkedWithin_4 (fun x4 h => ?_)
    obtain ⟨u7, hr7, h⟩ := b1S h
    obtain ⟨x7, m7, hc7, h⟩ := b2S h
    refine wm_cV (ci := 0) (As := []) (st := [vI v3]) E lk_Pl_38 rfl im_Al_size sl_Al_size hr7 (C_Al_size (xl X) X.1 x4 μ _ _ hc7) rfl rfl (by rw [hR]; decide) (by rw [hR]; decide) (Nat.le_of_ble_eq_true rfl) dPl_isLinkedWithin_7 ?_
    refine wm_icmp_ge (tgt := 40) E dPl_isLinkedWithin_10 (by decide) (fun c10 => ?_) (fun c10 => ?_)
    · have h := (if_pos c10).symm.trans h
      refine wm_iconst (x := 0) E dPl_isLinkedWithin_40 (by decide) ?_
      obtain ⟨hz41, h⟩ := gdS h
      exact wm_zret (rt := .boolean) E hQ (rtI h) (rtM h) (okZN hz41) (by decide) (by decide) dPl_isLinkedWithin_41
    · have h := (if_neg c10).symm.trans h
      refine wm_aload_n E dPl_isLinkedWithin_13 rfl (j := 0) rfl ?_
      refine wm_gR E fd_Pl_29 h dPl_isLinkedWithin_14 (fun x14 h => ?_)
      refine wm_iload_n E dPl_isLinkedWithin_17 rfl (j := 3) rfl ?_
      obtain ⟨u18, hr18, h⟩ := b1S h
      obtain ⟨x18, m18, hc18, h⟩ := b2S h
      refine wm_cV (ci := 0) (As := [vI v3]) (st := []) E lk_Pl_46 rfl im_Al_get sl_Al_get hr18 (C_Al_get (xl X) X.1 x14 v3 m7 _ _ hc18) rfl rfl (by rw [hR]; decide) (by rw [hR]; decide) (Nat.le_of_ble_eq_true rfl) dPl_isLinkedWithin_18 ?_
      refine wm_ckc (ci := 5) E rfl cl_Pl_65 h dPl_isLinkedWithin_21 (fun h => ?_)
      refine wm_iload_n E dPl_isLinkedWithin_24 rfl (j := 1) rfl ?_
      refine wm_iload_n E dPl_isLinkedWithin_25 rfl (j := 2) rfl ?_
      obtain ⟨u26, hr26, h⟩ := b1S h
      obtain ⟨x26, m26, hc26, h⟩ := b2S h
      refine wm_cV (ci := 5) (As := [vI v1, vI v2]) (st := []) E lk_Pl_67 rfl im_Li_isWithin sl_Li_isWithin hr26 (C_Li_isWithin (xl X) X.1 x18 v1 v2 m18 _ _ hc26) rfl rfl (by rw [hR]; decide) (by rw [hR]; decide) (Nat.le_of_ble_eq_true rfl) dPl_isLinkedWithin_26 ?_
      refine wm_if_eq (tgt := 34) E dPl_isLinkedWithin_29 (by decide) (fun c29 => ?_) (fun c29 => ?_)
      · have h := (if_pos c29).symm.trans h
        refine wm_iinc (lv' := [(3, vI (v3 + 1)), (0, vR v0), (1, vI v1), (2, vI v2)]) (d := 1) E dPl_isLinkedWithin_34 (by decide) (j := 3) rfl (by decide) rfl ?_
        refine wm_goto (tgt := 2) E dPl_isLinkedWithin_37 (by decide) ?_
        refine wm_pick (lv' := [(0, vR v0), (1, vI v1), (2, vI v2), (3, vI (v3 + 1))]) [1, 2, 3, 0] rfl ?_
        exact ih v0 v1 v2 (v3 + 1) m26 h
      · have h := (if_neg c29).symm.trans h
        refine wm_iconst (x := 1) E dPl_isLinkedWithin_32 (by decide) ?_
        obtain ⟨hz33, h⟩ := gdS h
        exact wm_zret (rt := .boolean) E hQ (rtI h) (rtM h) (okZN hz33) (by decide) (by decide) dPl_isLinkedWithin_33
def S_Pl_isLinkedWithin (v0 : Option Nat) (v1 : Int32) (v2 : Int32) (μ : Mem) : Option (Int32 × Mem) := B_Pl_isLinkedWithin_2 fu v0 v1 v2 0 μ
set_option maxHeartbeats 4000000 in
set_option maxRecDepth 100000 in
theorem C_Pl_isLinkedWithin (l : Launch) (G : GG) (v0 : Option Nat) (v1 : Int32) (v2 : Int32) (μ μ' : Mem) (r : Int32) (h : S_Pl_isLinkedWithin v0 v1 v2 μ = some (r, μ')) : CT l G y_Pl_isLinkedWithin prog_8_method_8_code 4 (some .boolean) 3 0 0 64 μ [vR v0, vI v1, vI v2] (some (vI r)) μ' := by
  refine wm_met (lv := [(0, vR v0), (1, vI v1), (2, vI v2)]) (by decide +kernel) (Nat.le_of_ble_eq_true rfl) rfl (fun X E hQ hR hI => ?_)
  have h : (B_Pl_isLinkedWithin_2 fu v0 v1 v2 0 μ) = some (r, μ') := h
  refine wm_iconst (x := 0) E dPl_isLinkedWithin_0 (by decide) ?_
  refine wm_istore_n (lv' := [(3, vI 0), (0, vR v0), (1, vI v1), (2, vI v2)]) E dPl_isLinkedWithin_1 rfl (by decide) rfl ?_
  refine wm_pick (lv' := [(0, vR v0), (1, vI v1), (2, vI v2), (3, vI 0)]) [1, 2, 3, 0] rfl ?_
  exact w_Pl_isLinkedWithin_2 E hQ hR hI fu v0 v1 v2 0 μ h
def S_Li_init (v0 : Option Nat) (v1 : Option Nat) (v2 : Int32) (v3 : Int32) (μ : Mem) : Option (Unit × Mem) := b1 (rc μ v0 5) (fun _ => b1 (pV μ v0 5 0 (vR v1)) (fun m6 => b1 (pV m6 v0 5 1 (vI v2)) (fun m11 => b1 (pV m11 v0 5 2 (vI v3)) (fun m16 => some ((), m16)))))
set_option maxHeartbeats 4000000 in
set_option maxRecDepth 100000 in
theorem C_Li_init (l : Launch) (G : GG) (v0 : Option Nat) (v1 : Option Nat) (v2 : Int32) (v3 : Int32) (μ μ' : Mem) (r : Unit) (h : S_Li_init v0 v1 v2 v3 μ = some (r, μ')) : CT l G y_Li_init prog_6_method_1_code 4 none 1 0 0 60 μ [vR v0, vR v1, vI v2, vI v3] none μ' := by
  refine wm_met (lv := [(0, vR v0), (1, vR v1), (2, vI v2), (3, vI v3)]) (by decide +kernel) (Nat.le_of_ble_eq_true rfl) rfl (fun X E hQ hR hI => ?_)
  have h : (b1 (rc μ v0 5) (fun _ => b1 (pV μ v0 5 0 (vR v1)) (fun m6 => b1 (pV m6 v0 5 1 (vI v2)) (fun m11 => b1 (pV m11 v0 5 2 (vI v3)) (fun m16 => some ((), m16)))))) = some (r, μ') := h
  refine wm_aload_n E dLi_init_0 rfl (j := 0) rfl ?_
  obtain ⟨u1, hr1, h⟩ := b1S h
  refine wm_obj E hr1 oi_Li_1 (by rw [hR]; decide) (by rw [hR]; decide) rfl dLi_init_1 ?_
  refine wm_aload_n E dLi_init_4 rfl (j := 0) rfl ?_
  refine wm_aload_n E dLi_init_5 rfl (j := 1) rfl ?_
  refine wm_pR E fp_Li_7 (Or.inl ⟨_, rfl⟩) (fun _ => hI) h dLi_init_6 (fun m6 h => ?_)
  refine wm_aload_n E dLi_init_9 rfl (j := 0) rfl ?_
  refine wm_iload_n E dLi_init_10 rfl (j := 2) rfl ?_
  refine wm_pI E fp_Li_13 (fun _ => hI) h dLi_init_11 (fun m11 h => ?_)
  refine wm_aload_n E dLi_init_14 rfl (j := 0) rfl ?_
  refine wm_iload_n E dLi_init_15 rfl (j := 3) rfl ?_
  refine wm_pI E fp_Li_17 (fun _ => hI) h dLi_init_16 (fun m16 h => ?_)
  exact wm_vret E hQ rfl (rtM h) (by decide) (by decide) dLi_init_19
def B_Pl_isRemovedOn_13  (s0 : Int32) (μ : Mem) : Option (Int32 × Mem) := gd (¬ okZ s0 = true) (some (s0, μ))
set_option maxHeartbeats 4000000 in
set_option maxRecDepth 100000 in
theorem w_Pl_isRemovedOn_13 {X : CX} (E : EV X prog_8_method_5_code 2 "PlaceFinder$Place" (some .boolean)) {μ0 μ' : Mem} {r : Int32} (hQ : RQ X 0 0 μ0 (some (vI r)) μ') (hR : xR X = { frames := 0, cells := 0, slots := 0, locals := 0 }) (hI : X.2.2.2.2.2.2.2.2.2.2.2.1.name = "isRemovedOn")  (s0 : Int32) (μ : Mem) (h : B_Pl_isRemovedOn_13  s0 μ = some (r, μ')) : WM X 2 13 [] [vI s0] 0 0 μ := by
  have h : (gd (¬ okZ s0 = true) (some (s0, μ))) = some (r, μ') := h
  obtain ⟨hz13, h⟩ := gdS h
  exact wm_zret (rt := .boolean) E hQ (rtI h) (rtM h) (okZN hz13) (by decide) (by decide) dPl_isRemovedOn_13
def S_Pl_isRemovedOn (v0 : Option Nat) (v1 : Int32) (μ : Mem) : Option (Int32 × Mem) := b1 (gI μ v0 7 2) (fun x1 => if v1 < x1 then B_Pl_isRemovedOn_13 0 μ else B_Pl_isRemovedOn_13 1 μ)
set_option maxHeartbeats 4000000 in
set_option maxRecDepth 100000 in
theorem C_Pl_isRemovedOn (l : Launch) (G : GG) (v0 : Option Nat) (v1 : Int32) (μ μ' : Mem) (r : Int32) (h : S_Pl_isRemovedOn v0 v1 μ = some (r, μ')) : CT l G y_Pl_isRemovedOn prog_8_method_5_code 2 (some .boolean) 0 0 0 0 μ [vR v0, vI v1] (some (vI r)) μ' := by
  refine wm_met (lv := [(0, vR v0), (1, vI v1)]) (by decide +kernel) (Nat.le_of_ble_eq_true rfl) rfl (fun X E hQ hR hI => ?_)
  have h : (b1 (gI μ v0 7 2) (fun x1 => if v1 < x1 then B_Pl_isRemovedOn_13 0 μ else B_Pl_isRemovedOn_13 1 μ)) = some (r, μ') := h
  refine wm_aload_n E dPl_isRemovedOn_0 rfl (j := 0) rfl ?_
  refine wm_gI E fd_Pl_9 h dPl_isRemovedOn_1 (fun x1 h => ?_)
  refine wm_iload_n E dPl_isRemovedOn_4 rfl (j := 1) rfl ?_
  refine wm_icmp_gt (tgt := 12) E dPl_isRemovedOn_5 (by decide) (fun c5 => ?_) (fun c5 => ?_)
  · have h := (if_pos c5).symm.trans h
    refine wm_iconst (x := 0) E dPl_isRemovedOn_12 (by decide) ?_
    refine wm_pick (lv' := []) [] rfl ?_
    exact w_Pl_isRemovedOn_13 E hQ hR hI 0 μ h
  · have h := (if_neg c5).symm.trans h
    refine wm_iconst (x := 1) E dPl_isRemovedOn_8 (by decide) ?_
    refine wm_goto (tgt := 13) E dPl_isRemovedOn_9 (by decide) ?_
    refine wm_pick (lv' := []) [] rfl ?_
    exact w_Pl_isRemovedOn_13 E hQ hR hI 1 μ h
def B_P_isDistance_16  (s0 : Int32) (μ : Mem) : Option (Int32 × Mem) := gd (¬ okZ s0 = true) (some (s0, μ))
set_option maxHeartbeats 4000000 in
set_option maxRecDepth 100000 in
theorem w_P_isDistance_16 {X : CX} (E : EV X prog_1_method_26_code 1 "PlaceFinder" (some .boolean)) {μ0 μ' : Mem} {r : Int32} (hQ : RQ X 0 0 μ0 (some (vI r)) μ') (hR : xR X = { frames := 0, cells := 0, slots := 0, locals := 0 }) (hI : X.2.2.2.2.2.2.2.2.2.2.2.1.name = "isDistance")  (s0 : Int32) (μ : Mem) (h : B_P_isDistance_16  s0 μ = some (r, μ')) : WM X 1 16 [] [vI s0] 0 0 μ := by
  have h : (gd (¬ okZ s0 = true) (some (s0, μ))) = some (r, μ') := h
  obtain ⟨hz16, h⟩ := gdS h
  exact wm_zret (rt := .boolean) E hQ (rtI h) (rtM h) (okZN hz16) (by decide) (by decide) dP_isDistance_16
def B_P_isDistance_15   (μ : Mem) : Option (Int32 × Mem) := B_P_isDistance_16 0 μ
set_option maxHeartbeats 4000000 in
set_option maxRecDepth 100000 in
theorem w_P_isDistance_15 {X : CX} (E : EV X prog_1_method_26_code 1 "PlaceFinder" (some .boolean)) {μ0 μ' : Mem} {r : Int32} (hQ : RQ X 0 0 μ0 (some (vI r)) μ') (hR : xR X = { frames := 0, cells := 0, slots := 0, locals := 0 }) (hI : X.2.2.2.2.2.2.2.2.2.2.2.1.name = "isDistance")   (μ : Mem) (h : B_P_isDistance_15   μ = some (r, μ')) : WM X 1 15 [] [] 0 0 μ := by
  have h : (B_P_isDistance_16 0 μ) = some (r, μ') := h
  refine wm_iconst (x := 0) E dP_isDistance_15 (by decide) ?_
  refine wm_pick (lv' := []) [] rfl ?_
  exact w_P_isDistance_16 E hQ hR hI 0 μ h
def S_P_isDistance (v0 : Int32) (μ : Mem) : Option (Int32 × Mem) := if v0 < 0 then B_P_isDistance_15 μ else if 10000 < v0 then B_P_isDistance_15 μ else B_P_isDistance_16 1 μ
set_option maxHeartbeats 4000000 in
set_option maxRecDepth 100000 in
theorem C_P_isDistance (l : Launch) (G : GG) (v0 : Int32) (μ μ' : Mem) (r : Int32) (h : S_P_isDistance v0 μ = some (r, μ')) : CT l G y_P_isDistance prog_1_method_26_code 1 (some .boolean) 0 0 0 0 μ [vI v0] (some (vI r)) μ' := by
  refine wm_met (lv := [(0, vI v0)]) (by decide +kernel) (Nat.le_of_ble_eq_true rfl) rfl (fun X E hQ hR hI => ?_)
  have h : (if v0 < 0 then B_P_isDistance_15 μ else if 10000 < v0 then B_P_isDistance_15 μ else B_P_isDistance_16 1 μ) = some (r, μ') := h
  refine wm_iload_n E dP_isDistance_0 rfl (j := 0) rfl ?_
  refine wm_if_lt (tgt := 15) E dP_isDistance_1 (by decide) (fun c1 => ?_) (fun c1 => ?_)
  · have h := (if_pos c1).symm.trans h
    refine wm_pick (lv' := []) [] rfl ?_
    exact w_P_isDistance_15 E hQ hR hI μ h
  · have h := (if_neg c1).symm.trans h
    refine wm_iload_n E dP_isDistance_4 rfl (j := 0) rfl ?_
    refine wm_sipush (x := 10000) E dP_isDistance_5 (by decide) ?_
    refine wm_icmp_gt (tgt := 15) E dP_isDistance_8 (by decide) (fun c8 => ?_) (fun c8 => ?_)
    · have h := (if_pos c8).symm.trans h
      refine wm_pick (lv' := []) [] rfl ?_
      exact w_P_isDistance_15 E hQ hR hI μ h
    · have h := (if_neg c8).symm.trans h
      refine wm_iconst (x := 1) E dP_isDistance_11 (by decide) ?_
      refine wm_goto (tgt := 16) E dP_isDistance_12 (by decide) ?_
      refine wm_pick (lv' := []) [] rfl ?_
      exact w_P_isDistance_16 E hQ hR hI 1 μ h
def B_P_areCondition_52   (μ : Mem) : Option (Int32 × Mem) := gd (¬ okZ 1 = true) (some (1, μ))
set_option maxHeartbeats 4000000 in
set_option maxRecDepth 100000 in
theorem w_P_areCondition_52 {X : CX} (E : EV X prog_1_method_27_code 5 "PlaceFinder" (some .boolean)) {μ0 μ' : Mem} {r : Int32} (hQ : RQ X 0 0 μ0 (some (vI r)) μ') (hR : xR X = { frames := 4, cells := 0, slots := 0, locals := 85 }) (hI : X.2.2.2.2.2.2.2.2.2.2.2.1.name = "areCondition")   (μ : Mem) (h : B_P_areCondition_52   μ = some (r, μ')) : WM X 5 52 [] [] 0 0 μ := by
  have h : (gd (¬ okZ 1 = true) (some (1, μ))) = some (r, μ') := h
  refine wm_iconst (x := 1) E dP_areCondition_52 (by decide) ?_
  obtain ⟨hz53, h⟩ := gdS h
  exact wm_zret (rt := .boolean) E hQ (rtI h) (rtM h) (okZN hz53) (by decide) (by decide) dP_areCondition_53
def B_P_areCondition_68  (s0 : Int32) (μ : Mem) : Option (Int32 × Mem) := gd (¬ okZ s0 = true) (some (s0, μ))
set_option maxHeartbeats 4000000 in
set_option maxRecDepth 100000 in
theorem w_P_areCondition_68 {X : CX} (E : EV X prog_1_method_27_code 5 "PlaceFinder" (some .boolean)) {μ0 μ' : Mem} {r : Int32} (hQ : RQ X 0 0 μ0 (some (vI r)) μ') (hR : xR X = { frames := 4, cells := 0, slots := 0, locals := 85 }) (hI : X.2.2.2.2.2.2.2.2.2.2.2.1.name = "areCondition")  (s0 : Int32) (μ : Mem) (h : B_P_areCondition_68  s0 μ = some (r, μ')) : WM X 5 68 [] [vI s0] 0 0 μ := by
  have h : (gd (¬ okZ s0 = true) (some (s0, μ))) = some (r, μ') := h
  obtain ⟨hz68, h⟩ := gdS h
  exact wm_zret (rt := .boolean) E hQ (rtI h) (rtM h) (okZN hz68) (by decide) (by decide) dP_areCondition_68
def B_P_areCondition_67   (μ : Mem) : Option (Int32 × Mem) := B_P_areCondition_68 0 μ
set_option maxHeartbeats 4000000 in
set_option maxRecDepth 100000 in
theorem w_P_areCondition_67 {X : CX} (E : EV X prog_1_method_27_code 5 "PlaceFinder" (some .boolean)) {μ0 μ' : Mem} {r : Int32} (hQ : RQ X 0 0 μ0 (some (vI r)) μ') (hR : xR X = { frames := 4, cells := 0, slots := 0, locals := 85 }) (hI : X.2.2.2.2.2.2.2.2.2.2.2.1.name = "areCondition")   (μ : Mem) (h : B_P_areCondition_67   μ = some (r, μ')) : WM X 5 67 [] [] 0 0 μ := by
  have h : (B_P_areCondition_68 0 μ) = some (r, μ') := h
  refine wm_iconst (x := 0) E dP_areCondition_67 (by decide) ?_
  refine wm_pick (lv' := []) [] rfl ?_
  exact w_P_areCondition_68 E hQ hR hI 0 μ h
def B_P_areCondition_87  (s0 : Int32) (μ : Mem) : Option (Int32 × Mem) := gd (¬ okZ s0 = true) (some (s0, μ))
set_option maxHeartbeats 4000000 in
set_option maxRecDepth 100000 in
theorem w_P_areCondition_87 {X : CX} (E : EV X prog_1_method_27_code 5 "PlaceFinder" (some .boolean)) {μ0 μ' : Mem} {r : Int32} (hQ : RQ X 0 0 μ0 (some (vI r)) μ') (hR : xR X = { frames := 4, cells := 0, slots := 0, locals := 85 }) (hI : X.2.2.2.2.2.2.2.2.2.2.2.1.name = "areCondition")  (s0 : Int32) (μ : Mem) (h : B_P_areCondition_87  s0 μ = some (r, μ')) : WM X 5 87 [] [vI s0] 0 0 μ := by
  have h : (gd (¬ okZ s0 = true) (some (s0, μ))) = some (r, μ') := h
  obtain ⟨hz87, h⟩ := gdS h
  exact wm_zret (rt := .boolean) E hQ (rtI h) (rtM h) (okZN hz87) (by decide) (by decide) dP_areCondition_87
def B_P_areCondition_74  (v0 : Option Nat) (v2 : Int32) (μ : Mem) : Option (Int32 × Mem) := b1 (rc μ v0 11) (fun _ => b2 (S_P_placeOf v0 v2 μ) (fun x76 m76 => if x76 = none then B_P_areCondition_87 0 m76 else B_P_areCondition_87 1 m76))
set_option maxHeartbeats 4000000 in
set_option maxRecDepth 100000 in
theorem w_P_areCondition_74 {X : CX} (E : EV X prog_1_method_27_code 5 "PlaceFinder" (some .boolean)) {μ0 μ' : Mem} {r : Int32} (hQ : RQ X 0 0 μ0 (some (vI r)) μ') (hR : xR X = { frames := 4, cells := 0, slots := 0, locals := 85 }) (hI : X.2.2.2.2.2.2.2.2.2.2.2.1.name = "areCondition")  (v0 : Option Nat) (v2 : Int32) (μ : Mem) (h : B_P_areCondition_74  v0 v2 μ = some (r, μ')) : WM X 5 74 [(0, vR v0), (2, vI v2)] [] 0 0 μ := by
  have h : (b1 (rc μ v0 11) (fun _ => b2 (S_P_placeOf v0 v2 μ) (fun x76 m76 => if x76 = none then B_P_areCondition_87 0 m76 else B_P_areCondition_87 1 m76))) = some (r, μ') := h
  refine wm_aload_n E dP_areCondition_74 rfl (j := 0) rfl ?_
  refine wm_iload_n E dP_areCondition_75 rfl (j := 1) rfl ?_
  obtain ⟨u76, hr76, h⟩ := b1S h
  obtain ⟨x76, m76, hc76, h⟩ := b2S h
  refine wm_cV (ci := 11) (As := [vI v2]) (st := []) E lk_P_124 rfl im_P_placeOf sl_P_placeOf hr76 (C_P_placeOf (xl X) X.1 v0 v2 μ _ _ hc76) rfl rfl (by rw [hR]; decide) (by rw [hR]; decide) (Nat.le_of_ble_eq_true rfl) dP_areCondition_76 ?_
  refine wm_ifnull (tgt := 86) E dP_areCondition_79 (by decide) (fun c79 => ?_) (fun c79 => ?_)
  · have h := (if_pos c79).symm.trans h
    refine wm_iconst (x := 0) E dP_areCondition_86 (by decide) ?_
    refine wm_pick (lv' := []) [] rfl ?_
    exact w_P_areCondition_87 E hQ hR hI 0 m76 h
  · have h := (if_neg c79).symm.trans h
    refine wm_iconst (x := 1) E dP_areCondition_82 (by decide) ?_
    refine wm_goto (tgt := 87) E dP_areCondition_83 (by decide) ?_
    refine wm_pick (lv' := []) [] rfl ?_
    exact w_P_areCondition_87 E hQ hR hI 1 m76 h
def B_P_areCondition_109  (s0 : Int32) (μ : Mem) : Option (Int32 × Mem) := gd (¬ okZ s0 = true) (some (s0, μ))
set_option maxHeartbeats 4000000 in
set_option maxRecDepth 100000 in
theorem w_P_areCondition_109 {X : CX} (E : EV X prog_1_method_27_code 5 "PlaceFinder" (some .boolean)) {μ0 μ' : Mem} {r : Int32} (hQ : RQ X 0 0 μ0 (some (vI r)) μ') (hR : xR X = { frames := 4, cells := 0, slots := 0, locals := 85 }) (hI : X.2.2.2.2.2.2.2.2.2.2.2.1.name = "areCondition")  (s0 : Int32) (μ : Mem) (h : B_P_areCondition_109  s0 μ = some (r, μ')) : WM X 5 109 [] [vI s0] 0 0 μ := by
  have h : (gd (¬ okZ s0 = true) (some (s0, μ))) = some (r, μ') := h
  obtain ⟨hz109, h⟩ := gdS h
  exact wm_zret (rt := .boolean) E hQ (rtI h) (rtM h) (okZN hz109) (by decide) (by decide) dP_areCondition_109
def B_P_areCondition_108   (μ : Mem) : Option (Int32 × Mem) := B_P_areCondition_109 0 μ
set_option maxHeartbeats 4000000 in
set_option maxRecDepth 100000 in
theorem w_P_areCondition_108 {X : CX} (E : EV X prog_1_method_27_code 5 "PlaceFinder" (some .boolean)) {μ0 μ' : Mem} {r : Int32} (hQ : RQ X 0 0 μ0 (some (vI r)) μ') (hR : xR X = { frames := 4, cells := 0, slots := 0, locals := 85 }) (hI : X.2.2.2.2.2.2.2.2.2.2.2.1.name = "areCondition")   (μ : Mem) (h : B_P_areCondition_108   μ = some (r, μ')) : WM X 5 108 [] [] 0 0 μ := by
  have h : (B_P_areCondition_109 0 μ) = some (r, μ') := h
  refine wm_iconst (x := 0) E dP_areCondition_108 (by decide) ?_
  refine wm_pick (lv' := []) [] rfl ?_
  exact w_P_areCondition_109 E hQ hR hI 0 μ h
def S_P_areCondition (v0 : Option Nat) (v1 : Int32) (v2 : Int32) (v3 : Int32) (v4 : Int32) (μ : Mem) : Option (Int32 × Mem) := if v1 = 0 then B_P_areCondition_52 μ else if v1 = 1 then B_P_areCondition_52 μ else if v1 = 2 then if v2 < 0 then B_P_areCondition_67 μ else if 2 < v2 then B_P_areCondition_67 μ else B_P_areCondition_68 1 μ else if v1 = 3 then B_P_areCondition_52 μ else if v1 = 4 then b2 (S_P_isKind v2 μ) (fun x70 m70 => gd (¬ okZ x70 = true) (some (x70, m70))) else if v1 = 5 then B_P_areCondition_74 v0 v2 μ else if v1 = 6 then B_P_areCondition_74 v0 v2 μ else if v1 = 7 then b2 (S_P_arePosition v2 v3 μ) (fun x90 m90 => if x90 = 0 then B_P_areCondition_108 m90 else b2 (S_P_isDistance v4 m90) (fun x98 m98 => if x98 = 0 then B_P_areCondition_108 m98 else B_P_areCondition_109 1 m98)) else if v1 = 8 then b2 (S_P_isDistance v2 μ) (fun x111 m111 => gd (¬ okZ x111 = true) (some (x111, m111))) else gd (¬ okZ 0 = true) (some (0, μ))
set_option maxHeartbeats 4000000 in
set_option maxRecDepth 100000 in
theorem C_P_areCondition (l : Launch) (G : GG) (v0 : Option Nat) (v1 : Int32) (v2 : Int32) (v3 : Int32) (v4 : Int32) (μ μ' : Mem) (r : Int32) (h : S_P_areCondition v0 v1 v2 v3 v4 μ = some (r, μ')) : CT l G y_P_areCondition prog_1_method_27_code 5 (some .boolean) 4 0 0 85 μ [vR v0, vI v1, vI v2, vI v3, vI v4] (some (vI r)) μ' := by
  refine wm_met (lv := [(0, vR v0), (1, vI v1), (2, vI v2), (3, vI v3), (4, vI v4)]) (by decide +kernel) (Nat.le_of_ble_eq_true rfl) rfl (fun X E hQ hR hI => ?_)
  have h : (if v1 = 0 then B_P_areCondition_52 μ else if v1 = 1 then B_P_areCondition_52 μ else if v1 = 2 then if v2 < 0 then B_P_areCondition_67 μ else if 2 < v2 then B_P_areCondition_67 μ else B_P_areCondition_68 1 μ else if v1 = 3 then B_P_areCondition_52 μ else if v1 = 4 then b2 (S_P_isKind v2 μ) (fun x70 m70 => gd (¬ okZ x70 = true) (some (x70, m70))) else if v1 = 5 then B_P_areCondition_74 v0 v2 μ else if v1 = 6 then B_P_areCondition_74 v0 v2 μ else if v1 = 7 then b2 (S_P_arePosition v2 v3 μ) (fun x90 m90 => if x90 = 0 then B_P_areCondition_108 m90 else b2 (S_P_isDistance v4 m90) (fun x98 m98 => if x98 = 0 then B_P_areCondition_108 m98 else B_P_areCondition_109 1 m98)) else if v1 = 8 then b2 (S_P_isDistance v2 μ) (fun x111 m111 => gd (¬ okZ x111 = true) (some (x111, m111))) else gd (¬ okZ 0 = true) (some (0, μ))) = some (r, μ') := h
  refine wm_iload_n E dP_areCondition_0 rfl (j := 1) rfl ?_
  by_cases c1_0 : v1 = 0
  · have h := (if_pos c1_0).symm.trans h
    refine wm_tabIn (tgt := 52) E dP_areCondition_1 (0) ((congrArg Int32.toInt c1_0).trans (by decide)) (by decide) (by decide) rfl (by decide) ?_
    refine wm_pick (lv' := []) [] rfl ?_
    exact w_P_areCondition_52 E hQ hR hI μ h
  · have h := (if_neg c1_0).symm.trans h
    by_cases c1_1 : v1 = 1
    · have h := (if_pos c1_1).symm.trans h
      refine wm_tabIn (tgt := 52) E dP_areCondition_1 (1) ((congrArg Int32.toInt c1_1).trans (by decide)) (by decide) (by decide) rfl (by decide) ?_
      refine wm_pick (lv' := []) [] rfl ?_
      exact w_P_areCondition_52 E hQ hR hI μ h
    · have h := (if_neg c1_1).symm.trans h
      by_cases c1_2 : v1 = 2
      · have h := (if_pos c1_2).symm.trans h
        refine wm_tabIn (tgt := 54) E dP_areCondition_1 (2) ((congrArg Int32.toInt c1_2).trans (by decide)) (by decide) (by decide) rfl (by decide) ?_
        refine wm_iload_n E dP_areCondition_54 rfl (j := 2) rfl ?_
        refine wm_if_lt (tgt := 67) E dP_areCondition_55 (by decide) (fun c55 => ?_) (fun c55 => ?_)
        · have h := (if_pos c55).symm.trans h
          refine wm_pick (lv' := []) [] rfl ?_
          exact w_P_areCondition_67 E hQ hR hI μ h
        · have h := (if_neg c55).symm.trans h
          refine wm_iload_n E dP_areCondition_58 rfl (j := 2) rfl ?_
          refine wm_iconst (x := 2) E dP_areCondition_59 (by decide) ?_
          refine wm_icmp_gt (tgt := 67) E dP_areCondition_60 (by decide) (fun c60 => ?_) (fun c60 => ?_)
          · have h := (if_pos c60).symm.trans h
            refine wm_pick (lv' := []) [] rfl ?_
            exact w_P_areCondition_67 E hQ hR hI μ h
          · have h := (if_neg c60).symm.trans h
            refine wm_iconst (x := 1) E dP_areCondition_63 (by decide) ?_
            refine wm_goto (tgt := 68) E dP_areCondition_64 (by decide) ?_
            refine wm_pick (lv' := []) [] rfl ?_
            exact w_P_areCondition_68 E hQ hR hI 1 μ h
      · have h := (if_neg c1_2).symm.trans h
        by_cases c1_3 : v1 = 3
        · have h := (if_pos c1_3).symm.trans h
          refine wm_tabIn (tgt := 52) E dP_areCondition_1 (3) ((congrArg Int32.toInt c1_3).trans (by decide)) (by decide) (by decide) rfl (by decide) ?_
          refine wm_pick (lv' := []) [] rfl ?_
          exact w_P_areCondition_52 E hQ hR hI μ h
        · have h := (if_neg c1_3).symm.trans h
          by_cases c1_4 : v1 = 4
          · have h := (if_pos c1_4).symm.trans h
            refine wm_tabIn (tgt := 69) E dP_areCondition_1 (4) ((congrArg Int32.toInt c1_4).trans (by decide)) (by decide) (by decide) rfl (by decide) ?_
            refine wm_iload_n E dP_areCondition_69 rfl (j := 2) rfl ?_
            obtain ⟨x70, m70, hc70, h⟩ := b2S h
            refine wm_cS (As := [vI v2]) (st := []) E lk_P_87 sc_P_isKind (C_P_isKind (xl X) X.1 v2 μ _ _ hc70) rfl rfl (by rw [hR]; decide) (by rw [hR]; decide) (Nat.le_of_ble_eq_true rfl) dP_areCondition_70 ?_
            obtain ⟨hz73, h⟩ := gdS h
            exact wm_zret (rt := .boolean) E hQ (rtI h) (rtM h) (okZN hz73) (by decide) (by decide) dP_areCondition_73
          · have h := (if_neg c1_4).symm.trans h
            by_cases c1_5 : v1 = 5
            · have h := (if_pos c1_5).symm.trans h
              refine wm_tabIn (tgt := 74) E dP_areCondition_1 (5) ((congrArg Int32.toInt c1_5).trans (by decide)) (by decide) (by decide) rfl (by decide) ?_
              refine wm_pick (lv' := [(0, vR v0), (2, vI v2)]) [0, 2] rfl ?_
              exact w_P_areCondition_74 E hQ hR hI v0 v2 μ h
            · have h := (if_neg c1_5).symm.trans h
              by_cases c1_6 : v1 = 6
              · have h := (if_pos c1_6).symm.trans h
                refine wm_tabIn (tgt := 74) E dP_areCondition_1 (6) ((congrArg Int32.toInt c1_6).trans (by decide)) (by decide) (by decide) rfl (by decide) ?_
                refine wm_pick (lv' := [(0, vR v0), (2, vI v2)]) [0, 2] rfl ?_
                exact w_P_areCondition_74 E hQ hR hI v0 v2 μ h
              · have h := (if_neg c1_6).symm.trans h
                by_cases c1_7 : v1 = 7
                · have h := (if_pos c1_7).symm.trans h
                  refine wm_tabIn (tgt := 88) E dP_areCondition_1 (7) ((congrArg Int32.toInt c1_7).trans (by decide)) (by decide) (by decide) rfl (by decide) ?_
                  refine wm_iload_n E dP_areCondition_88 rfl (j := 2) rfl ?_
                  refine wm_iload_n E dP_areCondition_89 rfl (j := 3) rfl ?_
                  obtain ⟨x90, m90, hc90, h⟩ := b2S h
                  refine wm_cS (As := [vI v2, vI v3]) (st := []) E lk_P_116 sc_P_arePosition (C_P_arePosition (xl X) X.1 v2 v3 μ _ _ hc90) rfl rfl (by rw [hR]; decide) (by rw [hR]; decide) (Nat.le_of_ble_eq_true rfl) dP_areCondition_90 ?_
                  refine wm_if_eq (tgt := 108) E dP_areCondition_93 (by decide) (fun c93 => ?_) (fun c93 => ?_)
                  · have h := (if_pos c93).symm.trans h
                    refine wm_pick (lv' := []) [] rfl ?_
                    exact w_P_areCondition_108 E hQ hR hI m90 h
                  · have h := (if_neg c93).symm.trans h
                    refine wm_iload E dP_areCondition_96 (j := 4) rfl ?_
                    obtain ⟨x98, m98, hc98, h⟩ := b2S h
                    refine wm_cS (As := [vI v4]) (st := []) E lk_P_326 sc_P_isDistance (C_P_isDistance (xl X) X.1 v4 m90 _ _ hc98) rfl rfl (by rw [hR]; decide) (by rw [hR]; decide) (Nat.le_of_ble_eq_true rfl) dP_areCondition_98 ?_
                    refine wm_if_eq (tgt := 108) E dP_areCondition_101 (by decide) (fun c101 => ?_) (fun c101 => ?_)
                    · have h := (if_pos c101).symm.trans h
                      refine wm_pick (lv' := []) [] rfl ?_
                      exact w_P_areCondition_108 E hQ hR hI m98 h
                    · have h := (if_neg c101).symm.trans h
                      refine wm_iconst (x := 1) E dP_areCondition_104 (by decide) ?_
                      refine wm_goto (tgt := 109) E dP_areCondition_105 (by decide) ?_
                      refine wm_pick (lv' := []) [] rfl ?_
                      exact w_P_areCondition_109 E hQ hR hI 1 m98 h
                · have h := (if_neg c1_7).symm.trans h
                  by_cases c1_8 : v1 = 8
                  · have h := (if_pos c1_8).symm.trans h
                    refine wm_tabIn (tgt := 110) E dP_areCondition_1 (8) ((congrArg Int32.toInt c1_8).trans (by decide)) (by decide) (by decide) rfl (by decide) ?_
                    refine wm_iload_n E dP_areCondition_110 rfl (j := 2) rfl ?_
                    obtain ⟨x111, m111, hc111, h⟩ := b2S h
                    refine wm_cS (As := [vI v2]) (st := []) E lk_P_326 sc_P_isDistance (C_P_isDistance (xl X) X.1 v2 μ _ _ hc111) rfl rfl (by rw [hR]; decide) (by rw [hR]; decide) (Nat.le_of_ble_eq_true rfl) dP_areCondition_111 ?_
                    obtain ⟨hz114, h⟩ := gdS h
                    exact wm_zret (rt := .boolean) E hQ (rtI h) (rtM h) (okZN hz114) (by decide) (by decide) dP_areCondition_114
                  · have h := (if_neg c1_8).symm.trans h
                    have e1_0 : v1.toInt ≠ 0 := fun q => c1_0 (Int32.toInt_inj.mp (q.trans (by decide)))
                    have e1_1 : v1.toInt ≠ 1 := fun q => c1_1 (Int32.toInt_inj.mp (q.trans (by decide)))
                    have e1_2 : v1.toInt ≠ 2 := fun q => c1_2 (Int32.toInt_inj.mp (q.trans (by decide)))
                    have e1_3 : v1.toInt ≠ 3 := fun q => c1_3 (Int32.toInt_inj.mp (q.trans (by decide)))
                    have e1_4 : v1.toInt ≠ 4 := fun q => c1_4 (Int32.toInt_inj.mp (q.trans (by decide)))
                    have e1_5 : v1.toInt ≠ 5 := fun q => c1_5 (Int32.toInt_inj.mp (q.trans (by decide)))
                    have e1_6 : v1.toInt ≠ 6 := fun q => c1_6 (Int32.toInt_inj.mp (q.trans (by decide)))
                    have e1_7 : v1.toInt ≠ 7 := fun q => c1_7 (Int32.toInt_inj.mp (q.trans (by decide)))
                    have e1_8 : v1.toInt ≠ 8 := fun q => c1_8 (Int32.toInt_inj.mp (q.trans (by decide)))
                    refine wm_tabOut (tgt := 115) E dP_areCondition_1 (by omega) (by decide) ?_
                    refine wm_iconst (x := 0) E dP_areCondition_115 (by decide) ?_
                    obtain ⟨hz116, h⟩ := gdS h
                    exact wm_zret (rt := .boolean) E hQ (rtI h) (rtM h) (okZN hz116) (by decide) (by decide) dP_areCondition_116
def B_Al_clear_27  : Nat → Option Nat → Int32 → Int32 → Mem → Option (Unit × Mem)
  | 0, _, _, _, _ => none
  | n + 1, v1, v2, v3, μ => if v2 ≤ v3 then some ((), μ) else b1 (sR μ v1 4 [] v3 none) (fun m35 => (fun v1 v2 v3 μ => B_Al_clear_27 n v1 v2 v3 μ) v1 v2 (v3 + 1) m35)
set_option maxHeartbeats 4000000 in
set_option maxRecDepth 100000 in
theorem w_Al_clear_27 {X : CX} (E : EV X prog_33_method_40_code 4 "java/util/ArrayList" none) {μ0 μ' : Mem} {r : Unit} (hQ : RQ X 0 0 μ0 none μ') (hR : xR X = { frames := 0, cells := 0, slots := 0, locals := 0 }) (hI : X.2.2.2.2.2.2.2.2.2.2.2.1.name = "clear")  (n : Nat) : ∀ (v1 : Option Nat) (v2 : Int32) (v3 : Int32) (μ : Mem) (h : B_Al_clear_27  n v1 v2 v3 μ = some (r, μ')), WM X 4 27 [(1, vR v1), (2, vI v2), (3, vI v3)] [] 0 0 μ := by
  induction n with
  | zero => intro v1 v2 v3 μ h; cases h
  | succ n ih =>
    intro v1 v2 v3 μ h
    have h : (if v2 ≤ v3 then some ((), μ) else b1 (sR μ v1 4 [] v3 none) (fun m35 => (fun v1 v2 v3 μ => B_Al_clear_27 n v1 v2 v3 μ) v1 v2 (v3 + 1) m35)) = some (r, μ') := h
    refine wm_iload_n E dAl_clear_27 rfl (j := 2) rfl ?_
    refine wm_iload_n E dAl_clear_28 rfl (j := 1) rfl ?_
    refine wm_icmp_ge (tgt := 42) E dAl_clear_29 (by decide) (fun c29 => ?_) (fun c29 => ?_)
    · have h := (if_pos c29).symm.trans h
      exact wm_vret E hQ rfl (rtM h) (by decide) (by decide) dAl_clear_42
    · have h := (if_neg c29).symm.trans h
      refine wm_aload_n E dAl_clear_32 rfl (j := 0) rfl ?_
      refine wm_iload_n E dAl_clear_33 rfl (j := 2) rfl ?_
      refine wm_null E dAl_clear_34 ?_
      refine wm_aast (t := 4) (cs := []) E rfl as_Al_clear_35 h dAl_clear_35 (fun m35 h => ?_)
      refine wm_iinc (lv' := [(3, vI (v3 + 1)), (1, vR v1), (2, vI v2)]) (d := 1) E dAl_clear_36 (by decide) (j := 2) rfl (by decide) rfl ?_
      refine wm_goto (tgt := 27) E dAl_clear_39 (by decide) ?_
      refine wm_pick (lv' := [(1, vR v1), (2, vI v2), (3, vI (v3 + 1))]) [1, 2, 0] rfl ?_
      exact ih v1 v2 (v3 + 1) m35 h
def S_Al_clear (v0 : Option Nat) (μ : Mem) : Option (Unit × Mem) := b1 (gI μ v0 0 2) (fun x2 => b1 (pV μ v0 0 2 (vI (x2 + 1))) (fun m7 => b1 (gR m7 v0 0 0) (fun x11 => b1 (gI m7 v0 0 1) (fun x16 => b1 (pV m7 v0 0 1 (vI 0)) (fun m23 => B_Al_clear_27 fu x11 x16 0 m23)))))
set_option maxHeartbeats 4000000 in
set_option maxRecDepth 100000 in
theorem C_Al_clear (l : Launch) (G : GG) (v0 : Option Nat) (μ μ' : Mem) (r : Unit) (h : S_Al_clear v0 μ = some (r, μ')) : CT l G y_Al_clear prog_33_method_40_code 4 none 0 0 0 0 μ [vR v0] none μ' := by
  refine wm_met (lv := [(0, vR v0)]) (by decide +kernel) (Nat.le_of_ble_eq_true rfl) rfl (fun X E hQ hR hI => ?_)
  have h : (b1 (gI μ v0 0 2) (fun x2 => b1 (pV μ v0 0 2 (vI (x2 + 1))) (fun m7 => b1 (gR m7 v0 0 0) (fun x11 => b1 (gI m7 v0 0 1) (fun x16 => b1 (pV m7 v0 0 1 (vI 0)) (fun m23 => B_Al_clear_27 fu x11 x16 0 m23)))))) = some (r, μ') := h
  refine wm_aload_n E dAl_clear_0 rfl (j := 0) rfl ?_
  refine wm_dup E dAl_clear_1 rfl ?_
  refine wm_gI E fd_Al_63 h dAl_clear_2 (fun x2 h => ?_)
  refine wm_iconst (x := 1) E dAl_clear_5 (by decide) ?_
  refine wm_iadd E dAl_clear_6 ?_
  refine wm_pI E fp_Al_63 (fun q => by cases q) h dAl_clear_7 (fun m7 h => ?_)
  refine wm_aload_n E dAl_clear_10 rfl (j := 0) rfl ?_
  refine wm_gR E fd_Al_9 h dAl_clear_11 (fun x11 h => ?_)
  refine wm_astore_n (lv' := [(1, vR x11), (0, vR v0)]) E dAl_clear_14 rfl (by decide) rfl ?_
  refine wm_aload_n E dAl_clear_15 rfl (j := 1) rfl ?_
  refine wm_gI E fd_Al_48 h dAl_clear_16 (fun x16 h => ?_)
  refine wm_istore_n (lv' := [(2, vI x16), (1, vR x11), (0, vR v0)]) E dAl_clear_19 rfl (by decide) rfl ?_
  refine wm_aload_n E dAl_clear_20 rfl (j := 2) rfl ?_
  refine wm_iconst (x := 0) E dAl_clear_21 (by decide) ?_
  refine wm_dup_x1 E dAl_clear_22 rfl rfl ?_
  refine wm_pI E fp_Al_48 (fun q => by cases q) h dAl_clear_23 (fun m23 h => ?_)
  refine wm_istore_n (lv' := [(3, vI 0), (2, vI x16), (1, vR x11), (0, vR v0)]) E dAl_clear_26 rfl (by decide) rfl ?_
  refine wm_pick (lv' := [(1, vR x11), (2, vI x16), (3, vI 0)]) [2, 1, 0] rfl ?_
  exact w_Al_clear_27 E hQ hR hI fu x11 x16 0 m23 h
def S_P_clear (v0 : Option Nat) (μ : Mem) : Option (Unit × Mem) := b1 (gR μ v0 11 7) (fun x1 => b1 (rc μ x1 0) (fun _ => b2 (S_Al_clear x1 μ) (fun x4 m4 => some ((), m4))))
set_option maxHeartbeats 4000000 in
set_option maxRecDepth 100000 in
theorem C_P_clear (l : Launch) (G : GG) (v0 : Option Nat) (μ μ' : Mem) (r : Unit) (h : S_P_clear v0 μ = some (r, μ')) : CT l G y_P_clear prog_1_method_11_code 1 none 1 0 0 23 μ [vR v0] none μ' := by
  refine wm_met (lv := [(0, vR v0)]) (by decide +kernel) (Nat.le_of_ble_eq_true rfl) rfl (fun X E hQ hR hI => ?_)
  have h : (b1 (gR μ v0 11 7) (fun x1 => b1 (rc μ x1 0) (fun _ => b2 (S_Al_clear x1 μ) (fun x4 m4 => some ((), m4))))) = some (r, μ') := h
  refine wm_aload_n E dP_clear_0 rfl (j := 0) rfl ?_
  refine wm_gR E fd_P_43 h dP_clear_1 (fun x1 h => ?_)
  obtain ⟨u4, hr4, h⟩ := b1S h
  obtain ⟨x4, m4, hc4, h⟩ := b2S h
  refine wm_cV (ci := 0) (As := []) (st := []) E lk_P_208 rfl im_Al_clear sl_Al_clear hr4 (C_Al_clear (xl X) X.1 x1 μ _ _ hc4) rfl rfl (by rw [hR]; decide) (by rw [hR]; decide) (Nat.le_of_ble_eq_true rfl) dP_clear_4 ?_
  exact wm_vret E hQ rfl (rtM h) (by decide) (by decide) dP_clear_7
def B_P_firstNameCondition_2  : Nat → Option Nat → Int32 → Mem → Option (Option Nat × Mem)
  | 0, _, _, _ => none
  | n + 1, v0, v1, μ => b1 (gR μ v0 11 7) (fun x4 => b1 (rc μ x4 0) (fun _ => b2 (S_Al_size x4 μ) (fun x7 m7 => if x7 ≤ v1 then b1 (gR m7 v0 11 12) (fun x50 => some (x50, m7)) else b1 (gR m7 v0 11 7) (fun x14 => b1 (rc m7 x14 0) (fun _ => b2 (S_Al_get x14 v1 m7) (fun x18 m18 => b1 (cK m18 x18 1) (fun _ => b1 (gI m18 x18 1 0) (fun x24 => if 3 < x24 then (fun v0 v1 μ => B_P_firstNameCondition_2 n v0 v1 μ) v0 (v1 + 1) m18 else b1 (gR m18 v0 11 7) (fun x32 => b1 (rc m18 x32 0) (fun _ => b2 (S_Al_get x32 v1 m18) (fun x36 m36 => b1 (cK m36 x36 1) (fun _ => some (x36, m36)))))))))))))
set_option maxHeartbeats 4000000 in
set_option maxRecDepth 100000 in
theorem w_P_firstNameCondition_2 {X : CX} (E : EV X prog_1_method_37_code 2 "PlaceFinder" (some (.object "PlaceFinder$Condition"))) {μ0 μ' : Mem} {r : Option Nat} (hQ : RQ X 0 0 μ0 (some (vR r)) μ') (hR : xR X = { frames := 3, cells := 0, slots := 0, locals := 64 }) (hI : X.2.2.2.2.2.2.2.2.2.2.2.1.name = "firstNameCondition")  (n : Nat) : ∀ (v0 : Option Nat) (v1 : Int32) (μ : Mem) (h : B_P_firstNameCondition_2  n v0 v1 μ = some (r, μ')), WM X 2 2 [(0, vR v0), (1, vI v1)] [] 0 0 μ := by
  induction n with
  | zero => intro v0 v1 μ h; cases h
  | succ n ih =>
    intro v0 v1 μ h
    have h : (b1 (gR μ v0 11 7) (fun x4 => b1 (rc μ x4 0) (fun _ => b2 (S_Al_size x4 μ) (fun x7 m7 => if x7 ≤ v1 then b1 (gR m7 v0 11 12) (fun x50 => some (x50, m7)) else b1 (gR m7 v0 11 7) (fun x14 => b1 (rc m7 x14 0) (fun _ => b2 (S_Al_get x14 v1 m7) (fun x18 m18 => b1 (cK m18 x18 1) (fun _ => b1 (gI m18 x18 1 0) (fun x24 => if 3 < x24 then (fun v0 v1 μ => B_P_firstNameCondition_2 n v0 v1 μ) v0 (v1 + 1) m18 else b1 (gR m18 v0 11 7) (fun x32 => b1 (rc m18 x32 0) (fun _ => b2 (S_Al_get x32 v1 m18) (fun x36 m36 => b1 (cK m36 x36 1) (fun _ => some (x36, m36)))))))))))))) = some (r, μ') := h
    refine wm_iload_n E dP_firstNameCondition_2 rfl (j := 1) rfl ?_
    refine wm_aload_n E dP_firstNameCondition_3 rfl (j := 0) rfl ?_
    refine wm_gR E fd_P_43 h dP_firstNameCondition_4 (fun x4 h => ?_)
    obtain ⟨u7, hr7, h⟩ := b1S h
    obtain ⟨x7, m7, hc7, h⟩ := b2S h
    refine wm_cV (ci := 0) (As := []) (st := [vI v1]) E lk_P_98 rfl im_Al_size sl_Al_size hr7 (C_Al_size (xl X) X.1 x4 μ _ _ hc7) rfl rfl (by rw [hR]; decide) (by rw [hR]; decide) (Nat.le_of_ble_eq_true rfl) dP_firstNameCondition_7 ?_
    refine wm_icmp_ge (tgt := 49) E dP_firstNameCondition_10 (by decide) (fun c10 => ?_) (fun c10 => ?_)
    · have h := (if_pos c10).symm.trans h
      refine wm_aload_n E dP_firstNameCondition_49 rfl (j := 0) rfl ?_
      refine wm_gR E fd_P_83 h dP_firstNameCondition_50 (fun x50 h => ?_)
      exact wm_aret E hQ (rtR h) (rtM h) (Or.inl ⟨_, rfl⟩) (by decide) (by decide) dP_firstNameCondition_53
    · have h := (if_neg c10).symm.trans h
      refine wm_aload_n E dP_firstNameCondition_13 rfl (j := 0) rfl ?_
      refine wm_gR E fd_P_43 h dP_firstNameCondition_14 (fun x14 h => ?_)
      refine wm_iload_n E dP_firstNameCondition_17 rfl (j := 1) rfl ?_
      obtain ⟨u18, hr18, h⟩ := b1S h
      obtain ⟨x18, m18, hc18, h⟩ := b2S h
      refine wm_cV (ci := 0) (As := [vI v1]) (st := []) E lk_P_223 rfl im_Al_get sl_Al_get hr18 (C_Al_get (xl X) X.1 x14 v1 m7 _ _ hc18) rfl rfl (by rw [hR]; decide) (by rw [hR]; decide) (Nat.le_of_ble_eq_true rfl) dP_firstNameCondition_18 ?_
      refine wm_ckc (ci := 1) E rfl cl_P_73 h dP_firstNameCondition_21 (fun h => ?_)
      refine wm_gI E fd_P_352 h dP_firstNameCondition_24 (fun x24 h => ?_)
      refine wm_iconst (x := 3) E dP_firstNameCondition_27 (by decide) ?_
      refine wm_icmp_gt (tgt := 43) E dP_firstNameCondition_28 (by decide) (fun c28 => ?_) (fun c28 => ?_)
      · have h := (if_pos c28).symm.trans h
        refine wm_iinc (lv' := [(1, vI (v1 + 1)), (0, vR v0)]) (d := 1) E dP_firstNameCondition_43 (by decide) (j := 1) rfl (by decide) rfl ?_
        refine wm_goto (tgt := 2) E dP_firstNameCondition_46 (by decide) ?_
        refine wm_pick (lv' := [(0, vR v0), (1, vI (v1 + 1))]) [1, 0] rfl ?_
        exact ih v0 (v1 + 1) m18 h
      · have h := (if_neg c28).symm.trans h
        refine wm_aload_n E dP_firstNameCondition_31 rfl (j := 0) rfl ?_
        refine wm_gR E fd_P_43 h dP_firstNameCondition_32 (fun x32 h => ?_)
        refine wm_iload_n E dP_firstNameCondition_35 rfl (j := 1) rfl ?_
        obtain ⟨u36, hr36, h⟩ := b1S h
        obtain ⟨x36, m36, hc36, h⟩ := b2S h
        refine wm_cV (ci := 0) (As := [vI v1]) (st := []) E lk_P_223 rfl im_Al_get sl_Al_get hr36 (C_Al_get (xl X) X.1 x32 v1 m18 _ _ hc36) rfl rfl (by rw [hR]; decide) (by rw [hR]; decide) (Nat.le_of_ble_eq_true rfl) dP_firstNameCondition_36 ?_
        refine wm_ckc (ci := 1) E rfl cl_P_73 h dP_firstNameCondition_39 (fun h => ?_)
        exact wm_aret E hQ (rtR h) (rtM h) (Or.inl ⟨_, rfl⟩) (by decide) (by decide) dP_firstNameCondition_42
def S_P_firstNameCondition (v0 : Option Nat) (μ : Mem) : Option (Option Nat × Mem) := B_P_firstNameCondition_2 fu v0 0 μ
set_option maxHeartbeats 4000000 in
set_option maxRecDepth 100000 in
theorem C_P_firstNameCondition (l : Launch) (G : GG) (v0 : Option Nat) (μ μ' : Mem) (r : Option Nat) (h : S_P_firstNameCondition v0 μ = some (r, μ')) : CT l G y_P_firstNameCondition prog_1_method_37_code 2 (some (.object "PlaceFinder$Condition")) 3 0 0 64 μ [vR v0] (some (vR r)) μ' := by
  refine wm_met (lv := [(0, vR v0)]) (by decide +kernel) (Nat.le_of_ble_eq_true rfl) rfl (fun X E hQ hR hI => ?_)
  have h : (B_P_firstNameCondition_2 fu v0 0 μ) = some (r, μ') := h
  refine wm_iconst (x := 0) E dP_firstNameCondition_0 (by decide) ?_
  refine wm_istore_n (lv' := [(1, vI 0), (0, vR v0)]) E dP_firstNameCondition_1 rfl (by decide) rfl ?_
  refine wm_pick (lv' := [(0, vR v0), (1, vI 0)]) [1, 0] rfl ?_
  exact w_P_firstNameCondition_2 E hQ hR hI fu v0 0 μ h
def B_P_firstAround_2  : Nat → Option Nat → Int32 → Mem → Option (Option Nat × Mem)
  | 0, _, _, _ => none
  | n + 1, v0, v1, μ => b1 (gR μ v0 11 7) (fun x4 => b1 (rc μ x4 0) (fun _ => b2 (S_Al_size x4 μ) (fun x7 m7 => if x7 ≤ v1 then some (none, m7) else b1 (gR m7 v0 11 7) (fun x14 => b1 (rc m7 x14 0) (fun _ => b2 (S_Al_get x14 v1 m7) (fun x18 m18 => b1 (cK m18 x18 1) (fun _ => b1 (gI m18 x18 1 0) (fun x24 => if x24 = 7 then b1 (gR m18 v0 11 7) (fun x33 => b1 (rc m18 x33 0) (fun _ => b2 (S_Al_get x33 v1 m18) (fun x37 m37 => b1 (cK m37 x37 1) (fun _ => some (x37, m37))))) else (fun v0 v1 μ => B_P_firstAround_2 n v0 v1 μ) v0 (v1 + 1) m18))))))))
set_option maxHeartbeats 4000000 in
set_option maxRecDepth 100000 in
theorem w_P_firstAround_2 {X : CX} (E : EV X prog_1_method_38_code 2 "PlaceFinder" (some (.object "PlaceFinder$Condition"))) {μ0 μ' : Mem} {r : Option Nat} (hQ : RQ X 0 0 μ0 (some (vR r)) μ') (hR : xR X = { frames := 3, cells := 0, slots := 0, locals := 64 }) (hI : X.2.2.2.2.2.2.2.2.2.2.2.1.name = "firstAround")  (n : Nat) : ∀ (v0 : Option Nat) (v1 : Int32) (μ : Mem) (h : B_P_firstAround_2  n v0 v1 μ = some (r, μ')), WM X 2 2 [(0, vR v0), (1, vI v1)] [] 0 0 μ := by
  induction n with
  | zero => intro v0 v1 μ h; cases h
  | succ n ih =>
    intro v0 v1 μ h
    have h : (b1 (gR μ v0 11 7) (fun x4 => b1 (rc μ x4 0) (fun _ => b2 (S_Al_size x4 μ) (fun x7 m7 => if x7 ≤ v1 then some (none, m7) else b1 (gR m7 v0 11 7) (fun x14 => b1 (rc m7 x14 0) (fun _ => b2 (S_Al_get x14 v1 m7) (fun x18 m18 => b1 (cK m18 x18 1) (fun _ => b1 (gI m18 x18 1 0) (fun x24 => if x24 = 7 then b1 (gR m18 v0 11 7) (fun x33 => b1 (rc m18 x33 0) (fun _ => b2 (S_Al_get x33 v1 m18) (fun x37 m37 => b1 (cK m37 x37 1) (fun _ => some (x37, m37))))) else (fun v0 v1 μ => B_P_firstAround_2 n v0 v1 μ) v0 (v1 + 1) m18))))))))) = some (r, μ') := h
    refine wm_iload_n E dP_firstAround_2 rfl (j := 1) rfl ?_
    refine wm_aload_n E dP_firstAround_3 rfl (j := 0) rfl ?_
    refine wm_gR E fd_P_43 h dP_firstAround_4 (fun x4 h => ?_)
    obtain ⟨u7, hr7, h⟩ := b1S h
    obtain ⟨x7, m7, hc7, h⟩ := b2S h
    refine wm_cV (ci := 0) (As := []) (st := [vI v1]) E lk_P_98 rfl im_Al_size sl_Al_size hr7 (C_Al_size (xl X) X.1 x4 μ _ _ hc7) rfl rfl (by rw [hR]; decide) (by rw [hR]; decide) (Nat.le_of_ble_eq_true rfl) dP_firstAround_7 ?_
    refine wm_icmp_ge (tgt := 50) E dP_firstAround_10 (by decide) (fun c10 => ?_) (fun c10 => ?_)
    · have h := (if_pos c10).symm.trans h
      refine wm_null E dP_firstAround_50 ?_
      exact wm_aret E hQ (rtR h) (rtM h) (Or.inl ⟨_, rfl⟩) (by decide) (by decide) dP_firstAround_51
    · have h := (if_neg c10).symm.trans h
      refine wm_aload_n E dP_firstAround_13 rfl (j := 0) rfl ?_
      refine wm_gR E fd_P_43 h dP_firstAround_14 (fun x14 h => ?_)
      refine wm_iload_n E dP_firstAround_17 rfl (j := 1) rfl ?_
      obtain ⟨u18, hr18, h⟩ := b1S h
      obtain ⟨x18, m18, hc18, h⟩ := b2S h
      refine wm_cV (ci := 0) (As := [vI v1]) (st := []) E lk_P_223 rfl im_Al_get sl_Al_get hr18 (C_Al_get (xl X) X.1 x14 v1 m7 _ _ hc18) rfl rfl (by rw [hR]; decide) (by rw [hR]; decide) (Nat.le_of_ble_eq_true rfl) dP_firstAround_18 ?_
      refine wm_ckc (ci := 1) E rfl cl_P_73 h dP_firstAround_21 (fun h => ?_)
      refine wm_gI E fd_P_352 h dP_firstAround_24 (fun x24 h => ?_)
      refine wm_bipush (x := 7) E dP_firstAround_27 (by decide) ?_
      refine wm_icmp_ne (tgt := 44) E dP_firstAround_29 (by decide) (fun c29 => ?_) (fun c29 => ?_)
      · have h := (if_neg c29).symm.trans h
        refine wm_iinc (lv' := [(1, vI (v1 + 1)), (0, vR v0)]) (d := 1) E dP_firstAround_44 (by decide) (j := 1) rfl (by decide) rfl ?_
        refine wm_goto (tgt := 2) E dP_firstAround_47 (by decide) ?_
        refine wm_pick (lv' := [(0, vR v0), (1, vI (v1 + 1))]) [1, 0] rfl ?_
        exact ih v0 (v1 + 1) m18 h
      · have h := (if_pos c29).symm.trans h
        refine wm_aload_n E dP_firstAround_32 rfl (j := 0) rfl ?_
        refine wm_gR E fd_P_43 h dP_firstAround_33 (fun x33 h => ?_)
        refine wm_iload_n E dP_firstAround_36 rfl (j := 1) rfl ?_
        obtain ⟨u37, hr37, h⟩ := b1S h
        obtain ⟨x37, m37, hc37, h⟩ := b2S h
        refine wm_cV (ci := 0) (As := [vI v1]) (st := []) E lk_P_223 rfl im_Al_get sl_Al_get hr37 (C_Al_get (xl X) X.1 x33 v1 m18 _ _ hc37) rfl rfl (by rw [hR]; decide) (by rw [hR]; decide) (Nat.le_of_ble_eq_true rfl) dP_firstAround_37 ?_
        refine wm_ckc (ci := 1) E rfl cl_P_73 h dP_firstAround_40 (fun h => ?_)
        exact wm_aret E hQ (rtR h) (rtM h) (Or.inl ⟨_, rfl⟩) (by decide) (by decide) dP_firstAround_43
def S_P_firstAround (v0 : Option Nat) (μ : Mem) : Option (Option Nat × Mem) := B_P_firstAround_2 fu v0 0 μ
set_option maxHeartbeats 4000000 in
set_option maxRecDepth 100000 in
theorem C_P_firstAround (l : Launch) (G : GG) (v0 : Option Nat) (μ μ' : Mem) (r : Option Nat) (h : S_P_firstAround v0 μ = some (r, μ')) : CT l G y_P_firstAround prog_1_method_38_code 2 (some (.object "PlaceFinder$Condition")) 3 0 0 64 μ [vR v0] (some (vR r)) μ' := by
  refine wm_met (lv := [(0, vR v0)]) (by decide +kernel) (Nat.le_of_ble_eq_true rfl) rfl (fun X E hQ hR hI => ?_)
  have h : (B_P_firstAround_2 fu v0 0 μ) = some (r, μ') := h
  refine wm_iconst (x := 0) E dP_firstAround_0 (by decide) ?_
  refine wm_istore_n (lv' := [(1, vI 0), (0, vR v0)]) E dP_firstAround_1 rfl (by decide) rfl ?_
  refine wm_pick (lv' := [(0, vR v0), (1, vI 0)]) [1, 0] rfl ?_
  exact w_P_firstAround_2 E hQ hR hI fu v0 0 μ h
def S_Hi_empty (v0 : Option Nat) (μ : Mem) : Option (Unit × Mem) := b1 (pV μ v0 4 2 (vI 0)) (fun m2 => some ((), m2))
set_option maxHeartbeats 4000000 in
set_option maxRecDepth 100000 in
theorem C_Hi_empty (l : Launch) (G : GG) (v0 : Option Nat) (μ μ' : Mem) (r : Unit) (h : S_Hi_empty v0 μ = some (r, μ')) : CT l G y_Hi_empty prog_5_method_2_code 1 none 0 0 0 0 μ [vR v0] none μ' := by
  refine wm_met (lv := [(0, vR v0)]) (by decide +kernel) (Nat.le_of_ble_eq_true rfl) rfl (fun X E hQ hR hI => ?_)
  have h : (b1 (pV μ v0 4 2 (vI 0)) (fun m2 => some ((), m2))) = some (r, μ') := h
  refine wm_aload_n E dHi_empty_0 rfl (j := 0) rfl ?_
  refine wm_iconst (x := 0) E dHi_empty_1 (by decide) ?_
  refine wm_pI E fp_Hi_19 (fun q => by cases q) h dHi_empty_2 (fun m2 h => ?_)
  exact wm_vret E hQ rfl (rtM h) (by decide) (by decide) dHi_empty_5
def B_Pl_shapeOn_37 (k4 : Option Nat → Int32 → Option Nat → Int32 → Mem → Option (Option Nat × Mem)) (v0 : Option Nat) (v1 : Int32) (v2 : Option Nat) (v3 : Int32) (μ : Mem) : Option (Option Nat × Mem) := k4 v0 v1 v2 (v3 + 1) μ
set_option maxHeartbeats 4000000 in
set_option maxRecDepth 100000 in
theorem w_Pl_shapeOn_37 {X : CX} (E : EV X prog_8_method_4_code 4 "PlaceFinder$Place" (some (.object "PlaceFinder$Corners"))) {μ0 μ' : Mem} {r : Option Nat} (hQ : RQ X 0 0 μ0 (some (vR r)) μ') (hR : xR X = { frames := 3, cells := 0, slots := 0, locals := 64 }) (hI : X.2.2.2.2.2.2.2.2.2.2.2.1.name = "shapeOn") (k4 : Option Nat → Int32 → Option Nat → Int32 → Mem → Option (Option Nat × Mem)) (hk4 : ∀ (v0 : Option Nat) (v1 : Int32) (v2 : Option Nat) (v3 : Int32) (μ : Mem), k4 v0 v1 v2 v3 μ = some (r, μ') → WM X 4 4 [(0, vR v0), (1, vI v1), (2, vR v2), (3, vI v3)] [] 0 0 μ) (v0 : Option Nat) (v1 : Int32) (v2 : Option Nat) (v3 : Int32) (μ : Mem) (h : B_Pl_shapeOn_37 k4 v0 v1 v2 v3 μ = some (r, μ')) : WM X 4 37 [(0, vR v0), (1, vI v1), (2, vR v2), (3, vI v3)] [] 0 0 μ := by
  have h : (k4 v0 v1 v2 (v3 + 1) μ) = some (r, μ') := h
  refine wm_iinc (lv' := [(3, vI (v3 + 1)), (0, vR v0), (1, vI v1), (2, vR v2)]) (d := 1) E dPl_shapeOn_37 (by decide) (j := 3) rfl (by decide) rfl ?_
  refine wm_goto (tgt := 4) E dPl_shapeOn_40 (by decide) ?_
  refine wm_pick (lv' := [(0, vR v0), (1, vI v1), (2, vR v2), (3, vI (v3 + 1))]) [1, 2, 3, 0] rfl ?_
  exact hk4 v0 v1 v2 (v3 + 1) μ h
def B_Pl_shapeOn_4  : Nat → Option Nat → Int32 → Option Nat → Int32 → Mem → Option (Option Nat × Mem)
  | 0, _, _, _, _, _ => none
  | n + 1, v0, v1, v2, v3, μ => b1 (gR μ v0 7 3) (fun x6 => b1 (rc μ x6 0) (fun _ => b2 (S_Al_size x6 μ) (fun x9 m9 => if x9 ≤ v3 then some (v2, m9) else b1 (gR m9 v0 7 4) (fun x16 => b1 (aI m9 x16 0 v3) (fun x20 => if v1 < x20 then B_Pl_shapeOn_37 (fun v0 v1 v2 v3 μ => B_Pl_shapeOn_4 n v0 v1 v2 v3 μ) v0 v1 v2 v3 m9 else b1 (gR m9 v0 7 3) (fun x26 => b1 (rc m9 x26 0) (fun _ => b2 (S_Al_get x26 v3 m9) (fun x30 m30 => b1 (cK m30 x30 2) (fun _ => B_Pl_shapeOn_37 (fun v0 v1 v2 v3 μ => B_Pl_shapeOn_4 n v0 v1 v2 v3 μ) v0 v1 x30 v3 m30)))))))))
set_option maxHeartbeats 4000000 in
set_option maxRecDepth 100000 in
theorem w_Pl_shapeOn_4 {X : CX} (E : EV X prog_8_method_4_code 4 "PlaceFinder$Place" (some (.object "PlaceFinder$Corners"))) {μ0 μ' : Mem} {r : Option Nat} (hQ : RQ X 0 0 μ0 (some (vR r)) μ') (hR : xR X = { frames := 3, cells := 0, slots := 0, locals := 64 }) (hI : X.2.2.2.2.2.2.2.2.2.2.2.1.name = "shapeOn")  (n : Nat) : ∀ (v0 : Option Nat) (v1 : Int32) (v2 : Option Nat) (v3 : Int32) (μ : Mem) (h : B_Pl_shapeOn_4  n v0 v1 v2 v3 μ = some (r, μ')), WM X 4 4 [(0, vR v0), (1, vI v1), (2, vR v2), (3, vI v3)] [] 0 0 μ := by
  induction n with
  | zero => intro v0 v1 v2 v3 μ h; cases h
  | succ n ih =>
    intro v0 v1 v2 v3 μ h
    have h : (b1 (gR μ v0 7 3) (fun x6 => b1 (rc μ x6 0) (fun _ => b2 (S_Al_size x6 μ) (fun x9 m9 => if x9 ≤ v3 then some (v2, m9) else b1 (gR m9 v0 7 4) (fun x16 => b1 (aI m9 x16 0 v3) (fun x20 => if v1 < x20 then B_Pl_shapeOn_37 (fun v0 v1 v2 v3 μ => B_Pl_shapeOn_4 n v0 v1 v2 v3 μ) v0 v1 v2 v3 m9 else b1 (gR m9 v0 7 3) (fun x26 => b1 (rc m9 x26 0) (fun _ => b2 (S_Al_get x26 v3 m9) (fun x30 m30 => b1 (cK m30 x30 2) (fun _ => B_Pl_shapeOn_37 (fun v0 v1 v2 v3 μ => B_Pl_shapeOn_4 n v0 v1 v2 v3 μ) v0 v1 x30 v3 m30)))))))))) = some (r, μ') := h
    refine wm_iload_n E dPl_shapeOn_4 rfl (j := 3) rfl ?_
    refine wm_aload_n E dPl_shapeOn_5 rfl (j := 0) rfl ?_
    refine wm_gR E fd_Pl_18 h dPl_shapeOn_6 (fun x6 h => ?_)
    obtain ⟨u9, hr9, h⟩ := b1S h
    obtain ⟨x9, m9, hc9, h⟩ := b2S h
    refine wm_cV (ci := 0) (As := []) (st := [vI v3]) E lk_Pl_38 rfl im_Al_size sl_Al_size hr9 (C_Al_size (xl X) X.1 x6 μ _ _ hc9) rfl rfl (by rw [hR]; decide) (by rw [hR]; decide) (Nat.le_of_ble_eq_true rfl) dPl_shapeOn_9 ?_
    refine wm_icmp_ge (tgt := 43) E dPl_shapeOn_12 (by decide) (fun c12 => ?_) (fun c12 => ?_)
    · have h := (if_pos c12).symm.trans h
      refine wm_aload_n E dPl_shapeOn_43 rfl (j := 2) rfl ?_
      exact wm_aret E hQ (rtR h) (rtM h) (Or.inl ⟨_, rfl⟩) (by decide) (by decide) dPl_shapeOn_44
    · have h := (if_neg c12).symm.trans h
      refine wm_aload_n E dPl_shapeOn_15 rfl (j := 0) rfl ?_
      refine wm_gR E fd_Pl_22 h dPl_shapeOn_16 (fun x16 h => ?_)
      refine wm_iload_n E dPl_shapeOn_19 rfl (j := 3) rfl ?_
      refine wm_iald (t := 0) E rfl h dPl_shapeOn_20 (fun x20 h => ?_)
      refine wm_iload_n E dPl_shapeOn_21 rfl (j := 1) rfl ?_
      refine wm_icmp_gt (tgt := 37) E dPl_shapeOn_22 (by decide) (fun c22 => ?_) (fun c22 => ?_)
      · have h := (if_pos c22).symm.trans h
        refine wm_pick (lv' := [(0, vR v0), (1, vI v1), (2, vR v2), (3, vI v3)]) [0, 1, 2, 3] rfl ?_
        exact w_Pl_shapeOn_37 E hQ hR hI (fun v0 v1 v2 v3 μ => B_Pl_shapeOn_4 n v0 v1 v2 v3 μ) ih v0 v1 v2 v3 m9 h
      · have h := (if_neg c22).symm.trans h
        refine wm_aload_n E dPl_shapeOn_25 rfl (j := 0) rfl ?_
        refine wm_gR E fd_Pl_18 h dPl_shapeOn_26 (fun x26 h => ?_)
        refine wm_iload_n E dPl_shapeOn_29 rfl (j := 3) rfl ?_
        obtain ⟨u30, hr30, h⟩ := b1S h
        obtain ⟨x30, m30, hc30, h⟩ := b2S h
        refine wm_cV (ci := 0) (As := [vI v3]) (st := []) E lk_Pl_46 rfl im_Al_get sl_Al_get hr30 (C_Al_get (xl X) X.1 x26 v3 m9 _ _ hc30) rfl rfl (by rw [hR]; decide) (by rw [hR]; decide) (Nat.le_of_ble_eq_true rfl) dPl_shapeOn_30 ?_
        refine wm_ckc (ci := 2) E rfl cl_Pl_50 h dPl_shapeOn_33 (fun h => ?_)
        refine wm_astore_n (lv' := [(2, vR x30), (0, vR v0), (1, vI v1), (3, vI v3)]) E dPl_shapeOn_36 rfl (by decide) rfl ?_
        refine wm_pick (lv' := [(0, vR v0), (1, vI v1), (2, vR x30), (3, vI v3)]) [1, 2, 0, 3] rfl ?_
        exact w_Pl_shapeOn_37 E hQ hR hI (fun v0 v1 v2 v3 μ => B_Pl_shapeOn_4 n v0 v1 v2 v3 μ) ih v0 v1 x30 v3 m30 h
def S_Pl_shapeOn (v0 : Option Nat) (v1 : Int32) (μ : Mem) : Option (Option Nat × Mem) := B_Pl_shapeOn_4 fu v0 v1 none 0 μ
set_option maxHeartbeats 4000000 in
set_option maxRecDepth 100000 in
theorem C_Pl_shapeOn (l : Launch) (G : GG) (v0 : Option Nat) (v1 : Int32) (μ μ' : Mem) (r : Option Nat) (h : S_Pl_shapeOn v0 v1 μ = some (r, μ')) : CT l G y_Pl_shapeOn prog_8_method_4_code 4 (some (.object "PlaceFinder$Corners")) 3 0 0 64 μ [vR v0, vI v1] (some (vR r)) μ' := by
  refine wm_met (lv := [(0, vR v0), (1, vI v1)]) (by decide +kernel) (Nat.le_of_ble_eq_true rfl) rfl (fun X E hQ hR hI => ?_)
  have h : (B_Pl_shapeOn_4 fu v0 v1 none 0 μ) = some (r, μ') := h
  refine wm_null E dPl_shapeOn_0 ?_
  refine wm_astore_n (lv' := [(2, vR none), (0, vR v0), (1, vI v1)]) E dPl_shapeOn_1 rfl (by decide) rfl ?_
  refine wm_iconst (x := 0) E dPl_shapeOn_2 (by decide) ?_
  refine wm_istore_n (lv' := [(3, vI 0), (2, vR none), (0, vR v0), (1, vI v1)]) E dPl_shapeOn_3 rfl (by decide) rfl ?_
  refine wm_pick (lv' := [(0, vR v0), (1, vI v1), (2, vR none), (3, vI 0)]) [2, 3, 1, 0] rfl ?_
  exact w_Pl_shapeOn_4 E hQ hR hI fu v0 v1 none 0 μ h
def B_Co_isInBox_83  (s0 : Int32) (μ : Mem) : Option (Int32 × Mem) := gd (¬ okZ s0 = true) (some (s0, μ))
set_option maxHeartbeats 4000000 in
set_option maxRecDepth 100000 in
theorem w_Co_isInBox_83 {X : CX} (E : EV X prog_3_method_10_code 5 "PlaceFinder$Corners" (some .boolean)) {μ0 μ' : Mem} {r : Int32} (hQ : RQ X 0 0 μ0 (some (vI r)) μ') (hR : xR X = { frames := 1, cells := 0, slots := 0, locals := 21 }) (hI : X.2.2.2.2.2.2.2.2.2.2.2.1.name = "isInBox")  (s0 : Int32) (μ : Mem) (h : B_Co_isInBox_83  s0 μ = some (r, μ')) : WM X 5 83 [] [vI s0] 0 0 μ := by
  have h : (gd (¬ okZ s0 = true) (some (s0, μ))) = some (r, μ') := h
  obtain ⟨hz83, h⟩ := gdS h
  exact wm_zret (rt := .boolean) E hQ (rtI h) (rtM h) (okZN hz83) (by decide) (by decide) dCo_isInBox_83
def B_Co_isInBox_82   (μ : Mem) : Option (Int32 × Mem) := B_Co_isInBox_83 0 μ
set_option maxHeartbeats 4000000 in
set_option maxRecDepth 100000 in
theorem w_Co_isInBox_82 {X : CX} (E : EV X prog_3_method_10_code 5 "PlaceFinder$Corners" (some .boolean)) {μ0 μ' : Mem} {r : Int32} (hQ : RQ X 0 0 μ0 (some (vI r)) μ') (hR : xR X = { frames := 1, cells := 0, slots := 0, locals := 21 }) (hI : X.2.2.2.2.2.2.2.2.2.2.2.1.name = "isInBox")   (μ : Mem) (h : B_Co_isInBox_82   μ = some (r, μ')) : WM X 5 82 [] [] 0 0 μ := by
  have h : (B_Co_isInBox_83 0 μ) = some (r, μ') := h
  refine wm_iconst (x := 0) E dCo_isInBox_82 (by decide) ?_
  refine wm_pick (lv' := []) [] rfl ?_
  exact w_Co_isInBox_83 E hQ hR hI 0 μ h
def S_Co_isInBox (v0 : Option Nat) (v1 : Int32) (v2 : Int32) (v3 : Int32) (v4 : Int32) (μ : Mem) : Option (Int32 × Mem) := b1 (gR μ v0 2 1) (fun x2 => b1 (aI μ x2 0 v1) (fun x6 => b1 (gR μ v0 2 1) (fun x8 => b1 (aI μ x8 0 v2) (fun x12 => b2 (S_Ma_min x6 x12 μ) (fun x13 m13 => if v3 < x13 then B_Co_isInBox_82 m13 else b1 (gR m13 v0 2 1) (fun x21 => b1 (aI m13 x21 0 v1) (fun x25 => b1 (gR m13 v0 2 1) (fun x27 => b1 (aI m13 x27 0 v2) (fun x31 => b2 (S_Ma_max x25 x31 m13) (fun x32 m32 => if x32 < v3 then B_Co_isInBox_82 m32 else b1 (gR m32 v0 2 2) (fun x41 => b1 (aI m32 x41 0 v1) (fun x45 => b1 (gR m32 v0 2 2) (fun x47 => b1 (aI m32 x47 0 v2) (fun x51 => b2 (S_Ma_min x45 x51 m32) (fun x52 m52 => if v4 < x52 then B_Co_isInBox_82 m52 else b1 (gR m52 v0 2 2) (fun x61 => b1 (aI m52 x61 0 v1) (fun x65 => b1 (gR m52 v0 2 2) (fun x67 => b1 (aI m52 x67 0 v2) (fun x71 => b2 (S_Ma_max x65 x71 m52) (fun x72 m72 => if x72 < v4 then B_Co_isInBox_82 m72 else B_Co_isInBox_83 1 m72))))))))))))))))))))
set_option maxHeartbeats 4000000 in
set_option maxRecDepth 100000 in
theorem C_Co_isInBox (l : Launch) (G : GG) (v0 : Option Nat) (v1 : Int32) (v2 : Int32) (v3 : Int32) (v4 : Int32) (μ μ' : Mem) (r : Int32) (h : S_Co_isInBox v0 v1 v2 v3 v4 μ = some (r, μ')) : CT l G y_Co_isInBox prog_3_method_10_code 5 (some .boolean) 1 0 0 21 μ [vR v0, vI v1, vI v2, vI v3, vI v4] (some (vI r)) μ' := by
  refine wm_met (lv := [(0, vR v0), (1, vI v1), (2, vI v2), (3, vI v3), (4, vI v4)]) (by decide +kernel) (Nat.le_of_ble_eq_true rfl) rfl (fun X E hQ hR hI => ?_)
  have h : (b1 (gR μ v0 2 1) (fun x2 => b1 (aI μ x2 0 v1) (fun x6 => b1 (gR μ v0 2 1) (fun x8 => b1 (aI μ x8 0 v2) (fun x12 => b2 (S_Ma_min x6 x12 μ) (fun x13 m13 => if v3 < x13 then B_Co_isInBox_82 m13 else b1 (gR m13 v0 2 1) (fun x21 => b1 (aI m13 x21 0 v1) (fun x25 => b1 (gR m13 v0 2 1) (fun x27 => b1 (aI m13 x27 0 v2) (fun x31 => b2 (S_Ma_max x25 x31 m13) (fun x32 m32 => if x32 < v3 then B_Co_isInBox_82 m32 else b1 (gR m32 v0 2 2) (fun x41 => b1 (aI m32 x41 0 v1) (fun x45 => b1 (gR m32 v0 2 2) (fun x47 => b1 (aI m32 x47 0 v2) (fun x51 => b2 (S_Ma_min x45 x51 m32) (fun x52 m52 => if v4 < x52 then B_Co_isInBox_82 m52 else b1 (gR m52 v0 2 2) (fun x61 => b1 (aI m52 x61 0 v1) (fun x65 => b1 (gR m52 v0 2 2) (fun x67 => b1 (aI m52 x67 0 v2) (fun x71 => b2 (S_Ma_max x65 x71 m52) (fun x72 m72 => if x72 < v4 then B_Co_isInBox_82 m72 else B_Co_isInBox_83 1 m72))))))))))))))))))))) = some (r, μ') := h
  refine wm_iload_n E dCo_isInBox_0 rfl (j := 3) rfl ?_
  refine wm_aload_n E dCo_isInBox_1 rfl (j := 0) rfl ?_
  refine wm_gR E fd_Co_21 h dCo_isInBox_2 (fun x2 h => ?_)
  refine wm_iload_n E dCo_isInBox_5 rfl (j := 1) rfl ?_
  refine wm_iald (t := 0) E rfl h dCo_isInBox_6 (fun x6 h => ?_)
  refine wm_aload_n E dCo_isInBox_7 rfl (j := 0) rfl ?_
  refine wm_gR E fd_Co_21 h dCo_isInBox_8 (fun x8 h => ?_)
  refine wm_iload_n E dCo_isInBox_11 rfl (j := 2) rfl ?_
  refine wm_iald (t := 0) E rfl h dCo_isInBox_12 (fun x12 h => ?_)
  obtain ⟨x13, m13, hc13, h⟩ := b2S h
  refine wm_cS (As := [vI x6, vI x12]) (st := [vI v3]) E lk_Co_41 sc_Ma_min (C_Ma_min (xl X) X.1 x6 x12 μ _ _ hc13) rfl rfl (by rw [hR]; decide) (by rw [hR]; decide) (Nat.le_of_ble_eq_true rfl) dCo_isInBox_13 ?_
  refine wm_icmp_lt (tgt := 82) E dCo_isInBox_16 (by decide) (fun c16 => ?_) (fun c16 => ?_)
  · have h := (if_pos c16).symm.trans h
    refine wm_pick (lv' := []) [] rfl ?_
    exact w_Co_isInBox_82 E hQ hR hI m13 h
  · have h := (if_neg c16).symm.trans h
    refine wm_iload_n E dCo_isInBox_19 rfl (j := 3) rfl ?_
    refine wm_aload_n E dCo_isInBox_20 rfl (j := 0) rfl ?_
    refine wm_gR E fd_Co_21 h dCo_isInBox_21 (fun x21 h => ?_)
    refine wm_iload_n E dCo_isInBox_24 rfl (j := 1) rfl ?_
    refine wm_iald (t := 0) E rfl h dCo_isInBox_25 (fun x25 h => ?_)
    refine wm_aload_n E dCo_isInBox_26 rfl (j := 0) rfl ?_
    refine wm_gR E fd_Co_21 h dCo_isInBox_27 (fun x27 h => ?_)
    refine wm_iload_n E dCo_isInBox_30 rfl (j := 2) rfl ?_
    refine wm_iald (t := 0) E rfl h dCo_isInBox_31 (fun x31 h => ?_)
    obtain ⟨x32, m32, hc32, h⟩ := b2S h
    refine wm_cS (As := [vI x25, vI x31]) (st := [vI v3]) E lk_Co_55 sc_Ma_max (C_Ma_max (xl X) X.1 x25 x31 m13 _ _ hc32) rfl rfl (by rw [hR]; decide) (by rw [hR]; decide) (Nat.le_of_ble_eq_true rfl) dCo_isInBox_32 ?_
    refine wm_icmp_gt (tgt := 82) E dCo_isInBox_35 (by decide) (fun c35 => ?_) (fun c35 => ?_)
    · have h := (if_pos c35).symm.trans h
      refine wm_pick (lv' := []) [] rfl ?_
      exact w_Co_isInBox_82 E hQ hR hI m32 h
    · have h := (if_neg c35).symm.trans h
      refine wm_iload E dCo_isInBox_38 (j := 4) rfl ?_
      refine wm_aload_n E dCo_isInBox_40 rfl (j := 0) rfl ?_
      refine wm_gR E fd_Co_25 h dCo_isInBox_41 (fun x41 h => ?_)
      refine wm_iload_n E dCo_isInBox_44 rfl (j := 1) rfl ?_
      refine wm_iald (t := 0) E rfl h dCo_isInBox_45 (fun x45 h => ?_)
      refine wm_aload_n E dCo_isInBox_46 rfl (j := 0) rfl ?_
      refine wm_gR E fd_Co_25 h dCo_isInBox_47 (fun x47 h => ?_)
      refine wm_iload_n E dCo_isInBox_50 rfl (j := 2) rfl ?_
      refine wm_iald (t := 0) E rfl h dCo_isInBox_51 (fun x51 h => ?_)
      obtain ⟨x52, m52, hc52, h⟩ := b2S h
      refine wm_cS (As := [vI x45, vI x51]) (st := [vI v4]) E lk_Co_41 sc_Ma_min (C_Ma_min (xl X) X.1 x45 x51 m32 _ _ hc52) rfl rfl (by rw [hR]; decide) (by rw [hR]; decide) (Nat.le_of_ble_eq_true rfl) dCo_isInBox_52 ?_
      refine wm_icmp_lt (tgt := 82) E dCo_isInBox_55 (by decide) (fun c55 => ?_) (fun c55 => ?_)
      · have h := (if_pos c55).symm.trans h
        refine wm_pick (lv' := []) [] rfl ?_
        exact w_Co_isInBox_82 E hQ hR hI m52 h
      · have h := (if_neg c55).symm.trans h
        refine wm_iload E dCo_isInBox_58 (j := 4) rfl ?_
        refine wm_aload_n E dCo_isInBox_60 rfl (j := 0) rfl ?_
        refine wm_gR E fd_Co_25 h dCo_isInBox_61 (fun x61 h => ?_)
        refine wm_iload_n E dCo_isInBox_64 rfl (j := 1) rfl ?_
        refine wm_iald (t := 0) E rfl h dCo_isInBox_65 (fun x65 h => ?_)
        refine wm_aload_n E dCo_isInBox_66 rfl (j := 0) rfl ?_
        refine wm_gR E fd_Co_25 h dCo_isInBox_67 (fun x67 h => ?_)
        refine wm_iload_n E dCo_isInBox_70 rfl (j := 2) rfl ?_
        refine wm_iald (t := 0) E rfl h dCo_isInBox_71 (fun x71 h => ?_)
        obtain ⟨x72, m72, hc72, h⟩ := b2S h
        refine wm_cS (As := [vI x65, vI x71]) (st := [vI v4]) E lk_Co_55 sc_Ma_max (C_Ma_max (xl X) X.1 x65 x71 m52 _ _ hc72) rfl rfl (by rw [hR]; decide) (by rw [hR]; decide) (Nat.le_of_ble_eq_true rfl) dCo_isInBox_72 ?_
        refine wm_icmp_gt (tgt := 82) E dCo_isInBox_75 (by decide) (fun c75 => ?_) (fun c75 => ?_)
        · have h := (if_pos c75).symm.trans h
          refine wm_pick (lv' := []) [] rfl ?_
          exact w_Co_isInBox_82 E hQ hR hI m72 h
        · have h := (if_neg c75).symm.trans h
          refine wm_iconst (x := 1) E dCo_isInBox_78 (by decide) ?_
          refine wm_goto (tgt := 83) E dCo_isInBox_79 (by decide) ?_
          refine wm_pick (lv' := []) [] rfl ?_
          exact w_Co_isInBox_83 E hQ hR hI 1 m72 h
def B_Co_hasInside_179 (k5 : Option Nat → Int32 → Int32 → Int32 → Int32 → Mem → Option (Int32 × Mem)) (v0 : Option Nat) (v1 : Int32) (v2 : Int32) (v3 : Int32) (v4 : Int32) (μ : Mem) : Option (Int32 × Mem) := k5 v0 v1 v2 v3 (v4 + 1) μ
set_option maxHeartbeats 4000000 in
set_option maxRecDepth 100000 in
theorem w_Co_hasInside_179 {X : CX} (E : EV X prog_3_method_9_code 8 "PlaceFinder$Corners" (some .boolean)) {μ0 μ' : Mem} {r : Int32} (hQ : RQ X 0 0 μ0 (some (vI r)) μ') (hR : xR X = { frames := 2, cells := 0, slots := 0, locals := 45 }) (hI : X.2.2.2.2.2.2.2.2.2.2.2.1.name = "hasInside") (k5 : Option Nat → Int32 → Int32 → Int32 → Int32 → Mem → Option (Int32 × Mem)) (hk5 : ∀ (v0 : Option Nat) (v1 : Int32) (v2 : Int32) (v3 : Int32) (v4 : Int32) (μ : Mem), k5 v0 v1 v2 v3 v4 μ = some (r, μ') → WM X 8 5 [(0, vR v0), (1, vI v1), (2, vI v2), (3, vI v3), (4, vI v4)] [] 0 0 μ) (v0 : Option Nat) (v1 : Int32) (v2 : Int32) (v3 : Int32) (v4 : Int32) (μ : Mem) (h : B_Co_hasInside_179 k5 v0 v1 v2 v3 v4 μ = some (r, μ')) : WM X 8 179 [(0, vR v0), (1, vI v1), (2, vI v2), (3, vI v3), (4, vI v4)] [] 0 0 μ := by
  have h : (k5 v0 v1 v2 v3 (v4 + 1) μ) = some (r, μ') := h
  refine wm_iinc (lv' := [(4, vI (v4 + 1)), (0, vR v0), (1, vI v1), (2, vI v2), (3, vI v3)]) (d := 1) E dCo_hasInside_179 (by decide) (j := 4) rfl (by decide) rfl ?_
  refine wm_goto (tgt := 5) E dCo_hasInside_182 (by decide) ?_
  refine wm_pick (lv' := [(0, vR v0), (1, vI v1), (2, vI v2), (3, vI v3), (4, vI (v4 + 1))]) [1, 2, 3, 4, 0] rfl ?_
  exact hk5 v0 v1 v2 v3 (v4 + 1) μ h
def B_Co_hasInside_178 (k5 : Option Nat → Int32 → Int32 → Int32 → Int32 → Mem → Option (Int32 × Mem)) (v0 : Option Nat) (v1 : Int32) (v2 : Int32) (v4 : Int32) (s0 : Int32) (μ : Mem) : Option (Int32 × Mem) := B_Co_hasInside_179 k5 v0 v1 v2 s0 v4 μ
set_option maxHeartbeats 4000000 in
set_option maxRecDepth 100000 in
theorem w_Co_hasInside_178 {X : CX} (E : EV X prog_3_method_9_code 8 "PlaceFinder$Corners" (some .boolean)) {μ0 μ' : Mem} {r : Int32} (hQ : RQ X 0 0 μ0 (some (vI r)) μ') (hR : xR X = { frames := 2, cells := 0, slots := 0, locals := 45 }) (hI : X.2.2.2.2.2.2.2.2.2.2.2.1.name = "hasInside") (k5 : Option Nat → Int32 → Int32 → Int32 → Int32 → Mem → Option (Int32 × Mem)) (hk5 : ∀ (v0 : Option Nat) (v1 : Int32) (v2 : Int32) (v3 : Int32) (v4 : Int32) (μ : Mem), k5 v0 v1 v2 v3 v4 μ = some (r, μ') → WM X 8 5 [(0, vR v0), (1, vI v1), (2, vI v2), (3, vI v3), (4, vI v4)] [] 0 0 μ) (v0 : Option Nat) (v1 : Int32) (v2 : Int32) (v4 : Int32) (s0 : Int32) (μ : Mem) (h : B_Co_hasInside_178 k5 v0 v1 v2 v4 s0 μ = some (r, μ')) : WM X 8 178 [(0, vR v0), (1, vI v1), (2, vI v2), (4, vI v4)] [vI s0] 0 0 μ := by
  have h : (B_Co_hasInside_179 k5 v0 v1 v2 s0 v4 μ) = some (r, μ') := h
  refine wm_istore_n (lv' := [(3, vI s0), (0, vR v0), (1, vI v1), (2, vI v2), (4, vI v4)]) E dCo_hasInside_178 rfl (by decide) rfl ?_
  refine wm_pick (lv' := [(0, vR v0), (1, vI v1), (2, vI v2), (3, vI s0), (4, vI v4)]) [1, 2, 3, 0, 4] rfl ?_
  exact w_Co_hasInside_179 E hQ hR hI k5 hk5 v0 v1 v2 s0 v4 μ h
def B_Co_hasInside_164 (k5 : Option Nat → Int32 → Int32 → Int32 → Int32 → Mem → Option (Int32 × Mem)) (v0 : Option Nat) (v1 : Int32) (v2 : Int32) (v3 : Int32) (v4 : Int32) (v7 : Int32) (s0 : Int32) (μ : Mem) : Option (Int32 × Mem) := if s0 = v7 then if v3 = 0 then B_Co_hasInside_178 k5 v0 v1 v2 v4 1 μ else B_Co_hasInside_178 k5 v0 v1 v2 v4 0 μ else B_Co_hasInside_179 k5 v0 v1 v2 v3 v4 μ
set_option maxHeartbeats 4000000 in
set_option maxRecDepth 100000 in
theorem w_Co_hasInside_164 {X : CX} (E : EV X prog_3_method_9_code 8 "PlaceFinder$Corners" (some .boolean)) {μ0 μ' : Mem} {r : Int32} (hQ : RQ X 0 0 μ0 (some (vI r)) μ') (hR : xR X = { frames := 2, cells := 0, slots := 0, locals := 45 }) (hI : X.2.2.2.2.2.2.2.2.2.2.2.1.name = "hasInside") (k5 : Option Nat → Int32 → Int32 → Int32 → Int32 → Mem → Option (Int32 × Mem)) (hk5 : ∀ (v0 : Option Nat) (v1 : Int32) (v2 : Int32) (v3 : Int32) (v4 : Int32) (μ : Mem), k5 v0 v1 v2 v3 v4 μ = some (r, μ') → WM X 8 5 [(0, vR v0), (1, vI v1), (2, vI v2), (3, vI v3), (4, vI v4)] [] 0 0 μ) (v0 : Option Nat) (v1 : Int32) (v2 : Int32) (v3 : Int32) (v4 : Int32) (v7 : Int32) (s0 : Int32) (μ : Mem) (h : B_Co_hasInside_164 k5 v0 v1 v2 v3 v4 v7 s0 μ = some (r, μ')) : WM X 8 164 [(0, vR v0), (1, vI v1), (2, vI v2), (3, vI v3), (4, vI v4), (7, vI v7)] [vI s0] 0 0 μ := by
  have h : (if s0 = v7 then if v3 = 0 then B_Co_hasInside_178 k5 v0 v1 v2 v4 1 μ else B_Co_hasInside_178 k5 v0 v1 v2 v4 0 μ else B_Co_hasInside_179 k5 v0 v1 v2 v3 v4 μ) = some (r, μ') := h
  refine wm_iload E dCo_hasInside_164 (j := 5) rfl ?_
  refine wm_icmp_ne (tgt := 179) E dCo_hasInside_166 (by decide) (fun c166 => ?_) (fun c166 => ?_)
  · have h := (if_neg c166).symm.trans h
    refine wm_pick (lv' := [(0, vR v0), (1, vI v1), (2, vI v2), (3, vI v3), (4, vI v4)]) [0, 1, 2, 3, 4] rfl ?_
    exact w_Co_hasInside_179 E hQ hR hI k5 hk5 v0 v1 v2 v3 v4 μ h
  · have h := (if_pos c166).symm.trans h
    refine wm_iload_n E dCo_hasInside_169 rfl (j := 3) rfl ?_
    refine wm_if_ne (tgt := 177) E dCo_hasInside_170 (by decide) (fun c170 => ?_) (fun c170 => ?_)
    · have h := (if_neg c170).symm.trans h
      refine wm_iconst (x := 0) E dCo_hasInside_177 (by decide) ?_
      refine wm_pick (lv' := [(0, vR v0), (1, vI v1), (2, vI v2), (4, vI v4)]) [0, 1, 2, 4] rfl ?_
      exact w_Co_hasInside_178 E hQ hR hI k5 hk5 v0 v1 v2 v4 0 μ h
    · have h := (if_pos c170).symm.trans h
      refine wm_iconst (x := 1) E dCo_hasInside_173 (by decide) ?_
      refine wm_goto (tgt := 178) E dCo_hasInside_174 (by decide) ?_
      refine wm_pick (lv' := [(0, vR v0), (1, vI v1), (2, vI v2), (4, vI v4)]) [0, 1, 2, 4] rfl ?_
      exact w_Co_hasInside_178 E hQ hR hI k5 hk5 v0 v1 v2 v4 1 μ h
def B_Co_hasInside_151 (k5 : Option Nat → Int32 → Int32 → Int32 → Int32 → Mem → Option (Int32 × Mem)) (v0 : Option Nat) (v1 : Int32) (v2 : Int32) (v3 : Int32) (v4 : Int32) (v6 : Int32) (v7 : Int32) (s0 : Int32) (s1 : Int32) (μ : Mem) : Option (Int32 × Mem) := if s0 = s1 then B_Co_hasInside_179 k5 v0 v1 v2 v3 v4 μ else if v6 ≤ 0 then B_Co_hasInside_164 k5 v0 v1 v2 v3 v4 v7 0 μ else B_Co_hasInside_164 k5 v0 v1 v2 v3 v4 v7 1 μ
set_option maxHeartbeats 4000000 in
set_option maxRecDepth 100000 in
theorem w_Co_hasInside_151 {X : CX} (E : EV X prog_3_method_9_code 8 "PlaceFinder$Corners" (some .boolean)) {μ0 μ' : Mem} {r : Int32} (hQ : RQ X 0 0 μ0 (some (vI r)) μ') (hR : xR X = { frames := 2, cells := 0, slots := 0, locals := 45 }) (hI : X.2.2.2.2.2.2.2.2.2.2.2.1.name = "hasInside") (k5 : Option Nat → Int32 → Int32 → Int32 → Int32 → Mem → Option (Int32 × Mem)) (hk5 : ∀ (v0 : Option Nat) (v1 : Int32) (v2 : Int32) (v3 : Int32) (v4 : Int32) (μ : Mem), k5 v0 v1 v2 v3 v4 μ = some (r, μ') → WM X 8 5 [(0, vR v0), (1, vI v1), (2, vI v2), (3, vI v3), (4, vI v4)] [] 0 0 μ) (v0 : Option Nat) (v1 : Int32) (v2 : Int32) (v3 : Int32) (v4 : Int32) (v6 : Int32) (v7 : Int32) (s0 : Int32) (s1 : Int32) (μ : Mem) (h : B_Co_hasInside_151 k5 v0 v1 v2 v3 v4 v6 v7 s0 s1 μ = some (r, μ')) : WM X 8 151 [(0, vR v0), (1, vI v1), (2, vI v2), (3, vI v3), (4, vI v4), (6, vI v6), (7, vI v7)] [vI s1, vI s0] 0 0 μ := by
  have h : (if s0 = s1 then B_Co_hasInside_179 k5 v0 v1 v2 v3 v4 μ else if v6 ≤ 0 then B_Co_hasInside_164 k5 v0 v1 v2 v3 v4 v7 0 μ else B_Co_hasInside_164 k5 v0 v1 v2 v3 v4 v7 1 μ) = some (r, μ') := h
  refine wm_icmp_eq (tgt := 179) E dCo_hasInside_151 (by decide) (fun c151 => ?_) (fun c151 => ?_)
  · have h := (if_pos c151).symm.trans h
    refine wm_pick (lv' := [(0, vR v0), (1, vI v1), (2, vI v2), (3, vI v3), (4, vI v4)]) [0, 1, 2, 3, 4] rfl ?_
    exact w_Co_hasInside_179 E hQ hR hI k5 hk5 v0 v1 v2 v3 v4 μ h
  · have h := (if_neg c151).symm.trans h
    refine wm_iload E dCo_hasInside_154 (j := 5) rfl ?_
    refine wm_if_le (tgt := 163) E dCo_hasInside_156 (by decide) (fun c156 => ?_) (fun c156 => ?_)
    · have h := (if_pos c156).symm.trans h
      refine wm_iconst (x := 0) E dCo_hasInside_163 (by decide) ?_
      refine wm_pick (lv' := [(0, vR v0), (1, vI v1), (2, vI v2), (3, vI v3), (4, vI v4), (7, vI v7)]) [0, 1, 2, 3, 4, 6] rfl ?_
      exact w_Co_hasInside_164 E hQ hR hI k5 hk5 v0 v1 v2 v3 v4 v7 0 μ h
    · have h := (if_neg c156).symm.trans h
      refine wm_iconst (x := 1) E dCo_hasInside_159 (by decide) ?_
      refine wm_goto (tgt := 164) E dCo_hasInside_160 (by decide) ?_
      refine wm_pick (lv' := [(0, vR v0), (1, vI v1), (2, vI v2), (3, vI v3), (4, vI v4), (7, vI v7)]) [0, 1, 2, 3, 4, 6] rfl ?_
      exact w_Co_hasInside_164 E hQ hR hI k5 hk5 v0 v1 v2 v3 v4 v7 1 μ h
def B_Co_hasInside_135 (k5 : Option Nat → Int32 → Int32 → Int32 → Int32 → Mem → Option (Int32 × Mem)) (v0 : Option Nat) (v1 : Int32) (v2 : Int32) (v3 : Int32) (v4 : Int32) (v5 : Int32) (v6 : Int32) (v7 : Int32) (s0 : Int32) (μ : Mem) : Option (Int32 × Mem) := b1 (gR μ v0 2 2) (fun x136 => b1 (aI μ x136 0 v5) (fun x141 => if x141 ≤ v2 then B_Co_hasInside_151 k5 v0 v1 v2 v3 v4 v6 v7 s0 0 μ else B_Co_hasInside_151 k5 v0 v1 v2 v3 v4 v6 v7 s0 1 μ))
set_option maxHeartbeats 4000000 in
set_option maxRecDepth 100000 in
theorem w_Co_hasInside_135 {X : CX} (E : EV X prog_3_method_9_code 8 "PlaceFinder$Corners" (some .boolean)) {μ0 μ' : Mem} {r : Int32} (hQ : RQ X 0 0 μ0 (some (vI r)) μ') (hR : xR X = { frames := 2, cells := 0, slots := 0, locals := 45 }) (hI : X.2.2.2.2.2.2.2.2.2.2.2.1.name = "hasInside") (k5 : Option Nat → Int32 → Int32 → Int32 → Int32 → Mem → Option (Int32 × Mem)) (hk5 : ∀ (v0 : Option Nat) (v1 : Int32) (v2 : Int32) (v3 : Int32) (v4 : Int32) (μ : Mem), k5 v0 v1 v2 v3 v4 μ = some (r, μ') → WM X 8 5 [(0, vR v0), (1, vI v1), (2, vI v2), (3, vI v3), (4, vI v4)] [] 0 0 μ) (v0 : Option Nat) (v1 : Int32) (v2 : Int32) (v3 : Int32) (v4 : Int32) (v5 : Int32) (v6 : Int32) (v7 : Int32) (s0 : Int32) (μ : Mem) (h : B_Co_hasInside_135 k5 v0 v1 v2 v3 v4 v5 v6 v7 s0 μ = some (r, μ')) : WM X 8 135 [(0, vR v0), (1, vI v1), (2, vI v2), (3, vI v3), (4, vI v4), (5, vI v5), (6, vI v6), (7, vI v7)] [vI s0] 0 0 μ := by
  have h : (b1 (gR μ v0 2 2) (fun x136 => b1 (aI μ x136 0 v5) (fun x141 => if x141 ≤ v2 then B_Co_hasInside_151 k5 v0 v1 v2 v3 v4 v6 v7 s0 0 μ else B_Co_hasInside_151 k5 v0 v1 v2 v3 v4 v6 v7 s0 1 μ))) = some (r, μ') := h
  refine wm_aload_n E dCo_hasInside_135 rfl (j := 0) rfl ?_
  refine wm_gR E fd_Co_25 h dCo_hasInside_136 (fun x136 h => ?_)
  refine wm_iload E dCo_hasInside_139 (j := 5) rfl ?_
  refine wm_iald (t := 0) E rfl h dCo_hasInside_141 (fun x141 h => ?_)
  refine wm_iload_n E dCo_hasInside_142 rfl (j := 2) rfl ?_
  refine wm_icmp_le (tgt := 150) E dCo_hasInside_143 (by decide) (fun c143 => ?_) (fun c143 => ?_)
  · have h := (if_pos c143).symm.trans h
    refine wm_iconst (x := 0) E dCo_hasInside_150 (by decide) ?_
    refine wm_pick (lv' := [(0, vR v0), (1, vI v1), (2, vI v2), (3, vI v3), (4, vI v4), (6, vI v6), (7, vI v7)]) [0, 1, 2, 3, 4, 6, 7] rfl ?_
    exact w_Co_hasInside_151 E hQ hR hI k5 hk5 v0 v1 v2 v3 v4 v6 v7 s0 0 μ h
  · have h := (if_neg c143).symm.trans h
    refine wm_iconst (x := 1) E dCo_hasInside_146 (by decide) ?_
    refine wm_goto (tgt := 151) E dCo_hasInside_147 (by decide) ?_
    refine wm_pick (lv' := [(0, vR v0), (1, vI v1), (2, vI v2), (3, vI v3), (4, vI v4), (6, vI v6), (7, vI v7)]) [0, 1, 2, 3, 4, 6, 7] rfl ?_
    exact w_Co_hasInside_151 E hQ hR hI k5 hk5 v0 v1 v2 v3 v4 v6 v7 s0 1 μ h
def B_Co_hasInside_117 (k5 : Option Nat → Int32 → Int32 → Int32 → Int32 → Mem → Option (Int32 × Mem)) (v0 : Option Nat) (v1 : Int32) (v2 : Int32) (v3 : Int32) (v4 : Int32) (v5 : Int32) (v6 : Int32) (s0 : Int32) (μ : Mem) : Option (Int32 × Mem) := b1 (gR μ v0 2 2) (fun x120 => b1 (aI μ x120 0 v4) (fun x125 => if x125 ≤ v2 then B_Co_hasInside_135 k5 v0 v1 v2 v3 v4 v5 v6 s0 0 μ else B_Co_hasInside_135 k5 v0 v1 v2 v3 v4 v5 v6 s0 1 μ))
set_option maxHeartbeats 4000000 in
set_option maxRecDepth 100000 in
theorem w_Co_hasInside_117 {X : CX} (E : EV X prog_3_method_9_code 8 "PlaceFinder$Corners" (some .boolean)) {μ0 μ' : Mem} {r : Int32} (hQ : RQ X 0 0 μ0 (some (vI r)) μ') (hR : xR X = { frames := 2, cells := 0, slots := 0, locals := 45 }) (hI : X.2.2.2.2.2.2.2.2.2.2.2.1.name = "hasInside") (k5 : Option Nat → Int32 → Int32 → Int32 → Int32 → Mem → Option (Int32 × Mem)) (hk5 : ∀ (v0 : Option Nat) (v1 : Int32) (v2 : Int32) (v3 : Int32) (v4 : Int32) (μ : Mem), k5 v0 v1 v2 v3 v4 μ = some (r, μ') → WM X 8 5 [(0, vR v0), (1, vI v1), (2, vI v2), (3, vI v3), (4, vI v4)] [] 0 0 μ) (v0 : Option Nat) (v1 : Int32) (v2 : Int32) (v3 : Int32) (v4 : Int32) (v5 : Int32) (v6 : Int32) (s0 : Int32) (μ : Mem) (h : B_Co_hasInside_117 k5 v0 v1 v2 v3 v4 v5 v6 s0 μ = some (r, μ')) : WM X 8 117 [(0, vR v0), (1, vI v1), (2, vI v2), (3, vI v3), (4, vI v4), (5, vI v5), (6, vI v6)] [vI s0] 0 0 μ := by
  have h : (b1 (gR μ v0 2 2) (fun x120 => b1 (aI μ x120 0 v4) (fun x125 => if x125 ≤ v2 then B_Co_hasInside_135 k5 v0 v1 v2 v3 v4 v5 v6 s0 0 μ else B_Co_hasInside_135 k5 v0 v1 v2 v3 v4 v5 v6 s0 1 μ))) = some (r, μ') := h
  refine wm_istore (lv' := [(7, vI s0), (0, vR v0), (1, vI v1), (2, vI v2), (3, vI v3), (4, vI v4), (5, vI v5), (6, vI v6)]) E dCo_hasInside_117 (by decide) rfl ?_
  refine wm_aload_n E dCo_hasInside_119 rfl (j := 1) rfl ?_
  refine wm_gR E fd_Co_25 h dCo_hasInside_120 (fun x120 h => ?_)
  refine wm_iload E dCo_hasInside_123 (j := 5) rfl ?_
  refine wm_iald (t := 0) E rfl h dCo_hasInside_125 (fun x125 h => ?_)
  refine wm_iload_n E dCo_hasInside_126 rfl (j := 3) rfl ?_
  refine wm_icmp_le (tgt := 134) E dCo_hasInside_127 (by decide) (fun c127 => ?_) (fun c127 => ?_)
  · have h := (if_pos c127).symm.trans h
    refine wm_iconst (x := 0) E dCo_hasInside_134 (by decide) ?_
    refine wm_pick (lv' := [(0, vR v0), (1, vI v1), (2, vI v2), (3, vI v3), (4, vI v4), (5, vI v5), (6, vI v6), (7, vI s0)]) [1, 2, 3, 4, 5, 6, 7, 0] rfl ?_
    exact w_Co_hasInside_135 E hQ hR hI k5 hk5 v0 v1 v2 v3 v4 v5 v6 s0 0 μ h
  · have h := (if_neg c127).symm.trans h
    refine wm_iconst (x := 1) E dCo_hasInside_130 (by decide) ?_
    refine wm_goto (tgt := 135) E dCo_hasInside_131 (by decide) ?_
    refine wm_pick (lv' := [(0, vR v0), (1, vI v1), (2, vI v2), (3, vI v3), (4, vI v4), (5, vI v5), (6, vI v6), (7, vI s0)]) [1, 2, 3, 4, 5, 6, 7, 0] rfl ?_
    exact w_Co_hasInside_135 E hQ hR hI k5 hk5 v0 v1 v2 v3 v4 v5 v6 s0 1 μ h
def B_Co_hasInside_95 (k5 : Option Nat → Int32 → Int32 → Int32 → Int32 → Mem → Option (Int32 × Mem)) (v0 : Option Nat) (v1 : Int32) (v2 : Int32) (v3 : Int32) (v4 : Int32) (v5 : Int32) (v6 : Int32) (μ : Mem) : Option (Int32 × Mem) := b1 (gR μ v0 2 2) (fun x96 => b1 (aI μ x96 0 v5) (fun x101 => b1 (gR μ v0 2 2) (fun x103 => b1 (aI μ x103 0 v4) (fun x108 => if x101 ≤ x108 then B_Co_hasInside_117 k5 v0 v1 v2 v3 v4 v5 v6 0 μ else B_Co_hasInside_117 k5 v0 v1 v2 v3 v4 v5 v6 1 μ))))
set_option maxHeartbeats 4000000 in
set_option maxRecDepth 100000 in
theorem w_Co_hasInside_95 {X : CX} (E : EV X prog_3_method_9_code 8 "PlaceFinder$Corners" (some .boolean)) {μ0 μ' : Mem} {r : Int32} (hQ : RQ X 0 0 μ0 (some (vI r)) μ') (hR : xR X = { frames := 2, cells := 0, slots := 0, locals := 45 }) (hI : X.2.2.2.2.2.2.2.2.2.2.2.1.name = "hasInside") (k5 : Option Nat → Int32 → Int32 → Int32 → Int32 → Mem → Option (Int32 × Mem)) (hk5 : ∀ (v0 : Option Nat) (v1 : Int32) (v2 : Int32) (v3 : Int32) (v4 : Int32) (μ : Mem), k5 v0 v1 v2 v3 v4 μ = some (r, μ') → WM X 8 5 [(0, vR v0), (1, vI v1), (2, vI v2), (3, vI v3), (4, vI v4)] [] 0 0 μ) (v0 : Option Nat) (v1 : Int32) (v2 : Int32) (v3 : Int32) (v4 : Int32) (v5 : Int32) (v6 : Int32) (μ : Mem) (h : B_Co_hasInside_95 k5 v0 v1 v2 v3 v4 v5 v6 μ = some (r, μ')) : WM X 8 95 [(0, vR v0), (1, vI v1), (2, vI v2), (3, vI v3), (4, vI v4), (5, vI v5), (6, vI v6)] [] 0 0 μ := by
  have h : (b1 (gR μ v0 2 2) (fun x96 => b1 (aI μ x96 0 v5) (fun x101 => b1 (gR μ v0 2 2) (fun x103 => b1 (aI μ x103 0 v4) (fun x108 => if x101 ≤ x108 then B_Co_hasInside_117 k5 v0 v1 v2 v3 v4 v5 v6 0 μ else B_Co_hasInside_117 k5 v0 v1 v2 v3 v4 v5 v6 1 μ))))) = some (r, μ') := h
  refine wm_aload_n E dCo_hasInside_95 rfl (j := 0) rfl ?_
  refine wm_gR E fd_Co_25 h dCo_hasInside_96 (fun x96 h => ?_)
  refine wm_iload E dCo_hasInside_99 (j := 5) rfl ?_
  refine wm_iald (t := 0) E rfl h dCo_hasInside_101 (fun x101 h => ?_)
  refine wm_aload_n E dCo_hasInside_102 rfl (j := 0) rfl ?_
  refine wm_gR E fd_Co_25 h dCo_hasInside_103 (fun x103 h => ?_)
  refine wm_iload E dCo_hasInside_106 (j := 4) rfl ?_
  refine wm_iald (t := 0) E rfl h dCo_hasInside_108 (fun x108 h => ?_)
  refine wm_icmp_le (tgt := 116) E dCo_hasInside_109 (by decide) (fun c109 => ?_) (fun c109 => ?_)
  · have h := (if_pos c109).symm.trans h
    refine wm_iconst (x := 0) E dCo_hasInside_116 (by decide) ?_
    refine wm_pick (lv' := [(0, vR v0), (1, vI v1), (2, vI v2), (3, vI v3), (4, vI v4), (5, vI v5), (6, vI v6)]) [0, 1, 2, 3, 4, 5, 6] rfl ?_
    exact w_Co_hasInside_117 E hQ hR hI k5 hk5 v0 v1 v2 v3 v4 v5 v6 0 μ h
  · have h := (if_neg c109).symm.trans h
    refine wm_iconst (x := 1) E dCo_hasInside_112 (by decide) ?_
    refine wm_goto (tgt := 117) E dCo_hasInside_113 (by decide) ?_
    refine wm_pick (lv' := [(0, vR v0), (1, vI v1), (2, vI v2), (3, vI v3), (4, vI v4), (5, vI v5), (6, vI v6)]) [0, 1, 2, 3, 4, 5, 6] rfl ?_
    exact w_Co_hasInside_117 E hQ hR hI k5 hk5 v0 v1 v2 v3 v4 v5 v6 1 μ h
def B_Co_hasInside_5  : Nat → Option Nat → Int32 → Int32 → Int32 → Int32 → Mem → Option (Int32 × Mem)
  | 0, _, _, _, _, _, _ => none
  | n + 1, v0, v1, v2, v3, v4, μ => b1 (gI μ v0 2 0) (fun x8 => if x8 ≤ v4 then gd (¬ okZ v3 = true) (some (v3, μ)) else b1 (rc μ v0 2) (fun _ => b2 (S_Co_following v0 v4 μ) (fun x17 m17 => b1 (gR m17 v0 2 1) (fun x23 => b1 (aI m17 x23 0 v4) (fun x28 => b1 (gR m17 v0 2 2) (fun x32 => b1 (aI m17 x32 0 x17) (fun x37 => b1 (gR m17 v0 2 2) (fun x39 => b1 (aI m17 x39 0 v4) (fun x44 => b1 (gR m17 v0 2 2) (fun x49 => b1 (aI m17 x49 0 v4) (fun x54 => b1 (gR m17 v0 2 1) (fun x57 => b1 (aI m17 x57 0 x17) (fun x62 => b1 (gR m17 v0 2 1) (fun x64 => b1 (aI m17 x64 0 v4) (fun x69 => b0 (((x28 - v1) * (x37 - x44)) + ((v2 - x54) * (x62 - x69))) (fun x73 => if x73 = 0 then b1 (rc m17 v0 2) (fun _ => b2 (S_Co_isInBox v0 v4 x17 v1 v2 m17) (fun x87 m87 => if x87 = 0 then B_Co_hasInside_95 (fun v0 v1 v2 v3 v4 μ => B_Co_hasInside_5 n v0 v1 v2 v3 v4 μ) v0 v1 v2 v3 v4 x17 x73 m87 else gd (¬ okZ 1 = true) (some (1, m87)))) else B_Co_hasInside_95 (fun v0 v1 v2 v3 v4 μ => B_Co_hasInside_5 n v0 v1 v2 v3 v4 μ) v0 v1 v2 v3 v4 x17 x73 m17))))))))))))))))
set_option maxHeartbeats 4000000 in
set_option maxRecDepth 100000 in
theorem w_Co_hasInside_5 {X : CX} (E : EV X prog_3_method_9_code 8 "PlaceFinder$Corners" (some .boolean)) {μ0 μ' : Mem} {r : Int32} (hQ : RQ X 0 0 μ0 (some (vI r)) μ') (hR : xR X = { frames := 2, cells := 0, slots := 0, locals := 45 }) (hI : X.2.2.2.2.2.2.2.2.2.2.2.1.name = "hasInside")  (n : Nat) : ∀ (v0 : Option Nat) (v1 : Int32) (v2 : Int32) (v3 : Int32) (v4 : Int32) (μ : Mem) (h : B_Co_hasInside_5  n v0 v1 v2 v3 v4 μ = some (r, μ')), WM X 8 5 [(0, vR v0), (1, vI v1), (2, vI v2), (3, vI v3), (4, vI v4)] [] 0 0 μ := by
  induction n with
  | zero => intro v0 v1 v2 v3 v4 μ h; cases h
  | succ n ih =>
    intro v0 v1 v2 v3 v4 μ h
    have h : (b1 (gI μ v0 2 0) (fun x8 => if x8 ≤ v4 then gd (¬ okZ v3 = true) (some (v3, μ)) else b1 (rc μ v0 2) (fun _ => b2 (S_Co_following v0 v4 μ) (fun x17 m17 => b1 (gR m17 v0 2 1) (fun x23 => b1 (aI m17 x23 0 v4) (fun x28 => b1 (gR m17 v0 2 2) (fun x32 => b1 (aI m17 x32 0 x17) (fun x37 => b1 (gR m17 v0 2 2) (fun x39 => b1 (aI m17 x39 0 v4) (fun x44 => b1 (gR m17 v0 2 2) (fun x49 => b1 (aI m17 x49 0 v4) (fun x54 => b1 (gR m17 v0 2 1) (fun x57 => b1 (aI m17 x57 0 x17) (fun x62 => b1 (gR m17 v0 2 1) (fun x64 => b1 (aI m17 x64 0 v4) (fun x69 => b0 (((x28 - v1) * (x37 - x44)) + ((v2 - x54) * (x62 - x69))) (fun x73 => if x73 = 0 then b1 (rc m17 v0 2) (fun _ => b2 (S_Co_isInBox v0 v4 x17 v1 v2 m17) (fun x87 m87 => if x87 = 0 then B_Co_hasInside_95 (fun v0 v1 v2 v3 v4 μ => B_Co_hasInside_5 n v0 v1 v2 v3 v4 μ) v0 v1 v2 v3 v4 x17 x73 m87 else gd (¬ okZ 1 = true) (some (1, m87)))) else B_Co_hasInside_95 (fun v0 v1 v2 v3 v4 μ => B_Co_hasInside_5 n v0 v1 v2 v3 v4 μ) v0 v1 v2 v3 v4 x17 x73 m17))))))))))))))))) = some (r, μ') := h
    refine wm_iload E dCo_hasInside_5 (j := 4) rfl ?_
    refine wm_aload_n E dCo_hasInside_7 rfl (j := 0) rfl ?_
    refine wm_gI E fd_Co_9 h dCo_hasInside_8 (fun x8 h => ?_)
    refine wm_icmp_ge (tgt := 185) E dCo_hasInside_11 (by decide) (fun c11 => ?_) (fun c11 => ?_)
    · have h := (if_pos c11).symm.trans h
      refine wm_iload_n E dCo_hasInside_185 rfl (j := 3) rfl ?_
      obtain ⟨hz186, h⟩ := gdS h
      exact wm_zret (rt := .boolean) E hQ (rtI h) (rtM h) (okZN hz186) (by decide) (by decide) dCo_hasInside_186
    · have h := (if_neg c11).symm.trans h
      refine wm_aload_n E dCo_hasInside_14 rfl (j := 0) rfl ?_
      refine wm_iload E dCo_hasInside_15 (j := 4) rfl ?_
      obtain ⟨u17, hr17, h⟩ := b1S h
      obtain ⟨x17, m17, hc17, h⟩ := b2S h
      refine wm_cV (ci := 2) (As := [vI v4]) (st := []) E lk_Co_32 rfl im_Co_following sl_Co_following hr17 (C_Co_following (xl X) X.1 v0 v4 μ _ _ hc17) rfl rfl (by rw [hR]; decide) (by rw [hR]; decide) (Nat.le_of_ble_eq_true rfl) dCo_hasInside_17 ?_
      refine wm_istore (lv' := [(5, vI x17), (0, vR v0), (1, vI v1), (2, vI v2), (3, vI v3), (4, vI v4)]) E dCo_hasInside_20 (by decide) rfl ?_
      refine wm_aload_n E dCo_hasInside_22 rfl (j := 1) rfl ?_
      refine wm_gR E fd_Co_21 h dCo_hasInside_23 (fun x23 h => ?_)
      refine wm_iload E dCo_hasInside_26 (j := 5) rfl ?_
      refine wm_iald (t := 0) E rfl h dCo_hasInside_28 (fun x28 h => ?_)
      refine wm_iload_n E dCo_hasInside_29 rfl (j := 2) rfl ?_
      refine wm_isub E dCo_hasInside_30 ?_
      refine wm_aload_n E dCo_hasInside_31 rfl (j := 1) rfl ?_
      refine wm_gR E fd_Co_25 h dCo_hasInside_32 (fun x32 h => ?_)
      refine wm_iload E dCo_hasInside_35 (j := 0) rfl ?_
      refine wm_iald (t := 0) E rfl h dCo_hasInside_37 (fun x37 h => ?_)
      refine wm_aload_n E dCo_hasInside_38 rfl (j := 1) rfl ?_
      refine wm_gR E fd_Co_25 h dCo_hasInside_39 (fun x39 h => ?_)
      refine wm_iload E dCo_hasInside_42 (j := 5) rfl ?_
      refine wm_iald (t := 0) E rfl h dCo_hasInside_44 (fun x44 h => ?_)
      refine wm_isub E dCo_hasInside_45 ?_
      refine wm_imul E dCo_hasInside_46 ?_
      refine wm_iload_n E dCo_hasInside_47 rfl (j := 3) rfl ?_
      refine wm_aload_n E dCo_hasInside_48 rfl (j := 1) rfl ?_
      refine wm_gR E fd_Co_25 h dCo_hasInside_49 (fun x49 h => ?_)
      refine wm_iload E dCo_hasInside_52 (j := 5) rfl ?_
      refine wm_iald (t := 0) E rfl h dCo_hasInside_54 (fun x54 h => ?_)
      refine wm_isub E dCo_hasInside_55 ?_
      refine wm_aload_n E dCo_hasInside_56 rfl (j := 1) rfl ?_
      refine wm_gR E fd_Co_21 h dCo_hasInside_57 (fun x57 h => ?_)
      refine wm_iload E dCo_hasInside_60 (j := 0) rfl ?_
      refine wm_iald (t := 0) E rfl h dCo_hasInside_62 (fun x62 h => ?_)
      refine wm_aload_n E dCo_hasInside_63 rfl (j := 1) rfl ?_
      refine wm_gR E fd_Co_21 h dCo_hasInside_64 (fun x64 h => ?_)
      refine wm_iload E dCo_hasInside_67 (j := 5) rfl ?_
      refine wm_iald (t := 0) E rfl h dCo_hasInside_69 (fun x69 h => ?_)
      refine wm_isub E dCo_hasInside_70 ?_
      refine wm_imul E dCo_hasInside_71 ?_
      refine wm_iadd E dCo_hasInside_72 ?_
      refine wm_letI h (fun x73 h => ?_)
      refine wm_istore (lv' := [(6, vI x73), (5, vI x17), (0, vR v0), (1, vI v1), (2, vI v2), (3, vI v3), (4, vI v4)]) E dCo_hasInside_73 (by decide) rfl ?_
      refine wm_iload E dCo_hasInside_75 (j := 0) rfl ?_
      refine wm_if_ne (tgt := 95) E dCo_hasInside_77 (by decide) (fun c77 => ?_) (fun c77 => ?_)
      · have h := (if_neg c77).symm.trans h
        refine wm_pick (lv' := [(0, vR v0), (1, vI v1), (2, vI v2), (3, vI v3), (4, vI v4), (5, vI x17), (6, vI x73)]) [2, 3, 4, 5, 6, 1, 0] rfl ?_
        exact w_Co_hasInside_95 E hQ hR hI (fun v0 v1 v2 v3 v4 μ => B_Co_hasInside_5 n v0 v1 v2 v3 v4 μ) ih v0 v1 v2 v3 v4 x17 x73 m17 h
      · have h := (if_pos c77).symm.trans h
        refine wm_aload_n E dCo_hasInside_80 rfl (j := 2) rfl ?_
        refine wm_iload E dCo_hasInside_81 (j := 6) rfl ?_
        refine wm_iload E dCo_hasInside_83 (j := 1) rfl ?_
        refine wm_iload_n E dCo_hasInside_85 rfl (j := 3) rfl ?_
        refine wm_iload_n E dCo_hasInside_86 rfl (j := 4) rfl ?_
        obtain ⟨u87, hr87, h⟩ := b1S h
        obtain ⟨x87, m87, hc87, h⟩ := b2S h
        refine wm_cV (ci := 2) (As := [vI v4, vI x17, vI v1, vI v2]) (st := []) E lk_Co_51 rfl im_Co_isInBox sl_Co_isInBox hr87 (C_Co_isInBox (xl X) X.1 v0 v4 x17 v1 v2 m17 _ _ hc87) rfl rfl (by rw [hR]; decide) (by rw [hR]; decide) (Nat.le_of_ble_eq_true rfl) dCo_hasInside_87 ?_
        refine wm_if_eq (tgt := 95) E dCo_hasInside_90 (by decide) (fun c90 => ?_) (fun c90 => ?_)
        · have h := (if_pos c90).symm.trans h
          refine wm_pick (lv' := [(0, vR v0), (1, vI v1), (2, vI v2), (3, vI v3), (4, vI v4), (5, vI x17), (6, vI x73)]) [2, 3, 4, 5, 6, 1, 0] rfl ?_
          exact w_Co_hasInside_95 E hQ hR hI (fun v0 v1 v2 v3 v4 μ => B_Co_hasInside_5 n v0 v1 v2 v3 v4 μ) ih v0 v1 v2 v3 v4 x17 x73 m87 h
        · have h := (if_neg c90).symm.trans h
          refine wm_iconst (x := 1) E dCo_hasInside_93 (by decide) ?_
          obtain ⟨hz94, h⟩ := gdS h
          exact wm_zret (rt := .boolean) E hQ (rtI h) (rtM h) (okZN hz94) (by decide) (by decide) dCo_hasInside_94
def S_Co_hasInside (v0 : Option Nat) (v1 : Int32) (v2 : Int32) (μ : Mem) : Option (Int32 × Mem) := B_Co_hasInside_5 fu v0 v1 v2 0 0 μ
set_option maxHeartbeats 4000000 in
set_option maxRecDepth 100000 in
theorem C_Co_hasInside (l : Launch) (G : GG) (v0 : Option Nat) (v1 : Int32) (v2 : Int32) (μ μ' : Mem) (r : Int32) (h : S_Co_hasInside v0 v1 v2 μ = some (r, μ')) : CT l G y_Co_hasInside prog_3_method_9_code 8 (some .boolean) 2 0 0 45 μ [vR v0, vI v1, vI v2] (some (vI r)) μ' := by
  refine wm_met (lv := [(0, vR v0), (1, vI v1), (2, vI v2)]) (by decide +kernel) (Nat.le_of_ble_eq_true rfl) rfl (fun X E hQ hR hI => ?_)
  have h : (B_Co_hasInside_5 fu v0 v1 v2 0 0 μ) = some (r, μ') := h
  refine wm_iconst (x := 0) E dCo_hasInside_0 (by decide) ?_
  refine wm_istore_n (lv' := [(3, vI 0), (0, vR v0), (1, vI v1), (2, vI v2)]) E dCo_hasInside_1 rfl (by decide) rfl ?_
  refine wm_iconst (x := 0) E dCo_hasInside_2 (by decide) ?_
  refine wm_istore (lv' := [(4, vI 0), (3, vI 0), (0, vR v0), (1, vI v1), (2, vI v2)]) E dCo_hasInside_3 (by decide) rfl ?_
  refine wm_pick (lv' := [(0, vR v0), (1, vI v1), (2, vI v2), (3, vI 0), (4, vI 0)]) [2, 3, 4, 1, 0] rfl ?_
  exact w_Co_hasInside_5 E hQ hR hI fu v0 v1 v2 0 0 μ h
