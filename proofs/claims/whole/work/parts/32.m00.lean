def S_Ac_init (v0 : Option Nat) (μ : Mem) : Option (Unit × Mem) := b1 (rc μ v0 0) (fun _ => some ((), μ))
set_option maxHeartbeats 4000000 in
set_option maxRecDepth 100000 in
theorem C_Ac_init (l : Launch) (G : GG) (v0 : Option Nat) (μ μ' : Mem) (r : Unit) (h : S_Ac_init v0 μ = some (r, μ')) : CT l G y_Ac_init prog_31_method_1_code 1 none 1 0 0 60 μ [vR v0] none μ' := by
  refine wm_met (lv := [(0, vR v0)]) (by decide +kernel) (Nat.le_of_ble_eq_true rfl) rfl (fun X E hQ hR hI => ?_)
  have h : (b1 (rc μ v0 0) (fun _ => some ((), μ))) = some (r, μ') := h
  refine wm_aload_n E dAc_init_0 rfl (j := 0) rfl ?_
  obtain ⟨u1, hr1, h⟩ := b1S h
  refine wm_obj E hr1 oi_Ac_1 (by rw [hR]; decide) (by rw [hR]; decide) rfl dAc_init_1 ?_
  exact wm_vret E hQ rfl (rtM h) (by decide) (by decide) dAc_init_4
def B_Ma_min_10  (s0 : Int32) (μ : Mem) : Option (Int32 × Mem) := some (s0, μ)
set_option maxHeartbeats 4000000 in
set_option maxRecDepth 100000 in
theorem w_Ma_min_10 {X : CX} (E : EV X prog_23_method_69_code 2 "java/lang/Math" (some .int)) {μ0 μ' : Mem} {r : Int32} (hQ : RQ X 0 0 μ0 (some (vI r)) μ') (hR : xR X = { frames := 0, cells := 0, slots := 0, locals := 0 }) (hI : X.2.2.2.2.2.2.2.2.2.2.2.1.name = "min")  (s0 : Int32) (μ : Mem) (h : B_Ma_min_10  s0 μ = some (r, μ')) : WM X 2 10 [] [vI s0] 0 0 μ := by
  have h : (some (s0, μ)) = some (r, μ') := h
  exact wm_iret (rt := .int) E hQ (rtI h) (rtM h) (by decide) (by decide) dMa_min_10
def S_Ma_min (v0 : Int32) (v1 : Int32) (μ : Mem) : Option (Int32 × Mem) := if v1 < v0 then B_Ma_min_10 v1 μ else B_Ma_min_10 v0 μ
set_option maxHeartbeats 4000000 in
set_option maxRecDepth 100000 in
theorem C_Ma_min (l : Launch) (G : GG) (v0 : Int32) (v1 : Int32) (μ μ' : Mem) (r : Int32) (h : S_Ma_min v0 v1 μ = some (r, μ')) : CT l G y_Ma_min prog_23_method_69_code 2 (some .int) 0 0 0 0 μ [vI v0, vI v1] (some (vI r)) μ' := by
  refine wm_met (lv := [(0, vI v0), (1, vI v1)]) (by decide +kernel) (Nat.le_of_ble_eq_true rfl) rfl (fun X E hQ hR hI => ?_)
  have h : (if v1 < v0 then B_Ma_min_10 v1 μ else B_Ma_min_10 v0 μ) = some (r, μ') := h
  refine wm_iload_n E dMa_min_0 rfl (j := 0) rfl ?_
  refine wm_iload_n E dMa_min_1 rfl (j := 1) rfl ?_
  refine wm_icmp_gt (tgt := 9) E dMa_min_2 (by decide) (fun c2 => ?_) (fun c2 => ?_)
  · have h := (if_pos c2).symm.trans h
    refine wm_iload_n E dMa_min_9 rfl (j := 1) rfl ?_
    refine wm_pick (lv' := []) [] rfl ?_
    exact w_Ma_min_10 E hQ hR hI v1 μ h
  · have h := (if_neg c2).symm.trans h
    refine wm_iload_n E dMa_min_5 rfl (j := 0) rfl ?_
    refine wm_goto (tgt := 10) E dMa_min_6 (by decide) ?_
    refine wm_pick (lv' := []) [] rfl ?_
    exact w_Ma_min_10 E hQ hR hI v0 μ h
def S_Hi_init (v0 : Option Nat) (μ : Mem) : Option (Unit × Mem) := b1 (rc μ v0 4) (fun _ => b2 (nI_ μ 0 30 30) (fun x7 m7 => b1 (pV m7 v0 4 0 (vR x7)) (fun m9 => b2 (nL_ m9 1 30 30) (fun x15 m15 => b1 (pV m15 v0 4 1 (vR x15)) (fun m17 => b1 (pV m17 v0 4 2 (vI 0)) (fun m22 => some ((), m22)))))))
set_option maxHeartbeats 4000000 in
set_option maxRecDepth 100000 in
theorem C_Hi_init (l : Launch) (G : GG) (v0 : Option Nat) (μ μ' : Mem) (r : Unit) (h : S_Hi_init v0 μ = some (r, μ')) : CT l G y_Hi_init prog_5_method_1_code 1 none 1 2 60 60 μ [vR v0] none μ' := by
  refine wm_met (lv := [(0, vR v0)]) (by decide +kernel) (Nat.le_of_ble_eq_true rfl) rfl (fun X E hQ hR hI => ?_)
  have h : (b1 (rc μ v0 4) (fun _ => b2 (nI_ μ 0 30 30) (fun x7 m7 => b1 (pV m7 v0 4 0 (vR x7)) (fun m9 => b2 (nL_ m9 1 30 30) (fun x15 m15 => b1 (pV m15 v0 4 1 (vR x15)) (fun m17 => b1 (pV m17 v0 4 2 (vI 0)) (fun m22 => some ((), m22)))))))) = some (r, μ') := h
  refine wm_aload_n E dHi_init_0 rfl (j := 0) rfl ?_
  obtain ⟨u1, hr1, h⟩ := b1S h
  refine wm_obj E hr1 oi_Hi_3 (by rw [hR]; decide) (by rw [hR]; decide) rfl dHi_init_1 ?_
  refine wm_aload_n E dHi_init_4 rfl (j := 0) rfl ?_
  refine wm_bipush (x := 30) E dHi_init_5 (by decide) ?_
  refine wm_newi (t := 0) (B := 30) E rfl rfl rfl ac_I h (by decide) (by rw [hR]; decide) (by rw [hR]; decide) dHi_init_7 (fun x7 m7 h => ?_)
  refine wm_pR E fp_Hi_9 (Or.inr ⟨_, rfl⟩) (fun _ => hI) h dHi_init_9 (fun m9 h => ?_)
  refine wm_aload_n E dHi_init_12 rfl (j := 0) rfl ?_
  refine wm_bipush (x := 30) E dHi_init_13 (by decide) ?_
  refine wm_newl (t := 1) (B := 30) E rfl rfl rfl ac_J h (by decide) (by rw [hR]; decide) (by rw [hR]; decide) dHi_init_15 (fun x15 m15 h => ?_)
  refine wm_pR E fp_Hi_15 (Or.inr ⟨_, rfl⟩) (fun _ => hI) h dHi_init_17 (fun m17 h => ?_)
  refine wm_aload_n E dHi_init_20 rfl (j := 0) rfl ?_
  refine wm_iconst (x := 0) E dHi_init_21 (by decide) ?_
  refine wm_pI E fp_Hi_19 (fun q => by cases q) h dHi_init_22 (fun m22 h => ?_)
  exact wm_vret E hQ rfl (rtM h) (by decide) (by decide) dHi_init_25
def S_Rs_init (v0 : Option Nat) (μ : Mem) : Option (Unit × Mem) := b1 (rc μ v0 8) (fun _ => some ((), μ))
set_option maxHeartbeats 4000000 in
set_option maxRecDepth 100000 in
theorem C_Rs_init (l : Launch) (G : GG) (v0 : Option Nat) (μ μ' : Mem) (r : Unit) (h : S_Rs_init v0 μ = some (r, μ')) : CT l G y_Rs_init prog_9_method_1_code 1 none 1 0 0 60 μ [vR v0] none μ' := by
  refine wm_met (lv := [(0, vR v0)]) (by decide +kernel) (Nat.le_of_ble_eq_true rfl) rfl (fun X E hQ hR hI => ?_)
  have h : (b1 (rc μ v0 8) (fun _ => some ((), μ))) = some (r, μ') := h
  refine wm_aload_n E dRs_init_0 rfl (j := 0) rfl ?_
  obtain ⟨u1, hr1, h⟩ := b1S h
  refine wm_obj E hr1 oi_Rs_1 (by rw [hR]; decide) (by rw [hR]; decide) rfl dRs_init_1 ?_
  exact wm_vret E hQ rfl (rtM h) (by decide) (by decide) dRs_init_4
def B_Wo_joinedLetter_60  (s0 : Int32) (μ : Mem) : Option (Int32 × Mem) := gd (¬ okC s0 = true) (some (s0, μ))
set_option maxHeartbeats 4000000 in
set_option maxRecDepth 100000 in
theorem w_Wo_joinedLetter_60 {X : CX} (E : EV X prog_11_method_2_code 2 "PlaceFinder$Word" (some .char)) {μ0 μ' : Mem} {r : Int32} (hQ : RQ X 0 0 μ0 (some (vI r)) μ') (hR : xR X = { frames := 0, cells := 0, slots := 0, locals := 0 }) (hI : X.2.2.2.2.2.2.2.2.2.2.2.1.name = "joinedLetter")  (s0 : Int32) (μ : Mem) (h : B_Wo_joinedLetter_60  s0 μ = some (r, μ')) : WM X 2 60 [] [vI s0] 0 0 μ := by
  have h : (gd (¬ okC s0 = true) (some (s0, μ))) = some (r, μ') := h
  obtain ⟨hz60, h⟩ := gdS h
  exact wm_zret (rt := .char) E hQ (rtI h) (rtM h) (okCN hz60) (by decide) (by decide) dWo_joinedLetter_60
def B_Wo_joinedLetter_59   (μ : Mem) : Option (Int32 × Mem) := B_Wo_joinedLetter_60 0 μ
set_option maxHeartbeats 4000000 in
set_option maxRecDepth 100000 in
theorem w_Wo_joinedLetter_59 {X : CX} (E : EV X prog_11_method_2_code 2 "PlaceFinder$Word" (some .char)) {μ0 μ' : Mem} {r : Int32} (hQ : RQ X 0 0 μ0 (some (vI r)) μ') (hR : xR X = { frames := 0, cells := 0, slots := 0, locals := 0 }) (hI : X.2.2.2.2.2.2.2.2.2.2.2.1.name = "joinedLetter")   (μ : Mem) (h : B_Wo_joinedLetter_59   μ = some (r, μ')) : WM X 2 59 [] [] 0 0 μ := by
  have h : (B_Wo_joinedLetter_60 0 μ) = some (r, μ') := h
  refine wm_iconst (x := 0) E dWo_joinedLetter_59 (by decide) ?_
  refine wm_pick (lv' := []) [] rfl ?_
  exact w_Wo_joinedLetter_60 E hQ hR hI 0 μ h
def B_Wo_joinedLetter_42  (v0 : Int32) (v1 : Int32) (μ : Mem) : Option (Int32 × Mem) := if v0 = 116 then if v1 = 104 then B_Wo_joinedLetter_60 116 μ else B_Wo_joinedLetter_59 μ else B_Wo_joinedLetter_59 μ
set_option maxHeartbeats 4000000 in
set_option maxRecDepth 100000 in
theorem w_Wo_joinedLetter_42 {X : CX} (E : EV X prog_11_method_2_code 2 "PlaceFinder$Word" (some .char)) {μ0 μ' : Mem} {r : Int32} (hQ : RQ X 0 0 μ0 (some (vI r)) μ') (hR : xR X = { frames := 0, cells := 0, slots := 0, locals := 0 }) (hI : X.2.2.2.2.2.2.2.2.2.2.2.1.name = "joinedLetter")  (v0 : Int32) (v1 : Int32) (μ : Mem) (h : B_Wo_joinedLetter_42  v0 v1 μ = some (r, μ')) : WM X 2 42 [(0, vI v0), (1, vI v1)] [] 0 0 μ := by
  have h : (if v0 = 116 then if v1 = 104 then B_Wo_joinedLetter_60 116 μ else B_Wo_joinedLetter_59 μ else B_Wo_joinedLetter_59 μ) = some (r, μ') := h
  refine wm_iload_n E dWo_joinedLetter_42 rfl (j := 0) rfl ?_
  refine wm_bipush (x := 116) E dWo_joinedLetter_43 (by decide) ?_
  refine wm_icmp_ne (tgt := 59) E dWo_joinedLetter_45 (by decide) (fun c45 => ?_) (fun c45 => ?_)
  · have h := (if_neg c45).symm.trans h
    refine wm_pick (lv' := []) [] rfl ?_
    exact w_Wo_joinedLetter_59 E hQ hR hI μ h
  · have h := (if_pos c45).symm.trans h
    refine wm_iload_n E dWo_joinedLetter_48 rfl (j := 1) rfl ?_
    refine wm_bipush (x := 104) E dWo_joinedLetter_49 (by decide) ?_
    refine wm_icmp_ne (tgt := 59) E dWo_joinedLetter_51 (by decide) (fun c51 => ?_) (fun c51 => ?_)
    · have h := (if_neg c51).symm.trans h
      refine wm_pick (lv' := []) [] rfl ?_
      exact w_Wo_joinedLetter_59 E hQ hR hI μ h
    · have h := (if_pos c51).symm.trans h
      refine wm_bipush (x := 116) E dWo_joinedLetter_54 (by decide) ?_
      refine wm_goto (tgt := 60) E dWo_joinedLetter_56 (by decide) ?_
      refine wm_pick (lv' := []) [] rfl ?_
      exact w_Wo_joinedLetter_60 E hQ hR hI 116 μ h
def B_Wo_joinedLetter_39   (μ : Mem) : Option (Int32 × Mem) := gd (¬ okC 107 = true) (some (107, μ))
set_option maxHeartbeats 4000000 in
set_option maxRecDepth 100000 in
theorem w_Wo_joinedLetter_39 {X : CX} (E : EV X prog_11_method_2_code 2 "PlaceFinder$Word" (some .char)) {μ0 μ' : Mem} {r : Int32} (hQ : RQ X 0 0 μ0 (some (vI r)) μ') (hR : xR X = { frames := 0, cells := 0, slots := 0, locals := 0 }) (hI : X.2.2.2.2.2.2.2.2.2.2.2.1.name = "joinedLetter")   (μ : Mem) (h : B_Wo_joinedLetter_39   μ = some (r, μ')) : WM X 2 39 [] [] 0 0 μ := by
  have h : (gd (¬ okC 107 = true) (some (107, μ))) = some (r, μ') := h
  refine wm_bipush (x := 107) E dWo_joinedLetter_39 (by decide) ?_
  obtain ⟨hz41, h⟩ := gdS h
  exact wm_zret (rt := .char) E hQ (rtI h) (rtM h) (okCN hz41) (by decide) (by decide) dWo_joinedLetter_41
def B_Wo_joinedLetter_27  (v0 : Int32) (v1 : Int32) (μ : Mem) : Option (Int32 × Mem) := if v0 = 113 then if v1 = 117 then B_Wo_joinedLetter_39 μ else B_Wo_joinedLetter_42 v0 v1 μ else B_Wo_joinedLetter_42 v0 v1 μ
set_option maxHeartbeats 4000000 in
set_option maxRecDepth 100000 in
theorem w_Wo_joinedLetter_27 {X : CX} (E : EV X prog_11_method_2_code 2 "PlaceFinder$Word" (some .char)) {μ0 μ' : Mem} {r : Int32} (hQ : RQ X 0 0 μ0 (some (vI r)) μ') (hR : xR X = { frames := 0, cells := 0, slots := 0, locals := 0 }) (hI : X.2.2.2.2.2.2.2.2.2.2.2.1.name = "joinedLetter")  (v0 : Int32) (v1 : Int32) (μ : Mem) (h : B_Wo_joinedLetter_27  v0 v1 μ = some (r, μ')) : WM X 2 27 [(0, vI v0), (1, vI v1)] [] 0 0 μ := by
  have h : (if v0 = 113 then if v1 = 117 then B_Wo_joinedLetter_39 μ else B_Wo_joinedLetter_42 v0 v1 μ else B_Wo_joinedLetter_42 v0 v1 μ) = some (r, μ') := h
  refine wm_iload_n E dWo_joinedLetter_27 rfl (j := 0) rfl ?_
  refine wm_bipush (x := 113) E dWo_joinedLetter_28 (by decide) ?_
  refine wm_icmp_ne (tgt := 42) E dWo_joinedLetter_30 (by decide) (fun c30 => ?_) (fun c30 => ?_)
  · have h := (if_neg c30).symm.trans h
    refine wm_pick (lv' := [(0, vI v0), (1, vI v1)]) [0, 1] rfl ?_
    exact w_Wo_joinedLetter_42 E hQ hR hI v0 v1 μ h
  · have h := (if_pos c30).symm.trans h
    refine wm_iload_n E dWo_joinedLetter_33 rfl (j := 1) rfl ?_
    refine wm_bipush (x := 117) E dWo_joinedLetter_34 (by decide) ?_
    refine wm_icmp_ne (tgt := 42) E dWo_joinedLetter_36 (by decide) (fun c36 => ?_) (fun c36 => ?_)
    · have h := (if_neg c36).symm.trans h
      refine wm_pick (lv' := [(0, vI v0), (1, vI v1)]) [0, 1] rfl ?_
      exact w_Wo_joinedLetter_42 E hQ hR hI v0 v1 μ h
    · have h := (if_pos c36).symm.trans h
      refine wm_pick (lv' := []) [] rfl ?_
      exact w_Wo_joinedLetter_39 E hQ hR hI μ h
def B_Wo_joinedLetter_15  (v0 : Int32) (v1 : Int32) (μ : Mem) : Option (Int32 × Mem) := if v0 = 99 then if v1 = 107 then B_Wo_joinedLetter_39 μ else B_Wo_joinedLetter_27 v0 v1 μ else B_Wo_joinedLetter_27 v0 v1 μ
set_option maxHeartbeats 4000000 in
set_option maxRecDepth 100000 in
theorem w_Wo_joinedLetter_15 {X : CX} (E : EV X prog_11_method_2_code 2 "PlaceFinder$Word" (some .char)) {μ0 μ' : Mem} {r : Int32} (hQ : RQ X 0 0 μ0 (some (vI r)) μ') (hR : xR X = { frames := 0, cells := 0, slots := 0, locals := 0 }) (hI : X.2.2.2.2.2.2.2.2.2.2.2.1.name = "joinedLetter")  (v0 : Int32) (v1 : Int32) (μ : Mem) (h : B_Wo_joinedLetter_15  v0 v1 μ = some (r, μ')) : WM X 2 15 [(0, vI v0), (1, vI v1)] [] 0 0 μ := by
  have h : (if v0 = 99 then if v1 = 107 then B_Wo_joinedLetter_39 μ else B_Wo_joinedLetter_27 v0 v1 μ else B_Wo_joinedLetter_27 v0 v1 μ) = some (r, μ') := h
  refine wm_iload_n E dWo_joinedLetter_15 rfl (j := 0) rfl ?_
  refine wm_bipush (x := 99) E dWo_joinedLetter_16 (by decide) ?_
  refine wm_icmp_ne (tgt := 27) E dWo_joinedLetter_18 (by decide) (fun c18 => ?_) (fun c18 => ?_)
  · have h := (if_neg c18).symm.trans h
    refine wm_pick (lv' := [(0, vI v0), (1, vI v1)]) [0, 1] rfl ?_
    exact w_Wo_joinedLetter_27 E hQ hR hI v0 v1 μ h
  · have h := (if_pos c18).symm.trans h
    refine wm_iload_n E dWo_joinedLetter_21 rfl (j := 1) rfl ?_
    refine wm_bipush (x := 107) E dWo_joinedLetter_22 (by decide) ?_
    refine wm_icmp_eq (tgt := 39) E dWo_joinedLetter_24 (by decide) (fun c24 => ?_) (fun c24 => ?_)
    · have h := (if_pos c24).symm.trans h
      refine wm_pick (lv' := []) [] rfl ?_
      exact w_Wo_joinedLetter_39 E hQ hR hI μ h
    · have h := (if_neg c24).symm.trans h
      refine wm_pick (lv' := [(0, vI v0), (1, vI v1)]) [0, 1] rfl ?_
      exact w_Wo_joinedLetter_27 E hQ hR hI v0 v1 μ h
def S_Wo_joinedLetter (v0 : Int32) (v1 : Int32) (μ : Mem) : Option (Int32 × Mem) := if v0 = 112 then if v1 = 104 then gd (¬ okC 102 = true) (some (102, μ)) else B_Wo_joinedLetter_15 v0 v1 μ else B_Wo_joinedLetter_15 v0 v1 μ
set_option maxHeartbeats 4000000 in
set_option maxRecDepth 100000 in
theorem C_Wo_joinedLetter (l : Launch) (G : GG) (v0 : Int32) (v1 : Int32) (μ μ' : Mem) (r : Int32) (h : S_Wo_joinedLetter v0 v1 μ = some (r, μ')) : CT l G y_Wo_joinedLetter prog_11_method_2_code 2 (some .char) 0 0 0 0 μ [vI v0, vI v1] (some (vI r)) μ' := by
  refine wm_met (lv := [(0, vI v0), (1, vI v1)]) (by decide +kernel) (Nat.le_of_ble_eq_true rfl) rfl (fun X E hQ hR hI => ?_)
  have h : (if v0 = 112 then if v1 = 104 then gd (¬ okC 102 = true) (some (102, μ)) else B_Wo_joinedLetter_15 v0 v1 μ else B_Wo_joinedLetter_15 v0 v1 μ) = some (r, μ') := h
  refine wm_iload_n E dWo_joinedLetter_0 rfl (j := 0) rfl ?_
  refine wm_bipush (x := 112) E dWo_joinedLetter_1 (by decide) ?_
  refine wm_icmp_ne (tgt := 15) E dWo_joinedLetter_3 (by decide) (fun c3 => ?_) (fun c3 => ?_)
  · have h := (if_neg c3).symm.trans h
    refine wm_pick (lv' := [(0, vI v0), (1, vI v1)]) [0, 1] rfl ?_
    exact w_Wo_joinedLetter_15 E hQ hR hI v0 v1 μ h
  · have h := (if_pos c3).symm.trans h
    refine wm_iload_n E dWo_joinedLetter_6 rfl (j := 1) rfl ?_
    refine wm_bipush (x := 104) E dWo_joinedLetter_7 (by decide) ?_
    refine wm_icmp_ne (tgt := 15) E dWo_joinedLetter_9 (by decide) (fun c9 => ?_) (fun c9 => ?_)
    · have h := (if_neg c9).symm.trans h
      refine wm_pick (lv' := [(0, vI v0), (1, vI v1)]) [0, 1] rfl ?_
      exact w_Wo_joinedLetter_15 E hQ hR hI v0 v1 μ h
    · have h := (if_pos c9).symm.trans h
      refine wm_bipush (x := 102) E dWo_joinedLetter_12 (by decide) ?_
      obtain ⟨hz14, h⟩ := gdS h
      exact wm_zret (rt := .char) E hQ (rtI h) (rtM h) (okCN hz14) (by decide) (by decide) dWo_joinedLetter_14
def B_Wo_init_129 (k16 : Option Nat → Option Nat → Int32 → Int32 → Int32 → Mem → Option (Unit × Mem)) (v0 : Option Nat) (v1 : Option Nat) (v2 : Int32) (v3 : Int32) (v4 : Int32) (μ : Mem) : Option (Unit × Mem) := k16 v0 v1 v2 v3 (v4 + 1) μ
set_option maxHeartbeats 4000000 in
set_option maxRecDepth 100000 in
theorem w_Wo_init_129 {X : CX} (E : EV X prog_11_method_1_code 7 "PlaceFinder$Word" none) {μ0 μ' : Mem} {r : Unit} (hQ : RQ X 1 10 μ0 none μ') (hR : xR X = { frames := 1, cells := 1, slots := 10, locals := 60 }) (hI : X.2.2.2.2.2.2.2.2.2.2.2.1.name = "<init>") (k16 : Option Nat → Option Nat → Int32 → Int32 → Int32 → Mem → Option (Unit × Mem)) (hk16 : ∀ (v0 : Option Nat) (v1 : Option Nat) (v2 : Int32) (v3 : Int32) (v4 : Int32) (μ : Mem), k16 v0 v1 v2 v3 v4 μ = some (r, μ') → WM X 7 16 [(0, vR v0), (1, vR v1), (2, vI v2), (3, vI v3), (4, vI v4)] [] 1 10 μ) (v0 : Option Nat) (v1 : Option Nat) (v2 : Int32) (v3 : Int32) (v4 : Int32) (μ : Mem) (h : B_Wo_init_129 k16 v0 v1 v2 v3 v4 μ = some (r, μ')) : WM X 7 129 [(0, vR v0), (1, vR v1), (2, vI v2), (3, vI v3), (4, vI v4)] [] 1 10 μ := by
  have h : (k16 v0 v1 v2 v3 (v4 + 1) μ) = some (r, μ') := h
  refine wm_iinc (lv' := [(4, vI (v4 + 1)), (0, vR v0), (1, vR v1), (2, vI v2), (3, vI v3)]) (d := 1) E dWo_init_129 (by decide) (j := 4) rfl (by decide) rfl ?_
  refine wm_goto (tgt := 16) E dWo_init_132 (by decide) ?_
  refine wm_pick (lv' := [(0, vR v0), (1, vR v1), (2, vI v2), (3, vI v3), (4, vI (v4 + 1))]) [1, 2, 3, 4, 0] rfl ?_
  exact hk16 v0 v1 v2 v3 (v4 + 1) μ h
def B_Wo_init_118 (k16 : Option Nat → Option Nat → Int32 → Int32 → Int32 → Mem → Option (Unit × Mem)) (v0 : Option Nat) (v1 : Option Nat) (v2 : Int32) (v3 : Int32) (v4 : Int32) (v6 : Int32) (μ : Mem) : Option (Unit × Mem) := b1 (gR μ v0 10 0) (fun x119 => b1 (sI μ x119 2 v3 (vp_nar .char v6)) (fun m125 => B_Wo_init_129 k16 v0 v1 v2 (v3 + 1) v4 m125))
set_option maxHeartbeats 4000000 in
set_option maxRecDepth 100000 in
theorem w_Wo_init_118 {X : CX} (E : EV X prog_11_method_1_code 7 "PlaceFinder$Word" none) {μ0 μ' : Mem} {r : Unit} (hQ : RQ X 1 10 μ0 none μ') (hR : xR X = { frames := 1, cells := 1, slots := 10, locals := 60 }) (hI : X.2.2.2.2.2.2.2.2.2.2.2.1.name = "<init>") (k16 : Option Nat → Option Nat → Int32 → Int32 → Int32 → Mem → Option (Unit × Mem)) (hk16 : ∀ (v0 : Option Nat) (v1 : Option Nat) (v2 : Int32) (v3 : Int32) (v4 : Int32) (μ : Mem), k16 v0 v1 v2 v3 v4 μ = some (r, μ') → WM X 7 16 [(0, vR v0), (1, vR v1), (2, vI v2), (3, vI v3), (4, vI v4)] [] 1 10 μ) (v0 : Option Nat) (v1 : Option Nat) (v2 : Int32) (v3 : Int32) (v4 : Int32) (v6 : Int32) (μ : Mem) (h : B_Wo_init_118 k16 v0 v1 v2 v3 v4 v6 μ = some (r, μ')) : WM X 7 118 [(0, vR v0), (1, vR v1), (2, vI v2), (3, vI v3), (4, vI v4), (6, vI v6)] [] 1 10 μ := by
  have h : (b1 (gR μ v0 10 0) (fun x119 => b1 (sI μ x119 2 v3 (vp_nar .char v6)) (fun m125 => B_Wo_init_129 k16 v0 v1 v2 (v3 + 1) v4 m125))) = some (r, μ') := h
  refine wm_aload_n E dWo_init_118 rfl (j := 0) rfl ?_
  refine wm_gR E fd_Wo_9 h dWo_init_119 (fun x119 h => ?_)
  refine wm_iload_n E dWo_init_122 rfl (j := 3) rfl ?_
  refine wm_iload E dWo_init_123 (j := 5) rfl ?_
  refine wm_cast (t := 2) E rfl h dWo_init_125 (fun m125 h => ?_)
  refine wm_iinc (lv' := [(3, vI (v3 + 1)), (0, vR v0), (1, vR v1), (2, vI v2), (4, vI v4), (6, vI v6)]) (d := 1) E dWo_init_126 (by decide) (j := 3) rfl (by decide) rfl ?_
  refine wm_pick (lv' := [(0, vR v0), (1, vR v1), (2, vI v2), (3, vI (v3 + 1)), (4, vI v4)]) [1, 2, 3, 0, 4] rfl ?_
  exact w_Wo_init_129 E hQ hR hI k16 hk16 v0 v1 v2 (v3 + 1) v4 m125 h
def B_Wo_init_101 (k16 : Option Nat → Option Nat → Int32 → Int32 → Int32 → Mem → Option (Unit × Mem)) (v0 : Option Nat) (v1 : Option Nat) (v2 : Int32) (v3 : Int32) (v4 : Int32) (v6 : Int32) (μ : Mem) : Option (Unit × Mem) := if v3 = 0 then B_Wo_init_118 k16 v0 v1 v2 v3 v4 v6 μ else b1 (gR μ v0 10 0) (fun x106 => b1 (aI μ x106 2 (v3 - 1)) (fun x112 => if x112 = v6 then B_Wo_init_129 k16 v0 v1 v2 v3 v4 μ else B_Wo_init_118 k16 v0 v1 v2 v3 v4 v6 μ))
set_option maxHeartbeats 4000000 in
set_option maxRecDepth 100000 in
theorem w_Wo_init_101 {X : CX} (E : EV X prog_11_method_1_code 7 "PlaceFinder$Word" none) {μ0 μ' : Mem} {r : Unit} (hQ : RQ X 1 10 μ0 none μ') (hR : xR X = { frames := 1, cells := 1, slots := 10, locals := 60 }) (hI : X.2.2.2.2.2.2.2.2.2.2.2.1.name = "<init>") (k16 : Option Nat → Option Nat → Int32 → Int32 → Int32 → Mem → Option (Unit × Mem)) (hk16 : ∀ (v0 : Option Nat) (v1 : Option Nat) (v2 : Int32) (v3 : Int32) (v4 : Int32) (μ : Mem), k16 v0 v1 v2 v3 v4 μ = some (r, μ') → WM X 7 16 [(0, vR v0), (1, vR v1), (2, vI v2), (3, vI v3), (4, vI v4)] [] 1 10 μ) (v0 : Option Nat) (v1 : Option Nat) (v2 : Int32) (v3 : Int32) (v4 : Int32) (v6 : Int32) (μ : Mem) (h : B_Wo_init_101 k16 v0 v1 v2 v3 v4 v6 μ = some (r, μ')) : WM X 7 101 [(0, vR v0), (1, vR v1), (2, vI v2), (3, vI v3), (4, vI v4), (6, vI v6)] [] 1 10 μ := by
  have h : (if v3 = 0 then B_Wo_init_118 k16 v0 v1 v2 v3 v4 v6 μ else b1 (gR μ v0 10 0) (fun x106 => b1 (aI μ x106 2 (v3 - 1)) (fun x112 => if x112 = v6 then B_Wo_init_129 k16 v0 v1 v2 v3 v4 μ else B_Wo_init_118 k16 v0 v1 v2 v3 v4 v6 μ))) = some (r, μ') := h
  refine wm_iload_n E dWo_init_101 rfl (j := 3) rfl ?_
  refine wm_if_eq (tgt := 118) E dWo_init_102 (by decide) (fun c102 => ?_) (fun c102 => ?_)
  · have h := (if_pos c102).symm.trans h
    refine wm_pick (lv' := [(0, vR v0), (1, vR v1), (2, vI v2), (3, vI v3), (4, vI v4), (6, vI v6)]) [0, 1, 2, 3, 4, 5] rfl ?_
    exact w_Wo_init_118 E hQ hR hI k16 hk16 v0 v1 v2 v3 v4 v6 μ h
  · have h := (if_neg c102).symm.trans h
    refine wm_aload_n E dWo_init_105 rfl (j := 0) rfl ?_
    refine wm_gR E fd_Wo_9 h dWo_init_106 (fun x106 h => ?_)
    refine wm_iload_n E dWo_init_109 rfl (j := 3) rfl ?_
    refine wm_iconst (x := 1) E dWo_init_110 (by decide) ?_
    refine wm_isub E dWo_init_111 ?_
    refine wm_cald (t := 2) E rfl h dWo_init_112 (fun x112 h => ?_)
    refine wm_iload E dWo_init_113 (j := 5) rfl ?_
    refine wm_icmp_eq (tgt := 129) E dWo_init_115 (by decide) (fun c115 => ?_) (fun c115 => ?_)
    · have h := (if_pos c115).symm.trans h
      refine wm_pick (lv' := [(0, vR v0), (1, vR v1), (2, vI v2), (3, vI v3), (4, vI v4)]) [0, 1, 2, 3, 4] rfl ?_
      exact w_Wo_init_129 E hQ hR hI k16 hk16 v0 v1 v2 v3 v4 μ h
    · have h := (if_neg c115).symm.trans h
      refine wm_pick (lv' := [(0, vR v0), (1, vR v1), (2, vI v2), (3, vI v3), (4, vI v4), (6, vI v6)]) [0, 1, 2, 3, 4, 5] rfl ?_
      exact w_Wo_init_118 E hQ hR hI k16 hk16 v0 v1 v2 v3 v4 v6 μ h
def B_Wo_init_76 (k16 : Option Nat → Option Nat → Int32 → Int32 → Int32 → Mem → Option (Unit × Mem)) : Nat → Option Nat → Option Nat → Int32 → Int32 → Int32 → Int32 → Mem → Option (Unit × Mem)
  | 0, _, _, _, _, _, _, _ => none
  | n + 1, v0, v1, v2, v3, v4, v6, μ => if v2 ≤ (v4 + 1) then B_Wo_init_101 k16 v0 v1 v2 v3 v4 v6 μ else b1 (aI μ v1 2 (v4 + 1)) (fun x89 => if x89 = v6 then (fun v0 v1 v2 v3 v4 v6 μ => B_Wo_init_76 k16 n v0 v1 v2 v3 v4 v6 μ) v0 v1 v2 v3 (v4 + 1) v6 μ else B_Wo_init_101 k16 v0 v1 v2 v3 v4 v6 μ)
set_option maxHeartbeats 4000000 in
set_option maxRecDepth 100000 in
theorem w_Wo_init_76 {X : CX} (E : EV X prog_11_method_1_code 7 "PlaceFinder$Word" none) {μ0 μ' : Mem} {r : Unit} (hQ : RQ X 1 10 μ0 none μ') (hR : xR X = { frames := 1, cells := 1, slots := 10, locals := 60 }) (hI : X.2.2.2.2.2.2.2.2.2.2.2.1.name = "<init>") (k16 : Option Nat → Option Nat → Int32 → Int32 → Int32 → Mem → Option (Unit × Mem)) (hk16 : ∀ (v0 : Option Nat) (v1 : Option Nat) (v2 : Int32) (v3 : Int32) (v4 : Int32) (μ : Mem), k16 v0 v1 v2 v3 v4 μ = some (r, μ') → WM X 7 16 [(0, vR v0), (1, vR v1), (2, vI v2), (3, vI v3), (4, vI v4)] [] 1 10 μ) (n : Nat) : ∀ (v0 : Option Nat) (v1 : Option Nat) (v2 : Int32) (v3 : Int32) (v4 : Int32) (v6 : Int32) (μ : Mem) (h : B_Wo_init_76 k16 n v0 v1 v2 v3 v4 v6 μ = some (r, μ')), WM X 7 76 [(0, vR v0), (1, vR v1), (2, vI v2), (3, vI v3), (4, vI v4), (6, vI v6)] [] 1 10 μ := by
  induction n with
  | zero => intro v0 v1 v2 v3 v4 v6 μ h; cases h
  | succ n ih =>
    intro v0 v1 v2 v3 v4 v6 μ h
    have h : (if v2 ≤ (v4 + 1) then B_Wo_init_101 k16 v0 v1 v2 v3 v4 v6 μ else b1 (aI μ v1 2 (v4 + 1)) (fun x89 => if x89 = v6 then (fun v0 v1 v2 v3 v4 v6 μ => B_Wo_init_76 k16 n v0 v1 v2 v3 v4 v6 μ) v0 v1 v2 v3 (v4 + 1) v6 μ else B_Wo_init_101 k16 v0 v1 v2 v3 v4 v6 μ)) = some (r, μ') := h
    refine wm_iload E dWo_init_76 (j := 4) rfl ?_
    refine wm_iconst (x := 1) E dWo_init_78 (by decide) ?_
    refine wm_iadd E dWo_init_79 ?_
    refine wm_iload_n E dWo_init_80 rfl (j := 2) rfl ?_
    refine wm_icmp_ge (tgt := 101) E dWo_init_81 (by decide) (fun c81 => ?_) (fun c81 => ?_)
    · have h := (if_pos c81).symm.trans h
      refine wm_pick (lv' := [(0, vR v0), (1, vR v1), (2, vI v2), (3, vI v3), (4, vI v4), (6, vI v6)]) [0, 1, 2, 3, 4, 5] rfl ?_
      exact w_Wo_init_101 E hQ hR hI k16 hk16 v0 v1 v2 v3 v4 v6 μ h
    · have h := (if_neg c81).symm.trans h
      refine wm_aload_n E dWo_init_84 rfl (j := 1) rfl ?_
      refine wm_iload E dWo_init_85 (j := 4) rfl ?_
      refine wm_iconst (x := 1) E dWo_init_87 (by decide) ?_
      refine wm_iadd E dWo_init_88 ?_
      refine wm_cald (t := 2) E rfl h dWo_init_89 (fun x89 h => ?_)
      refine wm_iload E dWo_init_90 (j := 5) rfl ?_
      refine wm_icmp_ne (tgt := 101) E dWo_init_92 (by decide) (fun c92 => ?_) (fun c92 => ?_)
      · have h := (if_neg c92).symm.trans h
        refine wm_pick (lv' := [(0, vR v0), (1, vR v1), (2, vI v2), (3, vI v3), (4, vI v4), (6, vI v6)]) [0, 1, 2, 3, 4, 5] rfl ?_
        exact w_Wo_init_101 E hQ hR hI k16 hk16 v0 v1 v2 v3 v4 v6 μ h
      · have h := (if_pos c92).symm.trans h
        refine wm_iinc (lv' := [(4, vI (v4 + 1)), (0, vR v0), (1, vR v1), (2, vI v2), (3, vI v3), (6, vI v6)]) (d := 1) E dWo_init_95 (by decide) (j := 4) rfl (by decide) rfl ?_
        refine wm_goto (tgt := 76) E dWo_init_98 (by decide) ?_
        refine wm_pick (lv' := [(0, vR v0), (1, vR v1), (2, vI v2), (3, vI v3), (4, vI (v4 + 1)), (6, vI v6)]) [1, 2, 3, 4, 0, 5] rfl ?_
        exact ih v0 v1 v2 v3 (v4 + 1) v6 μ h
def B_Wo_init_63 (k16 : Option Nat → Option Nat → Int32 → Int32 → Int32 → Mem → Option (Unit × Mem)) (v0 : Option Nat) (v1 : Option Nat) (v2 : Int32) (v3 : Int32) (v4 : Int32) (v5 : Int32) (s0 : Int32) (μ : Mem) : Option (Unit × Mem) := if v5 = 0 then B_Wo_init_76 k16 fu v0 v1 v2 v3 v4 s0 μ else B_Wo_init_101 k16 v0 v1 v2 v3 (v4 + 1) s0 μ
set_option maxHeartbeats 4000000 in
set_option maxRecDepth 100000 in
theorem w_Wo_init_63 {X : CX} (E : EV X prog_11_method_1_code 7 "PlaceFinder$Word" none) {μ0 μ' : Mem} {r : Unit} (hQ : RQ X 1 10 μ0 none μ') (hR : xR X = { frames := 1, cells := 1, slots := 10, locals := 60 }) (hI : X.2.2.2.2.2.2.2.2.2.2.2.1.name = "<init>") (k16 : Option Nat → Option Nat → Int32 → Int32 → Int32 → Mem → Option (Unit × Mem)) (hk16 : ∀ (v0 : Option Nat) (v1 : Option Nat) (v2 : Int32) (v3 : Int32) (v4 : Int32) (μ : Mem), k16 v0 v1 v2 v3 v4 μ = some (r, μ') → WM X 7 16 [(0, vR v0), (1, vR v1), (2, vI v2), (3, vI v3), (4, vI v4)] [] 1 10 μ) (v0 : Option Nat) (v1 : Option Nat) (v2 : Int32) (v3 : Int32) (v4 : Int32) (v5 : Int32) (s0 : Int32) (μ : Mem) (h : B_Wo_init_63 k16 v0 v1 v2 v3 v4 v5 s0 μ = some (r, μ')) : WM X 7 63 [(0, vR v0), (1, vR v1), (2, vI v2), (3, vI v3), (4, vI v4), (5, vI v5)] [vI s0] 1 10 μ := by
  have h : (if v5 = 0 then B_Wo_init_76 k16 fu v0 v1 v2 v3 v4 s0 μ else B_Wo_init_101 k16 v0 v1 v2 v3 (v4 + 1) s0 μ) = some (r, μ') := h
  refine wm_istore (lv' := [(6, vI s0), (0, vR v0), (1, vR v1), (2, vI v2), (3, vI v3), (4, vI v4), (5, vI v5)]) E dWo_init_63 (by decide) rfl ?_
  refine wm_iload E dWo_init_65 (j := 6) rfl ?_
  refine wm_if_eq (tgt := 76) E dWo_init_67 (by decide) (fun c67 => ?_) (fun c67 => ?_)
  · have h := (if_pos c67).symm.trans h
    refine wm_pick (lv' := [(0, vR v0), (1, vR v1), (2, vI v2), (3, vI v3), (4, vI v4), (6, vI s0)]) [1, 2, 3, 4, 5, 0] rfl ?_
    exact w_Wo_init_76 E hQ hR hI k16 hk16 fu v0 v1 v2 v3 v4 s0 μ h
  · have h := (if_neg c67).symm.trans h
    refine wm_iinc (lv' := [(4, vI (v4 + 1)), (6, vI s0), (0, vR v0), (1, vR v1), (2, vI v2), (3, vI v3), (5, vI v5)]) (d := 1) E dWo_init_70 (by decide) (j := 5) rfl (by decide) rfl ?_
    refine wm_goto (tgt := 101) E dWo_init_73 (by decide) ?_
    refine wm_pick (lv' := [(0, vR v0), (1, vR v1), (2, vI v2), (3, vI v3), (4, vI (v4 + 1)), (6, vI s0)]) [2, 3, 4, 5, 0, 1] rfl ?_
    exact w_Wo_init_101 E hQ hR hI k16 hk16 v0 v1 v2 v3 (v4 + 1) s0 μ h
def B_Wo_init_47 (k16 : Option Nat → Option Nat → Int32 → Int32 → Int32 → Mem → Option (Unit × Mem)) (v0 : Option Nat) (v1 : Option Nat) (v2 : Int32) (v3 : Int32) (v4 : Int32) (s0 : Int32) (μ : Mem) : Option (Unit × Mem) := if s0 = 0 then b1 (aI μ v1 2 v4) (fun x57 => B_Wo_init_63 k16 v0 v1 v2 v3 v4 s0 x57 μ) else B_Wo_init_63 k16 v0 v1 v2 v3 v4 s0 s0 μ
set_option maxHeartbeats 4000000 in
set_option maxRecDepth 100000 in
theorem w_Wo_init_47 {X : CX} (E : EV X prog_11_method_1_code 7 "PlaceFinder$Word" none) {μ0 μ' : Mem} {r : Unit} (hQ : RQ X 1 10 μ0 none μ') (hR : xR X = { frames := 1, cells := 1, slots := 10, locals := 60 }) (hI : X.2.2.2.2.2.2.2.2.2.2.2.1.name = "<init>") (k16 : Option Nat → Option Nat → Int32 → Int32 → Int32 → Mem → Option (Unit × Mem)) (hk16 : ∀ (v0 : Option Nat) (v1 : Option Nat) (v2 : Int32) (v3 : Int32) (v4 : Int32) (μ : Mem), k16 v0 v1 v2 v3 v4 μ = some (r, μ') → WM X 7 16 [(0, vR v0), (1, vR v1), (2, vI v2), (3, vI v3), (4, vI v4)] [] 1 10 μ) (v0 : Option Nat) (v1 : Option Nat) (v2 : Int32) (v3 : Int32) (v4 : Int32) (s0 : Int32) (μ : Mem) (h : B_Wo_init_47 k16 v0 v1 v2 v3 v4 s0 μ = some (r, μ')) : WM X 7 47 [(0, vR v0), (1, vR v1), (2, vI v2), (3, vI v3), (4, vI v4)] [vI s0] 1 10 μ := by
  have h : (if s0 = 0 then b1 (aI μ v1 2 v4) (fun x57 => B_Wo_init_63 k16 v0 v1 v2 v3 v4 s0 x57 μ) else B_Wo_init_63 k16 v0 v1 v2 v3 v4 s0 s0 μ) = some (r, μ') := h
  refine wm_istore (lv' := [(5, vI s0), (0, vR v0), (1, vR v1), (2, vI v2), (3, vI v3), (4, vI v4)]) E dWo_init_47 (by decide) rfl ?_
  refine wm_iload E dWo_init_49 (j := 0) rfl ?_
  refine wm_if_ne (tgt := 61) E dWo_init_51 (by decide) (fun c51 => ?_) (fun c51 => ?_)
  · have h := (if_neg c51).symm.trans h
    refine wm_iload E dWo_init_61 (j := 0) rfl ?_
    refine wm_pick (lv' := [(0, vR v0), (1, vR v1), (2, vI v2), (3, vI v3), (4, vI v4), (5, vI s0)]) [1, 2, 3, 4, 5, 0] rfl ?_
    exact w_Wo_init_63 E hQ hR hI k16 hk16 v0 v1 v2 v3 v4 s0 s0 μ h
  · have h := (if_pos c51).symm.trans h
    refine wm_aload_n E dWo_init_54 rfl (j := 2) rfl ?_
    refine wm_iload E dWo_init_55 (j := 5) rfl ?_
    refine wm_cald (t := 2) E rfl h dWo_init_57 (fun x57 h => ?_)
    refine wm_goto (tgt := 63) E dWo_init_58 (by decide) ?_
    refine wm_pick (lv' := [(0, vR v0), (1, vR v1), (2, vI v2), (3, vI v3), (4, vI v4), (5, vI s0)]) [1, 2, 3, 4, 5, 0] rfl ?_
    exact w_Wo_init_63 E hQ hR hI k16 hk16 v0 v1 v2 v3 v4 s0 x57 μ h
def B_Wo_init_16  : Nat → Option Nat → Option Nat → Int32 → Int32 → Int32 → Mem → Option (Unit × Mem)
  | 0, _, _, _, _, _, _ => none
  | n + 1, v0, v1, v2, v3, v4, μ => if v2 ≤ v4 then b1 (pV μ v0 10 1 (vI v3)) (fun m137 => some ((), m137)) else if v2 ≤ (v4 + 1) then B_Wo_init_47 (fun v0 v1 v2 v3 v4 μ => B_Wo_init_16 n v0 v1 v2 v3 v4 μ) v0 v1 v2 v3 v4 0 μ else b1 (aI μ v1 2 v4) (fun x33 => b1 (aI μ v1 2 (v4 + 1)) (fun x39 => b2 (S_Wo_joinedLetter x33 x39 μ) (fun x40 m40 => B_Wo_init_47 (fun v0 v1 v2 v3 v4 μ => B_Wo_init_16 n v0 v1 v2 v3 v4 μ) v0 v1 v2 v3 v4 x40 m40)))
set_option maxHeartbeats 4000000 in
set_option maxRecDepth 100000 in
theorem w_Wo_init_16 {X : CX} (E : EV X prog_11_method_1_code 7 "PlaceFinder$Word" none) {μ0 μ' : Mem} {r : Unit} (hQ : RQ X 1 10 μ0 none μ') (hR : xR X = { frames := 1, cells := 1, slots := 10, locals := 60 }) (hI : X.2.2.2.2.2.2.2.2.2.2.2.1.name = "<init>")  (n : Nat) : ∀ (v0 : Option Nat) (v1 : Option Nat) (v2 : Int32) (v3 : Int32) (v4 : Int32) (μ : Mem) (h : B_Wo_init_16  n v0 v1 v2 v3 v4 μ = some (r, μ')), WM X 7 16 [(0, vR v0), (1, vR v1), (2, vI v2), (3, vI v3), (4, vI v4)] [] 1 10 μ := by
  induction n with
  | zero => intro v0 v1 v2 v3 v4 μ h; cases h
  | succ n ih =>
    intro v0 v1 v2 v3 v4 μ h
    have h : (if v2 ≤ v4 then b1 (pV μ v0 10 1 (vI v3)) (fun m137 => some ((), m137)) else if v2 ≤ (v4 + 1) then B_Wo_init_47 (fun v0 v1 v2 v3 v4 μ => B_Wo_init_16 n v0 v1 v2 v3 v4 μ) v0 v1 v2 v3 v4 0 μ else b1 (aI μ v1 2 v4) (fun x33 => b1 (aI μ v1 2 (v4 + 1)) (fun x39 => b2 (S_Wo_joinedLetter x33 x39 μ) (fun x40 m40 => B_Wo_init_47 (fun v0 v1 v2 v3 v4 μ => B_Wo_init_16 n v0 v1 v2 v3 v4 μ) v0 v1 v2 v3 v4 x40 m40)))) = some (r, μ') := h
    refine wm_iload E dWo_init_16 (j := 4) rfl ?_
    refine wm_iload_n E dWo_init_18 rfl (j := 2) rfl ?_
    refine wm_icmp_ge (tgt := 135) E dWo_init_19 (by decide) (fun c19 => ?_) (fun c19 => ?_)
    · have h := (if_pos c19).symm.trans h
      refine wm_aload_n E dWo_init_135 rfl (j := 0) rfl ?_
      refine wm_iload_n E dWo_init_136 rfl (j := 3) rfl ?_
      refine wm_pI E fp_Wo_19 (fun _ => hI) h dWo_init_137 (fun m137 h => ?_)
      exact wm_vret E hQ rfl (rtM h) (by decide) (by decide) dWo_init_140
    · have h := (if_neg c19).symm.trans h
      refine wm_iload E dWo_init_22 (j := 4) rfl ?_
      refine wm_iconst (x := 1) E dWo_init_24 (by decide) ?_
      refine wm_iadd E dWo_init_25 ?_
      refine wm_iload_n E dWo_init_26 rfl (j := 2) rfl ?_
      refine wm_icmp_ge (tgt := 46) E dWo_init_27 (by decide) (fun c27 => ?_) (fun c27 => ?_)
      · have h := (if_pos c27).symm.trans h
        refine wm_iconst (x := 0) E dWo_init_46 (by decide) ?_
        refine wm_pick (lv' := [(0, vR v0), (1, vR v1), (2, vI v2), (3, vI v3), (4, vI v4)]) [0, 1, 2, 3, 4] rfl ?_
        exact w_Wo_init_47 E hQ hR hI (fun v0 v1 v2 v3 v4 μ => B_Wo_init_16 n v0 v1 v2 v3 v4 μ) ih v0 v1 v2 v3 v4 0 μ h
      · have h := (if_neg c27).symm.trans h
        refine wm_aload_n E dWo_init_30 rfl (j := 1) rfl ?_
        refine wm_iload E dWo_init_31 (j := 4) rfl ?_
        refine wm_cald (t := 2) E rfl h dWo_init_33 (fun x33 h => ?_)
        refine wm_aload_n E dWo_init_34 rfl (j := 1) rfl ?_
        refine wm_iload E dWo_init_35 (j := 4) rfl ?_
        refine wm_iconst (x := 1) E dWo_init_37 (by decide) ?_
        refine wm_iadd E dWo_init_38 ?_
        refine wm_cald (t := 2) E rfl h dWo_init_39 (fun x39 h => ?_)
        obtain ⟨x40, m40, hc40, h⟩ := b2S h
        refine wm_cS (As := [vI x33, vI x39]) (st := []) E lk_Wo_15 sc_Wo_joinedLetter (C_Wo_joinedLetter (xl X) X.1 x33 x39 μ _ _ hc40) rfl rfl (by rw [hR]; decide) (by rw [hR]; decide) (Nat.le_of_ble_eq_true rfl) dWo_init_40 ?_
        refine wm_goto (tgt := 47) E dWo_init_43 (by decide) ?_
        refine wm_pick (lv' := [(0, vR v0), (1, vR v1), (2, vI v2), (3, vI v3), (4, vI v4)]) [0, 1, 2, 3, 4] rfl ?_
        exact w_Wo_init_47 E hQ hR hI (fun v0 v1 v2 v3 v4 μ => B_Wo_init_16 n v0 v1 v2 v3 v4 μ) ih v0 v1 v2 v3 v4 x40 m40 h
def S_Wo_init (v0 : Option Nat) (v1 : Option Nat) (v2 : Int32) (μ : Mem) : Option (Unit × Mem) := b1 (rc μ v0 10) (fun _ => b2 (nI_ μ 2 v2 10) (fun x6 m6 => b1 (pV m6 v0 10 0 (vR x6)) (fun m8 => B_Wo_init_16 fu v0 v1 v2 0 0 m8)))
set_option maxHeartbeats 4000000 in
set_option maxRecDepth 100000 in
theorem C_Wo_init (l : Launch) (G : GG) (v0 : Option Nat) (v1 : Option Nat) (v2 : Int32) (μ μ' : Mem) (r : Unit) (h : S_Wo_init v0 v1 v2 μ = some (r, μ')) : CT l G y_Wo_init prog_11_method_1_code 7 none 1 1 10 60 μ [vR v0, vR v1, vI v2] none μ' := by
  refine wm_met (lv := [(0, vR v0), (1, vR v1), (2, vI v2)]) (by decide +kernel) (Nat.le_of_ble_eq_true rfl) rfl (fun X E hQ hR hI => ?_)
  have h : (b1 (rc μ v0 10) (fun _ => b2 (nI_ μ 2 v2 10) (fun x6 m6 => b1 (pV m6 v0 10 0 (vR x6)) (fun m8 => B_Wo_init_16 fu v0 v1 v2 0 0 m8)))) = some (r, μ') := h
  refine wm_aload_n E dWo_init_0 rfl (j := 0) rfl ?_
  obtain ⟨u1, hr1, h⟩ := b1S h
  refine wm_obj E hr1 oi_Wo_3 (by rw [hR]; decide) (by rw [hR]; decide) rfl dWo_init_1 ?_
  refine wm_aload_n E dWo_init_4 rfl (j := 0) rfl ?_
  refine wm_iload_n E dWo_init_5 rfl (j := 2) rfl ?_
  refine wm_newi (t := 2) (B := 10) E rfl rfl rfl ac_C h (by decide) (by rw [hR]; decide) (by rw [hR]; decide) dWo_init_6 (fun x6 m6 h => ?_)
  refine wm_pR E fp_Wo_9 (Or.inr ⟨_, rfl⟩) (fun _ => hI) h dWo_init_8 (fun m8 h => ?_)
  refine wm_iconst (x := 0) E dWo_init_11 (by decide) ?_
  refine wm_istore_n (lv' := [(3, vI 0), (0, vR v0), (1, vR v1), (2, vI v2)]) E dWo_init_12 rfl (by decide) rfl ?_
  refine wm_iconst (x := 0) E dWo_init_13 (by decide) ?_
  refine wm_istore (lv' := [(4, vI 0), (3, vI 0), (0, vR v0), (1, vR v1), (2, vI v2)]) E dWo_init_14 (by decide) rfl ?_
  refine wm_pick (lv' := [(0, vR v0), (1, vR v1), (2, vI v2), (3, vI 0), (4, vI 0)]) [2, 3, 4, 1, 0] rfl ?_
  exact w_Wo_init_16 E hQ hR hI fu v0 v1 v2 0 0 m8 h
def S_Cn_init (v0 : Option Nat) (v1 : Int32) (v2 : Int32) (v3 : Int32) (v4 : Int32) (v5 : Option Nat) (μ : Mem) : Option (Unit × Mem) := b1 (rc μ v0 1) (fun _ => b1 (pV μ v0 1 0 (vI v1)) (fun m6 => b1 (pV m6 v0 1 1 (vI v2)) (fun m11 => b1 (pV m11 v0 1 2 (vI v3)) (fun m16 => b1 (pV m16 v0 1 3 (vI v4)) (fun m22 => b1 (pV m22 v0 1 4 (vR v5)) (fun m28 => some ((), m28)))))))
set_option maxHeartbeats 4000000 in
set_option maxRecDepth 100000 in
theorem C_Cn_init (l : Launch) (G : GG) (v0 : Option Nat) (v1 : Int32) (v2 : Int32) (v3 : Int32) (v4 : Int32) (v5 : Option Nat) (μ μ' : Mem) (r : Unit) (h : S_Cn_init v0 v1 v2 v3 v4 v5 μ = some (r, μ')) : CT l G y_Cn_init prog_2_method_1_code 6 none 1 0 0 60 μ [vR v0, vI v1, vI v2, vI v3, vI v4, vR v5] none μ' := by
  refine wm_met (lv := [(0, vR v0), (1, vI v1), (2, vI v2), (3, vI v3), (4, vI v4), (5, vR v5)]) (by decide +kernel) (Nat.le_of_ble_eq_true rfl) rfl (fun X E hQ hR hI => ?_)
  have h : (b1 (rc μ v0 1) (fun _ => b1 (pV μ v0 1 0 (vI v1)) (fun m6 => b1 (pV m6 v0 1 1 (vI v2)) (fun m11 => b1 (pV m11 v0 1 2 (vI v3)) (fun m16 => b1 (pV m16 v0 1 3 (vI v4)) (fun m22 => b1 (pV m22 v0 1 4 (vR v5)) (fun m28 => some ((), m28)))))))) = some (r, μ') := h
  refine wm_aload_n E dCn_init_0 rfl (j := 0) rfl ?_
  obtain ⟨u1, hr1, h⟩ := b1S h
  refine wm_obj E hr1 oi_Cn_1 (by rw [hR]; decide) (by rw [hR]; decide) rfl dCn_init_1 ?_
  refine wm_aload_n E dCn_init_4 rfl (j := 0) rfl ?_
  refine wm_iload_n E dCn_init_5 rfl (j := 1) rfl ?_
  refine wm_pI E fp_Cn_7 (fun _ => hI) h dCn_init_6 (fun m6 h => ?_)
  refine wm_aload_n E dCn_init_9 rfl (j := 0) rfl ?_
  refine wm_iload_n E dCn_init_10 rfl (j := 2) rfl ?_
  refine wm_pI E fp_Cn_13 (fun _ => hI) h dCn_init_11 (fun m11 h => ?_)
  refine wm_aload_n E dCn_init_14 rfl (j := 0) rfl ?_
  refine wm_iload_n E dCn_init_15 rfl (j := 3) rfl ?_
  refine wm_pI E fp_Cn_16 (fun _ => hI) h dCn_init_16 (fun m16 h => ?_)
  refine wm_aload_n E dCn_init_19 rfl (j := 0) rfl ?_
  refine wm_iload E dCn_init_20 (j := 4) rfl ?_
  refine wm_pI E fp_Cn_19 (fun _ => hI) h dCn_init_22 (fun m22 h => ?_)
  refine wm_aload_n E dCn_init_25 rfl (j := 0) rfl ?_
  refine wm_aload E dCn_init_26 (j := 5) rfl ?_
  refine wm_pR E fp_Cn_22 (Or.inl ⟨_, rfl⟩) (fun _ => hI) h dCn_init_28 (fun m28 h => ?_)
  exact wm_vret E hQ rfl (rtM h) (by decide) (by decide) dCn_init_31
def B_P_isKind_15  (s0 : Int32) (μ : Mem) : Option (Int32 × Mem) := gd (¬ okZ s0 = true) (some (s0, μ))
set_option maxHeartbeats 4000000 in
set_option maxRecDepth 100000 in
theorem w_P_isKind_15 {X : CX} (E : EV X prog_1_method_22_code 1 "PlaceFinder" (some .boolean)) {μ0 μ' : Mem} {r : Int32} (hQ : RQ X 0 0 μ0 (some (vI r)) μ') (hR : xR X = { frames := 0, cells := 0, slots := 0, locals := 0 }) (hI : X.2.2.2.2.2.2.2.2.2.2.2.1.name = "isKind")  (s0 : Int32) (μ : Mem) (h : B_P_isKind_15  s0 μ = some (r, μ')) : WM X 1 15 [] [vI s0] 0 0 μ := by
  have h : (gd (¬ okZ s0 = true) (some (s0, μ))) = some (r, μ') := h
  obtain ⟨hz15, h⟩ := gdS h
  exact wm_zret (rt := .boolean) E hQ (rtI h) (rtM h) (okZN hz15) (by decide) (by decide) dP_isKind_15
def B_P_isKind_14   (μ : Mem) : Option (Int32 × Mem) := B_P_isKind_15 0 μ
set_option maxHeartbeats 4000000 in
set_option maxRecDepth 100000 in
theorem w_P_isKind_14 {X : CX} (E : EV X prog_1_method_22_code 1 "PlaceFinder" (some .boolean)) {μ0 μ' : Mem} {r : Int32} (hQ : RQ X 0 0 μ0 (some (vI r)) μ') (hR : xR X = { frames := 0, cells := 0, slots := 0, locals := 0 }) (hI : X.2.2.2.2.2.2.2.2.2.2.2.1.name = "isKind")   (μ : Mem) (h : B_P_isKind_14   μ = some (r, μ')) : WM X 1 14 [] [] 0 0 μ := by
  have h : (B_P_isKind_15 0 μ) = some (r, μ') := h
  refine wm_iconst (x := 0) E dP_isKind_14 (by decide) ?_
  refine wm_pick (lv' := []) [] rfl ?_
  exact w_P_isKind_15 E hQ hR hI 0 μ h
def S_P_isKind (v0 : Int32) (μ : Mem) : Option (Int32 × Mem) := if v0 < 0 then B_P_isKind_14 μ else if 7 < v0 then B_P_isKind_14 μ else B_P_isKind_15 1 μ
set_option maxHeartbeats 4000000 in
set_option maxRecDepth 100000 in
theorem C_P_isKind (l : Launch) (G : GG) (v0 : Int32) (μ μ' : Mem) (r : Int32) (h : S_P_isKind v0 μ = some (r, μ')) : CT l G y_P_isKind prog_1_method_22_code 1 (some .boolean) 0 0 0 0 μ [vI v0] (some (vI r)) μ' := by
  refine wm_met (lv := [(0, vI v0)]) (by decide +kernel) (Nat.le_of_ble_eq_true rfl) rfl (fun X E hQ hR hI => ?_)
  have h : (if v0 < 0 then B_P_isKind_14 μ else if 7 < v0 then B_P_isKind_14 μ else B_P_isKind_15 1 μ) = some (r, μ') := h
  refine wm_iload_n E dP_isKind_0 rfl (j := 0) rfl ?_
  refine wm_if_lt (tgt := 14) E dP_isKind_1 (by decide) (fun c1 => ?_) (fun c1 => ?_)
  · have h := (if_pos c1).symm.trans h
    refine wm_pick (lv' := []) [] rfl ?_
    exact w_P_isKind_14 E hQ hR hI μ h
  · have h := (if_neg c1).symm.trans h
    refine wm_iload_n E dP_isKind_4 rfl (j := 0) rfl ?_
    refine wm_bipush (x := 7) E dP_isKind_5 (by decide) ?_
    refine wm_icmp_gt (tgt := 14) E dP_isKind_7 (by decide) (fun c7 => ?_) (fun c7 => ?_)
    · have h := (if_pos c7).symm.trans h
      refine wm_pick (lv' := []) [] rfl ?_
      exact w_P_isKind_14 E hQ hR hI μ h
    · have h := (if_neg c7).symm.trans h
      refine wm_iconst (x := 1) E dP_isKind_10 (by decide) ?_
      refine wm_goto (tgt := 15) E dP_isKind_11 (by decide) ?_
      refine wm_pick (lv' := []) [] rfl ?_
      exact w_P_isKind_15 E hQ hR hI 1 μ h
def S_Al_size (v0 : Option Nat) (μ : Mem) : Option (Int32 × Mem) := b1 (gI μ v0 0 1) (fun x1 => some (x1, μ))
set_option maxHeartbeats 4000000 in
set_option maxRecDepth 100000 in
theorem C_Al_size (l : Launch) (G : GG) (v0 : Option Nat) (μ μ' : Mem) (r : Int32) (h : S_Al_size v0 μ = some (r, μ')) : CT l G y_Al_size prog_33_method_8_code 1 (some .int) 0 0 0 0 μ [vR v0] (some (vI r)) μ' := by
  refine wm_met (lv := [(0, vR v0)]) (by decide +kernel) (Nat.le_of_ble_eq_true rfl) rfl (fun X E hQ hR hI => ?_)
  have h : (b1 (gI μ v0 0 1) (fun x1 => some (x1, μ))) = some (r, μ') := h
  refine wm_aload_n E dAl_size_0 rfl (j := 0) rfl ?_
  refine wm_gI E fd_Al_48 h dAl_size_1 (fun x1 h => ?_)
  exact wm_iret (rt := .int) E hQ (rtI h) (rtM h) (by decide) (by decide) dAl_size_4
def B_Ma_max_10  (s0 : Int32) (μ : Mem) : Option (Int32 × Mem) := some (s0, μ)
set_option maxHeartbeats 4000000 in
set_option maxRecDepth 100000 in
theorem w_Ma_max_10 {X : CX} (E : EV X prog_23_method_65_code 2 "java/lang/Math" (some .int)) {μ0 μ' : Mem} {r : Int32} (hQ : RQ X 0 0 μ0 (some (vI r)) μ') (hR : xR X = { frames := 0, cells := 0, slots := 0, locals := 0 }) (hI : X.2.2.2.2.2.2.2.2.2.2.2.1.name = "max")  (s0 : Int32) (μ : Mem) (h : B_Ma_max_10  s0 μ = some (r, μ')) : WM X 2 10 [] [vI s0] 0 0 μ := by
  have h : (some (s0, μ)) = some (r, μ') := h
  exact wm_iret (rt := .int) E hQ (rtI h) (rtM h) (by decide) (by decide) dMa_max_10
def S_Ma_max (v0 : Int32) (v1 : Int32) (μ : Mem) : Option (Int32 × Mem) := if v0 < v1 then B_Ma_max_10 v1 μ else B_Ma_max_10 v0 μ
set_option maxHeartbeats 4000000 in
set_option maxRecDepth 100000 in
theorem C_Ma_max (l : Launch) (G : GG) (v0 : Int32) (v1 : Int32) (μ μ' : Mem) (r : Int32) (h : S_Ma_max v0 v1 μ = some (r, μ')) : CT l G y_Ma_max prog_23_method_65_code 2 (some .int) 0 0 0 0 μ [vI v0, vI v1] (some (vI r)) μ' := by
  refine wm_met (lv := [(0, vI v0), (1, vI v1)]) (by decide +kernel) (Nat.le_of_ble_eq_true rfl) rfl (fun X E hQ hR hI => ?_)
  have h : (if v0 < v1 then B_Ma_max_10 v1 μ else B_Ma_max_10 v0 μ) = some (r, μ') := h
  refine wm_iload_n E dMa_max_0 rfl (j := 0) rfl ?_
  refine wm_iload_n E dMa_max_1 rfl (j := 1) rfl ?_
  refine wm_icmp_lt (tgt := 9) E dMa_max_2 (by decide) (fun c2 => ?_) (fun c2 => ?_)
  · have h := (if_pos c2).symm.trans h
    refine wm_iload_n E dMa_max_9 rfl (j := 1) rfl ?_
    refine wm_pick (lv' := []) [] rfl ?_
    exact w_Ma_max_10 E hQ hR hI v1 μ h
  · have h := (if_neg c2).symm.trans h
    refine wm_iload_n E dMa_max_5 rfl (j := 0) rfl ?_
    refine wm_goto (tgt := 10) E dMa_max_6 (by decide) ?_
    refine wm_pick (lv' := []) [] rfl ?_
    exact w_Ma_max_10 E hQ hR hI v0 μ h
def S_Su_newLength (v0 : Int32) (v1 : Int32) (v2 : Int32) (μ : Mem) : Option (Int32 × Mem) := b2 (S_Ma_max v1 v2 μ) (fun x3 m3 => b0 (v0 + x3) (fun x7 => if x7 ≤ 0 then none else if 2147483639 < x7 then none else some (x7, m3)))
set_option maxHeartbeats 4000000 in
set_option maxRecDepth 100000 in
theorem C_Su_newLength (l : Launch) (G : GG) (v0 : Int32) (v1 : Int32) (v2 : Int32) (μ μ' : Mem) (r : Int32) (h : S_Su_newLength v0 v1 v2 μ = some (r, μ')) : CT l G y_Su_newLength prog_41_method_27_code 4 (some .int) 1 0 0 21 μ [vI v0, vI v1, vI v2] (some (vI r)) μ' := by
  refine wm_met (lv := [(0, vI v0), (1, vI v1), (2, vI v2)]) (by decide +kernel) (Nat.le_of_ble_eq_true rfl) rfl (fun X E hQ hR hI => ?_)
  have h : (b2 (S_Ma_max v1 v2 μ) (fun x3 m3 => b0 (v0 + x3) (fun x7 => if x7 ≤ 0 then none else if 2147483639 < x7 then none else some (x7, m3)))) = some (r, μ') := h
  refine wm_iload_n E dSu_newLength_0 rfl (j := 0) rfl ?_
  refine wm_iload_n E dSu_newLength_1 rfl (j := 1) rfl ?_
  refine wm_iload_n E dSu_newLength_2 rfl (j := 2) rfl ?_
  obtain ⟨x3, m3, hc3, h⟩ := b2S h
  refine wm_cS (As := [vI v1, vI v2]) (st := [vI v0]) E lk_Su_194 sc_Ma_max (C_Ma_max (xl X) X.1 v1 v2 μ _ _ hc3) rfl rfl (by rw [hR]; decide) (by rw [hR]; decide) (Nat.le_of_ble_eq_true rfl) dSu_newLength_3 ?_
  refine wm_iadd E dSu_newLength_6 ?_
  refine wm_letI h (fun x7 h => ?_)
  refine wm_istore_n (lv' := [(3, vI x7), (0, vI v0), (1, vI v1), (2, vI v2)]) E dSu_newLength_7 rfl (by decide) rfl ?_
  refine wm_iconst (x := 0) E dSu_newLength_8 (by decide) ?_
  refine wm_iload_n E dSu_newLength_9 rfl (j := 0) rfl ?_
  refine wm_icmp_ge (tgt := 21) E dSu_newLength_10 (by decide) (fun c10 => ?_) (fun c10 => ?_)
  · have h := (if_pos c10).symm.trans h
    cases h
  · have h := (if_neg c10).symm.trans h
    refine wm_iload_n E dSu_newLength_13 rfl (j := 0) rfl ?_
    refine wm_ldc (x := 2147483639) E cn_Su_200 dSu_newLength_14 ?_
    refine wm_icmp_gt (tgt := 21) E dSu_newLength_16 (by decide) (fun c16 => ?_) (fun c16 => ?_)
    · have h := (if_pos c16).symm.trans h
      cases h
    · have h := (if_neg c16).symm.trans h
      refine wm_iload_n E dSu_newLength_19 rfl (j := 0) rfl ?_
      exact wm_iret (rt := .int) E hQ (rtI h) (rtM h) (by decide) (by decide) dSu_newLength_20
def B_P_arePosition_27  (s0 : Int32) (μ : Mem) : Option (Int32 × Mem) := gd (¬ okZ s0 = true) (some (s0, μ))
set_option maxHeartbeats 4000000 in
set_option maxRecDepth 100000 in
theorem w_P_arePosition_27 {X : CX} (E : EV X prog_1_method_25_code 2 "PlaceFinder" (some .boolean)) {μ0 μ' : Mem} {r : Int32} (hQ : RQ X 0 0 μ0 (some (vI r)) μ') (hR : xR X = { frames := 0, cells := 0, slots := 0, locals := 0 }) (hI : X.2.2.2.2.2.2.2.2.2.2.2.1.name = "arePosition")  (s0 : Int32) (μ : Mem) (h : B_P_arePosition_27  s0 μ = some (r, μ')) : WM X 2 27 [] [vI s0] 0 0 μ := by
  have h : (gd (¬ okZ s0 = true) (some (s0, μ))) = some (r, μ') := h
  obtain ⟨hz27, h⟩ := gdS h
  exact wm_zret (rt := .boolean) E hQ (rtI h) (rtM h) (okZN hz27) (by decide) (by decide) dP_arePosition_27
def B_P_arePosition_26   (μ : Mem) : Option (Int32 × Mem) := B_P_arePosition_27 0 μ
set_option maxHeartbeats 4000000 in
set_option maxRecDepth 100000 in
theorem w_P_arePosition_26 {X : CX} (E : EV X prog_1_method_25_code 2 "PlaceFinder" (some .boolean)) {μ0 μ' : Mem} {r : Int32} (hQ : RQ X 0 0 μ0 (some (vI r)) μ') (hR : xR X = { frames := 0, cells := 0, slots := 0, locals := 0 }) (hI : X.2.2.2.2.2.2.2.2.2.2.2.1.name = "arePosition")   (μ : Mem) (h : B_P_arePosition_26   μ = some (r, μ')) : WM X 2 26 [] [] 0 0 μ := by
  have h : (B_P_arePosition_27 0 μ) = some (r, μ') := h
  refine wm_iconst (x := 0) E dP_arePosition_26 (by decide) ?_
  refine wm_pick (lv' := []) [] rfl ?_
  exact w_P_arePosition_27 E hQ hR hI 0 μ h
def S_P_arePosition (v0 : Int32) (v1 : Int32) (μ : Mem) : Option (Int32 × Mem) := if v0 < 0 then B_P_arePosition_26 μ else if 4095 < v0 then B_P_arePosition_26 μ else if v1 < 0 then B_P_arePosition_26 μ else if 4095 < v1 then B_P_arePosition_26 μ else B_P_arePosition_27 1 μ
set_option maxHeartbeats 4000000 in
set_option maxRecDepth 100000 in
theorem C_P_arePosition (l : Launch) (G : GG) (v0 : Int32) (v1 : Int32) (μ μ' : Mem) (r : Int32) (h : S_P_arePosition v0 v1 μ = some (r, μ')) : CT l G y_P_arePosition prog_1_method_25_code 2 (some .boolean) 0 0 0 0 μ [vI v0, vI v1] (some (vI r)) μ' := by
  refine wm_met (lv := [(0, vI v0), (1, vI v1)]) (by decide +kernel) (Nat.le_of_ble_eq_true rfl) rfl (fun X E hQ hR hI => ?_)
  have h : (if v0 < 0 then B_P_arePosition_26 μ else if 4095 < v0 then B_P_arePosition_26 μ else if v1 < 0 then B_P_arePosition_26 μ else if 4095 < v1 then B_P_arePosition_26 μ else B_P_arePosition_27 1 μ) = some (r, μ') := h
  refine wm_iload_n E dP_arePosition_0 rfl (j := 0) rfl ?_
  refine wm_if_lt (tgt := 26) E dP_arePosition_1 (by decide) (fun c1 => ?_) (fun c1 => ?_)
  · have h := (if_pos c1).symm.trans h
    refine wm_pick (lv' := []) [] rfl ?_
    exact w_P_arePosition_26 E hQ hR hI μ h
  · have h := (if_neg c1).symm.trans h
    refine wm_iload_n E dP_arePosition_4 rfl (j := 0) rfl ?_
    refine wm_sipush (x := 4095) E dP_arePosition_5 (by decide) ?_
    refine wm_icmp_gt (tgt := 26) E dP_arePosition_8 (by decide) (fun c8 => ?_) (fun c8 => ?_)
    · have h := (if_pos c8).symm.trans h
      refine wm_pick (lv' := []) [] rfl ?_
      exact w_P_arePosition_26 E hQ hR hI μ h
    · have h := (if_neg c8).symm.trans h
      refine wm_iload_n E dP_arePosition_11 rfl (j := 1) rfl ?_
      refine wm_if_lt (tgt := 26) E dP_arePosition_12 (by decide) (fun c12 => ?_) (fun c12 => ?_)
      · have h := (if_pos c12).symm.trans h
        refine wm_pick (lv' := []) [] rfl ?_
        exact w_P_arePosition_26 E hQ hR hI μ h
      · have h := (if_neg c12).symm.trans h
        refine wm_iload_n E dP_arePosition_15 rfl (j := 1) rfl ?_
        refine wm_sipush (x := 4095) E dP_arePosition_16 (by decide) ?_
        refine wm_icmp_gt (tgt := 26) E dP_arePosition_19 (by decide) (fun c19 => ?_) (fun c19 => ?_)
        · have h := (if_pos c19).symm.trans h
          refine wm_pick (lv' := []) [] rfl ?_
          exact w_P_arePosition_26 E hQ hR hI μ h
        · have h := (if_neg c19).symm.trans h
          refine wm_iconst (x := 1) E dP_arePosition_22 (by decide) ?_
          refine wm_goto (tgt := 27) E dP_arePosition_23 (by decide) ?_
          refine wm_pick (lv' := []) [] rfl ?_
          exact w_P_arePosition_27 E hQ hR hI 1 μ h
def S_Pr_checkIndex (v0 : Int32) (v1 : Int32) (v2 : Option Nat) (μ : Mem) : Option (Int32 × Mem) := if v0 < 0 then none else if v0 < v1 then some (v0, μ) else none
set_option maxHeartbeats 4000000 in
set_option maxRecDepth 100000 in
theorem C_Pr_checkIndex (l : Launch) (G : GG) (v0 : Int32) (v1 : Int32) (v2 : Option Nat) (μ μ' : Mem) (r : Int32) (h : S_Pr_checkIndex v0 v1 v2 μ = some (r, μ')) : CT l G y_Pr_checkIndex prog_42_method_11_code 3 (some .int) 0 0 0 0 μ [vI v0, vI v1, vR v2] (some (vI r)) μ' := by
  refine wm_met (lv := [(0, vI v0), (1, vI v1), (2, vR v2)]) (by decide +kernel) (Nat.le_of_ble_eq_true rfl) rfl (fun X E hQ hR hI => ?_)
  have h : (if v0 < 0 then none else if v0 < v1 then some (v0, μ) else none) = some (r, μ') := h
  refine wm_iload_n E dPr_checkIndex_0 rfl (j := 0) rfl ?_
  refine wm_if_lt (tgt := 9) E dPr_checkIndex_1 (by decide) (fun c1 => ?_) (fun c1 => ?_)
  · have h := (if_pos c1).symm.trans h
    cases h
  · have h := (if_neg c1).symm.trans h
    refine wm_iload_n E dPr_checkIndex_4 rfl (j := 0) rfl ?_
    refine wm_iload_n E dPr_checkIndex_5 rfl (j := 1) rfl ?_
    refine wm_icmp_lt (tgt := 16) E dPr_checkIndex_6 (by decide) (fun c6 => ?_) (fun c6 => ?_)
    · have h := (if_pos c6).symm.trans h
      refine wm_iload_n E dPr_checkIndex_16 rfl (j := 0) rfl ?_
      exact wm_iret (rt := .int) E hQ (rtI h) (rtM h) (by decide) (by decide) dPr_checkIndex_17
    · have h := (if_neg c6).symm.trans h
      cases h
def S_Ob_checkIndex (v0 : Int32) (v1 : Int32) (μ : Mem) : Option (Int32 × Mem) := b2 (S_Pr_checkIndex v0 v1 none μ) (fun x3 m3 => some (x3, m3))
set_option maxHeartbeats 4000000 in
set_option maxRecDepth 100000 in
theorem C_Ob_checkIndex (l : Launch) (G : GG) (v0 : Int32) (v1 : Int32) (μ μ' : Mem) (r : Int32) (h : S_Ob_checkIndex v0 v1 μ = some (r, μ')) : CT l G y_Ob_checkIndex prog_38_method_17_code 2 (some .int) 1 0 0 22 μ [vI v0, vI v1] (some (vI r)) μ' := by
  refine wm_met (lv := [(0, vI v0), (1, vI v1)]) (by decide +kernel) (Nat.le_of_ble_eq_true rfl) rfl (fun X E hQ hR hI => ?_)
  have h : (b2 (S_Pr_checkIndex v0 v1 none μ) (fun x3 m3 => some (x3, m3))) = some (r, μ') := h
  refine wm_iload_n E dOb_checkIndex_0 rfl (j := 0) rfl ?_
  refine wm_iload_n E dOb_checkIndex_1 rfl (j := 1) rfl ?_
  refine wm_null E dOb_checkIndex_2 ?_
  obtain ⟨x3, m3, hc3, h⟩ := b2S h
  refine wm_cS (As := [vI v0, vI v1, vR none]) (st := []) E lk_Ob_105 sc_Pr_checkIndex (C_Pr_checkIndex (xl X) X.1 v0 v1 none μ _ _ hc3) rfl rfl (by rw [hR]; decide) (by rw [hR]; decide) (Nat.le_of_ble_eq_true rfl) dOb_checkIndex_3 ?_
  exact wm_iret (rt := .int) E hQ (rtI h) (rtM h) (by decide) (by decide) dOb_checkIndex_6
def S_Al_elementData (v0 : Option Nat) (v1 : Int32) (μ : Mem) : Option (Option Nat × Mem) := b1 (gR μ v0 0 0) (fun x1 => b1 (aR μ x1 4 v1) (fun x5 => some (x5, μ)))
set_option maxHeartbeats 4000000 in
set_option maxRecDepth 100000 in
theorem C_Al_elementData (l : Launch) (G : GG) (v0 : Option Nat) (v1 : Int32) (μ μ' : Mem) (r : Option Nat) (h : S_Al_elementData v0 v1 μ = some (r, μ')) : CT l G y_Al_elementData prog_33_method_18_code 2 (some (.object "java/lang/Object")) 0 0 0 0 μ [vR v0, vI v1] (some (vR r)) μ' := by
  refine wm_met (lv := [(0, vR v0), (1, vI v1)]) (by decide +kernel) (Nat.le_of_ble_eq_true rfl) rfl (fun X E hQ hR hI => ?_)
  have h : (b1 (gR μ v0 0 0) (fun x1 => b1 (aR μ x1 4 v1) (fun x5 => some (x5, μ)))) = some (r, μ') := h
  refine wm_aload_n E dAl_elementData_0 rfl (j := 0) rfl ?_
  refine wm_gR E fd_Al_9 h dAl_elementData_1 (fun x1 h => ?_)
  refine wm_iload_n E dAl_elementData_4 rfl (j := 1) rfl ?_
  refine wm_aald (t := 4) E rfl rfl h dAl_elementData_5 (fun x5 h => ?_)
  exact wm_aret E hQ (rtR h) (rtM h) (Or.inl ⟨_, rfl⟩) (by decide) (by decide) dAl_elementData_6
def S_Al_get (v0 : Option Nat) (v1 : Int32) (μ : Mem) : Option (Option Nat × Mem) := b1 (gI μ v0 0 1) (fun x2 => b2 (S_Ob_checkIndex v1 x2 μ) (fun x5 m5 => b1 (rc m5 v0 0) (fun _ => b2 (S_Al_elementData v0 v1 m5) (fun x11 m11 => some (x11, m11)))))
set_option maxHeartbeats 4000000 in
set_option maxRecDepth 100000 in
theorem C_Al_get (l : Launch) (G : GG) (v0 : Option Nat) (v1 : Int32) (μ μ' : Mem) (r : Option Nat) (h : S_Al_get v0 v1 μ = some (r, μ')) : CT l G y_Al_get prog_33_method_20_code 2 (some (.object "java/lang/Object")) 2 0 0 43 μ [vR v0, vI v1] (some (vR r)) μ' := by
  refine wm_met (lv := [(0, vR v0), (1, vI v1)]) (by decide +kernel) (Nat.le_of_ble_eq_true rfl) rfl (fun X E hQ hR hI => ?_)
  have h : (b1 (gI μ v0 0 1) (fun x2 => b2 (S_Ob_checkIndex v1 x2 μ) (fun x5 m5 => b1 (rc m5 v0 0) (fun _ => b2 (S_Al_elementData v0 v1 m5) (fun x11 m11 => some (x11, m11)))))) = some (r, μ') := h
  refine wm_iload_n E dAl_get_0 rfl (j := 1) rfl ?_
  refine wm_aload_n E dAl_get_1 rfl (j := 0) rfl ?_
  refine wm_gI E fd_Al_48 h dAl_get_2 (fun x2 h => ?_)
  obtain ⟨x5, m5, hc5, h⟩ := b2S h
  refine wm_cS (As := [vI v1, vI x2]) (st := []) E lk_Al_118 sc_Ob_checkIndex (C_Ob_checkIndex (xl X) X.1 v1 x2 μ _ _ hc5) rfl rfl (by rw [hR]; decide) (by rw [hR]; decide) (Nat.le_of_ble_eq_true rfl) dAl_get_5 ?_
  refine wm_pop E dAl_get_8 rfl ?_
  refine wm_aload_n E dAl_get_9 rfl (j := 0) rfl ?_
  refine wm_iload_n E dAl_get_10 rfl (j := 1) rfl ?_
  obtain ⟨u11, hr11, h⟩ := b1S h
  obtain ⟨x11, m11, hc11, h⟩ := b2S h
  refine wm_cV (ci := 0) (As := [vI v1]) (st := []) E lk_Al_123 rfl im_Al_elementData sl_Al_elementData hr11 (C_Al_elementData (xl X) X.1 v0 v1 m5 _ _ hc11) rfl rfl (by rw [hR]; decide) (by rw [hR]; decide) (Nat.le_of_ble_eq_true rfl) dAl_get_11 ?_
  exact wm_aret E hQ (rtR h) (rtM h) (Or.inl ⟨_, rfl⟩) (by decide) (by decide) dAl_get_14
def B_P_placeOf_30  (s0 : Option Nat) (μ : Mem) : Option (Option Nat × Mem) := some (s0, μ)
set_option maxHeartbeats 4000000 in
set_option maxRecDepth 100000 in
theorem w_P_placeOf_30 {X : CX} (E : EV X prog_1_method_28_code 2 "PlaceFinder" (some (.object "PlaceFinder$Place"))) {μ0 μ' : Mem} {r : Option Nat} (hQ : RQ X 0 0 μ0 (some (vR r)) μ') (hR : xR X = { frames := 3, cells := 0, slots := 0, locals := 64 }) (hI : X.2.2.2.2.2.2.2.2.2.2.2.1.name = "placeOf")  (s0 : Option Nat) (μ : Mem) (h : B_P_placeOf_30  s0 μ = some (r, μ')) : WM X 2 30 [] [vR s0] 0 0 μ := by
  have h : (some (s0, μ)) = some (r, μ') := h
  exact wm_aret E hQ (rtR h) (rtM h) (Or.inl ⟨_, rfl⟩) (by decide) (by decide) dP_placeOf_30
def B_P_placeOf_29   (μ : Mem) : Option (Option Nat × Mem) := B_P_placeOf_30 none μ
set_option maxHeartbeats 4000000 in
set_option maxRecDepth 100000 in
theorem w_P_placeOf_29 {X : CX} (E : EV X prog_1_method_28_code 2 "PlaceFinder" (some (.object "PlaceFinder$Place"))) {μ0 μ' : Mem} {r : Option Nat} (hQ : RQ X 0 0 μ0 (some (vR r)) μ') (hR : xR X = { frames := 3, cells := 0, slots := 0, locals := 64 }) (hI : X.2.2.2.2.2.2.2.2.2.2.2.1.name = "placeOf")   (μ : Mem) (h : B_P_placeOf_29   μ = some (r, μ')) : WM X 2 29 [] [] 0 0 μ := by
  have h : (B_P_placeOf_30 none μ) = some (r, μ') := h
  refine wm_null E dP_placeOf_29 ?_
  refine wm_pick (lv' := []) [] rfl ?_
  exact w_P_placeOf_30 E hQ hR hI none μ h
def S_P_placeOf (v0 : Option Nat) (v1 : Int32) (μ : Mem) : Option (Option Nat × Mem) := if v1 < 0 then B_P_placeOf_29 μ else b1 (gR μ v0 11 0) (fun x6 => b1 (rc μ x6 0) (fun _ => b2 (S_Al_size x6 μ) (fun x9 m9 => if x9 ≤ v1 then B_P_placeOf_29 m9 else b1 (gR m9 v0 11 0) (fun x16 => b1 (rc m9 x16 0) (fun _ => b2 (S_Al_get x16 v1 m9) (fun x20 m20 => b1 (cK m20 x20 7) (fun _ => B_P_placeOf_30 x20 m20)))))))
set_option maxHeartbeats 4000000 in
set_option maxRecDepth 100000 in
theorem C_P_placeOf (l : Launch) (G : GG) (v0 : Option Nat) (v1 : Int32) (μ μ' : Mem) (r : Option Nat) (h : S_P_placeOf v0 v1 μ = some (r, μ')) : CT l G y_P_placeOf prog_1_method_28_code 2 (some (.object "PlaceFinder$Place")) 3 0 0 64 μ [vR v0, vI v1] (some (vR r)) μ' := by
  refine wm_met (lv := [(0, vR v0), (1, vI v1)]) (by decide +kernel) (Nat.le_of_ble_eq_true rfl) rfl (fun X E hQ hR hI => ?_)
  have h : (if v1 < 0 then B_P_placeOf_29 μ else b1 (gR μ v0 11 0) (fun x6 => b1 (rc μ x6 0) (fun _ => b2 (S_Al_size x6 μ) (fun x9 m9 => if x9 ≤ v1 then B_P_placeOf_29 m9 else b1 (gR m9 v0 11 0) (fun x16 => b1 (rc m9 x16 0) (fun _ => b2 (S_Al_get x16 v1 m9) (fun x20 m20 => b1 (cK m20 x20 7) (fun _ => B_P_placeOf_30 x20 m20)))))))) = some (r, μ') := h
  refine wm_iload_n E dP_placeOf_0 rfl (j := 1) rfl ?_
  refine wm_if_lt (tgt := 29) E dP_placeOf_1 (by decide) (fun c1 => ?_) (fun c1 => ?_)
  · have h := (if_pos c1).symm.trans h
    refine wm_pick (lv' := []) [] rfl ?_
    exact w_P_placeOf_29 E hQ hR hI μ h
  · have h := (if_neg c1).symm.trans h
    refine wm_iload_n E dP_placeOf_4 rfl (j := 1) rfl ?_
    refine wm_aload_n E dP_placeOf_5 rfl (j := 0) rfl ?_
    refine wm_gR E fd_P_10 h dP_placeOf_6 (fun x6 h => ?_)
    obtain ⟨u9, hr9, h⟩ := b1S h
    obtain ⟨x9, m9, hc9, h⟩ := b2S h
    refine wm_cV (ci := 0) (As := []) (st := [vI v1]) E lk_P_98 rfl im_Al_size sl_Al_size hr9 (C_Al_size (xl X) X.1 x6 μ _ _ hc9) rfl rfl (by rw [hR]; decide) (by rw [hR]; decide) (Nat.le_of_ble_eq_true rfl) dP_placeOf_9 ?_
    refine wm_icmp_ge (tgt := 29) E dP_placeOf_12 (by decide) (fun c12 => ?_) (fun c12 => ?_)
    · have h := (if_pos c12).symm.trans h
      refine wm_pick (lv' := []) [] rfl ?_
      exact w_P_placeOf_29 E hQ hR hI m9 h
    · have h := (if_neg c12).symm.trans h
      refine wm_aload_n E dP_placeOf_15 rfl (j := 0) rfl ?_
      refine wm_gR E fd_P_10 h dP_placeOf_16 (fun x16 h => ?_)
      refine wm_iload_n E dP_placeOf_19 rfl (j := 1) rfl ?_
      obtain ⟨u20, hr20, h⟩ := b1S h
      obtain ⟨x20, m20, hc20, h⟩ := b2S h
      refine wm_cV (ci := 0) (As := [vI v1]) (st := []) E lk_P_223 rfl im_Al_get sl_Al_get hr20 (C_Al_get (xl X) X.1 x16 v1 m9 _ _ hc20) rfl rfl (by rw [hR]; decide) (by rw [hR]; decide) (Nat.le_of_ble_eq_true rfl) dP_placeOf_20 ?_
      refine wm_ckc (ci := 7) E rfl cl_P_107 h dP_placeOf_23 (fun h => ?_)
      refine wm_goto (tgt := 30) E dP_placeOf_26 (by decide) ?_
      refine wm_pick (lv' := []) [] rfl ?_
      exact w_P_placeOf_30 E hQ hR hI x20 m20 h
def B_P_isDay_16  (s0 : Int32) (μ : Mem) : Option (Int32 × Mem) := gd (¬ okZ s0 = true) (some (s0, μ))
set_option maxHeartbeats 4000000 in
set_option maxRecDepth 100000 in
theorem w_P_isDay_16 {X : CX} (E : EV X prog_1_method_23_code 1 "PlaceFinder" (some .boolean)) {μ0 μ' : Mem} {r : Int32} (hQ : RQ X 0 0 μ0 (some (vI r)) μ') (hR : xR X = { frames := 0, cells := 0, slots := 0, locals := 0 }) (hI : X.2.2.2.2.2.2.2.2.2.2.2.1.name = "isDay")  (s0 : Int32) (μ : Mem) (h : B_P_isDay_16  s0 μ = some (r, μ')) : WM X 1 16 [] [vI s0] 0 0 μ := by
  have h : (gd (¬ okZ s0 = true) (some (s0, μ))) = some (r, μ') := h
  obtain ⟨hz16, h⟩ := gdS h
  exact wm_zret (rt := .boolean) E hQ (rtI h) (rtM h) (okZN hz16) (by decide) (by decide) dP_isDay_16
def B_P_isDay_15   (μ : Mem) : Option (Int32 × Mem) := B_P_isDay_16 0 μ
set_option maxHeartbeats 4000000 in
set_option maxRecDepth 100000 in
theorem w_P_isDay_15 {X : CX} (E : EV X prog_1_method_23_code 1 "PlaceFinder" (some .boolean)) {μ0 μ' : Mem} {r : Int32} (hQ : RQ X 0 0 μ0 (some (vI r)) μ') (hR : xR X = { frames := 0, cells := 0, slots := 0, locals := 0 }) (hI : X.2.2.2.2.2.2.2.2.2.2.2.1.name = "isDay")   (μ : Mem) (h : B_P_isDay_15   μ = some (r, μ')) : WM X 1 15 [] [] 0 0 μ := by
  have h : (B_P_isDay_16 0 μ) = some (r, μ') := h
  refine wm_iconst (x := 0) E dP_isDay_15 (by decide) ?_
  refine wm_pick (lv' := []) [] rfl ?_
  exact w_P_isDay_16 E hQ hR hI 0 μ h
def S_P_isDay (v0 : Int32) (μ : Mem) : Option (Int32 × Mem) := if v0 < 0 then B_P_isDay_15 μ else if 9999 < v0 then B_P_isDay_15 μ else B_P_isDay_16 1 μ
set_option maxHeartbeats 4000000 in
set_option maxRecDepth 100000 in
theorem C_P_isDay (l : Launch) (G : GG) (v0 : Int32) (μ μ' : Mem) (r : Int32) (h : S_P_isDay v0 μ = some (r, μ')) : CT l G y_P_isDay prog_1_method_23_code 1 (some .boolean) 0 0 0 0 μ [vI v0] (some (vI r)) μ' := by
  refine wm_met (lv := [(0, vI v0)]) (by decide +kernel) (Nat.le_of_ble_eq_true rfl) rfl (fun X E hQ hR hI => ?_)
  have h : (if v0 < 0 then B_P_isDay_15 μ else if 9999 < v0 then B_P_isDay_15 μ else B_P_isDay_16 1 μ) = some (r, μ') := h
  refine wm_iload_n E dP_isDay_0 rfl (j := 0) rfl ?_
  refine wm_if_lt (tgt := 15) E dP_isDay_1 (by decide) (fun c1 => ?_) (fun c1 => ?_)
  · have h := (if_pos c1).symm.trans h
    refine wm_pick (lv' := []) [] rfl ?_
    exact w_P_isDay_15 E hQ hR hI μ h
  · have h := (if_neg c1).symm.trans h
    refine wm_iload_n E dP_isDay_4 rfl (j := 0) rfl ?_
    refine wm_sipush (x := 9999) E dP_isDay_5 (by decide) ?_
    refine wm_icmp_gt (tgt := 15) E dP_isDay_8 (by decide) (fun c8 => ?_) (fun c8 => ?_)
    · have h := (if_pos c8).symm.trans h
      refine wm_pick (lv' := []) [] rfl ?_
      exact w_P_isDay_15 E hQ hR hI μ h
    · have h := (if_neg c8).symm.trans h
      refine wm_iconst (x := 1) E dP_isDay_11 (by decide) ?_
      refine wm_goto (tgt := 16) E dP_isDay_12 (by decide) ?_
      refine wm_pick (lv' := []) [] rfl ?_
      exact w_P_isDay_16 E hQ hR hI 1 μ h
def B_Co_isPoint_13  (s0 : Int32) (μ : Mem) : Option (Int32 × Mem) := gd (¬ okZ s0 = true) (some (s0, μ))
set_option maxHeartbeats 4000000 in
set_option maxRecDepth 100000 in
theorem w_Co_isPoint_13 {X : CX} (E : EV X prog_3_method_2_code 1 "PlaceFinder$Corners" (some .boolean)) {μ0 μ' : Mem} {r : Int32} (hQ : RQ X 0 0 μ0 (some (vI r)) μ') (hR : xR X = { frames := 0, cells := 0, slots := 0, locals := 0 }) (hI : X.2.2.2.2.2.2.2.2.2.2.2.1.name = "isPoint")  (s0 : Int32) (μ : Mem) (h : B_Co_isPoint_13  s0 μ = some (r, μ')) : WM X 1 13 [] [vI s0] 0 0 μ := by
  have h : (gd (¬ okZ s0 = true) (some (s0, μ))) = some (r, μ') := h
  obtain ⟨hz13, h⟩ := gdS h
  exact wm_zret (rt := .boolean) E hQ (rtI h) (rtM h) (okZN hz13) (by decide) (by decide) dCo_isPoint_13
def S_Co_isPoint (v0 : Option Nat) (μ : Mem) : Option (Int32 × Mem) := b1 (gI μ v0 2 0) (fun x1 => if x1 = 1 then B_Co_isPoint_13 1 μ else B_Co_isPoint_13 0 μ)
set_option maxHeartbeats 4000000 in
set_option maxRecDepth 100000 in
theorem C_Co_isPoint (l : Launch) (G : GG) (v0 : Option Nat) (μ μ' : Mem) (r : Int32) (h : S_Co_isPoint v0 μ = some (r, μ')) : CT l G y_Co_isPoint prog_3_method_2_code 1 (some .boolean) 0 0 0 0 μ [vR v0] (some (vI r)) μ' := by
  refine wm_met (lv := [(0, vR v0)]) (by decide +kernel) (Nat.le_of_ble_eq_true rfl) rfl (fun X E hQ hR hI => ?_)
  have h : (b1 (gI μ v0 2 0) (fun x1 => if x1 = 1 then B_Co_isPoint_13 1 μ else B_Co_isPoint_13 0 μ)) = some (r, μ') := h
  refine wm_aload_n E dCo_isPoint_0 rfl (j := 0) rfl ?_
  refine wm_gI E fd_Co_9 h dCo_isPoint_1 (fun x1 h => ?_)
  refine wm_iconst (x := 1) E dCo_isPoint_4 (by decide) ?_
  refine wm_icmp_ne (tgt := 12) E dCo_isPoint_5 (by decide) (fun c5 => ?_) (fun c5 => ?_)
  · have h := (if_neg c5).symm.trans h
    refine wm_iconst (x := 0) E dCo_isPoint_12 (by decide) ?_
    refine wm_pick (lv' := []) [] rfl ?_
    exact w_Co_isPoint_13 E hQ hR hI 0 μ h
  · have h := (if_pos c5).symm.trans h
    refine wm_iconst (x := 1) E dCo_isPoint_8 (by decide) ?_
    refine wm_goto (tgt := 13) E dCo_isPoint_9 (by decide) ?_
    refine wm_pick (lv' := []) [] rfl ?_
    exact w_Co_isPoint_13 E hQ hR hI 1 μ h
def B_Co_following_17  (s0 : Int32) (μ : Mem) : Option (Int32 × Mem) := some (s0, μ)
set_option maxHeartbeats 4000000 in
set_option maxRecDepth 100000 in
theorem w_Co_following_17 {X : CX} (E : EV X prog_3_method_4_code 2 "PlaceFinder$Corners" (some .int)) {μ0 μ' : Mem} {r : Int32} (hQ : RQ X 0 0 μ0 (some (vI r)) μ') (hR : xR X = { frames := 0, cells := 0, slots := 0, locals := 0 }) (hI : X.2.2.2.2.2.2.2.2.2.2.2.1.name = "following")  (s0 : Int32) (μ : Mem) (h : B_Co_following_17  s0 μ = some (r, μ')) : WM X 2 17 [] [vI s0] 0 0 μ := by
  have h : (some (s0, μ)) = some (r, μ') := h
  exact wm_iret (rt := .int) E hQ (rtI h) (rtM h) (by decide) (by decide) dCo_following_17
def S_Co_following (v0 : Option Nat) (v1 : Int32) (μ : Mem) : Option (Int32 × Mem) := b1 (gI μ v0 2 0) (fun x4 => if x4 ≤ (v1 + 1) then B_Co_following_17 0 μ else B_Co_following_17 (v1 + 1) μ)
set_option maxHeartbeats 4000000 in
set_option maxRecDepth 100000 in
theorem C_Co_following (l : Launch) (G : GG) (v0 : Option Nat) (v1 : Int32) (μ μ' : Mem) (r : Int32) (h : S_Co_following v0 v1 μ = some (r, μ')) : CT l G y_Co_following prog_3_method_4_code 2 (some .int) 0 0 0 0 μ [vR v0, vI v1] (some (vI r)) μ' := by
  refine wm_met (lv := [(0, vR v0), (1, vI v1)]) (by decide +kernel) (Nat.le_of_ble_eq_true rfl) rfl (fun X E hQ hR hI => ?_)
  have h : (b1 (gI μ v0 2 0) (fun x4 => if x4 ≤ (v1 + 1) then B_Co_following_17 0 μ else B_Co_following_17 (v1 + 1) μ)) = some (r, μ') := h
  refine wm_iload_n E dCo_following_0 rfl (j := 1) rfl ?_
  refine wm_iconst (x := 1) E dCo_following_1 (by decide) ?_
  refine wm_iadd E dCo_following_2 ?_
  refine wm_aload_n E dCo_following_3 rfl (j := 0) rfl ?_
  refine wm_gI E fd_Co_9 h dCo_following_4 (fun x4 h => ?_)
  refine wm_icmp_ge (tgt := 16) E dCo_following_7 (by decide) (fun c7 => ?_) (fun c7 => ?_)
  · have h := (if_pos c7).symm.trans h
    refine wm_iconst (x := 0) E dCo_following_16 (by decide) ?_
    refine wm_pick (lv' := []) [] rfl ?_
    exact w_Co_following_17 E hQ hR hI 0 μ h
  · have h := (if_neg c7).symm.trans h
    refine wm_iload_n E dCo_following_10 rfl (j := 1) rfl ?_
    refine wm_iconst (x := 1) E dCo_following_11 (by decide) ?_
    refine wm_iadd E dCo_following_12 ?_
    refine wm_goto (tgt := 17) E dCo_following_13 (by decide) ?_
    refine wm_pick (lv' := []) [] rfl ?_
    exact w_Co_following_17 E hQ hR hI (v1 + 1) μ h
def B_Co_doubledSurface_4  : Nat → Option Nat → Int32 → Int32 → Mem → Option (Int32 × Mem)
  | 0, _, _, _, _ => none
  | n + 1, v0, v1, v2, μ => b1 (gI μ v0 2 0) (fun x6 => if x6 ≤ v2 then some (v1, μ) else b1 (rc μ v0 2) (fun _ => b2 (S_Co_following v0 v2 μ) (fun x14 m14 => b1 (gR m14 v0 2 1) (fun x20 => b1 (aI m14 x20 0 v2) (fun x24 => b1 (gR m14 v0 2 2) (fun x26 => b1 (aI m14 x26 0 x14) (fun x30 => b1 (gR m14 v0 2 1) (fun x33 => b1 (aI m14 x33 0 x14) (fun x37 => b1 (gR m14 v0 2 2) (fun x39 => b1 (aI m14 x39 0 v2) (fun x43 => b0 (v1 + ((x24 * x30) - (x37 * x43))) (fun x47 => (fun v0 v1 v2 μ => B_Co_doubledSurface_4 n v0 v1 v2 μ) v0 x47 (v2 + 1) m14))))))))))))
set_option maxHeartbeats 4000000 in
set_option maxRecDepth 100000 in
theorem w_Co_doubledSurface_4 {X : CX} (E : EV X prog_3_method_5_code 4 "PlaceFinder$Corners" (some .int)) {μ0 μ' : Mem} {r : Int32} (hQ : RQ X 0 0 μ0 (some (vI r)) μ') (hR : xR X = { frames := 1, cells := 0, slots := 0, locals := 21 }) (hI : X.2.2.2.2.2.2.2.2.2.2.2.1.name = "doubledSurface")  (n : Nat) : ∀ (v0 : Option Nat) (v1 : Int32) (v2 : Int32) (μ : Mem) (h : B_Co_doubledSurface_4  n v0 v1 v2 μ = some (r, μ')), WM X 4 4 [(0, vR v0), (1, vI v1), (2, vI v2)] [] 0 0 μ := by
  induction n with
  | zero => intro v0 v1 v2 μ h; cases h
  | succ n ih =>
    intro v0 v1 v2 μ h
    have h : (b1 (gI μ v0 2 0) (fun x6 => if x6 ≤ v2 then some (v1, μ) else b1 (rc μ v0 2) (fun _ => b2 (S_Co_following v0 v2 μ) (fun x14 m14 => b1 (gR m14 v0 2 1) (fun x20 => b1 (aI m14 x20 0 v2) (fun x24 => b1 (gR m14 v0 2 2) (fun x26 => b1 (aI m14 x26 0 x14) (fun x30 => b1 (gR m14 v0 2 1) (fun x33 => b1 (aI m14 x33 0 x14) (fun x37 => b1 (gR m14 v0 2 2) (fun x39 => b1 (aI m14 x39 0 v2) (fun x43 => b0 (v1 + ((x24 * x30) - (x37 * x43))) (fun x47 => (fun v0 v1 v2 μ => B_Co_doubledSurface_4 n v0 v1 v2 μ) v0 x47 (v2 + 1) m14))))))))))))) = some (r, μ') := h
    refine wm_iload_n E dCo_doubledSurface_4 rfl (j := 2) rfl ?_
    refine wm_aload_n E dCo_doubledSurface_5 rfl (j := 0) rfl ?_
    refine wm_gI E fd_Co_9 h dCo_doubledSurface_6 (fun x6 h => ?_)
    refine wm_icmp_ge (tgt := 54) E dCo_doubledSurface_9 (by decide) (fun c9 => ?_) (fun c9 => ?_)
    · have h := (if_pos c9).symm.trans h
      refine wm_iload_n E dCo_doubledSurface_54 rfl (j := 1) rfl ?_
      exact wm_iret (rt := .int) E hQ (rtI h) (rtM h) (by decide) (by decide) dCo_doubledSurface_55
    · have h := (if_neg c9).symm.trans h
      refine wm_aload_n E dCo_doubledSurface_12 rfl (j := 0) rfl ?_
      refine wm_iload_n E dCo_doubledSurface_13 rfl (j := 2) rfl ?_
      obtain ⟨u14, hr14, h⟩ := b1S h
      obtain ⟨x14, m14, hc14, h⟩ := b2S h
      refine wm_cV (ci := 2) (As := [vI v2]) (st := []) E lk_Co_32 rfl im_Co_following sl_Co_following hr14 (C_Co_following (xl X) X.1 v0 v2 μ _ _ hc14) rfl rfl (by rw [hR]; decide) (by rw [hR]; decide) (Nat.le_of_ble_eq_true rfl) dCo_doubledSurface_14 ?_
      refine wm_istore_n (lv' := [(3, vI x14), (0, vR v0), (1, vI v1), (2, vI v2)]) E dCo_doubledSurface_17 rfl (by decide) rfl ?_
      refine wm_iload_n E dCo_doubledSurface_18 rfl (j := 2) rfl ?_
      refine wm_aload_n E dCo_doubledSurface_19 rfl (j := 1) rfl ?_
      refine wm_gR E fd_Co_21 h dCo_doubledSurface_20 (fun x20 h => ?_)
      refine wm_iload_n E dCo_doubledSurface_23 rfl (j := 3) rfl ?_
      refine wm_iald (t := 0) E rfl h dCo_doubledSurface_24 (fun x24 h => ?_)
      refine wm_aload_n E dCo_doubledSurface_25 rfl (j := 1) rfl ?_
      refine wm_gR E fd_Co_25 h dCo_doubledSurface_26 (fun x26 h => ?_)
      refine wm_iload_n E dCo_doubledSurface_29 rfl (j := 0) rfl ?_
      refine wm_iald (t := 0) E rfl h dCo_doubledSurface_30 (fun x30 h => ?_)
      refine wm_imul E dCo_doubledSurface_31 ?_
      refine wm_aload_n E dCo_doubledSurface_32 rfl (j := 1) rfl ?_
      refine wm_gR E fd_Co_21 h dCo_doubledSurface_33 (fun x33 h => ?_)
      refine wm_iload_n E dCo_doubledSurface_36 rfl (j := 0) rfl ?_
      refine wm_iald (t := 0) E rfl h dCo_doubledSurface_37 (fun x37 h => ?_)
      refine wm_aload_n E dCo_doubledSurface_38 rfl (j := 1) rfl ?_
      refine wm_gR E fd_Co_25 h dCo_doubledSurface_39 (fun x39 h => ?_)
      refine wm_iload_n E dCo_doubledSurface_42 rfl (j := 3) rfl ?_
      refine wm_iald (t := 0) E rfl h dCo_doubledSurface_43 (fun x43 h => ?_)
      refine wm_imul E dCo_doubledSurface_44 ?_
      refine wm_isub E dCo_doubledSurface_45 ?_
      refine wm_iadd E dCo_doubledSurface_46 ?_
      refine wm_letI h (fun x47 h => ?_)
      refine wm_istore_n (lv' := [(1, vI x47), (3, vI x14), (0, vR v0), (2, vI v2)]) E dCo_doubledSurface_47 rfl (by decide) rfl ?_
      refine wm_iinc (lv' := [(2, vI (v2 + 1)), (1, vI x47), (3, vI x14), (0, vR v0)]) (d := 1) E dCo_doubledSurface_48 (by decide) (j := 3) rfl (by decide) rfl ?_
      refine wm_goto (tgt := 4) E dCo_doubledSurface_51 (by decide) ?_
      refine wm_pick (lv' := [(0, vR v0), (1, vI x47), (2, vI (v2 + 1))]) [3, 1, 0] rfl ?_
      exact ih v0 x47 (v2 + 1) m14 h
def S_Co_doubledSurface (v0 : Option Nat) (μ : Mem) : Option (Int32 × Mem) := B_Co_doubledSurface_4 fu v0 0 0 μ
set_option maxHeartbeats 4000000 in
set_option maxRecDepth 100000 in
theorem C_Co_doubledSurface (l : Launch) (G : GG) (v0 : Option Nat) (μ μ' : Mem) (r : Int32) (h : S_Co_doubledSurface v0 μ = some (r, μ')) : CT l G y_Co_doubledSurface prog_3_method_5_code 4 (some .int) 1 0 0 21 μ [vR v0] (some (vI r)) μ' := by
  refine wm_met (lv := [(0, vR v0)]) (by decide +kernel) (Nat.le_of_ble_eq_true rfl) rfl (fun X E hQ hR hI => ?_)
  have h : (B_Co_doubledSurface_4 fu v0 0 0 μ) = some (r, μ') := h
  refine wm_iconst (x := 0) E dCo_doubledSurface_0 (by decide) ?_
  refine wm_istore_n (lv' := [(1, vI 0), (0, vR v0)]) E dCo_doubledSurface_1 rfl (by decide) rfl ?_
  refine wm_iconst (x := 0) E dCo_doubledSurface_2 (by decide) ?_
  refine wm_istore_n (lv' := [(2, vI 0), (1, vI 0), (0, vR v0)]) E dCo_doubledSurface_3 rfl (by decide) rfl ?_
  refine wm_pick (lv' := [(0, vR v0), (1, vI 0), (2, vI 0)]) [2, 1, 0] rfl ?_
  exact w_Co_doubledSurface_4 E hQ hR hI fu v0 0 0 μ h
def B_Co_isArea_20  (s0 : Int32) (μ : Mem) : Option (Int32 × Mem) := gd (¬ okZ s0 = true) (some (s0, μ))
set_option maxHeartbeats 4000000 in
set_option maxRecDepth 100000 in
theorem w_Co_isArea_20 {X : CX} (E : EV X prog_3_method_3_code 1 "PlaceFinder$Corners" (some .boolean)) {μ0 μ' : Mem} {r : Int32} (hQ : RQ X 0 0 μ0 (some (vI r)) μ') (hR : xR X = { frames := 2, cells := 0, slots := 0, locals := 44 }) (hI : X.2.2.2.2.2.2.2.2.2.2.2.1.name = "isArea")  (s0 : Int32) (μ : Mem) (h : B_Co_isArea_20  s0 μ = some (r, μ')) : WM X 1 20 [] [vI s0] 0 0 μ := by
  have h : (gd (¬ okZ s0 = true) (some (s0, μ))) = some (r, μ') := h
  obtain ⟨hz20, h⟩ := gdS h
  exact wm_zret (rt := .boolean) E hQ (rtI h) (rtM h) (okZN hz20) (by decide) (by decide) dCo_isArea_20
def B_Co_isArea_19   (μ : Mem) : Option (Int32 × Mem) := B_Co_isArea_20 0 μ
set_option maxHeartbeats 4000000 in
set_option maxRecDepth 100000 in
theorem w_Co_isArea_19 {X : CX} (E : EV X prog_3_method_3_code 1 "PlaceFinder$Corners" (some .boolean)) {μ0 μ' : Mem} {r : Int32} (hQ : RQ X 0 0 μ0 (some (vI r)) μ') (hR : xR X = { frames := 2, cells := 0, slots := 0, locals := 44 }) (hI : X.2.2.2.2.2.2.2.2.2.2.2.1.name = "isArea")   (μ : Mem) (h : B_Co_isArea_19   μ = some (r, μ')) : WM X 1 19 [] [] 0 0 μ := by
  have h : (B_Co_isArea_20 0 μ) = some (r, μ') := h
  refine wm_iconst (x := 0) E dCo_isArea_19 (by decide) ?_
  refine wm_pick (lv' := []) [] rfl ?_
  exact w_Co_isArea_20 E hQ hR hI 0 μ h
def S_Co_isArea (v0 : Option Nat) (μ : Mem) : Option (Int32 × Mem) := b1 (gI μ v0 2 0) (fun x1 => if x1 < 3 then B_Co_isArea_19 μ else b1 (rc μ v0 2) (fun _ => b2 (S_Co_doubledSurface v0 μ) (fun x9 m9 => if x9 = 0 then B_Co_isArea_19 m9 else B_Co_isArea_20 1 m9)))
set_option maxHeartbeats 4000000 in
set_option maxRecDepth 100000 in
theorem C_Co_isArea (l : Launch) (G : GG) (v0 : Option Nat) (μ μ' : Mem) (r : Int32) (h : S_Co_isArea v0 μ = some (r, μ')) : CT l G y_Co_isArea prog_3_method_3_code 1 (some .boolean) 2 0 0 44 μ [vR v0] (some (vI r)) μ' := by
  refine wm_met (lv := [(0, vR v0)]) (by decide +kernel) (Nat.le_of_ble_eq_true rfl) rfl (fun X E hQ hR hI => ?_)
  have h : (b1 (gI μ v0 2 0) (fun x1 => if x1 < 3 then B_Co_isArea_19 μ else b1 (rc μ v0 2) (fun _ => b2 (S_Co_doubledSurface v0 μ) (fun x9 m9 => if x9 = 0 then B_Co_isArea_19 m9 else B_Co_isArea_20 1 m9)))) = some (r, μ') := h
  refine wm_aload_n E dCo_isArea_0 rfl (j := 0) rfl ?_
  refine wm_gI E fd_Co_9 h dCo_isArea_1 (fun x1 h => ?_)
  refine wm_iconst (x := 3) E dCo_isArea_4 (by decide) ?_
  refine wm_icmp_lt (tgt := 19) E dCo_isArea_5 (by decide) (fun c5 => ?_) (fun c5 => ?_)
  · have h := (if_pos c5).symm.trans h
    refine wm_pick (lv' := []) [] rfl ?_
    exact w_Co_isArea_19 E hQ hR hI μ h
  · have h := (if_neg c5).symm.trans h
    refine wm_aload_n E dCo_isArea_8 rfl (j := 0) rfl ?_
    obtain ⟨u9, hr9, h⟩ := b1S h
    obtain ⟨x9, m9, hc9, h⟩ := b2S h
    refine wm_cV (ci := 2) (As := []) (st := []) E lk_Co_28 rfl im_Co_doubledSurface sl_Co_doubledSurface hr9 (C_Co_doubledSurface (xl X) X.1 v0 μ _ _ hc9) rfl rfl (by rw [hR]; decide) (by rw [hR]; decide) (Nat.le_of_ble_eq_true rfl) dCo_isArea_9 ?_
    refine wm_if_eq (tgt := 19) E dCo_isArea_12 (by decide) (fun c12 => ?_) (fun c12 => ?_)
    · have h := (if_pos c12).symm.trans h
      refine wm_pick (lv' := []) [] rfl ?_
      exact w_Co_isArea_19 E hQ hR hI m9 h
    · have h := (if_neg c12).symm.trans h
      refine wm_iconst (x := 1) E dCo_isArea_15 (by decide) ?_
      refine wm_goto (tgt := 20) E dCo_isArea_16 (by decide) ?_
      refine wm_pick (lv' := []) [] rfl ?_
      exact w_Co_isArea_20 E hQ hR hI 1 m9 h
def B_Pl_takesShapeFrom_34  (s0 : Int32) (μ : Mem) : Option (Int32 × Mem) := gd (¬ okZ s0 = true) (some (s0, μ))
set_option maxHeartbeats 4000000 in
set_option maxRecDepth 100000 in
theorem w_Pl_takesShapeFrom_34 {X : CX} (E : EV X prog_8_method_2_code 3 "PlaceFinder$Place" (some .boolean)) {μ0 μ' : Mem} {r : Int32} (hQ : RQ X 0 0 μ0 (some (vI r)) μ') (hR : xR X = { frames := 1, cells := 0, slots := 0, locals := 20 }) (hI : X.2.2.2.2.2.2.2.2.2.2.2.1.name = "takesShapeFrom")  (s0 : Int32) (μ : Mem) (h : B_Pl_takesShapeFrom_34  s0 μ = some (r, μ')) : WM X 3 34 [] [vI s0] 0 0 μ := by
  have h : (gd (¬ okZ s0 = true) (some (s0, μ))) = some (r, μ') := h
  obtain ⟨hz34, h⟩ := gdS h
  exact wm_zret (rt := .boolean) E hQ (rtI h) (rtM h) (okZN hz34) (by decide) (by decide) dPl_takesShapeFrom_34
def B_Pl_takesShapeFrom_33   (μ : Mem) : Option (Int32 × Mem) := B_Pl_takesShapeFrom_34 0 μ
set_option maxHeartbeats 4000000 in
set_option maxRecDepth 100000 in
theorem w_Pl_takesShapeFrom_33 {X : CX} (E : EV X prog_8_method_2_code 3 "PlaceFinder$Place" (some .boolean)) {μ0 μ' : Mem} {r : Int32} (hQ : RQ X 0 0 μ0 (some (vI r)) μ') (hR : xR X = { frames := 1, cells := 0, slots := 0, locals := 20 }) (hI : X.2.2.2.2.2.2.2.2.2.2.2.1.name = "takesShapeFrom")   (μ : Mem) (h : B_Pl_takesShapeFrom_33   μ = some (r, μ')) : WM X 3 33 [] [] 0 0 μ := by
  have h : (B_Pl_takesShapeFrom_34 0 μ) = some (r, μ') := h
  refine wm_iconst (x := 0) E dPl_takesShapeFrom_33 (by decide) ?_
  refine wm_pick (lv' := []) [] rfl ?_
  exact w_Pl_takesShapeFrom_34 E hQ hR hI 0 μ h
def B_Pl_takesShapeFrom_29   (μ : Mem) : Option (Int32 × Mem) := B_Pl_takesShapeFrom_34 1 μ
set_option maxHeartbeats 4000000 in
set_option maxRecDepth 100000 in
theorem w_Pl_takesShapeFrom_29 {X : CX} (E : EV X prog_8_method_2_code 3 "PlaceFinder$Place" (some .boolean)) {μ0 μ' : Mem} {r : Int32} (hQ : RQ X 0 0 μ0 (some (vI r)) μ') (hR : xR X = { frames := 1, cells := 0, slots := 0, locals := 20 }) (hI : X.2.2.2.2.2.2.2.2.2.2.2.1.name = "takesShapeFrom")   (μ : Mem) (h : B_Pl_takesShapeFrom_29   μ = some (r, μ')) : WM X 3 29 [] [] 0 0 μ := by
  have h : (B_Pl_takesShapeFrom_34 1 μ) = some (r, μ') := h
  refine wm_iconst (x := 1) E dPl_takesShapeFrom_29 (by decide) ?_
  refine wm_goto (tgt := 34) E dPl_takesShapeFrom_30 (by decide) ?_
  refine wm_pick (lv' := []) [] rfl ?_
  exact w_Pl_takesShapeFrom_34 E hQ hR hI 1 μ h
def S_Pl_takesShapeFrom (v0 : Option Nat) (v1 : Int32) (μ : Mem) : Option (Int32 × Mem) := b1 (gR μ v0 7 3) (fun x1 => b1 (rc μ x1 0) (fun _ => b2 (S_Al_size x1 μ) (fun x4 m4 => if 3 ≤ x4 then B_Pl_takesShapeFrom_33 m4 else if x4 = 0 then B_Pl_takesShapeFrom_29 m4 else b1 (gR m4 v0 7 4) (fun x18 => b1 (aI m4 x18 0 (x4 - 1)) (fun x24 => if v1 ≤ x24 then B_Pl_takesShapeFrom_33 m4 else B_Pl_takesShapeFrom_29 m4)))))
set_option maxHeartbeats 4000000 in
set_option maxRecDepth 100000 in
theorem C_Pl_takesShapeFrom (l : Launch) (G : GG) (v0 : Option Nat) (v1 : Int32) (μ μ' : Mem) (r : Int32) (h : S_Pl_takesShapeFrom v0 v1 μ = some (r, μ')) : CT l G y_Pl_takesShapeFrom prog_8_method_2_code 3 (some .boolean) 1 0 0 20 μ [vR v0, vI v1] (some (vI r)) μ' := by
  refine wm_met (lv := [(0, vR v0), (1, vI v1)]) (by decide +kernel) (Nat.le_of_ble_eq_true rfl) rfl (fun X E hQ hR hI => ?_)
  have h : (b1 (gR μ v0 7 3) (fun x1 => b1 (rc μ x1 0) (fun _ => b2 (S_Al_size x1 μ) (fun x4 m4 => if 3 ≤ x4 then B_Pl_takesShapeFrom_33 m4 else if x4 = 0 then B_Pl_takesShapeFrom_29 m4 else b1 (gR m4 v0 7 4) (fun x18 => b1 (aI m4 x18 0 (x4 - 1)) (fun x24 => if v1 ≤ x24 then B_Pl_takesShapeFrom_33 m4 else B_Pl_takesShapeFrom_29 m4)))))) = some (r, μ') := h
  refine wm_aload_n E dPl_takesShapeFrom_0 rfl (j := 0) rfl ?_
  refine wm_gR E fd_Pl_18 h dPl_takesShapeFrom_1 (fun x1 h => ?_)
  obtain ⟨u4, hr4, h⟩ := b1S h
  obtain ⟨x4, m4, hc4, h⟩ := b2S h
  refine wm_cV (ci := 0) (As := []) (st := []) E lk_Pl_38 rfl im_Al_size sl_Al_size hr4 (C_Al_size (xl X) X.1 x1 μ _ _ hc4) rfl rfl (by rw [hR]; decide) (by rw [hR]; decide) (Nat.le_of_ble_eq_true rfl) dPl_takesShapeFrom_4 ?_
  refine wm_istore_n (lv' := [(2, vI x4), (0, vR v0), (1, vI v1)]) E dPl_takesShapeFrom_7 rfl (by decide) rfl ?_
  refine wm_iload_n E dPl_takesShapeFrom_8 rfl (j := 0) rfl ?_
  refine wm_iconst (x := 3) E dPl_takesShapeFrom_9 (by decide) ?_
  refine wm_icmp_ge (tgt := 33) E dPl_takesShapeFrom_10 (by decide) (fun c10 => ?_) (fun c10 => ?_)
  · have h := (if_pos c10).symm.trans h
    refine wm_pick (lv' := []) [] rfl ?_
    exact w_Pl_takesShapeFrom_33 E hQ hR hI m4 h
  · have h := (if_neg c10).symm.trans h
    refine wm_iload_n E dPl_takesShapeFrom_13 rfl (j := 0) rfl ?_
    refine wm_if_eq (tgt := 29) E dPl_takesShapeFrom_14 (by decide) (fun c14 => ?_) (fun c14 => ?_)
    · have h := (if_pos c14).symm.trans h
      refine wm_pick (lv' := []) [] rfl ?_
      exact w_Pl_takesShapeFrom_29 E hQ hR hI m4 h
    · have h := (if_neg c14).symm.trans h
      refine wm_aload_n E dPl_takesShapeFrom_17 rfl (j := 1) rfl ?_
      refine wm_gR E fd_Pl_22 h dPl_takesShapeFrom_18 (fun x18 h => ?_)
      refine wm_iload_n E dPl_takesShapeFrom_21 rfl (j := 0) rfl ?_
      refine wm_iconst (x := 1) E dPl_takesShapeFrom_22 (by decide) ?_
      refine wm_isub E dPl_takesShapeFrom_23 ?_
      refine wm_iald (t := 0) E rfl h dPl_takesShapeFrom_24 (fun x24 h => ?_)
      refine wm_iload_n E dPl_takesShapeFrom_25 rfl (j := 2) rfl ?_
      refine wm_icmp_ge (tgt := 33) E dPl_takesShapeFrom_26 (by decide) (fun c26 => ?_) (fun c26 => ?_)
      · have h := (if_pos c26).symm.trans h
        refine wm_pick (lv' := []) [] rfl ?_
        exact w_Pl_takesShapeFrom_33 E hQ hR hI m4 h
      · have h := (if_neg c26).symm.trans h
        refine wm_pick (lv' := []) [] rfl ?_
        exact w_Pl_takesShapeFrom_29 E hQ hR hI m4 h
def B_P_letter_21   (μ : Mem) : Option (Int32 × Mem) := gd (¬ okZ 0 = true) (some (0, μ))
set_option maxHeartbeats 4000000 in
set_option maxRecDepth 100000 in
theorem w_P_letter_21 {X : CX} (E : EV X prog_1_method_6_code 2 "PlaceFinder" (some .boolean)) {μ0 μ' : Mem} {r : Int32} (hQ : RQ X 0 0 μ0 (some (vI r)) μ') (hR : xR X = { frames := 0, cells := 0, slots := 0, locals := 0 }) (hI : X.2.2.2.2.2.2.2.2.2.2.2.1.name = "letter")   (μ : Mem) (h : B_P_letter_21   μ = some (r, μ')) : WM X 2 21 [] [] 0 0 μ := by
  have h : (gd (¬ okZ 0 = true) (some (0, μ))) = some (r, μ') := h
  refine wm_iconst (x := 0) E dP_letter_21 (by decide) ?_
  obtain ⟨hz22, h⟩ := gdS h
  exact wm_zret (rt := .boolean) E hQ (rtI h) (rtM h) (okZN hz22) (by decide) (by decide) dP_letter_22
def S_P_letter (v0 : Option Nat) (v1 : Int32) (μ : Mem) : Option (Int32 × Mem) := if v1 < 97 then B_P_letter_21 μ else if 122 < v1 then B_P_letter_21 μ else b1 (gI μ v0 11 6) (fun x13 => if x13 < 10 then b1 (gR μ v0 11 5) (fun x24 => b1 (gI μ v0 11 6) (fun x28 => b1 (sI μ x24 2 x28 (vp_nar .char (((v1 : Int32).toUInt32 % 65536).toInt32))) (fun m33 => b1 (gI m33 v0 11 6) (fun x36 => b1 (pV m33 v0 11 6 (vI (x36 + 1))) (fun m41 => gd (¬ okZ 1 = true) (some (1, m41))))))) else B_P_letter_21 μ)
set_option maxHeartbeats 4000000 in
set_option maxRecDepth 100000 in
theorem C_P_letter (l : Launch) (G : GG) (v0 : Option Nat) (v1 : Int32) (μ μ' : Mem) (r : Int32) (h : S_P_letter v0 v1 μ = some (r, μ')) : CT l G y_P_letter prog_1_method_6_code 2 (some .boolean) 0 0 0 0 μ [vR v0, vI v1] (some (vI r)) μ' := by
  refine wm_met (lv := [(0, vR v0), (1, vI v1)]) (by decide +kernel) (Nat.le_of_ble_eq_true rfl) rfl (fun X E hQ hR hI => ?_)
  have h : (if v1 < 97 then B_P_letter_21 μ else if 122 < v1 then B_P_letter_21 μ else b1 (gI μ v0 11 6) (fun x13 => if x13 < 10 then b1 (gR μ v0 11 5) (fun x24 => b1 (gI μ v0 11 6) (fun x28 => b1 (sI μ x24 2 x28 (vp_nar .char (((v1 : Int32).toUInt32 % 65536).toInt32))) (fun m33 => b1 (gI m33 v0 11 6) (fun x36 => b1 (pV m33 v0 11 6 (vI (x36 + 1))) (fun m41 => gd (¬ okZ 1 = true) (some (1, m41))))))) else B_P_letter_21 μ)) = some (r, μ') := h
  refine wm_iload_n E dP_letter_0 rfl (j := 1) rfl ?_
  refine wm_bipush (x := 97) E dP_letter_1 (by decide) ?_
  refine wm_icmp_lt (tgt := 21) E dP_letter_3 (by decide) (fun c3 => ?_) (fun c3 => ?_)
  · have h := (if_pos c3).symm.trans h
    refine wm_pick (lv' := []) [] rfl ?_
    exact w_P_letter_21 E hQ hR hI μ h
  · have h := (if_neg c3).symm.trans h
    refine wm_iload_n E dP_letter_6 rfl (j := 1) rfl ?_
    refine wm_bipush (x := 122) E dP_letter_7 (by decide) ?_
    refine wm_icmp_gt (tgt := 21) E dP_letter_9 (by decide) (fun c9 => ?_) (fun c9 => ?_)
    · have h := (if_pos c9).symm.trans h
      refine wm_pick (lv' := []) [] rfl ?_
      exact w_P_letter_21 E hQ hR hI μ h
    · have h := (if_neg c9).symm.trans h
      refine wm_aload_n E dP_letter_12 rfl (j := 0) rfl ?_
      refine wm_gI E fd_P_40 h dP_letter_13 (fun x13 h => ?_)
      refine wm_bipush (x := 10) E dP_letter_16 (by decide) ?_
      refine wm_icmp_lt (tgt := 23) E dP_letter_18 (by decide) (fun c18 => ?_) (fun c18 => ?_)
      · have h := (if_pos c18).symm.trans h
        refine wm_aload_n E dP_letter_23 rfl (j := 0) rfl ?_
        refine wm_gR E fd_P_36 h dP_letter_24 (fun x24 h => ?_)
        refine wm_aload_n E dP_letter_27 rfl (j := 0) rfl ?_
        refine wm_gI E fd_P_40 h dP_letter_28 (fun x28 h => ?_)
        refine wm_iload_n E dP_letter_31 rfl (j := 1) rfl ?_
        refine wm_i2c E dP_letter_32 ?_
        refine wm_cast (t := 2) E rfl h dP_letter_33 (fun m33 h => ?_)
        refine wm_aload_n E dP_letter_34 rfl (j := 0) rfl ?_
        refine wm_dup E dP_letter_35 rfl ?_
        refine wm_gI E fd_P_40 h dP_letter_36 (fun x36 h => ?_)
        refine wm_iconst (x := 1) E dP_letter_39 (by decide) ?_
        refine wm_iadd E dP_letter_40 ?_
        refine wm_pI E fp_P_40 (fun q => by cases q) h dP_letter_41 (fun m41 h => ?_)
        refine wm_iconst (x := 1) E dP_letter_44 (by decide) ?_
        obtain ⟨hz45, h⟩ := gdS h
        exact wm_zret (rt := .boolean) E hQ (rtI h) (rtM h) (okZN hz45) (by decide) (by decide) dP_letter_45
      · have h := (if_neg c18).symm.trans h
        refine wm_pick (lv' := []) [] rfl ?_
        exact w_P_letter_21 E hQ hR hI μ h
def B_P_areSpan_24  (s0 : Int32) (μ : Mem) : Option (Int32 × Mem) := gd (¬ okZ s0 = true) (some (s0, μ))
set_option maxHeartbeats 4000000 in
set_option maxRecDepth 100000 in
theorem w_P_areSpan_24 {X : CX} (E : EV X prog_1_method_24_code 2 "PlaceFinder" (some .boolean)) {μ0 μ' : Mem} {r : Int32} (hQ : RQ X 0 0 μ0 (some (vI r)) μ') (hR : xR X = { frames := 1, cells := 0, slots := 0, locals := 20 }) (hI : X.2.2.2.2.2.2.2.2.2.2.2.1.name = "areSpan")  (s0 : Int32) (μ : Mem) (h : B_P_areSpan_24  s0 μ = some (r, μ')) : WM X 2 24 [] [vI s0] 0 0 μ := by
  have h : (gd (¬ okZ s0 = true) (some (s0, μ))) = some (r, μ') := h
  obtain ⟨hz24, h⟩ := gdS h
  exact wm_zret (rt := .boolean) E hQ (rtI h) (rtM h) (okZN hz24) (by decide) (by decide) dP_areSpan_24
def B_P_areSpan_23   (μ : Mem) : Option (Int32 × Mem) := B_P_areSpan_24 0 μ
set_option maxHeartbeats 4000000 in
set_option maxRecDepth 100000 in
theorem w_P_areSpan_23 {X : CX} (E : EV X prog_1_method_24_code 2 "PlaceFinder" (some .boolean)) {μ0 μ' : Mem} {r : Int32} (hQ : RQ X 0 0 μ0 (some (vI r)) μ') (hR : xR X = { frames := 1, cells := 0, slots := 0, locals := 20 }) (hI : X.2.2.2.2.2.2.2.2.2.2.2.1.name = "areSpan")   (μ : Mem) (h : B_P_areSpan_23   μ = some (r, μ')) : WM X 2 23 [] [] 0 0 μ := by
  have h : (B_P_areSpan_24 0 μ) = some (r, μ') := h
  refine wm_iconst (x := 0) E dP_areSpan_23 (by decide) ?_
  refine wm_pick (lv' := []) [] rfl ?_
  exact w_P_areSpan_24 E hQ hR hI 0 μ h
def S_P_areSpan (v0 : Int32) (v1 : Int32) (μ : Mem) : Option (Int32 × Mem) := b2 (S_P_isDay v0 μ) (fun x1 m1 => if x1 = 0 then B_P_areSpan_23 m1 else b2 (S_P_isDay v1 m1) (fun x8 m8 => if x8 = 0 then B_P_areSpan_23 m8 else if v1 < v0 then B_P_areSpan_23 m8 else B_P_areSpan_24 1 m8))
set_option maxHeartbeats 4000000 in
set_option maxRecDepth 100000 in
theorem C_P_areSpan (l : Launch) (G : GG) (v0 : Int32) (v1 : Int32) (μ μ' : Mem) (r : Int32) (h : S_P_areSpan v0 v1 μ = some (r, μ')) : CT l G y_P_areSpan prog_1_method_24_code 2 (some .boolean) 1 0 0 20 μ [vI v0, vI v1] (some (vI r)) μ' := by
  refine wm_met (lv := [(0, vI v0), (1, vI v1)]) (by decide +kernel) (Nat.le_of_ble_eq_true rfl) rfl (fun X E hQ hR hI => ?_)
  have h : (b2 (S_P_isDay v0 μ) (fun x1 m1 => if x1 = 0 then B_P_areSpan_23 m1 else b2 (S_P_isDay v1 m1) (fun x8 m8 => if x8 = 0 then B_P_areSpan_23 m8 else if v1 < v0 then B_P_areSpan_23 m8 else B_P_areSpan_24 1 m8))) = some (r, μ') := h
  refine wm_iload_n E dP_areSpan_0 rfl (j := 0) rfl ?_
  obtain ⟨x1, m1, hc1, h⟩ := b2S h
  refine wm_cS (As := [vI v0]) (st := []) E lk_P_128 sc_P_isDay (C_P_isDay (xl X) X.1 v0 μ _ _ hc1) rfl rfl (by rw [hR]; decide) (by rw [hR]; decide) (Nat.le_of_ble_eq_true rfl) dP_areSpan_1 ?_
  refine wm_if_eq (tgt := 23) E dP_areSpan_4 (by decide) (fun c4 => ?_) (fun c4 => ?_)
  · have h := (if_pos c4).symm.trans h
    refine wm_pick (lv' := []) [] rfl ?_
    exact w_P_areSpan_23 E hQ hR hI m1 h
  · have h := (if_neg c4).symm.trans h
    refine wm_iload_n E dP_areSpan_7 rfl (j := 1) rfl ?_
    obtain ⟨x8, m8, hc8, h⟩ := b2S h
    refine wm_cS (As := [vI v1]) (st := []) E lk_P_128 sc_P_isDay (C_P_isDay (xl X) X.1 v1 m1 _ _ hc8) rfl rfl (by rw [hR]; decide) (by rw [hR]; decide) (Nat.le_of_ble_eq_true rfl) dP_areSpan_8 ?_
    refine wm_if_eq (tgt := 23) E dP_areSpan_11 (by decide) (fun c11 => ?_) (fun c11 => ?_)
    · have h := (if_pos c11).symm.trans h
      refine wm_pick (lv' := []) [] rfl ?_
      exact w_P_areSpan_23 E hQ hR hI m8 h
    · have h := (if_neg c11).symm.trans h
      refine wm_iload_n E dP_areSpan_14 rfl (j := 0) rfl ?_
      refine wm_iload_n E dP_areSpan_15 rfl (j := 1) rfl ?_
      refine wm_icmp_gt (tgt := 23) E dP_areSpan_16 (by decide) (fun c16 => ?_) (fun c16 => ?_)
      · have h := (if_pos c16).symm.trans h
        refine wm_pick (lv' := []) [] rfl ?_
        exact w_P_areSpan_23 E hQ hR hI m8 h
      · have h := (if_neg c16).symm.trans h
        refine wm_iconst (x := 1) E dP_areSpan_19 (by decide) ?_
        refine wm_goto (tgt := 24) E dP_areSpan_20 (by decide) ?_
        refine wm_pick (lv' := []) [] rfl ?_
        exact w_P_areSpan_24 E hQ hR hI 1 m8 h
