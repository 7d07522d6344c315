def B_M_letter_26   (μ : Mem) : Option (Int32 × Mem) := gd (¬ okZ 0 = true) (some (0, μ))
set_option maxHeartbeats 4000000 in
set_option maxRecDepth 100000 in
theorem w_M_letter_26 {X : CX} (E : EV X prog_13_method_18_code 2 "PlaceFinderModel" (some .boolean)) {μ0 μ' : Mem} {r : Int32} (hQ : RQ X 0 0 μ0 (some (vI r)) μ') (hR : xR X = { frames := 0, cells := 0, slots := 0, locals := 0 }) (hI : X.2.2.2.2.2.2.2.2.2.2.2.1.name = "letter")   (μ : Mem) (h : B_M_letter_26   μ = some (r, μ')) : WM X 2 26 [] [] 0 0 μ := by
  have h : gd (¬ okZ 0 = true) (some (0, μ)) = some (r, μ') := h
  refine wm_iconst (x := 0) E dM_letter_26 (by decide) ?_
  obtain ⟨hz27, h⟩ := gdS h
  exact wm_zret (rt := .boolean) E hQ (rtI h) (rtM h) (okZN hz27) (by decide) (by decide) dM_letter_27
def S_M_letter (v0 : Option Nat) (v1 : Int32) (μ : Mem) : Option (Int32 × Mem) := b1 (pV μ v0 12 0 (vI 0)) (fun m2 => if v1 < 97 then B_M_letter_26 m2 else if 122 < v1 then B_M_letter_26 m2 else b1 (gI m2 v0 12 21) (fun x18 => if x18 = 10 then B_M_letter_26 m2 else b1 (gR m2 v0 12 22) (fun x29 => b1 (gI m2 v0 12 21) (fun x33 => b1 (sI m2 x29 0 x33 v1) (fun m37 => b1 (gI m37 v0 12 21) (fun x40 => b1 (pV m37 v0 12 21 (vI (x40 + 1))) (fun m45 => gd (¬ okZ 1 = true) (some (1, m45)))))))))
set_option maxHeartbeats 4000000 in
set_option maxRecDepth 100000 in
theorem C_M_letter (l : Launch) (G : GG) (v0 : Option Nat) (v1 : Int32) (μ μ' : Mem) (r : Int32) (h : S_M_letter v0 v1 μ = some (r, μ')) : CT l G y_M_letter prog_13_method_18_code 2 (some .boolean) 0 0 0 0 μ [vR v0, vI v1] (some (vI r)) μ' := by
  refine wm_met (lv := [(0, vR v0), (1, vI v1)]) (by decide +kernel) (Nat.le_of_ble_eq_true rfl) rfl (fun X E hQ hR hI => ?_)
  have h : b1 (pV μ v0 12 0 (vI 0)) (fun m2 => if v1 < 97 then B_M_letter_26 m2 else if 122 < v1 then B_M_letter_26 m2 else b1 (gI m2 v0 12 21) (fun x18 => if x18 = 10 then B_M_letter_26 m2 else b1 (gR m2 v0 12 22) (fun x29 => b1 (gI m2 v0 12 21) (fun x33 => b1 (sI m2 x29 0 x33 v1) (fun m37 => b1 (gI m37 v0 12 21) (fun x40 => b1 (pV m37 v0 12 21 (vI (x40 + 1))) (fun m45 => gd (¬ okZ 1 = true) (some (1, m45))))))))) = some (r, μ') := h
  refine wm_aload_n E dM_letter_0 rfl (j := 0) rfl ?_
  refine wm_iconst (x := 0) E dM_letter_1 (by decide) ?_
  refine wm_pI E fp_M_132 (fun q => by cases q) h dM_letter_2 (fun m2 h => ?_)
  refine wm_iload_n E dM_letter_5 rfl (j := 1) rfl ?_
  refine wm_bipush (x := 97) E dM_letter_6 (by decide) ?_
  refine wm_icmp_lt (tgt := 26) E dM_letter_8 (by decide) (fun c8 => ?_) (fun c8 => ?_)
  · have h := (if_pos c8).symm.trans h
    refine wm_pick (lv' := []) [] rfl ?_
    exact w_M_letter_26 E hQ hR hI m2 h
  · have h := (if_neg c8).symm.trans h
    refine wm_iload_n E dM_letter_11 rfl (j := 1) rfl ?_
    refine wm_bipush (x := 122) E dM_letter_12 (by decide) ?_
    refine wm_icmp_gt (tgt := 26) E dM_letter_14 (by decide) (fun c14 => ?_) (fun c14 => ?_)
    · have h := (if_pos c14).symm.trans h
      refine wm_pick (lv' := []) [] rfl ?_
      exact w_M_letter_26 E hQ hR hI m2 h
    · have h := (if_neg c14).symm.trans h
      refine wm_aload_n E dM_letter_17 rfl (j := 0) rfl ?_
      refine wm_gI E fd_M_172 h dM_letter_18 (fun x18 h => ?_)
      refine wm_bipush (x := 10) E dM_letter_21 (by decide) ?_
      refine wm_icmp_ne (tgt := 28) E dM_letter_23 (by decide) (fun c23 => ?_) (fun c23 => ?_)
      · have h := (if_neg c23).symm.trans h
        refine wm_aload_n E dM_letter_28 rfl (j := 0) rfl ?_
        refine wm_gR E fd_M_64 h dM_letter_29 (fun x29 h => ?_)
        refine wm_aload_n E dM_letter_32 rfl (j := 0) rfl ?_
        refine wm_gI E fd_M_172 h dM_letter_33 (fun x33 h => ?_)
        refine wm_iload_n E dM_letter_36 rfl (j := 1) rfl ?_
        refine wm_iast (t := 0) E rfl h dM_letter_37 (fun m37 h => ?_)
        refine wm_aload_n E dM_letter_38 rfl (j := 0) rfl ?_
        refine wm_dup E dM_letter_39 rfl ?_
        refine wm_gI E fd_M_172 h dM_letter_40 (fun x40 h => ?_)
        refine wm_iconst (x := 1) E dM_letter_43 (by decide) ?_
        refine wm_iadd E dM_letter_44 ?_
        refine wm_pI E fp_M_172 (fun q => by cases q) h dM_letter_45 (fun m45 h => ?_)
        refine wm_iconst (x := 1) E dM_letter_48 (by decide) ?_
        obtain ⟨hz49, h⟩ := gdS h
        exact wm_zret (rt := .boolean) E hQ (rtI h) (rtM h) (okZN hz49) (by decide) (by decide) dM_letter_49
      · have h := (if_pos c23).symm.trans h
        refine wm_pick (lv' := []) [] rfl ?_
        exact w_M_letter_26 E hQ hR hI m2 h
def B_M_typedAt_18  (s0 : Int32) (μ : Mem) : Option (Int32 × Mem) := some (s0, μ)
set_option maxHeartbeats 4000000 in
set_option maxRecDepth 100000 in
theorem w_M_typedAt_18 {X : CX} (E : EV X prog_13_method_19_code 2 "PlaceFinderModel" (some .int)) {μ0 μ' : Mem} {r : Int32} (hQ : RQ X 0 0 μ0 (some (vI r)) μ') (hR : xR X = { frames := 0, cells := 0, slots := 0, locals := 0 }) (hI : X.2.2.2.2.2.2.2.2.2.2.2.1.name = "typedAt")  (s0 : Int32) (μ : Mem) (h : B_M_typedAt_18  s0 μ = some (r, μ')) : WM X 2 18 [] [vI s0] 0 0 μ := by
  have h : some (s0, μ) = some (r, μ') := h
  exact wm_iret (rt := .int) E hQ (rtI h) (rtM h) (by decide) (by decide) dM_typedAt_18
def S_M_typedAt (v0 : Option Nat) (v1 : Int32) (μ : Mem) : Option (Int32 × Mem) := b1 (gI μ v0 12 21) (fun x2 => if x2 ≤ v1 then B_M_typedAt_18 0 μ else b1 (gR μ v0 12 22) (fun x9 => b1 (aI μ x9 0 v1) (fun x13 => B_M_typedAt_18 x13 μ)))
set_option maxHeartbeats 4000000 in
set_option maxRecDepth 100000 in
theorem C_M_typedAt (l : Launch) (G : GG) (v0 : Option Nat) (v1 : Int32) (μ μ' : Mem) (r : Int32) (h : S_M_typedAt v0 v1 μ = some (r, μ')) : CT l G y_M_typedAt prog_13_method_19_code 2 (some .int) 0 0 0 0 μ [vR v0, vI v1] (some (vI r)) μ' := by
  refine wm_met (lv := [(0, vR v0), (1, vI v1)]) (by decide +kernel) (Nat.le_of_ble_eq_true rfl) rfl (fun X E hQ hR hI => ?_)
  have h : b1 (gI μ v0 12 21) (fun x2 => if x2 ≤ v1 then B_M_typedAt_18 0 μ else b1 (gR μ v0 12 22) (fun x9 => b1 (aI μ x9 0 v1) (fun x13 => B_M_typedAt_18 x13 μ))) = some (r, μ') := h
  refine wm_iload_n E dM_typedAt_0 rfl (j := 1) rfl ?_
  refine wm_aload_n E dM_typedAt_1 rfl (j := 0) rfl ?_
  refine wm_gI E fd_M_172 h dM_typedAt_2 (fun x2 h => ?_)
  refine wm_icmp_ge (tgt := 17) E dM_typedAt_5 (by decide) (fun c5 => ?_) (fun c5 => ?_)
  · have h := (if_pos c5).symm.trans h
    refine wm_iconst (x := 0) E dM_typedAt_17 (by decide) ?_
    refine wm_pick (lv' := []) [] rfl ?_
    exact w_M_typedAt_18 E hQ hR hI 0 μ h
  · have h := (if_neg c5).symm.trans h
    refine wm_aload_n E dM_typedAt_8 rfl (j := 0) rfl ?_
    refine wm_gR E fd_M_64 h dM_typedAt_9 (fun x9 h => ?_)
    refine wm_iload_n E dM_typedAt_12 rfl (j := 1) rfl ?_
    refine wm_iald (t := 0) E rfl h dM_typedAt_13 (fun x13 h => ?_)
    refine wm_goto (tgt := 18) E dM_typedAt_14 (by decide) ?_
    refine wm_pick (lv' := []) [] rfl ?_
    exact w_M_typedAt_18 E hQ hR hI x13 μ h
def B_M_pairAt_74  (s0 : Int32) (μ : Mem) : Option (Int32 × Mem) := some (s0, μ)
set_option maxHeartbeats 4000000 in
set_option maxRecDepth 100000 in
theorem w_M_pairAt_74 {X : CX} (E : EV X prog_13_method_20_code 4 "PlaceFinderModel" (some .int)) {μ0 μ' : Mem} {r : Int32} (hQ : RQ X 0 0 μ0 (some (vI r)) μ') (hR : xR X = { frames := 1, cells := 0, slots := 0, locals := 21 }) (hI : X.2.2.2.2.2.2.2.2.2.2.2.1.name = "pairAt")  (s0 : Int32) (μ : Mem) (h : B_M_pairAt_74  s0 μ = some (r, μ')) : WM X 4 74 [] [vI s0] 0 0 μ := by
  have h : some (s0, μ) = some (r, μ') := h
  exact wm_iret (rt := .int) E hQ (rtI h) (rtM h) (by decide) (by decide) dM_pairAt_74
def B_M_pairAt_73   (μ : Mem) : Option (Int32 × Mem) := B_M_pairAt_74 0 μ
set_option maxHeartbeats 4000000 in
set_option maxRecDepth 100000 in
theorem w_M_pairAt_73 {X : CX} (E : EV X prog_13_method_20_code 4 "PlaceFinderModel" (some .int)) {μ0 μ' : Mem} {r : Int32} (hQ : RQ X 0 0 μ0 (some (vI r)) μ') (hR : xR X = { frames := 1, cells := 0, slots := 0, locals := 21 }) (hI : X.2.2.2.2.2.2.2.2.2.2.2.1.name = "pairAt")   (μ : Mem) (h : B_M_pairAt_73   μ = some (r, μ')) : WM X 4 73 [] [] 0 0 μ := by
  have h : B_M_pairAt_74 0 μ = some (r, μ') := h
  refine wm_iconst (x := 0) E dM_pairAt_73 (by decide) ?_
  refine wm_pick (lv' := []) [] rfl ?_
  exact w_M_pairAt_74 E hQ hR hI 0 μ h
def B_M_pairAt_56  (v2 : Int32) (v3 : Int32) (μ : Mem) : Option (Int32 × Mem) := if v2 = 116 then if v3 = 104 then B_M_pairAt_74 116 μ else B_M_pairAt_73 μ else B_M_pairAt_73 μ
set_option maxHeartbeats 4000000 in
set_option maxRecDepth 100000 in
theorem w_M_pairAt_56 {X : CX} (E : EV X prog_13_method_20_code 4 "PlaceFinderModel" (some .int)) {μ0 μ' : Mem} {r : Int32} (hQ : RQ X 0 0 μ0 (some (vI r)) μ') (hR : xR X = { frames := 1, cells := 0, slots := 0, locals := 21 }) (hI : X.2.2.2.2.2.2.2.2.2.2.2.1.name = "pairAt")  (v2 : Int32) (v3 : Int32) (μ : Mem) (h : B_M_pairAt_56  v2 v3 μ = some (r, μ')) : WM X 4 56 [(2, vI v2), (3, vI v3)] [] 0 0 μ := by
  have h : if v2 = 116 then if v3 = 104 then B_M_pairAt_74 116 μ else B_M_pairAt_73 μ else B_M_pairAt_73 μ = some (r, μ') := h
  refine wm_iload_n E dM_pairAt_56 rfl (j := 0) rfl ?_
  refine wm_bipush (x := 116) E dM_pairAt_57 (by decide) ?_
  refine wm_icmp_ne (tgt := 73) E dM_pairAt_59 (by decide) (fun c59 => ?_) (fun c59 => ?_)
  · have h := (if_neg c59).symm.trans h
    refine wm_pick (lv' := []) [] rfl ?_
    exact w_M_pairAt_73 E hQ hR hI μ h
  · have h := (if_pos c59).symm.trans h
    refine wm_iload_n E dM_pairAt_62 rfl (j := 1) rfl ?_
    refine wm_bipush (x := 104) E dM_pairAt_63 (by decide) ?_
    refine wm_icmp_ne (tgt := 73) E dM_pairAt_65 (by decide) (fun c65 => ?_) (fun c65 => ?_)
    · have h := (if_neg c65).symm.trans h
      refine wm_pick (lv' := []) [] rfl ?_
      exact w_M_pairAt_73 E hQ hR hI μ h
    · have h := (if_pos c65).symm.trans h
      refine wm_bipush (x := 116) E dM_pairAt_68 (by decide) ?_
      refine wm_goto (tgt := 74) E dM_pairAt_70 (by decide) ?_
      refine wm_pick (lv' := []) [] rfl ?_
      exact w_M_pairAt_74 E hQ hR hI 116 μ h
def B_M_pairAt_53   (μ : Mem) : Option (Int32 × Mem) := some (107, μ)
set_option maxHeartbeats 4000000 in
set_option maxRecDepth 100000 in
theorem w_M_pairAt_53 {X : CX} (E : EV X prog_13_method_20_code 4 "PlaceFinderModel" (some .int)) {μ0 μ' : Mem} {r : Int32} (hQ : RQ X 0 0 μ0 (some (vI r)) μ') (hR : xR X = { frames := 1, cells := 0, slots := 0, locals := 21 }) (hI : X.2.2.2.2.2.2.2.2.2.2.2.1.name = "pairAt")   (μ : Mem) (h : B_M_pairAt_53   μ = some (r, μ')) : WM X 4 53 [] [] 0 0 μ := by
  have h : some (107, μ) = some (r, μ') := h
  refine wm_bipush (x := 107) E dM_pairAt_53 (by decide) ?_
  exact wm_iret (rt := .int) E hQ (rtI h) (rtM h) (by decide) (by decide) dM_pairAt_55
def B_M_pairAt_41  (v2 : Int32) (v3 : Int32) (μ : Mem) : Option (Int32 × Mem) := if v2 = 113 then if v3 = 117 then B_M_pairAt_53 μ else B_M_pairAt_56 v2 v3 μ else B_M_pairAt_56 v2 v3 μ
set_option maxHeartbeats 4000000 in
set_option maxRecDepth 100000 in
theorem w_M_pairAt_41 {X : CX} (E : EV X prog_13_method_20_code 4 "PlaceFinderModel" (some .int)) {μ0 μ' : Mem} {r : Int32} (hQ : RQ X 0 0 μ0 (some (vI r)) μ') (hR : xR X = { frames := 1, cells := 0, slots := 0, locals := 21 }) (hI : X.2.2.2.2.2.2.2.2.2.2.2.1.name = "pairAt")  (v2 : Int32) (v3 : Int32) (μ : Mem) (h : B_M_pairAt_41  v2 v3 μ = some (r, μ')) : WM X 4 41 [(2, vI v2), (3, vI v3)] [] 0 0 μ := by
  have h : if v2 = 113 then if v3 = 117 then B_M_pairAt_53 μ else B_M_pairAt_56 v2 v3 μ else B_M_pairAt_56 v2 v3 μ = some (r, μ') := h
  refine wm_iload_n E dM_pairAt_41 rfl (j := 0) rfl ?_
  refine wm_bipush (x := 113) E dM_pairAt_42 (by decide) ?_
  refine wm_icmp_ne (tgt := 56) E dM_pairAt_44 (by decide) (fun c44 => ?_) (fun c44 => ?_)
  · have h := (if_neg c44).symm.trans h
    refine wm_pick (lv' := [(2, vI v2), (3, vI v3)]) [0, 1] rfl ?_
    exact w_M_pairAt_56 E hQ hR hI v2 v3 μ h
  · have h := (if_pos c44).symm.trans h
    refine wm_iload_n E dM_pairAt_47 rfl (j := 1) rfl ?_
    refine wm_bipush (x := 117) E dM_pairAt_48 (by decide) ?_
    refine wm_icmp_ne (tgt := 56) E dM_pairAt_50 (by decide) (fun c50 => ?_) (fun c50 => ?_)
    · have h := (if_neg c50).symm.trans h
      refine wm_pick (lv' := [(2, vI v2), (3, vI v3)]) [0, 1] rfl ?_
      exact w_M_pairAt_56 E hQ hR hI v2 v3 μ h
    · have h := (if_pos c50).symm.trans h
      refine wm_pick (lv' := []) [] rfl ?_
      exact w_M_pairAt_53 E hQ hR hI μ h
def B_M_pairAt_29  (v2 : Int32) (v3 : Int32) (μ : Mem) : Option (Int32 × Mem) := if v2 = 99 then if v3 = 107 then B_M_pairAt_53 μ else B_M_pairAt_41 v2 v3 μ else B_M_pairAt_41 v2 v3 μ
set_option maxHeartbeats 4000000 in
set_option maxRecDepth 100000 in
theorem w_M_pairAt_29 {X : CX} (E : EV X prog_13_method_20_code 4 "PlaceFinderModel" (some .int)) {μ0 μ' : Mem} {r : Int32} (hQ : RQ X 0 0 μ0 (some (vI r)) μ') (hR : xR X = { frames := 1, cells := 0, slots := 0, locals := 21 }) (hI : X.2.2.2.2.2.2.2.2.2.2.2.1.name = "pairAt")  (v2 : Int32) (v3 : Int32) (μ : Mem) (h : B_M_pairAt_29  v2 v3 μ = some (r, μ')) : WM X 4 29 [(2, vI v2), (3, vI v3)] [] 0 0 μ := by
  have h : if v2 = 99 then if v3 = 107 then B_M_pairAt_53 μ else B_M_pairAt_41 v2 v3 μ else B_M_pairAt_41 v2 v3 μ = some (r, μ') := h
  refine wm_iload_n E dM_pairAt_29 rfl (j := 0) rfl ?_
  refine wm_bipush (x := 99) E dM_pairAt_30 (by decide) ?_
  refine wm_icmp_ne (tgt := 41) E dM_pairAt_32 (by decide) (fun c32 => ?_) (fun c32 => ?_)
  · have h := (if_neg c32).symm.trans h
    refine wm_pick (lv' := [(2, vI v2), (3, vI v3)]) [0, 1] rfl ?_
    exact w_M_pairAt_41 E hQ hR hI v2 v3 μ h
  · have h := (if_pos c32).symm.trans h
    refine wm_iload_n E dM_pairAt_35 rfl (j := 1) rfl ?_
    refine wm_bipush (x := 107) E dM_pairAt_36 (by decide) ?_
    refine wm_icmp_eq (tgt := 53) E dM_pairAt_38 (by decide) (fun c38 => ?_) (fun c38 => ?_)
    · have h := (if_pos c38).symm.trans h
      refine wm_pick (lv' := []) [] rfl ?_
      exact w_M_pairAt_53 E hQ hR hI μ h
    · have h := (if_neg c38).symm.trans h
      refine wm_pick (lv' := [(2, vI v2), (3, vI v3)]) [0, 1] rfl ?_
      exact w_M_pairAt_41 E hQ hR hI v2 v3 μ h
def S_M_pairAt (v0 : Option Nat) (v1 : Int32) (μ : Mem) : Option (Int32 × Mem) := b1 (rc μ v0 12) (fun _ => b2 (S_M_typedAt v0 v1 μ) (fun x2 m2 => b1 (rc m2 v0 12) (fun _ => b2 (S_M_typedAt v0 (v1 + 1) m2) (fun x10 m10 => if x2 = 112 then if x10 = 104 then some (102, m10) else B_M_pairAt_29 x2 x10 m10 else B_M_pairAt_29 x2 x10 m10))))
set_option maxHeartbeats 4000000 in
set_option maxRecDepth 100000 in
theorem C_M_pairAt (l : Launch) (G : GG) (v0 : Option Nat) (v1 : Int32) (μ μ' : Mem) (r : Int32) (h : S_M_pairAt v0 v1 μ = some (r, μ')) : CT l G y_M_pairAt prog_13_method_20_code 4 (some .int) 1 0 0 21 μ [vR v0, vI v1] (some (vI r)) μ' := by
  refine wm_met (lv := [(0, vR v0), (1, vI v1)]) (by decide +kernel) (Nat.le_of_ble_eq_true rfl) rfl (fun X E hQ hR hI => ?_)
  have h : b1 (rc μ v0 12) (fun _ => b2 (S_M_typedAt v0 v1 μ) (fun x2 m2 => b1 (rc m2 v0 12) (fun _ => b2 (S_M_typedAt v0 (v1 + 1) m2) (fun x10 m10 => if x2 = 112 then if x10 = 104 then some (102, m10) else B_M_pairAt_29 x2 x10 m10 else B_M_pairAt_29 x2 x10 m10)))) = some (r, μ') := h
  refine wm_aload_n E dM_pairAt_0 rfl (j := 0) rfl ?_
  refine wm_iload_n E dM_pairAt_1 rfl (j := 1) rfl ?_
  obtain ⟨u2, hr2, h⟩ := b1S h
  obtain ⟨x2, m2, hc2, h⟩ := b2S h
  refine wm_cV (ci := 12) (As := [vI v1]) (st := []) E lk_M_175 rfl im_M_typedAt sl_M_typedAt hr2 (C_M_typedAt (xl X) X.1 v0 v1 μ _ _ hc2) rfl rfl (by rw [hR]; decide) (by rw [hR]; decide) (by decide) dM_pairAt_2 ?_
  refine wm_istore_n (lv' := [(2, vI x2), (0, vR v0), (1, vI v1)]) E dM_pairAt_5 rfl (by decide) rfl ?_
  refine wm_aload_n E dM_pairAt_6 rfl (j := 1) rfl ?_
  refine wm_iload_n E dM_pairAt_7 rfl (j := 2) rfl ?_
  refine wm_iconst (x := 1) E dM_pairAt_8 (by decide) ?_
  refine wm_iadd E dM_pairAt_9 ?_
  obtain ⟨u10, hr10, h⟩ := b1S h
  obtain ⟨x10, m10, hc10, h⟩ := b2S h
  refine wm_cV (ci := 12) (As := [vI (v1 + 1)]) (st := []) E lk_M_175 rfl im_M_typedAt sl_M_typedAt hr10 (C_M_typedAt (xl X) X.1 v0 (v1 + 1) m2 _ _ hc10) rfl rfl (by rw [hR]; decide) (by rw [hR]; decide) (by decide) dM_pairAt_10 ?_
  refine wm_istore_n (lv' := [(3, vI x10), (2, vI x2), (0, vR v0), (1, vI v1)]) E dM_pairAt_13 rfl (by decide) rfl ?_
  refine wm_iload_n E dM_pairAt_14 rfl (j := 1) rfl ?_
  refine wm_bipush (x := 112) E dM_pairAt_15 (by decide) ?_
  refine wm_icmp_ne (tgt := 29) E dM_pairAt_17 (by decide) (fun c17 => ?_) (fun c17 => ?_)
  · have h := (if_neg c17).symm.trans h
    refine wm_pick (lv' := [(2, vI x2), (3, vI x10)]) [1, 0] rfl ?_
    exact w_M_pairAt_29 E hQ hR hI x2 x10 m10 h
  · have h := (if_pos c17).symm.trans h
    refine wm_iload_n E dM_pairAt_20 rfl (j := 0) rfl ?_
    refine wm_bipush (x := 104) E dM_pairAt_21 (by decide) ?_
    refine wm_icmp_ne (tgt := 29) E dM_pairAt_23 (by decide) (fun c23 => ?_) (fun c23 => ?_)
    · have h := (if_neg c23).symm.trans h
      refine wm_pick (lv' := [(2, vI x2), (3, vI x10)]) [1, 0] rfl ?_
      exact w_M_pairAt_29 E hQ hR hI x2 x10 m10 h
    · have h := (if_pos c23).symm.trans h
      refine wm_bipush (x := 102) E dM_pairAt_26 (by decide) ?_
      exact wm_iret (rt := .int) E hQ (rtI h) (rtM h) (by decide) (by decide) dM_pairAt_28
def B_M_foldTyped_97 (k7 : Option Nat → Int32 → Mem → Option (Unit × Mem)) (v0 : Option Nat) (v3 : Int32) (μ : Mem) : Option (Unit × Mem) := k7 v0 v3 μ
set_option maxHeartbeats 4000000 in
set_option maxRecDepth 100000 in
theorem w_M_foldTyped_97 {X : CX} (E : EV X prog_13_method_21_code 4 "PlaceFinderModel" none) {μ0 μ' : Mem} {r : Unit} (hQ : RQ X 0 0 μ0 none μ') (hR : xR X = { frames := 2, cells := 0, slots := 0, locals := 44 }) (hI : X.2.2.2.2.2.2.2.2.2.2.2.1.name = "foldTyped") (k7 : Option Nat → Int32 → Mem → Option (Unit × Mem)) (hk7 : ∀ (v0 : Option Nat) (v1 : Int32) (μ : Mem), k7 v0 v1 μ = some (r, μ') → WM X 4 7 [(0, vR v0), (1, vI v1)] [] 0 0 μ) (v0 : Option Nat) (v3 : Int32) (μ : Mem) (h : B_M_foldTyped_97 k7 v0 v3 μ = some (r, μ')) : WM X 4 97 [(0, vR v0), (3, vI v3)] [] 0 0 μ := by
  have h : k7 v0 v3 μ = some (r, μ') := h
  refine wm_iload_n E dM_foldTyped_97 rfl (j := 1) rfl ?_
  refine wm_istore_n (lv' := [(1, vI v3), (0, vR v0), (3, vI v3)]) E dM_foldTyped_98 rfl (by decide) rfl ?_
  refine wm_goto (tgt := 7) E dM_foldTyped_99 (by decide) ?_
  refine wm_pick (lv' := [(0, vR v0), (1, vI v3)]) [1, 0] rfl ?_
  exact hk7 v0 v3 μ h
def B_M_foldTyped_77 (k7 : Option Nat → Int32 → Mem → Option (Unit × Mem)) (v0 : Option Nat) (v2 : Int32) (v3 : Int32) (μ : Mem) : Option (Unit × Mem) := b1 (gR μ v0 12 39) (fun x78 => b1 (gI μ v0 12 38) (fun x82 => b1 (sI μ x78 0 x82 v2) (fun m86 => b1 (gI m86 v0 12 38) (fun x89 => b1 (pV m86 v0 12 38 (vI (x89 + 1))) (fun m94 => B_M_foldTyped_97 k7 v0 v3 m94)))))
set_option maxHeartbeats 4000000 in
set_option maxRecDepth 100000 in
theorem w_M_foldTyped_77 {X : CX} (E : EV X prog_13_method_21_code 4 "PlaceFinderModel" none) {μ0 μ' : Mem} {r : Unit} (hQ : RQ X 0 0 μ0 none μ') (hR : xR X = { frames := 2, cells := 0, slots := 0, locals := 44 }) (hI : X.2.2.2.2.2.2.2.2.2.2.2.1.name = "foldTyped") (k7 : Option Nat → Int32 → Mem → Option (Unit × Mem)) (hk7 : ∀ (v0 : Option Nat) (v1 : Int32) (μ : Mem), k7 v0 v1 μ = some (r, μ') → WM X 4 7 [(0, vR v0), (1, vI v1)] [] 0 0 μ) (v0 : Option Nat) (v2 : Int32) (v3 : Int32) (μ : Mem) (h : B_M_foldTyped_77 k7 v0 v2 v3 μ = some (r, μ')) : WM X 4 77 [(0, vR v0), (2, vI v2), (3, vI v3)] [] 0 0 μ := by
  have h : b1 (gR μ v0 12 39) (fun x78 => b1 (gI μ v0 12 38) (fun x82 => b1 (sI μ x78 0 x82 v2) (fun m86 => b1 (gI m86 v0 12 38) (fun x89 => b1 (pV m86 v0 12 38 (vI (x89 + 1))) (fun m94 => B_M_foldTyped_97 k7 v0 v3 m94))))) = some (r, μ') := h
  refine wm_aload_n E dM_foldTyped_77 rfl (j := 0) rfl ?_
  refine wm_gR E fd_M_110 h dM_foldTyped_78 (fun x78 h => ?_)
  refine wm_aload_n E dM_foldTyped_81 rfl (j := 0) rfl ?_
  refine wm_gI E fd_M_179 h dM_foldTyped_82 (fun x82 h => ?_)
  refine wm_iload_n E dM_foldTyped_85 rfl (j := 1) rfl ?_
  refine wm_iast (t := 0) E rfl h dM_foldTyped_86 (fun m86 h => ?_)
  refine wm_aload_n E dM_foldTyped_87 rfl (j := 0) rfl ?_
  refine wm_dup E dM_foldTyped_88 rfl ?_
  refine wm_gI E fd_M_179 h dM_foldTyped_89 (fun x89 h => ?_)
  refine wm_iconst (x := 1) E dM_foldTyped_92 (by decide) ?_
  refine wm_iadd E dM_foldTyped_93 ?_
  refine wm_pI E fp_M_179 (fun q => by cases q) h dM_foldTyped_94 (fun m94 h => ?_)
  refine wm_pick (lv' := [(0, vR v0), (3, vI v3)]) [0, 2] rfl ?_
  exact w_M_foldTyped_97 E hQ hR hI k7 hk7 v0 v3 m94 h
def B_M_foldTyped_55 (k7 : Option Nat → Int32 → Mem → Option (Unit × Mem)) (v0 : Option Nat) (v2 : Int32) (v3 : Int32) (μ : Mem) : Option (Unit × Mem) := b1 (gI μ v0 12 38) (fun x56 => if x56 = 0 then B_M_foldTyped_77 k7 v0 v2 v3 μ else b1 (gR μ v0 12 39) (fun x63 => b1 (gI μ v0 12 38) (fun x67 => b1 (aI μ x63 0 (x67 - 1)) (fun x72 => if x72 = v2 then B_M_foldTyped_97 k7 v0 v3 μ else B_M_foldTyped_77 k7 v0 v2 v3 μ))))
set_option maxHeartbeats 4000000 in
set_option maxRecDepth 100000 in
theorem w_M_foldTyped_55 {X : CX} (E : EV X prog_13_method_21_code 4 "PlaceFinderModel" none) {μ0 μ' : Mem} {r : Unit} (hQ : RQ X 0 0 μ0 none μ') (hR : xR X = { frames := 2, cells := 0, slots := 0, locals := 44 }) (hI : X.2.2.2.2.2.2.2.2.2.2.2.1.name = "foldTyped") (k7 : Option Nat → Int32 → Mem → Option (Unit × Mem)) (hk7 : ∀ (v0 : Option Nat) (v1 : Int32) (μ : Mem), k7 v0 v1 μ = some (r, μ') → WM X 4 7 [(0, vR v0), (1, vI v1)] [] 0 0 μ) (v0 : Option Nat) (v2 : Int32) (v3 : Int32) (μ : Mem) (h : B_M_foldTyped_55 k7 v0 v2 v3 μ = some (r, μ')) : WM X 4 55 [(0, vR v0), (2, vI v2), (3, vI v3)] [] 0 0 μ := by
  have h : b1 (gI μ v0 12 38) (fun x56 => if x56 = 0 then B_M_foldTyped_77 k7 v0 v2 v3 μ else b1 (gR μ v0 12 39) (fun x63 => b1 (gI μ v0 12 38) (fun x67 => b1 (aI μ x63 0 (x67 - 1)) (fun x72 => if x72 = v2 then B_M_foldTyped_97 k7 v0 v3 μ else B_M_foldTyped_77 k7 v0 v2 v3 μ)))) = some (r, μ') := h
  refine wm_aload_n E dM_foldTyped_55 rfl (j := 0) rfl ?_
  refine wm_gI E fd_M_179 h dM_foldTyped_56 (fun x56 h => ?_)
  refine wm_if_eq (tgt := 77) E dM_foldTyped_59 (by decide) (fun c59 => ?_) (fun c59 => ?_)
  · have h := (if_pos c59).symm.trans h
    refine wm_pick (lv' := [(0, vR v0), (2, vI v2), (3, vI v3)]) [0, 1, 2] rfl ?_
    exact w_M_foldTyped_77 E hQ hR hI k7 hk7 v0 v2 v3 μ h
  · have h := (if_neg c59).symm.trans h
    refine wm_aload_n E dM_foldTyped_62 rfl (j := 0) rfl ?_
    refine wm_gR E fd_M_110 h dM_foldTyped_63 (fun x63 h => ?_)
    refine wm_aload_n E dM_foldTyped_66 rfl (j := 0) rfl ?_
    refine wm_gI E fd_M_179 h dM_foldTyped_67 (fun x67 h => ?_)
    refine wm_iconst (x := 1) E dM_foldTyped_70 (by decide) ?_
    refine wm_isub E dM_foldTyped_71 ?_
    refine wm_iald (t := 0) E rfl h dM_foldTyped_72 (fun x72 h => ?_)
    refine wm_iload_n E dM_foldTyped_73 rfl (j := 1) rfl ?_
    refine wm_icmp_eq (tgt := 97) E dM_foldTyped_74 (by decide) (fun c74 => ?_) (fun c74 => ?_)
    · have h := (if_pos c74).symm.trans h
      refine wm_pick (lv' := [(0, vR v0), (3, vI v3)]) [0, 2] rfl ?_
      exact w_M_foldTyped_97 E hQ hR hI k7 hk7 v0 v3 μ h
    · have h := (if_neg c74).symm.trans h
      refine wm_pick (lv' := [(0, vR v0), (2, vI v2), (3, vI v3)]) [0, 1, 2] rfl ?_
      exact w_M_foldTyped_77 E hQ hR hI k7 hk7 v0 v2 v3 μ h
def B_M_foldTyped_40 (k7 : Option Nat → Int32 → Mem → Option (Unit × Mem)) : Nat → Option Nat → Int32 → Int32 → Mem → Option (Unit × Mem)
  | 0, _, _, _, _ => none
  | n + 1, v0, v2, v3, μ => b1 (rc μ v0 12) (fun _ => b2 (S_M_typedAt v0 v3 μ) (fun x42 m42 => if x42 = v2 then (fun v0 v2 v3 μ => B_M_foldTyped_40 k7 n v0 v2 v3 μ) v0 v2 (v3 + 1) m42 else B_M_foldTyped_55 k7 v0 v2 v3 m42))
set_option maxHeartbeats 4000000 in
set_option maxRecDepth 100000 in
theorem w_M_foldTyped_40 {X : CX} (E : EV X prog_13_method_21_code 4 "PlaceFinderModel" none) {μ0 μ' : Mem} {r : Unit} (hQ : RQ X 0 0 μ0 none μ') (hR : xR X = { frames := 2, cells := 0, slots := 0, locals := 44 }) (hI : X.2.2.2.2.2.2.2.2.2.2.2.1.name = "foldTyped") (k7 : Option Nat → Int32 → Mem → Option (Unit × Mem)) (hk7 : ∀ (v0 : Option Nat) (v1 : Int32) (μ : Mem), k7 v0 v1 μ = some (r, μ') → WM X 4 7 [(0, vR v0), (1, vI v1)] [] 0 0 μ) (n : Nat) : ∀ (v0 : Option Nat) (v2 : Int32) (v3 : Int32) (μ : Mem) (h : B_M_foldTyped_40 k7 n v0 v2 v3 μ = some (r, μ')), WM X 4 40 [(0, vR v0), (2, vI v2), (3, vI v3)] [] 0 0 μ := by
  induction n with
  | zero => intro v0 v2 v3 μ h; cases h
  | succ n ih =>
    intro v0 v2 v3 μ h
    have h : b1 (rc μ v0 12) (fun _ => b2 (S_M_typedAt v0 v3 μ) (fun x42 m42 => if x42 = v2 then (fun v0 v2 v3 μ => B_M_foldTyped_40 k7 n v0 v2 v3 μ) v0 v2 (v3 + 1) m42 else B_M_foldTyped_55 k7 v0 v2 v3 m42)) = some (r, μ') := h
    refine wm_aload_n E dM_foldTyped_40 rfl (j := 0) rfl ?_
    refine wm_iload_n E dM_foldTyped_41 rfl (j := 2) rfl ?_
    obtain ⟨u42, hr42, h⟩ := b1S h
    obtain ⟨x42, m42, hc42, h⟩ := b2S h
    refine wm_cV (ci := 12) (As := [vI v3]) (st := []) E lk_M_175 rfl im_M_typedAt sl_M_typedAt hr42 (C_M_typedAt (xl X) X.1 v0 v3 μ _ _ hc42) rfl rfl (by rw [hR]; decide) (by rw [hR]; decide) (by decide) dM_foldTyped_42 ?_
    refine wm_iload_n E dM_foldTyped_45 rfl (j := 1) rfl ?_
    refine wm_icmp_ne (tgt := 55) E dM_foldTyped_46 (by decide) (fun c46 => ?_) (fun c46 => ?_)
    · have h := (if_neg c46).symm.trans h
      refine wm_pick (lv' := [(0, vR v0), (2, vI v2), (3, vI v3)]) [0, 1, 2] rfl ?_
      exact w_M_foldTyped_55 E hQ hR hI k7 hk7 v0 v2 v3 m42 h
    · have h := (if_pos c46).symm.trans h
      refine wm_iinc (lv' := [(3, vI (v3 + 1)), (0, vR v0), (2, vI v2)]) (d := 1) E dM_foldTyped_49 (by decide) (j := 2) rfl (by decide) rfl ?_
      refine wm_goto (tgt := 40) E dM_foldTyped_52 (by decide) ?_
      refine wm_pick (lv' := [(0, vR v0), (2, vI v2), (3, vI (v3 + 1))]) [1, 2, 0] rfl ?_
      exact ih v0 v2 (v3 + 1) m42 h
def B_M_foldTyped_7  : Nat → Option Nat → Int32 → Mem → Option (Unit × Mem)
  | 0, _, _, _ => none
  | n + 1, v0, v1, μ => b1 (gI μ v0 12 21) (fun x9 => if x9 ≤ v1 then some ((), μ) else b1 (rc μ v0 12) (fun _ => b2 (S_M_pairAt v0 v1 μ) (fun x17 m17 => b0 (v1 + 2) (fun x24 => if x17 = 0 then b1 (gR m17 v0 12 22) (fun x30 => b1 (aI m17 x30 0 v1) (fun x34 => b0 (v1 + 1) (fun x39 => B_M_foldTyped_40 (fun v0 v1 μ => B_M_foldTyped_7 n v0 v1 μ) fu v0 x34 x39 m17))) else B_M_foldTyped_55 (fun v0 v1 μ => B_M_foldTyped_7 n v0 v1 μ) v0 x17 x24 m17))))
set_option maxHeartbeats 4000000 in
set_option maxRecDepth 100000 in
theorem w_M_foldTyped_7 {X : CX} (E : EV X prog_13_method_21_code 4 "PlaceFinderModel" none) {μ0 μ' : Mem} {r : Unit} (hQ : RQ X 0 0 μ0 none μ') (hR : xR X = { frames := 2, cells := 0, slots := 0, locals := 44 }) (hI : X.2.2.2.2.2.2.2.2.2.2.2.1.name = "foldTyped")  (n : Nat) : ∀ (v0 : Option Nat) (v1 : Int32) (μ : Mem) (h : B_M_foldTyped_7  n v0 v1 μ = some (r, μ')), WM X 4 7 [(0, vR v0), (1, vI v1)] [] 0 0 μ := by
  induction n with
  | zero => intro v0 v1 μ h; cases h
  | succ n ih =>
    intro v0 v1 μ h
    have h : b1 (gI μ v0 12 21) (fun x9 => if x9 ≤ v1 then some ((), μ) else b1 (rc μ v0 12) (fun _ => b2 (S_M_pairAt v0 v1 μ) (fun x17 m17 => b0 (v1 + 2) (fun x24 => if x17 = 0 then b1 (gR m17 v0 12 22) (fun x30 => b1 (aI m17 x30 0 v1) (fun x34 => b0 (v1 + 1) (fun x39 => B_M_foldTyped_40 (fun v0 v1 μ => B_M_foldTyped_7 n v0 v1 μ) fu v0 x34 x39 m17))) else B_M_foldTyped_55 (fun v0 v1 μ => B_M_foldTyped_7 n v0 v1 μ) v0 x17 x24 m17)))) = some (r, μ') := h
    refine wm_iload_n E dM_foldTyped_7 rfl (j := 1) rfl ?_
    refine wm_aload_n E dM_foldTyped_8 rfl (j := 0) rfl ?_
    refine wm_gI E fd_M_172 h dM_foldTyped_9 (fun x9 h => ?_)
    refine wm_icmp_ge (tgt := 102) E dM_foldTyped_12 (by decide) (fun c12 => ?_) (fun c12 => ?_)
    · have h := (if_pos c12).symm.trans h
      exact wm_vret E hQ rfl (rtM h) (by decide) (by decide) dM_foldTyped_102
    · have h := (if_neg c12).symm.trans h
      refine wm_aload_n E dM_foldTyped_15 rfl (j := 0) rfl ?_
      refine wm_iload_n E dM_foldTyped_16 rfl (j := 1) rfl ?_
      obtain ⟨u17, hr17, h⟩ := b1S h
      obtain ⟨x17, m17, hc17, h⟩ := b2S h
      refine wm_cV (ci := 12) (As := [vI v1]) (st := []) E lk_M_182 rfl im_M_pairAt sl_M_pairAt hr17 (C_M_pairAt (xl X) X.1 v0 v1 μ _ _ hc17) rfl rfl (by rw [hR]; decide) (by rw [hR]; decide) (by decide) dM_foldTyped_17 ?_
      refine wm_istore_n (lv' := [(2, vI x17), (0, vR v0), (1, vI v1)]) E dM_foldTyped_20 rfl (by decide) rfl ?_
      refine wm_iload_n E dM_foldTyped_21 rfl (j := 2) rfl ?_
      refine wm_iconst (x := 2) E dM_foldTyped_22 (by decide) ?_
      refine wm_iadd E dM_foldTyped_23 ?_
      refine wm_letI h (fun x24 h => ?_)
      refine wm_istore_n (lv' := [(3, vI x24), (2, vI x17), (0, vR v0), (1, vI v1)]) E dM_foldTyped_24 rfl (by decide) rfl ?_
      refine wm_iload_n E dM_foldTyped_25 rfl (j := 1) rfl ?_
      refine wm_if_ne (tgt := 55) E dM_foldTyped_26 (by decide) (fun c26 => ?_) (fun c26 => ?_)
      · have h := (if_neg c26).symm.trans h
        refine wm_pick (lv' := [(0, vR v0), (2, vI x17), (3, vI x24)]) [2, 1, 0] rfl ?_
        exact w_M_foldTyped_55 E hQ hR hI (fun v0 v1 μ => B_M_foldTyped_7 n v0 v1 μ) ih v0 x17 x24 m17 h
      · have h := (if_pos c26).symm.trans h
        refine wm_aload_n E dM_foldTyped_29 rfl (j := 2) rfl ?_
        refine wm_gR E fd_M_64 h dM_foldTyped_30 (fun x30 h => ?_)
        refine wm_iload_n E dM_foldTyped_33 rfl (j := 3) rfl ?_
        refine wm_iald (t := 0) E rfl h dM_foldTyped_34 (fun x34 h => ?_)
        refine wm_istore_n (lv' := [(2, vI x34), (3, vI x24), (0, vR v0), (1, vI v1)]) E dM_foldTyped_35 rfl (by decide) rfl ?_
        refine wm_iload_n E dM_foldTyped_36 rfl (j := 3) rfl ?_
        refine wm_iconst (x := 1) E dM_foldTyped_37 (by decide) ?_
        refine wm_iadd E dM_foldTyped_38 ?_
        refine wm_letI h (fun x39 h => ?_)
        refine wm_istore_n (lv' := [(3, vI x39), (2, vI x34), (0, vR v0), (1, vI v1)]) E dM_foldTyped_39 rfl (by decide) rfl ?_
        refine wm_pick (lv' := [(0, vR v0), (2, vI x34), (3, vI x39)]) [2, 1, 0] rfl ?_
        exact w_M_foldTyped_40 E hQ hR hI (fun v0 v1 μ => B_M_foldTyped_7 n v0 v1 μ) ih fu v0 x34 x39 m17 h
def S_M_foldTyped (v0 : Option Nat) (μ : Mem) : Option (Unit × Mem) := b1 (pV μ v0 12 38 (vI 0)) (fun m2 => B_M_foldTyped_7 fu v0 0 m2)
set_option maxHeartbeats 4000000 in
set_option maxRecDepth 100000 in
theorem C_M_foldTyped (l : Launch) (G : GG) (v0 : Option Nat) (μ μ' : Mem) (r : Unit) (h : S_M_foldTyped v0 μ = some (r, μ')) : CT l G y_M_foldTyped prog_13_method_21_code 4 none 2 0 0 44 μ [vR v0] none μ' := by
  refine wm_met (lv := [(0, vR v0)]) (by decide +kernel) (Nat.le_of_ble_eq_true rfl) rfl (fun X E hQ hR hI => ?_)
  have h : b1 (pV μ v0 12 38 (vI 0)) (fun m2 => B_M_foldTyped_7 fu v0 0 m2) = some (r, μ') := h
  refine wm_aload_n E dM_foldTyped_0 rfl (j := 0) rfl ?_
  refine wm_iconst (x := 0) E dM_foldTyped_1 (by decide) ?_
  refine wm_pI E fp_M_179 (fun q => by cases q) h dM_foldTyped_2 (fun m2 h => ?_)
  refine wm_iconst (x := 0) E dM_foldTyped_5 (by decide) ?_
  refine wm_istore_n (lv' := [(1, vI 0), (0, vR v0)]) E dM_foldTyped_6 rfl (by decide) rfl ?_
  refine wm_pick (lv' := [(0, vR v0), (1, vI 0)]) [1, 0] rfl ?_
  exact w_M_foldTyped_7 E hQ hR hI fu v0 0 m2 h
def B_M_foldName_12  : Nat → Option Nat → Int32 → Int32 → Mem → Option (Unit × Mem)
  | 0, _, _, _, _ => none
  | n + 1, v0, v1, v2, μ => b1 (gI μ v0 12 38) (fun x14 => if x14 ≤ v2 then some ((), μ) else b1 (gR μ v0 12 39) (fun x21 => b1 (gR μ v0 12 13) (fun x26 => b1 (aI μ x26 0 ((10 * v1) + v2)) (fun x35 => b1 (sI μ x21 0 v2 x35) (fun m36 => (fun v0 v1 v2 μ => B_M_foldName_12 n v0 v1 v2 μ) v0 v1 (v2 + 1) m36)))))
set_option maxHeartbeats 4000000 in
set_option maxRecDepth 100000 in
theorem w_M_foldName_12 {X : CX} (E : EV X prog_13_method_22_code 3 "PlaceFinderModel" none) {μ0 μ' : Mem} {r : Unit} (hQ : RQ X 0 0 μ0 none μ') (hR : xR X = { frames := 0, cells := 0, slots := 0, locals := 0 }) (hI : X.2.2.2.2.2.2.2.2.2.2.2.1.name = "foldName")  (n : Nat) : ∀ (v0 : Option Nat) (v1 : Int32) (v2 : Int32) (μ : Mem) (h : B_M_foldName_12  n v0 v1 v2 μ = some (r, μ')), WM X 3 12 [(0, vR v0), (1, vI v1), (2, vI v2)] [] 0 0 μ := by
  induction n with
  | zero => intro v0 v1 v2 μ h; cases h
  | succ n ih =>
    intro v0 v1 v2 μ h
    have h : b1 (gI μ v0 12 38) (fun x14 => if x14 ≤ v2 then some ((), μ) else b1 (gR μ v0 12 39) (fun x21 => b1 (gR μ v0 12 13) (fun x26 => b1 (aI μ x26 0 ((10 * v1) + v2)) (fun x35 => b1 (sI μ x21 0 v2 x35) (fun m36 => (fun v0 v1 v2 μ => B_M_foldName_12 n v0 v1 v2 μ) v0 v1 (v2 + 1) m36))))) = some (r, μ') := h
    refine wm_iload_n E dM_foldName_12 rfl (j := 2) rfl ?_
    refine wm_aload_n E dM_foldName_13 rfl (j := 0) rfl ?_
    refine wm_gI E fd_M_179 h dM_foldName_14 (fun x14 h => ?_)
    refine wm_icmp_ge (tgt := 43) E dM_foldName_17 (by decide) (fun c17 => ?_) (fun c17 => ?_)
    · have h := (if_pos c17).symm.trans h
      exact wm_vret E hQ rfl (rtM h) (by decide) (by decide) dM_foldName_43
    · have h := (if_neg c17).symm.trans h
      refine wm_aload_n E dM_foldName_20 rfl (j := 0) rfl ?_
      refine wm_gR E fd_M_110 h dM_foldName_21 (fun x21 h => ?_)
      refine wm_iload_n E dM_foldName_24 rfl (j := 2) rfl ?_
      refine wm_aload_n E dM_foldName_25 rfl (j := 0) rfl ?_
      refine wm_gR E fd_M_43 h dM_foldName_26 (fun x26 h => ?_)
      refine wm_bipush (x := 10) E dM_foldName_29 (by decide) ?_
      refine wm_iload_n E dM_foldName_31 rfl (j := 1) rfl ?_
      refine wm_imul E dM_foldName_32 ?_
      refine wm_iload_n E dM_foldName_33 rfl (j := 2) rfl ?_
      refine wm_iadd E dM_foldName_34 ?_
      refine wm_iald (t := 0) E rfl h dM_foldName_35 (fun x35 h => ?_)
      refine wm_iast (t := 0) E rfl h dM_foldName_36 (fun m36 h => ?_)
      refine wm_iinc (lv' := [(2, vI (v2 + 1)), (0, vR v0), (1, vI v1)]) (d := 1) E dM_foldName_37 (by decide) (j := 2) rfl (by decide) rfl ?_
      refine wm_goto (tgt := 12) E dM_foldName_40 (by decide) ?_
      refine wm_pick (lv' := [(0, vR v0), (1, vI v1), (2, vI (v2 + 1))]) [1, 2, 0] rfl ?_
      exact ih v0 v1 (v2 + 1) m36 h
def S_M_foldName (v0 : Option Nat) (v1 : Int32) (μ : Mem) : Option (Unit × Mem) := b1 (gR μ v0 12 12) (fun x2 => b1 (aI μ x2 0 v1) (fun x6 => b1 (pV μ v0 12 38 (vI x6)) (fun m7 => B_M_foldName_12 fu v0 v1 0 m7)))
set_option maxHeartbeats 4000000 in
set_option maxRecDepth 100000 in
theorem C_M_foldName (l : Launch) (G : GG) (v0 : Option Nat) (v1 : Int32) (μ μ' : Mem) (r : Unit) (h : S_M_foldName v0 v1 μ = some (r, μ')) : CT l G y_M_foldName prog_13_method_22_code 3 none 0 0 0 0 μ [vR v0, vI v1] none μ' := by
  refine wm_met (lv := [(0, vR v0), (1, vI v1)]) (by decide +kernel) (Nat.le_of_ble_eq_true rfl) rfl (fun X E hQ hR hI => ?_)
  have h : b1 (gR μ v0 12 12) (fun x2 => b1 (aI μ x2 0 v1) (fun x6 => b1 (pV μ v0 12 38 (vI x6)) (fun m7 => B_M_foldName_12 fu v0 v1 0 m7))) = some (r, μ') := h
  refine wm_aload_n E dM_foldName_0 rfl (j := 0) rfl ?_
  refine wm_aload_n E dM_foldName_1 rfl (j := 0) rfl ?_
  refine wm_gR E fd_M_40 h dM_foldName_2 (fun x2 h => ?_)
  refine wm_iload_n E dM_foldName_5 rfl (j := 1) rfl ?_
  refine wm_iald (t := 0) E rfl h dM_foldName_6 (fun x6 h => ?_)
  refine wm_pI E fp_M_179 (fun q => by cases q) h dM_foldName_7 (fun m7 h => ?_)
  refine wm_iconst (x := 0) E dM_foldName_10 (by decide) ?_
  refine wm_istore_n (lv' := [(2, vI 0), (0, vR v0), (1, vI v1)]) E dM_foldName_11 rfl (by decide) rfl ?_
  refine wm_pick (lv' := [(0, vR v0), (1, vI v1), (2, vI 0)]) [1, 2, 0] rfl ?_
  exact w_M_foldName_12 E hQ hR hI fu v0 v1 0 m7 h
def B_M_classOf_24   (μ : Mem) : Option (Int32 × Mem) := some (1, μ)
set_option maxHeartbeats 4000000 in
set_option maxRecDepth 100000 in
theorem w_M_classOf_24 {X : CX} (E : EV X prog_13_method_23_code 1 "PlaceFinderModel" (some .int)) {μ0 μ' : Mem} {r : Int32} (hQ : RQ X 0 0 μ0 (some (vI r)) μ') (hR : xR X = { frames := 0, cells := 0, slots := 0, locals := 0 }) (hI : X.2.2.2.2.2.2.2.2.2.2.2.1.name = "classOf")   (μ : Mem) (h : B_M_classOf_24   μ = some (r, μ')) : WM X 1 24 [] [] 0 0 μ := by
  have h : some (1, μ) = some (r, μ') := h
  refine wm_iconst (x := 1) E dM_classOf_24 (by decide) ?_
  exact wm_iret (rt := .int) E hQ (rtI h) (rtM h) (by decide) (by decide) dM_classOf_25
def B_M_classOf_74   (μ : Mem) : Option (Int32 × Mem) := some (2, μ)
set_option maxHeartbeats 4000000 in
set_option maxRecDepth 100000 in
theorem w_M_classOf_74 {X : CX} (E : EV X prog_13_method_23_code 1 "PlaceFinderModel" (some .int)) {μ0 μ' : Mem} {r : Int32} (hQ : RQ X 0 0 μ0 (some (vI r)) μ') (hR : xR X = { frames := 0, cells := 0, slots := 0, locals := 0 }) (hI : X.2.2.2.2.2.2.2.2.2.2.2.1.name = "classOf")   (μ : Mem) (h : B_M_classOf_74   μ = some (r, μ')) : WM X 1 74 [] [] 0 0 μ := by
  have h : some (2, μ) = some (r, μ') := h
  refine wm_iconst (x := 2) E dM_classOf_74 (by decide) ?_
  exact wm_iret (rt := .int) E hQ (rtI h) (rtM h) (by decide) (by decide) dM_classOf_75
def B_M_classOf_88   (μ : Mem) : Option (Int32 × Mem) := some (3, μ)
set_option maxHeartbeats 4000000 in
set_option maxRecDepth 100000 in
theorem w_M_classOf_88 {X : CX} (E : EV X prog_13_method_23_code 1 "PlaceFinderModel" (some .int)) {μ0 μ' : Mem} {r : Int32} (hQ : RQ X 0 0 μ0 (some (vI r)) μ') (hR : xR X = { frames := 0, cells := 0, slots := 0, locals := 0 }) (hI : X.2.2.2.2.2.2.2.2.2.2.2.1.name = "classOf")   (μ : Mem) (h : B_M_classOf_88   μ = some (r, μ')) : WM X 1 88 [] [] 0 0 μ := by
  have h : some (3, μ) = some (r, μ') := h
  refine wm_iconst (x := 3) E dM_classOf_88 (by decide) ?_
  exact wm_iret (rt := .int) E hQ (rtI h) (rtM h) (by decide) (by decide) dM_classOf_89
def B_M_classOf_110   (μ : Mem) : Option (Int32 × Mem) := some (5, μ)
set_option maxHeartbeats 4000000 in
set_option maxRecDepth 100000 in
theorem w_M_classOf_110 {X : CX} (E : EV X prog_13_method_23_code 1 "PlaceFinderModel" (some .int)) {μ0 μ' : Mem} {r : Int32} (hQ : RQ X 0 0 μ0 (some (vI r)) μ') (hR : xR X = { frames := 0, cells := 0, slots := 0, locals := 0 }) (hI : X.2.2.2.2.2.2.2.2.2.2.2.1.name = "classOf")   (μ : Mem) (h : B_M_classOf_110   μ = some (r, μ')) : WM X 1 110 [] [] 0 0 μ := by
  have h : some (5, μ) = some (r, μ') := h
  refine wm_iconst (x := 5) E dM_classOf_110 (by decide) ?_
  exact wm_iret (rt := .int) E hQ (rtI h) (rtM h) (by decide) (by decide) dM_classOf_111
def B_M_classOf_124  (s0 : Int32) (μ : Mem) : Option (Int32 × Mem) := some (s0, μ)
set_option maxHeartbeats 4000000 in
set_option maxRecDepth 100000 in
theorem w_M_classOf_124 {X : CX} (E : EV X prog_13_method_23_code 1 "PlaceFinderModel" (some .int)) {μ0 μ' : Mem} {r : Int32} (hQ : RQ X 0 0 μ0 (some (vI r)) μ') (hR : xR X = { frames := 0, cells := 0, slots := 0, locals := 0 }) (hI : X.2.2.2.2.2.2.2.2.2.2.2.1.name = "classOf")  (s0 : Int32) (μ : Mem) (h : B_M_classOf_124  s0 μ = some (r, μ')) : WM X 1 124 [] [vI s0] 0 0 μ := by
  have h : some (s0, μ) = some (r, μ') := h
  exact wm_iret (rt := .int) E hQ (rtI h) (rtM h) (by decide) (by decide) dM_classOf_124
def S_M_classOf (v0 : Int32) (μ : Mem) : Option (Int32 × Mem) := if v0 = 98 then B_M_classOf_24 μ else if v0 = 102 then B_M_classOf_24 μ else if v0 = 112 then B_M_classOf_24 μ else if v0 = 118 then B_M_classOf_24 μ else if v0 = 99 then B_M_classOf_74 μ else if v0 = 103 then B_M_classOf_74 μ else if v0 = 106 then B_M_classOf_74 μ else if v0 = 107 then B_M_classOf_74 μ else if v0 = 113 then B_M_classOf_74 μ else if v0 = 115 then B_M_classOf_74 μ else if v0 = 120 then B_M_classOf_74 μ else if v0 = 122 then B_M_classOf_74 μ else if v0 = 100 then B_M_classOf_88 μ else if v0 = 116 then B_M_classOf_88 μ else if v0 = 108 then some (4, μ) else if v0 = 109 then B_M_classOf_110 μ else if v0 = 110 then B_M_classOf_110 μ else if v0 = 114 then B_M_classOf_124 6 μ else B_M_classOf_124 0 μ
set_option maxHeartbeats 4000000 in
set_option maxRecDepth 100000 in
theorem C_M_classOf (l : Launch) (G : GG) (v0 : Int32) (μ μ' : Mem) (r : Int32) (h : S_M_classOf v0 μ = some (r, μ')) : CT l G y_M_classOf prog_13_method_23_code 1 (some .int) 0 0 0 0 μ [vI v0] (some (vI r)) μ' := by
  refine wm_met (lv := [(0, vI v0)]) (by decide +kernel) (Nat.le_of_ble_eq_true rfl) rfl (fun X E hQ hR hI => ?_)
  have h : if v0 = 98 then B_M_classOf_24 μ else if v0 = 102 then B_M_classOf_24 μ else if v0 = 112 then B_M_classOf_24 μ else if v0 = 118 then B_M_classOf_24 μ else if v0 = 99 then B_M_classOf_74 μ else if v0 = 103 then B_M_classOf_74 μ else if v0 = 106 then B_M_classOf_74 μ else if v0 = 107 then B_M_classOf_74 μ else if v0 = 113 then B_M_classOf_74 μ else if v0 = 115 then B_M_classOf_74 μ else if v0 = 120 then B_M_classOf_74 μ else if v0 = 122 then B_M_classOf_74 μ else if v0 = 100 then B_M_classOf_88 μ else if v0 = 116 then B_M_classOf_88 μ else if v0 = 108 then some (4, μ) else if v0 = 109 then B_M_classOf_110 μ else if v0 = 110 then B_M_classOf_110 μ else if v0 = 114 then B_M_classOf_124 6 μ else B_M_classOf_124 0 μ = some (r, μ') := h
  refine wm_iload_n E dM_classOf_0 rfl (j := 0) rfl ?_
  refine wm_bipush (x := 98) E dM_classOf_1 (by decide) ?_
  refine wm_icmp_eq (tgt := 24) E dM_classOf_3 (by decide) (fun c3 => ?_) (fun c3 => ?_)
  · have h := (if_pos c3).symm.trans h
    refine wm_pick (lv' := []) [] rfl ?_
    exact w_M_classOf_24 E hQ hR hI μ h
  · have h := (if_neg c3).symm.trans h
    refine wm_iload_n E dM_classOf_6 rfl (j := 0) rfl ?_
    refine wm_bipush (x := 102) E dM_classOf_7 (by decide) ?_
    refine wm_icmp_eq (tgt := 24) E dM_classOf_9 (by decide) (fun c9 => ?_) (fun c9 => ?_)
    · have h := (if_pos c9).symm.trans h
      refine wm_pick (lv' := []) [] rfl ?_
      exact w_M_classOf_24 E hQ hR hI μ h
    · have h := (if_neg c9).symm.trans h
      refine wm_iload_n E dM_classOf_12 rfl (j := 0) rfl ?_
      refine wm_bipush (x := 112) E dM_classOf_13 (by decide) ?_
      refine wm_icmp_eq (tgt := 24) E dM_classOf_15 (by decide) (fun c15 => ?_) (fun c15 => ?_)
      · have h := (if_pos c15).symm.trans h
        refine wm_pick (lv' := []) [] rfl ?_
        exact w_M_classOf_24 E hQ hR hI μ h
      · have h := (if_neg c15).symm.trans h
        refine wm_iload_n E dM_classOf_18 rfl (j := 0) rfl ?_
        refine wm_bipush (x := 118) E dM_classOf_19 (by decide) ?_
        refine wm_icmp_ne (tgt := 26) E dM_classOf_21 (by decide) (fun c21 => ?_) (fun c21 => ?_)
        · have h := (if_neg c21).symm.trans h
          refine wm_iload_n E dM_classOf_26 rfl (j := 0) rfl ?_
          refine wm_bipush (x := 99) E dM_classOf_27 (by decide) ?_
          refine wm_icmp_eq (tgt := 74) E dM_classOf_29 (by decide) (fun c29 => ?_) (fun c29 => ?_)
          · have h := (if_pos c29).symm.trans h
            refine wm_pick (lv' := []) [] rfl ?_
            exact w_M_classOf_74 E hQ hR hI μ h
          · have h := (if_neg c29).symm.trans h
            refine wm_iload_n E dM_classOf_32 rfl (j := 0) rfl ?_
            refine wm_bipush (x := 103) E dM_classOf_33 (by decide) ?_
            refine wm_icmp_eq (tgt := 74) E dM_classOf_35 (by decide) (fun c35 => ?_) (fun c35 => ?_)
            · have h := (if_pos c35).symm.trans h
              refine wm_pick (lv' := []) [] rfl ?_
              exact w_M_classOf_74 E hQ hR hI μ h
            · have h := (if_neg c35).symm.trans h
              refine wm_iload_n E dM_classOf_38 rfl (j := 0) rfl ?_
              refine wm_bipush (x := 106) E dM_classOf_39 (by decide) ?_
              refine wm_icmp_eq (tgt := 74) E dM_classOf_41 (by decide) (fun c41 => ?_) (fun c41 => ?_)
              · have h := (if_pos c41).symm.trans h
                refine wm_pick (lv' := []) [] rfl ?_
                exact w_M_classOf_74 E hQ hR hI μ h
              · have h := (if_neg c41).symm.trans h
                refine wm_iload_n E dM_classOf_44 rfl (j := 0) rfl ?_
                refine wm_bipush (x := 107) E dM_classOf_45 (by decide) ?_
                refine wm_icmp_eq (tgt := 74) E dM_classOf_47 (by decide) (fun c47 => ?_) (fun c47 => ?_)
                · have h := (if_pos c47).symm.trans h
                  refine wm_pick (lv' := []) [] rfl ?_
                  exact w_M_classOf_74 E hQ hR hI μ h
                · have h := (if_neg c47).symm.trans h
                  refine wm_iload_n E dM_classOf_50 rfl (j := 0) rfl ?_
                  refine wm_bipush (x := 113) E dM_classOf_51 (by decide) ?_
                  refine wm_icmp_eq (tgt := 74) E dM_classOf_53 (by decide) (fun c53 => ?_) (fun c53 => ?_)
                  · have h := (if_pos c53).symm.trans h
                    refine wm_pick (lv' := []) [] rfl ?_
                    exact w_M_classOf_74 E hQ hR hI μ h
                  · have h := (if_neg c53).symm.trans h
                    refine wm_iload_n E dM_classOf_56 rfl (j := 0) rfl ?_
                    refine wm_bipush (x := 115) E dM_classOf_57 (by decide) ?_
                    refine wm_icmp_eq (tgt := 74) E dM_classOf_59 (by decide) (fun c59 => ?_) (fun c59 => ?_)
                    · have h := (if_pos c59).symm.trans h
                      refine wm_pick (lv' := []) [] rfl ?_
                      exact w_M_classOf_74 E hQ hR hI μ h
                    · have h := (if_neg c59).symm.trans h
                      refine wm_iload_n E dM_classOf_62 rfl (j := 0) rfl ?_
                      refine wm_bipush (x := 120) E dM_classOf_63 (by decide) ?_
                      refine wm_icmp_eq (tgt := 74) E dM_classOf_65 (by decide) (fun c65 => ?_) (fun c65 => ?_)
                      · have h := (if_pos c65).symm.trans h
                        refine wm_pick (lv' := []) [] rfl ?_
                        exact w_M_classOf_74 E hQ hR hI μ h
                      · have h := (if_neg c65).symm.trans h
                        refine wm_iload_n E dM_classOf_68 rfl (j := 0) rfl ?_
                        refine wm_bipush (x := 122) E dM_classOf_69 (by decide) ?_
                        refine wm_icmp_ne (tgt := 76) E dM_classOf_71 (by decide) (fun c71 => ?_) (fun c71 => ?_)
                        · have h := (if_neg c71).symm.trans h
                          refine wm_iload_n E dM_classOf_76 rfl (j := 0) rfl ?_
                          refine wm_bipush (x := 100) E dM_classOf_77 (by decide) ?_
                          refine wm_icmp_eq (tgt := 88) E dM_classOf_79 (by decide) (fun c79 => ?_) (fun c79 => ?_)
                          · have h := (if_pos c79).symm.trans h
                            refine wm_pick (lv' := []) [] rfl ?_
                            exact w_M_classOf_88 E hQ hR hI μ h
                          · have h := (if_neg c79).symm.trans h
                            refine wm_iload_n E dM_classOf_82 rfl (j := 0) rfl ?_
                            refine wm_bipush (x := 116) E dM_classOf_83 (by decide) ?_
                            refine wm_icmp_ne (tgt := 90) E dM_classOf_85 (by decide) (fun c85 => ?_) (fun c85 => ?_)
                            · have h := (if_neg c85).symm.trans h
                              refine wm_iload_n E dM_classOf_90 rfl (j := 0) rfl ?_
                              refine wm_bipush (x := 108) E dM_classOf_91 (by decide) ?_
                              refine wm_icmp_ne (tgt := 98) E dM_classOf_93 (by decide) (fun c93 => ?_) (fun c93 => ?_)
                              · have h := (if_neg c93).symm.trans h
                                refine wm_iload_n E dM_classOf_98 rfl (j := 0) rfl ?_
                                refine wm_bipush (x := 109) E dM_classOf_99 (by decide) ?_
                                refine wm_icmp_eq (tgt := 110) E dM_classOf_101 (by decide) (fun c101 => ?_) (fun c101 => ?_)
                                · have h := (if_pos c101).symm.trans h
                                  refine wm_pick (lv' := []) [] rfl ?_
                                  exact w_M_classOf_110 E hQ hR hI μ h
                                · have h := (if_neg c101).symm.trans h
                                  refine wm_iload_n E dM_classOf_104 rfl (j := 0) rfl ?_
                                  refine wm_bipush (x := 110) E dM_classOf_105 (by decide) ?_
                                  refine wm_icmp_ne (tgt := 112) E dM_classOf_107 (by decide) (fun c107 => ?_) (fun c107 => ?_)
                                  · have h := (if_neg c107).symm.trans h
                                    refine wm_iload_n E dM_classOf_112 rfl (j := 0) rfl ?_
                                    refine wm_bipush (x := 114) E dM_classOf_113 (by decide) ?_
                                    refine wm_icmp_ne (tgt := 123) E dM_classOf_115 (by decide) (fun c115 => ?_) (fun c115 => ?_)
                                    · have h := (if_neg c115).symm.trans h
                                      refine wm_iconst (x := 0) E dM_classOf_123 (by decide) ?_
                                      refine wm_pick (lv' := []) [] rfl ?_
                                      exact w_M_classOf_124 E hQ hR hI 0 μ h
                                    · have h := (if_pos c115).symm.trans h
                                      refine wm_bipush (x := 6) E dM_classOf_118 (by decide) ?_
                                      refine wm_goto (tgt := 124) E dM_classOf_120 (by decide) ?_
                                      refine wm_pick (lv' := []) [] rfl ?_
                                      exact w_M_classOf_124 E hQ hR hI 6 μ h
                                  · have h := (if_pos c107).symm.trans h
                                    refine wm_pick (lv' := []) [] rfl ?_
                                    exact w_M_classOf_110 E hQ hR hI μ h
                              · have h := (if_pos c93).symm.trans h
                                refine wm_iconst (x := 4) E dM_classOf_96 (by decide) ?_
                                exact wm_iret (rt := .int) E hQ (rtI h) (rtM h) (by decide) (by decide) dM_classOf_97
                            · have h := (if_pos c85).symm.trans h
                              refine wm_pick (lv' := []) [] rfl ?_
                              exact w_M_classOf_88 E hQ hR hI μ h
                        · have h := (if_pos c71).symm.trans h
                          refine wm_pick (lv' := []) [] rfl ?_
                          exact w_M_classOf_74 E hQ hR hI μ h
        · have h := (if_pos c21).symm.trans h
          refine wm_pick (lv' := []) [] rfl ?_
          exact w_M_classOf_24 E hQ hR hI μ h
def B_M_soundOf_88  (v1 : Int32) (μ : Mem) : Option (Int32 × Mem) := some (v1, μ)
set_option maxHeartbeats 4000000 in
set_option maxRecDepth 100000 in
theorem w_M_soundOf_88 {X : CX} (E : EV X prog_13_method_24_code 5 "PlaceFinderModel" (some .int)) {μ0 μ' : Mem} {r : Int32} (hQ : RQ X 0 0 μ0 (some (vI r)) μ') (hR : xR X = { frames := 1, cells := 0, slots := 0, locals := 20 }) (hI : X.2.2.2.2.2.2.2.2.2.2.2.1.name = "soundOf")  (v1 : Int32) (μ : Mem) (h : B_M_soundOf_88  v1 μ = some (r, μ')) : WM X 5 88 [(1, vI v1)] [] 0 0 μ := by
  have h : some (v1, μ) = some (r, μ') := h
  refine wm_iload_n E dM_soundOf_88 rfl (j := 0) rfl ?_
  exact wm_iret (rt := .int) E hQ (rtI h) (rtM h) (by decide) (by decide) dM_soundOf_89
def B_M_soundOf_82 (k23 : Option Nat → Int32 → Int32 → Int32 → Mem → Option (Int32 × Mem)) (v0 : Option Nat) (v1 : Int32) (v2 : Int32) (v3 : Int32) (μ : Mem) : Option (Int32 × Mem) := k23 v0 v1 v2 (v3 + 1) μ
set_option maxHeartbeats 4000000 in
set_option maxRecDepth 100000 in
theorem w_M_soundOf_82 {X : CX} (E : EV X prog_13_method_24_code 5 "PlaceFinderModel" (some .int)) {μ0 μ' : Mem} {r : Int32} (hQ : RQ X 0 0 μ0 (some (vI r)) μ') (hR : xR X = { frames := 1, cells := 0, slots := 0, locals := 20 }) (hI : X.2.2.2.2.2.2.2.2.2.2.2.1.name = "soundOf") (k23 : Option Nat → Int32 → Int32 → Int32 → Mem → Option (Int32 × Mem)) (hk23 : ∀ (v0 : Option Nat) (v1 : Int32) (v2 : Int32) (v3 : Int32) (μ : Mem), k23 v0 v1 v2 v3 μ = some (r, μ') → WM X 5 23 [(0, vR v0), (1, vI v1), (2, vI v2), (3, vI v3)] [] 0 0 μ) (v0 : Option Nat) (v1 : Int32) (v2 : Int32) (v3 : Int32) (μ : Mem) (h : B_M_soundOf_82 k23 v0 v1 v2 v3 μ = some (r, μ')) : WM X 5 82 [(0, vR v0), (1, vI v1), (2, vI v2), (3, vI v3)] [] 0 0 μ := by
  have h : k23 v0 v1 v2 (v3 + 1) μ = some (r, μ') := h
  refine wm_iinc (lv' := [(3, vI (v3 + 1)), (0, vR v0), (1, vI v1), (2, vI v2)]) (d := 1) E dM_soundOf_82 (by decide) (j := 3) rfl (by decide) rfl ?_
  refine wm_goto (tgt := 23) E dM_soundOf_85 (by decide) ?_
  refine wm_pick (lv' := [(0, vR v0), (1, vI v1), (2, vI v2), (3, vI (v3 + 1))]) [1, 2, 3, 0] rfl ?_
  exact hk23 v0 v1 v2 (v3 + 1) μ h
def B_M_soundOf_23  : Nat → Option Nat → Int32 → Int32 → Int32 → Mem → Option (Int32 × Mem)
  | 0, _, _, _, _, _ => none
  | n + 1, v0, v1, v2, v3, μ => b1 (gI μ v0 12 38) (fun x25 => if x25 ≤ v3 then B_M_soundOf_88 v1 μ else if 4 ≤ v2 then B_M_soundOf_88 v1 μ else b1 (gR μ v0 12 39) (fun x37 => b1 (aI μ x37 0 v3) (fun x41 => b2 (S_M_classOf x41 μ) (fun x42 m42 => if x42 = 0 then B_M_soundOf_82 (fun v0 v1 v2 v3 μ => B_M_soundOf_23 n v0 v1 v2 v3 μ) v0 v1 v2 v3 m42 else b1 (gR m42 v0 12 39) (fun x55 => b1 (aI m42 x55 0 (v3 - 1)) (fun x61 => b2 (S_M_classOf x61 m42) (fun x62 m62 => if x42 = x62 then B_M_soundOf_82 (fun v0 v1 v2 v3 μ => B_M_soundOf_23 n v0 v1 v2 v3 μ) v0 v1 v2 v3 m62 else b0 ((v1 * 32) + x42) (fun x78 => B_M_soundOf_82 (fun v0 v1 v2 v3 μ => B_M_soundOf_23 n v0 v1 v2 v3 μ) v0 x78 (v2 + 1) v3 m62))))))))
set_option maxHeartbeats 4000000 in
set_option maxRecDepth 100000 in
theorem w_M_soundOf_23 {X : CX} (E : EV X prog_13_method_24_code 5 "PlaceFinderModel" (some .int)) {μ0 μ' : Mem} {r : Int32} (hQ : RQ X 0 0 μ0 (some (vI r)) μ') (hR : xR X = { frames := 1, cells := 0, slots := 0, locals := 20 }) (hI : X.2.2.2.2.2.2.2.2.2.2.2.1.name = "soundOf")  (n : Nat) : ∀ (v0 : Option Nat) (v1 : Int32) (v2 : Int32) (v3 : Int32) (μ : Mem) (h : B_M_soundOf_23  n v0 v1 v2 v3 μ = some (r, μ')), WM X 5 23 [(0, vR v0), (1, vI v1), (2, vI v2), (3, vI v3)] [] 0 0 μ := by
  induction n with
  | zero => intro v0 v1 v2 v3 μ h; cases h
  | succ n ih =>
    intro v0 v1 v2 v3 μ h
    have h : b1 (gI μ v0 12 38) (fun x25 => if x25 ≤ v3 then B_M_soundOf_88 v1 μ else if 4 ≤ v2 then B_M_soundOf_88 v1 μ else b1 (gR μ v0 12 39) (fun x37 => b1 (aI μ x37 0 v3) (fun x41 => b2 (S_M_classOf x41 μ) (fun x42 m42 => if x42 = 0 then B_M_soundOf_82 (fun v0 v1 v2 v3 μ => B_M_soundOf_23 n v0 v1 v2 v3 μ) v0 v1 v2 v3 m42 else b1 (gR m42 v0 12 39) (fun x55 => b1 (aI m42 x55 0 (v3 - 1)) (fun x61 => b2 (S_M_classOf x61 m42) (fun x62 m62 => if x42 = x62 then B_M_soundOf_82 (fun v0 v1 v2 v3 μ => B_M_soundOf_23 n v0 v1 v2 v3 μ) v0 v1 v2 v3 m62 else b0 ((v1 * 32) + x42) (fun x78 => B_M_soundOf_82 (fun v0 v1 v2 v3 μ => B_M_soundOf_23 n v0 v1 v2 v3 μ) v0 x78 (v2 + 1) v3 m62)))))))) = some (r, μ') := h
    refine wm_iload_n E dM_soundOf_23 rfl (j := 3) rfl ?_
    refine wm_aload_n E dM_soundOf_24 rfl (j := 0) rfl ?_
    refine wm_gI E fd_M_179 h dM_soundOf_25 (fun x25 h => ?_)
    refine wm_icmp_ge (tgt := 88) E dM_soundOf_28 (by decide) (fun c28 => ?_) (fun c28 => ?_)
    · have h := (if_pos c28).symm.trans h
      refine wm_pick (lv' := [(1, vI v1)]) [1] rfl ?_
      exact w_M_soundOf_88 E hQ hR hI v1 μ h
    · have h := (if_neg c28).symm.trans h
      refine wm_iload_n E dM_soundOf_31 rfl (j := 2) rfl ?_
      refine wm_iconst (x := 4) E dM_soundOf_32 (by decide) ?_
      refine wm_icmp_ge (tgt := 88) E dM_soundOf_33 (by decide) (fun c33 => ?_) (fun c33 => ?_)
      · have h := (if_pos c33).symm.trans h
        refine wm_pick (lv' := [(1, vI v1)]) [1] rfl ?_
        exact w_M_soundOf_88 E hQ hR hI v1 μ h
      · have h := (if_neg c33).symm.trans h
        refine wm_aload_n E dM_soundOf_36 rfl (j := 0) rfl ?_
        refine wm_gR E fd_M_110 h dM_soundOf_37 (fun x37 h => ?_)
        refine wm_iload_n E dM_soundOf_40 rfl (j := 3) rfl ?_
        refine wm_iald (t := 0) E rfl h dM_soundOf_41 (fun x41 h => ?_)
        obtain ⟨x42, m42, hc42, h⟩ := b2S h
        refine wm_cS (As := [vI x41]) (st := []) E lk_M_185 sc_M_classOf (C_M_classOf (xl X) X.1 x41 μ _ _ hc42) rfl rfl (by rw [hR]; decide) (by rw [hR]; decide) (by decide) dM_soundOf_42 ?_
        refine wm_istore (lv' := [(4, vI x42), (0, vR v0), (1, vI v1), (2, vI v2), (3, vI v3)]) E dM_soundOf_45 (by decide) rfl ?_
        refine wm_iload E dM_soundOf_47 (j := 0) rfl ?_
        refine wm_if_eq (tgt := 82) E dM_soundOf_49 (by decide) (fun c49 => ?_) (fun c49 => ?_)
        · have h := (if_pos c49).symm.trans h
          refine wm_pick (lv' := [(0, vR v0), (1, vI v1), (2, vI v2), (3, vI v3)]) [1, 2, 3, 4] rfl ?_
          exact w_M_soundOf_82 E hQ hR hI (fun v0 v1 v2 v3 μ => B_M_soundOf_23 n v0 v1 v2 v3 μ) ih v0 v1 v2 v3 m42 h
        · have h := (if_neg c49).symm.trans h
          refine wm_iload E dM_soundOf_52 (j := 0) rfl ?_
          refine wm_aload_n E dM_soundOf_54 rfl (j := 1) rfl ?_
          refine wm_gR E fd_M_110 h dM_soundOf_55 (fun x55 h => ?_)
          refine wm_iload_n E dM_soundOf_58 rfl (j := 4) rfl ?_
          refine wm_iconst (x := 1) E dM_soundOf_59 (by decide) ?_
          refine wm_isub E dM_soundOf_60 ?_
          refine wm_iald (t := 0) E rfl h dM_soundOf_61 (fun x61 h => ?_)
          obtain ⟨x62, m62, hc62, h⟩ := b2S h
          refine wm_cS (As := [vI x61]) (st := [vI x42]) E lk_M_185 sc_M_classOf (C_M_classOf (xl X) X.1 x61 m42 _ _ hc62) rfl rfl (by rw [hR]; decide) (by rw [hR]; decide) (by decide) dM_soundOf_62 ?_
          refine wm_icmp_ne (tgt := 71) E dM_soundOf_65 (by decide) (fun c65 => ?_) (fun c65 => ?_)
          · have h := (if_neg c65).symm.trans h
            refine wm_iload_n E dM_soundOf_71 rfl (j := 2) rfl ?_
            refine wm_bipush (x := 32) E dM_soundOf_72 (by decide) ?_
            refine wm_imul E dM_soundOf_74 ?_
            refine wm_iload E dM_soundOf_75 (j := 0) rfl ?_
            refine wm_iadd E dM_soundOf_77 ?_
            refine wm_letI h (fun x78 h => ?_)
            refine wm_istore_n (lv' := [(1, vI x78), (4, vI x42), (0, vR v0), (2, vI v2), (3, vI v3)]) E dM_soundOf_78 rfl (by decide) rfl ?_
            refine wm_iinc (lv' := [(2, vI (v2 + 1)), (1, vI x78), (4, vI x42), (0, vR v0), (3, vI v3)]) (d := 1) E dM_soundOf_79 (by decide) (j := 3) rfl (by decide) rfl ?_
            refine wm_pick (lv' := [(0, vR v0), (1, vI x78), (2, vI (v2 + 1)), (3, vI v3)]) [3, 1, 0, 4] rfl ?_
            exact w_M_soundOf_82 E hQ hR hI (fun v0 v1 v2 v3 μ => B_M_soundOf_23 n v0 v1 v2 v3 μ) ih v0 x78 (v2 + 1) v3 m62 h
          · have h := (if_pos c65).symm.trans h
            refine wm_goto (tgt := 82) E dM_soundOf_68 (by decide) ?_
            refine wm_pick (lv' := [(0, vR v0), (1, vI v1), (2, vI v2), (3, vI v3)]) [1, 2, 3, 4] rfl ?_
            exact w_M_soundOf_82 E hQ hR hI (fun v0 v1 v2 v3 μ => B_M_soundOf_23 n v0 v1 v2 v3 μ) ih v0 v1 v2 v3 m62 h
def S_M_soundOf (v0 : Option Nat) (μ : Mem) : Option (Int32 × Mem) := b1 (gI μ v0 12 38) (fun x1 => if x1 = 0 then some (0, μ) else b1 (gR μ v0 12 39) (fun x10 => b1 (aI μ x10 0 0) (fun x14 => b0 (x14 - 96) (fun x18 => B_M_soundOf_23 fu v0 x18 1 1 μ))))
set_option maxHeartbeats 4000000 in
set_option maxRecDepth 100000 in
theorem C_M_soundOf (l : Launch) (G : GG) (v0 : Option Nat) (μ μ' : Mem) (r : Int32) (h : S_M_soundOf v0 μ = some (r, μ')) : CT l G y_M_soundOf prog_13_method_24_code 5 (some .int) 1 0 0 20 μ [vR v0] (some (vI r)) μ' := by
  refine wm_met (lv := [(0, vR v0)]) (by decide +kernel) (Nat.le_of_ble_eq_true rfl) rfl (fun X E hQ hR hI => ?_)
  have h : b1 (gI μ v0 12 38) (fun x1 => if x1 = 0 then some (0, μ) else b1 (gR μ v0 12 39) (fun x10 => b1 (aI μ x10 0 0) (fun x14 => b0 (x14 - 96) (fun x18 => B_M_soundOf_23 fu v0 x18 1 1 μ)))) = some (r, μ') := h
  refine wm_aload_n E dM_soundOf_0 rfl (j := 0) rfl ?_
  refine wm_gI E fd_M_179 h dM_soundOf_1 (fun x1 h => ?_)
  refine wm_if_ne (tgt := 9) E dM_soundOf_4 (by decide) (fun c4 => ?_) (fun c4 => ?_)
  · have h := (if_neg c4).symm.trans h
    refine wm_aload_n E dM_soundOf_9 rfl (j := 0) rfl ?_
    refine wm_gR E fd_M_110 h dM_soundOf_10 (fun x10 h => ?_)
    refine wm_iconst (x := 0) E dM_soundOf_13 (by decide) ?_
    refine wm_iald (t := 0) E rfl h dM_soundOf_14 (fun x14 h => ?_)
    refine wm_bipush (x := 96) E dM_soundOf_15 (by decide) ?_
    refine wm_isub E dM_soundOf_17 ?_
    refine wm_letI h (fun x18 h => ?_)
    refine wm_istore_n (lv' := [(1, vI x18), (0, vR v0)]) E dM_soundOf_18 rfl (by decide) rfl ?_
    refine wm_iconst (x := 1) E dM_soundOf_19 (by decide) ?_
    refine wm_istore_n (lv' := [(2, vI 1), (1, vI x18), (0, vR v0)]) E dM_soundOf_20 rfl (by decide) rfl ?_
    refine wm_iconst (x := 1) E dM_soundOf_21 (by decide) ?_
    refine wm_istore_n (lv' := [(3, vI 1), (2, vI 1), (1, vI x18), (0, vR v0)]) E dM_soundOf_22 rfl (by decide) rfl ?_
    refine wm_pick (lv' := [(0, vR v0), (1, vI x18), (2, vI 1), (3, vI 1)]) [3, 2, 1, 0] rfl ?_
    exact w_M_soundOf_23 E hQ hR hI fu v0 x18 1 1 μ h
  · have h := (if_pos c4).symm.trans h
    refine wm_iconst (x := 0) E dM_soundOf_7 (by decide) ?_
    exact wm_iret (rt := .int) E hQ (rtI h) (rtM h) (by decide) (by decide) dM_soundOf_8
