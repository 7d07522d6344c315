def B_M_isNearer_74  (s0 : Int32) (μ : Mem) : Option (Int32 × Mem) := gd (¬ okZ s0 = true) (some (s0, μ))
set_option maxHeartbeats 4000000 in
set_option maxRecDepth 100000 in
theorem w_M_isNearer_74 {X : CX} (E : EV X prog_13_method_43_code 3 "PlaceFinderModel" (some .boolean)) {μ0 μ' : Mem} {r : Int32} (hQ : RQ X 0 0 μ0 (some (vI r)) μ') (hR : xR X = { frames := 1, cells := 0, slots := 0, locals := 40 }) (hI : X.2.2.2.2.2.2.2.2.2.2.2.1.name = "isNearer")  (s0 : Int32) (μ : Mem) (h : B_M_isNearer_74  s0 μ = some (r, μ')) : WM X 3 74 [] [vI s0] 0 0 μ := by
  have h : (gd (¬ okZ s0 = true) (some (s0, μ))) = some (r, μ') := h
  obtain ⟨hz74, h⟩ := gdS h
  exact wm_zret (rt := .boolean) E hQ (rtI h) (rtM h) (okZN hz74) (by decide) (by decide) dM_isNearer_74
def B_M_isNearer_65  (v2 : Int32) (μ : Mem) : Option (Int32 × Mem) := if 0 ≤ v2 then B_M_isNearer_74 0 μ else B_M_isNearer_74 1 μ
set_option maxHeartbeats 4000000 in
set_option maxRecDepth 100000 in
theorem w_M_isNearer_65 {X : CX} (E : EV X prog_13_method_43_code 3 "PlaceFinderModel" (some .boolean)) {μ0 μ' : Mem} {r : Int32} (hQ : RQ X 0 0 μ0 (some (vI r)) μ') (hR : xR X = { frames := 1, cells := 0, slots := 0, locals := 40 }) (hI : X.2.2.2.2.2.2.2.2.2.2.2.1.name = "isNearer")  (v2 : Int32) (μ : Mem) (h : B_M_isNearer_65  v2 μ = some (r, μ')) : WM X 3 65 [(2, vI v2)] [] 0 0 μ := by
  have h : (if 0 ≤ v2 then B_M_isNearer_74 0 μ else B_M_isNearer_74 1 μ) = some (r, μ') := h
  refine wm_iload_n E dM_isNearer_65 rfl (j := 0) rfl ?_
  refine wm_if_ge (tgt := 73) E dM_isNearer_66 (by decide) (fun c66 => ?_) (fun c66 => ?_)
  · have h := (if_pos c66).symm.trans h
    refine wm_iconst (x := 0) E dM_isNearer_73 (by decide) ?_
    refine wm_pick (lv' := []) [] rfl ?_
    exact w_M_isNearer_74 E hQ hR hI 0 μ h
  · have h := (if_neg c66).symm.trans h
    refine wm_iconst (x := 1) E dM_isNearer_69 (by decide) ?_
    refine wm_goto (tgt := 74) E dM_isNearer_70 (by decide) ?_
    refine wm_pick (lv' := []) [] rfl ?_
    exact w_M_isNearer_74 E hQ hR hI 1 μ h
def B_M_isNearer_41  (v0 : Option Nat) (v2 : Int32) (μ : Mem) : Option (Int32 × Mem) := if v2 = 0 then b1 (gL μ v0 12 43) (fun x46 => b1 (gL μ v0 12 44) (fun x50 => b1 (gL μ v0 12 47) (fun x54 => b1 (gL μ v0 12 48) (fun x58 => b2 (S_M_compareFractions x46 x50 x54 x58 μ) (fun x61 m61 => B_M_isNearer_65 x61 m61))))) else B_M_isNearer_65 v2 μ
set_option maxHeartbeats 4000000 in
set_option maxRecDepth 100000 in
theorem w_M_isNearer_41 {X : CX} (E : EV X prog_13_method_43_code 3 "PlaceFinderModel" (some .boolean)) {μ0 μ' : Mem} {r : Int32} (hQ : RQ X 0 0 μ0 (some (vI r)) μ') (hR : xR X = { frames := 1, cells := 0, slots := 0, locals := 40 }) (hI : X.2.2.2.2.2.2.2.2.2.2.2.1.name = "isNearer")  (v0 : Option Nat) (v2 : Int32) (μ : Mem) (h : B_M_isNearer_41  v0 v2 μ = some (r, μ')) : WM X 3 41 [(0, vR v0), (2, vI v2)] [] 0 0 μ := by
  have h : (if v2 = 0 then b1 (gL μ v0 12 43) (fun x46 => b1 (gL μ v0 12 44) (fun x50 => b1 (gL μ v0 12 47) (fun x54 => b1 (gL μ v0 12 48) (fun x58 => b2 (S_M_compareFractions x46 x50 x54 x58 μ) (fun x61 m61 => B_M_isNearer_65 x61 m61))))) else B_M_isNearer_65 v2 μ) = some (r, μ') := h
  refine wm_iload_n E dM_isNearer_41 rfl (j := 1) rfl ?_
  refine wm_if_ne (tgt := 65) E dM_isNearer_42 (by decide) (fun c42 => ?_) (fun c42 => ?_)
  · have h := (if_neg c42).symm.trans h
    refine wm_pick (lv' := [(2, vI v2)]) [1] rfl ?_
    exact w_M_isNearer_65 E hQ hR hI v2 μ h
  · have h := (if_pos c42).symm.trans h
    refine wm_aload_n E dM_isNearer_45 rfl (j := 0) rfl ?_
    refine wm_gL E fd_M_228 h dM_isNearer_46 (fun x46 h => ?_)
    refine wm_aload_n E dM_isNearer_49 rfl (j := 0) rfl ?_
    refine wm_gL E fd_M_218 h dM_isNearer_50 (fun x50 h => ?_)
    refine wm_aload_n E dM_isNearer_53 rfl (j := 0) rfl ?_
    refine wm_gL E fd_M_244 h dM_isNearer_54 (fun x54 h => ?_)
    refine wm_aload_n E dM_isNearer_57 rfl (j := 0) rfl ?_
    refine wm_gL E fd_M_247 h dM_isNearer_58 (fun x58 h => ?_)
    obtain ⟨x61, m61, hc61, h⟩ := b2S h
    refine wm_cS (As := [vL x46, vL x50, vL x54, vL x58]) (st := []) E lk_M_240 sc_M_compareFractions (C_M_compareFractions (xl X) X.1 x46 x50 x54 x58 μ _ _ hc61) rfl rfl (by rw [hR]; decide) (by rw [hR]; decide) (Nat.le_of_ble_eq_true rfl) dM_isNearer_61 ?_
    refine wm_istore_n (lv' := [(2, vI x61), (0, vR v0)]) E dM_isNearer_64 rfl (by decide) rfl ?_
    refine wm_pick (lv' := [(2, vI x61)]) [0] rfl ?_
    exact w_M_isNearer_65 E hQ hR hI x61 m61 h
def S_M_isNearer (v0 : Option Nat) (v1 : Int32) (μ : Mem) : Option (Int32 × Mem) := b1 (gI μ v0 12 49) (fun x1 => if x1 = ((-1)) then gd (¬ okZ 1 = true) (some (1, μ)) else b1 (gL μ v0 12 41) (fun x11 => b1 (gL μ v0 12 42) (fun x15 => b1 (gL μ v0 12 45) (fun x19 => b1 (gL μ v0 12 46) (fun x23 => b2 (S_M_compareFractions x11 x15 x19 x23 μ) (fun x26 m26 => if x26 = 0 then b1 (gI m26 v0 12 49) (fun x36 => b0 (v1 - x36) (fun x40 => B_M_isNearer_41 v0 x40 m26)) else B_M_isNearer_41 v0 x26 m26))))))
set_option maxHeartbeats 4000000 in
set_option maxRecDepth 100000 in
theorem C_M_isNearer (l : Launch) (G : GG) (v0 : Option Nat) (v1 : Int32) (μ μ' : Mem) (r : Int32) (h : S_M_isNearer v0 v1 μ = some (r, μ')) : CT l G y_M_isNearer prog_13_method_43_code 3 (some .boolean) 1 0 0 40 μ [vR v0, vI v1] (some (vI r)) μ' := by
  refine wm_met (lv := [(0, vR v0), (1, vI v1)]) (by decide +kernel) (Nat.le_of_ble_eq_true rfl) rfl (fun X E hQ hR hI => ?_)
  have h : (b1 (gI μ v0 12 49) (fun x1 => if x1 = ((-1)) then gd (¬ okZ 1 = true) (some (1, μ)) else b1 (gL μ v0 12 41) (fun x11 => b1 (gL μ v0 12 42) (fun x15 => b1 (gL μ v0 12 45) (fun x19 => b1 (gL μ v0 12 46) (fun x23 => b2 (S_M_compareFractions x11 x15 x19 x23 μ) (fun x26 m26 => if x26 = 0 then b1 (gI m26 v0 12 49) (fun x36 => b0 (v1 - x36) (fun x40 => B_M_isNearer_41 v0 x40 m26)) else B_M_isNearer_41 v0 x26 m26))))))) = some (r, μ') := h
  refine wm_aload_n E dM_isNearer_0 rfl (j := 0) rfl ?_
  refine wm_gI E fd_M_231 h dM_isNearer_1 (fun x1 h => ?_)
  refine wm_iconst (x := -1) E dM_isNearer_4 (by decide) ?_
  refine wm_icmp_ne (tgt := 10) E dM_isNearer_5 (by decide) (fun c5 => ?_) (fun c5 => ?_)
  · have h := (if_neg c5).symm.trans h
    refine wm_aload_n E dM_isNearer_10 rfl (j := 0) rfl ?_
    refine wm_gL E fd_M_225 h dM_isNearer_11 (fun x11 h => ?_)
    refine wm_aload_n E dM_isNearer_14 rfl (j := 0) rfl ?_
    refine wm_gL E fd_M_222 h dM_isNearer_15 (fun x15 h => ?_)
    refine wm_aload_n E dM_isNearer_18 rfl (j := 0) rfl ?_
    refine wm_gL E fd_M_234 h dM_isNearer_19 (fun x19 h => ?_)
    refine wm_aload_n E dM_isNearer_22 rfl (j := 0) rfl ?_
    refine wm_gL E fd_M_237 h dM_isNearer_23 (fun x23 h => ?_)
    obtain ⟨x26, m26, hc26, h⟩ := b2S h
    refine wm_cS (As := [vL x11, vL x15, vL x19, vL x23]) (st := []) E lk_M_240 sc_M_compareFractions (C_M_compareFractions (xl X) X.1 x11 x15 x19 x23 μ _ _ hc26) rfl rfl (by rw [hR]; decide) (by rw [hR]; decide) (Nat.le_of_ble_eq_true rfl) dM_isNearer_26 ?_
    refine wm_istore_n (lv' := [(2, vI x26), (0, vR v0), (1, vI v1)]) E dM_isNearer_29 rfl (by decide) rfl ?_
    refine wm_iload_n E dM_isNearer_30 rfl (j := 0) rfl ?_
    refine wm_if_ne (tgt := 41) E dM_isNearer_31 (by decide) (fun c31 => ?_) (fun c31 => ?_)
    · have h := (if_neg c31).symm.trans h
      refine wm_pick (lv' := [(0, vR v0), (2, vI x26)]) [1, 0] rfl ?_
      exact w_M_isNearer_41 E hQ hR hI v0 x26 m26 h
    · have h := (if_pos c31).symm.trans h
      refine wm_iload_n E dM_isNearer_34 rfl (j := 2) rfl ?_
      refine wm_aload_n E dM_isNearer_35 rfl (j := 1) rfl ?_
      refine wm_gI E fd_M_231 h dM_isNearer_36 (fun x36 h => ?_)
      refine wm_isub E dM_isNearer_39 ?_
      refine wm_letI h (fun x40 h => ?_)
      refine wm_istore_n (lv' := [(2, vI x40), (0, vR v0), (1, vI v1)]) E dM_isNearer_40 rfl (by decide) rfl ?_
      refine wm_pick (lv' := [(0, vR v0), (2, vI x40)]) [1, 0] rfl ?_
      exact w_M_isNearer_41 E hQ hR hI v0 x40 m26 h
  · have h := (if_pos c5).symm.trans h
    refine wm_iconst (x := 1) E dM_isNearer_8 (by decide) ?_
    obtain ⟨hz9, h⟩ := gdS h
    exact wm_zret (rt := .boolean) E hQ (rtI h) (rtM h) (okZN hz9) (by decide) (by decide) dM_isNearer_9
def B_M_nearest_165 (k16 : Option Nat → Int32 → Int32 → Int32 → Mem → Option (Unit × Mem)) (k31 : Option Nat → Int32 → Int32 → Int32 → Int32 → Mem → Option (Unit × Mem)) (v0 : Option Nat) (v3 : Int32) (v4 : Int32) (v5 : Int32) (v6 : Int32) (μ : Mem) : Option (Unit × Mem) := k31 v0 v3 v4 v5 (v6 + 1) μ
set_option maxHeartbeats 4000000 in
set_option maxRecDepth 100000 in
theorem w_M_nearest_165 {X : CX} (E : EV X prog_13_method_44_code 8 "PlaceFinderModel" none) {μ0 μ' : Mem} {r : Unit} (hQ : RQ X 0 0 μ0 none μ') (hR : xR X = { frames := 2, cells := 0, slots := 0, locals := 62 }) (hI : X.2.2.2.2.2.2.2.2.2.2.2.1.name = "nearest") (k16 : Option Nat → Int32 → Int32 → Int32 → Mem → Option (Unit × Mem)) (hk16 : ∀ (v0 : Option Nat) (v3 : Int32) (v4 : Int32) (v5 : Int32) (μ : Mem), k16 v0 v3 v4 v5 μ = some (r, μ') → WM X 8 16 [(0, vR v0), (3, vI v3), (4, vI v4), (5, vI v5)] [] 0 0 μ) (k31 : Option Nat → Int32 → Int32 → Int32 → Int32 → Mem → Option (Unit × Mem)) (hk31 : ∀ (v0 : Option Nat) (v3 : Int32) (v4 : Int32) (v5 : Int32) (v6 : Int32) (μ : Mem), k31 v0 v3 v4 v5 v6 μ = some (r, μ') → WM X 8 31 [(0, vR v0), (3, vI v3), (4, vI v4), (5, vI v5), (6, vI v6)] [] 0 0 μ) (v0 : Option Nat) (v3 : Int32) (v4 : Int32) (v5 : Int32) (v6 : Int32) (μ : Mem) (h : B_M_nearest_165 k16 k31 v0 v3 v4 v5 v6 μ = some (r, μ')) : WM X 8 165 [(0, vR v0), (3, vI v3), (4, vI v4), (5, vI v5), (6, vI v6)] [] 0 0 μ := by
  have h : (k31 v0 v3 v4 v5 (v6 + 1) μ) = some (r, μ') := h
  refine wm_iinc (lv' := [(6, vI (v6 + 1)), (0, vR v0), (3, vI v3), (4, vI v4), (5, vI v5)]) (d := 1) E dM_nearest_165 (by decide) (j := 4) rfl (by decide) rfl ?_
  refine wm_goto (tgt := 31) E dM_nearest_168 (by decide) ?_
  refine wm_pick (lv' := [(0, vR v0), (3, vI v3), (4, vI v4), (5, vI v5), (6, vI (v6 + 1))]) [1, 2, 3, 4, 0] rfl ?_
  exact hk31 v0 v3 v4 v5 (v6 + 1) μ h
def B_M_nearest_31 (k16 : Option Nat → Int32 → Int32 → Int32 → Mem → Option (Unit × Mem)) : Nat → Option Nat → Int32 → Int32 → Int32 → Int32 → Mem → Option (Unit × Mem)
  | 0, _, _, _, _, _, _ => none
  | n + 1, v0, v3, v4, v5, v6, μ => b1 (gR μ v0 12 30) (fun x36 => b1 (aI μ x36 0 v3) (fun x40 => if x40 ≤ (v6 + 1) then k16 v0 v3 v4 (v5 + 1) μ else b0 ((8 * v3) + v6) (fun x51 => b1 (gR μ v0 12 31) (fun x55 => b1 (aI μ x55 0 x51) (fun x60 => b1 (gR μ v0 12 32) (fun x62 => b1 (aI μ x62 0 x51) (fun x67 => b1 (gR μ v0 12 31) (fun x69 => b1 (aI μ x69 0 (x51 + 1)) (fun x76 => b1 (gR μ v0 12 32) (fun x78 => b1 (aI μ x78 0 (x51 + 1)) (fun x85 => b1 (gR μ v0 12 7) (fun x87 => b1 (aI μ x87 0 ((8 * v4) + v5)) (fun x98 => b1 (gR μ v0 12 8) (fun x100 => b1 (aI μ x100 0 ((8 * v4) + v5)) (fun x111 => b1 (rc μ v0 12) (fun _ => b2 (S_M_measure v0 x60 x67 x76 x85 x98 x111 μ) (fun x112 m112 => b1 (rc m112 v0 12) (fun _ => b2 (S_M_isNearer v0 v6 m112) (fun x118 m118 => if x118 = 0 then B_M_nearest_165 k16 (fun v0 v3 v4 v5 v6 μ => B_M_nearest_31 k16 n v0 v3 v4 v5 v6 μ) v0 v3 v4 v5 v6 m118 else b1 (pV m118 v0 12 49 (vI v6)) (fun m130 => b1 (gL m130 v0 12 41) (fun x135 => b1 (pV m130 v0 12 45 (vL x135)) (fun m138 => b1 (gL m138 v0 12 42) (fun x143 => b1 (pV m138 v0 12 46 (vL x143)) (fun m146 => b1 (gL m146 v0 12 43) (fun x151 => b1 (pV m146 v0 12 47 (vL x151)) (fun m154 => b1 (gL m154 v0 12 44) (fun x159 => b1 (pV m154 v0 12 48 (vL x159)) (fun m162 => B_M_nearest_165 k16 (fun v0 v3 v4 v5 v6 μ => B_M_nearest_31 k16 n v0 v3 v4 v5 v6 μ) v0 v3 v4 v5 v6 m162))))))))))))))))))))))))))))
set_option maxHeartbeats 4000000 in
set_option maxRecDepth 100000 in
theorem w_M_nearest_31 {X : CX} (E : EV X prog_13_method_44_code 8 "PlaceFinderModel" none) {μ0 μ' : Mem} {r : Unit} (hQ : RQ X 0 0 μ0 none μ') (hR : xR X = { frames := 2, cells := 0, slots := 0, locals := 62 }) (hI : X.2.2.2.2.2.2.2.2.2.2.2.1.name = "nearest") (k16 : Option Nat → Int32 → Int32 → Int32 → Mem → Option (Unit × Mem)) (hk16 : ∀ (v0 : Option Nat) (v3 : Int32) (v4 : Int32) (v5 : Int32) (μ : Mem), k16 v0 v3 v4 v5 μ = some (r, μ') → WM X 8 16 [(0, vR v0), (3, vI v3), (4, vI v4), (5, vI v5)] [] 0 0 μ) (n : Nat) : ∀ (v0 : Option Nat) (v3 : Int32) (v4 : Int32) (v5 : Int32) (v6 : Int32) (μ : Mem) (h : B_M_nearest_31 k16 n v0 v3 v4 v5 v6 μ = some (r, μ')), WM X 8 31 [(0, vR v0), (3, vI v3), (4, vI v4), (5, vI v5), (6, vI v6)] [] 0 0 μ := by
  induction n with
  | zero => intro v0 v3 v4 v5 v6 μ h; cases h
  | succ n ih =>
    intro v0 v3 v4 v5 v6 μ h
    have h : (b1 (gR μ v0 12 30) (fun x36 => b1 (aI μ x36 0 v3) (fun x40 => if x40 ≤ (v6 + 1) then k16 v0 v3 v4 (v5 + 1) μ else b0 ((8 * v3) + v6) (fun x51 => b1 (gR μ v0 12 31) (fun x55 => b1 (aI μ x55 0 x51) (fun x60 => b1 (gR μ v0 12 32) (fun x62 => b1 (aI μ x62 0 x51) (fun x67 => b1 (gR μ v0 12 31) (fun x69 => b1 (aI μ x69 0 (x51 + 1)) (fun x76 => b1 (gR μ v0 12 32) (fun x78 => b1 (aI μ x78 0 (x51 + 1)) (fun x85 => b1 (gR μ v0 12 7) (fun x87 => b1 (aI μ x87 0 ((8 * v4) + v5)) (fun x98 => b1 (gR μ v0 12 8) (fun x100 => b1 (aI μ x100 0 ((8 * v4) + v5)) (fun x111 => b1 (rc μ v0 12) (fun _ => b2 (S_M_measure v0 x60 x67 x76 x85 x98 x111 μ) (fun x112 m112 => b1 (rc m112 v0 12) (fun _ => b2 (S_M_isNearer v0 v6 m112) (fun x118 m118 => if x118 = 0 then B_M_nearest_165 k16 (fun v0 v3 v4 v5 v6 μ => B_M_nearest_31 k16 n v0 v3 v4 v5 v6 μ) v0 v3 v4 v5 v6 m118 else b1 (pV m118 v0 12 49 (vI v6)) (fun m130 => b1 (gL m130 v0 12 41) (fun x135 => b1 (pV m130 v0 12 45 (vL x135)) (fun m138 => b1 (gL m138 v0 12 42) (fun x143 => b1 (pV m138 v0 12 46 (vL x143)) (fun m146 => b1 (gL m146 v0 12 43) (fun x151 => b1 (pV m146 v0 12 47 (vL x151)) (fun m154 => b1 (gL m154 v0 12 44) (fun x159 => b1 (pV m154 v0 12 48 (vL x159)) (fun m162 => B_M_nearest_165 k16 (fun v0 v3 v4 v5 v6 μ => B_M_nearest_31 k16 n v0 v3 v4 v5 v6 μ) v0 v3 v4 v5 v6 m162))))))))))))))))))))))))))))) = some (r, μ') := h
    refine wm_iload E dM_nearest_31 (j := 4) rfl ?_
    refine wm_iconst (x := 1) E dM_nearest_33 (by decide) ?_
    refine wm_iadd E dM_nearest_34 ?_
    refine wm_aload_n E dM_nearest_35 rfl (j := 0) rfl ?_
    refine wm_gR E fd_M_88 h dM_nearest_36 (fun x36 h => ?_)
    refine wm_iload_n E dM_nearest_39 rfl (j := 1) rfl ?_
    refine wm_iald (t := 0) E rfl h dM_nearest_40 (fun x40 h => ?_)
    refine wm_icmp_ge (tgt := 171) E dM_nearest_41 (by decide) (fun c41 => ?_) (fun c41 => ?_)
    · have h := (if_pos c41).symm.trans h
      refine wm_iinc (lv' := [(5, vI (v5 + 1)), (0, vR v0), (3, vI v3), (4, vI v4), (6, vI v6)]) (d := 1) E dM_nearest_171 (by decide) (j := 3) rfl (by decide) rfl ?_
      refine wm_goto (tgt := 16) E dM_nearest_174 (by decide) ?_
      refine wm_pick (lv' := [(0, vR v0), (3, vI v3), (4, vI v4), (5, vI (v5 + 1))]) [1, 2, 3, 0] rfl ?_
      exact hk16 v0 v3 v4 (v5 + 1) μ h
    · have h := (if_neg c41).symm.trans h
      refine wm_bipush (x := 8) E dM_nearest_44 (by decide) ?_
      refine wm_iload_n E dM_nearest_46 rfl (j := 1) rfl ?_
      refine wm_imul E dM_nearest_47 ?_
      refine wm_iload E dM_nearest_48 (j := 4) rfl ?_
      refine wm_iadd E dM_nearest_50 ?_
      refine wm_letI h (fun x51 h => ?_)
      refine wm_istore (lv' := [(7, vI x51), (0, vR v0), (3, vI v3), (4, vI v4), (5, vI v5), (6, vI v6)]) E dM_nearest_51 (by decide) rfl ?_
      refine wm_aload_n E dM_nearest_53 rfl (j := 1) rfl ?_
      refine wm_aload_n E dM_nearest_54 rfl (j := 1) rfl ?_
      refine wm_gR E fd_M_91 h dM_nearest_55 (fun x55 h => ?_)
      refine wm_iload E dM_nearest_58 (j := 0) rfl ?_
      refine wm_iald (t := 0) E rfl h dM_nearest_60 (fun x60 h => ?_)
      refine wm_aload_n E dM_nearest_61 rfl (j := 1) rfl ?_
      refine wm_gR E fd_M_94 h dM_nearest_62 (fun x62 h => ?_)
      refine wm_iload E dM_nearest_65 (j := 0) rfl ?_
      refine wm_iald (t := 0) E rfl h dM_nearest_67 (fun x67 h => ?_)
      refine wm_aload_n E dM_nearest_68 rfl (j := 1) rfl ?_
      refine wm_gR E fd_M_91 h dM_nearest_69 (fun x69 h => ?_)
      refine wm_iload E dM_nearest_72 (j := 0) rfl ?_
      refine wm_iconst (x := 1) E dM_nearest_74 (by decide) ?_
      refine wm_iadd E dM_nearest_75 ?_
      refine wm_iald (t := 0) E rfl h dM_nearest_76 (fun x76 h => ?_)
      refine wm_aload_n E dM_nearest_77 rfl (j := 1) rfl ?_
      refine wm_gR E fd_M_94 h dM_nearest_78 (fun x78 h => ?_)
      refine wm_iload E dM_nearest_81 (j := 0) rfl ?_
      refine wm_iconst (x := 1) E dM_nearest_83 (by decide) ?_
      refine wm_iadd E dM_nearest_84 ?_
      refine wm_iald (t := 0) E rfl h dM_nearest_85 (fun x85 h => ?_)
      refine wm_aload_n E dM_nearest_86 rfl (j := 1) rfl ?_
      refine wm_gR E fd_M_25 h dM_nearest_87 (fun x87 h => ?_)
      refine wm_bipush (x := 8) E dM_nearest_90 (by decide) ?_
      refine wm_iload E dM_nearest_92 (j := 3) rfl ?_
      refine wm_imul E dM_nearest_94 ?_
      refine wm_iload E dM_nearest_95 (j := 4) rfl ?_
      refine wm_iadd E dM_nearest_97 ?_
      refine wm_iald (t := 0) E rfl h dM_nearest_98 (fun x98 h => ?_)
      refine wm_aload_n E dM_nearest_99 rfl (j := 1) rfl ?_
      refine wm_gR E fd_M_28 h dM_nearest_100 (fun x100 h => ?_)
      refine wm_bipush (x := 8) E dM_nearest_103 (by decide) ?_
      refine wm_iload E dM_nearest_105 (j := 3) rfl ?_
      refine wm_imul E dM_nearest_107 ?_
      refine wm_iload E dM_nearest_108 (j := 4) rfl ?_
      refine wm_iadd E dM_nearest_110 ?_
      refine wm_iald (t := 0) E rfl h dM_nearest_111 (fun x111 h => ?_)
      obtain ⟨u112, hr112, h⟩ := b1S h
      obtain ⟨x112, m112, hc112, h⟩ := b2S h
      refine wm_cV (ci := 12) (As := [vI x60, vI x67, vI x76, vI x85, vI x98, vI x111]) (st := []) E lk_M_250 rfl im_M_measure sl_M_measure hr112 (C_M_measure (xl X) X.1 v0 x60 x67 x76 x85 x98 x111 μ _ _ hc112) rfl rfl (by rw [hR]; decide) (by rw [hR]; decide) (Nat.le_of_ble_eq_true rfl) dM_nearest_112 ?_
      refine wm_aload_n E dM_nearest_115 rfl (j := 1) rfl ?_
      refine wm_iload E dM_nearest_116 (j := 5) rfl ?_
      obtain ⟨u118, hr118, h⟩ := b1S h
      obtain ⟨x118, m118, hc118, h⟩ := b2S h
      refine wm_cV (ci := 12) (As := [vI v6]) (st := []) E lk_M_254 rfl im_M_isNearer sl_M_isNearer hr118 (C_M_isNearer (xl X) X.1 v0 v6 m112 _ _ hc118) rfl rfl (by rw [hR]; decide) (by rw [hR]; decide) (Nat.le_of_ble_eq_true rfl) dM_nearest_118 ?_
      refine wm_if_ne (tgt := 127) E dM_nearest_121 (by decide) (fun c121 => ?_) (fun c121 => ?_)
      · have h := (if_neg c121).symm.trans h
        refine wm_aload_n E dM_nearest_127 rfl (j := 1) rfl ?_
        refine wm_iload E dM_nearest_128 (j := 5) rfl ?_
        refine wm_pI E fp_M_231 (fun q => by cases q) h dM_nearest_130 (fun m130 h => ?_)
        refine wm_aload_n E dM_nearest_133 rfl (j := 1) rfl ?_
        refine wm_aload_n E dM_nearest_134 rfl (j := 1) rfl ?_
        refine wm_gL E fd_M_225 h dM_nearest_135 (fun x135 h => ?_)
        refine wm_pL E fp_M_234 (fun q => by cases q) h dM_nearest_138 (fun m138 h => ?_)
        refine wm_aload_n E dM_nearest_141 rfl (j := 1) rfl ?_
        refine wm_aload_n E dM_nearest_142 rfl (j := 1) rfl ?_
        refine wm_gL E fd_M_222 h dM_nearest_143 (fun x143 h => ?_)
        refine wm_pL E fp_M_237 (fun q => by cases q) h dM_nearest_146 (fun m146 h => ?_)
        refine wm_aload_n E dM_nearest_149 rfl (j := 1) rfl ?_
        refine wm_aload_n E dM_nearest_150 rfl (j := 1) rfl ?_
        refine wm_gL E fd_M_228 h dM_nearest_151 (fun x151 h => ?_)
        refine wm_pL E fp_M_244 (fun q => by cases q) h dM_nearest_154 (fun m154 h => ?_)
        refine wm_aload_n E dM_nearest_157 rfl (j := 1) rfl ?_
        refine wm_aload_n E dM_nearest_158 rfl (j := 1) rfl ?_
        refine wm_gL E fd_M_218 h dM_nearest_159 (fun x159 h => ?_)
        refine wm_pL E fp_M_247 (fun q => by cases q) h dM_nearest_162 (fun m162 h => ?_)
        refine wm_pick (lv' := [(0, vR v0), (3, vI v3), (4, vI v4), (5, vI v5), (6, vI v6)]) [1, 2, 3, 4, 5] rfl ?_
        exact w_M_nearest_165 E hQ hR hI k16 hk16 (fun v0 v3 v4 v5 v6 μ => B_M_nearest_31 k16 n v0 v3 v4 v5 v6 μ) ih v0 v3 v4 v5 v6 m162 h
      · have h := (if_pos c121).symm.trans h
        refine wm_goto (tgt := 165) E dM_nearest_124 (by decide) ?_
        refine wm_pick (lv' := [(0, vR v0), (3, vI v3), (4, vI v4), (5, vI v5), (6, vI v6)]) [1, 2, 3, 4, 5] rfl ?_
        exact w_M_nearest_165 E hQ hR hI k16 hk16 (fun v0 v3 v4 v5 v6 μ => B_M_nearest_31 k16 n v0 v3 v4 v5 v6 μ) ih v0 v3 v4 v5 v6 m118 h
def B_M_nearest_16  : Nat → Option Nat → Int32 → Int32 → Int32 → Mem → Option (Unit × Mem)
  | 0, _, _, _, _, _ => none
  | n + 1, v0, v3, v4, v5, μ => b1 (gR μ v0 12 6) (fun x19 => b1 (aI μ x19 0 v4) (fun x24 => if x24 ≤ v5 then some ((), μ) else B_M_nearest_31 (fun v0 v3 v4 v5 μ => B_M_nearest_16 n v0 v3 v4 v5 μ) fu v0 v3 v4 v5 0 μ))
set_option maxHeartbeats 4000000 in
set_option maxRecDepth 100000 in
theorem w_M_nearest_16 {X : CX} (E : EV X prog_13_method_44_code 8 "PlaceFinderModel" none) {μ0 μ' : Mem} {r : Unit} (hQ : RQ X 0 0 μ0 none μ') (hR : xR X = { frames := 2, cells := 0, slots := 0, locals := 62 }) (hI : X.2.2.2.2.2.2.2.2.2.2.2.1.name = "nearest")  (n : Nat) : ∀ (v0 : Option Nat) (v3 : Int32) (v4 : Int32) (v5 : Int32) (μ : Mem) (h : B_M_nearest_16  n v0 v3 v4 v5 μ = some (r, μ')), WM X 8 16 [(0, vR v0), (3, vI v3), (4, vI v4), (5, vI v5)] [] 0 0 μ := by
  induction n with
  | zero => intro v0 v3 v4 v5 μ h; cases h
  | succ n ih =>
    intro v0 v3 v4 v5 μ h
    have h : (b1 (gR μ v0 12 6) (fun x19 => b1 (aI μ x19 0 v4) (fun x24 => if x24 ≤ v5 then some ((), μ) else B_M_nearest_31 (fun v0 v3 v4 v5 μ => B_M_nearest_16 n v0 v3 v4 v5 μ) fu v0 v3 v4 v5 0 μ))) = some (r, μ') := h
    refine wm_iload E dM_nearest_16 (j := 3) rfl ?_
    refine wm_aload_n E dM_nearest_18 rfl (j := 0) rfl ?_
    refine wm_gR E fd_M_22 h dM_nearest_19 (fun x19 h => ?_)
    refine wm_iload E dM_nearest_22 (j := 2) rfl ?_
    refine wm_iald (t := 0) E rfl h dM_nearest_24 (fun x24 h => ?_)
    refine wm_icmp_ge (tgt := 177) E dM_nearest_25 (by decide) (fun c25 => ?_) (fun c25 => ?_)
    · have h := (if_pos c25).symm.trans h
      exact wm_vret E hQ rfl (rtM h) (by decide) (by decide) dM_nearest_177
    · have h := (if_neg c25).symm.trans h
      refine wm_iconst (x := 0) E dM_nearest_28 (by decide) ?_
      refine wm_istore (lv' := [(6, vI 0), (0, vR v0), (3, vI v3), (4, vI v4), (5, vI v5)]) E dM_nearest_29 (by decide) rfl ?_
      refine wm_pick (lv' := [(0, vR v0), (3, vI v3), (4, vI v4), (5, vI v5), (6, vI 0)]) [1, 2, 3, 4, 0] rfl ?_
      exact w_M_nearest_31 E hQ hR hI (fun v0 v3 v4 v5 μ => B_M_nearest_16 n v0 v3 v4 v5 μ) ih fu v0 v3 v4 v5 0 μ h
def S_M_nearest (v0 : Option Nat) (v1 : Int32) (v2 : Int32) (v3 : Int32) (μ : Mem) : Option (Unit × Mem) := b1 (rc μ v0 12) (fun _ => b2 (S_M_shapeOf v0 v1 v2 μ) (fun x3 m3 => b1 (pV m3 v0 12 49 (vI ((-1)))) (fun m10 => B_M_nearest_16 fu v0 v3 x3 0 m10)))
set_option maxHeartbeats 4000000 in
set_option maxRecDepth 100000 in
theorem C_M_nearest (l : Launch) (G : GG) (v0 : Option Nat) (v1 : Int32) (v2 : Int32) (v3 : Int32) (μ μ' : Mem) (r : Unit) (h : S_M_nearest v0 v1 v2 v3 μ = some (r, μ')) : CT l G y_M_nearest prog_13_method_44_code 8 none 2 0 0 62 μ [vR v0, vI v1, vI v2, vI v3] none μ' := by
  refine wm_met (lv := [(0, vR v0), (1, vI v1), (2, vI v2), (3, vI v3)]) (by decide +kernel) (Nat.le_of_ble_eq_true rfl) rfl (fun X E hQ hR hI => ?_)
  have h : (b1 (rc μ v0 12) (fun _ => b2 (S_M_shapeOf v0 v1 v2 μ) (fun x3 m3 => b1 (pV m3 v0 12 49 (vI ((-1)))) (fun m10 => B_M_nearest_16 fu v0 v3 x3 0 m10)))) = some (r, μ') := h
  refine wm_aload_n E dM_nearest_0 rfl (j := 0) rfl ?_
  refine wm_iload_n E dM_nearest_1 rfl (j := 1) rfl ?_
  refine wm_iload_n E dM_nearest_2 rfl (j := 2) rfl ?_
  obtain ⟨u3, hr3, h⟩ := b1S h
  obtain ⟨x3, m3, hc3, h⟩ := b2S h
  refine wm_cV (ci := 12) (As := [vI v1, vI v2]) (st := []) E lk_M_161 rfl im_M_shapeOf sl_M_shapeOf hr3 (C_M_shapeOf (xl X) X.1 v0 v1 v2 μ _ _ hc3) rfl rfl (by rw [hR]; decide) (by rw [hR]; decide) (Nat.le_of_ble_eq_true rfl) dM_nearest_3 ?_
  refine wm_istore (lv' := [(4, vI x3), (0, vR v0), (1, vI v1), (2, vI v2), (3, vI v3)]) E dM_nearest_6 (by decide) rfl ?_
  refine wm_aload_n E dM_nearest_8 rfl (j := 1) rfl ?_
  refine wm_iconst (x := -1) E dM_nearest_9 (by decide) ?_
  refine wm_pI E fp_M_231 (fun q => by cases q) h dM_nearest_10 (fun m10 h => ?_)
  refine wm_iconst (x := 0) E dM_nearest_13 (by decide) ?_
  refine wm_istore (lv' := [(5, vI 0), (4, vI x3), (0, vR v0), (1, vI v1), (2, vI v2), (3, vI v3)]) E dM_nearest_14 (by decide) rfl ?_
  refine wm_pick (lv' := [(0, vR v0), (3, vI v3), (4, vI x3), (5, vI 0)]) [2, 5, 1, 0] rfl ?_
  exact w_M_nearest_16 E hQ hR hI fu v0 v3 x3 0 m10 h
def B_M_isOnRoute_44  (s0 : Int32) (μ : Mem) : Option (Int32 × Mem) := gd (¬ okZ s0 = true) (some (s0, μ))
set_option maxHeartbeats 4000000 in
set_option maxRecDepth 100000 in
theorem w_M_isOnRoute_44 {X : CX} (E : EV X prog_13_method_45_code 5 "PlaceFinderModel" (some .boolean)) {μ0 μ' : Mem} {r : Int32} (hQ : RQ X 0 0 μ0 (some (vI r)) μ') (hR : xR X = { frames := 3, cells := 0, slots := 0, locals := 89 }) (hI : X.2.2.2.2.2.2.2.2.2.2.2.1.name = "isOnRoute")  (s0 : Int32) (μ : Mem) (h : B_M_isOnRoute_44  s0 μ = some (r, μ')) : WM X 5 44 [] [vI s0] 0 0 μ := by
  have h : (gd (¬ okZ s0 = true) (some (s0, μ))) = some (r, μ') := h
  obtain ⟨hz44, h⟩ := gdS h
  exact wm_zret (rt := .boolean) E hQ (rtI h) (rtM h) (okZN hz44) (by decide) (by decide) dM_isOnRoute_44
def S_M_isOnRoute (v0 : Option Nat) (v1 : Int32) (v2 : Int32) (v3 : Int32) (v4 : Int32) (μ : Mem) : Option (Int32 × Mem) := b1 (gR μ v0 12 30) (fun x1 => b1 (aI μ x1 0 v3) (fun x5 => if 2 ≤ x5 then b1 (rc μ v0 12) (fun _ => b2 (S_M_nearest v0 v1 v2 v3 μ) (fun x16 m16 => b1 (gL m16 v0 12 45) (fun x20 => b1 (gL m16 v0 12 46) (fun x31 => if 0 < (lg_cmp x20 ((((v4 : Int32).toInt64) * ((v4 : Int32).toInt64)) * x31)) then B_M_isOnRoute_44 0 m16 else B_M_isOnRoute_44 1 m16)))) else gd (¬ okZ 0 = true) (some (0, μ))))
set_option maxHeartbeats 4000000 in
set_option maxRecDepth 100000 in
theorem C_M_isOnRoute (l : Launch) (G : GG) (v0 : Option Nat) (v1 : Int32) (v2 : Int32) (v3 : Int32) (v4 : Int32) (μ μ' : Mem) (r : Int32) (h : S_M_isOnRoute v0 v1 v2 v3 v4 μ = some (r, μ')) : CT l G y_M_isOnRoute prog_13_method_45_code 5 (some .boolean) 3 0 0 89 μ [vR v0, vI v1, vI v2, vI v3, vI v4] (some (vI r)) μ' := by
  refine wm_met (lv := [(0, vR v0), (1, vI v1), (2, vI v2), (3, vI v3), (4, vI v4)]) (by decide +kernel) (Nat.le_of_ble_eq_true rfl) rfl (fun X E hQ hR hI => ?_)
  have h : (b1 (gR μ v0 12 30) (fun x1 => b1 (aI μ x1 0 v3) (fun x5 => if 2 ≤ x5 then b1 (rc μ v0 12) (fun _ => b2 (S_M_nearest v0 v1 v2 v3 μ) (fun x16 m16 => b1 (gL m16 v0 12 45) (fun x20 => b1 (gL m16 v0 12 46) (fun x31 => if 0 < (lg_cmp x20 ((((v4 : Int32).toInt64) * ((v4 : Int32).toInt64)) * x31)) then B_M_isOnRoute_44 0 m16 else B_M_isOnRoute_44 1 m16)))) else gd (¬ okZ 0 = true) (some (0, μ))))) = some (r, μ') := h
  refine wm_aload_n E dM_isOnRoute_0 rfl (j := 0) rfl ?_
  refine wm_gR E fd_M_88 h dM_isOnRoute_1 (fun x1 h => ?_)
  refine wm_iload_n E dM_isOnRoute_4 rfl (j := 3) rfl ?_
  refine wm_iald (t := 0) E rfl h dM_isOnRoute_5 (fun x5 h => ?_)
  refine wm_iconst (x := 2) E dM_isOnRoute_6 (by decide) ?_
  refine wm_icmp_ge (tgt := 12) E dM_isOnRoute_7 (by decide) (fun c7 => ?_) (fun c7 => ?_)
  · have h := (if_pos c7).symm.trans h
    refine wm_aload_n E dM_isOnRoute_12 rfl (j := 0) rfl ?_
    refine wm_iload_n E dM_isOnRoute_13 rfl (j := 1) rfl ?_
    refine wm_iload_n E dM_isOnRoute_14 rfl (j := 2) rfl ?_
    refine wm_iload_n E dM_isOnRoute_15 rfl (j := 3) rfl ?_
    obtain ⟨u16, hr16, h⟩ := b1S h
    obtain ⟨x16, m16, hc16, h⟩ := b2S h
    refine wm_cV (ci := 12) (As := [vI v1, vI v2, vI v3]) (st := []) E lk_M_257 rfl im_M_nearest sl_M_nearest hr16 (C_M_nearest (xl X) X.1 v0 v1 v2 v3 μ _ _ hc16) rfl rfl (by rw [hR]; decide) (by rw [hR]; decide) (Nat.le_of_ble_eq_true rfl) dM_isOnRoute_16 ?_
    refine wm_aload_n E dM_isOnRoute_19 rfl (j := 0) rfl ?_
    refine wm_gL E fd_M_234 h dM_isOnRoute_20 (fun x20 h => ?_)
    refine wm_iload E dM_isOnRoute_23 (j := 4) rfl ?_
    refine wm_i2l E dM_isOnRoute_25 ?_
    refine wm_iload E dM_isOnRoute_26 (j := 4) rfl ?_
    refine wm_i2l E dM_isOnRoute_28 ?_
    refine wm_lmul E dM_isOnRoute_29 ?_
    refine wm_aload_n E dM_isOnRoute_30 rfl (j := 0) rfl ?_
    refine wm_gL E fd_M_237 h dM_isOnRoute_31 (fun x31 h => ?_)
    refine wm_lmul E dM_isOnRoute_34 ?_
    refine wm_lcmp E dM_isOnRoute_35 ?_
    refine wm_if_gt (tgt := 43) E dM_isOnRoute_36 (by decide) (fun c36 => ?_) (fun c36 => ?_)
    · have h := (if_pos c36).symm.trans h
      refine wm_iconst (x := 0) E dM_isOnRoute_43 (by decide) ?_
      refine wm_pick (lv' := []) [] rfl ?_
      exact w_M_isOnRoute_44 E hQ hR hI 0 m16 h
    · have h := (if_neg c36).symm.trans h
      refine wm_iconst (x := 1) E dM_isOnRoute_39 (by decide) ?_
      refine wm_goto (tgt := 44) E dM_isOnRoute_40 (by decide) ?_
      refine wm_pick (lv' := []) [] rfl ?_
      exact w_M_isOnRoute_44 E hQ hR hI 1 m16 h
  · have h := (if_neg c7).symm.trans h
    refine wm_iconst (x := 0) E dM_isOnRoute_10 (by decide) ?_
    obtain ⟨hz11, h⟩ := gdS h
    exact wm_zret (rt := .boolean) E hQ (rtI h) (rtM h) (okZN hz11) (by decide) (by decide) dM_isOnRoute_11
def B_M_meets_228  (v4 : Int32) (μ : Mem) : Option (Int32 × Mem) := gd (¬ okZ v4 = true) (some (v4, μ))
set_option maxHeartbeats 4000000 in
set_option maxRecDepth 100000 in
theorem w_M_meets_228 {X : CX} (E : EV X prog_13_method_46_code 9 "PlaceFinderModel" (some .boolean)) {μ0 μ' : Mem} {r : Int32} (hQ : RQ X 0 0 μ0 (some (vI r)) μ') (hR : xR X = { frames := 4, cells := 0, slots := 0, locals := 113 }) (hI : X.2.2.2.2.2.2.2.2.2.2.2.1.name = "meets")  (v4 : Int32) (μ : Mem) (h : B_M_meets_228  v4 μ = some (r, μ')) : WM X 9 228 [(4, vI v4)] [] 0 0 μ := by
  have h : (gd (¬ okZ v4 = true) (some (v4, μ))) = some (r, μ') := h
  refine wm_iload E dM_meets_228 (j := 0) rfl ?_
  obtain ⟨hz230, h⟩ := gdS h
  exact wm_zret (rt := .boolean) E hQ (rtI h) (rtM h) (okZN hz230) (by decide) (by decide) dM_meets_230
def B_M_meets_222 (k11 : Option Nat → Int32 → Int32 → Int32 → Int32 → Int32 → Mem → Option (Int32 × Mem)) (v0 : Option Nat) (v1 : Int32) (v2 : Int32) (v3 : Int32) (v4 : Int32) (v5 : Int32) (μ : Mem) : Option (Int32 × Mem) := k11 v0 v1 v2 v3 v4 (v5 + 1) μ
set_option maxHeartbeats 4000000 in
set_option maxRecDepth 100000 in
theorem w_M_meets_222 {X : CX} (E : EV X prog_13_method_46_code 9 "PlaceFinderModel" (some .boolean)) {μ0 μ' : Mem} {r : Int32} (hQ : RQ X 0 0 μ0 (some (vI r)) μ') (hR : xR X = { frames := 4, cells := 0, slots := 0, locals := 113 }) (hI : X.2.2.2.2.2.2.2.2.2.2.2.1.name = "meets") (k11 : Option Nat → Int32 → Int32 → Int32 → Int32 → Int32 → Mem → Option (Int32 × Mem)) (hk11 : ∀ (v0 : Option Nat) (v1 : Int32) (v2 : Int32) (v3 : Int32) (v4 : Int32) (v5 : Int32) (μ : Mem), k11 v0 v1 v2 v3 v4 v5 μ = some (r, μ') → WM X 9 11 [(0, vR v0), (1, vI v1), (2, vI v2), (3, vI v3), (4, vI v4), (5, vI v5)] [] 0 0 μ) (v0 : Option Nat) (v1 : Int32) (v2 : Int32) (v3 : Int32) (v4 : Int32) (v5 : Int32) (μ : Mem) (h : B_M_meets_222 k11 v0 v1 v2 v3 v4 v5 μ = some (r, μ')) : WM X 9 222 [(0, vR v0), (1, vI v1), (2, vI v2), (3, vI v3), (4, vI v4), (5, vI v5)] [] 0 0 μ := by
  have h : (k11 v0 v1 v2 v3 v4 (v5 + 1) μ) = some (r, μ') := h
  refine wm_iinc (lv' := [(5, vI (v5 + 1)), (0, vR v0), (1, vI v1), (2, vI v2), (3, vI v3), (4, vI v4)]) (d := 1) E dM_meets_222 (by decide) (j := 5) rfl (by decide) rfl ?_
  refine wm_goto (tgt := 11) E dM_meets_225 (by decide) ?_
  refine wm_pick (lv' := [(0, vR v0), (1, vI v1), (2, vI v2), (3, vI v3), (4, vI v4), (5, vI (v5 + 1))]) [1, 2, 3, 4, 5, 0] rfl ?_
  exact hk11 v0 v1 v2 v3 v4 (v5 + 1) μ h
def B_M_meets_206 (k11 : Option Nat → Int32 → Int32 → Int32 → Int32 → Int32 → Mem → Option (Int32 × Mem)) (v0 : Option Nat) (v1 : Int32) (v2 : Int32) (v3 : Int32) (v5 : Int32) (s0 : Int32) (μ : Mem) : Option (Int32 × Mem) := B_M_meets_222 k11 v0 v1 v2 v3 s0 v5 μ
set_option maxHeartbeats 4000000 in
set_option maxRecDepth 100000 in
theorem w_M_meets_206 {X : CX} (E : EV X prog_13_method_46_code 9 "PlaceFinderModel" (some .boolean)) {μ0 μ' : Mem} {r : Int32} (hQ : RQ X 0 0 μ0 (some (vI r)) μ') (hR : xR X = { frames := 4, cells := 0, slots := 0, locals := 113 }) (hI : X.2.2.2.2.2.2.2.2.2.2.2.1.name = "meets") (k11 : Option Nat → Int32 → Int32 → Int32 → Int32 → Int32 → Mem → Option (Int32 × Mem)) (hk11 : ∀ (v0 : Option Nat) (v1 : Int32) (v2 : Int32) (v3 : Int32) (v4 : Int32) (v5 : Int32) (μ : Mem), k11 v0 v1 v2 v3 v4 v5 μ = some (r, μ') → WM X 9 11 [(0, vR v0), (1, vI v1), (2, vI v2), (3, vI v3), (4, vI v4), (5, vI v5)] [] 0 0 μ) (v0 : Option Nat) (v1 : Int32) (v2 : Int32) (v3 : Int32) (v5 : Int32) (s0 : Int32) (μ : Mem) (h : B_M_meets_206 k11 v0 v1 v2 v3 v5 s0 μ = some (r, μ')) : WM X 9 206 [(0, vR v0), (1, vI v1), (2, vI v2), (3, vI v3), (5, vI v5)] [vI s0] 0 0 μ := by
  have h : (B_M_meets_222 k11 v0 v1 v2 v3 s0 v5 μ) = some (r, μ') := h
  refine wm_istore (lv' := [(4, vI s0), (0, vR v0), (1, vI v1), (2, vI v2), (3, vI v3), (5, vI v5)]) E dM_meets_206 (by decide) rfl ?_
  refine wm_goto (tgt := 222) E dM_meets_208 (by decide) ?_
  refine wm_pick (lv' := [(0, vR v0), (1, vI v1), (2, vI v2), (3, vI v3), (4, vI s0), (5, vI v5)]) [1, 2, 3, 4, 0, 5] rfl ?_
  exact w_M_meets_222 E hQ hR hI k11 hk11 v0 v1 v2 v3 s0 v5 μ h
def B_M_meets_156 (k11 : Option Nat → Int32 → Int32 → Int32 → Int32 → Int32 → Mem → Option (Int32 × Mem)) (v0 : Option Nat) (v1 : Int32) (v2 : Int32) (v3 : Int32) (v5 : Int32) (s0 : Int32) (μ : Mem) : Option (Int32 × Mem) := B_M_meets_222 k11 v0 v1 v2 v3 s0 v5 μ
set_option maxHeartbeats 4000000 in
set_option maxRecDepth 100000 in
theorem w_M_meets_156 {X : CX} (E : EV X prog_13_method_46_code 9 "PlaceFinderModel" (some .boolean)) {μ0 μ' : Mem} {r : Int32} (hQ : RQ X 0 0 μ0 (some (vI r)) μ') (hR : xR X = { frames := 4, cells := 0, slots := 0, locals := 113 }) (hI : X.2.2.2.2.2.2.2.2.2.2.2.1.name = "meets") (k11 : Option Nat → Int32 → Int32 → Int32 → Int32 → Int32 → Mem → Option (Int32 × Mem)) (hk11 : ∀ (v0 : Option Nat) (v1 : Int32) (v2 : Int32) (v3 : Int32) (v4 : Int32) (v5 : Int32) (μ : Mem), k11 v0 v1 v2 v3 v4 v5 μ = some (r, μ') → WM X 9 11 [(0, vR v0), (1, vI v1), (2, vI v2), (3, vI v3), (4, vI v4), (5, vI v5)] [] 0 0 μ) (v0 : Option Nat) (v1 : Int32) (v2 : Int32) (v3 : Int32) (v5 : Int32) (s0 : Int32) (μ : Mem) (h : B_M_meets_156 k11 v0 v1 v2 v3 v5 s0 μ = some (r, μ')) : WM X 9 156 [(0, vR v0), (1, vI v1), (2, vI v2), (3, vI v3), (5, vI v5)] [vI s0] 0 0 μ := by
  have h : (B_M_meets_222 k11 v0 v1 v2 v3 s0 v5 μ) = some (r, μ') := h
  refine wm_istore (lv' := [(4, vI s0), (0, vR v0), (1, vI v1), (2, vI v2), (3, vI v3), (5, vI v5)]) E dM_meets_156 (by decide) rfl ?_
  refine wm_goto (tgt := 222) E dM_meets_158 (by decide) ?_
  refine wm_pick (lv' := [(0, vR v0), (1, vI v1), (2, vI v2), (3, vI v3), (4, vI s0), (5, vI v5)]) [1, 2, 3, 4, 0, 5] rfl ?_
  exact w_M_meets_222 E hQ hR hI k11 hk11 v0 v1 v2 v3 s0 v5 μ h
def B_M_meets_155 (k11 : Option Nat → Int32 → Int32 → Int32 → Int32 → Int32 → Mem → Option (Int32 × Mem)) (v0 : Option Nat) (v1 : Int32) (v2 : Int32) (v3 : Int32) (v5 : Int32) (μ : Mem) : Option (Int32 × Mem) := B_M_meets_156 k11 v0 v1 v2 v3 v5 0 μ
set_option maxHeartbeats 4000000 in
set_option maxRecDepth 100000 in
theorem w_M_meets_155 {X : CX} (E : EV X prog_13_method_46_code 9 "PlaceFinderModel" (some .boolean)) {μ0 μ' : Mem} {r : Int32} (hQ : RQ X 0 0 μ0 (some (vI r)) μ') (hR : xR X = { frames := 4, cells := 0, slots := 0, locals := 113 }) (hI : X.2.2.2.2.2.2.2.2.2.2.2.1.name = "meets") (k11 : Option Nat → Int32 → Int32 → Int32 → Int32 → Int32 → Mem → Option (Int32 × Mem)) (hk11 : ∀ (v0 : Option Nat) (v1 : Int32) (v2 : Int32) (v3 : Int32) (v4 : Int32) (v5 : Int32) (μ : Mem), k11 v0 v1 v2 v3 v4 v5 μ = some (r, μ') → WM X 9 11 [(0, vR v0), (1, vI v1), (2, vI v2), (3, vI v3), (4, vI v4), (5, vI v5)] [] 0 0 μ) (v0 : Option Nat) (v1 : Int32) (v2 : Int32) (v3 : Int32) (v5 : Int32) (μ : Mem) (h : B_M_meets_155 k11 v0 v1 v2 v3 v5 μ = some (r, μ')) : WM X 9 155 [(0, vR v0), (1, vI v1), (2, vI v2), (3, vI v3), (5, vI v5)] [] 0 0 μ := by
  have h : (B_M_meets_156 k11 v0 v1 v2 v3 v5 0 μ) = some (r, μ') := h
  refine wm_iconst (x := 0) E dM_meets_155 (by decide) ?_
  refine wm_pick (lv' := [(0, vR v0), (1, vI v1), (2, vI v2), (3, vI v3), (5, vI v5)]) [0, 1, 2, 3, 4] rfl ?_
  exact w_M_meets_156 E hQ hR hI k11 hk11 v0 v1 v2 v3 v5 0 μ h
def B_M_meets_94 (k11 : Option Nat → Int32 → Int32 → Int32 → Int32 → Int32 → Mem → Option (Int32 × Mem)) (v0 : Option Nat) (v1 : Int32) (v2 : Int32) (v3 : Int32) (v5 : Int32) (s0 : Int32) (μ : Mem) : Option (Int32 × Mem) := B_M_meets_222 k11 v0 v1 v2 v3 s0 v5 μ
set_option maxHeartbeats 4000000 in
set_option maxRecDepth 100000 in
theorem w_M_meets_94 {X : CX} (E : EV X prog_13_method_46_code 9 "PlaceFinderModel" (some .boolean)) {μ0 μ' : Mem} {r : Int32} (hQ : RQ X 0 0 μ0 (some (vI r)) μ') (hR : xR X = { frames := 4, cells := 0, slots := 0, locals := 113 }) (hI : X.2.2.2.2.2.2.2.2.2.2.2.1.name = "meets") (k11 : Option Nat → Int32 → Int32 → Int32 → Int32 → Int32 → Mem → Option (Int32 × Mem)) (hk11 : ∀ (v0 : Option Nat) (v1 : Int32) (v2 : Int32) (v3 : Int32) (v4 : Int32) (v5 : Int32) (μ : Mem), k11 v0 v1 v2 v3 v4 v5 μ = some (r, μ') → WM X 9 11 [(0, vR v0), (1, vI v1), (2, vI v2), (3, vI v3), (4, vI v4), (5, vI v5)] [] 0 0 μ) (v0 : Option Nat) (v1 : Int32) (v2 : Int32) (v3 : Int32) (v5 : Int32) (s0 : Int32) (μ : Mem) (h : B_M_meets_94 k11 v0 v1 v2 v3 v5 s0 μ = some (r, μ')) : WM X 9 94 [(0, vR v0), (1, vI v1), (2, vI v2), (3, vI v3), (5, vI v5)] [vI s0] 0 0 μ := by
  have h : (B_M_meets_222 k11 v0 v1 v2 v3 s0 v5 μ) = some (r, μ') := h
  refine wm_istore (lv' := [(4, vI s0), (0, vR v0), (1, vI v1), (2, vI v2), (3, vI v3), (5, vI v5)]) E dM_meets_94 (by decide) rfl ?_
  refine wm_goto (tgt := 222) E dM_meets_96 (by decide) ?_
  refine wm_pick (lv' := [(0, vR v0), (1, vI v1), (2, vI v2), (3, vI v3), (4, vI s0), (5, vI v5)]) [1, 2, 3, 4, 0, 5] rfl ?_
  exact w_M_meets_222 E hQ hR hI k11 hk11 v0 v1 v2 v3 s0 v5 μ h
def B_M_meets_11  : Nat → Option Nat → Int32 → Int32 → Int32 → Int32 → Int32 → Mem → Option (Int32 × Mem)
  | 0, _, _, _, _, _, _, _ => none
  | n + 1, v0, v1, v2, v3, v4, v5, μ => b1 (gR μ v0 12 23) (fun x14 => b1 (aI μ x14 0 v3) (fun x18 => if x18 ≤ v5 then B_M_meets_228 v4 μ else if v4 = 0 then B_M_meets_228 v4 μ else b0 ((5 * v3) + v5) (fun x33 => b1 (gR μ v0 12 25) (fun x36 => b1 (aI μ x36 0 x33) (fun x41 => b1 (gR μ v0 12 24) (fun x45 => b1 (aI μ x45 0 x33) (fun x50 => if 4 ≤ x50 then if x50 = 4 then b1 (gR μ v0 12 2) (fun x79 => b1 (aI μ x79 0 v1) (fun x83 => if x83 = x41 then B_M_meets_94 (fun v0 v1 v2 v3 v4 v5 μ => B_M_meets_11 n v0 v1 v2 v3 v4 v5 μ) v0 v1 v2 v3 v5 1 μ else B_M_meets_94 (fun v0 v1 v2 v3 v4 v5 μ => B_M_meets_11 n v0 v1 v2 v3 v4 v5 μ) v0 v1 v2 v3 v5 0 μ)) else if x50 = 5 then b1 (rc μ v0 12) (fun _ => b2 (S_M_isInside v0 v1 x41 v2 μ) (fun x110 m110 => B_M_meets_222 (fun v0 v1 v2 v3 v4 v5 μ => B_M_meets_11 n v0 v1 v2 v3 v4 v5 μ) v0 v1 v2 v3 x110 v5 m110)) else if x50 = 6 then b1 (rc μ v0 12) (fun _ => b2 (S_M_parentOf v0 v1 v2 μ) (fun x128 m128 => if x128 = ((-1)) then B_M_meets_155 (fun v0 v1 v2 v3 v4 v5 μ => B_M_meets_11 n v0 v1 v2 v3 v4 v5 μ) v0 v1 v2 v3 v5 m128 else b1 (rc m128 v0 12) (fun _ => b2 (S_M_parentOf v0 v1 v2 m128) (fun x141 m141 => b1 (rc m141 v0 12) (fun _ => b2 (S_M_isAbove v0 x41 x141 v2 m141) (fun x145 m145 => if x145 = 0 then B_M_meets_155 (fun v0 v1 v2 v3 v4 v5 μ => B_M_meets_11 n v0 v1 v2 v3 v4 v5 μ) v0 v1 v2 v3 v5 m145 else B_M_meets_156 (fun v0 v1 v2 v3 v4 v5 μ => B_M_meets_11 n v0 v1 v2 v3 v4 v5 μ) v0 v1 v2 v3 v5 1 m145)))))) else if x50 = 7 then b1 (gR μ v0 12 26) (fun x174 => b1 (aI μ x174 0 x33) (fun x179 => b1 (rc μ v0 12) (fun _ => b2 (S_M_square v0 v1 v2 x41 x179 μ) (fun x180 m180 => b1 (gR m180 v0 12 27) (fun x184 => b1 (aI m180 x184 0 x33) (fun x189 => b1 (gR m180 v0 12 27) (fun x191 => b1 (aI m180 x191 0 x33) (fun x196 => if (x189 * x196) < x180 then B_M_meets_206 (fun v0 v1 v2 v3 v4 v5 μ => B_M_meets_11 n v0 v1 v2 v3 v4 v5 μ) v0 v1 v2 v3 v5 0 m180 else B_M_meets_206 (fun v0 v1 v2 v3 v4 v5 μ => B_M_meets_11 n v0 v1 v2 v3 v4 v5 μ) v0 v1 v2 v3 v5 1 m180)))))))) else b1 (rc μ v0 12) (fun _ => b2 (S_M_isOnRoute v0 v1 v2 v3 x41 μ) (fun x217 m217 => B_M_meets_222 (fun v0 v1 v2 v3 v4 v5 μ => B_M_meets_11 n v0 v1 v2 v3 v4 v5 μ) v0 v1 v2 v3 x217 v5 m217)) else b1 (rc μ v0 12) (fun _ => b2 (S_M_hasName v0 v1 v2 x33 μ) (fun x64 m64 => B_M_meets_222 (fun v0 v1 v2 v3 v4 v5 μ => B_M_meets_11 n v0 v1 v2 v3 v4 v5 μ) v0 v1 v2 v3 x64 v5 m64)))))))))
set_option maxHeartbeats 4000000 in
set_option maxRecDepth 100000 in
theorem w_M_meets_11 {X : CX} (E : EV X prog_13_method_46_code 9 "PlaceFinderModel" (some .boolean)) {μ0 μ' : Mem} {r : Int32} (hQ : RQ X 0 0 μ0 (some (vI r)) μ') (hR : xR X = { frames := 4, cells := 0, slots := 0, locals := 113 }) (hI : X.2.2.2.2.2.2.2.2.2.2.2.1.name = "meets")  (n : Nat) : ∀ (v0 : Option Nat) (v1 : Int32) (v2 : Int32) (v3 : Int32) (v4 : Int32) (v5 : Int32) (μ : Mem) (h : B_M_meets_11  n v0 v1 v2 v3 v4 v5 μ = some (r, μ')), WM X 9 11 [(0, vR v0), (1, vI v1), (2, vI v2), (3, vI v3), (4, vI v4), (5, vI v5)] [] 0 0 μ := by
  induction n with
  | zero => intro v0 v1 v2 v3 v4 v5 μ h; cases h
  | succ n ih =>
    intro v0 v1 v2 v3 v4 v5 μ h
    have h : (b1 (gR μ v0 12 23) (fun x14 => b1 (aI μ x14 0 v3) (fun x18 => if x18 ≤ v5 then B_M_meets_228 v4 μ else if v4 = 0 then B_M_meets_228 v4 μ else b0 ((5 * v3) + v5) (fun x33 => b1 (gR μ v0 12 25) (fun x36 => b1 (aI μ x36 0 x33) (fun x41 => b1 (gR μ v0 12 24) (fun x45 => b1 (aI μ x45 0 x33) (fun x50 => if 4 ≤ x50 then if x50 = 4 then b1 (gR μ v0 12 2) (fun x79 => b1 (aI μ x79 0 v1) (fun x83 => if x83 = x41 then B_M_meets_94 (fun v0 v1 v2 v3 v4 v5 μ => B_M_meets_11 n v0 v1 v2 v3 v4 v5 μ) v0 v1 v2 v3 v5 1 μ else B_M_meets_94 (fun v0 v1 v2 v3 v4 v5 μ => B_M_meets_11 n v0 v1 v2 v3 v4 v5 μ) v0 v1 v2 v3 v5 0 μ)) else if x50 = 5 then b1 (rc μ v0 12) (fun _ => b2 (S_M_isInside v0 v1 x41 v2 μ) (fun x110 m110 => B_M_meets_222 (fun v0 v1 v2 v3 v4 v5 μ => B_M_meets_11 n v0 v1 v2 v3 v4 v5 μ) v0 v1 v2 v3 x110 v5 m110)) else if x50 = 6 then b1 (rc μ v0 12) (fun _ => b2 (S_M_parentOf v0 v1 v2 μ) (fun x128 m128 => if x128 = ((-1)) then B_M_meets_155 (fun v0 v1 v2 v3 v4 v5 μ => B_M_meets_11 n v0 v1 v2 v3 v4 v5 μ) v0 v1 v2 v3 v5 m128 else b1 (rc m128 v0 12) (fun _ => b2 (S_M_parentOf v0 v1 v2 m128) (fun x141 m141 => b1 (rc m141 v0 12) (fun _ => b2 (S_M_isAbove v0 x41 x141 v2 m141) (fun x145 m145 => if x145 = 0 then B_M_meets_155 (fun v0 v1 v2 v3 v4 v5 μ => B_M_meets_11 n v0 v1 v2 v3 v4 v5 μ) v0 v1 v2 v3 v5 m145 else B_M_meets_156 (fun v0 v1 v2 v3 v4 v5 μ => B_M_meets_11 n v0 v1 v2 v3 v4 v5 μ) v0 v1 v2 v3 v5 1 m145)))))) else if x50 = 7 then b1 (gR μ v0 12 26) (fun x174 => b1 (aI μ x174 0 x33) (fun x179 => b1 (rc μ v0 12) (fun _ => b2 (S_M_square v0 v1 v2 x41 x179 μ) (fun x180 m180 => b1 (gR m180 v0 12 27) (fun x184 => b1 (aI m180 x184 0 x33) (fun x189 => b1 (gR m180 v0 12 27) (fun x191 => b1 (aI m180 x191 0 x33) (fun x196 => if (x189 * x196) < x180 then B_M_meets_206 (fun v0 v1 v2 v3 v4 v5 μ => B_M_meets_11 n v0 v1 v2 v3 v4 v5 μ) v0 v1 v2 v3 v5 0 m180 else B_M_meets_206 (fun v0 v1 v2 v3 v4 v5 μ => B_M_meets_11 n v0 v1 v2 v3 v4 v5 μ) v0 v1 v2 v3 v5 1 m180)))))))) else b1 (rc μ v0 12) (fun _ => b2 (S_M_isOnRoute v0 v1 v2 v3 x41 μ) (fun x217 m217 => B_M_meets_222 (fun v0 v1 v2 v3 v4 v5 μ => B_M_meets_11 n v0 v1 v2 v3 v4 v5 μ) v0 v1 v2 v3 x217 v5 m217)) else b1 (rc μ v0 12) (fun _ => b2 (S_M_hasName v0 v1 v2 x33 μ) (fun x64 m64 => B_M_meets_222 (fun v0 v1 v2 v3 v4 v5 μ => B_M_meets_11 n v0 v1 v2 v3 v4 v5 μ) v0 v1 v2 v3 x64 v5 m64)))))))))) = some (r, μ') := h
    refine wm_iload E dM_meets_11 (j := 5) rfl ?_
    refine wm_aload_n E dM_meets_13 rfl (j := 0) rfl ?_
    refine wm_gR E fd_M_67 h dM_meets_14 (fun x14 h => ?_)
    refine wm_iload_n E dM_meets_17 rfl (j := 3) rfl ?_
    refine wm_iald (t := 0) E rfl h dM_meets_18 (fun x18 h => ?_)
    refine wm_icmp_ge (tgt := 228) E dM_meets_19 (by decide) (fun c19 => ?_) (fun c19 => ?_)
    · have h := (if_pos c19).symm.trans h
      refine wm_pick (lv' := [(4, vI v4)]) [4] rfl ?_
      exact w_M_meets_228 E hQ hR hI v4 μ h
    · have h := (if_neg c19).symm.trans h
      refine wm_iload E dM_meets_22 (j := 4) rfl ?_
      refine wm_if_eq (tgt := 228) E dM_meets_24 (by decide) (fun c24 => ?_) (fun c24 => ?_)
      · have h := (if_pos c24).symm.trans h
        refine wm_pick (lv' := [(4, vI v4)]) [4] rfl ?_
        exact w_M_meets_228 E hQ hR hI v4 μ h
      · have h := (if_neg c24).symm.trans h
        refine wm_iconst (x := 5) E dM_meets_27 (by decide) ?_
        refine wm_iload_n E dM_meets_28 rfl (j := 3) rfl ?_
        refine wm_imul E dM_meets_29 ?_
        refine wm_iload E dM_meets_30 (j := 5) rfl ?_
        refine wm_iadd E dM_meets_32 ?_
        refine wm_letI h (fun x33 h => ?_)
        refine wm_istore (lv' := [(6, vI x33), (0, vR v0), (1, vI v1), (2, vI v2), (3, vI v3), (4, vI v4), (5, vI v5)]) E dM_meets_33 (by decide) rfl ?_
        refine wm_aload_n E dM_meets_35 rfl (j := 1) rfl ?_
        refine wm_gR E fd_M_73 h dM_meets_36 (fun x36 h => ?_)
        refine wm_iload E dM_meets_39 (j := 0) rfl ?_
        refine wm_iald (t := 0) E rfl h dM_meets_41 (fun x41 h => ?_)
        refine wm_istore (lv' := [(7, vI x41), (6, vI x33), (0, vR v0), (1, vI v1), (2, vI v2), (3, vI v3), (4, vI v4), (5, vI v5)]) E dM_meets_42 (by decide) rfl ?_
        refine wm_aload_n E dM_meets_44 rfl (j := 2) rfl ?_
        refine wm_gR E fd_M_70 h dM_meets_45 (fun x45 h => ?_)
        refine wm_iload E dM_meets_48 (j := 1) rfl ?_
        refine wm_iald (t := 0) E rfl h dM_meets_50 (fun x50 h => ?_)
        refine wm_istore (lv' := [(8, vI x50), (7, vI x41), (6, vI x33), (0, vR v0), (1, vI v1), (2, vI v2), (3, vI v3), (4, vI v4), (5, vI v5)]) E dM_meets_51 (by decide) rfl ?_
        refine wm_iload E dM_meets_53 (j := 0) rfl ?_
        refine wm_iconst (x := 4) E dM_meets_55 (by decide) ?_
        refine wm_icmp_ge (tgt := 72) E dM_meets_56 (by decide) (fun c56 => ?_) (fun c56 => ?_)
        · have h := (if_pos c56).symm.trans h
          refine wm_iload E dM_meets_72 (j := 0) rfl ?_
          refine wm_iconst (x := 4) E dM_meets_74 (by decide) ?_
          refine wm_icmp_ne (tgt := 99) E dM_meets_75 (by decide) (fun c75 => ?_) (fun c75 => ?_)
          · have h := (if_neg c75).symm.trans h
            refine wm_iload E dM_meets_99 (j := 0) rfl ?_
            refine wm_iconst (x := 5) E dM_meets_101 (by decide) ?_
            refine wm_icmp_ne (tgt := 118) E dM_meets_102 (by decide) (fun c102 => ?_) (fun c102 => ?_)
            · have h := (if_neg c102).symm.trans h
              refine wm_iload E dM_meets_118 (j := 0) rfl ?_
              refine wm_bipush (x := 6) E dM_meets_120 (by decide) ?_
              refine wm_icmp_ne (tgt := 161) E dM_meets_122 (by decide) (fun c122 => ?_) (fun c122 => ?_)
              · have h := (if_neg c122).symm.trans h
                refine wm_iload E dM_meets_161 (j := 0) rfl ?_
                refine wm_bipush (x := 7) E dM_meets_163 (by decide) ?_
                refine wm_icmp_ne (tgt := 211) E dM_meets_165 (by decide) (fun c165 => ?_) (fun c165 => ?_)
                · have h := (if_neg c165).symm.trans h
                  refine wm_aload_n E dM_meets_211 rfl (j := 3) rfl ?_
                  refine wm_iload_n E dM_meets_212 rfl (j := 4) rfl ?_
                  refine wm_iload_n E dM_meets_213 rfl (j := 5) rfl ?_
                  refine wm_iload_n E dM_meets_214 rfl (j := 6) rfl ?_
                  refine wm_iload E dM_meets_215 (j := 1) rfl ?_
                  obtain ⟨u217, hr217, h⟩ := b1S h
                  obtain ⟨x217, m217, hc217, h⟩ := b2S h
                  refine wm_cV (ci := 12) (As := [vI v1, vI v2, vI v3, vI x41]) (st := []) E lk_M_274 rfl im_M_isOnRoute sl_M_isOnRoute hr217 (C_M_isOnRoute (xl X) X.1 v0 v1 v2 v3 x41 μ _ _ hc217) rfl rfl (by rw [hR]; decide) (by rw [hR]; decide) (Nat.le_of_ble_eq_true rfl) dM_meets_217 ?_
                  refine wm_istore (lv' := [(4, vI x217), (8, vI x50), (7, vI x41), (6, vI x33), (0, vR v0), (1, vI v1), (2, vI v2), (3, vI v3), (5, vI v5)]) E dM_meets_220 (by decide) rfl ?_
                  refine wm_pick (lv' := [(0, vR v0), (1, vI v1), (2, vI v2), (3, vI v3), (4, vI x217), (5, vI v5)]) [4, 5, 6, 7, 0, 8] rfl ?_
                  exact w_M_meets_222 E hQ hR hI (fun v0 v1 v2 v3 v4 v5 μ => B_M_meets_11 n v0 v1 v2 v3 v4 v5 μ) ih v0 v1 v2 v3 x217 v5 m217 h
                · have h := (if_pos c165).symm.trans h
                  refine wm_aload_n E dM_meets_168 rfl (j := 3) rfl ?_
                  refine wm_iload_n E dM_meets_169 rfl (j := 4) rfl ?_
                  refine wm_iload_n E dM_meets_170 rfl (j := 5) rfl ?_
                  refine wm_iload E dM_meets_171 (j := 1) rfl ?_
                  refine wm_aload_n E dM_meets_173 rfl (j := 3) rfl ?_
                  refine wm_gR E fd_M_76 h dM_meets_174 (fun x174 h => ?_)
                  refine wm_iload E dM_meets_177 (j := 2) rfl ?_
                  refine wm_iald (t := 0) E rfl h dM_meets_179 (fun x179 h => ?_)
                  obtain ⟨u180, hr180, h⟩ := b1S h
                  obtain ⟨x180, m180, hc180, h⟩ := b2S h
                  refine wm_cV (ci := 12) (As := [vI v1, vI v2, vI x41, vI x179]) (st := []) E lk_M_270 rfl im_M_square sl_M_square hr180 (C_M_square (xl X) X.1 v0 v1 v2 x41 x179 μ _ _ hc180) rfl rfl (by rw [hR]; decide) (by rw [hR]; decide) (Nat.le_of_ble_eq_true rfl) dM_meets_180 ?_
                  refine wm_aload_n E dM_meets_183 rfl (j := 3) rfl ?_
                  refine wm_gR E fd_M_79 h dM_meets_184 (fun x184 h => ?_)
                  refine wm_iload E dM_meets_187 (j := 2) rfl ?_
                  refine wm_iald (t := 0) E rfl h dM_meets_189 (fun x189 h => ?_)
                  refine wm_aload_n E dM_meets_190 rfl (j := 3) rfl ?_
                  refine wm_gR E fd_M_79 h dM_meets_191 (fun x191 h => ?_)
                  refine wm_iload E dM_meets_194 (j := 2) rfl ?_
                  refine wm_iald (t := 0) E rfl h dM_meets_196 (fun x196 h => ?_)
                  refine wm_imul E dM_meets_197 ?_
                  refine wm_icmp_gt (tgt := 205) E dM_meets_198 (by decide) (fun c198 => ?_) (fun c198 => ?_)
                  · have h := (if_pos c198).symm.trans h
                    refine wm_iconst (x := 0) E dM_meets_205 (by decide) ?_
                    refine wm_pick (lv' := [(0, vR v0), (1, vI v1), (2, vI v2), (3, vI v3), (5, vI v5)]) [3, 4, 5, 6, 8] rfl ?_
                    exact w_M_meets_206 E hQ hR hI (fun v0 v1 v2 v3 v4 v5 μ => B_M_meets_11 n v0 v1 v2 v3 v4 v5 μ) ih v0 v1 v2 v3 v5 0 m180 h
                  · have h := (if_neg c198).symm.trans h
                    refine wm_iconst (x := 1) E dM_meets_201 (by decide) ?_
                    refine wm_goto (tgt := 206) E dM_meets_202 (by decide) ?_
                    refine wm_pick (lv' := [(0, vR v0), (1, vI v1), (2, vI v2), (3, vI v3), (5, vI v5)]) [3, 4, 5, 6, 8] rfl ?_
                    exact w_M_meets_206 E hQ hR hI (fun v0 v1 v2 v3 v4 v5 μ => B_M_meets_11 n v0 v1 v2 v3 v4 v5 μ) ih v0 v1 v2 v3 v5 1 m180 h
              · have h := (if_pos c122).symm.trans h
                refine wm_aload_n E dM_meets_125 rfl (j := 3) rfl ?_
                refine wm_iload_n E dM_meets_126 rfl (j := 4) rfl ?_
                refine wm_iload_n E dM_meets_127 rfl (j := 5) rfl ?_
                obtain ⟨u128, hr128, h⟩ := b1S h
                obtain ⟨x128, m128, hc128, h⟩ := b2S h
                refine wm_cV (ci := 12) (As := [vI v1, vI v2]) (st := []) E lk_M_202 rfl im_M_parentOf sl_M_parentOf hr128 (C_M_parentOf (xl X) X.1 v0 v1 v2 μ _ _ hc128) rfl rfl (by rw [hR]; decide) (by rw [hR]; decide) (Nat.le_of_ble_eq_true rfl) dM_meets_128 ?_
                refine wm_iconst (x := -1) E dM_meets_131 (by decide) ?_
                refine wm_icmp_eq (tgt := 155) E dM_meets_132 (by decide) (fun c132 => ?_) (fun c132 => ?_)
                · have h := (if_pos c132).symm.trans h
                  refine wm_pick (lv' := [(0, vR v0), (1, vI v1), (2, vI v2), (3, vI v3), (5, vI v5)]) [3, 4, 5, 6, 8] rfl ?_
                  exact w_M_meets_155 E hQ hR hI (fun v0 v1 v2 v3 v4 v5 μ => B_M_meets_11 n v0 v1 v2 v3 v4 v5 μ) ih v0 v1 v2 v3 v5 m128 h
                · have h := (if_neg c132).symm.trans h
                  refine wm_aload_n E dM_meets_135 rfl (j := 3) rfl ?_
                  refine wm_iload E dM_meets_136 (j := 1) rfl ?_
                  refine wm_aload_n E dM_meets_138 rfl (j := 3) rfl ?_
                  refine wm_iload_n E dM_meets_139 rfl (j := 4) rfl ?_
                  refine wm_iload_n E dM_meets_140 rfl (j := 5) rfl ?_
                  obtain ⟨u141, hr141, h⟩ := b1S h
                  obtain ⟨x141, m141, hc141, h⟩ := b2S h
                  refine wm_cV (ci := 12) (As := [vI v1, vI v2]) (st := [vI x41, vR v0]) E lk_M_202 rfl im_M_parentOf sl_M_parentOf hr141 (C_M_parentOf (xl X) X.1 v0 v1 v2 m128 _ _ hc141) rfl rfl (by rw [hR]; decide) (by rw [hR]; decide) (Nat.le_of_ble_eq_true rfl) dM_meets_141 ?_
                  refine wm_iload_n E dM_meets_144 rfl (j := 5) rfl ?_
                  obtain ⟨u145, hr145, h⟩ := b1S h
                  obtain ⟨x145, m145, hc145, h⟩ := b2S h
                  refine wm_cV (ci := 12) (As := [vI x41, vI x141, vI v2]) (st := []) E lk_M_205 rfl im_M_isAbove sl_M_isAbove hr145 (C_M_isAbove (xl X) X.1 v0 x41 x141 v2 m141 _ _ hc145) rfl rfl (by rw [hR]; decide) (by rw [hR]; decide) (Nat.le_of_ble_eq_true rfl) dM_meets_145 ?_
                  refine wm_if_eq (tgt := 155) E dM_meets_148 (by decide) (fun c148 => ?_) (fun c148 => ?_)
                  · have h := (if_pos c148).symm.trans h
                    refine wm_pick (lv' := [(0, vR v0), (1, vI v1), (2, vI v2), (3, vI v3), (5, vI v5)]) [3, 4, 5, 6, 8] rfl ?_
                    exact w_M_meets_155 E hQ hR hI (fun v0 v1 v2 v3 v4 v5 μ => B_M_meets_11 n v0 v1 v2 v3 v4 v5 μ) ih v0 v1 v2 v3 v5 m145 h
                  · have h := (if_neg c148).symm.trans h
                    refine wm_iconst (x := 1) E dM_meets_151 (by decide) ?_
                    refine wm_goto (tgt := 156) E dM_meets_152 (by decide) ?_
                    refine wm_pick (lv' := [(0, vR v0), (1, vI v1), (2, vI v2), (3, vI v3), (5, vI v5)]) [3, 4, 5, 6, 8] rfl ?_
                    exact w_M_meets_156 E hQ hR hI (fun v0 v1 v2 v3 v4 v5 μ => B_M_meets_11 n v0 v1 v2 v3 v4 v5 μ) ih v0 v1 v2 v3 v5 1 m145 h
            · have h := (if_pos c102).symm.trans h
              refine wm_aload_n E dM_meets_105 rfl (j := 3) rfl ?_
              refine wm_iload_n E dM_meets_106 rfl (j := 4) rfl ?_
              refine wm_iload E dM_meets_107 (j := 1) rfl ?_
              refine wm_iload_n E dM_meets_109 rfl (j := 5) rfl ?_
              obtain ⟨u110, hr110, h⟩ := b1S h
              obtain ⟨x110, m110, hc110, h⟩ := b2S h
              refine wm_cV (ci := 12) (As := [vI v1, vI x41, vI v2]) (st := []) E lk_M_267 rfl im_M_isInside sl_M_isInside hr110 (C_M_isInside (xl X) X.1 v0 v1 x41 v2 μ _ _ hc110) rfl rfl (by rw [hR]; decide) (by rw [hR]; decide) (Nat.le_of_ble_eq_true rfl) dM_meets_110 ?_
              refine wm_istore (lv' := [(4, vI x110), (8, vI x50), (7, vI x41), (6, vI x33), (0, vR v0), (1, vI v1), (2, vI v2), (3, vI v3), (5, vI v5)]) E dM_meets_113 (by decide) rfl ?_
              refine wm_goto (tgt := 222) E dM_meets_115 (by decide) ?_
              refine wm_pick (lv' := [(0, vR v0), (1, vI v1), (2, vI v2), (3, vI v3), (4, vI x110), (5, vI v5)]) [4, 5, 6, 7, 0, 8] rfl ?_
              exact w_M_meets_222 E hQ hR hI (fun v0 v1 v2 v3 v4 v5 μ => B_M_meets_11 n v0 v1 v2 v3 v4 v5 μ) ih v0 v1 v2 v3 x110 v5 m110 h
          · have h := (if_pos c75).symm.trans h
            refine wm_aload_n E dM_meets_78 rfl (j := 3) rfl ?_
            refine wm_gR E fd_M_7 h dM_meets_79 (fun x79 h => ?_)
            refine wm_iload_n E dM_meets_82 rfl (j := 4) rfl ?_
            refine wm_iald (t := 0) E rfl h dM_meets_83 (fun x83 h => ?_)
            refine wm_iload E dM_meets_84 (j := 1) rfl ?_
            refine wm_icmp_ne (tgt := 93) E dM_meets_86 (by decide) (fun c86 => ?_) (fun c86 => ?_)
            · have h := (if_neg c86).symm.trans h
              refine wm_iconst (x := 0) E dM_meets_93 (by decide) ?_
              refine wm_pick (lv' := [(0, vR v0), (1, vI v1), (2, vI v2), (3, vI v3), (5, vI v5)]) [3, 4, 5, 6, 8] rfl ?_
              exact w_M_meets_94 E hQ hR hI (fun v0 v1 v2 v3 v4 v5 μ => B_M_meets_11 n v0 v1 v2 v3 v4 v5 μ) ih v0 v1 v2 v3 v5 0 μ h
            · have h := (if_pos c86).symm.trans h
              refine wm_iconst (x := 1) E dM_meets_89 (by decide) ?_
              refine wm_goto (tgt := 94) E dM_meets_90 (by decide) ?_
              refine wm_pick (lv' := [(0, vR v0), (1, vI v1), (2, vI v2), (3, vI v3), (5, vI v5)]) [3, 4, 5, 6, 8] rfl ?_
              exact w_M_meets_94 E hQ hR hI (fun v0 v1 v2 v3 v4 v5 μ => B_M_meets_11 n v0 v1 v2 v3 v4 v5 μ) ih v0 v1 v2 v3 v5 1 μ h
        · have h := (if_neg c56).symm.trans h
          refine wm_aload_n E dM_meets_59 rfl (j := 3) rfl ?_
          refine wm_iload_n E dM_meets_60 rfl (j := 4) rfl ?_
          refine wm_iload_n E dM_meets_61 rfl (j := 5) rfl ?_
          refine wm_iload E dM_meets_62 (j := 2) rfl ?_
          obtain ⟨u64, hr64, h⟩ := b1S h
          obtain ⟨x64, m64, hc64, h⟩ := b2S h
          refine wm_cV (ci := 12) (As := [vI v1, vI v2, vI x33]) (st := []) E lk_M_264 rfl im_M_hasName sl_M_hasName hr64 (C_M_hasName (xl X) X.1 v0 v1 v2 x33 μ _ _ hc64) rfl rfl (by rw [hR]; decide) (by rw [hR]; decide) (Nat.le_of_ble_eq_true rfl) dM_meets_64 ?_
          refine wm_istore (lv' := [(4, vI x64), (8, vI x50), (7, vI x41), (6, vI x33), (0, vR v0), (1, vI v1), (2, vI v2), (3, vI v3), (5, vI v5)]) E dM_meets_67 (by decide) rfl ?_
          refine wm_goto (tgt := 222) E dM_meets_69 (by decide) ?_
          refine wm_pick (lv' := [(0, vR v0), (1, vI v1), (2, vI v2), (3, vI v3), (4, vI x64), (5, vI v5)]) [4, 5, 6, 7, 0, 8] rfl ?_
          exact w_M_meets_222 E hQ hR hI (fun v0 v1 v2 v3 v4 v5 μ => B_M_meets_11 n v0 v1 v2 v3 v4 v5 μ) ih v0 v1 v2 v3 x64 v5 m64 h
def S_M_meets (v0 : Option Nat) (v1 : Int32) (v2 : Int32) (v3 : Int32) (μ : Mem) : Option (Int32 × Mem) := b1 (rc μ v0 12) (fun _ => b2 (S_M_isThere v0 v1 v2 μ) (fun x3 m3 => B_M_meets_11 fu v0 v1 v2 v3 x3 0 m3))
set_option maxHeartbeats 4000000 in
set_option maxRecDepth 100000 in
theorem C_M_meets (l : Launch) (G : GG) (v0 : Option Nat) (v1 : Int32) (v2 : Int32) (v3 : Int32) (μ μ' : Mem) (r : Int32) (h : S_M_meets v0 v1 v2 v3 μ = some (r, μ')) : CT l G y_M_meets prog_13_method_46_code 9 (some .boolean) 4 0 0 113 μ [vR v0, vI v1, vI v2, vI v3] (some (vI r)) μ' := by
  refine wm_met (lv := [(0, vR v0), (1, vI v1), (2, vI v2), (3, vI v3)]) (by decide +kernel) (Nat.le_of_ble_eq_true rfl) rfl (fun X E hQ hR hI => ?_)
  have h : (b1 (rc μ v0 12) (fun _ => b2 (S_M_isThere v0 v1 v2 μ) (fun x3 m3 => B_M_meets_11 fu v0 v1 v2 v3 x3 0 m3))) = some (r, μ') := h
  refine wm_aload_n E dM_meets_0 rfl (j := 0) rfl ?_
  refine wm_iload_n E dM_meets_1 rfl (j := 1) rfl ?_
  refine wm_iload_n E dM_meets_2 rfl (j := 2) rfl ?_
  obtain ⟨u3, hr3, h⟩ := b1S h
  obtain ⟨x3, m3, hc3, h⟩ := b2S h
  refine wm_cV (ci := 12) (As := [vI v1, vI v2]) (st := []) E lk_M_261 rfl im_M_isThere sl_M_isThere hr3 (C_M_isThere (xl X) X.1 v0 v1 v2 μ _ _ hc3) rfl rfl (by rw [hR]; decide) (by rw [hR]; decide) (Nat.le_of_ble_eq_true rfl) dM_meets_3 ?_
  refine wm_istore (lv' := [(4, vI x3), (0, vR v0), (1, vI v1), (2, vI v2), (3, vI v3)]) E dM_meets_6 (by decide) rfl ?_
  refine wm_iconst (x := 0) E dM_meets_8 (by decide) ?_
  refine wm_istore (lv' := [(5, vI 0), (4, vI x3), (0, vR v0), (1, vI v1), (2, vI v2), (3, vI v3)]) E dM_meets_9 (by decide) rfl ?_
  refine wm_pick (lv' := [(0, vR v0), (1, vI v1), (2, vI v2), (3, vI v3), (4, vI x3), (5, vI 0)]) [2, 3, 4, 5, 1, 0] rfl ?_
  exact w_M_meets_11 E hQ hR hI fu v0 v1 v2 v3 x3 0 m3 h
def B_M_compareWords_73  (v0 : Option Nat) (v1 : Int32) (v2 : Int32) (μ : Mem) : Option (Int32 × Mem) := b1 (gR μ v0 12 12) (fun x74 => b1 (aI μ x74 0 v1) (fun x78 => b1 (gR μ v0 12 12) (fun x80 => b1 (aI μ x80 0 v2) (fun x84 => some (x78 - x84, μ)))))
set_option maxHeartbeats 4000000 in
set_option maxRecDepth 100000 in
theorem w_M_compareWords_73 {X : CX} (E : EV X prog_13_method_47_code 4 "PlaceFinderModel" (some .int)) {μ0 μ' : Mem} {r : Int32} (hQ : RQ X 0 0 μ0 (some (vI r)) μ') (hR : xR X = { frames := 0, cells := 0, slots := 0, locals := 0 }) (hI : X.2.2.2.2.2.2.2.2.2.2.2.1.name = "compareWords")  (v0 : Option Nat) (v1 : Int32) (v2 : Int32) (μ : Mem) (h : B_M_compareWords_73  v0 v1 v2 μ = some (r, μ')) : WM X 4 73 [(0, vR v0), (1, vI v1), (2, vI v2)] [] 0 0 μ := by
  have h : (b1 (gR μ v0 12 12) (fun x74 => b1 (aI μ x74 0 v1) (fun x78 => b1 (gR μ v0 12 12) (fun x80 => b1 (aI μ x80 0 v2) (fun x84 => some (x78 - x84, μ)))))) = some (r, μ') := h
  refine wm_aload_n E dM_compareWords_73 rfl (j := 0) rfl ?_
  refine wm_gR E fd_M_40 h dM_compareWords_74 (fun x74 h => ?_)
  refine wm_iload_n E dM_compareWords_77 rfl (j := 1) rfl ?_
  refine wm_iald (t := 0) E rfl h dM_compareWords_78 (fun x78 h => ?_)
  refine wm_aload_n E dM_compareWords_79 rfl (j := 0) rfl ?_
  refine wm_gR E fd_M_40 h dM_compareWords_80 (fun x80 h => ?_)
  refine wm_iload_n E dM_compareWords_83 rfl (j := 2) rfl ?_
  refine wm_iald (t := 0) E rfl h dM_compareWords_84 (fun x84 h => ?_)
  refine wm_isub E dM_compareWords_85 ?_
  exact wm_iret (rt := .int) E hQ (rtI h) (rtM h) (by decide) (by decide) dM_compareWords_86
def B_M_compareWords_53  (v0 : Option Nat) (v1 : Int32) (v2 : Int32) (v3 : Int32) (μ : Mem) : Option (Int32 × Mem) := b1 (gR μ v0 12 12) (fun x55 => b1 (aI μ x55 0 v1) (fun x59 => if v3 = x59 then B_M_compareWords_73 v0 v1 v2 μ else b1 (gR μ v0 12 12) (fun x65 => b1 (aI μ x65 0 v2) (fun x69 => if v3 = x69 then B_M_compareWords_73 v0 v1 v2 μ else b1 (gR μ v0 12 13) (fun x88 => b1 (aI μ x88 0 ((10 * v1) + v3)) (fun x97 => b1 (gR μ v0 12 13) (fun x99 => b1 (aI μ x99 0 ((10 * v2) + v3)) (fun x108 => some (x97 - x108, μ)))))))))
set_option maxHeartbeats 4000000 in
set_option maxRecDepth 100000 in
theorem w_M_compareWords_53 {X : CX} (E : EV X prog_13_method_47_code 4 "PlaceFinderModel" (some .int)) {μ0 μ' : Mem} {r : Int32} (hQ : RQ X 0 0 μ0 (some (vI r)) μ') (hR : xR X = { frames := 0, cells := 0, slots := 0, locals := 0 }) (hI : X.2.2.2.2.2.2.2.2.2.2.2.1.name = "compareWords")  (v0 : Option Nat) (v1 : Int32) (v2 : Int32) (v3 : Int32) (μ : Mem) (h : B_M_compareWords_53  v0 v1 v2 v3 μ = some (r, μ')) : WM X 4 53 [(0, vR v0), (1, vI v1), (2, vI v2), (3, vI v3)] [] 0 0 μ := by
  have h : (b1 (gR μ v0 12 12) (fun x55 => b1 (aI μ x55 0 v1) (fun x59 => if v3 = x59 then B_M_compareWords_73 v0 v1 v2 μ else b1 (gR μ v0 12 12) (fun x65 => b1 (aI μ x65 0 v2) (fun x69 => if v3 = x69 then B_M_compareWords_73 v0 v1 v2 μ else b1 (gR μ v0 12 13) (fun x88 => b1 (aI μ x88 0 ((10 * v1) + v3)) (fun x97 => b1 (gR μ v0 12 13) (fun x99 => b1 (aI μ x99 0 ((10 * v2) + v3)) (fun x108 => some (x97 - x108, μ)))))))))) = some (r, μ') := h
  refine wm_iload_n E dM_compareWords_53 rfl (j := 3) rfl ?_
  refine wm_aload_n E dM_compareWords_54 rfl (j := 0) rfl ?_
  refine wm_gR E fd_M_40 h dM_compareWords_55 (fun x55 h => ?_)
  refine wm_iload_n E dM_compareWords_58 rfl (j := 1) rfl ?_
  refine wm_iald (t := 0) E rfl h dM_compareWords_59 (fun x59 h => ?_)
  refine wm_icmp_eq (tgt := 73) E dM_compareWords_60 (by decide) (fun c60 => ?_) (fun c60 => ?_)
  · have h := (if_pos c60).symm.trans h
    refine wm_pick (lv' := [(0, vR v0), (1, vI v1), (2, vI v2)]) [0, 1, 2] rfl ?_
    exact w_M_compareWords_73 E hQ hR hI v0 v1 v2 μ h
  · have h := (if_neg c60).symm.trans h
    refine wm_iload_n E dM_compareWords_63 rfl (j := 3) rfl ?_
    refine wm_aload_n E dM_compareWords_64 rfl (j := 0) rfl ?_
    refine wm_gR E fd_M_40 h dM_compareWords_65 (fun x65 h => ?_)
    refine wm_iload_n E dM_compareWords_68 rfl (j := 2) rfl ?_
    refine wm_iald (t := 0) E rfl h dM_compareWords_69 (fun x69 h => ?_)
    refine wm_icmp_ne (tgt := 87) E dM_compareWords_70 (by decide) (fun c70 => ?_) (fun c70 => ?_)
    · have h := (if_neg c70).symm.trans h
      refine wm_aload_n E dM_compareWords_87 rfl (j := 0) rfl ?_
      refine wm_gR E fd_M_43 h dM_compareWords_88 (fun x88 h => ?_)
      refine wm_bipush (x := 10) E dM_compareWords_91 (by decide) ?_
      refine wm_iload_n E dM_compareWords_93 rfl (j := 1) rfl ?_
      refine wm_imul E dM_compareWords_94 ?_
      refine wm_iload_n E dM_compareWords_95 rfl (j := 3) rfl ?_
      refine wm_iadd E dM_compareWords_96 ?_
      refine wm_iald (t := 0) E rfl h dM_compareWords_97 (fun x97 h => ?_)
      refine wm_aload_n E dM_compareWords_98 rfl (j := 0) rfl ?_
      refine wm_gR E fd_M_43 h dM_compareWords_99 (fun x99 h => ?_)
      refine wm_bipush (x := 10) E dM_compareWords_102 (by decide) ?_
      refine wm_iload_n E dM_compareWords_104 rfl (j := 2) rfl ?_
      refine wm_imul E dM_compareWords_105 ?_
      refine wm_iload_n E dM_compareWords_106 rfl (j := 3) rfl ?_
      refine wm_iadd E dM_compareWords_107 ?_
      refine wm_iald (t := 0) E rfl h dM_compareWords_108 (fun x108 h => ?_)
      refine wm_isub E dM_compareWords_109 ?_
      exact wm_iret (rt := .int) E hQ (rtI h) (rtM h) (by decide) (by decide) dM_compareWords_110
    · have h := (if_pos c70).symm.trans h
      refine wm_pick (lv' := [(0, vR v0), (1, vI v1), (2, vI v2)]) [0, 1, 2] rfl ?_
      exact w_M_compareWords_73 E hQ hR hI v0 v1 v2 μ h
def B_M_compareWords_2  : Nat → Option Nat → Int32 → Int32 → Int32 → Mem → Option (Int32 × Mem)
  | 0, _, _, _, _, _ => none
  | n + 1, v0, v1, v2, v3, μ => b1 (gR μ v0 12 12) (fun x4 => b1 (aI μ x4 0 v1) (fun x8 => if x8 ≤ v3 then B_M_compareWords_53 v0 v1 v2 v3 μ else b1 (gR μ v0 12 12) (fun x14 => b1 (aI μ x14 0 v2) (fun x18 => if x18 ≤ v3 then B_M_compareWords_53 v0 v1 v2 v3 μ else b1 (gR μ v0 12 13) (fun x23 => b1 (aI μ x23 0 ((10 * v1) + v3)) (fun x32 => b1 (gR μ v0 12 13) (fun x34 => b1 (aI μ x34 0 ((10 * v2) + v3)) (fun x43 => if x32 = x43 then (fun v0 v1 v2 v3 μ => B_M_compareWords_2 n v0 v1 v2 v3 μ) v0 v1 v2 (v3 + 1) μ else B_M_compareWords_53 v0 v1 v2 v3 μ))))))))
set_option maxHeartbeats 4000000 in
set_option maxRecDepth 100000 in
theorem w_M_compareWords_2 {X : CX} (E : EV X prog_13_method_47_code 4 "PlaceFinderModel" (some .int)) {μ0 μ' : Mem} {r : Int32} (hQ : RQ X 0 0 μ0 (some (vI r)) μ') (hR : xR X = { frames := 0, cells := 0, slots := 0, locals := 0 }) (hI : X.2.2.2.2.2.2.2.2.2.2.2.1.name = "compareWords")  (n : Nat) : ∀ (v0 : Option Nat) (v1 : Int32) (v2 : Int32) (v3 : Int32) (μ : Mem) (h : B_M_compareWords_2  n v0 v1 v2 v3 μ = some (r, μ')), WM X 4 2 [(0, vR v0), (1, vI v1), (2, vI v2), (3, vI v3)] [] 0 0 μ := by
  induction n with
  | zero => intro v0 v1 v2 v3 μ h; cases h
  | succ n ih =>
    intro v0 v1 v2 v3 μ h
    have h : (b1 (gR μ v0 12 12) (fun x4 => b1 (aI μ x4 0 v1) (fun x8 => if x8 ≤ v3 then B_M_compareWords_53 v0 v1 v2 v3 μ else b1 (gR μ v0 12 12) (fun x14 => b1 (aI μ x14 0 v2) (fun x18 => if x18 ≤ v3 then B_M_compareWords_53 v0 v1 v2 v3 μ else b1 (gR μ v0 12 13) (fun x23 => b1 (aI μ x23 0 ((10 * v1) + v3)) (fun x32 => b1 (gR μ v0 12 13) (fun x34 => b1 (aI μ x34 0 ((10 * v2) + v3)) (fun x43 => if x32 = x43 then (fun v0 v1 v2 v3 μ => B_M_compareWords_2 n v0 v1 v2 v3 μ) v0 v1 v2 (v3 + 1) μ else B_M_compareWords_53 v0 v1 v2 v3 μ))))))))) = some (r, μ') := h
    refine wm_iload_n E dM_compareWords_2 rfl (j := 3) rfl ?_
    refine wm_aload_n E dM_compareWords_3 rfl (j := 0) rfl ?_
    refine wm_gR E fd_M_40 h dM_compareWords_4 (fun x4 h => ?_)
    refine wm_iload_n E dM_compareWords_7 rfl (j := 1) rfl ?_
    refine wm_iald (t := 0) E rfl h dM_compareWords_8 (fun x8 h => ?_)
    refine wm_icmp_ge (tgt := 53) E dM_compareWords_9 (by decide) (fun c9 => ?_) (fun c9 => ?_)
    · have h := (if_pos c9).symm.trans h
      refine wm_pick (lv' := [(0, vR v0), (1, vI v1), (2, vI v2), (3, vI v3)]) [0, 1, 2, 3] rfl ?_
      exact w_M_compareWords_53 E hQ hR hI v0 v1 v2 v3 μ h
    · have h := (if_neg c9).symm.trans h
      refine wm_iload_n E dM_compareWords_12 rfl (j := 3) rfl ?_
      refine wm_aload_n E dM_compareWords_13 rfl (j := 0) rfl ?_
      refine wm_gR E fd_M_40 h dM_compareWords_14 (fun x14 h => ?_)
      refine wm_iload_n E dM_compareWords_17 rfl (j := 2) rfl ?_
      refine wm_iald (t := 0) E rfl h dM_compareWords_18 (fun x18 h => ?_)
      refine wm_icmp_ge (tgt := 53) E dM_compareWords_19 (by decide) (fun c19 => ?_) (fun c19 => ?_)
      · have h := (if_pos c19).symm.trans h
        refine wm_pick (lv' := [(0, vR v0), (1, vI v1), (2, vI v2), (3, vI v3)]) [0, 1, 2, 3] rfl ?_
        exact w_M_compareWords_53 E hQ hR hI v0 v1 v2 v3 μ h
      · have h := (if_neg c19).symm.trans h
        refine wm_aload_n E dM_compareWords_22 rfl (j := 0) rfl ?_
        refine wm_gR E fd_M_43 h dM_compareWords_23 (fun x23 h => ?_)
        refine wm_bipush (x := 10) E dM_compareWords_26 (by decide) ?_
        refine wm_iload_n E dM_compareWords_28 rfl (j := 1) rfl ?_
        refine wm_imul E dM_compareWords_29 ?_
        refine wm_iload_n E dM_compareWords_30 rfl (j := 3) rfl ?_
        refine wm_iadd E dM_compareWords_31 ?_
        refine wm_iald (t := 0) E rfl h dM_compareWords_32 (fun x32 h => ?_)
        refine wm_aload_n E dM_compareWords_33 rfl (j := 0) rfl ?_
        refine wm_gR E fd_M_43 h dM_compareWords_34 (fun x34 h => ?_)
        refine wm_bipush (x := 10) E dM_compareWords_37 (by decide) ?_
        refine wm_iload_n E dM_compareWords_39 rfl (j := 2) rfl ?_
        refine wm_imul E dM_compareWords_40 ?_
        refine wm_iload_n E dM_compareWords_41 rfl (j := 3) rfl ?_
        refine wm_iadd E dM_compareWords_42 ?_
        refine wm_iald (t := 0) E rfl h dM_compareWords_43 (fun x43 h => ?_)
        refine wm_icmp_ne (tgt := 53) E dM_compareWords_44 (by decide) (fun c44 => ?_) (fun c44 => ?_)
        · have h := (if_neg c44).symm.trans h
          refine wm_pick (lv' := [(0, vR v0), (1, vI v1), (2, vI v2), (3, vI v3)]) [0, 1, 2, 3] rfl ?_
          exact w_M_compareWords_53 E hQ hR hI v0 v1 v2 v3 μ h
        · have h := (if_pos c44).symm.trans h
          refine wm_iinc (lv' := [(3, vI (v3 + 1)), (0, vR v0), (1, vI v1), (2, vI v2)]) (d := 1) E dM_compareWords_47 (by decide) (j := 3) rfl (by decide) rfl ?_
          refine wm_goto (tgt := 2) E dM_compareWords_50 (by decide) ?_
          refine wm_pick (lv' := [(0, vR v0), (1, vI v1), (2, vI v2), (3, vI (v3 + 1))]) [1, 2, 3, 0] rfl ?_
          exact ih v0 v1 v2 (v3 + 1) μ h
def S_M_compareWords (v0 : Option Nat) (v1 : Int32) (v2 : Int32) (μ : Mem) : Option (Int32 × Mem) := B_M_compareWords_2 fu v0 v1 v2 0 μ
set_option maxHeartbeats 4000000 in
set_option maxRecDepth 100000 in
theorem C_M_compareWords (l : Launch) (G : GG) (v0 : Option Nat) (v1 : Int32) (v2 : Int32) (μ μ' : Mem) (r : Int32) (h : S_M_compareWords v0 v1 v2 μ = some (r, μ')) : CT l G y_M_compareWords prog_13_method_47_code 4 (some .int) 0 0 0 0 μ [vR v0, vI v1, vI v2] (some (vI r)) μ' := by
  refine wm_met (lv := [(0, vR v0), (1, vI v1), (2, vI v2)]) (by decide +kernel) (Nat.le_of_ble_eq_true rfl) rfl (fun X E hQ hR hI => ?_)
  have h : (B_M_compareWords_2 fu v0 v1 v2 0 μ) = some (r, μ') := h
  refine wm_iconst (x := 0) E dM_compareWords_0 (by decide) ?_
  refine wm_istore_n (lv' := [(3, vI 0), (0, vR v0), (1, vI v1), (2, vI v2)]) E dM_compareWords_1 rfl (by decide) rfl ?_
  refine wm_pick (lv' := [(0, vR v0), (1, vI v1), (2, vI v2), (3, vI 0)]) [1, 2, 3, 0] rfl ?_
  exact w_M_compareWords_2 E hQ hR hI fu v0 v1 v2 0 μ h
def B_M_firstCondition_38 (k12 : Option Nat → Int32 → Int32 → Int32 → Int32 → Mem → Option (Int32 × Mem)) (v0 : Option Nat) (v1 : Int32) (v2 : Int32) (v4 : Int32) (s0 : Int32) (μ : Mem) : Option (Int32 × Mem) := k12 v0 v1 v2 s0 (v4 + (-1)) μ
set_option maxHeartbeats 4000000 in
set_option maxRecDepth 100000 in
theorem w_M_firstCondition_38 {X : CX} (E : EV X prog_13_method_48_code 5 "PlaceFinderModel" (some .int)) {μ0 μ' : Mem} {r : Int32} (hQ : RQ X 0 0 μ0 (some (vI r)) μ') (hR : xR X = { frames := 1, cells := 0, slots := 0, locals := 22 }) (hI : X.2.2.2.2.2.2.2.2.2.2.2.1.name = "firstCondition") (k12 : Option Nat → Int32 → Int32 → Int32 → Int32 → Mem → Option (Int32 × Mem)) (hk12 : ∀ (v0 : Option Nat) (v1 : Int32) (v2 : Int32) (v3 : Int32) (v4 : Int32) (μ : Mem), k12 v0 v1 v2 v3 v4 μ = some (r, μ') → WM X 5 12 [(0, vR v0), (1, vI v1), (2, vI v2), (3, vI v3), (4, vI v4)] [] 0 0 μ) (v0 : Option Nat) (v1 : Int32) (v2 : Int32) (v4 : Int32) (s0 : Int32) (μ : Mem) (h : B_M_firstCondition_38 k12 v0 v1 v2 v4 s0 μ = some (r, μ')) : WM X 5 38 [(0, vR v0), (1, vI v1), (2, vI v2), (4, vI v4)] [vI s0] 0 0 μ := by
  have h : (k12 v0 v1 v2 s0 (v4 + (-1)) μ) = some (r, μ') := h
  refine wm_istore_n (lv' := [(3, vI s0), (0, vR v0), (1, vI v1), (2, vI v2), (4, vI v4)]) E dM_firstCondition_38 rfl (by decide) rfl ?_
  refine wm_iinc (lv' := [(4, vI (v4 + (-1))), (3, vI s0), (0, vR v0), (1, vI v1), (2, vI v2)]) (d := (-1)) E dM_firstCondition_39 (by decide) (j := 4) rfl (by decide) rfl ?_
  refine wm_goto (tgt := 12) E dM_firstCondition_42 (by decide) ?_
  refine wm_pick (lv' := [(0, vR v0), (1, vI v1), (2, vI v2), (3, vI s0), (4, vI (v4 + (-1)))]) [2, 3, 4, 1, 0] rfl ?_
  exact hk12 v0 v1 v2 s0 (v4 + (-1)) μ h
def B_M_firstCondition_12  : Nat → Option Nat → Int32 → Int32 → Int32 → Int32 → Mem → Option (Int32 × Mem)
  | 0, _, _, _, _, _, _ => none
  | n + 1, v0, v1, v2, v3, v4, μ => if v4 < 0 then some (v3, μ) else b1 (gR μ v0 12 24) (fun x18 => b1 (aI μ x18 0 v4) (fun x23 => b2 (S_M_in x23 v1 v2 μ) (fun x26 m26 => if x26 = 0 then B_M_firstCondition_38 (fun v0 v1 v2 v3 v4 μ => B_M_firstCondition_12 n v0 v1 v2 v3 v4 μ) v0 v1 v2 v4 v3 m26 else B_M_firstCondition_38 (fun v0 v1 v2 v3 v4 μ => B_M_firstCondition_12 n v0 v1 v2 v3 v4 μ) v0 v1 v2 v4 v4 m26)))
set_option maxHeartbeats 4000000 in
set_option maxRecDepth 100000 in
theorem w_M_firstCondition_12 {X : CX} (E : EV X prog_13_method_48_code 5 "PlaceFinderModel" (some .int)) {μ0 μ' : Mem} {r : Int32} (hQ : RQ X 0 0 μ0 (some (vI r)) μ') (hR : xR X = { frames := 1, cells := 0, slots := 0, locals := 22 }) (hI : X.2.2.2.2.2.2.2.2.2.2.2.1.name = "firstCondition")  (n : Nat) : ∀ (v0 : Option Nat) (v1 : Int32) (v2 : Int32) (v3 : Int32) (v4 : Int32) (μ : Mem) (h : B_M_firstCondition_12  n v0 v1 v2 v3 v4 μ = some (r, μ')), WM X 5 12 [(0, vR v0), (1, vI v1), (2, vI v2), (3, vI v3), (4, vI v4)] [] 0 0 μ := by
  induction n with
  | zero => intro v0 v1 v2 v3 v4 μ h; cases h
  | succ n ih =>
    intro v0 v1 v2 v3 v4 μ h
    have h : (if v4 < 0 then some (v3, μ) else b1 (gR μ v0 12 24) (fun x18 => b1 (aI μ x18 0 v4) (fun x23 => b2 (S_M_in x23 v1 v2 μ) (fun x26 m26 => if x26 = 0 then B_M_firstCondition_38 (fun v0 v1 v2 v3 v4 μ => B_M_firstCondition_12 n v0 v1 v2 v3 v4 μ) v0 v1 v2 v4 v3 m26 else B_M_firstCondition_38 (fun v0 v1 v2 v3 v4 μ => B_M_firstCondition_12 n v0 v1 v2 v3 v4 μ) v0 v1 v2 v4 v4 m26)))) = some (r, μ') := h
    refine wm_iload E dM_firstCondition_12 (j := 4) rfl ?_
    refine wm_if_lt (tgt := 45) E dM_firstCondition_14 (by decide) (fun c14 => ?_) (fun c14 => ?_)
    · have h := (if_pos c14).symm.trans h
      refine wm_iload_n E dM_firstCondition_45 rfl (j := 3) rfl ?_
      exact wm_iret (rt := .int) E hQ (rtI h) (rtM h) (by decide) (by decide) dM_firstCondition_46
    · have h := (if_neg c14).symm.trans h
      refine wm_aload_n E dM_firstCondition_17 rfl (j := 0) rfl ?_
      refine wm_gR E fd_M_70 h dM_firstCondition_18 (fun x18 h => ?_)
      refine wm_iload E dM_firstCondition_21 (j := 4) rfl ?_
      refine wm_iald (t := 0) E rfl h dM_firstCondition_23 (fun x23 h => ?_)
      refine wm_iload_n E dM_firstCondition_24 rfl (j := 1) rfl ?_
      refine wm_iload_n E dM_firstCondition_25 rfl (j := 2) rfl ?_
      obtain ⟨x26, m26, hc26, h⟩ := b2S h
      refine wm_cS (As := [vI x23, vI v1, vI v2]) (st := []) E lk_M_139 sc_M_in (C_M_in (xl X) X.1 x23 v1 v2 μ _ _ hc26) rfl rfl (by rw [hR]; decide) (by rw [hR]; decide) (Nat.le_of_ble_eq_true rfl) dM_firstCondition_26 ?_
      refine wm_if_eq (tgt := 37) E dM_firstCondition_29 (by decide) (fun c29 => ?_) (fun c29 => ?_)
      · have h := (if_pos c29).symm.trans h
        refine wm_iload_n E dM_firstCondition_37 rfl (j := 3) rfl ?_
        refine wm_pick (lv' := [(0, vR v0), (1, vI v1), (2, vI v2), (4, vI v4)]) [0, 1, 2, 4] rfl ?_
        exact w_M_firstCondition_38 E hQ hR hI (fun v0 v1 v2 v3 v4 μ => B_M_firstCondition_12 n v0 v1 v2 v3 v4 μ) ih v0 v1 v2 v4 v3 m26 h
      · have h := (if_neg c29).symm.trans h
        refine wm_iload E dM_firstCondition_32 (j := 4) rfl ?_
        refine wm_goto (tgt := 38) E dM_firstCondition_34 (by decide) ?_
        refine wm_pick (lv' := [(0, vR v0), (1, vI v1), (2, vI v2), (4, vI v4)]) [0, 1, 2, 4] rfl ?_
        exact w_M_firstCondition_38 E hQ hR hI (fun v0 v1 v2 v3 v4 μ => B_M_firstCondition_12 n v0 v1 v2 v3 v4 μ) ih v0 v1 v2 v4 v4 m26 h
def S_M_firstCondition (v0 : Option Nat) (v1 : Int32) (v2 : Int32) (μ : Mem) : Option (Int32 × Mem) := b0 ((-1)) (fun x1 => b1 (gR μ v0 12 23) (fun x3 => b1 (aI μ x3 0 0) (fun x7 => b0 (x7 - 1) (fun x10 => B_M_firstCondition_12 fu v0 v1 v2 x1 x10 μ))))
set_option maxHeartbeats 4000000 in
set_option maxRecDepth 100000 in
theorem C_M_firstCondition (l : Launch) (G : GG) (v0 : Option Nat) (v1 : Int32) (v2 : Int32) (μ μ' : Mem) (r : Int32) (h : S_M_firstCondition v0 v1 v2 μ = some (r, μ')) : CT l G y_M_firstCondition prog_13_method_48_code 5 (some .int) 1 0 0 22 μ [vR v0, vI v1, vI v2] (some (vI r)) μ' := by
  refine wm_met (lv := [(0, vR v0), (1, vI v1), (2, vI v2)]) (by decide +kernel) (Nat.le_of_ble_eq_true rfl) rfl (fun X E hQ hR hI => ?_)
  have h : (b0 ((-1)) (fun x1 => b1 (gR μ v0 12 23) (fun x3 => b1 (aI μ x3 0 0) (fun x7 => b0 (x7 - 1) (fun x10 => B_M_firstCondition_12 fu v0 v1 v2 x1 x10 μ))))) = some (r, μ') := h
  refine wm_iconst (x := -1) E dM_firstCondition_0 (by decide) ?_
  refine wm_letI h (fun x1 h => ?_)
  refine wm_istore_n (lv' := [(3, vI x1), (0, vR v0), (1, vI v1), (2, vI v2)]) E dM_firstCondition_1 rfl (by decide) rfl ?_
  refine wm_aload_n E dM_firstCondition_2 rfl (j := 1) rfl ?_
  refine wm_gR E fd_M_67 h dM_firstCondition_3 (fun x3 h => ?_)
  refine wm_iconst (x := 0) E dM_firstCondition_6 (by decide) ?_
  refine wm_iald (t := 0) E rfl h dM_firstCondition_7 (fun x7 h => ?_)
  refine wm_iconst (x := 1) E dM_firstCondition_8 (by decide) ?_
  refine wm_isub E dM_firstCondition_9 ?_
  refine wm_letI h (fun x10 h => ?_)
  refine wm_istore (lv' := [(4, vI x10), (3, vI x1), (0, vR v0), (1, vI v1), (2, vI v2)]) E dM_firstCondition_10 (by decide) rfl ?_
  refine wm_pick (lv' := [(0, vR v0), (1, vI v1), (2, vI v2), (3, vI x1), (4, vI x10)]) [2, 3, 4, 1, 0] rfl ?_
  exact w_M_firstCondition_12 E hQ hR hI fu v0 v1 v2 x1 x10 μ h
def B_M_makeKeys_221   (μ : Mem) : Option (Unit × Mem) := some ((), μ)
set_option maxHeartbeats 4000000 in
set_option maxRecDepth 100000 in
theorem w_M_makeKeys_221 {X : CX} (E : EV X prog_13_method_49_code 7 "PlaceFinderModel" none) {μ0 μ' : Mem} {r : Unit} (hQ : RQ X 0 0 μ0 none μ') (hR : xR X = { frames := 3, cells := 0, slots := 0, locals := 89 }) (hI : X.2.2.2.2.2.2.2.2.2.2.2.1.name = "makeKeys")   (μ : Mem) (h : B_M_makeKeys_221   μ = some (r, μ')) : WM X 7 221 [] [] 0 0 μ := by
  have h : (some ((), μ)) = some (r, μ') := h
  exact wm_vret E hQ rfl (rtM h) (by decide) (by decide) dM_makeKeys_221
def B_M_makeKeys_169  (v0 : Option Nat) (v1 : Int32) (v2 : Int32) (v3 : Int32) (μ : Mem) : Option (Unit × Mem) := if v3 = 3 then b1 (gR μ v0 12 30) (fun x175 => b1 (aI μ x175 0 0) (fun x179 => if x179 ≤ 1 then B_M_makeKeys_221 μ else b1 (rc μ v0 12) (fun _ => b2 (S_M_nearest v0 v1 v2 0 μ) (fun x188 m188 => b1 (gR m188 v0 12 52) (fun x192 => b1 (gI m188 v0 12 49) (fun x197 => b1 (sI m188 x192 0 v1 x197) (fun m200 => b1 (gR m200 v0 12 53) (fun x202 => b1 (gL m200 v0 12 47) (fun x207 => b1 (sL m200 x202 1 v1 x207) (fun m210 => b1 (gR m210 v0 12 54) (fun x212 => b1 (gL m210 v0 12 48) (fun x217 => b1 (sL m210 x212 1 v1 x217) (fun m220 => B_M_makeKeys_221 m220))))))))))))) else B_M_makeKeys_221 μ
set_option maxHeartbeats 4000000 in
set_option maxRecDepth 100000 in
theorem w_M_makeKeys_169 {X : CX} (E : EV X prog_13_method_49_code 7 "PlaceFinderModel" none) {μ0 μ' : Mem} {r : Unit} (hQ : RQ X 0 0 μ0 none μ') (hR : xR X = { frames := 3, cells := 0, slots := 0, locals := 89 }) (hI : X.2.2.2.2.2.2.2.2.2.2.2.1.name = "makeKeys")  (v0 : Option Nat) (v1 : Int32) (v2 : Int32) (v3 : Int32) (μ : Mem) (h : B_M_makeKeys_169  v0 v1 v2 v3 μ = some (r, μ')) : WM X 7 169 [(0, vR v0), (1, vI v1), (2, vI v2), (3, vI v3)] [] 0 0 μ := by
  have h : (if v3 = 3 then b1 (gR μ v0 12 30) (fun x175 => b1 (aI μ x175 0 0) (fun x179 => if x179 ≤ 1 then B_M_makeKeys_221 μ else b1 (rc μ v0 12) (fun _ => b2 (S_M_nearest v0 v1 v2 0 μ) (fun x188 m188 => b1 (gR m188 v0 12 52) (fun x192 => b1 (gI m188 v0 12 49) (fun x197 => b1 (sI m188 x192 0 v1 x197) (fun m200 => b1 (gR m200 v0 12 53) (fun x202 => b1 (gL m200 v0 12 47) (fun x207 => b1 (sL m200 x202 1 v1 x207) (fun m210 => b1 (gR m210 v0 12 54) (fun x212 => b1 (gL m210 v0 12 48) (fun x217 => b1 (sL m210 x212 1 v1 x217) (fun m220 => B_M_makeKeys_221 m220))))))))))))) else B_M_makeKeys_221 μ) = some (r, μ') := h
  refine wm_iload_n E dM_makeKeys_169 rfl (j := 3) rfl ?_
  refine wm_iconst (x := 3) E dM_makeKeys_170 (by decide) ?_
  refine wm_icmp_ne (tgt := 221) E dM_makeKeys_171 (by decide) (fun c171 => ?_) (fun c171 => ?_)
  · have h := (if_neg c171).symm.trans h
    refine wm_pick (lv' := []) [] rfl ?_
    exact w_M_makeKeys_221 E hQ hR hI μ h
  · have h := (if_pos c171).symm.trans h
    refine wm_aload_n E dM_makeKeys_174 rfl (j := 0) rfl ?_
    refine wm_gR E fd_M_88 h dM_makeKeys_175 (fun x175 h => ?_)
    refine wm_iconst (x := 0) E dM_makeKeys_178 (by decide) ?_
    refine wm_iald (t := 0) E rfl h dM_makeKeys_179 (fun x179 h => ?_)
    refine wm_iconst (x := 1) E dM_makeKeys_180 (by decide) ?_
    refine wm_icmp_le (tgt := 221) E dM_makeKeys_181 (by decide) (fun c181 => ?_) (fun c181 => ?_)
    · have h := (if_pos c181).symm.trans h
      refine wm_pick (lv' := []) [] rfl ?_
      exact w_M_makeKeys_221 E hQ hR hI μ h
    · have h := (if_neg c181).symm.trans h
      refine wm_aload_n E dM_makeKeys_184 rfl (j := 0) rfl ?_
      refine wm_iload_n E dM_makeKeys_185 rfl (j := 1) rfl ?_
      refine wm_iload_n E dM_makeKeys_186 rfl (j := 2) rfl ?_
      refine wm_iconst (x := 0) E dM_makeKeys_187 (by decide) ?_
      obtain ⟨u188, hr188, h⟩ := b1S h
      obtain ⟨x188, m188, hc188, h⟩ := b2S h
      refine wm_cV (ci := 12) (As := [vI v1, vI v2, vI 0]) (st := []) E lk_M_257 rfl im_M_nearest sl_M_nearest hr188 (C_M_nearest (xl X) X.1 v0 v1 v2 0 μ _ _ hc188) rfl rfl (by rw [hR]; decide) (by rw [hR]; decide) (Nat.le_of_ble_eq_true rfl) dM_makeKeys_188 ?_
      refine wm_aload_n E dM_makeKeys_191 rfl (j := 0) rfl ?_
      refine wm_gR E fd_M_122 h dM_makeKeys_192 (fun x192 h => ?_)
      refine wm_iload_n E dM_makeKeys_195 rfl (j := 1) rfl ?_
      refine wm_aload_n E dM_makeKeys_196 rfl (j := 0) rfl ?_
      refine wm_gI E fd_M_231 h dM_makeKeys_197 (fun x197 h => ?_)
      refine wm_iast (t := 0) E rfl h dM_makeKeys_200 (fun m200 h => ?_)
      refine wm_aload_n E dM_makeKeys_201 rfl (j := 0) rfl ?_
      refine wm_gR E fd_M_125 h dM_makeKeys_202 (fun x202 h => ?_)
      refine wm_iload_n E dM_makeKeys_205 rfl (j := 1) rfl ?_
      refine wm_aload_n E dM_makeKeys_206 rfl (j := 0) rfl ?_
      refine wm_gL E fd_M_244 h dM_makeKeys_207 (fun x207 h => ?_)
      refine wm_last (t := 1) E rfl h dM_makeKeys_210 (fun m210 h => ?_)
      refine wm_aload_n E dM_makeKeys_211 rfl (j := 0) rfl ?_
      refine wm_gR E fd_M_129 h dM_makeKeys_212 (fun x212 h => ?_)
      refine wm_iload_n E dM_makeKeys_215 rfl (j := 1) rfl ?_
      refine wm_aload_n E dM_makeKeys_216 rfl (j := 0) rfl ?_
      refine wm_gL E fd_M_247 h dM_makeKeys_217 (fun x217 h => ?_)
      refine wm_last (t := 1) E rfl h dM_makeKeys_220 (fun m220 h => ?_)
      refine wm_pick (lv' := []) [] rfl ?_
      exact w_M_makeKeys_221 E hQ hR hI m220 h
def B_M_makeKeys_168  (v0 : Option Nat) (v1 : Int32) (v2 : Int32) (v3 : Int32) (s0 : Option Nat) (s1 : Int32) (s2 : Int32) (μ : Mem) : Option (Unit × Mem) := b1 (sI μ s0 0 s1 s2) (fun m168 => B_M_makeKeys_169 v0 v1 v2 v3 m168)
set_option maxHeartbeats 4000000 in
set_option maxRecDepth 100000 in
theorem w_M_makeKeys_168 {X : CX} (E : EV X prog_13_method_49_code 7 "PlaceFinderModel" none) {μ0 μ' : Mem} {r : Unit} (hQ : RQ X 0 0 μ0 none μ') (hR : xR X = { frames := 3, cells := 0, slots := 0, locals := 89 }) (hI : X.2.2.2.2.2.2.2.2.2.2.2.1.name = "makeKeys")  (v0 : Option Nat) (v1 : Int32) (v2 : Int32) (v3 : Int32) (s0 : Option Nat) (s1 : Int32) (s2 : Int32) (μ : Mem) (h : B_M_makeKeys_168  v0 v1 v2 v3 s0 s1 s2 μ = some (r, μ')) : WM X 7 168 [(0, vR v0), (1, vI v1), (2, vI v2), (3, vI v3)] [vI s2, vI s1, vR s0] 0 0 μ := by
  have h : (b1 (sI μ s0 0 s1 s2) (fun m168 => B_M_makeKeys_169 v0 v1 v2 v3 m168)) = some (r, μ') := h
  refine wm_iast (t := 0) E rfl h dM_makeKeys_168 (fun m168 h => ?_)
  refine wm_pick (lv' := [(0, vR v0), (1, vI v1), (2, vI v2), (3, vI v3)]) [0, 1, 2, 3] rfl ?_
  exact w_M_makeKeys_169 E hQ hR hI v0 v1 v2 v3 m168 h
def B_M_makeKeys_111  (v0 : Option Nat) (v1 : Int32) (v2 : Int32) (v3 : Int32) (μ : Mem) : Option (Unit × Mem) := if v3 = 2 then b1 (rc μ v0 12) (fun _ => b2 (S_M_firstCondition v0 7 7 μ) (fun x121 m121 => b1 (gR m121 v0 12 51) (fun x127 => if x121 = ((-1)) then b1 (rc m121 v0 12) (fun _ => b2 (S_M_square v0 v1 v2 0 0 m121) (fun x142 m142 => B_M_makeKeys_168 v0 v1 v2 v3 x127 v1 x142 m142)) else b1 (gR m121 v0 12 25) (fun x152 => b1 (aI m121 x152 0 x121) (fun x157 => b1 (gR m121 v0 12 26) (fun x159 => b1 (aI m121 x159 0 x121) (fun x164 => b1 (rc m121 v0 12) (fun _ => b2 (S_M_square v0 v1 v2 x157 x164 m121) (fun x165 m165 => B_M_makeKeys_168 v0 v1 v2 v3 x127 v1 x165 m165))))))))) else B_M_makeKeys_169 v0 v1 v2 v3 μ
set_option maxHeartbeats 4000000 in
set_option maxRecDepth 100000 in
theorem w_M_makeKeys_111 {X : CX} (E : EV X prog_13_method_49_code 7 "PlaceFinderModel" none) {μ0 μ' : Mem} {r : Unit} (hQ : RQ X 0 0 μ0 none μ') (hR : xR X = { frames := 3, cells := 0, slots := 0, locals := 89 }) (hI : X.2.2.2.2.2.2.2.2.2.2.2.1.name = "makeKeys")  (v0 : Option Nat) (v1 : Int32) (v2 : Int32) (v3 : Int32) (μ : Mem) (h : B_M_makeKeys_111  v0 v1 v2 v3 μ = some (r, μ')) : WM X 7 111 [(0, vR v0), (1, vI v1), (2, vI v2), (3, vI v3)] [] 0 0 μ := by
  have h : (if v3 = 2 then b1 (rc μ v0 12) (fun _ => b2 (S_M_firstCondition v0 7 7 μ) (fun x121 m121 => b1 (gR m121 v0 12 51) (fun x127 => if x121 = ((-1)) then b1 (rc m121 v0 12) (fun _ => b2 (S_M_square v0 v1 v2 0 0 m121) (fun x142 m142 => B_M_makeKeys_168 v0 v1 v2 v3 x127 v1 x142 m142)) else b1 (gR m121 v0 12 25) (fun x152 => b1 (aI m121 x152 0 x121) (fun x157 => b1 (gR m121 v0 12 26) (fun x159 => b1 (aI m121 x159 0 x121) (fun x164 => b1 (rc m121 v0 12) (fun _ => b2 (S_M_square v0 v1 v2 x157 x164 m121) (fun x165 m165 => B_M_makeKeys_168 v0 v1 v2 v3 x127 v1 x165 m165))))))))) else B_M_makeKeys_169 v0 v1 v2 v3 μ) = some (r, μ') := h
  refine wm_iload_n E dM_makeKeys_111 rfl (j := 3) rfl ?_
  refine wm_iconst (x := 2) E dM_makeKeys_112 (by decide) ?_
  refine wm_icmp_ne (tgt := 169) E dM_makeKeys_113 (by decide) (fun c113 => ?_) (fun c113 => ?_)
  · have h := (if_neg c113).symm.trans h
    refine wm_pick (lv' := [(0, vR v0), (1, vI v1), (2, vI v2), (3, vI v3)]) [0, 1, 2, 3] rfl ?_
    exact w_M_makeKeys_169 E hQ hR hI v0 v1 v2 v3 μ h
  · have h := (if_pos c113).symm.trans h
    refine wm_aload_n E dM_makeKeys_116 rfl (j := 0) rfl ?_
    refine wm_bipush (x := 7) E dM_makeKeys_117 (by decide) ?_
    refine wm_bipush (x := 7) E dM_makeKeys_119 (by decide) ?_
    obtain ⟨u121, hr121, h⟩ := b1S h
    obtain ⟨x121, m121, hc121, h⟩ := b2S h
    refine wm_cV (ci := 12) (As := [vI 7, vI 7]) (st := []) E lk_M_278 rfl im_M_firstCondition sl_M_firstCondition hr121 (C_M_firstCondition (xl X) X.1 v0 7 7 μ _ _ hc121) rfl rfl (by rw [hR]; decide) (by rw [hR]; decide) (Nat.le_of_ble_eq_true rfl) dM_makeKeys_121 ?_
    refine wm_istore (lv' := [(4, vI x121), (0, vR v0), (1, vI v1), (2, vI v2), (3, vI v3)]) E dM_makeKeys_124 (by decide) rfl ?_
    refine wm_aload_n E dM_makeKeys_126 rfl (j := 1) rfl ?_
    refine wm_gR E fd_M_119 h dM_makeKeys_127 (fun x127 h => ?_)
    refine wm_iload_n E dM_makeKeys_130 rfl (j := 2) rfl ?_
    refine wm_iload E dM_makeKeys_131 (j := 0) rfl ?_
    refine wm_iconst (x := -1) E dM_makeKeys_133 (by decide) ?_
    refine wm_icmp_ne (tgt := 148) E dM_makeKeys_134 (by decide) (fun c134 => ?_) (fun c134 => ?_)
    · have h := (if_neg c134).symm.trans h
      refine wm_aload_n E dM_makeKeys_148 rfl (j := 1) rfl ?_
      refine wm_iload_n E dM_makeKeys_149 rfl (j := 2) rfl ?_
      refine wm_iload_n E dM_makeKeys_150 rfl (j := 3) rfl ?_
      refine wm_aload_n E dM_makeKeys_151 rfl (j := 1) rfl ?_
      refine wm_gR E fd_M_73 h dM_makeKeys_152 (fun x152 h => ?_)
      refine wm_iload E dM_makeKeys_155 (j := 0) rfl ?_
      refine wm_iald (t := 0) E rfl h dM_makeKeys_157 (fun x157 h => ?_)
      refine wm_aload_n E dM_makeKeys_158 rfl (j := 1) rfl ?_
      refine wm_gR E fd_M_76 h dM_makeKeys_159 (fun x159 h => ?_)
      refine wm_iload E dM_makeKeys_162 (j := 0) rfl ?_
      refine wm_iald (t := 0) E rfl h dM_makeKeys_164 (fun x164 h => ?_)
      obtain ⟨u165, hr165, h⟩ := b1S h
      obtain ⟨x165, m165, hc165, h⟩ := b2S h
      refine wm_cV (ci := 12) (As := [vI v1, vI v2, vI x157, vI x164]) (st := [vI v1, vR x127]) E lk_M_270 rfl im_M_square sl_M_square hr165 (C_M_square (xl X) X.1 v0 v1 v2 x157 x164 m121 _ _ hc165) rfl rfl (by rw [hR]; decide) (by rw [hR]; decide) (Nat.le_of_ble_eq_true rfl) dM_makeKeys_165 ?_
      refine wm_pick (lv' := [(0, vR v0), (1, vI v1), (2, vI v2), (3, vI v3)]) [1, 2, 3, 4] rfl ?_
      exact w_M_makeKeys_168 E hQ hR hI v0 v1 v2 v3 x127 v1 x165 m165 h
    · have h := (if_pos c134).symm.trans h
      refine wm_aload_n E dM_makeKeys_137 rfl (j := 1) rfl ?_
      refine wm_iload_n E dM_makeKeys_138 rfl (j := 2) rfl ?_
      refine wm_iload_n E dM_makeKeys_139 rfl (j := 3) rfl ?_
      refine wm_iconst (x := 0) E dM_makeKeys_140 (by decide) ?_
      refine wm_iconst (x := 0) E dM_makeKeys_141 (by decide) ?_
      obtain ⟨u142, hr142, h⟩ := b1S h
      obtain ⟨x142, m142, hc142, h⟩ := b2S h
      refine wm_cV (ci := 12) (As := [vI v1, vI v2, vI 0, vI 0]) (st := [vI v1, vR x127]) E lk_M_270 rfl im_M_square sl_M_square hr142 (C_M_square (xl X) X.1 v0 v1 v2 0 0 m121 _ _ hc142) rfl rfl (by rw [hR]; decide) (by rw [hR]; decide) (Nat.le_of_ble_eq_true rfl) dM_makeKeys_142 ?_
      refine wm_goto (tgt := 168) E dM_makeKeys_145 (by decide) ?_
      refine wm_pick (lv' := [(0, vR v0), (1, vI v1), (2, vI v2), (3, vI v3)]) [1, 2, 3, 4] rfl ?_
      exact w_M_makeKeys_168 E hQ hR hI v0 v1 v2 v3 x127 v1 x142 m142 h
def B_M_makeKeys_105 (k23 : Option Nat → Int32 → Int32 → Int32 → Int32 → Int32 → Mem → Option (Unit × Mem)) (v0 : Option Nat) (v1 : Int32) (v2 : Int32) (v3 : Int32) (v4 : Int32) (v5 : Int32) (μ : Mem) : Option (Unit × Mem) := k23 v0 v1 v2 v3 v4 (v5 + 1) μ
set_option maxHeartbeats 4000000 in
set_option maxRecDepth 100000 in
theorem w_M_makeKeys_105 {X : CX} (E : EV X prog_13_method_49_code 7 "PlaceFinderModel" none) {μ0 μ' : Mem} {r : Unit} (hQ : RQ X 0 0 μ0 none μ') (hR : xR X = { frames := 3, cells := 0, slots := 0, locals := 89 }) (hI : X.2.2.2.2.2.2.2.2.2.2.2.1.name = "makeKeys") (k23 : Option Nat → Int32 → Int32 → Int32 → Int32 → Int32 → Mem → Option (Unit × Mem)) (hk23 : ∀ (v0 : Option Nat) (v1 : Int32) (v2 : Int32) (v3 : Int32) (v4 : Int32) (v5 : Int32) (μ : Mem), k23 v0 v1 v2 v3 v4 v5 μ = some (r, μ') → WM X 7 23 [(0, vR v0), (1, vI v1), (2, vI v2), (3, vI v3), (4, vI v4), (5, vI v5)] [] 0 0 μ) (v0 : Option Nat) (v1 : Int32) (v2 : Int32) (v3 : Int32) (v4 : Int32) (v5 : Int32) (μ : Mem) (h : B_M_makeKeys_105 k23 v0 v1 v2 v3 v4 v5 μ = some (r, μ')) : WM X 7 105 [(0, vR v0), (1, vI v1), (2, vI v2), (3, vI v3), (4, vI v4), (5, vI v5)] [] 0 0 μ := by
  have h : (k23 v0 v1 v2 v3 v4 (v5 + 1) μ) = some (r, μ') := h
  refine wm_iinc (lv' := [(5, vI (v5 + 1)), (0, vR v0), (1, vI v1), (2, vI v2), (3, vI v3), (4, vI v4)]) (d := 1) E dM_makeKeys_105 (by decide) (j := 5) rfl (by decide) rfl ?_
  refine wm_goto (tgt := 23) E dM_makeKeys_108 (by decide) ?_
  refine wm_pick (lv' := [(0, vR v0), (1, vI v1), (2, vI v2), (3, vI v3), (4, vI v4), (5, vI (v5 + 1))]) [1, 2, 3, 4, 5, 0] rfl ?_
  exact hk23 v0 v1 v2 v3 v4 (v5 + 1) μ h
def B_M_makeKeys_97 (k23 : Option Nat → Int32 → Int32 → Int32 → Int32 → Int32 → Mem → Option (Unit × Mem)) (v0 : Option Nat) (v1 : Int32) (v2 : Int32) (v3 : Int32) (v4 : Int32) (v5 : Int32) (v6 : Int32) (μ : Mem) : Option (Unit × Mem) := b1 (gR μ v0 12 50) (fun x98 => b1 (sI μ x98 0 v1 v6) (fun m104 => B_M_makeKeys_105 k23 v0 v1 v2 v3 v4 v5 m104))
set_option maxHeartbeats 4000000 in
set_option maxRecDepth 100000 in
theorem w_M_makeKeys_97 {X : CX} (E : EV X prog_13_method_49_code 7 "PlaceFinderModel" none) {μ0 μ' : Mem} {r : Unit} (hQ : RQ X 0 0 μ0 none μ') (hR : xR X = { frames := 3, cells := 0, slots := 0, locals := 89 }) (hI : X.2.2.2.2.2.2.2.2.2.2.2.1.name = "makeKeys") (k23 : Option Nat → Int32 → Int32 → Int32 → Int32 → Int32 → Mem → Option (Unit × Mem)) (hk23 : ∀ (v0 : Option Nat) (v1 : Int32) (v2 : Int32) (v3 : Int32) (v4 : Int32) (v5 : Int32) (μ : Mem), k23 v0 v1 v2 v3 v4 v5 μ = some (r, μ') → WM X 7 23 [(0, vR v0), (1, vI v1), (2, vI v2), (3, vI v3), (4, vI v4), (5, vI v5)] [] 0 0 μ) (v0 : Option Nat) (v1 : Int32) (v2 : Int32) (v3 : Int32) (v4 : Int32) (v5 : Int32) (v6 : Int32) (μ : Mem) (h : B_M_makeKeys_97 k23 v0 v1 v2 v3 v4 v5 v6 μ = some (r, μ')) : WM X 7 97 [(0, vR v0), (1, vI v1), (2, vI v2), (3, vI v3), (4, vI v4), (5, vI v5), (6, vI v6)] [] 0 0 μ := by
  have h : (b1 (gR μ v0 12 50) (fun x98 => b1 (sI μ x98 0 v1 v6) (fun m104 => B_M_makeKeys_105 k23 v0 v1 v2 v3 v4 v5 m104))) = some (r, μ') := h
  refine wm_aload_n E dM_makeKeys_97 rfl (j := 0) rfl ?_
  refine wm_gR E fd_M_116 h dM_makeKeys_98 (fun x98 h => ?_)
  refine wm_iload_n E dM_makeKeys_101 rfl (j := 1) rfl ?_
  refine wm_iload E dM_makeKeys_102 (j := 6) rfl ?_
  refine wm_iast (t := 0) E rfl h dM_makeKeys_104 (fun m104 h => ?_)
  refine wm_pick (lv' := [(0, vR v0), (1, vI v1), (2, vI v2), (3, vI v3), (4, vI v4), (5, vI v5)]) [0, 1, 2, 3, 4, 5] rfl ?_
  exact w_M_makeKeys_105 E hQ hR hI k23 hk23 v0 v1 v2 v3 v4 v5 m104 h
def B_M_makeKeys_72 (k23 : Option Nat → Int32 → Int32 → Int32 → Int32 → Int32 → Mem → Option (Unit × Mem)) (v0 : Option Nat) (v1 : Int32) (v2 : Int32) (v3 : Int32) (v4 : Int32) (v5 : Int32) (v6 : Int32) (μ : Mem) : Option (Unit × Mem) := b1 (gR μ v0 12 50) (fun x73 => b1 (aI μ x73 0 v1) (fun x77 => if x77 = ((-1)) then B_M_makeKeys_97 k23 v0 v1 v2 v3 v4 v5 v6 μ else b1 (gR μ v0 12 50) (fun x86 => b1 (aI μ x86 0 v1) (fun x90 => b1 (rc μ v0 12) (fun _ => b2 (S_M_compareWords v0 v6 x90 μ) (fun x91 m91 => if 0 ≤ x91 then B_M_makeKeys_105 k23 v0 v1 v2 v3 v4 v5 m91 else B_M_makeKeys_97 k23 v0 v1 v2 v3 v4 v5 v6 m91))))))
set_option maxHeartbeats 4000000 in
set_option maxRecDepth 100000 in
theorem w_M_makeKeys_72 {X : CX} (E : EV X prog_13_method_49_code 7 "PlaceFinderModel" none) {μ0 μ' : Mem} {r : Unit} (hQ : RQ X 0 0 μ0 none μ') (hR : xR X = { frames := 3, cells := 0, slots := 0, locals := 89 }) (hI : X.2.2.2.2.2.2.2.2.2.2.2.1.name = "makeKeys") (k23 : Option Nat → Int32 → Int32 → Int32 → Int32 → Int32 → Mem → Option (Unit × Mem)) (hk23 : ∀ (v0 : Option Nat) (v1 : Int32) (v2 : Int32) (v3 : Int32) (v4 : Int32) (v5 : Int32) (μ : Mem), k23 v0 v1 v2 v3 v4 v5 μ = some (r, μ') → WM X 7 23 [(0, vR v0), (1, vI v1), (2, vI v2), (3, vI v3), (4, vI v4), (5, vI v5)] [] 0 0 μ) (v0 : Option Nat) (v1 : Int32) (v2 : Int32) (v3 : Int32) (v4 : Int32) (v5 : Int32) (v6 : Int32) (μ : Mem) (h : B_M_makeKeys_72 k23 v0 v1 v2 v3 v4 v5 v6 μ = some (r, μ')) : WM X 7 72 [(0, vR v0), (1, vI v1), (2, vI v2), (3, vI v3), (4, vI v4), (5, vI v5), (6, vI v6)] [] 0 0 μ := by
  have h : (b1 (gR μ v0 12 50) (fun x73 => b1 (aI μ x73 0 v1) (fun x77 => if x77 = ((-1)) then B_M_makeKeys_97 k23 v0 v1 v2 v3 v4 v5 v6 μ else b1 (gR μ v0 12 50) (fun x86 => b1 (aI μ x86 0 v1) (fun x90 => b1 (rc μ v0 12) (fun _ => b2 (S_M_compareWords v0 v6 x90 μ) (fun x91 m91 => if 0 ≤ x91 then B_M_makeKeys_105 k23 v0 v1 v2 v3 v4 v5 m91 else B_M_makeKeys_97 k23 v0 v1 v2 v3 v4 v5 v6 m91))))))) = some (r, μ') := h
  refine wm_aload_n E dM_makeKeys_72 rfl (j := 0) rfl ?_
  refine wm_gR E fd_M_116 h dM_makeKeys_73 (fun x73 h => ?_)
  refine wm_iload_n E dM_makeKeys_76 rfl (j := 1) rfl ?_
  refine wm_iald (t := 0) E rfl h dM_makeKeys_77 (fun x77 h => ?_)
  refine wm_iconst (x := -1) E dM_makeKeys_78 (by decide) ?_
  refine wm_icmp_eq (tgt := 97) E dM_makeKeys_79 (by decide) (fun c79 => ?_) (fun c79 => ?_)
  · have h := (if_pos c79).symm.trans h
    refine wm_pick (lv' := [(0, vR v0), (1, vI v1), (2, vI v2), (3, vI v3), (4, vI v4), (5, vI v5), (6, vI v6)]) [0, 1, 2, 3, 4, 5, 6] rfl ?_
    exact w_M_makeKeys_97 E hQ hR hI k23 hk23 v0 v1 v2 v3 v4 v5 v6 μ h
  · have h := (if_neg c79).symm.trans h
    refine wm_aload_n E dM_makeKeys_82 rfl (j := 0) rfl ?_
    refine wm_iload E dM_makeKeys_83 (j := 6) rfl ?_
    refine wm_aload_n E dM_makeKeys_85 rfl (j := 0) rfl ?_
    refine wm_gR E fd_M_116 h dM_makeKeys_86 (fun x86 h => ?_)
    refine wm_iload_n E dM_makeKeys_89 rfl (j := 1) rfl ?_
    refine wm_iald (t := 0) E rfl h dM_makeKeys_90 (fun x90 h => ?_)
    obtain ⟨u91, hr91, h⟩ := b1S h
    obtain ⟨x91, m91, hc91, h⟩ := b2S h
    refine wm_cV (ci := 12) (As := [vI v6, vI x90]) (st := []) E lk_M_281 rfl im_M_compareWords sl_M_compareWords hr91 (C_M_compareWords (xl X) X.1 v0 v6 x90 μ _ _ hc91) rfl rfl (by rw [hR]; decide) (by rw [hR]; decide) (Nat.le_of_ble_eq_true rfl) dM_makeKeys_91 ?_
    refine wm_if_ge (tgt := 105) E dM_makeKeys_94 (by decide) (fun c94 => ?_) (fun c94 => ?_)
    · have h := (if_pos c94).symm.trans h
      refine wm_pick (lv' := [(0, vR v0), (1, vI v1), (2, vI v2), (3, vI v3), (4, vI v4), (5, vI v5)]) [0, 1, 2, 3, 4, 5] rfl ?_
      exact w_M_makeKeys_105 E hQ hR hI k23 hk23 v0 v1 v2 v3 v4 v5 m91 h
    · have h := (if_neg c94).symm.trans h
      refine wm_pick (lv' := [(0, vR v0), (1, vI v1), (2, vI v2), (3, vI v3), (4, vI v4), (5, vI v5), (6, vI v6)]) [0, 1, 2, 3, 4, 5, 6] rfl ?_
      exact w_M_makeKeys_97 E hQ hR hI k23 hk23 v0 v1 v2 v3 v4 v5 v6 m91 h
def B_M_makeKeys_23  : Nat → Option Nat → Int32 → Int32 → Int32 → Int32 → Int32 → Mem → Option (Unit × Mem)
  | 0, _, _, _, _, _, _, _ => none
  | n + 1, v0, v1, v2, v3, v4, v5, μ => b1 (gR μ v0 12 9) (fun x26 => b1 (aI μ x26 0 v1) (fun x30 => if x30 ≤ v5 then B_M_makeKeys_111 v0 v1 v2 v3 μ else b0 ((2 * v1) + v5) (fun x40 => b1 (rc μ v0 12) (fun _ => b2 (S_M_isOf v0 x40 v2 μ) (fun x46 m46 => if x46 = 0 then B_M_makeKeys_105 (fun v0 v1 v2 v3 v4 v5 μ => B_M_makeKeys_23 n v0 v1 v2 v3 v4 v5 μ) v0 v1 v2 v3 v4 v5 m46 else if v4 = ((-1)) then B_M_makeKeys_72 (fun v0 v1 v2 v3 v4 v5 μ => B_M_makeKeys_23 n v0 v1 v2 v3 v4 v5 μ) v0 v1 v2 v3 v4 v5 x40 m46 else b1 (rc m46 v0 12) (fun _ => b2 (S_M_isNamed v0 x40 v4 m46) (fun x63 m63 => if x63 = 0 then B_M_makeKeys_105 (fun v0 v1 v2 v3 v4 v5 μ => B_M_makeKeys_23 n v0 v1 v2 v3 v4 v5 μ) v0 v1 v2 v3 v4 v5 m63 else B_M_makeKeys_72 (fun v0 v1 v2 v3 v4 v5 μ => B_M_makeKeys_23 n v0 v1 v2 v3 v4 v5 μ) v0 v1 v2 v3 v4 v5 x40 m63)))))))
set_option maxHeartbeats 4000000 in
set_option maxRecDepth 100000 in
theorem w_M_makeKeys_23 {X : CX} (E : EV X prog_13_method_49_code 7 "PlaceFinderModel" none) {μ0 μ' : Mem} {r : Unit} (hQ : RQ X 0 0 μ0 none μ') (hR : xR X = { frames := 3, cells := 0, slots := 0, locals := 89 }) (hI : X.2.2.2.2.2.2.2.2.2.2.2.1.name = "makeKeys")  (n : Nat) : ∀ (v0 : Option Nat) (v1 : Int32) (v2 : Int32) (v3 : Int32) (v4 : Int32) (v5 : Int32) (μ : Mem) (h : B_M_makeKeys_23  n v0 v1 v2 v3 v4 v5 μ = some (r, μ')), WM X 7 23 [(0, vR v0), (1, vI v1), (2, vI v2), (3, vI v3), (4, vI v4), (5, vI v5)] [] 0 0 μ := by
  induction n with
  | zero => intro v0 v1 v2 v3 v4 v5 μ h; cases h
  | succ n ih =>
    intro v0 v1 v2 v3 v4 v5 μ h
    have h : (b1 (gR μ v0 12 9) (fun x26 => b1 (aI μ x26 0 v1) (fun x30 => if x30 ≤ v5 then B_M_makeKeys_111 v0 v1 v2 v3 μ else b0 ((2 * v1) + v5) (fun x40 => b1 (rc μ v0 12) (fun _ => b2 (S_M_isOf v0 x40 v2 μ) (fun x46 m46 => if x46 = 0 then B_M_makeKeys_105 (fun v0 v1 v2 v3 v4 v5 μ => B_M_makeKeys_23 n v0 v1 v2 v3 v4 v5 μ) v0 v1 v2 v3 v4 v5 m46 else if v4 = ((-1)) then B_M_makeKeys_72 (fun v0 v1 v2 v3 v4 v5 μ => B_M_makeKeys_23 n v0 v1 v2 v3 v4 v5 μ) v0 v1 v2 v3 v4 v5 x40 m46 else b1 (rc m46 v0 12) (fun _ => b2 (S_M_isNamed v0 x40 v4 m46) (fun x63 m63 => if x63 = 0 then B_M_makeKeys_105 (fun v0 v1 v2 v3 v4 v5 μ => B_M_makeKeys_23 n v0 v1 v2 v3 v4 v5 μ) v0 v1 v2 v3 v4 v5 m63 else B_M_makeKeys_72 (fun v0 v1 v2 v3 v4 v5 μ => B_M_makeKeys_23 n v0 v1 v2 v3 v4 v5 μ) v0 v1 v2 v3 v4 v5 x40 m63)))))))) = some (r, μ') := h
    refine wm_iload E dM_makeKeys_23 (j := 5) rfl ?_
    refine wm_aload_n E dM_makeKeys_25 rfl (j := 0) rfl ?_
    refine wm_gR E fd_M_31 h dM_makeKeys_26 (fun x26 h => ?_)
    refine wm_iload_n E dM_makeKeys_29 rfl (j := 1) rfl ?_
    refine wm_iald (t := 0) E rfl h dM_makeKeys_30 (fun x30 h => ?_)
    refine wm_icmp_ge (tgt := 111) E dM_makeKeys_31 (by decide) (fun c31 => ?_) (fun c31 => ?_)
    · have h := (if_pos c31).symm.trans h
      refine wm_pick (lv' := [(0, vR v0), (1, vI v1), (2, vI v2), (3, vI v3)]) [0, 1, 2, 3] rfl ?_
      exact w_M_makeKeys_111 E hQ hR hI v0 v1 v2 v3 μ h
    · have h := (if_neg c31).symm.trans h
      refine wm_iconst (x := 2) E dM_makeKeys_34 (by decide) ?_
      refine wm_iload_n E dM_makeKeys_35 rfl (j := 1) rfl ?_
      refine wm_imul E dM_makeKeys_36 ?_
      refine wm_iload E dM_makeKeys_37 (j := 5) rfl ?_
      refine wm_iadd E dM_makeKeys_39 ?_
      refine wm_letI h (fun x40 h => ?_)
      refine wm_istore (lv' := [(6, vI x40), (0, vR v0), (1, vI v1), (2, vI v2), (3, vI v3), (4, vI v4), (5, vI v5)]) E dM_makeKeys_40 (by decide) rfl ?_
      refine wm_aload_n E dM_makeKeys_42 rfl (j := 1) rfl ?_
      refine wm_iload E dM_makeKeys_43 (j := 0) rfl ?_
      refine wm_iload_n E dM_makeKeys_45 rfl (j := 3) rfl ?_
      obtain ⟨u46, hr46, h⟩ := b1S h
      obtain ⟨x46, m46, hc46, h⟩ := b2S h
      refine wm_cV (ci := 12) (As := [vI x40, vI v2]) (st := []) E lk_M_212 rfl im_M_isOf sl_M_isOf hr46 (C_M_isOf (xl X) X.1 v0 x40 v2 μ _ _ hc46) rfl rfl (by rw [hR]; decide) (by rw [hR]; decide) (Nat.le_of_ble_eq_true rfl) dM_makeKeys_46 ?_
      refine wm_if_eq (tgt := 105) E dM_makeKeys_49 (by decide) (fun c49 => ?_) (fun c49 => ?_)
      · have h := (if_pos c49).symm.trans h
        refine wm_pick (lv' := [(0, vR v0), (1, vI v1), (2, vI v2), (3, vI v3), (4, vI v4), (5, vI v5)]) [1, 2, 3, 4, 5, 6] rfl ?_
        exact w_M_makeKeys_105 E hQ hR hI (fun v0 v1 v2 v3 v4 v5 μ => B_M_makeKeys_23 n v0 v1 v2 v3 v4 v5 μ) ih v0 v1 v2 v3 v4 v5 m46 h
      · have h := (if_neg c49).symm.trans h
        refine wm_iload E dM_makeKeys_52 (j := 5) rfl ?_
        refine wm_iconst (x := -1) E dM_makeKeys_54 (by decide) ?_
        refine wm_icmp_eq (tgt := 72) E dM_makeKeys_55 (by decide) (fun c55 => ?_) (fun c55 => ?_)
        · have h := (if_pos c55).symm.trans h
          refine wm_pick (lv' := [(0, vR v0), (1, vI v1), (2, vI v2), (3, vI v3), (4, vI v4), (5, vI v5), (6, vI x40)]) [1, 2, 3, 4, 5, 6, 0] rfl ?_
          exact w_M_makeKeys_72 E hQ hR hI (fun v0 v1 v2 v3 v4 v5 μ => B_M_makeKeys_23 n v0 v1 v2 v3 v4 v5 μ) ih v0 v1 v2 v3 v4 v5 x40 m46 h
        · have h := (if_neg c55).symm.trans h
          refine wm_aload_n E dM_makeKeys_58 rfl (j := 1) rfl ?_
          refine wm_iload E dM_makeKeys_59 (j := 0) rfl ?_
          refine wm_iload E dM_makeKeys_61 (j := 5) rfl ?_
          obtain ⟨u63, hr63, h⟩ := b1S h
          obtain ⟨x63, m63, hc63, h⟩ := b2S h
          refine wm_cV (ci := 12) (As := [vI x40, vI v4]) (st := []) E lk_M_215 rfl im_M_isNamed sl_M_isNamed hr63 (C_M_isNamed (xl X) X.1 v0 x40 v4 m46 _ _ hc63) rfl rfl (by rw [hR]; decide) (by rw [hR]; decide) (Nat.le_of_ble_eq_true rfl) dM_makeKeys_63 ?_
          refine wm_if_ne (tgt := 72) E dM_makeKeys_66 (by decide) (fun c66 => ?_) (fun c66 => ?_)
          · have h := (if_neg c66).symm.trans h
            refine wm_pick (lv' := [(0, vR v0), (1, vI v1), (2, vI v2), (3, vI v3), (4, vI v4), (5, vI v5), (6, vI x40)]) [1, 2, 3, 4, 5, 6, 0] rfl ?_
            exact w_M_makeKeys_72 E hQ hR hI (fun v0 v1 v2 v3 v4 v5 μ => B_M_makeKeys_23 n v0 v1 v2 v3 v4 v5 μ) ih v0 v1 v2 v3 v4 v5 x40 m63 h
          · have h := (if_pos c66).symm.trans h
            refine wm_goto (tgt := 105) E dM_makeKeys_69 (by decide) ?_
            refine wm_pick (lv' := [(0, vR v0), (1, vI v1), (2, vI v2), (3, vI v3), (4, vI v4), (5, vI v5)]) [1, 2, 3, 4, 5, 6] rfl ?_
            exact w_M_makeKeys_105 E hQ hR hI (fun v0 v1 v2 v3 v4 v5 μ => B_M_makeKeys_23 n v0 v1 v2 v3 v4 v5 μ) ih v0 v1 v2 v3 v4 v5 m63 h
def S_M_makeKeys (v0 : Option Nat) (v1 : Int32) (v2 : Int32) (v3 : Int32) (μ : Mem) : Option (Unit × Mem) := if v3 = 1 then b1 (rc μ v0 12) (fun _ => b2 (S_M_firstCondition v0 0 3 μ) (fun x8 m8 => b1 (gR m8 v0 12 50) (fun x14 => b1 (sI m8 x14 0 v1 ((-1))) (fun m19 => B_M_makeKeys_23 fu v0 v1 v2 v3 x8 0 m19)))) else B_M_makeKeys_111 v0 v1 v2 v3 μ
set_option maxHeartbeats 4000000 in
set_option maxRecDepth 100000 in
theorem C_M_makeKeys (l : Launch) (G : GG) (v0 : Option Nat) (v1 : Int32) (v2 : Int32) (v3 : Int32) (μ μ' : Mem) (r : Unit) (h : S_M_makeKeys v0 v1 v2 v3 μ = some (r, μ')) : CT l G y_M_makeKeys prog_13_method_49_code 7 none 3 0 0 89 μ [vR v0, vI v1, vI v2, vI v3] none μ' := by
  refine wm_met (lv := [(0, vR v0), (1, vI v1), (2, vI v2), (3, vI v3)]) (by decide +kernel) (Nat.le_of_ble_eq_true rfl) rfl (fun X E hQ hR hI => ?_)
  have h : (if v3 = 1 then b1 (rc μ v0 12) (fun _ => b2 (S_M_firstCondition v0 0 3 μ) (fun x8 m8 => b1 (gR m8 v0 12 50) (fun x14 => b1 (sI m8 x14 0 v1 ((-1))) (fun m19 => B_M_makeKeys_23 fu v0 v1 v2 v3 x8 0 m19)))) else B_M_makeKeys_111 v0 v1 v2 v3 μ) = some (r, μ') := h
  refine wm_iload_n E dM_makeKeys_0 rfl (j := 3) rfl ?_
  refine wm_iconst (x := 1) E dM_makeKeys_1 (by decide) ?_
  refine wm_icmp_ne (tgt := 111) E dM_makeKeys_2 (by decide) (fun c2 => ?_) (fun c2 => ?_)
  · have h := (if_neg c2).symm.trans h
    refine wm_pick (lv' := [(0, vR v0), (1, vI v1), (2, vI v2), (3, vI v3)]) [0, 1, 2, 3] rfl ?_
    exact w_M_makeKeys_111 E hQ hR hI v0 v1 v2 v3 μ h
  · have h := (if_pos c2).symm.trans h
    refine wm_aload_n E dM_makeKeys_5 rfl (j := 0) rfl ?_
    refine wm_iconst (x := 0) E dM_makeKeys_6 (by decide) ?_
    refine wm_iconst (x := 3) E dM_makeKeys_7 (by decide) ?_
    obtain ⟨u8, hr8, h⟩ := b1S h
    obtain ⟨x8, m8, hc8, h⟩ := b2S h
    refine wm_cV (ci := 12) (As := [vI 0, vI 3]) (st := []) E lk_M_278 rfl im_M_firstCondition sl_M_firstCondition hr8 (C_M_firstCondition (xl X) X.1 v0 0 3 μ _ _ hc8) rfl rfl (by rw [hR]; decide) (by rw [hR]; decide) (Nat.le_of_ble_eq_true rfl) dM_makeKeys_8 ?_
    refine wm_istore (lv' := [(4, vI x8), (0, vR v0), (1, vI v1), (2, vI v2), (3, vI v3)]) E dM_makeKeys_11 (by decide) rfl ?_
    refine wm_aload_n E dM_makeKeys_13 rfl (j := 1) rfl ?_
    refine wm_gR E fd_M_116 h dM_makeKeys_14 (fun x14 h => ?_)
    refine wm_iload_n E dM_makeKeys_17 rfl (j := 2) rfl ?_
    refine wm_iconst (x := -1) E dM_makeKeys_18 (by decide) ?_
    refine wm_iast (t := 0) E rfl h dM_makeKeys_19 (fun m19 h => ?_)
    refine wm_iconst (x := 0) E dM_makeKeys_20 (by decide) ?_
    refine wm_istore (lv' := [(5, vI 0), (4, vI x8), (0, vR v0), (1, vI v1), (2, vI v2), (3, vI v3)]) E dM_makeKeys_21 (by decide) rfl ?_
    refine wm_pick (lv' := [(0, vR v0), (1, vI v1), (2, vI v2), (3, vI v3), (4, vI x8), (5, vI 0)]) [2, 3, 4, 5, 1, 0] rfl ?_
    exact w_M_makeKeys_23 E hQ hR hI fu v0 v1 v2 v3 x8 0 m19 h
