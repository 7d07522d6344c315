def B_Co_hasAllInside_2 (μ : Mem)   : Nat → Option Nat → Option Nat → Int32 → Option Int32
  | 0, _, _, _ => none
  | n + 1, v0, v1, v2 => b1 (gI μ v1 2 0) (fun x4 => if x4 ≤ v2 then gd (¬ okZ 1 = true) (some (1)) else b1 (gR μ v1 2 1) (fun x12 => b1 (aI μ x12 0 v2) (fun x16 => b1 (gR μ v1 2 2) (fun x18 => b1 (aI μ x18 0 v2) (fun x22 => b1 (rc μ v0 2) (fun _ => b1 (S_Co_hasInside v0 x16 x22 μ) (fun x23 => if x23 = 0 then gd (¬ okZ 0 = true) (some (0)) else (fun v0 v1 v2 => B_Co_hasAllInside_2 μ n v0 v1 v2) v0 v1 (v2 + 1))))))))
set_option maxHeartbeats 4000000 in
set_option maxRecDepth 100000 in
theorem w_Co_hasAllInside_2 {X : CX} (E : EV X prog_3_method_8_code 3 "PlaceFinder$Corners" (some .boolean)) {μ0 μ : Mem} {r : Int32} (hQ : RQ X 0 0 μ0 (some (vI r)) μ) (hR : xR X = { frames := 3, cells := 0, slots := 0, locals := 72 }) (hI : X.2.2.2.2.2.2.2.2.2.2.2.1.name = "hasAllInside")  (n : Nat) : ∀ (v0 : Option Nat) (v1 : Option Nat) (v2 : Int32) (h : B_Co_hasAllInside_2 μ  n v0 v1 v2 = some r), WM X 3 2 [(0, vR v0), (1, vR v1), (2, vI v2)] [] 0 0 μ := by
  induction n with
  | zero => intro v0 v1 v2 h; cases h
  | succ n ih =>
    intro v0 v1 v2 h
    have h : (b1 (gI μ v1 2 0) (fun x4 => if x4 ≤ v2 then gd (¬ okZ 1 = true) (some (1)) else b1 (gR μ v1 2 1) (fun x12 => b1 (aI μ x12 0 v2) (fun x16 => b1 (gR μ v1 2 2) (fun x18 => b1 (aI μ x18 0 v2) (fun x22 => b1 (rc μ v0 2) (fun _ => b1 (S_Co_hasInside v0 x16 x22 μ) (fun x23 => if x23 = 0 then gd (¬ okZ 0 = true) (some (0)) else (fun v0 v1 v2 => B_Co_hasAllInside_2 μ n v0 v1 v2) v0 v1 (v2 + 1))))))))) = some r := h
    refine wm_iload_n E dCo_hasAllInside_2 rfl (j := 2) rfl ?_
    refine wm_aload_n E dCo_hasAllInside_3 rfl (j := 1) rfl ?_
    refine wm_gI E fd_Co_9 h dCo_hasAllInside_4 (fun x4 h => ?_)
    refine wm_icmp_ge (tgt := 37) E dCo_hasAllInside_7 (by decide) (fun c7 => ?_) (fun c7 => ?_)
    · have h := (if_pos c7).symm.trans h
      refine wm_iconst (x := 1) E dCo_hasAllInside_37 (by decide) ?_
      obtain ⟨hz38, h⟩ := gdS h
      exact wm_zret (rt := .boolean) E hQ (rqI1 h) rfl (okZN hz38) (by decide) (by decide) dCo_hasAllInside_38
    · have h := (if_neg c7).symm.trans h
      refine wm_aload_n E dCo_hasAllInside_10 rfl (j := 0) rfl ?_
      refine wm_aload_n E dCo_hasAllInside_11 rfl (j := 1) rfl ?_
      refine wm_gR E fd_Co_21 h dCo_hasAllInside_12 (fun x12 h => ?_)
      refine wm_iload_n E dCo_hasAllInside_15 rfl (j := 2) rfl ?_
      refine wm_iald (t := 0) E rfl h dCo_hasAllInside_16 (fun x16 h => ?_)
      refine wm_aload_n E dCo_hasAllInside_17 rfl (j := 1) rfl ?_
      refine wm_gR E fd_Co_25 h dCo_hasAllInside_18 (fun x18 h => ?_)
      refine wm_iload_n E dCo_hasAllInside_21 rfl (j := 2) rfl ?_
      refine wm_iald (t := 0) E rfl h dCo_hasAllInside_22 (fun x22 h => ?_)
      obtain ⟨u23, hr23, h⟩ := b1S h
      obtain ⟨x23, hc23, h⟩ := b1S h
      refine wm_cV (ci := 2) (As := [vI x16, vI x22]) (st := []) E lk_Co_47 rfl im_Co_hasInside sl_Co_hasInside hr23 (C_Co_hasInside (xl X) X.1 v0 x16 x22 μ _ hc23) rfl rfl (by rw [hR]; decide) (by rw [hR]; decide) (Nat.le_of_ble_eq_true rfl) dCo_hasAllInside_23 ?_
      refine wm_if_ne (tgt := 31) E dCo_hasAllInside_26 (by decide) (fun c26 => ?_) (fun c26 => ?_)
      · have h := (if_neg c26).symm.trans h
        refine wm_iinc (lv' := [(2, vI (v2 + 1)), (0, vR v0), (1, vR v1)]) (d := 1) E dCo_hasAllInside_31 (by decide) (j := 2) rfl (by decide) rfl ?_
        refine wm_goto (tgt := 2) E dCo_hasAllInside_34 (by decide) ?_
        refine wm_pick (lv' := [(0, vR v0), (1, vR v1), (2, vI (v2 + 1))]) [1, 2, 0] rfl ?_
        exact ih v0 v1 (v2 + 1) h
      · have h := (if_pos c26).symm.trans h
        refine wm_iconst (x := 0) E dCo_hasAllInside_29 (by decide) ?_
        obtain ⟨hz30, h⟩ := gdS h
        exact wm_zret (rt := .boolean) E hQ (rqI1 h) rfl (okZN hz30) (by decide) (by decide) dCo_hasAllInside_30
def S_Co_hasAllInside (v0 : Option Nat) (v1 : Option Nat) (μ : Mem) : Option Int32 := B_Co_hasAllInside_2 μ fu v0 v1 0
set_option maxHeartbeats 4000000 in
set_option maxRecDepth 100000 in
theorem C_Co_hasAllInside (l : Launch) (G : GG) (v0 : Option Nat) (v1 : Option Nat) (μ : Mem) (r : Int32) (h : S_Co_hasAllInside v0 v1 μ = some r) : CT l G y_Co_hasAllInside prog_3_method_8_code 3 (some .boolean) 3 0 0 72 μ [vR v0, vR v1] (some (vI r)) μ := by
  refine wm_met (lv := [(0, vR v0), (1, vR v1)]) (by decide +kernel) (Nat.le_of_ble_eq_true rfl) rfl (fun X E hQ hR hI => ?_)
  have h : (B_Co_hasAllInside_2 μ fu v0 v1 0) = some r := h
  refine wm_iconst (x := 0) E dCo_hasAllInside_0 (by decide) ?_
  refine wm_istore_n (lv' := [(2, vI 0), (0, vR v0), (1, vR v1)]) E dCo_hasAllInside_1 rfl (by decide) rfl ?_
  refine wm_pick (lv' := [(0, vR v0), (1, vR v1), (2, vI 0)]) [1, 2, 0] rfl ?_
  exact w_Co_hasAllInside_2 E hQ hR hI fu v0 v1 0 h
def B_P_liesInPlace_49 (μ : Mem)   (s0 : Int32) : Option Int32 := gd (¬ okZ s0 = true) (some (s0))
set_option maxHeartbeats 4000000 in
set_option maxRecDepth 100000 in
theorem w_P_liesInPlace_49 {X : CX} (E : EV X prog_1_method_33_code 6 "PlaceFinder" (some .boolean)) {μ0 μ : Mem} {r : Int32} (hQ : RQ X 0 0 μ0 (some (vI r)) μ) (hR : xR X = { frames := 4, cells := 0, slots := 0, locals := 94 }) (hI : X.2.2.2.2.2.2.2.2.2.2.2.1.name = "liesInPlace")  (s0 : Int32) (h : B_P_liesInPlace_49 μ  s0 = some r) : WM X 6 49 [] [vI s0] 0 0 μ := by
  have h : (gd (¬ okZ s0 = true) (some (s0))) = some r := h
  obtain ⟨hz49, h⟩ := gdS h
  exact wm_zret (rt := .boolean) E hQ (rqI1 h) rfl (okZN hz49) (by decide) (by decide) dP_liesInPlace_49
def B_P_liesInPlace_48 (μ : Mem)    : Option Int32 := B_P_liesInPlace_49 μ 0
set_option maxHeartbeats 4000000 in
set_option maxRecDepth 100000 in
theorem w_P_liesInPlace_48 {X : CX} (E : EV X prog_1_method_33_code 6 "PlaceFinder" (some .boolean)) {μ0 μ : Mem} {r : Int32} (hQ : RQ X 0 0 μ0 (some (vI r)) μ) (hR : xR X = { frames := 4, cells := 0, slots := 0, locals := 94 }) (hI : X.2.2.2.2.2.2.2.2.2.2.2.1.name = "liesInPlace")   (h : B_P_liesInPlace_48 μ   = some r) : WM X 6 48 [] [] 0 0 μ := by
  have h : (B_P_liesInPlace_49 μ 0) = some r := h
  refine wm_iconst (x := 0) E dP_liesInPlace_48 (by decide) ?_
  refine wm_pick (lv' := []) [] rfl ?_
  exact w_P_liesInPlace_49 E hQ hR hI 0 h
def S_P_liesInPlace (v0 : Option Nat) (v1 : Option Nat) (v2 : Int32) (v3 : Int32) (μ : Mem) : Option Int32 := b1 (rc μ v0 11) (fun _ => b1 (S_P_placeOf v0 v2 μ) (fun x2 => if x2 = none then gd (¬ okZ 0 = true) (some (0)) else b1 (rc μ x2 7) (fun _ => b1 (S_Pl_shapeOn x2 v3 μ) (fun x17 => if x17 = none then B_P_liesInPlace_48 μ  else b1 (rc μ x17 2) (fun _ => b1 (S_Co_isArea x17 μ) (fun x29 => if x29 = 0 then B_P_liesInPlace_48 μ  else b1 (rc μ x17 2) (fun _ => b1 (S_Co_hasAllInside x17 v1 μ) (fun x38 => if x38 = 0 then B_P_liesInPlace_48 μ  else B_P_liesInPlace_49 μ 1))))))))
set_option maxHeartbeats 4000000 in
set_option maxRecDepth 100000 in
theorem C_P_liesInPlace (l : Launch) (G : GG) (v0 : Option Nat) (v1 : Option Nat) (v2 : Int32) (v3 : Int32) (μ : Mem) (r : Int32) (h : S_P_liesInPlace v0 v1 v2 v3 μ = some r) : CT l G y_P_liesInPlace prog_1_method_33_code 6 (some .boolean) 4 0 0 94 μ [vR v0, vR v1, vI v2, vI v3] (some (vI r)) μ := by
  refine wm_met (lv := [(0, vR v0), (1, vR v1), (2, vI v2), (3, vI v3)]) (by decide +kernel) (Nat.le_of_ble_eq_true rfl) rfl (fun X E hQ hR hI => ?_)
  have h : (b1 (rc μ v0 11) (fun _ => b1 (S_P_placeOf v0 v2 μ) (fun x2 => if x2 = none then gd (¬ okZ 0 = true) (some (0)) else b1 (rc μ x2 7) (fun _ => b1 (S_Pl_shapeOn x2 v3 μ) (fun x17 => if x17 = none then B_P_liesInPlace_48 μ  else b1 (rc μ x17 2) (fun _ => b1 (S_Co_isArea x17 μ) (fun x29 => if x29 = 0 then B_P_liesInPlace_48 μ  else b1 (rc μ x17 2) (fun _ => b1 (S_Co_hasAllInside x17 v1 μ) (fun x38 => if x38 = 0 then B_P_liesInPlace_48 μ  else B_P_liesInPlace_49 μ 1))))))))) = some r := h
  refine wm_aload_n E dP_liesInPlace_0 rfl (j := 0) rfl ?_
  refine wm_iload_n E dP_liesInPlace_1 rfl (j := 2) rfl ?_
  obtain ⟨u2, hr2, h⟩ := b1S h
  obtain ⟨x2, hc2, h⟩ := b1S h
  refine wm_cV (ci := 11) (As := [vI v2]) (st := []) E lk_P_124 rfl im_P_placeOf sl_P_placeOf hr2 (C_P_placeOf (xl X) X.1 v0 v2 μ _ hc2) rfl rfl (by rw [hR]; decide) (by rw [hR]; decide) (Nat.le_of_ble_eq_true rfl) dP_liesInPlace_2 ?_
  refine wm_astore (lv' := [(4, vR x2), (0, vR v0), (1, vR v1), (2, vI v2), (3, vI v3)]) E dP_liesInPlace_5 (by decide) rfl ?_
  refine wm_aload E dP_liesInPlace_7 (j := 0) rfl ?_
  refine wm_ifnonnull (tgt := 14) E dP_liesInPlace_9 (by decide) (fun c9 => ?_) (fun c9 => ?_)
  · have h := (if_neg c9).symm.trans h
    refine wm_aload E dP_liesInPlace_14 (j := 0) rfl ?_
    refine wm_iload_n E dP_liesInPlace_16 rfl (j := 4) rfl ?_
    obtain ⟨u17, hr17, h⟩ := b1S h
    obtain ⟨x17, hc17, h⟩ := b1S h
    refine wm_cV (ci := 7) (As := [vI v3]) (st := []) E lk_P_275 rfl im_Pl_shapeOn sl_Pl_shapeOn hr17 (C_Pl_shapeOn (xl X) X.1 x2 v3 μ _ hc17) rfl rfl (by rw [hR]; decide) (by rw [hR]; decide) (Nat.le_of_ble_eq_true rfl) dP_liesInPlace_17 ?_
    refine wm_astore (lv' := [(5, vR x17), (4, vR x2), (0, vR v0), (1, vR v1), (2, vI v2), (3, vI v3)]) E dP_liesInPlace_20 (by decide) rfl ?_
    refine wm_aload E dP_liesInPlace_22 (j := 0) rfl ?_
    refine wm_ifnull (tgt := 48) E dP_liesInPlace_24 (by decide) (fun c24 => ?_) (fun c24 => ?_)
    · have h := (if_pos c24).symm.trans h
      refine wm_pick (lv' := []) [] rfl ?_
      exact w_P_liesInPlace_48 E hQ hR hI  h
    · have h := (if_neg c24).symm.trans h
      refine wm_aload E dP_liesInPlace_27 (j := 0) rfl ?_
      obtain ⟨u29, hr29, h⟩ := b1S h
      obtain ⟨x29, hc29, h⟩ := b1S h
      refine wm_cV (ci := 2) (As := []) (st := []) E lk_P_137 rfl im_Co_isArea sl_Co_isArea hr29 (C_Co_isArea (xl X) X.1 x17 μ _ hc29) rfl rfl (by rw [hR]; decide) (by rw [hR]; decide) (Nat.le_of_ble_eq_true rfl) dP_liesInPlace_29 ?_
      refine wm_if_eq (tgt := 48) E dP_liesInPlace_32 (by decide) (fun c32 => ?_) (fun c32 => ?_)
      · have h := (if_pos c32).symm.trans h
        refine wm_pick (lv' := []) [] rfl ?_
        exact w_P_liesInPlace_48 E hQ hR hI  h
      · have h := (if_neg c32).symm.trans h
        refine wm_aload E dP_liesInPlace_35 (j := 0) rfl ?_
        refine wm_aload_n E dP_liesInPlace_37 rfl (j := 3) rfl ?_
        obtain ⟨u38, hr38, h⟩ := b1S h
        obtain ⟨x38, hc38, h⟩ := b1S h
        refine wm_cV (ci := 2) (As := [vR v1]) (st := []) E lk_P_385 rfl im_Co_hasAllInside sl_Co_hasAllInside hr38 (C_Co_hasAllInside (xl X) X.1 x17 v1 μ _ hc38) rfl rfl (by rw [hR]; decide) (by rw [hR]; decide) (Nat.le_of_ble_eq_true rfl) dP_liesInPlace_38 ?_
        refine wm_if_eq (tgt := 48) E dP_liesInPlace_41 (by decide) (fun c41 => ?_) (fun c41 => ?_)
        · have h := (if_pos c41).symm.trans h
          refine wm_pick (lv' := []) [] rfl ?_
          exact w_P_liesInPlace_48 E hQ hR hI  h
        · have h := (if_neg c41).symm.trans h
          refine wm_iconst (x := 1) E dP_liesInPlace_44 (by decide) ?_
          refine wm_goto (tgt := 49) E dP_liesInPlace_45 (by decide) ?_
          refine wm_pick (lv' := []) [] rfl ?_
          exact w_P_liesInPlace_49 E hQ hR hI 1 h
  · have h := (if_pos c9).symm.trans h
    refine wm_iconst (x := 0) E dP_liesInPlace_12 (by decide) ?_
    obtain ⟨hz13, h⟩ := gdS h
    exact wm_zret (rt := .boolean) E hQ (rqI1 h) rfl (okZN hz13) (by decide) (by decide) dP_liesInPlace_13
def B_Pl_aboveOn_2 (μ : Mem)   : Nat → Option Nat → Int32 → Int32 → Option (Option Nat)
  | 0, _, _, _ => none
  | n + 1, v0, v1, v2 => b1 (gR μ v0 7 6) (fun x4 => b1 (rc μ x4 0) (fun _ => b1 (S_Al_size x4 μ) (fun x7 => if x7 ≤ v2 then some (none) else b1 (gR μ v0 7 6) (fun x14 => b1 (rc μ x14 0) (fun _ => b1 (S_Al_get x14 v2 μ) (fun x18 => b1 (cK μ x18 5) (fun _ => b1 (rc μ x18 5) (fun _ => b1 (S_Li_isWithin x18 v1 v1 μ) (fun x26 => if x26 = 0 then (fun v0 v1 v2 => B_Pl_aboveOn_2 μ n v0 v1 v2) v0 v1 (v2 + 1) else b1 (gR μ v0 7 6) (fun x33 => b1 (rc μ x33 0) (fun _ => b1 (S_Al_get x33 v2 μ) (fun x37 => b1 (cK μ x37 5) (fun _ => b1 (gR μ x37 5 0) (fun x43 => some (x43)))))))))))))))
set_option maxHeartbeats 4000000 in
set_option maxRecDepth 100000 in
theorem w_Pl_aboveOn_2 {X : CX} (E : EV X prog_8_method_9_code 3 "PlaceFinder$Place" (some (.object "PlaceFinder$Place"))) {μ0 μ : Mem} {r : Option Nat} (hQ : RQ X 0 0 μ0 (some (vR r)) μ) (hR : xR X = { frames := 3, cells := 0, slots := 0, locals := 64 }) (hI : X.2.2.2.2.2.2.2.2.2.2.2.1.name = "aboveOn")  (n : Nat) : ∀ (v0 : Option Nat) (v1 : Int32) (v2 : Int32) (h : B_Pl_aboveOn_2 μ  n v0 v1 v2 = some r), WM X 3 2 [(0, vR v0), (1, vI v1), (2, vI v2)] [] 0 0 μ := by
  induction n with
  | zero => intro v0 v1 v2 h; cases h
  | succ n ih =>
    intro v0 v1 v2 h
    have h : (b1 (gR μ v0 7 6) (fun x4 => b1 (rc μ x4 0) (fun _ => b1 (S_Al_size x4 μ) (fun x7 => if x7 ≤ v2 then some (none) else b1 (gR μ v0 7 6) (fun x14 => b1 (rc μ x14 0) (fun _ => b1 (S_Al_get x14 v2 μ) (fun x18 => b1 (cK μ x18 5) (fun _ => b1 (rc μ x18 5) (fun _ => b1 (S_Li_isWithin x18 v1 v1 μ) (fun x26 => if x26 = 0 then (fun v0 v1 v2 => B_Pl_aboveOn_2 μ n v0 v1 v2) v0 v1 (v2 + 1) else b1 (gR μ v0 7 6) (fun x33 => b1 (rc μ x33 0) (fun _ => b1 (S_Al_get x33 v2 μ) (fun x37 => b1 (cK μ x37 5) (fun _ => b1 (gR μ x37 5 0) (fun x43 => some (x43)))))))))))))))) = some r := h
    refine wm_iload_n E dPl_aboveOn_2 rfl (j := 2) rfl ?_
    refine wm_aload_n E dPl_aboveOn_3 rfl (j := 0) rfl ?_
    refine wm_gR E fd_Pl_29 h dPl_aboveOn_4 (fun x4 h => ?_)
    obtain ⟨u7, hr7, h⟩ := b1S h
    obtain ⟨x7, hc7, h⟩ := b1S h
    refine wm_cV (ci := 0) (As := []) (st := [vI v2]) E lk_Pl_38 rfl im_Al_size sl_Al_size hr7 (C_Al_size (xl X) X.1 x4 μ _ hc7) rfl rfl (by rw [hR]; decide) (by rw [hR]; decide) (Nat.le_of_ble_eq_true rfl) dPl_aboveOn_7 ?_
    refine wm_icmp_ge (tgt := 53) E dPl_aboveOn_10 (by decide) (fun c10 => ?_) (fun c10 => ?_)
    · have h := (if_pos c10).symm.trans h
      refine wm_null E dPl_aboveOn_53 ?_
      exact wm_aret E hQ (rqR0 h) rfl (Or.inl ⟨_, rfl⟩) (by decide) (by decide) dPl_aboveOn_54
    · have h := (if_neg c10).symm.trans h
      refine wm_aload_n E dPl_aboveOn_13 rfl (j := 0) rfl ?_
      refine wm_gR E fd_Pl_29 h dPl_aboveOn_14 (fun x14 h => ?_)
      refine wm_iload_n E dPl_aboveOn_17 rfl (j := 2) rfl ?_
      obtain ⟨u18, hr18, h⟩ := b1S h
      obtain ⟨x18, hc18, h⟩ := b1S h
      refine wm_cV (ci := 0) (As := [vI v2]) (st := []) E lk_Pl_46 rfl im_Al_get sl_Al_get hr18 (C_Al_get (xl X) X.1 x14 v2 μ _ hc18) rfl rfl (by rw [hR]; decide) (by rw [hR]; decide) (Nat.le_of_ble_eq_true rfl) dPl_aboveOn_18 ?_
      refine wm_ckc (ci := 5) E rfl cl_Pl_65 h dPl_aboveOn_21 (fun h => ?_)
      refine wm_iload_n E dPl_aboveOn_24 rfl (j := 1) rfl ?_
      refine wm_iload_n E dPl_aboveOn_25 rfl (j := 1) rfl ?_
      obtain ⟨u26, hr26, h⟩ := b1S h
      obtain ⟨x26, hc26, h⟩ := b1S h
      refine wm_cV (ci := 5) (As := [vI v1, vI v1]) (st := []) E lk_Pl_67 rfl im_Li_isWithin sl_Li_isWithin hr26 (C_Li_isWithin (xl X) X.1 x18 v1 v1 μ _ hc26) rfl rfl (by rw [hR]; decide) (by rw [hR]; decide) (Nat.le_of_ble_eq_true rfl) dPl_aboveOn_26 ?_
      refine wm_if_eq (tgt := 47) E dPl_aboveOn_29 (by decide) (fun c29 => ?_) (fun c29 => ?_)
      · have h := (if_pos c29).symm.trans h
        refine wm_iinc (lv' := [(2, vI (v2 + 1)), (0, vR v0), (1, vI v1)]) (d := 1) E dPl_aboveOn_47 (by decide) (j := 2) rfl (by decide) rfl ?_
        refine wm_goto (tgt := 2) E dPl_aboveOn_50 (by decide) ?_
        refine wm_pick (lv' := [(0, vR v0), (1, vI v1), (2, vI (v2 + 1))]) [1, 2, 0] rfl ?_
        exact ih v0 v1 (v2 + 1) h
      · have h := (if_neg c29).symm.trans h
        refine wm_aload_n E dPl_aboveOn_32 rfl (j := 0) rfl ?_
        refine wm_gR E fd_Pl_29 h dPl_aboveOn_33 (fun x33 h => ?_)
        refine wm_iload_n E dPl_aboveOn_36 rfl (j := 2) rfl ?_
        obtain ⟨u37, hr37, h⟩ := b1S h
        obtain ⟨x37, hc37, h⟩ := b1S h
        refine wm_cV (ci := 0) (As := [vI v2]) (st := []) E lk_Pl_46 rfl im_Al_get sl_Al_get hr37 (C_Al_get (xl X) X.1 x33 v2 μ _ hc37) rfl rfl (by rw [hR]; decide) (by rw [hR]; decide) (Nat.le_of_ble_eq_true rfl) dPl_aboveOn_37 ?_
        refine wm_ckc (ci := 5) E rfl cl_Pl_65 h dPl_aboveOn_40 (fun h => ?_)
        refine wm_gR E fd_Pl_71 h dPl_aboveOn_43 (fun x43 h => ?_)
        exact wm_aret E hQ (rqR0 h) rfl (Or.inl ⟨_, rfl⟩) (by decide) (by decide) dPl_aboveOn_46
def S_Pl_aboveOn (v0 : Option Nat) (v1 : Int32) (μ : Mem) : Option (Option Nat) := B_Pl_aboveOn_2 μ fu v0 v1 0
set_option maxHeartbeats 4000000 in
set_option maxRecDepth 100000 in
theorem C_Pl_aboveOn (l : Launch) (G : GG) (v0 : Option Nat) (v1 : Int32) (μ : Mem) (r : Option Nat) (h : S_Pl_aboveOn v0 v1 μ = some r) : CT l G y_Pl_aboveOn prog_8_method_9_code 3 (some (.object "PlaceFinder$Place")) 3 0 0 64 μ [vR v0, vI v1] (some (vR r)) μ := by
  refine wm_met (lv := [(0, vR v0), (1, vI v1)]) (by decide +kernel) (Nat.le_of_ble_eq_true rfl) rfl (fun X E hQ hR hI => ?_)
  have h : (B_Pl_aboveOn_2 μ fu v0 v1 0) = some r := h
  refine wm_iconst (x := 0) E dPl_aboveOn_0 (by decide) ?_
  refine wm_istore_n (lv' := [(2, vI 0), (0, vR v0), (1, vI v1)]) E dPl_aboveOn_1 rfl (by decide) rfl ?_
  refine wm_pick (lv' := [(0, vR v0), (1, vI v1), (2, vI 0)]) [1, 2, 0] rfl ?_
  exact w_Pl_aboveOn_2 E hQ hR hI fu v0 v1 0 h
def B_P_isBelow_42 (μ : Mem)    : Option Int32 := gd (¬ okZ 0 = true) (some (0))
set_option maxHeartbeats 4000000 in
set_option maxRecDepth 100000 in
theorem w_P_isBelow_42 {X : CX} (E : EV X prog_1_method_34_code 5 "PlaceFinder" (some .boolean)) {μ0 μ : Mem} {r : Int32} (hQ : RQ X 0 0 μ0 (some (vI r)) μ) (hR : xR X = { frames := 4, cells := 0, slots := 0, locals := 86 }) (hI : X.2.2.2.2.2.2.2.2.2.2.2.1.name = "isBelow")   (h : B_P_isBelow_42 μ   = some r) : WM X 5 42 [] [] 0 0 μ := by
  have h : (gd (¬ okZ 0 = true) (some (0))) = some r := h
  refine wm_iconst (x := 0) E dP_isBelow_42 (by decide) ?_
  obtain ⟨hz43, h⟩ := gdS h
  exact wm_zret (rt := .boolean) E hQ (rqI1 h) rfl (okZN hz43) (by decide) (by decide) dP_isBelow_43
def B_P_isBelow_9 (μ : Mem)   : Nat → Int32 → Int32 → Option Nat → Int32 → Option Int32
  | 0, _, _, _, _ => none
  | n + 1, v1, v2, v3, v4 => if 30 ≤ v4 then B_P_isBelow_42 μ  else if v3 = none then B_P_isBelow_42 μ  else b1 (gI μ v3 7 0) (fun x21 => if x21 = v1 then gd (¬ okZ 1 = true) (some (1)) else b1 (rc μ v3 7) (fun _ => b1 (S_Pl_aboveOn v3 v2 μ) (fun x32 => (fun v1 v2 v3 v4 => B_P_isBelow_9 μ n v1 v2 v3 v4) v1 v2 x32 (v4 + 1))))
set_option maxHeartbeats 4000000 in
set_option maxRecDepth 100000 in
theorem w_P_isBelow_9 {X : CX} (E : EV X prog_1_method_34_code 5 "PlaceFinder" (some .boolean)) {μ0 μ : Mem} {r : Int32} (hQ : RQ X 0 0 μ0 (some (vI r)) μ) (hR : xR X = { frames := 4, cells := 0, slots := 0, locals := 86 }) (hI : X.2.2.2.2.2.2.2.2.2.2.2.1.name = "isBelow")  (n : Nat) : ∀ (v1 : Int32) (v2 : Int32) (v3 : Option Nat) (v4 : Int32) (h : B_P_isBelow_9 μ  n v1 v2 v3 v4 = some r), WM X 5 9 [(1, vI v1), (2, vI v2), (3, vR v3), (4, vI v4)] [] 0 0 μ := by
  induction n with
  | zero => intro v1 v2 v3 v4 h; cases h
  | succ n ih =>
    intro v1 v2 v3 v4 h
    have h : (if 30 ≤ v4 then B_P_isBelow_42 μ  else if v3 = none then B_P_isBelow_42 μ  else b1 (gI μ v3 7 0) (fun x21 => if x21 = v1 then gd (¬ okZ 1 = true) (some (1)) else b1 (rc μ v3 7) (fun _ => b1 (S_Pl_aboveOn v3 v2 μ) (fun x32 => (fun v1 v2 v3 v4 => B_P_isBelow_9 μ n v1 v2 v3 v4) v1 v2 x32 (v4 + 1))))) = some r := h
    refine wm_iload E dP_isBelow_9 (j := 3) rfl ?_
    refine wm_bipush (x := 30) E dP_isBelow_11 (by decide) ?_
    refine wm_icmp_ge (tgt := 42) E dP_isBelow_13 (by decide) (fun c13 => ?_) (fun c13 => ?_)
    · have h := (if_pos c13).symm.trans h
      refine wm_pick (lv' := []) [] rfl ?_
      exact w_P_isBelow_42 E hQ hR hI  h
    · have h := (if_neg c13).symm.trans h
      refine wm_aload_n E dP_isBelow_16 rfl (j := 2) rfl ?_
      refine wm_ifnull (tgt := 42) E dP_isBelow_17 (by decide) (fun c17 => ?_) (fun c17 => ?_)
      · have h := (if_pos c17).symm.trans h
        refine wm_pick (lv' := []) [] rfl ?_
        exact w_P_isBelow_42 E hQ hR hI  h
      · have h := (if_neg c17).symm.trans h
        refine wm_aload_n E dP_isBelow_20 rfl (j := 2) rfl ?_
        refine wm_gI E fd_P_270 h dP_isBelow_21 (fun x21 h => ?_)
        refine wm_iload_n E dP_isBelow_24 rfl (j := 0) rfl ?_
        refine wm_icmp_ne (tgt := 30) E dP_isBelow_25 (by decide) (fun c25 => ?_) (fun c25 => ?_)
        · have h := (if_neg c25).symm.trans h
          refine wm_aload_n E dP_isBelow_30 rfl (j := 2) rfl ?_
          refine wm_iload_n E dP_isBelow_31 rfl (j := 1) rfl ?_
          obtain ⟨u32, hr32, h⟩ := b1S h
          obtain ⟨x32, hc32, h⟩ := b1S h
          refine wm_cV (ci := 7) (As := [vI v2]) (st := []) E lk_P_267 rfl im_Pl_aboveOn sl_Pl_aboveOn hr32 (C_Pl_aboveOn (xl X) X.1 v3 v2 μ _ hc32) rfl rfl (by rw [hR]; decide) (by rw [hR]; decide) (Nat.le_of_ble_eq_true rfl) dP_isBelow_32 ?_
          refine wm_astore_n (lv' := [(3, vR x32), (1, vI v1), (2, vI v2), (4, vI v4)]) E dP_isBelow_35 rfl (by decide) rfl ?_
          refine wm_iinc (lv' := [(4, vI (v4 + 1)), (3, vR x32), (1, vI v1), (2, vI v2)]) (d := 1) E dP_isBelow_36 (by decide) (j := 3) rfl (by decide) rfl ?_
          refine wm_goto (tgt := 9) E dP_isBelow_39 (by decide) ?_
          refine wm_pick (lv' := [(1, vI v1), (2, vI v2), (3, vR x32), (4, vI (v4 + 1))]) [2, 3, 1, 0] rfl ?_
          exact ih v1 v2 x32 (v4 + 1) h
        · have h := (if_pos c25).symm.trans h
          refine wm_iconst (x := 1) E dP_isBelow_28 (by decide) ?_
          obtain ⟨hz29, h⟩ := gdS h
          exact wm_zret (rt := .boolean) E hQ (rqI1 h) rfl (okZN hz29) (by decide) (by decide) dP_isBelow_29
def S_P_isBelow (v0 : Option Nat) (v1 : Int32) (v2 : Int32) (μ : Mem) : Option Int32 := b1 (rc μ v0 7) (fun _ => b1 (S_Pl_aboveOn v0 v2 μ) (fun x2 => B_P_isBelow_9 μ fu v1 v2 x2 0))
set_option maxHeartbeats 4000000 in
set_option maxRecDepth 100000 in
theorem C_P_isBelow (l : Launch) (G : GG) (v0 : Option Nat) (v1 : Int32) (v2 : Int32) (μ : Mem) (r : Int32) (h : S_P_isBelow v0 v1 v2 μ = some r) : CT l G y_P_isBelow prog_1_method_34_code 5 (some .boolean) 4 0 0 86 μ [vR v0, vI v1, vI v2] (some (vI r)) μ := by
  refine wm_met (lv := [(0, vR v0), (1, vI v1), (2, vI v2)]) (by decide +kernel) (Nat.le_of_ble_eq_true rfl) rfl (fun X E hQ hR hI => ?_)
  have h : (b1 (rc μ v0 7) (fun _ => b1 (S_Pl_aboveOn v0 v2 μ) (fun x2 => B_P_isBelow_9 μ fu v1 v2 x2 0))) = some r := h
  refine wm_aload_n E dP_isBelow_0 rfl (j := 0) rfl ?_
  refine wm_iload_n E dP_isBelow_1 rfl (j := 2) rfl ?_
  obtain ⟨u2, hr2, h⟩ := b1S h
  obtain ⟨x2, hc2, h⟩ := b1S h
  refine wm_cV (ci := 7) (As := [vI v2]) (st := []) E lk_P_267 rfl im_Pl_aboveOn sl_Pl_aboveOn hr2 (C_Pl_aboveOn (xl X) X.1 v0 v2 μ _ hc2) rfl rfl (by rw [hR]; decide) (by rw [hR]; decide) (Nat.le_of_ble_eq_true rfl) dP_isBelow_2 ?_
  refine wm_astore_n (lv' := [(3, vR x2), (0, vR v0), (1, vI v1), (2, vI v2)]) E dP_isBelow_5 rfl (by decide) rfl ?_
  refine wm_iconst (x := 0) E dP_isBelow_6 (by decide) ?_
  refine wm_istore (lv' := [(4, vI 0), (3, vR x2), (0, vR v0), (1, vI v1), (2, vI v2)]) E dP_isBelow_7 (by decide) rfl ?_
  refine wm_pick (lv' := [(1, vI v1), (2, vI v2), (3, vR x2), (4, vI 0)]) [3, 4, 1, 0] rfl ?_
  exact w_P_isBelow_9 E hQ hR hI fu v1 v2 x2 0 h
def S_Co_squareFrom (v0 : Option Nat) (v1 : Int32) (v2 : Int32) (v3 : Int32) (μ : Mem) : Option Int32 := b1 (gR μ v0 2 1) (fun x2 => b1 (aI μ x2 0 v1) (fun x6 => b0 (v2 - x6) (fun x8 => b1 (gR μ v0 2 2) (fun x12 => b1 (aI μ x12 0 v1) (fun x16 => b0 (v3 - x16) (fun x18 => some ((x8 * x8) + (x18 * x18))))))))
set_option maxHeartbeats 4000000 in
set_option maxRecDepth 100000 in
theorem C_Co_squareFrom (l : Launch) (G : GG) (v0 : Option Nat) (v1 : Int32) (v2 : Int32) (v3 : Int32) (μ : Mem) (r : Int32) (h : S_Co_squareFrom v0 v1 v2 v3 μ = some r) : CT l G y_Co_squareFrom prog_3_method_7_code 6 (some .int) 0 0 0 0 μ [vR v0, vI v1, vI v2, vI v3] (some (vI r)) μ := by
  refine wm_met (lv := [(0, vR v0), (1, vI v1), (2, vI v2), (3, vI v3)]) (by decide +kernel) (Nat.le_of_ble_eq_true rfl) rfl (fun X E hQ hR hI => ?_)
  have h : (b1 (gR μ v0 2 1) (fun x2 => b1 (aI μ x2 0 v1) (fun x6 => b0 (v2 - x6) (fun x8 => b1 (gR μ v0 2 2) (fun x12 => b1 (aI μ x12 0 v1) (fun x16 => b0 (v3 - x16) (fun x18 => some ((x8 * x8) + (x18 * x18))))))))) = some r := h
  refine wm_iload_n E dCo_squareFrom_0 rfl (j := 2) rfl ?_
  refine wm_aload_n E dCo_squareFrom_1 rfl (j := 0) rfl ?_
  refine wm_gR E fd_Co_21 h dCo_squareFrom_2 (fun x2 h => ?_)
  refine wm_iload_n E dCo_squareFrom_5 rfl (j := 1) rfl ?_
  refine wm_iald (t := 0) E rfl h dCo_squareFrom_6 (fun x6 h => ?_)
  refine wm_isub E dCo_squareFrom_7 ?_
  refine wm_letI h (fun x8 h => ?_)
  refine wm_istore (lv' := [(4, vI x8), (0, vR v0), (1, vI v1), (2, vI v2), (3, vI v3)]) E dCo_squareFrom_8 (by decide) rfl ?_
  refine wm_iload_n E dCo_squareFrom_10 rfl (j := 4) rfl ?_
  refine wm_aload_n E dCo_squareFrom_11 rfl (j := 1) rfl ?_
  refine wm_gR E fd_Co_25 h dCo_squareFrom_12 (fun x12 h => ?_)
  refine wm_iload_n E dCo_squareFrom_15 rfl (j := 2) rfl ?_
  refine wm_iald (t := 0) E rfl h dCo_squareFrom_16 (fun x16 h => ?_)
  refine wm_isub E dCo_squareFrom_17 ?_
  refine wm_letI h (fun x18 h => ?_)
  refine wm_istore (lv' := [(5, vI x18), (4, vI x8), (0, vR v0), (1, vI v1), (2, vI v2), (3, vI v3)]) E dCo_squareFrom_18 (by decide) rfl ?_
  refine wm_iload E dCo_squareFrom_20 (j := 1) rfl ?_
  refine wm_iload E dCo_squareFrom_22 (j := 1) rfl ?_
  refine wm_imul E dCo_squareFrom_24 ?_
  refine wm_iload E dCo_squareFrom_25 (j := 0) rfl ?_
  refine wm_iload E dCo_squareFrom_27 (j := 0) rfl ?_
  refine wm_imul E dCo_squareFrom_29 ?_
  refine wm_iadd E dCo_squareFrom_30 ?_
  exact wm_iret (rt := .int) E hQ (rqI1 h) rfl (by decide) (by decide) dCo_squareFrom_31
def B_Co_squareTo_6 (μ : Mem)   : Nat → Option Nat → Int32 → Int32 → Int32 → Int32 → Option Int32
  | 0, _, _, _, _, _ => none
  | n + 1, v0, v1, v2, v3, v4 => b1 (gI μ v0 2 0) (fun x9 => if x9 ≤ v4 then some (v3) else b1 (rc μ v0 2) (fun _ => b1 (S_Co_squareFrom v0 v4 v1 v2 μ) (fun x21 => b1 (S_Ma_min v3 x21 μ) (fun x24 => (fun v0 v1 v2 v3 v4 => B_Co_squareTo_6 μ n v0 v1 v2 v3 v4) v0 v1 v2 x24 (v4 + 1)))))
set_option maxHeartbeats 4000000 in
set_option maxRecDepth 100000 in
theorem w_Co_squareTo_6 {X : CX} (E : EV X prog_3_method_6_code 5 "PlaceFinder$Corners" (some .int)) {μ0 μ : Mem} {r : Int32} (hQ : RQ X 0 0 μ0 (some (vI r)) μ) (hR : xR X = { frames := 1, cells := 0, slots := 0, locals := 25 }) (hI : X.2.2.2.2.2.2.2.2.2.2.2.1.name = "squareTo")  (n : Nat) : ∀ (v0 : Option Nat) (v1 : Int32) (v2 : Int32) (v3 : Int32) (v4 : Int32) (h : B_Co_squareTo_6 μ  n v0 v1 v2 v3 v4 = some r), WM X 5 6 [(0, vR v0), (1, vI v1), (2, vI v2), (3, vI v3), (4, vI v4)] [] 0 0 μ := by
  induction n with
  | zero => intro v0 v1 v2 v3 v4 h; cases h
  | succ n ih =>
    intro v0 v1 v2 v3 v4 h
    have h : (b1 (gI μ v0 2 0) (fun x9 => if x9 ≤ v4 then some (v3) else b1 (rc μ v0 2) (fun _ => b1 (S_Co_squareFrom v0 v4 v1 v2 μ) (fun x21 => b1 (S_Ma_min v3 x21 μ) (fun x24 => (fun v0 v1 v2 v3 v4 => B_Co_squareTo_6 μ n v0 v1 v2 v3 v4) v0 v1 v2 x24 (v4 + 1)))))) = some r := h
    refine wm_iload E dCo_squareTo_6 (j := 4) rfl ?_
    refine wm_aload_n E dCo_squareTo_8 rfl (j := 0) rfl ?_
    refine wm_gI E fd_Co_9 h dCo_squareTo_9 (fun x9 h => ?_)
    refine wm_icmp_ge (tgt := 34) E dCo_squareTo_12 (by decide) (fun c12 => ?_) (fun c12 => ?_)
    · have h := (if_pos c12).symm.trans h
      refine wm_iload_n E dCo_squareTo_34 rfl (j := 3) rfl ?_
      exact wm_iret (rt := .int) E hQ (rqI1 h) rfl (by decide) (by decide) dCo_squareTo_35
    · have h := (if_neg c12).symm.trans h
      refine wm_iload_n E dCo_squareTo_15 rfl (j := 3) rfl ?_
      refine wm_aload_n E dCo_squareTo_16 rfl (j := 0) rfl ?_
      refine wm_iload E dCo_squareTo_17 (j := 4) rfl ?_
      refine wm_iload_n E dCo_squareTo_19 rfl (j := 1) rfl ?_
      refine wm_iload_n E dCo_squareTo_20 rfl (j := 2) rfl ?_
      obtain ⟨u21, hr21, h⟩ := b1S h
      obtain ⟨x21, hc21, h⟩ := b1S h
      refine wm_cV (ci := 2) (As := [vI v4, vI v1, vI v2]) (st := [vI v3]) E lk_Co_37 rfl im_Co_squareFrom sl_Co_squareFrom hr21 (C_Co_squareFrom (xl X) X.1 v0 v4 v1 v2 μ _ hc21) rfl rfl (by rw [hR]; decide) (by rw [hR]; decide) (Nat.le_of_ble_eq_true rfl) dCo_squareTo_21 ?_
      obtain ⟨x24, hc24, h⟩ := b1S h
      refine wm_cS (As := [vI v3, vI x21]) (st := []) E lk_Co_41 sc_Ma_min (C_Ma_min (xl X) X.1 v3 x21 μ _ hc24) rfl rfl (by rw [hR]; decide) (by rw [hR]; decide) (Nat.le_of_ble_eq_true rfl) dCo_squareTo_24 ?_
      refine wm_istore_n (lv' := [(3, vI x24), (0, vR v0), (1, vI v1), (2, vI v2), (4, vI v4)]) E dCo_squareTo_27 rfl (by decide) rfl ?_
      refine wm_iinc (lv' := [(4, vI (v4 + 1)), (3, vI x24), (0, vR v0), (1, vI v1), (2, vI v2)]) (d := 1) E dCo_squareTo_28 (by decide) (j := 4) rfl (by decide) rfl ?_
      refine wm_goto (tgt := 6) E dCo_squareTo_31 (by decide) ?_
      refine wm_pick (lv' := [(0, vR v0), (1, vI v1), (2, vI v2), (3, vI x24), (4, vI (v4 + 1))]) [2, 3, 4, 1, 0] rfl ?_
      exact ih v0 v1 v2 x24 (v4 + 1) h
def S_Co_squareTo (v0 : Option Nat) (v1 : Int32) (v2 : Int32) (μ : Mem) : Option Int32 := B_Co_squareTo_6 μ fu v0 v1 v2 1073741824 0
set_option maxHeartbeats 4000000 in
set_option maxRecDepth 100000 in
theorem C_Co_squareTo (l : Launch) (G : GG) (v0 : Option Nat) (v1 : Int32) (v2 : Int32) (μ : Mem) (r : Int32) (h : S_Co_squareTo v0 v1 v2 μ = some r) : CT l G y_Co_squareTo prog_3_method_6_code 5 (some .int) 1 0 0 25 μ [vR v0, vI v1, vI v2] (some (vI r)) μ := by
  refine wm_met (lv := [(0, vR v0), (1, vI v1), (2, vI v2)]) (by decide +kernel) (Nat.le_of_ble_eq_true rfl) rfl (fun X E hQ hR hI => ?_)
  have h : (B_Co_squareTo_6 μ fu v0 v1 v2 1073741824 0) = some r := h
  refine wm_ldc (x := 1073741824) E cn_Co_36 dCo_squareTo_0 ?_
  refine wm_istore_n (lv' := [(3, vI 1073741824), (0, vR v0), (1, vI v1), (2, vI v2)]) E dCo_squareTo_2 rfl (by decide) rfl ?_
  refine wm_iconst (x := 0) E dCo_squareTo_3 (by decide) ?_
  refine wm_istore (lv' := [(4, vI 0), (3, vI 1073741824), (0, vR v0), (1, vI v1), (2, vI v2)]) E dCo_squareTo_4 (by decide) rfl ?_
  refine wm_pick (lv' := [(0, vR v0), (1, vI v1), (2, vI v2), (3, vI 1073741824), (4, vI 0)]) [2, 3, 4, 1, 0] rfl ?_
  exact w_Co_squareTo_6 E hQ hR hI fu v0 v1 v2 1073741824 0 h
def B_Lo_compare_21 (μ : Mem)   (s0 : Int32) : Option Int32 := some (s0)
set_option maxHeartbeats 4000000 in
set_option maxRecDepth 100000 in
theorem w_Lo_compare_21 {X : CX} (E : EV X prog_22_method_42_code 4 "java/lang/Long" (some .int)) {μ0 μ : Mem} {r : Int32} (hQ : RQ X 0 0 μ0 (some (vI r)) μ) (hR : xR X = { frames := 0, cells := 0, slots := 0, locals := 0 }) (hI : X.2.2.2.2.2.2.2.2.2.2.2.1.name = "compare")  (s0 : Int32) (h : B_Lo_compare_21 μ  s0 = some r) : WM X 4 21 [] [vI s0] 0 0 μ := by
  have h : (some (s0)) = some r := h
  exact wm_iret (rt := .int) E hQ (rqI1 h) rfl (by decide) (by decide) dLo_compare_21
def S_Lo_compare (v0 : Int64) (v2 : Int64) (μ : Mem) : Option Int32 := if 0 ≤ (lg_cmp v0 v2) then if (lg_cmp v0 v2) = 0 then B_Lo_compare_21 μ 0 else B_Lo_compare_21 μ 1 else B_Lo_compare_21 μ ((-1))
set_option maxHeartbeats 4000000 in
set_option maxRecDepth 100000 in
theorem C_Lo_compare (l : Launch) (G : GG) (v0 : Int64) (v2 : Int64) (μ : Mem) (r : Int32) (h : S_Lo_compare v0 v2 μ = some r) : CT l G y_Lo_compare prog_22_method_42_code 4 (some .int) 0 0 0 0 μ [vL v0, vL v2] (some (vI r)) μ := by
  refine wm_met (lv := [(0, vL v0), (2, vL v2)]) (by decide +kernel) (Nat.le_of_ble_eq_true rfl) rfl (fun X E hQ hR hI => ?_)
  have h : (if 0 ≤ (lg_cmp v0 v2) then if (lg_cmp v0 v2) = 0 then B_Lo_compare_21 μ 0 else B_Lo_compare_21 μ 1 else B_Lo_compare_21 μ ((-1))) = some r := h
  refine wm_lload_n E dLo_compare_0 rfl (j := 0) rfl ?_
  refine wm_lload_n E dLo_compare_1 rfl (j := 1) rfl ?_
  refine wm_lcmp E dLo_compare_2 ?_
  refine wm_if_ge (tgt := 10) E dLo_compare_3 (by decide) (fun c3 => ?_) (fun c3 => ?_)
  · have h := (if_pos c3).symm.trans h
    refine wm_lload_n E dLo_compare_10 rfl (j := 0) rfl ?_
    refine wm_lload_n E dLo_compare_11 rfl (j := 1) rfl ?_
    refine wm_lcmp E dLo_compare_12 ?_
    refine wm_if_ne (tgt := 20) E dLo_compare_13 (by decide) (fun c13 => ?_) (fun c13 => ?_)
    · have h := (if_neg c13).symm.trans h
      refine wm_iconst (x := 1) E dLo_compare_20 (by decide) ?_
      refine wm_pick (lv' := []) [] rfl ?_
      exact w_Lo_compare_21 E hQ hR hI 1 h
    · have h := (if_pos c13).symm.trans h
      refine wm_iconst (x := 0) E dLo_compare_16 (by decide) ?_
      refine wm_goto (tgt := 21) E dLo_compare_17 (by decide) ?_
      refine wm_pick (lv' := []) [] rfl ?_
      exact w_Lo_compare_21 E hQ hR hI 0 h
  · have h := (if_neg c3).symm.trans h
    refine wm_iconst (x := -1) E dLo_compare_6 (by decide) ?_
    refine wm_goto (tgt := 21) E dLo_compare_7 (by decide) ?_
    refine wm_pick (lv' := []) [] rfl ?_
    exact w_Lo_compare_21 E hQ hR hI ((-1)) h
def B_Rs_takeIfBetter_107   (μ : Mem) : Option (Unit × Mem) := some ((), μ)
set_option maxHeartbeats 4000000 in
set_option maxRecDepth 100000 in
theorem w_Rs_takeIfBetter_107 {X : CX} (E : EV X prog_9_method_4_code 10 "PlaceFinder$RouteSearch" none) {μ0 μ' : Mem} {r : Unit} (hQ : RQ X 0 0 μ0 none μ') (hR : xR X = { frames := 1, cells := 0, slots := 0, locals := 23 }) (hI : X.2.2.2.2.2.2.2.2.2.2.2.1.name = "takeIfBetter")   (μ : Mem) (h : B_Rs_takeIfBetter_107   μ = some (r, μ')) : WM X 10 107 [] [] 0 0 μ := by
  have h : (some ((), μ)) = some (r, μ') := h
  exact wm_vret E hQ rfl (rtM h) (by decide) (by decide) dRs_takeIfBetter_107
def B_Rs_takeIfBetter_75  (v0 : Option Nat) (v1 : Int32) (v2 : Int32) (v3 : Int64) (v5 : Int64) (v7 : Int64) (μ : Mem) : Option (Unit × Mem) := b1 (pZ μ v0 8 0 1) (fun m77 => b1 (pV m77 v0 8 1 (vI v1)) (fun m82 => b1 (pV m82 v0 8 2 (vI v2)) (fun m87 => b1 (pV m87 v0 8 3 (vL v3)) (fun m92 => b1 (pV m92 v0 8 4 (vL v5)) (fun m98 => b1 (pV m98 v0 8 5 (vL v7)) (fun m104 => B_Rs_takeIfBetter_107 m104))))))
set_option maxHeartbeats 4000000 in
set_option maxRecDepth 100000 in
theorem w_Rs_takeIfBetter_75 {X : CX} (E : EV X prog_9_method_4_code 10 "PlaceFinder$RouteSearch" none) {μ0 μ' : Mem} {r : Unit} (hQ : RQ X 0 0 μ0 none μ') (hR : xR X = { frames := 1, cells := 0, slots := 0, locals := 23 }) (hI : X.2.2.2.2.2.2.2.2.2.2.2.1.name = "takeIfBetter")  (v0 : Option Nat) (v1 : Int32) (v2 : Int32) (v3 : Int64) (v5 : Int64) (v7 : Int64) (μ : Mem) (h : B_Rs_takeIfBetter_75  v0 v1 v2 v3 v5 v7 μ = some (r, μ')) : WM X 10 75 [(0, vR v0), (1, vI v1), (2, vI v2), (3, vL v3), (5, vL v5), (7, vL v7)] [] 0 0 μ := by
  have h : (b1 (pZ μ v0 8 0 1) (fun m77 => b1 (pV m77 v0 8 1 (vI v1)) (fun m82 => b1 (pV m82 v0 8 2 (vI v2)) (fun m87 => b1 (pV m87 v0 8 3 (vL v3)) (fun m92 => b1 (pV m92 v0 8 4 (vL v5)) (fun m98 => b1 (pV m98 v0 8 5 (vL v7)) (fun m104 => B_Rs_takeIfBetter_107 m104))))))) = some (r, μ') := h
  refine wm_aload_n E dRs_takeIfBetter_75 rfl (j := 0) rfl ?_
  refine wm_iconst (x := 1) E dRs_takeIfBetter_76 (by decide) ?_
  refine wm_pZ E fp_Rs_7 (fun q => by cases q) h dRs_takeIfBetter_77 (fun m77 h => ?_)
  refine wm_aload_n E dRs_takeIfBetter_80 rfl (j := 0) rfl ?_
  refine wm_iload_n E dRs_takeIfBetter_81 rfl (j := 1) rfl ?_
  refine wm_pI E fp_Rs_54 (fun q => by cases q) h dRs_takeIfBetter_82 (fun m82 h => ?_)
  refine wm_aload_n E dRs_takeIfBetter_85 rfl (j := 0) rfl ?_
  refine wm_iload_n E dRs_takeIfBetter_86 rfl (j := 2) rfl ?_
  refine wm_pI E fp_Rs_57 (fun q => by cases q) h dRs_takeIfBetter_87 (fun m87 h => ?_)
  refine wm_aload_n E dRs_takeIfBetter_90 rfl (j := 0) rfl ?_
  refine wm_lload_n E dRs_takeIfBetter_91 rfl (j := 3) rfl ?_
  refine wm_pL E fp_Rs_38 (fun q => by cases q) h dRs_takeIfBetter_92 (fun m92 h => ?_)
  refine wm_aload_n E dRs_takeIfBetter_95 rfl (j := 0) rfl ?_
  refine wm_lload E dRs_takeIfBetter_96 (j := 4) rfl ?_
  refine wm_pL E fp_Rs_51 (fun q => by cases q) h dRs_takeIfBetter_98 (fun m98 h => ?_)
  refine wm_aload_n E dRs_takeIfBetter_101 rfl (j := 0) rfl ?_
  refine wm_lload E dRs_takeIfBetter_102 (j := 5) rfl ?_
  refine wm_pL E fp_Rs_48 (fun q => by cases q) h dRs_takeIfBetter_104 (fun m104 h => ?_)
  refine wm_pick (lv' := []) [] rfl ?_
  exact w_Rs_takeIfBetter_107 E hQ hR hI m104 h
def B_Rs_takeIfBetter_49  (v0 : Option Nat) (v1 : Int32) (v2 : Int32) (v3 : Int64) (v5 : Int64) (v7 : Int64) (v9 : Int32) (μ : Mem) : Option (Unit × Mem) := if v9 < 0 then B_Rs_takeIfBetter_75 v0 v1 v2 v3 v5 v7 μ else if v9 = 0 then b1 (gI μ v0 8 1) (fun x61 => if v1 = x61 then b1 (gI μ v0 8 2) (fun x69 => if x69 ≤ v2 then B_Rs_takeIfBetter_107 μ else B_Rs_takeIfBetter_75 v0 v1 v2 v3 v5 v7 μ) else B_Rs_takeIfBetter_107 μ) else B_Rs_takeIfBetter_107 μ
set_option maxHeartbeats 4000000 in
set_option maxRecDepth 100000 in
theorem w_Rs_takeIfBetter_49 {X : CX} (E : EV X prog_9_method_4_code 10 "PlaceFinder$RouteSearch" none) {μ0 μ' : Mem} {r : Unit} (hQ : RQ X 0 0 μ0 none μ') (hR : xR X = { frames := 1, cells := 0, slots := 0, locals := 23 }) (hI : X.2.2.2.2.2.2.2.2.2.2.2.1.name = "takeIfBetter")  (v0 : Option Nat) (v1 : Int32) (v2 : Int32) (v3 : Int64) (v5 : Int64) (v7 : Int64) (v9 : Int32) (μ : Mem) (h : B_Rs_takeIfBetter_49  v0 v1 v2 v3 v5 v7 v9 μ = some (r, μ')) : WM X 10 49 [(0, vR v0), (1, vI v1), (2, vI v2), (3, vL v3), (5, vL v5), (7, vL v7), (9, vI v9)] [] 0 0 μ := by
  have h : (if v9 < 0 then B_Rs_takeIfBetter_75 v0 v1 v2 v3 v5 v7 μ else if v9 = 0 then b1 (gI μ v0 8 1) (fun x61 => if v1 = x61 then b1 (gI μ v0 8 2) (fun x69 => if x69 ≤ v2 then B_Rs_takeIfBetter_107 μ else B_Rs_takeIfBetter_75 v0 v1 v2 v3 v5 v7 μ) else B_Rs_takeIfBetter_107 μ) else B_Rs_takeIfBetter_107 μ) = some (r, μ') := h
  refine wm_iload E dRs_takeIfBetter_49 (j := 6) rfl ?_
  refine wm_if_lt (tgt := 75) E dRs_takeIfBetter_51 (by decide) (fun c51 => ?_) (fun c51 => ?_)
  · have h := (if_pos c51).symm.trans h
    refine wm_pick (lv' := [(0, vR v0), (1, vI v1), (2, vI v2), (3, vL v3), (5, vL v5), (7, vL v7)]) [0, 1, 2, 3, 4, 5] rfl ?_
    exact w_Rs_takeIfBetter_75 E hQ hR hI v0 v1 v2 v3 v5 v7 μ h
  · have h := (if_neg c51).symm.trans h
    refine wm_iload E dRs_takeIfBetter_54 (j := 6) rfl ?_
    refine wm_if_ne (tgt := 107) E dRs_takeIfBetter_56 (by decide) (fun c56 => ?_) (fun c56 => ?_)
    · have h := (if_neg c56).symm.trans h
      refine wm_pick (lv' := []) [] rfl ?_
      exact w_Rs_takeIfBetter_107 E hQ hR hI μ h
    · have h := (if_pos c56).symm.trans h
      refine wm_iload_n E dRs_takeIfBetter_59 rfl (j := 1) rfl ?_
      refine wm_aload_n E dRs_takeIfBetter_60 rfl (j := 0) rfl ?_
      refine wm_gI E fd_Rs_54 h dRs_takeIfBetter_61 (fun x61 h => ?_)
      refine wm_icmp_ne (tgt := 107) E dRs_takeIfBetter_64 (by decide) (fun c64 => ?_) (fun c64 => ?_)
      · have h := (if_neg c64).symm.trans h
        refine wm_pick (lv' := []) [] rfl ?_
        exact w_Rs_takeIfBetter_107 E hQ hR hI μ h
      · have h := (if_pos c64).symm.trans h
        refine wm_iload_n E dRs_takeIfBetter_67 rfl (j := 2) rfl ?_
        refine wm_aload_n E dRs_takeIfBetter_68 rfl (j := 0) rfl ?_
        refine wm_gI E fd_Rs_57 h dRs_takeIfBetter_69 (fun x69 h => ?_)
        refine wm_icmp_ge (tgt := 107) E dRs_takeIfBetter_72 (by decide) (fun c72 => ?_) (fun c72 => ?_)
        · have h := (if_pos c72).symm.trans h
          refine wm_pick (lv' := []) [] rfl ?_
          exact w_Rs_takeIfBetter_107 E hQ hR hI μ h
        · have h := (if_neg c72).symm.trans h
          refine wm_pick (lv' := [(0, vR v0), (1, vI v1), (2, vI v2), (3, vL v3), (5, vL v5), (7, vL v7)]) [0, 1, 2, 3, 4, 5] rfl ?_
          exact w_Rs_takeIfBetter_75 E hQ hR hI v0 v1 v2 v3 v5 v7 μ h
def B_Rs_takeIfBetter_47  (v0 : Option Nat) (v1 : Int32) (v2 : Int32) (v3 : Int64) (v5 : Int64) (v7 : Int64) (s0 : Int32) (μ : Mem) : Option (Unit × Mem) := B_Rs_takeIfBetter_49 v0 v1 v2 v3 v5 v7 s0 μ
set_option maxHeartbeats 4000000 in
set_option maxRecDepth 100000 in
theorem w_Rs_takeIfBetter_47 {X : CX} (E : EV X prog_9_method_4_code 10 "PlaceFinder$RouteSearch" none) {μ0 μ' : Mem} {r : Unit} (hQ : RQ X 0 0 μ0 none μ') (hR : xR X = { frames := 1, cells := 0, slots := 0, locals := 23 }) (hI : X.2.2.2.2.2.2.2.2.2.2.2.1.name = "takeIfBetter")  (v0 : Option Nat) (v1 : Int32) (v2 : Int32) (v3 : Int64) (v5 : Int64) (v7 : Int64) (s0 : Int32) (μ : Mem) (h : B_Rs_takeIfBetter_47  v0 v1 v2 v3 v5 v7 s0 μ = some (r, μ')) : WM X 10 47 [(0, vR v0), (1, vI v1), (2, vI v2), (3, vL v3), (5, vL v5), (7, vL v7)] [vI s0] 0 0 μ := by
  have h : (B_Rs_takeIfBetter_49 v0 v1 v2 v3 v5 v7 s0 μ) = some (r, μ') := h
  refine wm_istore (lv' := [(9, vI s0), (0, vR v0), (1, vI v1), (2, vI v2), (3, vL v3), (5, vL v5), (7, vL v7)]) E dRs_takeIfBetter_47 (by decide) rfl ?_
  refine wm_pick (lv' := [(0, vR v0), (1, vI v1), (2, vI v2), (3, vL v3), (5, vL v5), (7, vL v7), (9, vI s0)]) [1, 2, 3, 4, 5, 6, 0] rfl ?_
  exact w_Rs_takeIfBetter_49 E hQ hR hI v0 v1 v2 v3 v5 v7 s0 μ h
def S_Rs_takeIfBetter (v0 : Option Nat) (v1 : Int32) (v2 : Int32) (v3 : Int64) (v5 : Int64) (v7 : Int64) (μ : Mem) : Option (Unit × Mem) := b0 ((-1)) (fun x1 => b1 (gI μ v0 8 0) (fun x4 => if x4 = 0 then B_Rs_takeIfBetter_49 v0 v1 v2 v3 v5 v7 x1 μ else b1 (gL μ v0 8 3) (fun x12 => if (lg_cmp v3 x12) = 0 then b1 (gL μ v0 8 5) (fun x33 => b1 (gL μ v0 8 4) (fun x38 => b1 (S_Lo_compare (v5 * x33) (x38 * v7) μ) (fun x44 => B_Rs_takeIfBetter_47 v0 v1 v2 v3 v5 v7 x44 μ))) else b1 (gL μ v0 8 3) (fun x21 => b1 (S_Lo_compare v3 x21 μ) (fun x24 => B_Rs_takeIfBetter_47 v0 v1 v2 v3 v5 v7 x24 μ)))))
set_option maxHeartbeats 4000000 in
set_option maxRecDepth 100000 in
theorem C_Rs_takeIfBetter (l : Launch) (G : GG) (v0 : Option Nat) (v1 : Int32) (v2 : Int32) (v3 : Int64) (v5 : Int64) (v7 : Int64) (μ μ' : Mem) (r : Unit) (h : S_Rs_takeIfBetter v0 v1 v2 v3 v5 v7 μ = some (r, μ')) : CT l G y_Rs_takeIfBetter prog_9_method_4_code 10 none 1 0 0 23 μ [vR v0, vI v1, vI v2, vL v3, vL v5, vL v7] none μ' := by
  refine wm_met (lv := [(0, vR v0), (1, vI v1), (2, vI v2), (3, vL v3), (5, vL v5), (7, vL v7)]) (by decide +kernel) (Nat.le_of_ble_eq_true rfl) rfl (fun X E hQ hR hI => ?_)
  have h : (b0 ((-1)) (fun x1 => b1 (gI μ v0 8 0) (fun x4 => if x4 = 0 then B_Rs_takeIfBetter_49 v0 v1 v2 v3 v5 v7 x1 μ else b1 (gL μ v0 8 3) (fun x12 => if (lg_cmp v3 x12) = 0 then b1 (gL μ v0 8 5) (fun x33 => b1 (gL μ v0 8 4) (fun x38 => b1 (S_Lo_compare (v5 * x33) (x38 * v7) μ) (fun x44 => B_Rs_takeIfBetter_47 v0 v1 v2 v3 v5 v7 x44 μ))) else b1 (gL μ v0 8 3) (fun x21 => b1 (S_Lo_compare v3 x21 μ) (fun x24 => B_Rs_takeIfBetter_47 v0 v1 v2 v3 v5 v7 x24 μ)))))) = some (r, μ') := h
  refine wm_iconst (x := -1) E dRs_takeIfBetter_0 (by decide) ?_
  refine wm_letI h (fun x1 h => ?_)
  refine wm_istore (lv' := [(9, vI x1), (0, vR v0), (1, vI v1), (2, vI v2), (3, vL v3), (5, vL v5), (7, vL v7)]) E dRs_takeIfBetter_1 (by decide) rfl ?_
  refine wm_aload_n E dRs_takeIfBetter_3 rfl (j := 1) rfl ?_
  refine wm_gI E fd_Rs_7 h dRs_takeIfBetter_4 (fun x4 h => ?_)
  refine wm_if_eq (tgt := 49) E dRs_takeIfBetter_7 (by decide) (fun c7 => ?_) (fun c7 => ?_)
  · have h := (if_pos c7).symm.trans h
    refine wm_pick (lv' := [(0, vR v0), (1, vI v1), (2, vI v2), (3, vL v3), (5, vL v5), (7, vL v7), (9, vI x1)]) [1, 2, 3, 4, 5, 6, 0] rfl ?_
    exact w_Rs_takeIfBetter_49 E hQ hR hI v0 v1 v2 v3 v5 v7 x1 μ h
  · have h := (if_neg c7).symm.trans h
    refine wm_lload_n E dRs_takeIfBetter_10 rfl (j := 4) rfl ?_
    refine wm_aload_n E dRs_takeIfBetter_11 rfl (j := 1) rfl ?_
    refine wm_gL E fd_Rs_38 h dRs_takeIfBetter_12 (fun x12 h => ?_)
    refine wm_lcmp E dRs_takeIfBetter_15 ?_
    refine wm_if_eq (tgt := 30) E dRs_takeIfBetter_16 (by decide) (fun c16 => ?_) (fun c16 => ?_)
    · have h := (if_pos c16).symm.trans h
      refine wm_lload E dRs_takeIfBetter_30 (j := 5) rfl ?_
      refine wm_aload_n E dRs_takeIfBetter_32 rfl (j := 1) rfl ?_
      refine wm_gL E fd_Rs_48 h dRs_takeIfBetter_33 (fun x33 h => ?_)
      refine wm_lmul E dRs_takeIfBetter_36 ?_
      refine wm_aload_n E dRs_takeIfBetter_37 rfl (j := 1) rfl ?_
      refine wm_gL E fd_Rs_51 h dRs_takeIfBetter_38 (fun x38 h => ?_)
      refine wm_lload E dRs_takeIfBetter_41 (j := 6) rfl ?_
      refine wm_lmul E dRs_takeIfBetter_43 ?_
      obtain ⟨x44, hc44, h⟩ := b1S h
      refine wm_cS (As := [vL (v5 * x33), vL (x38 * v7)]) (st := []) E lk_Rs_42 sc_Lo_compare (C_Lo_compare (xl X) X.1 (v5 * x33) (x38 * v7) μ _ hc44) rfl rfl (by rw [hR]; decide) (by rw [hR]; decide) (Nat.le_of_ble_eq_true rfl) dRs_takeIfBetter_44 ?_
      refine wm_pick (lv' := [(0, vR v0), (1, vI v1), (2, vI v2), (3, vL v3), (5, vL v5), (7, vL v7)]) [1, 2, 3, 4, 5, 6] rfl ?_
      exact w_Rs_takeIfBetter_47 E hQ hR hI v0 v1 v2 v3 v5 v7 x44 μ h
    · have h := (if_neg c16).symm.trans h
      refine wm_lload_n E dRs_takeIfBetter_19 rfl (j := 4) rfl ?_
      refine wm_aload_n E dRs_takeIfBetter_20 rfl (j := 1) rfl ?_
      refine wm_gL E fd_Rs_38 h dRs_takeIfBetter_21 (fun x21 h => ?_)
      obtain ⟨x24, hc24, h⟩ := b1S h
      refine wm_cS (As := [vL v3, vL x21]) (st := []) E lk_Rs_42 sc_Lo_compare (C_Lo_compare (xl X) X.1 v3 x21 μ _ hc24) rfl rfl (by rw [hR]; decide) (by rw [hR]; decide) (Nat.le_of_ble_eq_true rfl) dRs_takeIfBetter_24 ?_
      refine wm_goto (tgt := 47) E dRs_takeIfBetter_27 (by decide) ?_
      refine wm_pick (lv' := [(0, vR v0), (1, vI v1), (2, vI v2), (3, vL v3), (5, vL v5), (7, vL v7)]) [1, 2, 3, 4, 5, 6] rfl ?_
      exact w_Rs_takeIfBetter_47 E hQ hR hI v0 v1 v2 v3 v5 v7 x24 μ h
def B_Rs_measure_186   (μ : Mem) : Option (Unit × Mem) := some ((), μ)
set_option maxHeartbeats 4000000 in
set_option maxRecDepth 100000 in
theorem w_Rs_measure_186 {X : CX} (E : EV X prog_9_method_3_code 13 "PlaceFinder$RouteSearch" none) {μ0 μ' : Mem} {r : Unit} (hQ : RQ X 0 0 μ0 none μ') (hR : xR X = { frames := 2, cells := 0, slots := 0, locals := 52 }) (hI : X.2.2.2.2.2.2.2.2.2.2.2.1.name = "measure")   (μ : Mem) (h : B_Rs_measure_186   μ = some (r, μ')) : WM X 13 186 [] [] 0 0 μ := by
  have h : (some ((), μ)) = some (r, μ') := h
  exact wm_vret E hQ rfl (rtM h) (by decide) (by decide) dRs_measure_186
def B_Rs_measure_141  (v0 : Option Nat) (v1 : Option Nat) (v2 : Int32) (v3 : Int32) (v4 : Int32) (v9 : Int32) (v10 : Int32) (μ : Mem) : Option (Unit × Mem) := if 0 < v10 then b1 (rc μ v1 2) (fun _ => b1 (S_Co_squareFrom v1 (v2 + 1) v3 v4 μ) (fun x177 => b1 (rc μ v0 8) (fun _ => b2 (S_Rs_takeIfBetter v0 v2 v9 ((x177 : Int32).toInt64) 0 1 μ) (fun x183 m183 => B_Rs_measure_186 m183)))) else b1 (rc μ v1 2) (fun _ => b1 (S_Co_squareFrom v1 v2 v3 v4 μ) (fun x154 => b1 (rc μ v0 8) (fun _ => b2 (S_Rs_takeIfBetter v0 v2 0 ((x154 : Int32).toInt64) 0 1 μ) (fun x160 m160 => B_Rs_measure_186 m160))))
set_option maxHeartbeats 4000000 in
set_option maxRecDepth 100000 in
theorem w_Rs_measure_141 {X : CX} (E : EV X prog_9_method_3_code 13 "PlaceFinder$RouteSearch" none) {μ0 μ' : Mem} {r : Unit} (hQ : RQ X 0 0 μ0 none μ') (hR : xR X = { frames := 2, cells := 0, slots := 0, locals := 52 }) (hI : X.2.2.2.2.2.2.2.2.2.2.2.1.name = "measure")  (v0 : Option Nat) (v1 : Option Nat) (v2 : Int32) (v3 : Int32) (v4 : Int32) (v9 : Int32) (v10 : Int32) (μ : Mem) (h : B_Rs_measure_141  v0 v1 v2 v3 v4 v9 v10 μ = some (r, μ')) : WM X 13 141 [(0, vR v0), (1, vR v1), (2, vI v2), (3, vI v3), (4, vI v4), (9, vI v9), (10, vI v10)] [] 0 0 μ := by
  have h : (if 0 < v10 then b1 (rc μ v1 2) (fun _ => b1 (S_Co_squareFrom v1 (v2 + 1) v3 v4 μ) (fun x177 => b1 (rc μ v0 8) (fun _ => b2 (S_Rs_takeIfBetter v0 v2 v9 ((x177 : Int32).toInt64) 0 1 μ) (fun x183 m183 => B_Rs_measure_186 m183)))) else b1 (rc μ v1 2) (fun _ => b1 (S_Co_squareFrom v1 v2 v3 v4 μ) (fun x154 => b1 (rc μ v0 8) (fun _ => b2 (S_Rs_takeIfBetter v0 v2 0 ((x154 : Int32).toInt64) 0 1 μ) (fun x160 m160 => B_Rs_measure_186 m160))))) = some (r, μ') := h
  refine wm_iload E dRs_measure_141 (j := 6) rfl ?_
  refine wm_if_gt (tgt := 166) E dRs_measure_143 (by decide) (fun c143 => ?_) (fun c143 => ?_)
  · have h := (if_pos c143).symm.trans h
    refine wm_aload_n E dRs_measure_166 rfl (j := 0) rfl ?_
    refine wm_iload_n E dRs_measure_167 rfl (j := 2) rfl ?_
    refine wm_iload E dRs_measure_168 (j := 5) rfl ?_
    refine wm_aload_n E dRs_measure_170 rfl (j := 1) rfl ?_
    refine wm_iload_n E dRs_measure_171 rfl (j := 2) rfl ?_
    refine wm_iconst (x := 1) E dRs_measure_172 (by decide) ?_
    refine wm_iadd E dRs_measure_173 ?_
    refine wm_iload_n E dRs_measure_174 rfl (j := 3) rfl ?_
    refine wm_iload E dRs_measure_175 (j := 4) rfl ?_
    obtain ⟨u177, hr177, h⟩ := b1S h
    obtain ⟨x177, hc177, h⟩ := b1S h
    refine wm_cV (ci := 2) (As := [vI (v2 + 1), vI v3, vI v4]) (st := [vI v9, vI v2, vR v0]) E lk_Rs_34 rfl im_Co_squareFrom sl_Co_squareFrom hr177 (C_Co_squareFrom (xl X) X.1 v1 (v2 + 1) v3 v4 μ _ hc177) rfl rfl (by rw [hR]; decide) (by rw [hR]; decide) (Nat.le_of_ble_eq_true rfl) dRs_measure_177 ?_
    refine wm_i2l E dRs_measure_180 ?_
    refine wm_lconst (x := 0) E dRs_measure_181 (by decide) ?_
    refine wm_lconst (x := 1) E dRs_measure_182 (by decide) ?_
    obtain ⟨u183, hr183, h⟩ := b1S h
    obtain ⟨x183, m183, hc183, h⟩ := b2S h
    refine wm_cV (ci := 8) (As := [vI v2, vI v9, vL ((x177 : Int32).toInt64), vL 0, vL 1]) (st := []) E lk_Rs_30 rfl im_Rs_takeIfBetter sl_Rs_takeIfBetter hr183 (C_Rs_takeIfBetter (xl X) X.1 v0 v2 v9 ((x177 : Int32).toInt64) 0 1 μ _ _ hc183) rfl rfl (by rw [hR]; decide) (by rw [hR]; decide) (Nat.le_of_ble_eq_true rfl) dRs_measure_183 ?_
    refine wm_pick (lv' := []) [] rfl ?_
    exact w_Rs_measure_186 E hQ hR hI m183 h
  · have h := (if_neg c143).symm.trans h
    refine wm_aload_n E dRs_measure_146 rfl (j := 0) rfl ?_
    refine wm_iload_n E dRs_measure_147 rfl (j := 2) rfl ?_
    refine wm_iconst (x := 0) E dRs_measure_148 (by decide) ?_
    refine wm_aload_n E dRs_measure_149 rfl (j := 1) rfl ?_
    refine wm_iload_n E dRs_measure_150 rfl (j := 2) rfl ?_
    refine wm_iload_n E dRs_measure_151 rfl (j := 3) rfl ?_
    refine wm_iload E dRs_measure_152 (j := 4) rfl ?_
    obtain ⟨u154, hr154, h⟩ := b1S h
    obtain ⟨x154, hc154, h⟩ := b1S h
    refine wm_cV (ci := 2) (As := [vI v2, vI v3, vI v4]) (st := [vI 0, vI v2, vR v0]) E lk_Rs_34 rfl im_Co_squareFrom sl_Co_squareFrom hr154 (C_Co_squareFrom (xl X) X.1 v1 v2 v3 v4 μ _ hc154) rfl rfl (by rw [hR]; decide) (by rw [hR]; decide) (Nat.le_of_ble_eq_true rfl) dRs_measure_154 ?_
    refine wm_i2l E dRs_measure_157 ?_
    refine wm_lconst (x := 0) E dRs_measure_158 (by decide) ?_
    refine wm_lconst (x := 1) E dRs_measure_159 (by decide) ?_
    obtain ⟨u160, hr160, h⟩ := b1S h
    obtain ⟨x160, m160, hc160, h⟩ := b2S h
    refine wm_cV (ci := 8) (As := [vI v2, vI 0, vL ((x154 : Int32).toInt64), vL 0, vL 1]) (st := []) E lk_Rs_30 rfl im_Rs_takeIfBetter sl_Rs_takeIfBetter hr160 (C_Rs_takeIfBetter (xl X) X.1 v0 v2 0 ((x154 : Int32).toInt64) 0 1 μ _ _ hc160) rfl rfl (by rw [hR]; decide) (by rw [hR]; decide) (Nat.le_of_ble_eq_true rfl) dRs_measure_160 ?_
    refine wm_goto (tgt := 186) E dRs_measure_163 (by decide) ?_
    refine wm_pick (lv' := []) [] rfl ?_
    exact w_Rs_measure_186 E hQ hR hI m160 h
def S_Rs_measure (v0 : Option Nat) (v1 : Option Nat) (v2 : Int32) (v3 : Int32) (v4 : Int32) (μ : Mem) : Option (Unit × Mem) := b1 (gR μ v1 2 1) (fun x1 => b1 (aI μ x1 0 (v2 + 1)) (fun x7 => b1 (gR μ v1 2 1) (fun x9 => b1 (aI μ x9 0 v2) (fun x13 => b0 (x7 - x13) (fun x15 => b1 (gR μ v1 2 2) (fun x18 => b1 (aI μ x18 0 (v2 + 1)) (fun x24 => b1 (gR μ v1 2 2) (fun x26 => b1 (aI μ x26 0 v2) (fun x30 => b0 (x24 - x30) (fun x32 => b1 (gR μ v1 2 1) (fun x36 => b1 (aI μ x36 0 v2) (fun x40 => b0 (v3 - x40) (fun x42 => b1 (gR μ v1 2 2) (fun x47 => b1 (aI μ x47 0 v2) (fun x51 => b0 (v4 - x51) (fun x53 => b0 ((x15 * x15) + (x32 * x32)) (fun x66 => b0 ((x42 * x15) + (x53 * x32)) (fun x79 => if x79 ≤ 0 then B_Rs_measure_141 v0 v1 v2 v3 v4 x66 x79 μ else if x66 ≤ x79 then B_Rs_measure_141 v0 v1 v2 v3 v4 x66 x79 μ else b0 ((((x15 : Int32).toInt64) * ((x53 : Int32).toInt64)) - (((x32 : Int32).toInt64) * ((x42 : Int32).toInt64))) (fun x108 => gd ((x66 : Int32).toInt64 = 0) (gd ((x66 : Int32).toInt64 = 0) (b1 (rc μ v0 8) (fun _ => b2 (S_Rs_takeIfBetter v0 v2 x79 ((x108 * x108) / ((x66 : Int32).toInt64)) ((x108 * x108) - (x108 * x108) / ((x66 : Int32).toInt64) * ((x66 : Int32).toInt64)) ((x66 : Int32).toInt64) μ) (fun x135 m135 => B_Rs_measure_186 m135)))))))))))))))))))))))
set_option maxHeartbeats 4000000 in
set_option maxRecDepth 100000 in
theorem C_Rs_measure (l : Launch) (G : GG) (v0 : Option Nat) (v1 : Option Nat) (v2 : Int32) (v3 : Int32) (v4 : Int32) (μ μ' : Mem) (r : Unit) (h : S_Rs_measure v0 v1 v2 v3 v4 μ = some (r, μ')) : CT l G y_Rs_measure prog_9_method_3_code 13 none 2 0 0 52 μ [vR v0, vR v1, vI v2, vI v3, vI v4] none μ' := by
  refine wm_met (lv := [(0, vR v0), (1, vR v1), (2, vI v2), (3, vI v3), (4, vI v4)]) (by decide +kernel) (Nat.le_of_ble_eq_true rfl) rfl (fun X E hQ hR hI => ?_)
  have h : (b1 (gR μ v1 2 1) (fun x1 => b1 (aI μ x1 0 (v2 + 1)) (fun x7 => b1 (gR μ v1 2 1) (fun x9 => b1 (aI μ x9 0 v2) (fun x13 => b0 (x7 - x13) (fun x15 => b1 (gR μ v1 2 2) (fun x18 => b1 (aI μ x18 0 (v2 + 1)) (fun x24 => b1 (gR μ v1 2 2) (fun x26 => b1 (aI μ x26 0 v2) (fun x30 => b0 (x24 - x30) (fun x32 => b1 (gR μ v1 2 1) (fun x36 => b1 (aI μ x36 0 v2) (fun x40 => b0 (v3 - x40) (fun x42 => b1 (gR μ v1 2 2) (fun x47 => b1 (aI μ x47 0 v2) (fun x51 => b0 (v4 - x51) (fun x53 => b0 ((x15 * x15) + (x32 * x32)) (fun x66 => b0 ((x42 * x15) + (x53 * x32)) (fun x79 => if x79 ≤ 0 then B_Rs_measure_141 v0 v1 v2 v3 v4 x66 x79 μ else if x66 ≤ x79 then B_Rs_measure_141 v0 v1 v2 v3 v4 x66 x79 μ else b0 ((((x15 : Int32).toInt64) * ((x53 : Int32).toInt64)) - (((x32 : Int32).toInt64) * ((x42 : Int32).toInt64))) (fun x108 => gd ((x66 : Int32).toInt64 = 0) (gd ((x66 : Int32).toInt64 = 0) (b1 (rc μ v0 8) (fun _ => b2 (S_Rs_takeIfBetter v0 v2 x79 ((x108 * x108) / ((x66 : Int32).toInt64)) ((x108 * x108) - (x108 * x108) / ((x66 : Int32).toInt64) * ((x66 : Int32).toInt64)) ((x66 : Int32).toInt64) μ) (fun x135 m135 => B_Rs_measure_186 m135)))))))))))))))))))))))) = some (r, μ') := h
  refine wm_aload_n E dRs_measure_0 rfl (j := 1) rfl ?_
  refine wm_gR E fd_Rs_19 h dRs_measure_1 (fun x1 h => ?_)
  refine wm_iload_n E dRs_measure_4 rfl (j := 2) rfl ?_
  refine wm_iconst (x := 1) E dRs_measure_5 (by decide) ?_
  refine wm_iadd E dRs_measure_6 ?_
  refine wm_iald (t := 0) E rfl h dRs_measure_7 (fun x7 h => ?_)
  refine wm_aload_n E dRs_measure_8 rfl (j := 1) rfl ?_
  refine wm_gR E fd_Rs_19 h dRs_measure_9 (fun x9 h => ?_)
  refine wm_iload_n E dRs_measure_12 rfl (j := 2) rfl ?_
  refine wm_iald (t := 0) E rfl h dRs_measure_13 (fun x13 h => ?_)
  refine wm_isub E dRs_measure_14 ?_
  refine wm_letI h (fun x15 h => ?_)
  refine wm_istore (lv' := [(5, vI x15), (0, vR v0), (1, vR v1), (2, vI v2), (3, vI v3), (4, vI v4)]) E dRs_measure_15 (by decide) rfl ?_
  refine wm_aload_n E dRs_measure_17 rfl (j := 2) rfl ?_
  refine wm_gR E fd_Rs_23 h dRs_measure_18 (fun x18 h => ?_)
  refine wm_iload_n E dRs_measure_21 rfl (j := 3) rfl ?_
  refine wm_iconst (x := 1) E dRs_measure_22 (by decide) ?_
  refine wm_iadd E dRs_measure_23 ?_
  refine wm_iald (t := 0) E rfl h dRs_measure_24 (fun x24 h => ?_)
  refine wm_aload_n E dRs_measure_25 rfl (j := 2) rfl ?_
  refine wm_gR E fd_Rs_23 h dRs_measure_26 (fun x26 h => ?_)
  refine wm_iload_n E dRs_measure_29 rfl (j := 3) rfl ?_
  refine wm_iald (t := 0) E rfl h dRs_measure_30 (fun x30 h => ?_)
  refine wm_isub E dRs_measure_31 ?_
  refine wm_letI h (fun x32 h => ?_)
  refine wm_istore (lv' := [(6, vI x32), (5, vI x15), (0, vR v0), (1, vR v1), (2, vI v2), (3, vI v3), (4, vI v4)]) E dRs_measure_32 (by decide) rfl ?_
  refine wm_iload_n E dRs_measure_34 rfl (j := 5) rfl ?_
  refine wm_aload_n E dRs_measure_35 rfl (j := 3) rfl ?_
  refine wm_gR E fd_Rs_19 h dRs_measure_36 (fun x36 h => ?_)
  refine wm_iload_n E dRs_measure_39 rfl (j := 4) rfl ?_
  refine wm_iald (t := 0) E rfl h dRs_measure_40 (fun x40 h => ?_)
  refine wm_isub E dRs_measure_41 ?_
  refine wm_letI h (fun x42 h => ?_)
  refine wm_istore (lv' := [(7, vI x42), (6, vI x32), (5, vI x15), (0, vR v0), (1, vR v1), (2, vI v2), (3, vI v3), (4, vI v4)]) E dRs_measure_42 (by decide) rfl ?_
  refine wm_iload E dRs_measure_44 (j := 7) rfl ?_
  refine wm_aload_n E dRs_measure_46 rfl (j := 4) rfl ?_
  refine wm_gR E fd_Rs_23 h dRs_measure_47 (fun x47 h => ?_)
  refine wm_iload_n E dRs_measure_50 rfl (j := 5) rfl ?_
  refine wm_iald (t := 0) E rfl h dRs_measure_51 (fun x51 h => ?_)
  refine wm_isub E dRs_measure_52 ?_
  refine wm_letI h (fun x53 h => ?_)
  refine wm_istore (lv' := [(8, vI x53), (7, vI x42), (6, vI x32), (5, vI x15), (0, vR v0), (1, vR v1), (2, vI v2), (3, vI v3), (4, vI v4)]) E dRs_measure_53 (by decide) rfl ?_
  refine wm_iload E dRs_measure_55 (j := 3) rfl ?_
  refine wm_iload E dRs_measure_57 (j := 3) rfl ?_
  refine wm_imul E dRs_measure_59 ?_
  refine wm_iload E dRs_measure_60 (j := 2) rfl ?_
  refine wm_iload E dRs_measure_62 (j := 2) rfl ?_
  refine wm_imul E dRs_measure_64 ?_
  refine wm_iadd E dRs_measure_65 ?_
  refine wm_letI h (fun x66 h => ?_)
  refine wm_istore (lv' := [(9, vI x66), (8, vI x53), (7, vI x42), (6, vI x32), (5, vI x15), (0, vR v0), (1, vR v1), (2, vI v2), (3, vI v3), (4, vI v4)]) E dRs_measure_66 (by decide) rfl ?_
  refine wm_iload E dRs_measure_68 (j := 2) rfl ?_
  refine wm_iload E dRs_measure_70 (j := 4) rfl ?_
  refine wm_imul E dRs_measure_72 ?_
  refine wm_iload E dRs_measure_73 (j := 1) rfl ?_
  refine wm_iload E dRs_measure_75 (j := 3) rfl ?_
  refine wm_imul E dRs_measure_77 ?_
  refine wm_iadd E dRs_measure_78 ?_
  refine wm_letI h (fun x79 h => ?_)
  refine wm_istore (lv' := [(10, vI x79), (9, vI x66), (8, vI x53), (7, vI x42), (6, vI x32), (5, vI x15), (0, vR v0), (1, vR v1), (2, vI v2), (3, vI v3), (4, vI v4)]) E dRs_measure_79 (by decide) rfl ?_
  refine wm_iload E dRs_measure_81 (j := 0) rfl ?_
  refine wm_if_le (tgt := 141) E dRs_measure_83 (by decide) (fun c83 => ?_) (fun c83 => ?_)
  · have h := (if_pos c83).symm.trans h
    refine wm_pick (lv' := [(0, vR v0), (1, vR v1), (2, vI v2), (3, vI v3), (4, vI v4), (9, vI x66), (10, vI x79)]) [6, 7, 8, 9, 10, 1, 0] rfl ?_
    exact w_Rs_measure_141 E hQ hR hI v0 v1 v2 v3 v4 x66 x79 μ h
  · have h := (if_neg c83).symm.trans h
    refine wm_iload E dRs_measure_86 (j := 0) rfl ?_
    refine wm_iload E dRs_measure_88 (j := 1) rfl ?_
    refine wm_icmp_ge (tgt := 141) E dRs_measure_90 (by decide) (fun c90 => ?_) (fun c90 => ?_)
    · have h := (if_pos c90).symm.trans h
      refine wm_pick (lv' := [(0, vR v0), (1, vR v1), (2, vI v2), (3, vI v3), (4, vI v4), (9, vI x66), (10, vI x79)]) [6, 7, 8, 9, 10, 1, 0] rfl ?_
      exact w_Rs_measure_141 E hQ hR hI v0 v1 v2 v3 v4 x66 x79 μ h
    · have h := (if_neg c90).symm.trans h
      refine wm_iload E dRs_measure_93 (j := 5) rfl ?_
      refine wm_i2l E dRs_measure_95 ?_
      refine wm_iload E dRs_measure_96 (j := 2) rfl ?_
      refine wm_i2l E dRs_measure_98 ?_
      refine wm_lmul E dRs_measure_99 ?_
      refine wm_iload E dRs_measure_100 (j := 4) rfl ?_
      refine wm_i2l E dRs_measure_102 ?_
      refine wm_iload E dRs_measure_103 (j := 3) rfl ?_
      refine wm_i2l E dRs_measure_105 ?_
      refine wm_lmul E dRs_measure_106 ?_
      refine wm_lsub E dRs_measure_107 ?_
      refine wm_letJ h (fun x108 h => ?_)
      refine wm_lstore (lv' := [(11, vL x108), (10, vI x79), (9, vI x66), (8, vI x53), (7, vI x42), (6, vI x32), (5, vI x15), (0, vR v0), (1, vR v1), (2, vI v2), (3, vI v3), (4, vI v4)]) E dRs_measure_108 (by decide) rfl ?_
      refine wm_aload_n E dRs_measure_110 rfl (j := 7) rfl ?_
      refine wm_iload_n E dRs_measure_111 rfl (j := 9) rfl ?_
      refine wm_iload E dRs_measure_112 (j := 1) rfl ?_
      refine wm_lload E dRs_measure_114 (j := 0) rfl ?_
      refine wm_lload E dRs_measure_116 (j := 0) rfl ?_
      refine wm_lmul E dRs_measure_118 ?_
      refine wm_iload E dRs_measure_119 (j := 2) rfl ?_
      refine wm_i2l E dRs_measure_121 ?_
      obtain ⟨hz122, h⟩ := gdS h
      refine wm_ldiv E dRs_measure_122 hz122 ?_
      refine wm_lload E dRs_measure_123 (j := 0) rfl ?_
      refine wm_lload E dRs_measure_125 (j := 0) rfl ?_
      refine wm_lmul E dRs_measure_127 ?_
      refine wm_iload E dRs_measure_128 (j := 2) rfl ?_
      refine wm_i2l E dRs_measure_130 ?_
      obtain ⟨hz131, h⟩ := gdS h
      refine wm_lrem E dRs_measure_131 hz131 ?_
      refine wm_iload E dRs_measure_132 (j := 2) rfl ?_
      refine wm_i2l E dRs_measure_134 ?_
      obtain ⟨u135, hr135, h⟩ := b1S h
      obtain ⟨x135, m135, hc135, h⟩ := b2S h
      refine wm_cV (ci := 8) (As := [vI v2, vI x79, vL ((x108 * x108) / ((x66 : Int32).toInt64)), vL ((x108 * x108) - (x108 * x108) / ((x66 : Int32).toInt64) * ((x66 : Int32).toInt64)), vL ((x66 : Int32).toInt64)]) (st := []) E lk_Rs_30 rfl im_Rs_takeIfBetter sl_Rs_takeIfBetter hr135 (C_Rs_takeIfBetter (xl X) X.1 v0 v2 x79 ((x108 * x108) / ((x66 : Int32).toInt64)) ((x108 * x108) - (x108 * x108) / ((x66 : Int32).toInt64) * ((x66 : Int32).toInt64)) ((x66 : Int32).toInt64) μ _ _ hc135) rfl rfl (by rw [hR]; decide) (by rw [hR]; decide) (Nat.le_of_ble_eq_true rfl) dRs_measure_135 ?_
      refine wm_goto (tgt := 186) E dRs_measure_138 (by decide) ?_
      refine wm_pick (lv' := []) [] rfl ?_
      exact w_Rs_measure_186 E hQ hR hI m135 h
def B_Rs_start_20 (k7 : Option Nat → Option Nat → Option Nat → Int32 → Mem → Option (Unit × Mem)) : Nat → Option Nat → Option Nat → Option Nat → Int32 → Int32 → Mem → Option (Unit × Mem)
  | 0, _, _, _, _, _, _ => none
  | n + 1, v0, v1, v2, v3, v4, μ => b1 (gI μ v2 2 0) (fun x23 => if x23 ≤ v4 then k7 v0 v1 v2 (v3 + 1) μ else b1 (gR μ v2 2 1) (fun x33 => b1 (aI μ x33 0 v4) (fun x38 => b1 (gR μ v2 2 2) (fun x40 => b1 (aI μ x40 0 v4) (fun x45 => b1 (rc μ v0 8) (fun _ => b2 (S_Rs_measure v0 v1 v3 x38 x45 μ) (fun x46 m46 => (fun v0 v1 v2 v3 v4 μ => B_Rs_start_20 k7 n v0 v1 v2 v3 v4 μ) v0 v1 v2 v3 (v4 + 1) m46)))))))
set_option maxHeartbeats 4000000 in
set_option maxRecDepth 100000 in
theorem w_Rs_start_20 {X : CX} (E : EV X prog_9_method_2_code 5 "PlaceFinder$RouteSearch" none) {μ0 μ' : Mem} {r : Unit} (hQ : RQ X 0 0 μ0 none μ') (hR : xR X = { frames := 3, cells := 0, slots := 0, locals := 84 }) (hI : X.2.2.2.2.2.2.2.2.2.2.2.1.name = "start") (k7 : Option Nat → Option Nat → Option Nat → Int32 → Mem → Option (Unit × Mem)) (hk7 : ∀ (v0 : Option Nat) (v1 : Option Nat) (v2 : Option Nat) (v3 : Int32) (μ : Mem), k7 v0 v1 v2 v3 μ = some (r, μ') → WM X 5 7 [(0, vR v0), (1, vR v1), (2, vR v2), (3, vI v3)] [] 0 0 μ) (n : Nat) : ∀ (v0 : Option Nat) (v1 : Option Nat) (v2 : Option Nat) (v3 : Int32) (v4 : Int32) (μ : Mem) (h : B_Rs_start_20 k7 n v0 v1 v2 v3 v4 μ = some (r, μ')), WM X 5 20 [(0, vR v0), (1, vR v1), (2, vR v2), (3, vI v3), (4, vI v4)] [] 0 0 μ := by
  induction n with
  | zero => intro v0 v1 v2 v3 v4 μ h; cases h
  | succ n ih =>
    intro v0 v1 v2 v3 v4 μ h
    have h : (b1 (gI μ v2 2 0) (fun x23 => if x23 ≤ v4 then k7 v0 v1 v2 (v3 + 1) μ else b1 (gR μ v2 2 1) (fun x33 => b1 (aI μ x33 0 v4) (fun x38 => b1 (gR μ v2 2 2) (fun x40 => b1 (aI μ x40 0 v4) (fun x45 => b1 (rc μ v0 8) (fun _ => b2 (S_Rs_measure v0 v1 v3 x38 x45 μ) (fun x46 m46 => (fun v0 v1 v2 v3 v4 μ => B_Rs_start_20 k7 n v0 v1 v2 v3 v4 μ) v0 v1 v2 v3 (v4 + 1) m46)))))))) = some (r, μ') := h
    refine wm_iload E dRs_start_20 (j := 4) rfl ?_
    refine wm_aload_n E dRs_start_22 rfl (j := 2) rfl ?_
    refine wm_gI E fd_Rs_13 h dRs_start_23 (fun x23 h => ?_)
    refine wm_icmp_ge (tgt := 55) E dRs_start_26 (by decide) (fun c26 => ?_) (fun c26 => ?_)
    · have h := (if_pos c26).symm.trans h
      refine wm_iinc (lv' := [(3, vI (v3 + 1)), (0, vR v0), (1, vR v1), (2, vR v2), (4, vI v4)]) (d := 1) E dRs_start_55 (by decide) (j := 3) rfl (by decide) rfl ?_
      refine wm_goto (tgt := 7) E dRs_start_58 (by decide) ?_
      refine wm_pick (lv' := [(0, vR v0), (1, vR v1), (2, vR v2), (3, vI (v3 + 1))]) [1, 2, 3, 0] rfl ?_
      exact hk7 v0 v1 v2 (v3 + 1) μ h
    · have h := (if_neg c26).symm.trans h
      refine wm_aload_n E dRs_start_29 rfl (j := 0) rfl ?_
      refine wm_aload_n E dRs_start_30 rfl (j := 1) rfl ?_
      refine wm_iload_n E dRs_start_31 rfl (j := 3) rfl ?_
      refine wm_aload_n E dRs_start_32 rfl (j := 2) rfl ?_
      refine wm_gR E fd_Rs_19 h dRs_start_33 (fun x33 h => ?_)
      refine wm_iload E dRs_start_36 (j := 4) rfl ?_
      refine wm_iald (t := 0) E rfl h dRs_start_38 (fun x38 h => ?_)
      refine wm_aload_n E dRs_start_39 rfl (j := 2) rfl ?_
      refine wm_gR E fd_Rs_23 h dRs_start_40 (fun x40 h => ?_)
      refine wm_iload E dRs_start_43 (j := 4) rfl ?_
      refine wm_iald (t := 0) E rfl h dRs_start_45 (fun x45 h => ?_)
      obtain ⟨u46, hr46, h⟩ := b1S h
      obtain ⟨x46, m46, hc46, h⟩ := b2S h
      refine wm_cV (ci := 8) (As := [vR v1, vI v3, vI x38, vI x45]) (st := []) E lk_Rs_26 rfl im_Rs_measure sl_Rs_measure hr46 (C_Rs_measure (xl X) X.1 v0 v1 v3 x38 x45 μ _ _ hc46) rfl rfl (by rw [hR]; decide) (by rw [hR]; decide) (Nat.le_of_ble_eq_true rfl) dRs_start_46 ?_
      refine wm_iinc (lv' := [(4, vI (v4 + 1)), (0, vR v0), (1, vR v1), (2, vR v2), (3, vI v3)]) (d := 1) E dRs_start_49 (by decide) (j := 4) rfl (by decide) rfl ?_
      refine wm_goto (tgt := 20) E dRs_start_52 (by decide) ?_
      refine wm_pick (lv' := [(0, vR v0), (1, vR v1), (2, vR v2), (3, vI v3), (4, vI (v4 + 1))]) [1, 2, 3, 4, 0] rfl ?_
      exact ih v0 v1 v2 v3 (v4 + 1) m46 h
def B_Rs_start_7  : Nat → Option Nat → Option Nat → Option Nat → Int32 → Mem → Option (Unit × Mem)
  | 0, _, _, _, _, _ => none
  | n + 1, v0, v1, v2, v3, μ => b1 (gI μ v1 2 0) (fun x11 => if x11 ≤ (v3 + 1) then some ((), μ) else B_Rs_start_20 (fun v0 v1 v2 v3 μ => B_Rs_start_7 n v0 v1 v2 v3 μ) fu v0 v1 v2 v3 0 μ)
set_option maxHeartbeats 4000000 in
set_option maxRecDepth 100000 in
theorem w_Rs_start_7 {X : CX} (E : EV X prog_9_method_2_code 5 "PlaceFinder$RouteSearch" none) {μ0 μ' : Mem} {r : Unit} (hQ : RQ X 0 0 μ0 none μ') (hR : xR X = { frames := 3, cells := 0, slots := 0, locals := 84 }) (hI : X.2.2.2.2.2.2.2.2.2.2.2.1.name = "start")  (n : Nat) : ∀ (v0 : Option Nat) (v1 : Option Nat) (v2 : Option Nat) (v3 : Int32) (μ : Mem) (h : B_Rs_start_7  n v0 v1 v2 v3 μ = some (r, μ')), WM X 5 7 [(0, vR v0), (1, vR v1), (2, vR v2), (3, vI v3)] [] 0 0 μ := by
  induction n with
  | zero => intro v0 v1 v2 v3 μ h; cases h
  | succ n ih =>
    intro v0 v1 v2 v3 μ h
    have h : (b1 (gI μ v1 2 0) (fun x11 => if x11 ≤ (v3 + 1) then some ((), μ) else B_Rs_start_20 (fun v0 v1 v2 v3 μ => B_Rs_start_7 n v0 v1 v2 v3 μ) fu v0 v1 v2 v3 0 μ)) = some (r, μ') := h
    refine wm_iload_n E dRs_start_7 rfl (j := 3) rfl ?_
    refine wm_iconst (x := 1) E dRs_start_8 (by decide) ?_
    refine wm_iadd E dRs_start_9 ?_
    refine wm_aload_n E dRs_start_10 rfl (j := 1) rfl ?_
    refine wm_gI E fd_Rs_13 h dRs_start_11 (fun x11 h => ?_)
    refine wm_icmp_ge (tgt := 61) E dRs_start_14 (by decide) (fun c14 => ?_) (fun c14 => ?_)
    · have h := (if_pos c14).symm.trans h
      exact wm_vret E hQ rfl (rtM h) (by decide) (by decide) dRs_start_61
    · have h := (if_neg c14).symm.trans h
      refine wm_iconst (x := 0) E dRs_start_17 (by decide) ?_
      refine wm_istore (lv' := [(4, vI 0), (0, vR v0), (1, vR v1), (2, vR v2), (3, vI v3)]) E dRs_start_18 (by decide) rfl ?_
      refine wm_pick (lv' := [(0, vR v0), (1, vR v1), (2, vR v2), (3, vI v3), (4, vI 0)]) [1, 2, 3, 4, 0] rfl ?_
      exact w_Rs_start_20 E hQ hR hI (fun v0 v1 v2 v3 μ => B_Rs_start_7 n v0 v1 v2 v3 μ) ih fu v0 v1 v2 v3 0 μ h
def S_Rs_start (v0 : Option Nat) (v1 : Option Nat) (v2 : Option Nat) (μ : Mem) : Option (Unit × Mem) := b1 (pZ μ v0 8 0 0) (fun m2 => B_Rs_start_7 fu v0 v1 v2 0 m2)
set_option maxHeartbeats 4000000 in
set_option maxRecDepth 100000 in
theorem C_Rs_start (l : Launch) (G : GG) (v0 : Option Nat) (v1 : Option Nat) (v2 : Option Nat) (μ μ' : Mem) (r : Unit) (h : S_Rs_start v0 v1 v2 μ = some (r, μ')) : CT l G y_Rs_start prog_9_method_2_code 5 none 3 0 0 84 μ [vR v0, vR v1, vR v2] none μ' := by
  refine wm_met (lv := [(0, vR v0), (1, vR v1), (2, vR v2)]) (by decide +kernel) (Nat.le_of_ble_eq_true rfl) rfl (fun X E hQ hR hI => ?_)
  have h : (b1 (pZ μ v0 8 0 0) (fun m2 => B_Rs_start_7 fu v0 v1 v2 0 m2)) = some (r, μ') := h
  refine wm_aload_n E dRs_start_0 rfl (j := 0) rfl ?_
  refine wm_iconst (x := 0) E dRs_start_1 (by decide) ?_
  refine wm_pZ E fp_Rs_7 (fun q => by cases q) h dRs_start_2 (fun m2 h => ?_)
  refine wm_iconst (x := 0) E dRs_start_5 (by decide) ?_
  refine wm_istore_n (lv' := [(3, vI 0), (0, vR v0), (1, vR v1), (2, vR v2)]) E dRs_start_6 rfl (by decide) rfl ?_
  refine wm_pick (lv' := [(0, vR v0), (1, vR v1), (2, vR v2), (3, vI 0)]) [1, 2, 3, 0] rfl ?_
  exact w_Rs_start_7 E hQ hR hI fu v0 v1 v2 0 m2 h
def B_Rs_isWithin_45 (μ : Mem)   (s0 : Int32) : Option Int32 := gd (¬ okZ s0 = true) (some (s0))
set_option maxHeartbeats 4000000 in
set_option maxRecDepth 100000 in
theorem w_Rs_isWithin_45 {X : CX} (E : EV X prog_9_method_5_code 4 "PlaceFinder$RouteSearch" (some .boolean)) {μ0 μ : Mem} {r : Int32} (hQ : RQ X 0 0 μ0 (some (vI r)) μ) (hR : xR X = { frames := 0, cells := 0, slots := 0, locals := 0 }) (hI : X.2.2.2.2.2.2.2.2.2.2.2.1.name = "isWithin")  (s0 : Int32) (h : B_Rs_isWithin_45 μ  s0 = some r) : WM X 4 45 [] [vI s0] 0 0 μ := by
  have h : (gd (¬ okZ s0 = true) (some (s0))) = some r := h
  obtain ⟨hz45, h⟩ := gdS h
  exact wm_zret (rt := .boolean) E hQ (rqI1 h) rfl (okZN hz45) (by decide) (by decide) dRs_isWithin_45
def B_Rs_isWithin_44 (μ : Mem)    : Option Int32 := B_Rs_isWithin_45 μ 0
set_option maxHeartbeats 4000000 in
set_option maxRecDepth 100000 in
theorem w_Rs_isWithin_44 {X : CX} (E : EV X prog_9_method_5_code 4 "PlaceFinder$RouteSearch" (some .boolean)) {μ0 μ : Mem} {r : Int32} (hQ : RQ X 0 0 μ0 (some (vI r)) μ) (hR : xR X = { frames := 0, cells := 0, slots := 0, locals := 0 }) (hI : X.2.2.2.2.2.2.2.2.2.2.2.1.name = "isWithin")   (h : B_Rs_isWithin_44 μ   = some r) : WM X 4 44 [] [] 0 0 μ := by
  have h : (B_Rs_isWithin_45 μ 0) = some r := h
  refine wm_iconst (x := 0) E dRs_isWithin_44 (by decide) ?_
  refine wm_pick (lv' := []) [] rfl ?_
  exact w_Rs_isWithin_45 E hQ hR hI 0 h
def B_Rs_isWithin_40 (μ : Mem)    : Option Int32 := B_Rs_isWithin_45 μ 1
set_option maxHeartbeats 4000000 in
set_option maxRecDepth 100000 in
theorem w_Rs_isWithin_40 {X : CX} (E : EV X prog_9_method_5_code 4 "PlaceFinder$RouteSearch" (some .boolean)) {μ0 μ : Mem} {r : Int32} (hQ : RQ X 0 0 μ0 (some (vI r)) μ) (hR : xR X = { frames := 0, cells := 0, slots := 0, locals := 0 }) (hI : X.2.2.2.2.2.2.2.2.2.2.2.1.name = "isWithin")   (h : B_Rs_isWithin_40 μ   = some r) : WM X 4 40 [] [] 0 0 μ := by
  have h : (B_Rs_isWithin_45 μ 1) = some r := h
  refine wm_iconst (x := 1) E dRs_isWithin_40 (by decide) ?_
  refine wm_goto (tgt := 45) E dRs_isWithin_41 (by decide) ?_
  refine wm_pick (lv' := []) [] rfl ?_
  exact w_Rs_isWithin_45 E hQ hR hI 1 h
def S_Rs_isWithin (v0 : Option Nat) (v1 : Int32) (μ : Mem) : Option Int32 := b0 (((v1 : Int32).toInt64) * ((v1 : Int32).toInt64)) (fun x5 => b1 (gI μ v0 8 0) (fun x7 => if x7 = 0 then B_Rs_isWithin_44 μ  else b1 (gL μ v0 8 3) (fun x14 => if (lg_cmp x14 x5) < 0 then B_Rs_isWithin_40 μ  else b1 (gL μ v0 8 3) (fun x23 => if (lg_cmp x23 x5) = 0 then b1 (gL μ v0 8 4) (fun x32 => if (lg_cmp x32 0) = 0 then B_Rs_isWithin_40 μ  else B_Rs_isWithin_44 μ ) else B_Rs_isWithin_44 μ ))))
set_option maxHeartbeats 4000000 in
set_option maxRecDepth 100000 in
theorem C_Rs_isWithin (l : Launch) (G : GG) (v0 : Option Nat) (v1 : Int32) (μ : Mem) (r : Int32) (h : S_Rs_isWithin v0 v1 μ = some r) : CT l G y_Rs_isWithin prog_9_method_5_code 4 (some .boolean) 0 0 0 0 μ [vR v0, vI v1] (some (vI r)) μ := by
  refine wm_met (lv := [(0, vR v0), (1, vI v1)]) (by decide +kernel) (Nat.le_of_ble_eq_true rfl) rfl (fun X E hQ hR hI => ?_)
  have h : (b0 (((v1 : Int32).toInt64) * ((v1 : Int32).toInt64)) (fun x5 => b1 (gI μ v0 8 0) (fun x7 => if x7 = 0 then B_Rs_isWithin_44 μ  else b1 (gL μ v0 8 3) (fun x14 => if (lg_cmp x14 x5) < 0 then B_Rs_isWithin_40 μ  else b1 (gL μ v0 8 3) (fun x23 => if (lg_cmp x23 x5) = 0 then b1 (gL μ v0 8 4) (fun x32 => if (lg_cmp x32 0) = 0 then B_Rs_isWithin_40 μ  else B_Rs_isWithin_44 μ ) else B_Rs_isWithin_44 μ ))))) = some r := h
  refine wm_iload_n E dRs_isWithin_0 rfl (j := 1) rfl ?_
  refine wm_i2l E dRs_isWithin_1 ?_
  refine wm_iload_n E dRs_isWithin_2 rfl (j := 1) rfl ?_
  refine wm_i2l E dRs_isWithin_3 ?_
  refine wm_lmul E dRs_isWithin_4 ?_
  refine wm_letJ h (fun x5 h => ?_)
  refine wm_lstore_n (lv' := [(2, vL x5), (0, vR v0), (1, vI v1)]) E dRs_isWithin_5 rfl (by decide) rfl ?_
  refine wm_aload_n E dRs_isWithin_6 rfl (j := 1) rfl ?_
  refine wm_gI E fd_Rs_7 h dRs_isWithin_7 (fun x7 h => ?_)
  refine wm_if_eq (tgt := 44) E dRs_isWithin_10 (by decide) (fun c10 => ?_) (fun c10 => ?_)
  · have h := (if_pos c10).symm.trans h
    refine wm_pick (lv' := []) [] rfl ?_
    exact w_Rs_isWithin_44 E hQ hR hI  h
  · have h := (if_neg c10).symm.trans h
    refine wm_aload_n E dRs_isWithin_13 rfl (j := 1) rfl ?_
    refine wm_gL E fd_Rs_38 h dRs_isWithin_14 (fun x14 h => ?_)
    refine wm_lload_n E dRs_isWithin_17 rfl (j := 0) rfl ?_
    refine wm_lcmp E dRs_isWithin_18 ?_
    refine wm_if_lt (tgt := 40) E dRs_isWithin_19 (by decide) (fun c19 => ?_) (fun c19 => ?_)
    · have h := (if_pos c19).symm.trans h
      refine wm_pick (lv' := []) [] rfl ?_
      exact w_Rs_isWithin_40 E hQ hR hI  h
    · have h := (if_neg c19).symm.trans h
      refine wm_aload_n E dRs_isWithin_22 rfl (j := 1) rfl ?_
      refine wm_gL E fd_Rs_38 h dRs_isWithin_23 (fun x23 h => ?_)
      refine wm_lload_n E dRs_isWithin_26 rfl (j := 0) rfl ?_
      refine wm_lcmp E dRs_isWithin_27 ?_
      refine wm_if_ne (tgt := 44) E dRs_isWithin_28 (by decide) (fun c28 => ?_) (fun c28 => ?_)
      · have h := (if_neg c28).symm.trans h
        refine wm_pick (lv' := []) [] rfl ?_
        exact w_Rs_isWithin_44 E hQ hR hI  h
      · have h := (if_pos c28).symm.trans h
        refine wm_aload_n E dRs_isWithin_31 rfl (j := 1) rfl ?_
        refine wm_gL E fd_Rs_51 h dRs_isWithin_32 (fun x32 h => ?_)
        refine wm_lconst (x := 0) E dRs_isWithin_35 (by decide) ?_
        refine wm_lcmp E dRs_isWithin_36 ?_
        refine wm_if_ne (tgt := 44) E dRs_isWithin_37 (by decide) (fun c37 => ?_) (fun c37 => ?_)
        · have h := (if_neg c37).symm.trans h
          refine wm_pick (lv' := []) [] rfl ?_
          exact w_Rs_isWithin_44 E hQ hR hI  h
        · have h := (if_pos c37).symm.trans h
          refine wm_pick (lv' := []) [] rfl ?_
          exact w_Rs_isWithin_40 E hQ hR hI  h
def B_Na_isOf_21 (μ : Mem)   (s0 : Int32) : Option Int32 := gd (¬ okZ s0 = true) (some (s0))
set_option maxHeartbeats 4000000 in
set_option maxRecDepth 100000 in
theorem w_Na_isOf_21 {X : CX} (E : EV X prog_7_method_2_code 2 "PlaceFinder$Name" (some .boolean)) {μ0 μ : Mem} {r : Int32} (hQ : RQ X 0 0 μ0 (some (vI r)) μ) (hR : xR X = { frames := 0, cells := 0, slots := 0, locals := 0 }) (hI : X.2.2.2.2.2.2.2.2.2.2.2.1.name = "isOf")  (s0 : Int32) (h : B_Na_isOf_21 μ  s0 = some r) : WM X 2 21 [] [vI s0] 0 0 μ := by
  have h : (gd (¬ okZ s0 = true) (some (s0))) = some r := h
  obtain ⟨hz21, h⟩ := gdS h
  exact wm_zret (rt := .boolean) E hQ (rqI1 h) rfl (okZN hz21) (by decide) (by decide) dNa_isOf_21
def B_Na_isOf_20 (μ : Mem)    : Option Int32 := B_Na_isOf_21 μ 0
set_option maxHeartbeats 4000000 in
set_option maxRecDepth 100000 in
theorem w_Na_isOf_20 {X : CX} (E : EV X prog_7_method_2_code 2 "PlaceFinder$Name" (some .boolean)) {μ0 μ : Mem} {r : Int32} (hQ : RQ X 0 0 μ0 (some (vI r)) μ) (hR : xR X = { frames := 0, cells := 0, slots := 0, locals := 0 }) (hI : X.2.2.2.2.2.2.2.2.2.2.2.1.name = "isOf")   (h : B_Na_isOf_20 μ   = some r) : WM X 2 20 [] [] 0 0 μ := by
  have h : (B_Na_isOf_21 μ 0) = some r := h
  refine wm_iconst (x := 0) E dNa_isOf_20 (by decide) ?_
  refine wm_pick (lv' := []) [] rfl ?_
  exact w_Na_isOf_21 E hQ hR hI 0 h
def S_Na_isOf (v0 : Option Nat) (v1 : Int32) (μ : Mem) : Option Int32 := b1 (gI μ v0 6 1) (fun x1 => if v1 < x1 then B_Na_isOf_20 μ  else b1 (gI μ v0 6 2) (fun x10 => if x10 < v1 then B_Na_isOf_20 μ  else B_Na_isOf_21 μ 1))
set_option maxHeartbeats 4000000 in
set_option maxRecDepth 100000 in
theorem C_Na_isOf (l : Launch) (G : GG) (v0 : Option Nat) (v1 : Int32) (μ : Mem) (r : Int32) (h : S_Na_isOf v0 v1 μ = some r) : CT l G y_Na_isOf prog_7_method_2_code 2 (some .boolean) 0 0 0 0 μ [vR v0, vI v1] (some (vI r)) μ := by
  refine wm_met (lv := [(0, vR v0), (1, vI v1)]) (by decide +kernel) (Nat.le_of_ble_eq_true rfl) rfl (fun X E hQ hR hI => ?_)
  have h : (b1 (gI μ v0 6 1) (fun x1 => if v1 < x1 then B_Na_isOf_20 μ  else b1 (gI μ v0 6 2) (fun x10 => if x10 < v1 then B_Na_isOf_20 μ  else B_Na_isOf_21 μ 1))) = some r := h
  refine wm_aload_n E dNa_isOf_0 rfl (j := 0) rfl ?_
  refine wm_gI E fd_Na_13 h dNa_isOf_1 (fun x1 h => ?_)
  refine wm_iload_n E dNa_isOf_4 rfl (j := 1) rfl ?_
  refine wm_icmp_gt (tgt := 20) E dNa_isOf_5 (by decide) (fun c5 => ?_) (fun c5 => ?_)
  · have h := (if_pos c5).symm.trans h
    refine wm_pick (lv' := []) [] rfl ?_
    exact w_Na_isOf_20 E hQ hR hI  h
  · have h := (if_neg c5).symm.trans h
    refine wm_iload_n E dNa_isOf_8 rfl (j := 1) rfl ?_
    refine wm_aload_n E dNa_isOf_9 rfl (j := 0) rfl ?_
    refine wm_gI E fd_Na_17 h dNa_isOf_10 (fun x10 h => ?_)
    refine wm_icmp_gt (tgt := 20) E dNa_isOf_13 (by decide) (fun c13 => ?_) (fun c13 => ?_)
    · have h := (if_pos c13).symm.trans h
      refine wm_pick (lv' := []) [] rfl ?_
      exact w_Na_isOf_20 E hQ hR hI  h
    · have h := (if_neg c13).symm.trans h
      refine wm_iconst (x := 1) E dNa_isOf_16 (by decide) ?_
      refine wm_goto (tgt := 21) E dNa_isOf_17 (by decide) ?_
      refine wm_pick (lv' := []) [] rfl ?_
      exact w_Na_isOf_21 E hQ hR hI 1 h
def B_Wo_rank_38 (μ : Mem)  (k4 : Option Nat → Int64 → Int32 → Option Int64) (v0 : Option Nat) (v3 : Int32) (s0 : Int64) (s1 : Int32) : Option Int64 := b0 (s0 + ((s1 : Int32).toInt64)) (fun x40 => k4 v0 x40 (v3 + 1))
set_option maxHeartbeats 4000000 in
set_option maxRecDepth 100000 in
theorem w_Wo_rank_38 {X : CX} (E : EV X prog_11_method_3_code 4 "PlaceFinder$Word" (some .long)) {μ0 μ : Mem} {r : Int64} (hQ : RQ X 0 0 μ0 (some (vL r)) μ) (hR : xR X = { frames := 0, cells := 0, slots := 0, locals := 0 }) (hI : X.2.2.2.2.2.2.2.2.2.2.2.1.name = "rank") (k4 : Option Nat → Int64 → Int32 → Option Int64) (hk4 : ∀ (v0 : Option Nat) (v1 : Int64) (v3 : Int32), k4 v0 v1 v3 = some r → WM X 4 4 [(0, vR v0), (1, vL v1), (3, vI v3)] [] 0 0 μ) (v0 : Option Nat) (v3 : Int32) (s0 : Int64) (s1 : Int32) (h : B_Wo_rank_38 μ k4 v0 v3 s0 s1 = some r) : WM X 4 38 [(0, vR v0), (3, vI v3)] [vI s1, vL s0] 0 0 μ := by
  have h : (b0 (s0 + ((s1 : Int32).toInt64)) (fun x40 => k4 v0 x40 (v3 + 1))) = some r := h
  refine wm_i2l E dWo_rank_38 ?_
  refine wm_ladd E dWo_rank_39 ?_
  refine wm_letJ h (fun x40 h => ?_)
  refine wm_lstore_n (lv' := [(1, vL x40), (0, vR v0), (3, vI v3)]) E dWo_rank_40 rfl (by decide) rfl ?_
  refine wm_iinc (lv' := [(3, vI (v3 + 1)), (1, vL x40), (0, vR v0)]) (d := 1) E dWo_rank_41 (by decide) (j := 2) rfl (by decide) rfl ?_
  refine wm_goto (tgt := 4) E dWo_rank_44 (by decide) ?_
  refine wm_pick (lv' := [(0, vR v0), (1, vL x40), (3, vI (v3 + 1))]) [2, 1, 0] rfl ?_
  exact hk4 v0 x40 (v3 + 1) h
def B_Wo_rank_4 (μ : Mem)   : Nat → Option Nat → Int64 → Int32 → Option Int64
  | 0, _, _, _ => none
  | n + 1, v0, v1, v3 => if 10 ≤ v3 then some (v1) else b1 (gI μ v0 10 1) (fun x17 => if x17 ≤ v3 then B_Wo_rank_38 μ (fun v0 v1 v3 => B_Wo_rank_4 μ n v0 v1 v3) v0 v3 (v1 * 27) 0 else b1 (gR μ v0 10 0) (fun x24 => b1 (aI μ x24 2 v3) (fun x28 => B_Wo_rank_38 μ (fun v0 v1 v3 => B_Wo_rank_4 μ n v0 v1 v3) v0 v3 (v1 * 27) ((x28 - 97) + 1))))
set_option maxHeartbeats 4000000 in
set_option maxRecDepth 100000 in
theorem w_Wo_rank_4 {X : CX} (E : EV X prog_11_method_3_code 4 "PlaceFinder$Word" (some .long)) {μ0 μ : Mem} {r : Int64} (hQ : RQ X 0 0 μ0 (some (vL r)) μ) (hR : xR X = { frames := 0, cells := 0, slots := 0, locals := 0 }) (hI : X.2.2.2.2.2.2.2.2.2.2.2.1.name = "rank")  (n : Nat) : ∀ (v0 : Option Nat) (v1 : Int64) (v3 : Int32) (h : B_Wo_rank_4 μ  n v0 v1 v3 = some r), WM X 4 4 [(0, vR v0), (1, vL v1), (3, vI v3)] [] 0 0 μ := by
  induction n with
  | zero => intro v0 v1 v3 h; cases h
  | succ n ih =>
    intro v0 v1 v3 h
    have h : (if 10 ≤ v3 then some (v1) else b1 (gI μ v0 10 1) (fun x17 => if x17 ≤ v3 then B_Wo_rank_38 μ (fun v0 v1 v3 => B_Wo_rank_4 μ n v0 v1 v3) v0 v3 (v1 * 27) 0 else b1 (gR μ v0 10 0) (fun x24 => b1 (aI μ x24 2 v3) (fun x28 => B_Wo_rank_38 μ (fun v0 v1 v3 => B_Wo_rank_4 μ n v0 v1 v3) v0 v3 (v1 * 27) ((x28 - 97) + 1))))) = some r := h
    refine wm_iload_n E dWo_rank_4 rfl (j := 2) rfl ?_
    refine wm_bipush (x := 10) E dWo_rank_5 (by decide) ?_
    refine wm_icmp_ge (tgt := 47) E dWo_rank_7 (by decide) (fun c7 => ?_) (fun c7 => ?_)
    · have h := (if_pos c7).symm.trans h
      refine wm_lload_n E dWo_rank_47 rfl (j := 1) rfl ?_
      exact wm_lret (rt := .long) E hQ (rqL0 h) rfl (by decide) (by decide) dWo_rank_48
    · have h := (if_neg c7).symm.trans h
      refine wm_lload_n E dWo_rank_10 rfl (j := 1) rfl ?_
      refine wm_ldc2 (x := 27) E cn_Wo_23 dWo_rank_11 ?_
      refine wm_lmul E dWo_rank_14 ?_
      refine wm_iload_n E dWo_rank_15 rfl (j := 2) rfl ?_
      refine wm_aload_n E dWo_rank_16 rfl (j := 0) rfl ?_
      refine wm_gI E fd_Wo_19 h dWo_rank_17 (fun x17 h => ?_)
      refine wm_icmp_ge (tgt := 37) E dWo_rank_20 (by decide) (fun c20 => ?_) (fun c20 => ?_)
      · have h := (if_pos c20).symm.trans h
        refine wm_iconst (x := 0) E dWo_rank_37 (by decide) ?_
        refine wm_pick (lv' := [(0, vR v0), (3, vI v3)]) [0, 2] rfl ?_
        exact w_Wo_rank_38 E hQ hR hI (fun v0 v1 v3 => B_Wo_rank_4 μ n v0 v1 v3) ih v0 v3 (v1 * 27) 0 h
      · have h := (if_neg c20).symm.trans h
        refine wm_aload_n E dWo_rank_23 rfl (j := 0) rfl ?_
        refine wm_gR E fd_Wo_9 h dWo_rank_24 (fun x24 h => ?_)
        refine wm_iload_n E dWo_rank_27 rfl (j := 2) rfl ?_
        refine wm_cald (t := 2) E rfl h dWo_rank_28 (fun x28 h => ?_)
        refine wm_bipush (x := 97) E dWo_rank_29 (by decide) ?_
        refine wm_isub E dWo_rank_31 ?_
        refine wm_iconst (x := 1) E dWo_rank_32 (by decide) ?_
        refine wm_iadd E dWo_rank_33 ?_
        refine wm_goto (tgt := 38) E dWo_rank_34 (by decide) ?_
        refine wm_pick (lv' := [(0, vR v0), (3, vI v3)]) [0, 2] rfl ?_
        exact w_Wo_rank_38 E hQ hR hI (fun v0 v1 v3 => B_Wo_rank_4 μ n v0 v1 v3) ih v0 v3 (v1 * 27) ((x28 - 97) + 1) h
def S_Wo_rank (v0 : Option Nat) (μ : Mem) : Option Int64 := B_Wo_rank_4 μ fu v0 0 0
set_option maxHeartbeats 4000000 in
set_option maxRecDepth 100000 in
theorem C_Wo_rank (l : Launch) (G : GG) (v0 : Option Nat) (μ : Mem) (r : Int64) (h : S_Wo_rank v0 μ = some r) : CT l G y_Wo_rank prog_11_method_3_code 4 (some .long) 0 0 0 0 μ [vR v0] (some (vL r)) μ := by
  refine wm_met (lv := [(0, vR v0)]) (by decide +kernel) (Nat.le_of_ble_eq_true rfl) rfl (fun X E hQ hR hI => ?_)
  have h : (B_Wo_rank_4 μ fu v0 0 0) = some r := h
  refine wm_lconst (x := 0) E dWo_rank_0 (by decide) ?_
  refine wm_lstore_n (lv' := [(1, vL 0), (0, vR v0)]) E dWo_rank_1 rfl (by decide) rfl ?_
  refine wm_iconst (x := 0) E dWo_rank_2 (by decide) ?_
  refine wm_istore_n (lv' := [(3, vI 0), (1, vL 0), (0, vR v0)]) E dWo_rank_3 rfl (by decide) rfl ?_
  refine wm_pick (lv' := [(0, vR v0), (1, vL 0), (3, vI 0)]) [2, 1, 0] rfl ?_
  exact w_Wo_rank_4 E hQ hR hI fu v0 0 0 h
def B_Wo_beginsWith_15 (μ : Mem)   : Nat → Option Nat → Option Nat → Int32 → Option Int32
  | 0, _, _, _ => none
  | n + 1, v0, v1, v2 => b1 (gI μ v1 10 1) (fun x17 => if x17 ≤ v2 then gd (¬ okZ 1 = true) (some (1)) else b1 (gR μ v0 10 0) (fun x24 => b1 (aI μ x24 2 v2) (fun x28 => b1 (gR μ v1 10 0) (fun x30 => b1 (aI μ x30 2 v2) (fun x34 => if x28 = x34 then (fun v0 v1 v2 => B_Wo_beginsWith_15 μ n v0 v1 v2) v0 v1 (v2 + 1) else gd (¬ okZ 0 = true) (some (0)))))))
set_option maxHeartbeats 4000000 in
set_option maxRecDepth 100000 in
theorem w_Wo_beginsWith_15 {X : CX} (E : EV X prog_11_method_4_code 3 "PlaceFinder$Word" (some .boolean)) {μ0 μ : Mem} {r : Int32} (hQ : RQ X 0 0 μ0 (some (vI r)) μ) (hR : xR X = { frames := 0, cells := 0, slots := 0, locals := 0 }) (hI : X.2.2.2.2.2.2.2.2.2.2.2.1.name = "beginsWith")  (n : Nat) : ∀ (v0 : Option Nat) (v1 : Option Nat) (v2 : Int32) (h : B_Wo_beginsWith_15 μ  n v0 v1 v2 = some r), WM X 3 15 [(0, vR v0), (1, vR v1), (2, vI v2)] [] 0 0 μ := by
  induction n with
  | zero => intro v0 v1 v2 h; cases h
  | succ n ih =>
    intro v0 v1 v2 h
    have h : (b1 (gI μ v1 10 1) (fun x17 => if x17 ≤ v2 then gd (¬ okZ 1 = true) (some (1)) else b1 (gR μ v0 10 0) (fun x24 => b1 (aI μ x24 2 v2) (fun x28 => b1 (gR μ v1 10 0) (fun x30 => b1 (aI μ x30 2 v2) (fun x34 => if x28 = x34 then (fun v0 v1 v2 => B_Wo_beginsWith_15 μ n v0 v1 v2) v0 v1 (v2 + 1) else gd (¬ okZ 0 = true) (some (0)))))))) = some r := h
    refine wm_iload_n E dWo_beginsWith_15 rfl (j := 2) rfl ?_
    refine wm_aload_n E dWo_beginsWith_16 rfl (j := 1) rfl ?_
    refine wm_gI E fd_Wo_19 h dWo_beginsWith_17 (fun x17 h => ?_)
    refine wm_icmp_ge (tgt := 46) E dWo_beginsWith_20 (by decide) (fun c20 => ?_) (fun c20 => ?_)
    · have h := (if_pos c20).symm.trans h
      refine wm_iconst (x := 1) E dWo_beginsWith_46 (by decide) ?_
      obtain ⟨hz47, h⟩ := gdS h
      exact wm_zret (rt := .boolean) E hQ (rqI1 h) rfl (okZN hz47) (by decide) (by decide) dWo_beginsWith_47
    · have h := (if_neg c20).symm.trans h
      refine wm_aload_n E dWo_beginsWith_23 rfl (j := 0) rfl ?_
      refine wm_gR E fd_Wo_9 h dWo_beginsWith_24 (fun x24 h => ?_)
      refine wm_iload_n E dWo_beginsWith_27 rfl (j := 2) rfl ?_
      refine wm_cald (t := 2) E rfl h dWo_beginsWith_28 (fun x28 h => ?_)
      refine wm_aload_n E dWo_beginsWith_29 rfl (j := 1) rfl ?_
      refine wm_gR E fd_Wo_9 h dWo_beginsWith_30 (fun x30 h => ?_)
      refine wm_iload_n E dWo_beginsWith_33 rfl (j := 2) rfl ?_
      refine wm_cald (t := 2) E rfl h dWo_beginsWith_34 (fun x34 h => ?_)
      refine wm_icmp_eq (tgt := 40) E dWo_beginsWith_35 (by decide) (fun c35 => ?_) (fun c35 => ?_)
      · have h := (if_pos c35).symm.trans h
        refine wm_iinc (lv' := [(2, vI (v2 + 1)), (0, vR v0), (1, vR v1)]) (d := 1) E dWo_beginsWith_40 (by decide) (j := 2) rfl (by decide) rfl ?_
        refine wm_goto (tgt := 15) E dWo_beginsWith_43 (by decide) ?_
        refine wm_pick (lv' := [(0, vR v0), (1, vR v1), (2, vI (v2 + 1))]) [1, 2, 0] rfl ?_
        exact ih v0 v1 (v2 + 1) h
      · have h := (if_neg c35).symm.trans h
        refine wm_iconst (x := 0) E dWo_beginsWith_38 (by decide) ?_
        obtain ⟨hz39, h⟩ := gdS h
        exact wm_zret (rt := .boolean) E hQ (rqI1 h) rfl (okZN hz39) (by decide) (by decide) dWo_beginsWith_39
def S_Wo_beginsWith (v0 : Option Nat) (v1 : Option Nat) (μ : Mem) : Option Int32 := b1 (gI μ v1 10 1) (fun x1 => b1 (gI μ v0 10 1) (fun x5 => if x1 ≤ x5 then B_Wo_beginsWith_15 μ fu v0 v1 0 else gd (¬ okZ 0 = true) (some (0))))
set_option maxHeartbeats 4000000 in
set_option maxRecDepth 100000 in
theorem C_Wo_beginsWith (l : Launch) (G : GG) (v0 : Option Nat) (v1 : Option Nat) (μ : Mem) (r : Int32) (h : S_Wo_beginsWith v0 v1 μ = some r) : CT l G y_Wo_beginsWith prog_11_method_4_code 3 (some .boolean) 0 0 0 0 μ [vR v0, vR v1] (some (vI r)) μ := by
  refine wm_met (lv := [(0, vR v0), (1, vR v1)]) (by decide +kernel) (Nat.le_of_ble_eq_true rfl) rfl (fun X E hQ hR hI => ?_)
  have h : (b1 (gI μ v1 10 1) (fun x1 => b1 (gI μ v0 10 1) (fun x5 => if x1 ≤ x5 then B_Wo_beginsWith_15 μ fu v0 v1 0 else gd (¬ okZ 0 = true) (some (0))))) = some r := h
  refine wm_aload_n E dWo_beginsWith_0 rfl (j := 1) rfl ?_
  refine wm_gI E fd_Wo_19 h dWo_beginsWith_1 (fun x1 h => ?_)
  refine wm_aload_n E dWo_beginsWith_4 rfl (j := 0) rfl ?_
  refine wm_gI E fd_Wo_19 h dWo_beginsWith_5 (fun x5 h => ?_)
  refine wm_icmp_le (tgt := 13) E dWo_beginsWith_8 (by decide) (fun c8 => ?_) (fun c8 => ?_)
  · have h := (if_pos c8).symm.trans h
    refine wm_iconst (x := 0) E dWo_beginsWith_13 (by decide) ?_
    refine wm_istore_n (lv' := [(2, vI 0), (0, vR v0), (1, vR v1)]) E dWo_beginsWith_14 rfl (by decide) rfl ?_
    refine wm_pick (lv' := [(0, vR v0), (1, vR v1), (2, vI 0)]) [1, 2, 0] rfl ?_
    exact w_Wo_beginsWith_15 E hQ hR hI fu v0 v1 0 h
  · have h := (if_neg c8).symm.trans h
    refine wm_iconst (x := 0) E dWo_beginsWith_11 (by decide) ?_
    obtain ⟨hz12, h⟩ := gdS h
    exact wm_zret (rt := .boolean) E hQ (rqI1 h) rfl (okZN hz12) (by decide) (by decide) dWo_beginsWith_12
def B_Ec_leastFor_9 (μ : Mem)   (v2 : Int32) (v4 : Int32) : Option Int32 := some (v2 + v4)
set_option maxHeartbeats 4000000 in
set_option maxRecDepth 100000 in
theorem w_Ec_leastFor_9 {X : CX} (E : EV X prog_4_method_3_code 9 "PlaceFinder$ErrorCounter" (some .int)) {μ0 μ : Mem} {r : Int32} (hQ : RQ X 0 0 μ0 (some (vI r)) μ) (hR : xR X = { frames := 1, cells := 0, slots := 0, locals := 21 }) (hI : X.2.2.2.2.2.2.2.2.2.2.2.1.name = "leastFor")  (v2 : Int32) (v4 : Int32) (h : B_Ec_leastFor_9 μ  v2 v4 = some r) : WM X 9 9 [(2, vI v2), (4, vI v4)] [] 0 0 μ := by
  have h : (some (v2 + v4)) = some r := h
  refine wm_iload_n E dEc_leastFor_9 rfl (j := 0) rfl ?_
  refine wm_iload E dEc_leastFor_10 (j := 1) rfl ?_
  refine wm_iadd E dEc_leastFor_12 ?_
  exact wm_iret (rt := .int) E hQ (rqI1 h) rfl (by decide) (by decide) dEc_leastFor_13
def B_Ec_leastFor_163 (μ : Mem)   (s0 : Int32) : Option Int32 := some (s0)
set_option maxHeartbeats 4000000 in
set_option maxRecDepth 100000 in
theorem w_Ec_leastFor_163 {X : CX} (E : EV X prog_4_method_3_code 9 "PlaceFinder$ErrorCounter" (some .int)) {μ0 μ : Mem} {r : Int32} (hQ : RQ X 0 0 μ0 (some (vI r)) μ) (hR : xR X = { frames := 1, cells := 0, slots := 0, locals := 21 }) (hI : X.2.2.2.2.2.2.2.2.2.2.2.1.name = "leastFor")  (s0 : Int32) (h : B_Ec_leastFor_163 μ  s0 = some r) : WM X 9 163 [] [vI s0] 0 0 μ := by
  have h : (some (s0)) = some r := h
  exact wm_iret (rt := .int) E hQ (rqI1 h) rfl (by decide) (by decide) dEc_leastFor_163
def B_Ec_leastFor_131 (μ : Mem)   (v0 : Option Nat) (v2 : Int32) (v4 : Int32) (v7 : Int32) (s0 : Int32) : Option Int32 := if s0 = 0 then B_Ec_leastFor_163 μ v7 else b1 (gR μ v0 3 0) (fun x141 => b1 (aR μ x141 6 (v2 - 2)) (fun x147 => b1 (aI μ x147 0 (v4 - 2)) (fun x152 => b1 (S_Ma_min v7 (x152 + 1) μ) (fun x155 => B_Ec_leastFor_163 μ x155))))
set_option maxHeartbeats 4000000 in
set_option maxRecDepth 100000 in
theorem w_Ec_leastFor_131 {X : CX} (E : EV X prog_4_method_3_code 9 "PlaceFinder$ErrorCounter" (some .int)) {μ0 μ : Mem} {r : Int32} (hQ : RQ X 0 0 μ0 (some (vI r)) μ) (hR : xR X = { frames := 1, cells := 0, slots := 0, locals := 21 }) (hI : X.2.2.2.2.2.2.2.2.2.2.2.1.name = "leastFor")  (v0 : Option Nat) (v2 : Int32) (v4 : Int32) (v7 : Int32) (s0 : Int32) (h : B_Ec_leastFor_131 μ  v0 v2 v4 v7 s0 = some r) : WM X 9 131 [(0, vR v0), (2, vI v2), (4, vI v4), (7, vI v7)] [vI s0] 0 0 μ := by
  have h : (if s0 = 0 then B_Ec_leastFor_163 μ v7 else b1 (gR μ v0 3 0) (fun x141 => b1 (aR μ x141 6 (v2 - 2)) (fun x147 => b1 (aI μ x147 0 (v4 - 2)) (fun x152 => b1 (S_Ma_min v7 (x152 + 1) μ) (fun x155 => B_Ec_leastFor_163 μ x155))))) = some r := h
  refine wm_istore (lv' := [(8, vI s0), (0, vR v0), (2, vI v2), (4, vI v4), (7, vI v7)]) E dEc_leastFor_131 (by decide) rfl ?_
  refine wm_iload E dEc_leastFor_133 (j := 0) rfl ?_
  refine wm_if_eq (tgt := 161) E dEc_leastFor_135 (by decide) (fun c135 => ?_) (fun c135 => ?_)
  · have h := (if_pos c135).symm.trans h
    refine wm_iload E dEc_leastFor_161 (j := 4) rfl ?_
    refine wm_pick (lv' := []) [] rfl ?_
    exact w_Ec_leastFor_163 E hQ hR hI v7 h
  · have h := (if_neg c135).symm.trans h
    refine wm_iload E dEc_leastFor_138 (j := 4) rfl ?_
    refine wm_aload_n E dEc_leastFor_140 rfl (j := 1) rfl ?_
    refine wm_gR E fd_Ec_11 h dEc_leastFor_141 (fun x141 h => ?_)
    refine wm_iload_n E dEc_leastFor_144 rfl (j := 2) rfl ?_
    refine wm_iconst (x := 2) E dEc_leastFor_145 (by decide) ?_
    refine wm_isub E dEc_leastFor_146 ?_
    refine wm_aald (t := 6) E rfl rfl h dEc_leastFor_147 (fun x147 h => ?_)
    refine wm_iload E dEc_leastFor_148 (j := 3) rfl ?_
    refine wm_iconst (x := 2) E dEc_leastFor_150 (by decide) ?_
    refine wm_isub E dEc_leastFor_151 ?_
    refine wm_iald (t := 0) E rfl h dEc_leastFor_152 (fun x152 h => ?_)
    refine wm_iconst (x := 1) E dEc_leastFor_153 (by decide) ?_
    refine wm_iadd E dEc_leastFor_154 ?_
    obtain ⟨x155, hc155, h⟩ := b1S h
    refine wm_cS (As := [vI v7, vI (x152 + 1)]) (st := []) E lk_Ec_30 sc_Ma_min (C_Ma_min (xl X) X.1 v7 (x152 + 1) μ _ hc155) rfl rfl (by rw [hR]; decide) (by rw [hR]; decide) (Nat.le_of_ble_eq_true rfl) dEc_leastFor_155 ?_
    refine wm_goto (tgt := 163) E dEc_leastFor_158 (by decide) ?_
    refine wm_pick (lv' := []) [] rfl ?_
    exact w_Ec_leastFor_163 E hQ hR hI x155 h
def B_Ec_leastFor_130 (μ : Mem)   (v0 : Option Nat) (v2 : Int32) (v4 : Int32) (v7 : Int32) : Option Int32 := B_Ec_leastFor_131 μ v0 v2 v4 v7 0
set_option maxHeartbeats 4000000 in
set_option maxRecDepth 100000 in
theorem w_Ec_leastFor_130 {X : CX} (E : EV X prog_4_method_3_code 9 "PlaceFinder$ErrorCounter" (some .int)) {μ0 μ : Mem} {r : Int32} (hQ : RQ X 0 0 μ0 (some (vI r)) μ) (hR : xR X = { frames := 1, cells := 0, slots := 0, locals := 21 }) (hI : X.2.2.2.2.2.2.2.2.2.2.2.1.name = "leastFor")  (v0 : Option Nat) (v2 : Int32) (v4 : Int32) (v7 : Int32) (h : B_Ec_leastFor_130 μ  v0 v2 v4 v7 = some r) : WM X 9 130 [(0, vR v0), (2, vI v2), (4, vI v4), (7, vI v7)] [] 0 0 μ := by
  have h : (B_Ec_leastFor_131 μ v0 v2 v4 v7 0) = some r := h
  refine wm_iconst (x := 0) E dEc_leastFor_130 (by decide) ?_
  refine wm_pick (lv' := [(0, vR v0), (2, vI v2), (4, vI v4), (7, vI v7)]) [0, 1, 2, 3] rfl ?_
  exact w_Ec_leastFor_131 E hQ hR hI v0 v2 v4 v7 0 h
def B_Ec_leastFor_46 (μ : Mem)   (v0 : Option Nat) (v1 : Option Nat) (v2 : Int32) (v3 : Option Nat) (v4 : Int32) (s0 : Int32) (s1 : Int32) : Option Int32 := b0 (s0 + s1) (fun x47 => b1 (gR μ v0 3 0) (fun x50 => b1 (aR μ x50 6 (v2 - 1)) (fun x56 => b1 (aI μ x56 0 v4) (fun x59 => b1 (gR μ v0 3 0) (fun x61 => b1 (aR μ x61 6 v2) (fun x65 => b1 (aI μ x65 0 (v4 - 1)) (fun x70 => b1 (S_Ma_min x59 x70 μ) (fun x71 => b0 (x71 + 1) (fun x76 => b1 (S_Ma_min x47 x76 μ) (fun x82 => if v2 ≤ 1 then B_Ec_leastFor_130 μ v0 v2 v4 x82 else if v4 ≤ 1 then B_Ec_leastFor_130 μ v0 v2 v4 x82 else b1 (aI μ v1 2 (v2 - 1)) (fun x102 => b1 (aI μ v3 2 (v4 - 2)) (fun x108 => if x102 = x108 then b1 (aI μ v1 2 (v2 - 2)) (fun x116 => b1 (aI μ v3 2 (v4 - 1)) (fun x122 => if x116 = x122 then B_Ec_leastFor_131 μ v0 v2 v4 x82 1 else B_Ec_leastFor_130 μ v0 v2 v4 x82)) else B_Ec_leastFor_130 μ v0 v2 v4 x82))))))))))))
set_option maxHeartbeats 4000000 in
set_option maxRecDepth 100000 in
theorem w_Ec_leastFor_46 {X : CX} (E : EV X prog_4_method_3_code 9 "PlaceFinder$ErrorCounter" (some .int)) {μ0 μ : Mem} {r : Int32} (hQ : RQ X 0 0 μ0 (some (vI r)) μ) (hR : xR X = { frames := 1, cells := 0, slots := 0, locals := 21 }) (hI : X.2.2.2.2.2.2.2.2.2.2.2.1.name = "leastFor")  (v0 : Option Nat) (v1 : Option Nat) (v2 : Int32) (v3 : Option Nat) (v4 : Int32) (s0 : Int32) (s1 : Int32) (h : B_Ec_leastFor_46 μ  v0 v1 v2 v3 v4 s0 s1 = some r) : WM X 9 46 [(0, vR v0), (1, vR v1), (2, vI v2), (3, vR v3), (4, vI v4)] [vI s1, vI s0] 0 0 μ := by
  have h : (b0 (s0 + s1) (fun x47 => b1 (gR μ v0 3 0) (fun x50 => b1 (aR μ x50 6 (v2 - 1)) (fun x56 => b1 (aI μ x56 0 v4) (fun x59 => b1 (gR μ v0 3 0) (fun x61 => b1 (aR μ x61 6 v2) (fun x65 => b1 (aI μ x65 0 (v4 - 1)) (fun x70 => b1 (S_Ma_min x59 x70 μ) (fun x71 => b0 (x71 + 1) (fun x76 => b1 (S_Ma_min x47 x76 μ) (fun x82 => if v2 ≤ 1 then B_Ec_leastFor_130 μ v0 v2 v4 x82 else if v4 ≤ 1 then B_Ec_leastFor_130 μ v0 v2 v4 x82 else b1 (aI μ v1 2 (v2 - 1)) (fun x102 => b1 (aI μ v3 2 (v4 - 2)) (fun x108 => if x102 = x108 then b1 (aI μ v1 2 (v2 - 2)) (fun x116 => b1 (aI μ v3 2 (v4 - 1)) (fun x122 => if x116 = x122 then B_Ec_leastFor_131 μ v0 v2 v4 x82 1 else B_Ec_leastFor_130 μ v0 v2 v4 x82)) else B_Ec_leastFor_130 μ v0 v2 v4 x82))))))))))))) = some r := h
  refine wm_iadd E dEc_leastFor_46 ?_
  refine wm_letI h (fun x47 h => ?_)
  refine wm_istore (lv' := [(5, vI x47), (0, vR v0), (1, vR v1), (2, vI v2), (3, vR v3), (4, vI v4)]) E dEc_leastFor_47 (by decide) rfl ?_
  refine wm_aload_n E dEc_leastFor_49 rfl (j := 1) rfl ?_
  refine wm_gR E fd_Ec_11 h dEc_leastFor_50 (fun x50 h => ?_)
  refine wm_iload_n E dEc_leastFor_53 rfl (j := 3) rfl ?_
  refine wm_iconst (x := 1) E dEc_leastFor_54 (by decide) ?_
  refine wm_isub E dEc_leastFor_55 ?_
  refine wm_aald (t := 6) E rfl rfl h dEc_leastFor_56 (fun x56 h => ?_)
  refine wm_iload E dEc_leastFor_57 (j := 5) rfl ?_
  refine wm_iald (t := 0) E rfl h dEc_leastFor_59 (fun x59 h => ?_)
  refine wm_aload_n E dEc_leastFor_60 rfl (j := 1) rfl ?_
  refine wm_gR E fd_Ec_11 h dEc_leastFor_61 (fun x61 h => ?_)
  refine wm_iload_n E dEc_leastFor_64 rfl (j := 3) rfl ?_
  refine wm_aald (t := 6) E rfl rfl h dEc_leastFor_65 (fun x65 h => ?_)
  refine wm_iload E dEc_leastFor_66 (j := 5) rfl ?_
  refine wm_iconst (x := 1) E dEc_leastFor_68 (by decide) ?_
  refine wm_isub E dEc_leastFor_69 ?_
  refine wm_iald (t := 0) E rfl h dEc_leastFor_70 (fun x70 h => ?_)
  obtain ⟨x71, hc71, h⟩ := b1S h
  refine wm_cS (As := [vI x59, vI x70]) (st := []) E lk_Ec_30 sc_Ma_min (C_Ma_min (xl X) X.1 x59 x70 μ _ hc71) rfl rfl (by rw [hR]; decide) (by rw [hR]; decide) (Nat.le_of_ble_eq_true rfl) dEc_leastFor_71 ?_
  refine wm_iconst (x := 1) E dEc_leastFor_74 (by decide) ?_
  refine wm_iadd E dEc_leastFor_75 ?_
  refine wm_letI h (fun x76 h => ?_)
  refine wm_istore (lv' := [(6, vI x76), (5, vI x47), (0, vR v0), (1, vR v1), (2, vI v2), (3, vR v3), (4, vI v4)]) E dEc_leastFor_76 (by decide) rfl ?_
  refine wm_iload E dEc_leastFor_78 (j := 1) rfl ?_
  refine wm_iload E dEc_leastFor_80 (j := 0) rfl ?_
  obtain ⟨x82, hc82, h⟩ := b1S h
  refine wm_cS (As := [vI x47, vI x76]) (st := []) E lk_Ec_30 sc_Ma_min (C_Ma_min (xl X) X.1 x47 x76 μ _ hc82) rfl rfl (by rw [hR]; decide) (by rw [hR]; decide) (Nat.le_of_ble_eq_true rfl) dEc_leastFor_82 ?_
  refine wm_istore (lv' := [(7, vI x82), (6, vI x76), (5, vI x47), (0, vR v0), (1, vR v1), (2, vI v2), (3, vR v3), (4, vI v4)]) E dEc_leastFor_85 (by decide) rfl ?_
  refine wm_iload_n E dEc_leastFor_87 rfl (j := 5) rfl ?_
  refine wm_iconst (x := 1) E dEc_leastFor_88 (by decide) ?_
  refine wm_icmp_le (tgt := 130) E dEc_leastFor_89 (by decide) (fun c89 => ?_) (fun c89 => ?_)
  · have h := (if_pos c89).symm.trans h
    refine wm_pick (lv' := [(0, vR v0), (2, vI v2), (4, vI v4), (7, vI x82)]) [3, 5, 7, 0] rfl ?_
    exact w_Ec_leastFor_130 E hQ hR hI v0 v2 v4 x82 h
  · have h := (if_neg c89).symm.trans h
    refine wm_iload E dEc_leastFor_92 (j := 7) rfl ?_
    refine wm_iconst (x := 1) E dEc_leastFor_94 (by decide) ?_
    refine wm_icmp_le (tgt := 130) E dEc_leastFor_95 (by decide) (fun c95 => ?_) (fun c95 => ?_)
    · have h := (if_pos c95).symm.trans h
      refine wm_pick (lv' := [(0, vR v0), (2, vI v2), (4, vI v4), (7, vI x82)]) [3, 5, 7, 0] rfl ?_
      exact w_Ec_leastFor_130 E hQ hR hI v0 v2 v4 x82 h
    · have h := (if_neg c95).symm.trans h
      refine wm_aload_n E dEc_leastFor_98 rfl (j := 4) rfl ?_
      refine wm_iload_n E dEc_leastFor_99 rfl (j := 5) rfl ?_
      refine wm_iconst (x := 1) E dEc_leastFor_100 (by decide) ?_
      refine wm_isub E dEc_leastFor_101 ?_
      refine wm_cald (t := 2) E rfl h dEc_leastFor_102 (fun x102 h => ?_)
      refine wm_aload_n E dEc_leastFor_103 rfl (j := 6) rfl ?_
      refine wm_iload E dEc_leastFor_104 (j := 7) rfl ?_
      refine wm_iconst (x := 2) E dEc_leastFor_106 (by decide) ?_
      refine wm_isub E dEc_leastFor_107 ?_
      refine wm_cald (t := 2) E rfl h dEc_leastFor_108 (fun x108 h => ?_)
      refine wm_icmp_ne (tgt := 130) E dEc_leastFor_109 (by decide) (fun c109 => ?_) (fun c109 => ?_)
      · have h := (if_neg c109).symm.trans h
        refine wm_pick (lv' := [(0, vR v0), (2, vI v2), (4, vI v4), (7, vI x82)]) [3, 5, 7, 0] rfl ?_
        exact w_Ec_leastFor_130 E hQ hR hI v0 v2 v4 x82 h
      · have h := (if_pos c109).symm.trans h
        refine wm_aload_n E dEc_leastFor_112 rfl (j := 4) rfl ?_
        refine wm_iload_n E dEc_leastFor_113 rfl (j := 5) rfl ?_
        refine wm_iconst (x := 2) E dEc_leastFor_114 (by decide) ?_
        refine wm_isub E dEc_leastFor_115 ?_
        refine wm_cald (t := 2) E rfl h dEc_leastFor_116 (fun x116 h => ?_)
        refine wm_aload_n E dEc_leastFor_117 rfl (j := 6) rfl ?_
        refine wm_iload E dEc_leastFor_118 (j := 7) rfl ?_
        refine wm_iconst (x := 1) E dEc_leastFor_120 (by decide) ?_
        refine wm_isub E dEc_leastFor_121 ?_
        refine wm_cald (t := 2) E rfl h dEc_leastFor_122 (fun x122 h => ?_)
        refine wm_icmp_ne (tgt := 130) E dEc_leastFor_123 (by decide) (fun c123 => ?_) (fun c123 => ?_)
        · have h := (if_neg c123).symm.trans h
          refine wm_pick (lv' := [(0, vR v0), (2, vI v2), (4, vI v4), (7, vI x82)]) [3, 5, 7, 0] rfl ?_
          exact w_Ec_leastFor_130 E hQ hR hI v0 v2 v4 x82 h
        · have h := (if_pos c123).symm.trans h
          refine wm_iconst (x := 1) E dEc_leastFor_126 (by decide) ?_
          refine wm_goto (tgt := 131) E dEc_leastFor_127 (by decide) ?_
          refine wm_pick (lv' := [(0, vR v0), (2, vI v2), (4, vI v4), (7, vI x82)]) [3, 5, 7, 0] rfl ?_
          exact w_Ec_leastFor_131 E hQ hR hI v0 v2 v4 x82 1 h
def S_Ec_leastFor (v0 : Option Nat) (v1 : Option Nat) (v2 : Int32) (v3 : Option Nat) (v4 : Int32) (μ : Mem) : Option Int32 := if v2 = 0 then B_Ec_leastFor_9 μ v2 v4 else if v4 = 0 then B_Ec_leastFor_9 μ v2 v4 else b1 (gR μ v0 3 0) (fun x15 => b1 (aR μ x15 6 (v2 - 1)) (fun x21 => b1 (aI μ x21 0 (v4 - 1)) (fun x26 => b1 (aI μ v1 2 (v2 - 1)) (fun x31 => b1 (aI μ v3 2 (v4 - 1)) (fun x37 => if x31 = x37 then B_Ec_leastFor_46 μ v0 v1 v2 v3 v4 x26 0 else B_Ec_leastFor_46 μ v0 v1 v2 v3 v4 x26 1)))))
set_option maxHeartbeats 4000000 in
set_option maxRecDepth 100000 in
theorem C_Ec_leastFor (l : Launch) (G : GG) (v0 : Option Nat) (v1 : Option Nat) (v2 : Int32) (v3 : Option Nat) (v4 : Int32) (μ : Mem) (r : Int32) (h : S_Ec_leastFor v0 v1 v2 v3 v4 μ = some r) : CT l G y_Ec_leastFor prog_4_method_3_code 9 (some .int) 1 0 0 21 μ [vR v0, vR v1, vI v2, vR v3, vI v4] (some (vI r)) μ := by
  refine wm_met (lv := [(0, vR v0), (1, vR v1), (2, vI v2), (3, vR v3), (4, vI v4)]) (by decide +kernel) (Nat.le_of_ble_eq_true rfl) rfl (fun X E hQ hR hI => ?_)
  have h : (if v2 = 0 then B_Ec_leastFor_9 μ v2 v4 else if v4 = 0 then B_Ec_leastFor_9 μ v2 v4 else b1 (gR μ v0 3 0) (fun x15 => b1 (aR μ x15 6 (v2 - 1)) (fun x21 => b1 (aI μ x21 0 (v4 - 1)) (fun x26 => b1 (aI μ v1 2 (v2 - 1)) (fun x31 => b1 (aI μ v3 2 (v4 - 1)) (fun x37 => if x31 = x37 then B_Ec_leastFor_46 μ v0 v1 v2 v3 v4 x26 0 else B_Ec_leastFor_46 μ v0 v1 v2 v3 v4 x26 1)))))) = some r := h
  refine wm_iload_n E dEc_leastFor_0 rfl (j := 2) rfl ?_
  refine wm_if_eq (tgt := 9) E dEc_leastFor_1 (by decide) (fun c1 => ?_) (fun c1 => ?_)
  · have h := (if_pos c1).symm.trans h
    refine wm_pick (lv' := [(2, vI v2), (4, vI v4)]) [2, 4] rfl ?_
    exact w_Ec_leastFor_9 E hQ hR hI v2 v4 h
  · have h := (if_neg c1).symm.trans h
    refine wm_iload E dEc_leastFor_4 (j := 4) rfl ?_
    refine wm_if_ne (tgt := 14) E dEc_leastFor_6 (by decide) (fun c6 => ?_) (fun c6 => ?_)
    · have h := (if_neg c6).symm.trans h
      refine wm_aload_n E dEc_leastFor_14 rfl (j := 0) rfl ?_
      refine wm_gR E fd_Ec_11 h dEc_leastFor_15 (fun x15 h => ?_)
      refine wm_iload_n E dEc_leastFor_18 rfl (j := 2) rfl ?_
      refine wm_iconst (x := 1) E dEc_leastFor_19 (by decide) ?_
      refine wm_isub E dEc_leastFor_20 ?_
      refine wm_aald (t := 6) E rfl rfl h dEc_leastFor_21 (fun x21 h => ?_)
      refine wm_iload E dEc_leastFor_22 (j := 4) rfl ?_
      refine wm_iconst (x := 1) E dEc_leastFor_24 (by decide) ?_
      refine wm_isub E dEc_leastFor_25 ?_
      refine wm_iald (t := 0) E rfl h dEc_leastFor_26 (fun x26 h => ?_)
      refine wm_aload_n E dEc_leastFor_27 rfl (j := 1) rfl ?_
      refine wm_iload_n E dEc_leastFor_28 rfl (j := 2) rfl ?_
      refine wm_iconst (x := 1) E dEc_leastFor_29 (by decide) ?_
      refine wm_isub E dEc_leastFor_30 ?_
      refine wm_cald (t := 2) E rfl h dEc_leastFor_31 (fun x31 h => ?_)
      refine wm_aload_n E dEc_leastFor_32 rfl (j := 3) rfl ?_
      refine wm_iload E dEc_leastFor_33 (j := 4) rfl ?_
      refine wm_iconst (x := 1) E dEc_leastFor_35 (by decide) ?_
      refine wm_isub E dEc_leastFor_36 ?_
      refine wm_cald (t := 2) E rfl h dEc_leastFor_37 (fun x37 h => ?_)
      refine wm_icmp_ne (tgt := 45) E dEc_leastFor_38 (by decide) (fun c38 => ?_) (fun c38 => ?_)
      · have h := (if_neg c38).symm.trans h
        refine wm_iconst (x := 1) E dEc_leastFor_45 (by decide) ?_
        refine wm_pick (lv' := [(0, vR v0), (1, vR v1), (2, vI v2), (3, vR v3), (4, vI v4)]) [0, 1, 2, 3, 4] rfl ?_
        exact w_Ec_leastFor_46 E hQ hR hI v0 v1 v2 v3 v4 x26 1 h
      · have h := (if_pos c38).symm.trans h
        refine wm_iconst (x := 0) E dEc_leastFor_41 (by decide) ?_
        refine wm_goto (tgt := 46) E dEc_leastFor_42 (by decide) ?_
        refine wm_pick (lv' := [(0, vR v0), (1, vR v1), (2, vI v2), (3, vR v3), (4, vI v4)]) [0, 1, 2, 3, 4] rfl ?_
        exact w_Ec_leastFor_46 E hQ hR hI v0 v1 v2 v3 v4 x26 0 h
    · have h := (if_pos c6).symm.trans h
      refine wm_pick (lv' := [(2, vI v2), (4, vI v4)]) [2, 4] rfl ?_
      exact w_Ec_leastFor_9 E hQ hR hI v2 v4 h
