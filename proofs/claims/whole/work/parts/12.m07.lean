def B_M_news_65 (k17 : Option Nat → Int32 → Int32 → Mem → Option (Int32 × Mem)) (v0 : Option Nat) (v1 : Int32) (v2 : Int32) (μ : Mem) : Option (Int32 × Mem) := k17 v0 v1 (v2 + 1) μ
set_option maxHeartbeats 4000000 in
set_option maxRecDepth 100000 in
theorem w_M_news_65 {X : CX} (E : EV X prog_13_method_57_code 3 "PlaceFinderModel" (some .int)) {μ0 μ' : Mem} {r : Int32} (hQ : RQ X 0 0 μ0 (some (vI r)) μ') (hR : xR X = { frames := 5, cells := 0, slots := 0, locals := 141 }) (hI : X.2.2.2.2.2.2.2.2.2.2.2.1.name = "news") (k17 : Option Nat → Int32 → Int32 → Mem → Option (Int32 × Mem)) (hk17 : ∀ (v0 : Option Nat) (v1 : Int32) (v2 : Int32) (μ : Mem), k17 v0 v1 v2 μ = some (r, μ') → WM X 3 17 [(0, vR v0), (1, vI v1), (2, vI v2)] [] 0 0 μ) (v0 : Option Nat) (v1 : Int32) (v2 : Int32) (μ : Mem) (h : B_M_news_65 k17 v0 v1 v2 μ = some (r, μ')) : WM X 3 65 [(0, vR v0), (1, vI v1), (2, vI v2)] [] 0 0 μ := by
  have h : (k17 v0 v1 (v2 + 1) μ) = some (r, μ') := h
  refine wm_iinc (lv' := [(2, vI (v2 + 1)), (0, vR v0), (1, vI v1)]) (d := 1) E dM_news_65 (by decide) (j := 2) rfl (by decide) rfl ?_
  refine wm_goto (tgt := 17) E dM_news_68 (by decide) ?_
  refine wm_pick (lv' := [(0, vR v0), (1, vI v1), (2, vI (v2 + 1))]) [1, 2, 0] rfl ?_
  exact hk17 v0 v1 (v2 + 1) μ h
def B_M_news_17  : Nat → Option Nat → Int32 → Int32 → Mem → Option (Int32 × Mem)
  | 0, _, _, _, _ => none
  | n + 1, v0, v1, v2, μ => b1 (gI μ v0 12 1) (fun x19 => if x19 ≤ v2 then b1 (gI μ v0 12 36) (fun x72 => some (x72, μ)) else b1 (gR μ v0 12 35) (fun x26 => b1 (aI μ x26 0 (v1 + 1)) (fun x32 => if ((x32 >>> (v2 &&& 31)) &&& 1) = 0 then b1 (gR μ v0 12 33) (fun x43 => b1 (aI μ x43 0 (v1 + 1)) (fun x49 => b1 (rc μ v0 12) (fun _ => b2 (S_M_meets v0 v2 x49 (v1 + 1) μ) (fun x53 m53 => if x53 = 0 then B_M_news_65 (fun v0 v1 v2 μ => B_M_news_17 n v0 v1 v2 μ) v0 v1 v2 m53 else b1 (rc m53 v0 12) (fun _ => b2 (S_M_insert v0 v2 0 m53) (fun x62 m62 => B_M_news_65 (fun v0 v1 v2 μ => B_M_news_17 n v0 v1 v2 μ) v0 v1 v2 m62)))))) else B_M_news_65 (fun v0 v1 v2 μ => B_M_news_17 n v0 v1 v2 μ) v0 v1 v2 μ)))
set_option maxHeartbeats 4000000 in
set_option maxRecDepth 100000 in
theorem w_M_news_17 {X : CX} (E : EV X prog_13_method_57_code 3 "PlaceFinderModel" (some .int)) {μ0 μ' : Mem} {r : Int32} (hQ : RQ X 0 0 μ0 (some (vI r)) μ') (hR : xR X = { frames := 5, cells := 0, slots := 0, locals := 141 }) (hI : X.2.2.2.2.2.2.2.2.2.2.2.1.name = "news")  (n : Nat) : ∀ (v0 : Option Nat) (v1 : Int32) (v2 : Int32) (μ : Mem) (h : B_M_news_17  n v0 v1 v2 μ = some (r, μ')), WM X 3 17 [(0, vR v0), (1, vI v1), (2, vI v2)] [] 0 0 μ := by
  induction n with
  | zero => intro v0 v1 v2 μ h; cases h
  | succ n ih =>
    intro v0 v1 v2 μ h
    have h : (b1 (gI μ v0 12 1) (fun x19 => if x19 ≤ v2 then b1 (gI μ v0 12 36) (fun x72 => some (x72, μ)) else b1 (gR μ v0 12 35) (fun x26 => b1 (aI μ x26 0 (v1 + 1)) (fun x32 => if ((x32 >>> (v2 &&& 31)) &&& 1) = 0 then b1 (gR μ v0 12 33) (fun x43 => b1 (aI μ x43 0 (v1 + 1)) (fun x49 => b1 (rc μ v0 12) (fun _ => b2 (S_M_meets v0 v2 x49 (v1 + 1) μ) (fun x53 m53 => if x53 = 0 then B_M_news_65 (fun v0 v1 v2 μ => B_M_news_17 n v0 v1 v2 μ) v0 v1 v2 m53 else b1 (rc m53 v0 12) (fun _ => b2 (S_M_insert v0 v2 0 m53) (fun x62 m62 => B_M_news_65 (fun v0 v1 v2 μ => B_M_news_17 n v0 v1 v2 μ) v0 v1 v2 m62)))))) else B_M_news_65 (fun v0 v1 v2 μ => B_M_news_17 n v0 v1 v2 μ) v0 v1 v2 μ)))) = some (r, μ') := h
    refine wm_iload_n E dM_news_17 rfl (j := 2) rfl ?_
    refine wm_aload_n E dM_news_18 rfl (j := 0) rfl ?_
    refine wm_gI E fd_M_136 h dM_news_19 (fun x19 h => ?_)
    refine wm_icmp_ge (tgt := 71) E dM_news_22 (by decide) (fun c22 => ?_) (fun c22 => ?_)
    · have h := (if_pos c22).symm.trans h
      refine wm_aload_n E dM_news_71 rfl (j := 0) rfl ?_
      refine wm_gI E fd_M_284 h dM_news_72 (fun x72 h => ?_)
      exact wm_iret (rt := .int) E hQ (rtI h) (rtM h) (by decide) (by decide) dM_news_75
    · have h := (if_neg c22).symm.trans h
      refine wm_aload_n E dM_news_25 rfl (j := 0) rfl ?_
      refine wm_gR E fd_M_104 h dM_news_26 (fun x26 h => ?_)
      refine wm_iload_n E dM_news_29 rfl (j := 1) rfl ?_
      refine wm_iconst (x := 1) E dM_news_30 (by decide) ?_
      refine wm_iadd E dM_news_31 ?_
      refine wm_iald (t := 0) E rfl h dM_news_32 (fun x32 h => ?_)
      refine wm_iload_n E dM_news_33 rfl (j := 2) rfl ?_
      refine wm_ishr E dM_news_34 ?_
      refine wm_iconst (x := 1) E dM_news_35 (by decide) ?_
      refine wm_iand E dM_news_36 ?_
      refine wm_if_ne (tgt := 65) E dM_news_37 (by decide) (fun c37 => ?_) (fun c37 => ?_)
      · have h := (if_neg c37).symm.trans h
        refine wm_pick (lv' := [(0, vR v0), (1, vI v1), (2, vI v2)]) [0, 1, 2] rfl ?_
        exact w_M_news_65 E hQ hR hI (fun v0 v1 v2 μ => B_M_news_17 n v0 v1 v2 μ) ih v0 v1 v2 μ h
      · have h := (if_pos c37).symm.trans h
        refine wm_aload_n E dM_news_40 rfl (j := 0) rfl ?_
        refine wm_iload_n E dM_news_41 rfl (j := 2) rfl ?_
        refine wm_aload_n E dM_news_42 rfl (j := 0) rfl ?_
        refine wm_gR E fd_M_97 h dM_news_43 (fun x43 h => ?_)
        refine wm_iload_n E dM_news_46 rfl (j := 1) rfl ?_
        refine wm_iconst (x := 1) E dM_news_47 (by decide) ?_
        refine wm_iadd E dM_news_48 ?_
        refine wm_iald (t := 0) E rfl h dM_news_49 (fun x49 h => ?_)
        refine wm_iload_n E dM_news_50 rfl (j := 1) rfl ?_
        refine wm_iconst (x := 1) E dM_news_51 (by decide) ?_
        refine wm_iadd E dM_news_52 ?_
        obtain ⟨u53, hr53, h⟩ := b1S h
        obtain ⟨x53, m53, hc53, h⟩ := b2S h
        refine wm_cV (ci := 12) (As := [vI v2, vI x49, vI (v1 + 1)]) (st := []) E lk_M_291 rfl im_M_meets sl_M_meets hr53 (C_M_meets (xl X) X.1 v0 v2 x49 (v1 + 1) μ _ _ hc53) rfl rfl (by rw [hR]; decide) (by rw [hR]; decide) (Nat.le_of_ble_eq_true rfl) dM_news_53 ?_
        refine wm_if_eq (tgt := 65) E dM_news_56 (by decide) (fun c56 => ?_) (fun c56 => ?_)
        · have h := (if_pos c56).symm.trans h
          refine wm_pick (lv' := [(0, vR v0), (1, vI v1), (2, vI v2)]) [0, 1, 2] rfl ?_
          exact w_M_news_65 E hQ hR hI (fun v0 v1 v2 μ => B_M_news_17 n v0 v1 v2 μ) ih v0 v1 v2 m53 h
        · have h := (if_neg c56).symm.trans h
          refine wm_aload_n E dM_news_59 rfl (j := 0) rfl ?_
          refine wm_iload_n E dM_news_60 rfl (j := 2) rfl ?_
          refine wm_iconst (x := 0) E dM_news_61 (by decide) ?_
          obtain ⟨u62, hr62, h⟩ := b1S h
          obtain ⟨x62, m62, hc62, h⟩ := b2S h
          refine wm_cV (ci := 12) (As := [vI v2, vI 0]) (st := []) E lk_M_297 rfl im_M_insert sl_M_insert hr62 (C_M_insert (xl X) X.1 v0 v2 0 m53 _ _ hc62) rfl rfl (by rw [hR]; decide) (by rw [hR]; decide) (Nat.le_of_ble_eq_true rfl) dM_news_62 ?_
          refine wm_pick (lv' := [(0, vR v0), (1, vI v1), (2, vI v2)]) [0, 1, 2] rfl ?_
          exact w_M_news_65 E hQ hR hI (fun v0 v1 v2 μ => B_M_news_17 n v0 v1 v2 μ) ih v0 v1 v2 m62 h
def S_M_news (v0 : Option Nat) (v1 : Int32) (μ : Mem) : Option (Int32 × Mem) := b1 (rc μ v0 12) (fun _ => b2 (S_M_isWatch v0 v1 μ) (fun x2 m2 => if x2 = 0 then some (0, m2) else b1 (pV m2 v0 12 36 (vI 0)) (fun m12 => B_M_news_17 fu v0 v1 0 m12)))
set_option maxHeartbeats 4000000 in
set_option maxRecDepth 100000 in
theorem C_M_news (l : Launch) (G : GG) (v0 : Option Nat) (v1 : Int32) (μ μ' : Mem) (r : Int32) (h : S_M_news v0 v1 μ = some (r, μ')) : CT l G y_M_news prog_13_method_57_code 3 (some .int) 5 0 0 141 μ [vR v0, vI v1] (some (vI r)) μ' := by
  refine wm_met (lv := [(0, vR v0), (1, vI v1)]) (by decide +kernel) (Nat.le_of_ble_eq_true rfl) rfl (fun X E hQ hR hI => ?_)
  have h : (b1 (rc μ v0 12) (fun _ => b2 (S_M_isWatch v0 v1 μ) (fun x2 m2 => if x2 = 0 then some (0, m2) else b1 (pV m2 v0 12 36 (vI 0)) (fun m12 => B_M_news_17 fu v0 v1 0 m12)))) = some (r, μ') := h
  refine wm_aload_n E dM_news_0 rfl (j := 0) rfl ?_
  refine wm_iload_n E dM_news_1 rfl (j := 1) rfl ?_
  obtain ⟨u2, hr2, h⟩ := b1S h
  obtain ⟨x2, m2, hc2, h⟩ := b2S h
  refine wm_cV (ci := 12) (As := [vI v1]) (st := []) E lk_M_301 rfl im_M_isWatch sl_M_isWatch hr2 (C_M_isWatch (xl X) X.1 v0 v1 μ _ _ hc2) rfl rfl (by rw [hR]; decide) (by rw [hR]; decide) (Nat.le_of_ble_eq_true rfl) dM_news_2 ?_
  refine wm_if_ne (tgt := 10) E dM_news_5 (by decide) (fun c5 => ?_) (fun c5 => ?_)
  · have h := (if_neg c5).symm.trans h
    refine wm_aload_n E dM_news_10 rfl (j := 0) rfl ?_
    refine wm_iconst (x := 0) E dM_news_11 (by decide) ?_
    refine wm_pI E fp_M_284 (fun q => by cases q) h dM_news_12 (fun m12 h => ?_)
    refine wm_iconst (x := 0) E dM_news_15 (by decide) ?_
    refine wm_istore_n (lv' := [(2, vI 0), (0, vR v0), (1, vI v1)]) E dM_news_16 rfl (by decide) rfl ?_
    refine wm_pick (lv' := [(0, vR v0), (1, vI v1), (2, vI 0)]) [1, 2, 0] rfl ?_
    exact w_M_news_17 E hQ hR hI fu v0 v1 0 m12 h
  · have h := (if_pos c5).symm.trans h
    refine wm_iconst (x := 0) E dM_news_8 (by decide) ?_
    exact wm_iret (rt := .int) E hQ (rtI h) (rtM h) (by decide) (by decide) dM_news_9
def B_M_told_59 (k17 : Option Nat → Int32 → Int32 → Int32 → Int32 → Mem → Option (Int32 × Mem)) (v0 : Option Nat) (v1 : Int32) (v2 : Int32) (v3 : Int32) (v4 : Int32) (μ : Mem) : Option (Int32 × Mem) := k17 v0 v1 v2 v3 (v4 + 1) μ
set_option maxHeartbeats 4000000 in
set_option maxRecDepth 100000 in
theorem w_M_told_59 {X : CX} (E : EV X prog_13_method_58_code 5 "PlaceFinderModel" (some .int)) {μ0 μ' : Mem} {r : Int32} (hQ : RQ X 0 0 μ0 (some (vI r)) μ') (hR : xR X = { frames := 5, cells := 0, slots := 0, locals := 141 }) (hI : X.2.2.2.2.2.2.2.2.2.2.2.1.name = "told") (k17 : Option Nat → Int32 → Int32 → Int32 → Int32 → Mem → Option (Int32 × Mem)) (hk17 : ∀ (v0 : Option Nat) (v1 : Int32) (v2 : Int32) (v3 : Int32) (v4 : Int32) (μ : Mem), k17 v0 v1 v2 v3 v4 μ = some (r, μ') → WM X 5 17 [(0, vR v0), (1, vI v1), (2, vI v2), (3, vI v3), (4, vI v4)] [] 0 0 μ) (v0 : Option Nat) (v1 : Int32) (v2 : Int32) (v3 : Int32) (v4 : Int32) (μ : Mem) (h : B_M_told_59 k17 v0 v1 v2 v3 v4 μ = some (r, μ')) : WM X 5 59 [(0, vR v0), (1, vI v1), (2, vI v2), (3, vI v3), (4, vI v4)] [] 0 0 μ := by
  have h : (k17 v0 v1 v2 v3 (v4 + 1) μ) = some (r, μ') := h
  refine wm_iinc (lv' := [(4, vI (v4 + 1)), (0, vR v0), (1, vI v1), (2, vI v2), (3, vI v3)]) (d := 1) E dM_told_59 (by decide) (j := 4) rfl (by decide) rfl ?_
  refine wm_goto (tgt := 17) E dM_told_62 (by decide) ?_
  refine wm_pick (lv' := [(0, vR v0), (1, vI v1), (2, vI v2), (3, vI v3), (4, vI (v4 + 1))]) [1, 2, 3, 4, 0] rfl ?_
  exact hk17 v0 v1 v2 v3 (v4 + 1) μ h
def B_M_told_17  : Nat → Option Nat → Int32 → Int32 → Int32 → Int32 → Mem → Option (Int32 × Mem)
  | 0, _, _, _, _, _, _ => none
  | n + 1, v0, v1, v2, v3, v4, μ => b1 (gI μ v0 12 1) (fun x20 => if x20 ≤ v4 then b1 (gR μ v0 12 35) (fun x66 => b1 (sI μ x66 0 (v1 + 1) v3) (fun m73 => some (v2, m73))) else b1 (gR μ v0 12 33) (fun x30 => b1 (aI μ x30 0 (v1 + 1)) (fun x36 => b1 (rc μ v0 12) (fun _ => b2 (S_M_meets v0 v4 x36 (v1 + 1) μ) (fun x40 m40 => if x40 = 0 then B_M_told_59 (fun v0 v1 v2 v3 v4 μ => B_M_told_17 n v0 v1 v2 v3 v4 μ) v0 v1 v2 v3 v4 m40 else b0 (v3 ||| (1 <<< (v4 &&& 31))) (fun x55 => B_M_told_59 (fun v0 v1 v2 v3 v4 μ => B_M_told_17 n v0 v1 v2 v3 v4 μ) v0 v1 (v2 + 1) x55 v4 m40))))))
set_option maxHeartbeats 4000000 in
set_option maxRecDepth 100000 in
theorem w_M_told_17 {X : CX} (E : EV X prog_13_method_58_code 5 "PlaceFinderModel" (some .int)) {μ0 μ' : Mem} {r : Int32} (hQ : RQ X 0 0 μ0 (some (vI r)) μ') (hR : xR X = { frames := 5, cells := 0, slots := 0, locals := 141 }) (hI : X.2.2.2.2.2.2.2.2.2.2.2.1.name = "told")  (n : Nat) : ∀ (v0 : Option Nat) (v1 : Int32) (v2 : Int32) (v3 : Int32) (v4 : Int32) (μ : Mem) (h : B_M_told_17  n v0 v1 v2 v3 v4 μ = some (r, μ')), WM X 5 17 [(0, vR v0), (1, vI v1), (2, vI v2), (3, vI v3), (4, vI v4)] [] 0 0 μ := by
  induction n with
  | zero => intro v0 v1 v2 v3 v4 μ h; cases h
  | succ n ih =>
    intro v0 v1 v2 v3 v4 μ h
    have h : (b1 (gI μ v0 12 1) (fun x20 => if x20 ≤ v4 then b1 (gR μ v0 12 35) (fun x66 => b1 (sI μ x66 0 (v1 + 1) v3) (fun m73 => some (v2, m73))) else b1 (gR μ v0 12 33) (fun x30 => b1 (aI μ x30 0 (v1 + 1)) (fun x36 => b1 (rc μ v0 12) (fun _ => b2 (S_M_meets v0 v4 x36 (v1 + 1) μ) (fun x40 m40 => if x40 = 0 then B_M_told_59 (fun v0 v1 v2 v3 v4 μ => B_M_told_17 n v0 v1 v2 v3 v4 μ) v0 v1 v2 v3 v4 m40 else b0 (v3 ||| (1 <<< (v4 &&& 31))) (fun x55 => B_M_told_59 (fun v0 v1 v2 v3 v4 μ => B_M_told_17 n v0 v1 v2 v3 v4 μ) v0 v1 (v2 + 1) x55 v4 m40))))))) = some (r, μ') := h
    refine wm_iload E dM_told_17 (j := 4) rfl ?_
    refine wm_aload_n E dM_told_19 rfl (j := 0) rfl ?_
    refine wm_gI E fd_M_136 h dM_told_20 (fun x20 h => ?_)
    refine wm_icmp_ge (tgt := 65) E dM_told_23 (by decide) (fun c23 => ?_) (fun c23 => ?_)
    · have h := (if_pos c23).symm.trans h
      refine wm_aload_n E dM_told_65 rfl (j := 0) rfl ?_
      refine wm_gR E fd_M_104 h dM_told_66 (fun x66 h => ?_)
      refine wm_iload_n E dM_told_69 rfl (j := 1) rfl ?_
      refine wm_iconst (x := 1) E dM_told_70 (by decide) ?_
      refine wm_iadd E dM_told_71 ?_
      refine wm_iload_n E dM_told_72 rfl (j := 3) rfl ?_
      refine wm_iast (t := 0) E rfl h dM_told_73 (fun m73 h => ?_)
      refine wm_iload_n E dM_told_74 rfl (j := 2) rfl ?_
      exact wm_iret (rt := .int) E hQ (rtI h) (rtM h) (by decide) (by decide) dM_told_75
    · have h := (if_neg c23).symm.trans h
      refine wm_aload_n E dM_told_26 rfl (j := 0) rfl ?_
      refine wm_iload E dM_told_27 (j := 4) rfl ?_
      refine wm_aload_n E dM_told_29 rfl (j := 0) rfl ?_
      refine wm_gR E fd_M_97 h dM_told_30 (fun x30 h => ?_)
      refine wm_iload_n E dM_told_33 rfl (j := 1) rfl ?_
      refine wm_iconst (x := 1) E dM_told_34 (by decide) ?_
      refine wm_iadd E dM_told_35 ?_
      refine wm_iald (t := 0) E rfl h dM_told_36 (fun x36 h => ?_)
      refine wm_iload_n E dM_told_37 rfl (j := 1) rfl ?_
      refine wm_iconst (x := 1) E dM_told_38 (by decide) ?_
      refine wm_iadd E dM_told_39 ?_
      obtain ⟨u40, hr40, h⟩ := b1S h
      obtain ⟨x40, m40, hc40, h⟩ := b2S h
      refine wm_cV (ci := 12) (As := [vI v4, vI x36, vI (v1 + 1)]) (st := []) E lk_M_291 rfl im_M_meets sl_M_meets hr40 (C_M_meets (xl X) X.1 v0 v4 x36 (v1 + 1) μ _ _ hc40) rfl rfl (by rw [hR]; decide) (by rw [hR]; decide) (Nat.le_of_ble_eq_true rfl) dM_told_40 ?_
      refine wm_if_ne (tgt := 49) E dM_told_43 (by decide) (fun c43 => ?_) (fun c43 => ?_)
      · have h := (if_neg c43).symm.trans h
        refine wm_iload_n E dM_told_49 rfl (j := 3) rfl ?_
        refine wm_iconst (x := 1) E dM_told_50 (by decide) ?_
        refine wm_iload E dM_told_51 (j := 4) rfl ?_
        refine wm_ishl E dM_told_53 ?_
        refine wm_ior E dM_told_54 ?_
        refine wm_letI h (fun x55 h => ?_)
        refine wm_istore_n (lv' := [(3, vI x55), (0, vR v0), (1, vI v1), (2, vI v2), (4, vI v4)]) E dM_told_55 rfl (by decide) rfl ?_
        refine wm_iinc (lv' := [(2, vI (v2 + 1)), (3, vI x55), (0, vR v0), (1, vI v1), (4, vI v4)]) (d := 1) E dM_told_56 (by decide) (j := 3) rfl (by decide) rfl ?_
        refine wm_pick (lv' := [(0, vR v0), (1, vI v1), (2, vI (v2 + 1)), (3, vI x55), (4, vI v4)]) [2, 3, 0, 1, 4] rfl ?_
        exact w_M_told_59 E hQ hR hI (fun v0 v1 v2 v3 v4 μ => B_M_told_17 n v0 v1 v2 v3 v4 μ) ih v0 v1 (v2 + 1) x55 v4 m40 h
      · have h := (if_pos c43).symm.trans h
        refine wm_goto (tgt := 59) E dM_told_46 (by decide) ?_
        refine wm_pick (lv' := [(0, vR v0), (1, vI v1), (2, vI v2), (3, vI v3), (4, vI v4)]) [0, 1, 2, 3, 4] rfl ?_
        exact w_M_told_59 E hQ hR hI (fun v0 v1 v2 v3 v4 μ => B_M_told_17 n v0 v1 v2 v3 v4 μ) ih v0 v1 v2 v3 v4 m40 h
def S_M_told (v0 : Option Nat) (v1 : Int32) (μ : Mem) : Option (Int32 × Mem) := b1 (rc μ v0 12) (fun _ => b2 (S_M_isWatch v0 v1 μ) (fun x2 m2 => if x2 = 0 then some (0, m2) else B_M_told_17 fu v0 v1 0 0 0 m2))
set_option maxHeartbeats 4000000 in
set_option maxRecDepth 100000 in
theorem C_M_told (l : Launch) (G : GG) (v0 : Option Nat) (v1 : Int32) (μ μ' : Mem) (r : Int32) (h : S_M_told v0 v1 μ = some (r, μ')) : CT l G y_M_told prog_13_method_58_code 5 (some .int) 5 0 0 141 μ [vR v0, vI v1] (some (vI r)) μ' := by
  refine wm_met (lv := [(0, vR v0), (1, vI v1)]) (by decide +kernel) (Nat.le_of_ble_eq_true rfl) rfl (fun X E hQ hR hI => ?_)
  have h : (b1 (rc μ v0 12) (fun _ => b2 (S_M_isWatch v0 v1 μ) (fun x2 m2 => if x2 = 0 then some (0, m2) else B_M_told_17 fu v0 v1 0 0 0 m2))) = some (r, μ') := h
  refine wm_aload_n E dM_told_0 rfl (j := 0) rfl ?_
  refine wm_iload_n E dM_told_1 rfl (j := 1) rfl ?_
  obtain ⟨u2, hr2, h⟩ := b1S h
  obtain ⟨x2, m2, hc2, h⟩ := b2S h
  refine wm_cV (ci := 12) (As := [vI v1]) (st := []) E lk_M_301 rfl im_M_isWatch sl_M_isWatch hr2 (C_M_isWatch (xl X) X.1 v0 v1 μ _ _ hc2) rfl rfl (by rw [hR]; decide) (by rw [hR]; decide) (Nat.le_of_ble_eq_true rfl) dM_told_2 ?_
  refine wm_if_ne (tgt := 10) E dM_told_5 (by decide) (fun c5 => ?_) (fun c5 => ?_)
  · have h := (if_neg c5).symm.trans h
    refine wm_iconst (x := 0) E dM_told_10 (by decide) ?_
    refine wm_istore_n (lv' := [(2, vI 0), (0, vR v0), (1, vI v1)]) E dM_told_11 rfl (by decide) rfl ?_
    refine wm_iconst (x := 0) E dM_told_12 (by decide) ?_
    refine wm_istore_n (lv' := [(3, vI 0), (2, vI 0), (0, vR v0), (1, vI v1)]) E dM_told_13 rfl (by decide) rfl ?_
    refine wm_iconst (x := 0) E dM_told_14 (by decide) ?_
    refine wm_istore (lv' := [(4, vI 0), (3, vI 0), (2, vI 0), (0, vR v0), (1, vI v1)]) E dM_told_15 (by decide) rfl ?_
    refine wm_pick (lv' := [(0, vR v0), (1, vI v1), (2, vI 0), (3, vI 0), (4, vI 0)]) [3, 4, 2, 1, 0] rfl ?_
    exact w_M_told_17 E hQ hR hI fu v0 v1 0 0 0 m2 h
  · have h := (if_pos c5).symm.trans h
    refine wm_iconst (x := 0) E dM_told_8 (by decide) ?_
    exact wm_iret (rt := .int) E hQ (rtI h) (rtM h) (by decide) (by decide) dM_told_9
