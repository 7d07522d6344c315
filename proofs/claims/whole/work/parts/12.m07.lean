def RB_M_news_65 (k17 : Int32 → Int32 → RS → Option (Int32 × RS)) (v1 : Int32) (v2 : Int32) (ρ : RS) : Option (Int32 × RS) := k17 v1 (v2 + 1) (ρ)
set_option maxHeartbeats 4000000 in
set_option maxRecDepth 100000 in
theorem rw_M_news_65 {X : CX} (E : EV X prog_13_method_57_code 3 "PlaceFinderModel" (some .int)) {μ0 μ : Mem} {b : Nat} {r : Int32} {ρ' : RS} (hQ : RQ X 0 0 μ0 (some (vI r)) (ov b ρ' μ)) (hR : xR X = { frames := 5, cells := 0, slots := 0, locals := 141 }) (hI : X.2.2.2.2.2.2.2.2.2.2.2.1.name = "news") (hW : mW μ ≤ b) (k17 : Int32 → Int32 → RS → Option (Int32 × RS)) (hk17 : ∀ (v1 : Int32) (v2 : Int32) (ρ : RS), k17 v1 v2 ρ = some (r, ρ') → WM X 3 17 [(0, vR (some b)), (1, vI v1), (2, vI v2)] [] 0 0 (ov b ρ μ)) (v1 : Int32) (v2 : Int32) (ρ : RS) (h : RB_M_news_65 k17 v1 v2 ρ = some (r, ρ')) : WM X 3 65 [(0, vR (some b)), (1, vI v1), (2, vI v2)] [] 0 0 (ov b ρ μ) := by
  have h : (k17 v1 (v2 + 1) (ρ)) = some (r, ρ') := h
  refine wm_iinc (lv' := [(2, vI (v2 + 1)), (0, vR (some b)), (1, vI v1)]) (d := 1) E dM_news_65 (by decide) (j := 2) rfl (by decide) rfl ?_
  refine wm_goto (tgt := 17) E dM_news_68 (by decide) ?_
  refine wm_pick (lv' := [(0, vR (some b)), (1, vI v1), (2, vI (v2 + 1))]) [1, 2, 0] rfl ?_
  exact hk17 v1 (v2 + 1) (ρ) h
def RB_M_news_17  : Nat → Int32 → Int32 → RS → Option (Int32 × RS)
  | 0, _, _, _ => none
  | n + 1, v1, v2, ρ => if (ri ρ 1) ≤ v2 then some (ri ρ 36, ρ) else b1 (rgI ρ 35 5 (v1 + 1)) (fun x32 => if ((x32 >>> (v2 &&& 31)) &&& 1) = 0 then b1 (rgI ρ 33 5 (v1 + 1)) (fun x49 => c2 (R_M_meets v2 x49 (v1 + 1) (ρ)) (fun x53 ρ53 => if x53 = 0 then RB_M_news_65 (fun v1 v2 ρ => RB_M_news_17 n v1 v2 ρ) v1 v2 (ρ53) else c2 (R_M_insert v2 0 (ρ53)) (fun x62 ρ62 => RB_M_news_65 (fun v1 v2 ρ => RB_M_news_17 n v1 v2 ρ) v1 v2 (ρ62)))) else RB_M_news_65 (fun v1 v2 ρ => RB_M_news_17 n v1 v2 ρ) v1 v2 (ρ))
set_option maxHeartbeats 4000000 in
set_option maxRecDepth 100000 in
theorem rw_M_news_17 {X : CX} (E : EV X prog_13_method_57_code 3 "PlaceFinderModel" (some .int)) {μ0 μ : Mem} {b : Nat} {r : Int32} {ρ' : RS} (hQ : RQ X 0 0 μ0 (some (vI r)) (ov b ρ' μ)) (hR : xR X = { frames := 5, cells := 0, slots := 0, locals := 141 }) (hI : X.2.2.2.2.2.2.2.2.2.2.2.1.name = "news") (hW : mW μ ≤ b)  (n : Nat) : ∀ (v1 : Int32) (v2 : Int32) (ρ : RS) (h : RB_M_news_17  n v1 v2 ρ = some (r, ρ')), WM X 3 17 [(0, vR (some b)), (1, vI v1), (2, vI v2)] [] 0 0 (ov b ρ μ) := by
  induction n with
  | zero => intro v1 v2 ρ h; cases h
  | succ n ih =>
    intro v1 v2 ρ h
    have h : (if (ri ρ 1) ≤ v2 then some (ri ρ 36, ρ) else b1 (rgI ρ 35 5 (v1 + 1)) (fun x32 => if ((x32 >>> (v2 &&& 31)) &&& 1) = 0 then b1 (rgI ρ 33 5 (v1 + 1)) (fun x49 => c2 (R_M_meets v2 x49 (v1 + 1) (ρ)) (fun x53 ρ53 => if x53 = 0 then RB_M_news_65 (fun v1 v2 ρ => RB_M_news_17 n v1 v2 ρ) v1 v2 (ρ53) else c2 (R_M_insert v2 0 (ρ53)) (fun x62 ρ62 => RB_M_news_65 (fun v1 v2 ρ => RB_M_news_17 n v1 v2 ρ) v1 v2 (ρ62)))) else RB_M_news_65 (fun v1 v2 ρ => RB_M_news_17 n v1 v2 ρ) v1 v2 (ρ))) = some (r, ρ') := h
    refine wm_iload_n E dM_news_17 rfl (j := 2) rfl ?_
    refine wm_aload_n E dM_news_18 rfl (j := 0) rfl ?_
    refine wm_rget (v := vI (ri ρ 1)) E fd_M_136 rfl dM_news_19 ?_
    refine wm_icmp_ge (tgt := 71) E dM_news_22 (by decide) (fun c22 => ?_) (fun c22 => ?_)
    · have h := (if_pos c22).symm.trans h
      refine wm_aload_n E dM_news_71 rfl (j := 0) rfl ?_
      refine wm_rget (v := vI (ri ρ 36)) E fd_M_284 rfl dM_news_72 ?_
      exact wm_iret (rt := .int) E hQ (rrI h) (rrM h) (by decide) (by decide) dM_news_75
    · have h := (if_neg c22).symm.trans h
      refine wm_aload_n E dM_news_25 rfl (j := 0) rfl ?_
      refine wm_rget (v := vR (some (b + 32))) E fd_M_104 rfl dM_news_26 ?_
      refine wm_iload_n E dM_news_29 rfl (j := 1) rfl ?_
      refine wm_iconst (x := 1) E dM_news_30 (by decide) ?_
      refine wm_iadd E dM_news_31 ?_
      refine wm_riald E (by decide) rfl rfl (by decide) (by decide) h dM_news_32 (fun x32 h => ?_)
      refine wm_iload_n E dM_news_33 rfl (j := 2) rfl ?_
      refine wm_ishr E dM_news_34 ?_
      refine wm_iconst (x := 1) E dM_news_35 (by decide) ?_
      refine wm_iand E dM_news_36 ?_
      refine wm_if_ne (tgt := 65) E dM_news_37 (by decide) (fun c37 => ?_) (fun c37 => ?_)
      · have h := (if_neg c37).symm.trans h
        refine wm_pick (lv' := [(0, vR (some b)), (1, vI v1), (2, vI v2)]) [0, 1, 2] rfl ?_
        exact rw_M_news_65 E hQ hR hI hW (fun v1 v2 ρ => RB_M_news_17 n v1 v2 ρ) ih v1 v2 (ρ) h
      · have h := (if_pos c37).symm.trans h
        refine wm_aload_n E dM_news_40 rfl (j := 0) rfl ?_
        refine wm_iload_n E dM_news_41 rfl (j := 2) rfl ?_
        refine wm_aload_n E dM_news_42 rfl (j := 0) rfl ?_
        refine wm_rget (v := vR (some (b + 30))) E fd_M_97 rfl dM_news_43 ?_
        refine wm_iload_n E dM_news_46 rfl (j := 1) rfl ?_
        refine wm_iconst (x := 1) E dM_news_47 (by decide) ?_
        refine wm_iadd E dM_news_48 ?_
        refine wm_riald E (by decide) rfl rfl (by decide) (by decide) h dM_news_49 (fun x49 h => ?_)
        refine wm_iload_n E dM_news_50 rfl (j := 1) rfl ?_
        refine wm_iconst (x := 1) E dM_news_51 (by decide) ?_
        refine wm_iadd E dM_news_52 ?_
        obtain ⟨x53, ρ53, hc53, h⟩ := c2S h
        refine wm_cV (ci := 12) (As := [vI v2, vI x49, vI (v1 + 1)]) (st := []) E lk_M_291 rfl im_M_meets sl_M_meets (ov_rc _ _ _) (RC_M_meets (xl X) X.1 b (ρ) μ hW v2 x49 (v1 + 1) _ _ hc53) rfl rfl (by rw [hR]; decide) (by rw [hR]; decide) (Nat.le_of_ble_eq_true rfl) dM_news_53 ?_
        refine wm_if_eq (tgt := 65) E dM_news_56 (by decide) (fun c56 => ?_) (fun c56 => ?_)
        · have h := (if_pos c56).symm.trans h
          refine wm_pick (lv' := [(0, vR (some b)), (1, vI v1), (2, vI v2)]) [0, 1, 2] rfl ?_
          exact rw_M_news_65 E hQ hR hI hW (fun v1 v2 ρ => RB_M_news_17 n v1 v2 ρ) ih v1 v2 (ρ53) h
        · have h := (if_neg c56).symm.trans h
          refine wm_aload_n E dM_news_59 rfl (j := 0) rfl ?_
          refine wm_iload_n E dM_news_60 rfl (j := 2) rfl ?_
          refine wm_iconst (x := 0) E dM_news_61 (by decide) ?_
          obtain ⟨x62, ρ62, hc62, h⟩ := c2S h
          refine wm_cV (ci := 12) (As := [vI v2, vI 0]) (st := []) E lk_M_297 rfl im_M_insert sl_M_insert (ov_rc _ _ _) (RC_M_insert (xl X) X.1 b (ρ53) μ hW v2 0 _ _ hc62) rfl rfl (by rw [hR]; decide) (by rw [hR]; decide) (Nat.le_of_ble_eq_true rfl) dM_news_62 ?_
          refine wm_pick (lv' := [(0, vR (some b)), (1, vI v1), (2, vI v2)]) [0, 1, 2] rfl ?_
          exact rw_M_news_65 E hQ hR hI hW (fun v1 v2 ρ => RB_M_news_17 n v1 v2 ρ) ih v1 v2 (ρ62) h
def R_M_news (v1 : Int32) (ρ : RS) : Option (Int32 × RS) := c2 (R_M_isWatch v1 (ρ)) (fun x2 ρ2 => if x2 = 0 then some (0, ρ2) else b0 (rpI ρ2 36 0) (fun ρ12 => RB_M_news_17 fu v1 0 (ρ12)))
set_option maxHeartbeats 4000000 in
set_option maxRecDepth 100000 in
theorem RC_M_news (l : Launch) (G : GG) (b : Nat) (ρ : RS) (μ : Mem) (hW : mW μ ≤ b) (v1 : Int32) (r : Int32) (ρ' : RS) (h : R_M_news v1 ρ = some (r, ρ')) : CT l G y_M_news prog_13_method_57_code 3 (some .int) 5 0 0 141 (ov b ρ μ) [vR (some b), vI v1] (some (vI r)) (ov b ρ' μ) := by
  refine wm_met (lv := [(0, vR (some b)), (1, vI v1)]) (by decide +kernel) (Nat.le_of_ble_eq_true rfl) rfl (fun X E hQ hR hI => ?_)
  have h : (c2 (R_M_isWatch v1 (ρ)) (fun x2 ρ2 => if x2 = 0 then some (0, ρ2) else b0 (rpI ρ2 36 0) (fun ρ12 => RB_M_news_17 fu v1 0 (ρ12)))) = some (r, ρ') := h
  refine wm_aload_n E dM_news_0 rfl (j := 0) rfl ?_
  refine wm_iload_n E dM_news_1 rfl (j := 1) rfl ?_
  obtain ⟨x2, ρ2, hc2, h⟩ := c2S h
  refine wm_cV (ci := 12) (As := [vI v1]) (st := []) E lk_M_301 rfl im_M_isWatch sl_M_isWatch (ov_rc _ _ _) (RC_M_isWatch (xl X) X.1 b (ρ) μ hW v1 _ _ hc2) rfl rfl (by rw [hR]; decide) (by rw [hR]; decide) (Nat.le_of_ble_eq_true rfl) dM_news_2 ?_
  refine wm_if_ne (tgt := 10) E dM_news_5 (by decide) (fun c5 => ?_) (fun c5 => ?_)
  · have h := (if_neg c5).symm.trans h
    refine wm_aload_n E dM_news_10 rfl (j := 0) rfl ?_
    refine wm_iconst (x := 0) E dM_news_11 (by decide) ?_
    refine wm_rpI E fp_M_284 (fun q => by cases q) rfl (by decide) hW dM_news_12 ?_
    refine wm_rlet h (fun ρ12 h => ?_)
    refine wm_iconst (x := 0) E dM_news_15 (by decide) ?_
    refine wm_istore_n (lv' := [(2, vI 0), (0, vR (some b)), (1, vI v1)]) E dM_news_16 rfl (by decide) rfl ?_
    refine wm_pick (lv' := [(0, vR (some b)), (1, vI v1), (2, vI 0)]) [1, 2, 0] rfl ?_
    exact rw_M_news_17 E hQ hR hI hW fu v1 0 (ρ12) h
  · have h := (if_pos c5).symm.trans h
    refine wm_iconst (x := 0) E dM_news_8 (by decide) ?_
    exact wm_iret (rt := .int) E hQ (rrI h) (rrM h) (by decide) (by decide) dM_news_9
def RB_M_told_59 (k17 : Int32 → Int32 → Int32 → Int32 → RS → Option (Int32 × RS)) (v1 : Int32) (v2 : Int32) (v3 : Int32) (v4 : Int32) (ρ : RS) : Option (Int32 × RS) := k17 v1 v2 v3 (v4 + 1) (ρ)
set_option maxHeartbeats 4000000 in
set_option maxRecDepth 100000 in
theorem rw_M_told_59 {X : CX} (E : EV X prog_13_method_58_code 5 "PlaceFinderModel" (some .int)) {μ0 μ : Mem} {b : Nat} {r : Int32} {ρ' : RS} (hQ : RQ X 0 0 μ0 (some (vI r)) (ov b ρ' μ)) (hR : xR X = { frames := 5, cells := 0, slots := 0, locals := 141 }) (hI : X.2.2.2.2.2.2.2.2.2.2.2.1.name = "told") (hW : mW μ ≤ b) (k17 : Int32 → Int32 → Int32 → Int32 → RS → Option (Int32 × RS)) (hk17 : ∀ (v1 : Int32) (v2 : Int32) (v3 : Int32) (v4 : Int32) (ρ : RS), k17 v1 v2 v3 v4 ρ = some (r, ρ') → WM X 5 17 [(0, vR (some b)), (1, vI v1), (2, vI v2), (3, vI v3), (4, vI v4)] [] 0 0 (ov b ρ μ)) (v1 : Int32) (v2 : Int32) (v3 : Int32) (v4 : Int32) (ρ : RS) (h : RB_M_told_59 k17 v1 v2 v3 v4 ρ = some (r, ρ')) : WM X 5 59 [(0, vR (some b)), (1, vI v1), (2, vI v2), (3, vI v3), (4, vI v4)] [] 0 0 (ov b ρ μ) := by
  have h : (k17 v1 v2 v3 (v4 + 1) (ρ)) = some (r, ρ') := h
  refine wm_iinc (lv' := [(4, vI (v4 + 1)), (0, vR (some b)), (1, vI v1), (2, vI v2), (3, vI v3)]) (d := 1) E dM_told_59 (by decide) (j := 4) rfl (by decide) rfl ?_
  refine wm_goto (tgt := 17) E dM_told_62 (by decide) ?_
  refine wm_pick (lv' := [(0, vR (some b)), (1, vI v1), (2, vI v2), (3, vI v3), (4, vI (v4 + 1))]) [1, 2, 3, 4, 0] rfl ?_
  exact hk17 v1 v2 v3 (v4 + 1) (ρ) h
def RB_M_told_17  : Nat → Int32 → Int32 → Int32 → Int32 → RS → Option (Int32 × RS)
  | 0, _, _, _, _, _ => none
  | n + 1, v1, v2, v3, v4, ρ => if (ri ρ 1) ≤ v4 then b1 (rsI ρ 35 5 (v1 + 1) v3) (fun ρ73 => some (v2, ρ73)) else b1 (rgI ρ 33 5 (v1 + 1)) (fun x36 => c2 (R_M_meets v4 x36 (v1 + 1) (ρ)) (fun x40 ρ40 => if x40 = 0 then RB_M_told_59 (fun v1 v2 v3 v4 ρ => RB_M_told_17 n v1 v2 v3 v4 ρ) v1 v2 v3 v4 (ρ40) else b0 (v3 ||| (1 <<< (v4 &&& 31))) (fun x55 => RB_M_told_59 (fun v1 v2 v3 v4 ρ => RB_M_told_17 n v1 v2 v3 v4 ρ) v1 (v2 + 1) x55 v4 (ρ40))))
set_option maxHeartbeats 4000000 in
set_option maxRecDepth 100000 in
theorem rw_M_told_17 {X : CX} (E : EV X prog_13_method_58_code 5 "PlaceFinderModel" (some .int)) {μ0 μ : Mem} {b : Nat} {r : Int32} {ρ' : RS} (hQ : RQ X 0 0 μ0 (some (vI r)) (ov b ρ' μ)) (hR : xR X = { frames := 5, cells := 0, slots := 0, locals := 141 }) (hI : X.2.2.2.2.2.2.2.2.2.2.2.1.name = "told") (hW : mW μ ≤ b)  (n : Nat) : ∀ (v1 : Int32) (v2 : Int32) (v3 : Int32) (v4 : Int32) (ρ : RS) (h : RB_M_told_17  n v1 v2 v3 v4 ρ = some (r, ρ')), WM X 5 17 [(0, vR (some b)), (1, vI v1), (2, vI v2), (3, vI v3), (4, vI v4)] [] 0 0 (ov b ρ μ) := by
  induction n with
  | zero => intro v1 v2 v3 v4 ρ h; cases h
  | succ n ih =>
    intro v1 v2 v3 v4 ρ h
    have h : (if (ri ρ 1) ≤ v4 then b1 (rsI ρ 35 5 (v1 + 1) v3) (fun ρ73 => some (v2, ρ73)) else b1 (rgI ρ 33 5 (v1 + 1)) (fun x36 => c2 (R_M_meets v4 x36 (v1 + 1) (ρ)) (fun x40 ρ40 => if x40 = 0 then RB_M_told_59 (fun v1 v2 v3 v4 ρ => RB_M_told_17 n v1 v2 v3 v4 ρ) v1 v2 v3 v4 (ρ40) else b0 (v3 ||| (1 <<< (v4 &&& 31))) (fun x55 => RB_M_told_59 (fun v1 v2 v3 v4 ρ => RB_M_told_17 n v1 v2 v3 v4 ρ) v1 (v2 + 1) x55 v4 (ρ40))))) = some (r, ρ') := h
    refine wm_iload E dM_told_17 (j := 4) rfl ?_
    refine wm_aload_n E dM_told_19 rfl (j := 0) rfl ?_
    refine wm_rget (v := vI (ri ρ 1)) E fd_M_136 rfl dM_told_20 ?_
    refine wm_icmp_ge (tgt := 65) E dM_told_23 (by decide) (fun c23 => ?_) (fun c23 => ?_)
    · have h := (if_pos c23).symm.trans h
      refine wm_aload_n E dM_told_65 rfl (j := 0) rfl ?_
      refine wm_rget (v := vR (some (b + 32))) E fd_M_104 rfl dM_told_66 ?_
      refine wm_iload_n E dM_told_69 rfl (j := 1) rfl ?_
      refine wm_iconst (x := 1) E dM_told_70 (by decide) ?_
      refine wm_iadd E dM_told_71 ?_
      refine wm_iload_n E dM_told_72 rfl (j := 3) rfl ?_
      refine wm_riast E (by decide) rfl rfl (by decide) (by decide) hW h dM_told_73 (fun ρ73 h => ?_)
      refine wm_iload_n E dM_told_74 rfl (j := 2) rfl ?_
      exact wm_iret (rt := .int) E hQ (rrI h) (rrM h) (by decide) (by decide) dM_told_75
    · have h := (if_neg c23).symm.trans h
      refine wm_aload_n E dM_told_26 rfl (j := 0) rfl ?_
      refine wm_iload E dM_told_27 (j := 4) rfl ?_
      refine wm_aload_n E dM_told_29 rfl (j := 0) rfl ?_
      refine wm_rget (v := vR (some (b + 30))) E fd_M_97 rfl dM_told_30 ?_
      refine wm_iload_n E dM_told_33 rfl (j := 1) rfl ?_
      refine wm_iconst (x := 1) E dM_told_34 (by decide) ?_
      refine wm_iadd E dM_told_35 ?_
      refine wm_riald E (by decide) rfl rfl (by decide) (by decide) h dM_told_36 (fun x36 h => ?_)
      refine wm_iload_n E dM_told_37 rfl (j := 1) rfl ?_
      refine wm_iconst (x := 1) E dM_told_38 (by decide) ?_
      refine wm_iadd E dM_told_39 ?_
      obtain ⟨x40, ρ40, hc40, h⟩ := c2S h
      refine wm_cV (ci := 12) (As := [vI v4, vI x36, vI (v1 + 1)]) (st := []) E lk_M_291 rfl im_M_meets sl_M_meets (ov_rc _ _ _) (RC_M_meets (xl X) X.1 b (ρ) μ hW v4 x36 (v1 + 1) _ _ hc40) rfl rfl (by rw [hR]; decide) (by rw [hR]; decide) (Nat.le_of_ble_eq_true rfl) dM_told_40 ?_
      refine wm_if_ne (tgt := 49) E dM_told_43 (by decide) (fun c43 => ?_) (fun c43 => ?_)
      · have h := (if_neg c43).symm.trans h
        refine wm_iload_n E dM_told_49 rfl (j := 3) rfl ?_
        refine wm_iconst (x := 1) E dM_told_50 (by decide) ?_
        refine wm_iload E dM_told_51 (j := 4) rfl ?_
        refine wm_ishl E dM_told_53 ?_
        refine wm_ior E dM_told_54 ?_
        refine wm_letI h (fun x55 h => ?_)
        refine wm_istore_n (lv' := [(3, vI x55), (0, vR (some b)), (1, vI v1), (2, vI v2), (4, vI v4)]) E dM_told_55 rfl (by decide) rfl ?_
        refine wm_iinc (lv' := [(2, vI (v2 + 1)), (3, vI x55), (0, vR (some b)), (1, vI v1), (4, vI v4)]) (d := 1) E dM_told_56 (by decide) (j := 3) rfl (by decide) rfl ?_
        refine wm_pick (lv' := [(0, vR (some b)), (1, vI v1), (2, vI (v2 + 1)), (3, vI x55), (4, vI v4)]) [2, 3, 0, 1, 4] rfl ?_
        exact rw_M_told_59 E hQ hR hI hW (fun v1 v2 v3 v4 ρ => RB_M_told_17 n v1 v2 v3 v4 ρ) ih v1 (v2 + 1) x55 v4 (ρ40) h
      · have h := (if_pos c43).symm.trans h
        refine wm_goto (tgt := 59) E dM_told_46 (by decide) ?_
        refine wm_pick (lv' := [(0, vR (some b)), (1, vI v1), (2, vI v2), (3, vI v3), (4, vI v4)]) [0, 1, 2, 3, 4] rfl ?_
        exact rw_M_told_59 E hQ hR hI hW (fun v1 v2 v3 v4 ρ => RB_M_told_17 n v1 v2 v3 v4 ρ) ih v1 v2 v3 v4 (ρ40) h
def R_M_told (v1 : Int32) (ρ : RS) : Option (Int32 × RS) := c2 (R_M_isWatch v1 (ρ)) (fun x2 ρ2 => if x2 = 0 then some (0, ρ2) else RB_M_told_17 fu v1 0 0 0 (ρ2))
set_option maxHeartbeats 4000000 in
set_option maxRecDepth 100000 in
theorem RC_M_told (l : Launch) (G : GG) (b : Nat) (ρ : RS) (μ : Mem) (hW : mW μ ≤ b) (v1 : Int32) (r : Int32) (ρ' : RS) (h : R_M_told v1 ρ = some (r, ρ')) : CT l G y_M_told prog_13_method_58_code 5 (some .int) 5 0 0 141 (ov b ρ μ) [vR (some b), vI v1] (some (vI r)) (ov b ρ' μ) := by
  refine wm_met (lv := [(0, vR (some b)), (1, vI v1)]) (by decide +kernel) (Nat.le_of_ble_eq_true rfl) rfl (fun X E hQ hR hI => ?_)
  have h : (c2 (R_M_isWatch v1 (ρ)) (fun x2 ρ2 => if x2 = 0 then some (0, ρ2) else RB_M_told_17 fu v1 0 0 0 (ρ2))) = some (r, ρ') := h
  refine wm_aload_n E dM_told_0 rfl (j := 0) rfl ?_
  refine wm_iload_n E dM_told_1 rfl (j := 1) rfl ?_
  obtain ⟨x2, ρ2, hc2, h⟩ := c2S h
  refine wm_cV (ci := 12) (As := [vI v1]) (st := []) E lk_M_301 rfl im_M_isWatch sl_M_isWatch (ov_rc _ _ _) (RC_M_isWatch (xl X) X.1 b (ρ) μ hW v1 _ _ hc2) rfl rfl (by rw [hR]; decide) (by rw [hR]; decide) (Nat.le_of_ble_eq_true rfl) dM_told_2 ?_
  refine wm_if_ne (tgt := 10) E dM_told_5 (by decide) (fun c5 => ?_) (fun c5 => ?_)
  · have h := (if_neg c5).symm.trans h
    refine wm_iconst (x := 0) E dM_told_10 (by decide) ?_
    refine wm_istore_n (lv' := [(2, vI 0), (0, vR (some b)), (1, vI v1)]) E dM_told_11 rfl (by decide) rfl ?_
    refine wm_iconst (x := 0) E dM_told_12 (by decide) ?_
    refine wm_istore_n (lv' := [(3, vI 0), (2, vI 0), (0, vR (some b)), (1, vI v1)]) E dM_told_13 rfl (by decide) rfl ?_
    refine wm_iconst (x := 0) E dM_told_14 (by decide) ?_
    refine wm_istore (lv' := [(4, vI 0), (3, vI 0), (2, vI 0), (0, vR (some b)), (1, vI v1)]) E dM_told_15 (by decide) rfl ?_
    refine wm_pick (lv' := [(0, vR (some b)), (1, vI v1), (2, vI 0), (3, vI 0), (4, vI 0)]) [3, 4, 2, 1, 0] rfl ?_
    exact rw_M_told_17 E hQ hR hI hW fu v1 0 0 0 (ρ2) h
  · have h := (if_pos c5).symm.trans h
    refine wm_iconst (x := 0) E dM_told_8 (by decide) ?_
    exact wm_iret (rt := .int) E hQ (rrI h) (rrM h) (by decide) (by decide) dM_told_9
