def RB_M_isNearer_74 (ρ : RS)  (s0 : Int32) : Option Int32 := gd (¬ okZ s0 = true) (some (s0))
set_option maxHeartbeats 4000000 in
set_option maxRecDepth 100000 in
theorem rw_M_isNearer_74 {X : CX} (E : EV X prog_13_method_43_code 3 "PlaceFinderModel" (some .boolean)) {μ0 μ : Mem} {b : Nat} {r : Int32} {ρ : RS} (hQ : RQ X 0 0 μ0 (some (vI r)) (ov b ρ μ)) (hR : xR X = { frames := 1, cells := 0, slots := 0, locals := 40 }) (hI : X.2.2.2.2.2.2.2.2.2.2.2.1.name = "isNearer")  (s0 : Int32) (h : RB_M_isNearer_74 ρ  s0 = some r) : WM X 3 74 [] [vI s0] 0 0 (ov b ρ μ) := by
  have h : (gd (¬ okZ s0 = true) (some (s0))) = some r := h
  obtain ⟨hz74, h⟩ := gdS h
  exact wm_zret (rt := .boolean) E hQ (rqI0 h) rfl (okZN hz74) (by decide) (by decide) dM_isNearer_74
def RB_M_isNearer_65 (ρ : RS)  (v2 : Int32) : Option Int32 := if 0 ≤ v2 then RB_M_isNearer_74 ρ 0 else RB_M_isNearer_74 ρ 1
set_option maxHeartbeats 4000000 in
set_option maxRecDepth 100000 in
theorem rw_M_isNearer_65 {X : CX} (E : EV X prog_13_method_43_code 3 "PlaceFinderModel" (some .boolean)) {μ0 μ : Mem} {b : Nat} {r : Int32} {ρ : RS} (hQ : RQ X 0 0 μ0 (some (vI r)) (ov b ρ μ)) (hR : xR X = { frames := 1, cells := 0, slots := 0, locals := 40 }) (hI : X.2.2.2.2.2.2.2.2.2.2.2.1.name = "isNearer")  (v2 : Int32) (h : RB_M_isNearer_65 ρ  v2 = some r) : WM X 3 65 [(2, vI v2)] [] 0 0 (ov b ρ μ) := by
  have h : (if 0 ≤ v2 then RB_M_isNearer_74 ρ 0 else RB_M_isNearer_74 ρ 1) = some r := h
  refine wm_iload_n E dM_isNearer_65 rfl (j := 0) rfl ?_
  refine wm_if_ge (tgt := 73) E dM_isNearer_66 (by decide) (fun c66 => ?_) (fun c66 => ?_)
  · have h := (if_pos c66).symm.trans h
    refine wm_iconst (x := 0) E dM_isNearer_73 (by decide) ?_
    refine wm_pick (lv' := []) [] rfl ?_
    exact rw_M_isNearer_74 E hQ hR hI 0 h
  · have h := (if_neg c66).symm.trans h
    refine wm_iconst (x := 1) E dM_isNearer_69 (by decide) ?_
    refine wm_goto (tgt := 74) E dM_isNearer_70 (by decide) ?_
    refine wm_pick (lv' := []) [] rfl ?_
    exact rw_M_isNearer_74 E hQ hR hI 1 h
def RB_M_isNearer_41 (ρ : RS)  (v2 : Int32) : Option Int32 := if v2 = 0 then b1 (R_M_compareFractions (rl ρ 43) (rl ρ 44) (rl ρ 47) (rl ρ 48)) (fun x61 => RB_M_isNearer_65 ρ x61) else RB_M_isNearer_65 ρ v2
set_option maxHeartbeats 4000000 in
set_option maxRecDepth 100000 in
theorem rw_M_isNearer_41 {X : CX} (E : EV X prog_13_method_43_code 3 "PlaceFinderModel" (some .boolean)) {μ0 μ : Mem} {b : Nat} {r : Int32} {ρ : RS} (hQ : RQ X 0 0 μ0 (some (vI r)) (ov b ρ μ)) (hR : xR X = { frames := 1, cells := 0, slots := 0, locals := 40 }) (hI : X.2.2.2.2.2.2.2.2.2.2.2.1.name = "isNearer")  (v2 : Int32) (h : RB_M_isNearer_41 ρ  v2 = some r) : WM X 3 41 [(0, vR (some b)), (2, vI v2)] [] 0 0 (ov b ρ μ) := by
  have h : (if v2 = 0 then b1 (R_M_compareFractions (rl ρ 43) (rl ρ 44) (rl ρ 47) (rl ρ 48)) (fun x61 => RB_M_isNearer_65 ρ x61) else RB_M_isNearer_65 ρ v2) = some r := h
  refine wm_iload_n E dM_isNearer_41 rfl (j := 1) rfl ?_
  refine wm_if_ne (tgt := 65) E dM_isNearer_42 (by decide) (fun c42 => ?_) (fun c42 => ?_)
  · have h := (if_neg c42).symm.trans h
    refine wm_pick (lv' := [(2, vI v2)]) [1] rfl ?_
    exact rw_M_isNearer_65 E hQ hR hI v2 h
  · have h := (if_pos c42).symm.trans h
    refine wm_aload_n E dM_isNearer_45 rfl (j := 0) rfl ?_
    refine wm_rget (v := vL (rl ρ 43)) E fd_M_228 rfl dM_isNearer_46 ?_
    refine wm_aload_n E dM_isNearer_49 rfl (j := 0) rfl ?_
    refine wm_rget (v := vL (rl ρ 44)) E fd_M_218 rfl dM_isNearer_50 ?_
    refine wm_aload_n E dM_isNearer_53 rfl (j := 0) rfl ?_
    refine wm_rget (v := vL (rl ρ 47)) E fd_M_244 rfl dM_isNearer_54 ?_
    refine wm_aload_n E dM_isNearer_57 rfl (j := 0) rfl ?_
    refine wm_rget (v := vL (rl ρ 48)) E fd_M_247 rfl dM_isNearer_58 ?_
    obtain ⟨x61, hc61, h⟩ := b1S h
    refine wm_cS (As := [vL (rl ρ 43), vL (rl ρ 44), vL (rl ρ 47), vL (rl ρ 48)]) (st := []) E lk_M_240 sc_M_compareFractions (RC_M_compareFractions (xl X) X.1 (rl ρ 43) (rl ρ 44) (rl ρ 47) (rl ρ 48) _ _ hc61) rfl rfl (by rw [hR]; decide) (by rw [hR]; decide) (Nat.le_of_ble_eq_true rfl) dM_isNearer_61 ?_
    refine wm_istore_n (lv' := [(2, vI x61), (0, vR (some b))]) E dM_isNearer_64 rfl (by decide) rfl ?_
    refine wm_pick (lv' := [(2, vI x61)]) [0] rfl ?_
    exact rw_M_isNearer_65 E hQ hR hI x61 h
def R_M_isNearer (v1 : Int32) (ρ : RS) : Option Int32 := if (ri ρ 49) = ((-1)) then gd (¬ okZ 1 = true) (some (1)) else b1 (R_M_compareFractions (rl ρ 41) (rl ρ 42) (rl ρ 45) (rl ρ 46)) (fun x26 => if x26 = 0 then b0 (v1 - (ri ρ 49)) (fun x40 => RB_M_isNearer_41 ρ x40) else RB_M_isNearer_41 ρ x26)
set_option maxHeartbeats 4000000 in
set_option maxRecDepth 100000 in
theorem RC_M_isNearer (l : Launch) (G : GG) (b : Nat) (ρ : RS) (μ : Mem) (v1 : Int32) (r : Int32) (h : R_M_isNearer v1 ρ = some r) : CT l G y_M_isNearer prog_13_method_43_code 3 (some .boolean) 1 0 0 40 (ov b ρ μ) [vR (some b), vI v1] (some (vI r)) (ov b ρ μ) := by
  refine wm_met (lv := [(0, vR (some b)), (1, vI v1)]) (by decide +kernel) (Nat.le_of_ble_eq_true rfl) rfl (fun X E hQ hR hI => ?_)
  have h : (if (ri ρ 49) = ((-1)) then gd (¬ okZ 1 = true) (some (1)) else b1 (R_M_compareFractions (rl ρ 41) (rl ρ 42) (rl ρ 45) (rl ρ 46)) (fun x26 => if x26 = 0 then b0 (v1 - (ri ρ 49)) (fun x40 => RB_M_isNearer_41 ρ x40) else RB_M_isNearer_41 ρ x26)) = some r := h
  refine wm_aload_n E dM_isNearer_0 rfl (j := 0) rfl ?_
  refine wm_rget (v := vI (ri ρ 49)) E fd_M_231 rfl dM_isNearer_1 ?_
  refine wm_iconst (x := -1) E dM_isNearer_4 (by decide) ?_
  refine wm_icmp_ne (tgt := 10) E dM_isNearer_5 (by decide) (fun c5 => ?_) (fun c5 => ?_)
  · have h := (if_neg c5).symm.trans h
    refine wm_aload_n E dM_isNearer_10 rfl (j := 0) rfl ?_
    refine wm_rget (v := vL (rl ρ 41)) E fd_M_225 rfl dM_isNearer_11 ?_
    refine wm_aload_n E dM_isNearer_14 rfl (j := 0) rfl ?_
    refine wm_rget (v := vL (rl ρ 42)) E fd_M_222 rfl dM_isNearer_15 ?_
    refine wm_aload_n E dM_isNearer_18 rfl (j := 0) rfl ?_
    refine wm_rget (v := vL (rl ρ 45)) E fd_M_234 rfl dM_isNearer_19 ?_
    refine wm_aload_n E dM_isNearer_22 rfl (j := 0) rfl ?_
    refine wm_rget (v := vL (rl ρ 46)) E fd_M_237 rfl dM_isNearer_23 ?_
    obtain ⟨x26, hc26, h⟩ := b1S h
    refine wm_cS (As := [vL (rl ρ 41), vL (rl ρ 42), vL (rl ρ 45), vL (rl ρ 46)]) (st := []) E lk_M_240 sc_M_compareFractions (RC_M_compareFractions (xl X) X.1 (rl ρ 41) (rl ρ 42) (rl ρ 45) (rl ρ 46) _ _ hc26) rfl rfl (by rw [hR]; decide) (by rw [hR]; decide) (Nat.le_of_ble_eq_true rfl) dM_isNearer_26 ?_
    refine wm_istore_n (lv' := [(2, vI x26), (0, vR (some b)), (1, vI v1)]) E dM_isNearer_29 rfl (by decide) rfl ?_
    refine wm_iload_n E dM_isNearer_30 rfl (j := 0) rfl ?_
    refine wm_if_ne (tgt := 41) E dM_isNearer_31 (by decide) (fun c31 => ?_) (fun c31 => ?_)
    · have h := (if_neg c31).symm.trans h
      refine wm_pick (lv' := [(0, vR (some b)), (2, vI x26)]) [1, 0] rfl ?_
      exact rw_M_isNearer_41 E hQ hR hI x26 h
    · have h := (if_pos c31).symm.trans h
      refine wm_iload_n E dM_isNearer_34 rfl (j := 2) rfl ?_
      refine wm_aload_n E dM_isNearer_35 rfl (j := 1) rfl ?_
      refine wm_rget (v := vI (ri ρ 49)) E fd_M_231 rfl dM_isNearer_36 ?_
      refine wm_isub E dM_isNearer_39 ?_
      refine wm_letI h (fun x40 h => ?_)
      refine wm_istore_n (lv' := [(2, vI x40), (0, vR (some b)), (1, vI v1)]) E dM_isNearer_40 rfl (by decide) rfl ?_
      refine wm_pick (lv' := [(0, vR (some b)), (2, vI x40)]) [1, 0] rfl ?_
      exact rw_M_isNearer_41 E hQ hR hI x40 h
  · have h := (if_pos c5).symm.trans h
    refine wm_iconst (x := 1) E dM_isNearer_8 (by decide) ?_
    obtain ⟨hz9, h⟩ := gdS h
    exact wm_zret (rt := .boolean) E hQ (rqI0 h) rfl (okZN hz9) (by decide) (by decide) dM_isNearer_9
def RB_M_nearest_165 (k16 : Int32 → Int32 → Int32 → RS → Option (Unit × RS)) (k31 : Int32 → Int32 → Int32 → Int32 → RS → Option (Unit × RS)) (v3 : Int32) (v4 : Int32) (v5 : Int32) (v6 : Int32) (ρ : RS) : Option (Unit × RS) := k31 v3 v4 v5 (v6 + 1) (ρ)
set_option maxHeartbeats 4000000 in
set_option maxRecDepth 100000 in
theorem rw_M_nearest_165 {X : CX} (E : EV X prog_13_method_44_code 8 "PlaceFinderModel" none) {μ0 μ : Mem} {b : Nat} {r : Unit} {ρ' : RS} (hQ : RQ X 0 0 μ0 none (ov b ρ' μ)) (hR : xR X = { frames := 2, cells := 0, slots := 0, locals := 62 }) (hI : X.2.2.2.2.2.2.2.2.2.2.2.1.name = "nearest") (hW : mW μ ≤ b) (k16 : Int32 → Int32 → Int32 → RS → Option (Unit × RS)) (hk16 : ∀ (v3 : Int32) (v4 : Int32) (v5 : Int32) (ρ : RS), k16 v3 v4 v5 ρ = some (r, ρ') → WM X 8 16 [(0, vR (some b)), (3, vI v3), (4, vI v4), (5, vI v5)] [] 0 0 (ov b ρ μ)) (k31 : Int32 → Int32 → Int32 → Int32 → RS → Option (Unit × RS)) (hk31 : ∀ (v3 : Int32) (v4 : Int32) (v5 : Int32) (v6 : Int32) (ρ : RS), k31 v3 v4 v5 v6 ρ = some (r, ρ') → WM X 8 31 [(0, vR (some b)), (3, vI v3), (4, vI v4), (5, vI v5), (6, vI v6)] [] 0 0 (ov b ρ μ)) (v3 : Int32) (v4 : Int32) (v5 : Int32) (v6 : Int32) (ρ : RS) (h : RB_M_nearest_165 k16 k31 v3 v4 v5 v6 ρ = some (r, ρ')) : WM X 8 165 [(0, vR (some b)), (3, vI v3), (4, vI v4), (5, vI v5), (6, vI v6)] [] 0 0 (ov b ρ μ) := by
  have h : (k31 v3 v4 v5 (v6 + 1) (ρ)) = some (r, ρ') := h
  refine wm_iinc (lv' := [(6, vI (v6 + 1)), (0, vR (some b)), (3, vI v3), (4, vI v4), (5, vI v5)]) (d := 1) E dM_nearest_165 (by decide) (j := 4) rfl (by decide) rfl ?_
  refine wm_goto (tgt := 31) E dM_nearest_168 (by decide) ?_
  refine wm_pick (lv' := [(0, vR (some b)), (3, vI v3), (4, vI v4), (5, vI v5), (6, vI (v6 + 1))]) [1, 2, 3, 4, 0] rfl ?_
  exact hk31 v3 v4 v5 (v6 + 1) (ρ) h
def RB_M_nearest_31 (k16 : Int32 → Int32 → Int32 → RS → Option (Unit × RS)) : Nat → Int32 → Int32 → Int32 → Int32 → RS → Option (Unit × RS)
  | 0, _, _, _, _, _ => none
  | n + 1, v3, v4, v5, v6, ρ => b1 (rgI ρ 30 5 v3) (fun x40 => if x40 ≤ (v6 + 1) then k16 v3 v4 (v5 + 1) (ρ) else b0 ((8 * v3) + v6) (fun x51 => b1 (rgI ρ 31 40 x51) (fun x60 => b1 (rgI ρ 32 40 x51) (fun x67 => b1 (rgI ρ 31 40 (x51 + 1)) (fun x76 => b1 (rgI ρ 32 40 (x51 + 1)) (fun x85 => b1 (rgI ρ 7 720 ((8 * v4) + v5)) (fun x98 => b1 (rgI ρ 8 720 ((8 * v4) + v5)) (fun x111 => c2 (R_M_measure x60 x67 x76 x85 x98 x111 (ρ)) (fun x112 ρ112 => b1 (R_M_isNearer v6 (ρ112)) (fun x118 => if x118 = 0 then RB_M_nearest_165 k16 (fun v3 v4 v5 v6 ρ => RB_M_nearest_31 k16 n v3 v4 v5 v6 ρ) v3 v4 v5 v6 (ρ112) else b0 (rpI ρ112 49 v6) (fun ρ130 => b0 (rpL ρ130 45 (rl ρ130 41)) (fun ρ138 => b0 (rpL ρ138 46 (rl ρ138 42)) (fun ρ146 => b0 (rpL ρ146 47 (rl ρ146 43)) (fun ρ154 => b0 (rpL ρ154 48 (rl ρ154 44)) (fun ρ162 => RB_M_nearest_165 k16 (fun v3 v4 v5 v6 ρ => RB_M_nearest_31 k16 n v3 v4 v5 v6 ρ) v3 v4 v5 v6 (ρ162))))))))))))))))
set_option maxHeartbeats 4000000 in
set_option maxRecDepth 100000 in
theorem rw_M_nearest_31 {X : CX} (E : EV X prog_13_method_44_code 8 "PlaceFinderModel" none) {μ0 μ : Mem} {b : Nat} {r : Unit} {ρ' : RS} (hQ : RQ X 0 0 μ0 none (ov b ρ' μ)) (hR : xR X = { frames := 2, cells := 0, slots := 0, locals := 62 }) (hI : X.2.2.2.2.2.2.2.2.2.2.2.1.name = "nearest") (hW : mW μ ≤ b) (k16 : Int32 → Int32 → Int32 → RS → Option (Unit × RS)) (hk16 : ∀ (v3 : Int32) (v4 : Int32) (v5 : Int32) (ρ : RS), k16 v3 v4 v5 ρ = some (r, ρ') → WM X 8 16 [(0, vR (some b)), (3, vI v3), (4, vI v4), (5, vI v5)] [] 0 0 (ov b ρ μ)) (n : Nat) : ∀ (v3 : Int32) (v4 : Int32) (v5 : Int32) (v6 : Int32) (ρ : RS) (h : RB_M_nearest_31 k16 n v3 v4 v5 v6 ρ = some (r, ρ')), WM X 8 31 [(0, vR (some b)), (3, vI v3), (4, vI v4), (5, vI v5), (6, vI v6)] [] 0 0 (ov b ρ μ) := by
  induction n with
  | zero => intro v3 v4 v5 v6 ρ h; cases h
  | succ n ih =>
    intro v3 v4 v5 v6 ρ h
    have h : (b1 (rgI ρ 30 5 v3) (fun x40 => if x40 ≤ (v6 + 1) then k16 v3 v4 (v5 + 1) (ρ) else b0 ((8 * v3) + v6) (fun x51 => b1 (rgI ρ 31 40 x51) (fun x60 => b1 (rgI ρ 32 40 x51) (fun x67 => b1 (rgI ρ 31 40 (x51 + 1)) (fun x76 => b1 (rgI ρ 32 40 (x51 + 1)) (fun x85 => b1 (rgI ρ 7 720 ((8 * v4) + v5)) (fun x98 => b1 (rgI ρ 8 720 ((8 * v4) + v5)) (fun x111 => c2 (R_M_measure x60 x67 x76 x85 x98 x111 (ρ)) (fun x112 ρ112 => b1 (R_M_isNearer v6 (ρ112)) (fun x118 => if x118 = 0 then RB_M_nearest_165 k16 (fun v3 v4 v5 v6 ρ => RB_M_nearest_31 k16 n v3 v4 v5 v6 ρ) v3 v4 v5 v6 (ρ112) else b0 (rpI ρ112 49 v6) (fun ρ130 => b0 (rpL ρ130 45 (rl ρ130 41)) (fun ρ138 => b0 (rpL ρ138 46 (rl ρ138 42)) (fun ρ146 => b0 (rpL ρ146 47 (rl ρ146 43)) (fun ρ154 => b0 (rpL ρ154 48 (rl ρ154 44)) (fun ρ162 => RB_M_nearest_165 k16 (fun v3 v4 v5 v6 ρ => RB_M_nearest_31 k16 n v3 v4 v5 v6 ρ) v3 v4 v5 v6 (ρ162))))))))))))))))) = some (r, ρ') := h
    refine wm_iload E dM_nearest_31 (j := 4) rfl ?_
    refine wm_iconst (x := 1) E dM_nearest_33 (by decide) ?_
    refine wm_iadd E dM_nearest_34 ?_
    refine wm_aload_n E dM_nearest_35 rfl (j := 0) rfl ?_
    refine wm_rget (v := vR (some (b + 27))) E fd_M_88 rfl dM_nearest_36 ?_
    refine wm_iload_n E dM_nearest_39 rfl (j := 1) rfl ?_
    refine wm_riald E (by decide) rfl rfl (by decide) (by decide) h dM_nearest_40 (fun x40 h => ?_)
    refine wm_icmp_ge (tgt := 171) E dM_nearest_41 (by decide) (fun c41 => ?_) (fun c41 => ?_)
    · have h := (if_pos c41).symm.trans h
      refine wm_iinc (lv' := [(5, vI (v5 + 1)), (0, vR (some b)), (3, vI v3), (4, vI v4), (6, vI v6)]) (d := 1) E dM_nearest_171 (by decide) (j := 3) rfl (by decide) rfl ?_
      refine wm_goto (tgt := 16) E dM_nearest_174 (by decide) ?_
      refine wm_pick (lv' := [(0, vR (some b)), (3, vI v3), (4, vI v4), (5, vI (v5 + 1))]) [1, 2, 3, 0] rfl ?_
      exact hk16 v3 v4 (v5 + 1) (ρ) h
    · have h := (if_neg c41).symm.trans h
      refine wm_bipush (x := 8) E dM_nearest_44 (by decide) ?_
      refine wm_iload_n E dM_nearest_46 rfl (j := 1) rfl ?_
      refine wm_imul E dM_nearest_47 ?_
      refine wm_iload E dM_nearest_48 (j := 4) rfl ?_
      refine wm_iadd E dM_nearest_50 ?_
      refine wm_letI h (fun x51 h => ?_)
      refine wm_istore (lv' := [(7, vI x51), (0, vR (some b)), (3, vI v3), (4, vI v4), (5, vI v5), (6, vI v6)]) E dM_nearest_51 (by decide) rfl ?_
      refine wm_aload_n E dM_nearest_53 rfl (j := 1) rfl ?_
      refine wm_aload_n E dM_nearest_54 rfl (j := 1) rfl ?_
      refine wm_rget (v := vR (some (b + 28))) E fd_M_91 rfl dM_nearest_55 ?_
      refine wm_iload E dM_nearest_58 (j := 0) rfl ?_
      refine wm_riald E (by decide) rfl rfl (by decide) (by decide) h dM_nearest_60 (fun x60 h => ?_)
      refine wm_aload_n E dM_nearest_61 rfl (j := 1) rfl ?_
      refine wm_rget (v := vR (some (b + 29))) E fd_M_94 rfl dM_nearest_62 ?_
      refine wm_iload E dM_nearest_65 (j := 0) rfl ?_
      refine wm_riald E (by decide) rfl rfl (by decide) (by decide) h dM_nearest_67 (fun x67 h => ?_)
      refine wm_aload_n E dM_nearest_68 rfl (j := 1) rfl ?_
      refine wm_rget (v := vR (some (b + 28))) E fd_M_91 rfl dM_nearest_69 ?_
      refine wm_iload E dM_nearest_72 (j := 0) rfl ?_
      refine wm_iconst (x := 1) E dM_nearest_74 (by decide) ?_
      refine wm_iadd E dM_nearest_75 ?_
      refine wm_riald E (by decide) rfl rfl (by decide) (by decide) h dM_nearest_76 (fun x76 h => ?_)
      refine wm_aload_n E dM_nearest_77 rfl (j := 1) rfl ?_
      refine wm_rget (v := vR (some (b + 29))) E fd_M_94 rfl dM_nearest_78 ?_
      refine wm_iload E dM_nearest_81 (j := 0) rfl ?_
      refine wm_iconst (x := 1) E dM_nearest_83 (by decide) ?_
      refine wm_iadd E dM_nearest_84 ?_
      refine wm_riald E (by decide) rfl rfl (by decide) (by decide) h dM_nearest_85 (fun x85 h => ?_)
      refine wm_aload_n E dM_nearest_86 rfl (j := 1) rfl ?_
      refine wm_rget (v := vR (some (b + 6))) E fd_M_25 rfl dM_nearest_87 ?_
      refine wm_bipush (x := 8) E dM_nearest_90 (by decide) ?_
      refine wm_iload E dM_nearest_92 (j := 3) rfl ?_
      refine wm_imul E dM_nearest_94 ?_
      refine wm_iload E dM_nearest_95 (j := 4) rfl ?_
      refine wm_iadd E dM_nearest_97 ?_
      refine wm_riald E (by decide) rfl rfl (by decide) (by decide) h dM_nearest_98 (fun x98 h => ?_)
      refine wm_aload_n E dM_nearest_99 rfl (j := 1) rfl ?_
      refine wm_rget (v := vR (some (b + 7))) E fd_M_28 rfl dM_nearest_100 ?_
      refine wm_bipush (x := 8) E dM_nearest_103 (by decide) ?_
      refine wm_iload E dM_nearest_105 (j := 3) rfl ?_
      refine wm_imul E dM_nearest_107 ?_
      refine wm_iload E dM_nearest_108 (j := 4) rfl ?_
      refine wm_iadd E dM_nearest_110 ?_
      refine wm_riald E (by decide) rfl rfl (by decide) (by decide) h dM_nearest_111 (fun x111 h => ?_)
      obtain ⟨x112, ρ112, hc112, h⟩ := c2S h
      refine wm_cV (ci := 12) (As := [vI x60, vI x67, vI x76, vI x85, vI x98, vI x111]) (st := []) E lk_M_250 rfl im_M_measure sl_M_measure (ov_rc _ _ _) (RC_M_measure (xl X) X.1 b (ρ) μ hW x60 x67 x76 x85 x98 x111 _ _ hc112) rfl rfl (by rw [hR]; decide) (by rw [hR]; decide) (Nat.le_of_ble_eq_true rfl) dM_nearest_112 ?_
      refine wm_aload_n E dM_nearest_115 rfl (j := 1) rfl ?_
      refine wm_iload E dM_nearest_116 (j := 5) rfl ?_
      obtain ⟨x118, hc118, h⟩ := b1S h
      refine wm_cV (ci := 12) (As := [vI v6]) (st := []) E lk_M_254 rfl im_M_isNearer sl_M_isNearer (ov_rc _ _ _) (RC_M_isNearer (xl X) X.1 b (ρ112) μ v6 _ hc118) rfl rfl (by rw [hR]; decide) (by rw [hR]; decide) (Nat.le_of_ble_eq_true rfl) dM_nearest_118 ?_
      refine wm_if_ne (tgt := 127) E dM_nearest_121 (by decide) (fun c121 => ?_) (fun c121 => ?_)
      · have h := (if_neg c121).symm.trans h
        refine wm_aload_n E dM_nearest_127 rfl (j := 1) rfl ?_
        refine wm_iload E dM_nearest_128 (j := 5) rfl ?_
        refine wm_rpI E fp_M_231 (fun q => by cases q) rfl (by decide) hW dM_nearest_130 ?_
        refine wm_rlet h (fun ρ130 h => ?_)
        refine wm_aload_n E dM_nearest_133 rfl (j := 1) rfl ?_
        refine wm_aload_n E dM_nearest_134 rfl (j := 1) rfl ?_
        refine wm_rget (v := vL (rl ρ130 41)) E fd_M_225 rfl dM_nearest_135 ?_
        refine wm_rpL E fp_M_234 (fun q => by cases q) rfl (by decide) hW dM_nearest_138 ?_
        refine wm_rlet h (fun ρ138 h => ?_)
        refine wm_aload_n E dM_nearest_141 rfl (j := 1) rfl ?_
        refine wm_aload_n E dM_nearest_142 rfl (j := 1) rfl ?_
        refine wm_rget (v := vL (rl ρ138 42)) E fd_M_222 rfl dM_nearest_143 ?_
        refine wm_rpL E fp_M_237 (fun q => by cases q) rfl (by decide) hW dM_nearest_146 ?_
        refine wm_rlet h (fun ρ146 h => ?_)
        refine wm_aload_n E dM_nearest_149 rfl (j := 1) rfl ?_
        refine wm_aload_n E dM_nearest_150 rfl (j := 1) rfl ?_
        refine wm_rget (v := vL (rl ρ146 43)) E fd_M_228 rfl dM_nearest_151 ?_
        refine wm_rpL E fp_M_244 (fun q => by cases q) rfl (by decide) hW dM_nearest_154 ?_
        refine wm_rlet h (fun ρ154 h => ?_)
        refine wm_aload_n E dM_nearest_157 rfl (j := 1) rfl ?_
        refine wm_aload_n E dM_nearest_158 rfl (j := 1) rfl ?_
        refine wm_rget (v := vL (rl ρ154 44)) E fd_M_218 rfl dM_nearest_159 ?_
        refine wm_rpL E fp_M_247 (fun q => by cases q) rfl (by decide) hW dM_nearest_162 ?_
        refine wm_rlet h (fun ρ162 h => ?_)
        refine wm_pick (lv' := [(0, vR (some b)), (3, vI v3), (4, vI v4), (5, vI v5), (6, vI v6)]) [1, 2, 3, 4, 5] rfl ?_
        exact rw_M_nearest_165 E hQ hR hI hW k16 hk16 (fun v3 v4 v5 v6 ρ => RB_M_nearest_31 k16 n v3 v4 v5 v6 ρ) ih v3 v4 v5 v6 (ρ162) h
      · have h := (if_pos c121).symm.trans h
        refine wm_goto (tgt := 165) E dM_nearest_124 (by decide) ?_
        refine wm_pick (lv' := [(0, vR (some b)), (3, vI v3), (4, vI v4), (5, vI v5), (6, vI v6)]) [1, 2, 3, 4, 5] rfl ?_
        exact rw_M_nearest_165 E hQ hR hI hW k16 hk16 (fun v3 v4 v5 v6 ρ => RB_M_nearest_31 k16 n v3 v4 v5 v6 ρ) ih v3 v4 v5 v6 (ρ112) h
def RB_M_nearest_16  : Nat → Int32 → Int32 → Int32 → RS → Option (Unit × RS)
  | 0, _, _, _, _ => none
  | n + 1, v3, v4, v5, ρ => b1 (rgI ρ 6 90 v4) (fun x24 => if x24 ≤ v5 then some ((), ρ) else RB_M_nearest_31 (fun v3 v4 v5 ρ => RB_M_nearest_16 n v3 v4 v5 ρ) fu v3 v4 v5 0 (ρ))
set_option maxHeartbeats 4000000 in
set_option maxRecDepth 100000 in
theorem rw_M_nearest_16 {X : CX} (E : EV X prog_13_method_44_code 8 "PlaceFinderModel" none) {μ0 μ : Mem} {b : Nat} {r : Unit} {ρ' : RS} (hQ : RQ X 0 0 μ0 none (ov b ρ' μ)) (hR : xR X = { frames := 2, cells := 0, slots := 0, locals := 62 }) (hI : X.2.2.2.2.2.2.2.2.2.2.2.1.name = "nearest") (hW : mW μ ≤ b)  (n : Nat) : ∀ (v3 : Int32) (v4 : Int32) (v5 : Int32) (ρ : RS) (h : RB_M_nearest_16  n v3 v4 v5 ρ = some (r, ρ')), WM X 8 16 [(0, vR (some b)), (3, vI v3), (4, vI v4), (5, vI v5)] [] 0 0 (ov b ρ μ) := by
  induction n with
  | zero => intro v3 v4 v5 ρ h; cases h
  | succ n ih =>
    intro v3 v4 v5 ρ h
    have h : (b1 (rgI ρ 6 90 v4) (fun x24 => if x24 ≤ v5 then some ((), ρ) else RB_M_nearest_31 (fun v3 v4 v5 ρ => RB_M_nearest_16 n v3 v4 v5 ρ) fu v3 v4 v5 0 (ρ))) = some (r, ρ') := h
    refine wm_iload E dM_nearest_16 (j := 3) rfl ?_
    refine wm_aload_n E dM_nearest_18 rfl (j := 0) rfl ?_
    refine wm_rget (v := vR (some (b + 5))) E fd_M_22 rfl dM_nearest_19 ?_
    refine wm_iload E dM_nearest_22 (j := 2) rfl ?_
    refine wm_riald E (by decide) rfl rfl (by decide) (by decide) h dM_nearest_24 (fun x24 h => ?_)
    refine wm_icmp_ge (tgt := 177) E dM_nearest_25 (by decide) (fun c25 => ?_) (fun c25 => ?_)
    · have h := (if_pos c25).symm.trans h
      exact wm_vret E hQ rfl (rrM h) (by decide) (by decide) dM_nearest_177
    · have h := (if_neg c25).symm.trans h
      refine wm_iconst (x := 0) E dM_nearest_28 (by decide) ?_
      refine wm_istore (lv' := [(6, vI 0), (0, vR (some b)), (3, vI v3), (4, vI v4), (5, vI v5)]) E dM_nearest_29 (by decide) rfl ?_
      refine wm_pick (lv' := [(0, vR (some b)), (3, vI v3), (4, vI v4), (5, vI v5), (6, vI 0)]) [1, 2, 3, 4, 0] rfl ?_
      exact rw_M_nearest_31 E hQ hR hI hW (fun v3 v4 v5 ρ => RB_M_nearest_16 n v3 v4 v5 ρ) ih fu v3 v4 v5 0 (ρ) h
def R_M_nearest (v1 : Int32) (v2 : Int32) (v3 : Int32) (ρ : RS) : Option (Unit × RS) := b1 (R_M_shapeOf v1 v2 (ρ)) (fun x3 => b0 (rpI ρ 49 ((-1))) (fun ρ10 => RB_M_nearest_16 fu v3 x3 0 (ρ10)))
set_option maxHeartbeats 4000000 in
set_option maxRecDepth 100000 in
theorem RC_M_nearest (l : Launch) (G : GG) (b : Nat) (ρ : RS) (μ : Mem) (hW : mW μ ≤ b) (v1 : Int32) (v2 : Int32) (v3 : Int32) (r : Unit) (ρ' : RS) (h : R_M_nearest v1 v2 v3 ρ = some (r, ρ')) : CT l G y_M_nearest prog_13_method_44_code 8 none 2 0 0 62 (ov b ρ μ) [vR (some b), vI v1, vI v2, vI v3] none (ov b ρ' μ) := by
  refine wm_met (lv := [(0, vR (some b)), (1, vI v1), (2, vI v2), (3, vI v3)]) (by decide +kernel) (Nat.le_of_ble_eq_true rfl) rfl (fun X E hQ hR hI => ?_)
  have h : (b1 (R_M_shapeOf v1 v2 (ρ)) (fun x3 => b0 (rpI ρ 49 ((-1))) (fun ρ10 => RB_M_nearest_16 fu v3 x3 0 (ρ10)))) = some (r, ρ') := h
  refine wm_aload_n E dM_nearest_0 rfl (j := 0) rfl ?_
  refine wm_iload_n E dM_nearest_1 rfl (j := 1) rfl ?_
  refine wm_iload_n E dM_nearest_2 rfl (j := 2) rfl ?_
  obtain ⟨x3, hc3, h⟩ := b1S h
  refine wm_cV (ci := 12) (As := [vI v1, vI v2]) (st := []) E lk_M_161 rfl im_M_shapeOf sl_M_shapeOf (ov_rc _ _ _) (RC_M_shapeOf (xl X) X.1 b (ρ) μ v1 v2 _ hc3) rfl rfl (by rw [hR]; decide) (by rw [hR]; decide) (Nat.le_of_ble_eq_true rfl) dM_nearest_3 ?_
  refine wm_istore (lv' := [(4, vI x3), (0, vR (some b)), (1, vI v1), (2, vI v2), (3, vI v3)]) E dM_nearest_6 (by decide) rfl ?_
  refine wm_aload_n E dM_nearest_8 rfl (j := 1) rfl ?_
  refine wm_iconst (x := -1) E dM_nearest_9 (by decide) ?_
  refine wm_rpI E fp_M_231 (fun q => by cases q) rfl (by decide) hW dM_nearest_10 ?_
  refine wm_rlet h (fun ρ10 h => ?_)
  refine wm_iconst (x := 0) E dM_nearest_13 (by decide) ?_
  refine wm_istore (lv' := [(5, vI 0), (4, vI x3), (0, vR (some b)), (1, vI v1), (2, vI v2), (3, vI v3)]) E dM_nearest_14 (by decide) rfl ?_
  refine wm_pick (lv' := [(0, vR (some b)), (3, vI v3), (4, vI x3), (5, vI 0)]) [2, 5, 1, 0] rfl ?_
  exact rw_M_nearest_16 E hQ hR hI hW fu v3 x3 0 (ρ10) h
def RB_M_isOnRoute_44  (s0 : Int32) (ρ : RS) : Option (Int32 × RS) := gd (¬ okZ s0 = true) (some (s0, ρ))
set_option maxHeartbeats 4000000 in
set_option maxRecDepth 100000 in
theorem rw_M_isOnRoute_44 {X : CX} (E : EV X prog_13_method_45_code 5 "PlaceFinderModel" (some .boolean)) {μ0 μ : Mem} {b : Nat} {r : Int32} {ρ' : RS} (hQ : RQ X 0 0 μ0 (some (vI r)) (ov b ρ' μ)) (hR : xR X = { frames := 3, cells := 0, slots := 0, locals := 89 }) (hI : X.2.2.2.2.2.2.2.2.2.2.2.1.name = "isOnRoute") (hW : mW μ ≤ b)  (s0 : Int32) (ρ : RS) (h : RB_M_isOnRoute_44  s0 ρ = some (r, ρ')) : WM X 5 44 [] [vI s0] 0 0 (ov b ρ μ) := by
  have h : (gd (¬ okZ s0 = true) (some (s0, ρ))) = some (r, ρ') := h
  obtain ⟨hz44, h⟩ := gdS h
  exact wm_zret (rt := .boolean) E hQ (rrI h) (rrM h) (okZN hz44) (by decide) (by decide) dM_isOnRoute_44
def R_M_isOnRoute (v1 : Int32) (v2 : Int32) (v3 : Int32) (v4 : Int32) (ρ : RS) : Option (Int32 × RS) := b1 (rgI ρ 30 5 v3) (fun x5 => if 2 ≤ x5 then c2 (R_M_nearest v1 v2 v3 (ρ)) (fun x16 ρ16 => if 0 < (lg_cmp (rl ρ16 45) ((((v4 : Int32).toInt64) * ((v4 : Int32).toInt64)) * (rl ρ16 46))) then RB_M_isOnRoute_44 0 (ρ16) else RB_M_isOnRoute_44 1 (ρ16)) else gd (¬ okZ 0 = true) (some (0, ρ)))
set_option maxHeartbeats 4000000 in
set_option maxRecDepth 100000 in
theorem RC_M_isOnRoute (l : Launch) (G : GG) (b : Nat) (ρ : RS) (μ : Mem) (hW : mW μ ≤ b) (v1 : Int32) (v2 : Int32) (v3 : Int32) (v4 : Int32) (r : Int32) (ρ' : RS) (h : R_M_isOnRoute v1 v2 v3 v4 ρ = some (r, ρ')) : CT l G y_M_isOnRoute prog_13_method_45_code 5 (some .boolean) 3 0 0 89 (ov b ρ μ) [vR (some b), vI v1, vI v2, vI v3, vI v4] (some (vI r)) (ov b ρ' μ) := by
  refine wm_met (lv := [(0, vR (some b)), (1, vI v1), (2, vI v2), (3, vI v3), (4, vI v4)]) (by decide +kernel) (Nat.le_of_ble_eq_true rfl) rfl (fun X E hQ hR hI => ?_)
  have h : (b1 (rgI ρ 30 5 v3) (fun x5 => if 2 ≤ x5 then c2 (R_M_nearest v1 v2 v3 (ρ)) (fun x16 ρ16 => if 0 < (lg_cmp (rl ρ16 45) ((((v4 : Int32).toInt64) * ((v4 : Int32).toInt64)) * (rl ρ16 46))) then RB_M_isOnRoute_44 0 (ρ16) else RB_M_isOnRoute_44 1 (ρ16)) else gd (¬ okZ 0 = true) (some (0, ρ)))) = some (r, ρ') := h
  refine wm_aload_n E dM_isOnRoute_0 rfl (j := 0) rfl ?_
  refine wm_rget (v := vR (some (b + 27))) E fd_M_88 rfl dM_isOnRoute_1 ?_
  refine wm_iload_n E dM_isOnRoute_4 rfl (j := 3) rfl ?_
  refine wm_riald E (by decide) rfl rfl (by decide) (by decide) h dM_isOnRoute_5 (fun x5 h => ?_)
  refine wm_iconst (x := 2) E dM_isOnRoute_6 (by decide) ?_
  refine wm_icmp_ge (tgt := 12) E dM_isOnRoute_7 (by decide) (fun c7 => ?_) (fun c7 => ?_)
  · have h := (if_pos c7).symm.trans h
    refine wm_aload_n E dM_isOnRoute_12 rfl (j := 0) rfl ?_
    refine wm_iload_n E dM_isOnRoute_13 rfl (j := 1) rfl ?_
    refine wm_iload_n E dM_isOnRoute_14 rfl (j := 2) rfl ?_
    refine wm_iload_n E dM_isOnRoute_15 rfl (j := 3) rfl ?_
    obtain ⟨x16, ρ16, hc16, h⟩ := c2S h
    refine wm_cV (ci := 12) (As := [vI v1, vI v2, vI v3]) (st := []) E lk_M_257 rfl im_M_nearest sl_M_nearest (ov_rc _ _ _) (RC_M_nearest (xl X) X.1 b (ρ) μ hW v1 v2 v3 _ _ hc16) rfl rfl (by rw [hR]; decide) (by rw [hR]; decide) (Nat.le_of_ble_eq_true rfl) dM_isOnRoute_16 ?_
    refine wm_aload_n E dM_isOnRoute_19 rfl (j := 0) rfl ?_
    refine wm_rget (v := vL (rl ρ16 45)) E fd_M_234 rfl dM_isOnRoute_20 ?_
    refine wm_iload E dM_isOnRoute_23 (j := 4) rfl ?_
    refine wm_i2l E dM_isOnRoute_25 ?_
    refine wm_iload E dM_isOnRoute_26 (j := 4) rfl ?_
    refine wm_i2l E dM_isOnRoute_28 ?_
    refine wm_lmul E dM_isOnRoute_29 ?_
    refine wm_aload_n E dM_isOnRoute_30 rfl (j := 0) rfl ?_
    refine wm_rget (v := vL (rl ρ16 46)) E fd_M_237 rfl dM_isOnRoute_31 ?_
    refine wm_lmul E dM_isOnRoute_34 ?_
    refine wm_lcmp E dM_isOnRoute_35 ?_
    refine wm_if_gt (tgt := 43) E dM_isOnRoute_36 (by decide) (fun c36 => ?_) (fun c36 => ?_)
    · have h := (if_pos c36).symm.trans h
      refine wm_iconst (x := 0) E dM_isOnRoute_43 (by decide) ?_
      refine wm_pick (lv' := []) [] rfl ?_
      exact rw_M_isOnRoute_44 E hQ hR hI hW 0 (ρ16) h
    · have h := (if_neg c36).symm.trans h
      refine wm_iconst (x := 1) E dM_isOnRoute_39 (by decide) ?_
      refine wm_goto (tgt := 44) E dM_isOnRoute_40 (by decide) ?_
      refine wm_pick (lv' := []) [] rfl ?_
      exact rw_M_isOnRoute_44 E hQ hR hI hW 1 (ρ16) h
  · have h := (if_neg c7).symm.trans h
    refine wm_iconst (x := 0) E dM_isOnRoute_10 (by decide) ?_
    obtain ⟨hz11, h⟩ := gdS h
    exact wm_zret (rt := .boolean) E hQ (rrI h) (rrM h) (okZN hz11) (by decide) (by decide) dM_isOnRoute_11
def RB_M_meets_228  (v4 : Int32) (ρ : RS) : Option (Int32 × RS) := gd (¬ okZ v4 = true) (some (v4, ρ))
set_option maxHeartbeats 4000000 in
set_option maxRecDepth 100000 in
theorem rw_M_meets_228 {X : CX} (E : EV X prog_13_method_46_code 9 "PlaceFinderModel" (some .boolean)) {μ0 μ : Mem} {b : Nat} {r : Int32} {ρ' : RS} (hQ : RQ X 0 0 μ0 (some (vI r)) (ov b ρ' μ)) (hR : xR X = { frames := 4, cells := 0, slots := 0, locals := 113 }) (hI : X.2.2.2.2.2.2.2.2.2.2.2.1.name = "meets") (hW : mW μ ≤ b)  (v4 : Int32) (ρ : RS) (h : RB_M_meets_228  v4 ρ = some (r, ρ')) : WM X 9 228 [(4, vI v4)] [] 0 0 (ov b ρ μ) := by
  have h : (gd (¬ okZ v4 = true) (some (v4, ρ))) = some (r, ρ') := h
  refine wm_iload E dM_meets_228 (j := 0) rfl ?_
  obtain ⟨hz230, h⟩ := gdS h
  exact wm_zret (rt := .boolean) E hQ (rrI h) (rrM h) (okZN hz230) (by decide) (by decide) dM_meets_230
def RB_M_meets_222 (k11 : Int32 → Int32 → Int32 → Int32 → Int32 → RS → Option (Int32 × RS)) (v1 : Int32) (v2 : Int32) (v3 : Int32) (v4 : Int32) (v5 : Int32) (ρ : RS) : Option (Int32 × RS) := k11 v1 v2 v3 v4 (v5 + 1) (ρ)
set_option maxHeartbeats 4000000 in
set_option maxRecDepth 100000 in
theorem rw_M_meets_222 {X : CX} (E : EV X prog_13_method_46_code 9 "PlaceFinderModel" (some .boolean)) {μ0 μ : Mem} {b : Nat} {r : Int32} {ρ' : RS} (hQ : RQ X 0 0 μ0 (some (vI r)) (ov b ρ' μ)) (hR : xR X = { frames := 4, cells := 0, slots := 0, locals := 113 }) (hI : X.2.2.2.2.2.2.2.2.2.2.2.1.name = "meets") (hW : mW μ ≤ b) (k11 : Int32 → Int32 → Int32 → Int32 → Int32 → RS → Option (Int32 × RS)) (hk11 : ∀ (v1 : Int32) (v2 : Int32) (v3 : Int32) (v4 : Int32) (v5 : Int32) (ρ : RS), k11 v1 v2 v3 v4 v5 ρ = some (r, ρ') → WM X 9 11 [(0, vR (some b)), (1, vI v1), (2, vI v2), (3, vI v3), (4, vI v4), (5, vI v5)] [] 0 0 (ov b ρ μ)) (v1 : Int32) (v2 : Int32) (v3 : Int32) (v4 : Int32) (v5 : Int32) (ρ : RS) (h : RB_M_meets_222 k11 v1 v2 v3 v4 v5 ρ = some (r, ρ')) : WM X 9 222 [(0, vR (some b)), (1, vI v1), (2, vI v2), (3, vI v3), (4, vI v4), (5, vI v5)] [] 0 0 (ov b ρ μ) := by
  have h : (k11 v1 v2 v3 v4 (v5 + 1) (ρ)) = some (r, ρ') := h
  refine wm_iinc (lv' := [(5, vI (v5 + 1)), (0, vR (some b)), (1, vI v1), (2, vI v2), (3, vI v3), (4, vI v4)]) (d := 1) E dM_meets_222 (by decide) (j := 5) rfl (by decide) rfl ?_
  refine wm_goto (tgt := 11) E dM_meets_225 (by decide) ?_
  refine wm_pick (lv' := [(0, vR (some b)), (1, vI v1), (2, vI v2), (3, vI v3), (4, vI v4), (5, vI (v5 + 1))]) [1, 2, 3, 4, 5, 0] rfl ?_
  exact hk11 v1 v2 v3 v4 (v5 + 1) (ρ) h
def RB_M_meets_206 (k11 : Int32 → Int32 → Int32 → Int32 → Int32 → RS → Option (Int32 × RS)) (v1 : Int32) (v2 : Int32) (v3 : Int32) (v5 : Int32) (s0 : Int32) (ρ : RS) : Option (Int32 × RS) := RB_M_meets_222 k11 v1 v2 v3 s0 v5 (ρ)
set_option maxHeartbeats 4000000 in
set_option maxRecDepth 100000 in
theorem rw_M_meets_206 {X : CX} (E : EV X prog_13_method_46_code 9 "PlaceFinderModel" (some .boolean)) {μ0 μ : Mem} {b : Nat} {r : Int32} {ρ' : RS} (hQ : RQ X 0 0 μ0 (some (vI r)) (ov b ρ' μ)) (hR : xR X = { frames := 4, cells := 0, slots := 0, locals := 113 }) (hI : X.2.2.2.2.2.2.2.2.2.2.2.1.name = "meets") (hW : mW μ ≤ b) (k11 : Int32 → Int32 → Int32 → Int32 → Int32 → RS → Option (Int32 × RS)) (hk11 : ∀ (v1 : Int32) (v2 : Int32) (v3 : Int32) (v4 : Int32) (v5 : Int32) (ρ : RS), k11 v1 v2 v3 v4 v5 ρ = some (r, ρ') → WM X 9 11 [(0, vR (some b)), (1, vI v1), (2, vI v2), (3, vI v3), (4, vI v4), (5, vI v5)] [] 0 0 (ov b ρ μ)) (v1 : Int32) (v2 : Int32) (v3 : Int32) (v5 : Int32) (s0 : Int32) (ρ : RS) (h : RB_M_meets_206 k11 v1 v2 v3 v5 s0 ρ = some (r, ρ')) : WM X 9 206 [(0, vR (some b)), (1, vI v1), (2, vI v2), (3, vI v3), (5, vI v5)] [vI s0] 0 0 (ov b ρ μ) := by
  have h : (RB_M_meets_222 k11 v1 v2 v3 s0 v5 (ρ)) = some (r, ρ') := h
  refine wm_istore (lv' := [(4, vI s0), (0, vR (some b)), (1, vI v1), (2, vI v2), (3, vI v3), (5, vI v5)]) E dM_meets_206 (by decide) rfl ?_
  refine wm_goto (tgt := 222) E dM_meets_208 (by decide) ?_
  refine wm_pick (lv' := [(0, vR (some b)), (1, vI v1), (2, vI v2), (3, vI v3), (4, vI s0), (5, vI v5)]) [1, 2, 3, 4, 0, 5] rfl ?_
  exact rw_M_meets_222 E hQ hR hI hW k11 hk11 v1 v2 v3 s0 v5 (ρ) h
def RB_M_meets_156 (k11 : Int32 → Int32 → Int32 → Int32 → Int32 → RS → Option (Int32 × RS)) (v1 : Int32) (v2 : Int32) (v3 : Int32) (v5 : Int32) (s0 : Int32) (ρ : RS) : Option (Int32 × RS) := RB_M_meets_222 k11 v1 v2 v3 s0 v5 (ρ)
set_option maxHeartbeats 4000000 in
set_option maxRecDepth 100000 in
theorem rw_M_meets_156 {X : CX} (E : EV X prog_13_method_46_code 9 "PlaceFinderModel" (some .boolean)) {μ0 μ : Mem} {b : Nat} {r : Int32} {ρ' : RS} (hQ : RQ X 0 0 μ0 (some (vI r)) (ov b ρ' μ)) (hR : xR X = { frames := 4, cells := 0, slots := 0, locals := 113 }) (hI : X.2.2.2.2.2.2.2.2.2.2.2.1.name = "meets") (hW : mW μ ≤ b) (k11 : Int32 → Int32 → Int32 → Int32 → Int32 → RS → Option (Int32 × RS)) (hk11 : ∀ (v1 : Int32) (v2 : Int32) (v3 : Int32) (v4 : Int32) (v5 : Int32) (ρ : RS), k11 v1 v2 v3 v4 v5 ρ = some (r, ρ') → WM X 9 11 [(0, vR (some b)), (1, vI v1), (2, vI v2), (3, vI v3), (4, vI v4), (5, vI v5)] [] 0 0 (ov b ρ μ)) (v1 : Int32) (v2 : Int32) (v3 : Int32) (v5 : Int32) (s0 : Int32) (ρ : RS) (h : RB_M_meets_156 k11 v1 v2 v3 v5 s0 ρ = some (r, ρ')) : WM X 9 156 [(0, vR (some b)), (1, vI v1), (2, vI v2), (3, vI v3), (5, vI v5)] [vI s0] 0 0 (ov b ρ μ) := by
  have h : (RB_M_meets_222 k11 v1 v2 v3 s0 v5 (ρ)) = some (r, ρ') := h
  refine wm_istore (lv' := [(4, vI s0), (0, vR (some b)), (1, vI v1), (2, vI v2), (3, vI v3), (5, vI v5)]) E dM_meets_156 (by decide) rfl ?_
  refine wm_goto (tgt := 222) E dM_meets_158 (by decide) ?_
  refine wm_pick (lv' := [(0, vR (some b)), (1, vI v1), (2, vI v2), (3, vI v3), (4, vI s0), (5, vI v5)]) [1, 2, 3, 4, 0, 5] rfl ?_
  exact rw_M_meets_222 E hQ hR hI hW k11 hk11 v1 v2 v3 s0 v5 (ρ) h
def RB_M_meets_155 (k11 : Int32 → Int32 → Int32 → Int32 → Int32 → RS → Option (Int32 × RS)) (v1 : Int32) (v2 : Int32) (v3 : Int32) (v5 : Int32) (ρ : RS) : Option (Int32 × RS) := RB_M_meets_156 k11 v1 v2 v3 v5 0 (ρ)
set_option maxHeartbeats 4000000 in
set_option maxRecDepth 100000 in
theorem rw_M_meets_155 {X : CX} (E : EV X prog_13_method_46_code 9 "PlaceFinderModel" (some .boolean)) {μ0 μ : Mem} {b : Nat} {r : Int32} {ρ' : RS} (hQ : RQ X 0 0 μ0 (some (vI r)) (ov b ρ' μ)) (hR : xR X = { frames := 4, cells := 0, slots := 0, locals := 113 }) (hI : X.2.2.2.2.2.2.2.2.2.2.2.1.name = "meets") (hW : mW μ ≤ b) (k11 : Int32 → Int32 → Int32 → Int32 → Int32 → RS → Option (Int32 × RS)) (hk11 : ∀ (v1 : Int32) (v2 : Int32) (v3 : Int32) (v4 : Int32) (v5 : Int32) (ρ : RS), k11 v1 v2 v3 v4 v5 ρ = some (r, ρ') → WM X 9 11 [(0, vR (some b)), (1, vI v1), (2, vI v2), (3, vI v3), (4, vI v4), (5, vI v5)] [] 0 0 (ov b ρ μ)) (v1 : Int32) (v2 : Int32) (v3 : Int32) (v5 : Int32) (ρ : RS) (h : RB_M_meets_155 k11 v1 v2 v3 v5 ρ = some (r, ρ')) : WM X 9 155 [(0, vR (some b)), (1, vI v1), (2, vI v2), (3, vI v3), (5, vI v5)] [] 0 0 (ov b ρ μ) := by
  have h : (RB_M_meets_156 k11 v1 v2 v3 v5 0 (ρ)) = some (r, ρ') := h
  refine wm_iconst (x := 0) E dM_meets_155 (by decide) ?_
  refine wm_pick (lv' := [(0, vR (some b)), (1, vI v1), (2, vI v2), (3, vI v3), (5, vI v5)]) [0, 1, 2, 3, 4] rfl ?_
  exact rw_M_meets_156 E hQ hR hI hW k11 hk11 v1 v2 v3 v5 0 (ρ) h
def RB_M_meets_94 (k11 : Int32 → Int32 → Int32 → Int32 → Int32 → RS → Option (Int32 × RS)) (v1 : Int32) (v2 : Int32) (v3 : Int32) (v5 : Int32) (s0 : Int32) (ρ : RS) : Option (Int32 × RS) := RB_M_meets_222 k11 v1 v2 v3 s0 v5 (ρ)
set_option maxHeartbeats 4000000 in
set_option maxRecDepth 100000 in
theorem rw_M_meets_94 {X : CX} (E : EV X prog_13_method_46_code 9 "PlaceFinderModel" (some .boolean)) {μ0 μ : Mem} {b : Nat} {r : Int32} {ρ' : RS} (hQ : RQ X 0 0 μ0 (some (vI r)) (ov b ρ' μ)) (hR : xR X = { frames := 4, cells := 0, slots := 0, locals := 113 }) (hI : X.2.2.2.2.2.2.2.2.2.2.2.1.name = "meets") (hW : mW μ ≤ b) (k11 : Int32 → Int32 → Int32 → Int32 → Int32 → RS → Option (Int32 × RS)) (hk11 : ∀ (v1 : Int32) (v2 : Int32) (v3 : Int32) (v4 : Int32) (v5 : Int32) (ρ : RS), k11 v1 v2 v3 v4 v5 ρ = some (r, ρ') → WM X 9 11 [(0, vR (some b)), (1, vI v1), (2, vI v2), (3, vI v3), (4, vI v4), (5, vI v5)] [] 0 0 (ov b ρ μ)) (v1 : Int32) (v2 : Int32) (v3 : Int32) (v5 : Int32) (s0 : Int32) (ρ : RS) (h : RB_M_meets_94 k11 v1 v2 v3 v5 s0 ρ = some (r, ρ')) : WM X 9 94 [(0, vR (some b)), (1, vI v1), (2, vI v2), (3, vI v3), (5, vI v5)] [vI s0] 0 0 (ov b ρ μ) := by
  have h : (RB_M_meets_222 k11 v1 v2 v3 s0 v5 (ρ)) = some (r, ρ') := h
  refine wm_istore (lv' := [(4, vI s0), (0, vR (some b)), (1, vI v1), (2, vI v2), (3, vI v3), (5, vI v5)]) E dM_meets_94 (by decide) rfl ?_
  refine wm_goto (tgt := 222) E dM_meets_96 (by decide) ?_
  refine wm_pick (lv' := [(0, vR (some b)), (1, vI v1), (2, vI v2), (3, vI v3), (4, vI s0), (5, vI v5)]) [1, 2, 3, 4, 0, 5] rfl ?_
  exact rw_M_meets_222 E hQ hR hI hW k11 hk11 v1 v2 v3 s0 v5 (ρ) h
def RB_M_meets_11  : Nat → Int32 → Int32 → Int32 → Int32 → Int32 → RS → Option (Int32 × RS)
  | 0, _, _, _, _, _, _ => none
  | n + 1, v1, v2, v3, v4, v5, ρ => b1 (rgI ρ 23 5 v3) (fun x18 => if x18 ≤ v5 then RB_M_meets_228 v4 (ρ) else if v4 = 0 then RB_M_meets_228 v4 (ρ) else b0 ((5 * v3) + v5) (fun x33 => b1 (rgI ρ 25 25 x33) (fun x41 => b1 (rgI ρ 24 25 x33) (fun x50 => if 4 ≤ x50 then if x50 = 4 then b1 (rgI ρ 2 30 v1) (fun x83 => if x83 = x41 then RB_M_meets_94 (fun v1 v2 v3 v4 v5 ρ => RB_M_meets_11 n v1 v2 v3 v4 v5 ρ) v1 v2 v3 v5 1 (ρ) else RB_M_meets_94 (fun v1 v2 v3 v4 v5 ρ => RB_M_meets_11 n v1 v2 v3 v4 v5 ρ) v1 v2 v3 v5 0 (ρ)) else if x50 = 5 then b1 (R_M_isInside v1 x41 v2 (ρ)) (fun x110 => RB_M_meets_222 (fun v1 v2 v3 v4 v5 ρ => RB_M_meets_11 n v1 v2 v3 v4 v5 ρ) v1 v2 v3 x110 v5 (ρ)) else if x50 = 6 then b1 (R_M_parentOf v1 v2 (ρ)) (fun x128 => if x128 = ((-1)) then RB_M_meets_155 (fun v1 v2 v3 v4 v5 ρ => RB_M_meets_11 n v1 v2 v3 v4 v5 ρ) v1 v2 v3 v5 (ρ) else b1 (R_M_parentOf v1 v2 (ρ)) (fun x141 => b1 (R_M_isAbove x41 x141 v2 (ρ)) (fun x145 => if x145 = 0 then RB_M_meets_155 (fun v1 v2 v3 v4 v5 ρ => RB_M_meets_11 n v1 v2 v3 v4 v5 ρ) v1 v2 v3 v5 (ρ) else RB_M_meets_156 (fun v1 v2 v3 v4 v5 ρ => RB_M_meets_11 n v1 v2 v3 v4 v5 ρ) v1 v2 v3 v5 1 (ρ)))) else if x50 = 7 then b1 (rgI ρ 26 25 x33) (fun x179 => b1 (R_M_square v1 v2 x41 x179 (ρ)) (fun x180 => b1 (rgI ρ 27 25 x33) (fun x189 => b1 (rgI ρ 27 25 x33) (fun x196 => if (x189 * x196) < x180 then RB_M_meets_206 (fun v1 v2 v3 v4 v5 ρ => RB_M_meets_11 n v1 v2 v3 v4 v5 ρ) v1 v2 v3 v5 0 (ρ) else RB_M_meets_206 (fun v1 v2 v3 v4 v5 ρ => RB_M_meets_11 n v1 v2 v3 v4 v5 ρ) v1 v2 v3 v5 1 (ρ))))) else c2 (R_M_isOnRoute v1 v2 v3 x41 (ρ)) (fun x217 ρ217 => RB_M_meets_222 (fun v1 v2 v3 v4 v5 ρ => RB_M_meets_11 n v1 v2 v3 v4 v5 ρ) v1 v2 v3 x217 v5 (ρ217)) else c2 (R_M_hasName v1 v2 x33 (ρ)) (fun x64 ρ64 => RB_M_meets_222 (fun v1 v2 v3 v4 v5 ρ => RB_M_meets_11 n v1 v2 v3 v4 v5 ρ) v1 v2 v3 x64 v5 (ρ64))))))
set_option maxHeartbeats 4000000 in
set_option maxRecDepth 100000 in
theorem rw_M_meets_11 {X : CX} (E : EV X prog_13_method_46_code 9 "PlaceFinderModel" (some .boolean)) {μ0 μ : Mem} {b : Nat} {r : Int32} {ρ' : RS} (hQ : RQ X 0 0 μ0 (some (vI r)) (ov b ρ' μ)) (hR : xR X = { frames := 4, cells := 0, slots := 0, locals := 113 }) (hI : X.2.2.2.2.2.2.2.2.2.2.2.1.name = "meets") (hW : mW μ ≤ b)  (n : Nat) : ∀ (v1 : Int32) (v2 : Int32) (v3 : Int32) (v4 : Int32) (v5 : Int32) (ρ : RS) (h : RB_M_meets_11  n v1 v2 v3 v4 v5 ρ = some (r, ρ')), WM X 9 11 [(0, vR (some b)), (1, vI v1), (2, vI v2), (3, vI v3), (4, vI v4), (5, vI v5)] [] 0 0 (ov b ρ μ) := by
  induction n with
  | zero => intro v1 v2 v3 v4 v5 ρ h; cases h
  | succ n ih =>
    intro v1 v2 v3 v4 v5 ρ h
    have h : (b1 (rgI ρ 23 5 v3) (fun x18 => if x18 ≤ v5 then RB_M_meets_228 v4 (ρ) else if v4 = 0 then RB_M_meets_228 v4 (ρ) else b0 ((5 * v3) + v5) (fun x33 => b1 (rgI ρ 25 25 x33) (fun x41 => b1 (rgI ρ 24 25 x33) (fun x50 => if 4 ≤ x50 then if x50 = 4 then b1 (rgI ρ 2 30 v1) (fun x83 => if x83 = x41 then RB_M_meets_94 (fun v1 v2 v3 v4 v5 ρ => RB_M_meets_11 n v1 v2 v3 v4 v5 ρ) v1 v2 v3 v5 1 (ρ) else RB_M_meets_94 (fun v1 v2 v3 v4 v5 ρ => RB_M_meets_11 n v1 v2 v3 v4 v5 ρ) v1 v2 v3 v5 0 (ρ)) else if x50 = 5 then b1 (R_M_isInside v1 x41 v2 (ρ)) (fun x110 => RB_M_meets_222 (fun v1 v2 v3 v4 v5 ρ => RB_M_meets_11 n v1 v2 v3 v4 v5 ρ) v1 v2 v3 x110 v5 (ρ)) else if x50 = 6 then b1 (R_M_parentOf v1 v2 (ρ)) (fun x128 => if x128 = ((-1)) then RB_M_meets_155 (fun v1 v2 v3 v4 v5 ρ => RB_M_meets_11 n v1 v2 v3 v4 v5 ρ) v1 v2 v3 v5 (ρ) else b1 (R_M_parentOf v1 v2 (ρ)) (fun x141 => b1 (R_M_isAbove x41 x141 v2 (ρ)) (fun x145 => if x145 = 0 then RB_M_meets_155 (fun v1 v2 v3 v4 v5 ρ => RB_M_meets_11 n v1 v2 v3 v4 v5 ρ) v1 v2 v3 v5 (ρ) else RB_M_meets_156 (fun v1 v2 v3 v4 v5 ρ => RB_M_meets_11 n v1 v2 v3 v4 v5 ρ) v1 v2 v3 v5 1 (ρ)))) else if x50 = 7 then b1 (rgI ρ 26 25 x33) (fun x179 => b1 (R_M_square v1 v2 x41 x179 (ρ)) (fun x180 => b1 (rgI ρ 27 25 x33) (fun x189 => b1 (rgI ρ 27 25 x33) (fun x196 => if (x189 * x196) < x180 then RB_M_meets_206 (fun v1 v2 v3 v4 v5 ρ => RB_M_meets_11 n v1 v2 v3 v4 v5 ρ) v1 v2 v3 v5 0 (ρ) else RB_M_meets_206 (fun v1 v2 v3 v4 v5 ρ => RB_M_meets_11 n v1 v2 v3 v4 v5 ρ) v1 v2 v3 v5 1 (ρ))))) else c2 (R_M_isOnRoute v1 v2 v3 x41 (ρ)) (fun x217 ρ217 => RB_M_meets_222 (fun v1 v2 v3 v4 v5 ρ => RB_M_meets_11 n v1 v2 v3 v4 v5 ρ) v1 v2 v3 x217 v5 (ρ217)) else c2 (R_M_hasName v1 v2 x33 (ρ)) (fun x64 ρ64 => RB_M_meets_222 (fun v1 v2 v3 v4 v5 ρ => RB_M_meets_11 n v1 v2 v3 v4 v5 ρ) v1 v2 v3 x64 v5 (ρ64))))))) = some (r, ρ') := h
    refine wm_iload E dM_meets_11 (j := 5) rfl ?_
    refine wm_aload_n E dM_meets_13 rfl (j := 0) rfl ?_
    refine wm_rget (v := vR (some (b + 20))) E fd_M_67 rfl dM_meets_14 ?_
    refine wm_iload_n E dM_meets_17 rfl (j := 3) rfl ?_
    refine wm_riald E (by decide) rfl rfl (by decide) (by decide) h dM_meets_18 (fun x18 h => ?_)
    refine wm_icmp_ge (tgt := 228) E dM_meets_19 (by decide) (fun c19 => ?_) (fun c19 => ?_)
    · have h := (if_pos c19).symm.trans h
      refine wm_pick (lv' := [(4, vI v4)]) [4] rfl ?_
      exact rw_M_meets_228 E hQ hR hI hW v4 (ρ) h
    · have h := (if_neg c19).symm.trans h
      refine wm_iload E dM_meets_22 (j := 4) rfl ?_
      refine wm_if_eq (tgt := 228) E dM_meets_24 (by decide) (fun c24 => ?_) (fun c24 => ?_)
      · have h := (if_pos c24).symm.trans h
        refine wm_pick (lv' := [(4, vI v4)]) [4] rfl ?_
        exact rw_M_meets_228 E hQ hR hI hW v4 (ρ) h
      · have h := (if_neg c24).symm.trans h
        refine wm_iconst (x := 5) E dM_meets_27 (by decide) ?_
        refine wm_iload_n E dM_meets_28 rfl (j := 3) rfl ?_
        refine wm_imul E dM_meets_29 ?_
        refine wm_iload E dM_meets_30 (j := 5) rfl ?_
        refine wm_iadd E dM_meets_32 ?_
        refine wm_letI h (fun x33 h => ?_)
        refine wm_istore (lv' := [(6, vI x33), (0, vR (some b)), (1, vI v1), (2, vI v2), (3, vI v3), (4, vI v4), (5, vI v5)]) E dM_meets_33 (by decide) rfl ?_
        refine wm_aload_n E dM_meets_35 rfl (j := 1) rfl ?_
        refine wm_rget (v := vR (some (b + 22))) E fd_M_73 rfl dM_meets_36 ?_
        refine wm_iload E dM_meets_39 (j := 0) rfl ?_
        refine wm_riald E (by decide) rfl rfl (by decide) (by decide) h dM_meets_41 (fun x41 h => ?_)
        refine wm_istore (lv' := [(7, vI x41), (6, vI x33), (0, vR (some b)), (1, vI v1), (2, vI v2), (3, vI v3), (4, vI v4), (5, vI v5)]) E dM_meets_42 (by decide) rfl ?_
        refine wm_aload_n E dM_meets_44 rfl (j := 2) rfl ?_
        refine wm_rget (v := vR (some (b + 21))) E fd_M_70 rfl dM_meets_45 ?_
        refine wm_iload E dM_meets_48 (j := 1) rfl ?_
        refine wm_riald E (by decide) rfl rfl (by decide) (by decide) h dM_meets_50 (fun x50 h => ?_)
        refine wm_istore (lv' := [(8, vI x50), (7, vI x41), (6, vI x33), (0, vR (some b)), (1, vI v1), (2, vI v2), (3, vI v3), (4, vI v4), (5, vI v5)]) E dM_meets_51 (by decide) rfl ?_
        refine wm_iload E dM_meets_53 (j := 0) rfl ?_
        refine wm_iconst (x := 4) E dM_meets_55 (by decide) ?_
        refine wm_icmp_ge (tgt := 72) E dM_meets_56 (by decide) (fun c56 => ?_) (fun c56 => ?_)
        · have h := (if_pos c56).symm.trans h
          refine wm_iload E dM_meets_72 (j := 0) rfl ?_
          refine wm_iconst (x := 4) E dM_meets_74 (by decide) ?_
          refine wm_icmp_ne (tgt := 99) E dM_meets_75 (by decide) (fun c75 => ?_) (fun c75 => ?_)
          · have h := (if_neg c75).symm.trans h
            refine wm_iload E dM_meets_99 (j := 0) rfl ?_
            refine wm_iconst (x := 5) E dM_meets_101 (by decide) ?_
            refine wm_icmp_ne (tgt := 118) E dM_meets_102 (by decide) (fun c102 => ?_) (fun c102 => ?_)
            · have h := (if_neg c102).symm.trans h
              refine wm_iload E dM_meets_118 (j := 0) rfl ?_
              refine wm_bipush (x := 6) E dM_meets_120 (by decide) ?_
              refine wm_icmp_ne (tgt := 161) E dM_meets_122 (by decide) (fun c122 => ?_) (fun c122 => ?_)
              · have h := (if_neg c122).symm.trans h
                refine wm_iload E dM_meets_161 (j := 0) rfl ?_
                refine wm_bipush (x := 7) E dM_meets_163 (by decide) ?_
                refine wm_icmp_ne (tgt := 211) E dM_meets_165 (by decide) (fun c165 => ?_) (fun c165 => ?_)
                · have h := (if_neg c165).symm.trans h
                  refine wm_aload_n E dM_meets_211 rfl (j := 3) rfl ?_
                  refine wm_iload_n E dM_meets_212 rfl (j := 4) rfl ?_
                  refine wm_iload_n E dM_meets_213 rfl (j := 5) rfl ?_
                  refine wm_iload_n E dM_meets_214 rfl (j := 6) rfl ?_
                  refine wm_iload E dM_meets_215 (j := 1) rfl ?_
                  obtain ⟨x217, ρ217, hc217, h⟩ := c2S h
                  refine wm_cV (ci := 12) (As := [vI v1, vI v2, vI v3, vI x41]) (st := []) E lk_M_274 rfl im_M_isOnRoute sl_M_isOnRoute (ov_rc _ _ _) (RC_M_isOnRoute (xl X) X.1 b (ρ) μ hW v1 v2 v3 x41 _ _ hc217) rfl rfl (by rw [hR]; decide) (by rw [hR]; decide) (Nat.le_of_ble_eq_true rfl) dM_meets_217 ?_
                  refine wm_istore (lv' := [(4, vI x217), (8, vI x50), (7, vI x41), (6, vI x33), (0, vR (some b)), (1, vI v1), (2, vI v2), (3, vI v3), (5, vI v5)]) E dM_meets_220 (by decide) rfl ?_
                  refine wm_pick (lv' := [(0, vR (some b)), (1, vI v1), (2, vI v2), (3, vI v3), (4, vI x217), (5, vI v5)]) [4, 5, 6, 7, 0, 8] rfl ?_
                  exact rw_M_meets_222 E hQ hR hI hW (fun v1 v2 v3 v4 v5 ρ => RB_M_meets_11 n v1 v2 v3 v4 v5 ρ) ih v1 v2 v3 x217 v5 (ρ217) h
                · have h := (if_pos c165).symm.trans h
                  refine wm_aload_n E dM_meets_168 rfl (j := 3) rfl ?_
                  refine wm_iload_n E dM_meets_169 rfl (j := 4) rfl ?_
                  refine wm_iload_n E dM_meets_170 rfl (j := 5) rfl ?_
                  refine wm_iload E dM_meets_171 (j := 1) rfl ?_
                  refine wm_aload_n E dM_meets_173 rfl (j := 3) rfl ?_
                  refine wm_rget (v := vR (some (b + 23))) E fd_M_76 rfl dM_meets_174 ?_
                  refine wm_iload E dM_meets_177 (j := 2) rfl ?_
                  refine wm_riald E (by decide) rfl rfl (by decide) (by decide) h dM_meets_179 (fun x179 h => ?_)
                  obtain ⟨x180, hc180, h⟩ := b1S h
                  refine wm_cV (ci := 12) (As := [vI v1, vI v2, vI x41, vI x179]) (st := []) E lk_M_270 rfl im_M_square sl_M_square (ov_rc _ _ _) (RC_M_square (xl X) X.1 b (ρ) μ v1 v2 x41 x179 _ hc180) rfl rfl (by rw [hR]; decide) (by rw [hR]; decide) (Nat.le_of_ble_eq_true rfl) dM_meets_180 ?_
                  refine wm_aload_n E dM_meets_183 rfl (j := 3) rfl ?_
                  refine wm_rget (v := vR (some (b + 24))) E fd_M_79 rfl dM_meets_184 ?_
                  refine wm_iload E dM_meets_187 (j := 2) rfl ?_
                  refine wm_riald E (by decide) rfl rfl (by decide) (by decide) h dM_meets_189 (fun x189 h => ?_)
                  refine wm_aload_n E dM_meets_190 rfl (j := 3) rfl ?_
                  refine wm_rget (v := vR (some (b + 24))) E fd_M_79 rfl dM_meets_191 ?_
                  refine wm_iload E dM_meets_194 (j := 2) rfl ?_
                  refine wm_riald E (by decide) rfl rfl (by decide) (by decide) h dM_meets_196 (fun x196 h => ?_)
                  refine wm_imul E dM_meets_197 ?_
                  refine wm_icmp_gt (tgt := 205) E dM_meets_198 (by decide) (fun c198 => ?_) (fun c198 => ?_)
                  · have h := (if_pos c198).symm.trans h
                    refine wm_iconst (x := 0) E dM_meets_205 (by decide) ?_
                    refine wm_pick (lv' := [(0, vR (some b)), (1, vI v1), (2, vI v2), (3, vI v3), (5, vI v5)]) [3, 4, 5, 6, 8] rfl ?_
                    exact rw_M_meets_206 E hQ hR hI hW (fun v1 v2 v3 v4 v5 ρ => RB_M_meets_11 n v1 v2 v3 v4 v5 ρ) ih v1 v2 v3 v5 0 (ρ) h
                  · have h := (if_neg c198).symm.trans h
                    refine wm_iconst (x := 1) E dM_meets_201 (by decide) ?_
                    refine wm_goto (tgt := 206) E dM_meets_202 (by decide) ?_
                    refine wm_pick (lv' := [(0, vR (some b)), (1, vI v1), (2, vI v2), (3, vI v3), (5, vI v5)]) [3, 4, 5, 6, 8] rfl ?_
                    exact rw_M_meets_206 E hQ hR hI hW (fun v1 v2 v3 v4 v5 ρ => RB_M_meets_11 n v1 v2 v3 v4 v5 ρ) ih v1 v2 v3 v5 1 (ρ) h
              · have h := (if_pos c122).symm.trans h
                refine wm_aload_n E dM_meets_125 rfl (j := 3) rfl ?_
                refine wm_iload_n E dM_meets_126 rfl (j := 4) rfl ?_
                refine wm_iload_n E dM_meets_127 rfl (j := 5) rfl ?_
                obtain ⟨x128, hc128, h⟩ := b1S h
                refine wm_cV (ci := 12) (As := [vI v1, vI v2]) (st := []) E lk_M_202 rfl im_M_parentOf sl_M_parentOf (ov_rc _ _ _) (RC_M_parentOf (xl X) X.1 b (ρ) μ v1 v2 _ hc128) rfl rfl (by rw [hR]; decide) (by rw [hR]; decide) (Nat.le_of_ble_eq_true rfl) dM_meets_128 ?_
                refine wm_iconst (x := -1) E dM_meets_131 (by decide) ?_
                refine wm_icmp_eq (tgt := 155) E dM_meets_132 (by decide) (fun c132 => ?_) (fun c132 => ?_)
                · have h := (if_pos c132).symm.trans h
                  refine wm_pick (lv' := [(0, vR (some b)), (1, vI v1), (2, vI v2), (3, vI v3), (5, vI v5)]) [3, 4, 5, 6, 8] rfl ?_
                  exact rw_M_meets_155 E hQ hR hI hW (fun v1 v2 v3 v4 v5 ρ => RB_M_meets_11 n v1 v2 v3 v4 v5 ρ) ih v1 v2 v3 v5 (ρ) h
                · have h := (if_neg c132).symm.trans h
                  refine wm_aload_n E dM_meets_135 rfl (j := 3) rfl ?_
                  refine wm_iload E dM_meets_136 (j := 1) rfl ?_
                  refine wm_aload_n E dM_meets_138 rfl (j := 3) rfl ?_
                  refine wm_iload_n E dM_meets_139 rfl (j := 4) rfl ?_
                  refine wm_iload_n E dM_meets_140 rfl (j := 5) rfl ?_
                  obtain ⟨x141, hc141, h⟩ := b1S h
                  refine wm_cV (ci := 12) (As := [vI v1, vI v2]) (st := [vI x41, vR (some b)]) E lk_M_202 rfl im_M_parentOf sl_M_parentOf (ov_rc _ _ _) (RC_M_parentOf (xl X) X.1 b (ρ) μ v1 v2 _ hc141) rfl rfl (by rw [hR]; decide) (by rw [hR]; decide) (Nat.le_of_ble_eq_true rfl) dM_meets_141 ?_
                  refine wm_iload_n E dM_meets_144 rfl (j := 5) rfl ?_
                  obtain ⟨x145, hc145, h⟩ := b1S h
                  refine wm_cV (ci := 12) (As := [vI x41, vI x141, vI v2]) (st := []) E lk_M_205 rfl im_M_isAbove sl_M_isAbove (ov_rc _ _ _) (RC_M_isAbove (xl X) X.1 b (ρ) μ x41 x141 v2 _ hc145) rfl rfl (by rw [hR]; decide) (by rw [hR]; decide) (Nat.le_of_ble_eq_true rfl) dM_meets_145 ?_
                  refine wm_if_eq (tgt := 155) E dM_meets_148 (by decide) (fun c148 => ?_) (fun c148 => ?_)
                  · have h := (if_pos c148).symm.trans h
                    refine wm_pick (lv' := [(0, vR (some b)), (1, vI v1), (2, vI v2), (3, vI v3), (5, vI v5)]) [3, 4, 5, 6, 8] rfl ?_
                    exact rw_M_meets_155 E hQ hR hI hW (fun v1 v2 v3 v4 v5 ρ => RB_M_meets_11 n v1 v2 v3 v4 v5 ρ) ih v1 v2 v3 v5 (ρ) h
                  · have h := (if_neg c148).symm.trans h
                    refine wm_iconst (x := 1) E dM_meets_151 (by decide) ?_
                    refine wm_goto (tgt := 156) E dM_meets_152 (by decide) ?_
                    refine wm_pick (lv' := [(0, vR (some b)), (1, vI v1), (2, vI v2), (3, vI v3), (5, vI v5)]) [3, 4, 5, 6, 8] rfl ?_
                    exact rw_M_meets_156 E hQ hR hI hW (fun v1 v2 v3 v4 v5 ρ => RB_M_meets_11 n v1 v2 v3 v4 v5 ρ) ih v1 v2 v3 v5 1 (ρ) h
            · have h := (if_pos c102).symm.trans h
              refine wm_aload_n E dM_meets_105 rfl (j := 3) rfl ?_
              refine wm_iload_n E dM_meets_106 rfl (j := 4) rfl ?_
              refine wm_iload E dM_meets_107 (j := 1) rfl ?_
              refine wm_iload_n E dM_meets_109 rfl (j := 5) rfl ?_
              obtain ⟨x110, hc110, h⟩ := b1S h
              refine wm_cV (ci := 12) (As := [vI v1, vI x41, vI v2]) (st := []) E lk_M_267 rfl im_M_isInside sl_M_isInside (ov_rc _ _ _) (RC_M_isInside (xl X) X.1 b (ρ) μ v1 x41 v2 _ hc110) rfl rfl (by rw [hR]; decide) (by rw [hR]; decide) (Nat.le_of_ble_eq_true rfl) dM_meets_110 ?_
              refine wm_istore (lv' := [(4, vI x110), (8, vI x50), (7, vI x41), (6, vI x33), (0, vR (some b)), (1, vI v1), (2, vI v2), (3, vI v3), (5, vI v5)]) E dM_meets_113 (by decide) rfl ?_
              refine wm_goto (tgt := 222) E dM_meets_115 (by decide) ?_
              refine wm_pick (lv' := [(0, vR (some b)), (1, vI v1), (2, vI v2), (3, vI v3), (4, vI x110), (5, vI v5)]) [4, 5, 6, 7, 0, 8] rfl ?_
              exact rw_M_meets_222 E hQ hR hI hW (fun v1 v2 v3 v4 v5 ρ => RB_M_meets_11 n v1 v2 v3 v4 v5 ρ) ih v1 v2 v3 x110 v5 (ρ) h
          · have h := (if_pos c75).symm.trans h
            refine wm_aload_n E dM_meets_78 rfl (j := 3) rfl ?_
            refine wm_rget (v := vR (some (b + 1))) E fd_M_7 rfl dM_meets_79 ?_
            refine wm_iload_n E dM_meets_82 rfl (j := 4) rfl ?_
            refine wm_riald E (by decide) rfl rfl (by decide) (by decide) h dM_meets_83 (fun x83 h => ?_)
            refine wm_iload E dM_meets_84 (j := 1) rfl ?_
            refine wm_icmp_ne (tgt := 93) E dM_meets_86 (by decide) (fun c86 => ?_) (fun c86 => ?_)
            · have h := (if_neg c86).symm.trans h
              refine wm_iconst (x := 0) E dM_meets_93 (by decide) ?_
              refine wm_pick (lv' := [(0, vR (some b)), (1, vI v1), (2, vI v2), (3, vI v3), (5, vI v5)]) [3, 4, 5, 6, 8] rfl ?_
              exact rw_M_meets_94 E hQ hR hI hW (fun v1 v2 v3 v4 v5 ρ => RB_M_meets_11 n v1 v2 v3 v4 v5 ρ) ih v1 v2 v3 v5 0 (ρ) h
            · have h := (if_pos c86).symm.trans h
              refine wm_iconst (x := 1) E dM_meets_89 (by decide) ?_
              refine wm_goto (tgt := 94) E dM_meets_90 (by decide) ?_
              refine wm_pick (lv' := [(0, vR (some b)), (1, vI v1), (2, vI v2), (3, vI v3), (5, vI v5)]) [3, 4, 5, 6, 8] rfl ?_
              exact rw_M_meets_94 E hQ hR hI hW (fun v1 v2 v3 v4 v5 ρ => RB_M_meets_11 n v1 v2 v3 v4 v5 ρ) ih v1 v2 v3 v5 1 (ρ) h
        · have h := (if_neg c56).symm.trans h
          refine wm_aload_n E dM_meets_59 rfl (j := 3) rfl ?_
          refine wm_iload_n E dM_meets_60 rfl (j := 4) rfl ?_
          refine wm_iload_n E dM_meets_61 rfl (j := 5) rfl ?_
          refine wm_iload E dM_meets_62 (j := 2) rfl ?_
          obtain ⟨x64, ρ64, hc64, h⟩ := c2S h
          refine wm_cV (ci := 12) (As := [vI v1, vI v2, vI x33]) (st := []) E lk_M_264 rfl im_M_hasName sl_M_hasName (ov_rc _ _ _) (RC_M_hasName (xl X) X.1 b (ρ) μ hW v1 v2 x33 _ _ hc64) rfl rfl (by rw [hR]; decide) (by rw [hR]; decide) (Nat.le_of_ble_eq_true rfl) dM_meets_64 ?_
          refine wm_istore (lv' := [(4, vI x64), (8, vI x50), (7, vI x41), (6, vI x33), (0, vR (some b)), (1, vI v1), (2, vI v2), (3, vI v3), (5, vI v5)]) E dM_meets_67 (by decide) rfl ?_
          refine wm_goto (tgt := 222) E dM_meets_69 (by decide) ?_
          refine wm_pick (lv' := [(0, vR (some b)), (1, vI v1), (2, vI v2), (3, vI v3), (4, vI x64), (5, vI v5)]) [4, 5, 6, 7, 0, 8] rfl ?_
          exact rw_M_meets_222 E hQ hR hI hW (fun v1 v2 v3 v4 v5 ρ => RB_M_meets_11 n v1 v2 v3 v4 v5 ρ) ih v1 v2 v3 x64 v5 (ρ64) h
def R_M_meets (v1 : Int32) (v2 : Int32) (v3 : Int32) (ρ : RS) : Option (Int32 × RS) := b1 (R_M_isThere v1 v2 (ρ)) (fun x3 => RB_M_meets_11 fu v1 v2 v3 x3 0 (ρ))
set_option maxHeartbeats 4000000 in
set_option maxRecDepth 100000 in
theorem RC_M_meets (l : Launch) (G : GG) (b : Nat) (ρ : RS) (μ : Mem) (hW : mW μ ≤ b) (v1 : Int32) (v2 : Int32) (v3 : Int32) (r : Int32) (ρ' : RS) (h : R_M_meets v1 v2 v3 ρ = some (r, ρ')) : CT l G y_M_meets prog_13_method_46_code 9 (some .boolean) 4 0 0 113 (ov b ρ μ) [vR (some b), vI v1, vI v2, vI v3] (some (vI r)) (ov b ρ' μ) := by
  refine wm_met (lv := [(0, vR (some b)), (1, vI v1), (2, vI v2), (3, vI v3)]) (by decide +kernel) (Nat.le_of_ble_eq_true rfl) rfl (fun X E hQ hR hI => ?_)
  have h : (b1 (R_M_isThere v1 v2 (ρ)) (fun x3 => RB_M_meets_11 fu v1 v2 v3 x3 0 (ρ))) = some (r, ρ') := h
  refine wm_aload_n E dM_meets_0 rfl (j := 0) rfl ?_
  refine wm_iload_n E dM_meets_1 rfl (j := 1) rfl ?_
  refine wm_iload_n E dM_meets_2 rfl (j := 2) rfl ?_
  obtain ⟨x3, hc3, h⟩ := b1S h
  refine wm_cV (ci := 12) (As := [vI v1, vI v2]) (st := []) E lk_M_261 rfl im_M_isThere sl_M_isThere (ov_rc _ _ _) (RC_M_isThere (xl X) X.1 b (ρ) μ v1 v2 _ hc3) rfl rfl (by rw [hR]; decide) (by rw [hR]; decide) (Nat.le_of_ble_eq_true rfl) dM_meets_3 ?_
  refine wm_istore (lv' := [(4, vI x3), (0, vR (some b)), (1, vI v1), (2, vI v2), (3, vI v3)]) E dM_meets_6 (by decide) rfl ?_
  refine wm_iconst (x := 0) E dM_meets_8 (by decide) ?_
  refine wm_istore (lv' := [(5, vI 0), (4, vI x3), (0, vR (some b)), (1, vI v1), (2, vI v2), (3, vI v3)]) E dM_meets_9 (by decide) rfl ?_
  refine wm_pick (lv' := [(0, vR (some b)), (1, vI v1), (2, vI v2), (3, vI v3), (4, vI x3), (5, vI 0)]) [2, 3, 4, 5, 1, 0] rfl ?_
  exact rw_M_meets_11 E hQ hR hI hW fu v1 v2 v3 x3 0 (ρ) h
def RB_M_compareWords_73 (ρ : RS)  (v1 : Int32) (v2 : Int32) : Option Int32 := b1 (rgI ρ 12 60 v1) (fun x78 => b1 (rgI ρ 12 60 v2) (fun x84 => some (x78 - x84)))
set_option maxHeartbeats 4000000 in
set_option maxRecDepth 100000 in
theorem rw_M_compareWords_73 {X : CX} (E : EV X prog_13_method_47_code 4 "PlaceFinderModel" (some .int)) {μ0 μ : Mem} {b : Nat} {r : Int32} {ρ : RS} (hQ : RQ X 0 0 μ0 (some (vI r)) (ov b ρ μ)) (hR : xR X = { frames := 0, cells := 0, slots := 0, locals := 0 }) (hI : X.2.2.2.2.2.2.2.2.2.2.2.1.name = "compareWords")  (v1 : Int32) (v2 : Int32) (h : RB_M_compareWords_73 ρ  v1 v2 = some r) : WM X 4 73 [(0, vR (some b)), (1, vI v1), (2, vI v2)] [] 0 0 (ov b ρ μ) := by
  have h : (b1 (rgI ρ 12 60 v1) (fun x78 => b1 (rgI ρ 12 60 v2) (fun x84 => some (x78 - x84)))) = some r := h
  refine wm_aload_n E dM_compareWords_73 rfl (j := 0) rfl ?_
  refine wm_rget (v := vR (some (b + 11))) E fd_M_40 rfl dM_compareWords_74 ?_
  refine wm_iload_n E dM_compareWords_77 rfl (j := 1) rfl ?_
  refine wm_riald E (by decide) rfl rfl (by decide) (by decide) h dM_compareWords_78 (fun x78 h => ?_)
  refine wm_aload_n E dM_compareWords_79 rfl (j := 0) rfl ?_
  refine wm_rget (v := vR (some (b + 11))) E fd_M_40 rfl dM_compareWords_80 ?_
  refine wm_iload_n E dM_compareWords_83 rfl (j := 2) rfl ?_
  refine wm_riald E (by decide) rfl rfl (by decide) (by decide) h dM_compareWords_84 (fun x84 h => ?_)
  refine wm_isub E dM_compareWords_85 ?_
  exact wm_iret (rt := .int) E hQ (rqI0 h) rfl (by decide) (by decide) dM_compareWords_86
def RB_M_compareWords_53 (ρ : RS)  (v1 : Int32) (v2 : Int32) (v3 : Int32) : Option Int32 := b1 (rgI ρ 12 60 v1) (fun x59 => if v3 = x59 then RB_M_compareWords_73 ρ v1 v2 else b1 (rgI ρ 12 60 v2) (fun x69 => if v3 = x69 then RB_M_compareWords_73 ρ v1 v2 else b1 (rgI ρ 13 600 ((10 * v1) + v3)) (fun x97 => b1 (rgI ρ 13 600 ((10 * v2) + v3)) (fun x108 => some (x97 - x108)))))
set_option maxHeartbeats 4000000 in
set_option maxRecDepth 100000 in
theorem rw_M_compareWords_53 {X : CX} (E : EV X prog_13_method_47_code 4 "PlaceFinderModel" (some .int)) {μ0 μ : Mem} {b : Nat} {r : Int32} {ρ : RS} (hQ : RQ X 0 0 μ0 (some (vI r)) (ov b ρ μ)) (hR : xR X = { frames := 0, cells := 0, slots := 0, locals := 0 }) (hI : X.2.2.2.2.2.2.2.2.2.2.2.1.name = "compareWords")  (v1 : Int32) (v2 : Int32) (v3 : Int32) (h : RB_M_compareWords_53 ρ  v1 v2 v3 = some r) : WM X 4 53 [(0, vR (some b)), (1, vI v1), (2, vI v2), (3, vI v3)] [] 0 0 (ov b ρ μ) := by
  have h : (b1 (rgI ρ 12 60 v1) (fun x59 => if v3 = x59 then RB_M_compareWords_73 ρ v1 v2 else b1 (rgI ρ 12 60 v2) (fun x69 => if v3 = x69 then RB_M_compareWords_73 ρ v1 v2 else b1 (rgI ρ 13 600 ((10 * v1) + v3)) (fun x97 => b1 (rgI ρ 13 600 ((10 * v2) + v3)) (fun x108 => some (x97 - x108)))))) = some r := h
  refine wm_iload_n E dM_compareWords_53 rfl (j := 3) rfl ?_
  refine wm_aload_n E dM_compareWords_54 rfl (j := 0) rfl ?_
  refine wm_rget (v := vR (some (b + 11))) E fd_M_40 rfl dM_compareWords_55 ?_
  refine wm_iload_n E dM_compareWords_58 rfl (j := 1) rfl ?_
  refine wm_riald E (by decide) rfl rfl (by decide) (by decide) h dM_compareWords_59 (fun x59 h => ?_)
  refine wm_icmp_eq (tgt := 73) E dM_compareWords_60 (by decide) (fun c60 => ?_) (fun c60 => ?_)
  · have h := (if_pos c60).symm.trans h
    refine wm_pick (lv' := [(0, vR (some b)), (1, vI v1), (2, vI v2)]) [0, 1, 2] rfl ?_
    exact rw_M_compareWords_73 E hQ hR hI v1 v2 h
  · have h := (if_neg c60).symm.trans h
    refine wm_iload_n E dM_compareWords_63 rfl (j := 3) rfl ?_
    refine wm_aload_n E dM_compareWords_64 rfl (j := 0) rfl ?_
    refine wm_rget (v := vR (some (b + 11))) E fd_M_40 rfl dM_compareWords_65 ?_
    refine wm_iload_n E dM_compareWords_68 rfl (j := 2) rfl ?_
    refine wm_riald E (by decide) rfl rfl (by decide) (by decide) h dM_compareWords_69 (fun x69 h => ?_)
    refine wm_icmp_ne (tgt := 87) E dM_compareWords_70 (by decide) (fun c70 => ?_) (fun c70 => ?_)
    · have h := (if_neg c70).symm.trans h
      refine wm_aload_n E dM_compareWords_87 rfl (j := 0) rfl ?_
      refine wm_rget (v := vR (some (b + 12))) E fd_M_43 rfl dM_compareWords_88 ?_
      refine wm_bipush (x := 10) E dM_compareWords_91 (by decide) ?_
      refine wm_iload_n E dM_compareWords_93 rfl (j := 1) rfl ?_
      refine wm_imul E dM_compareWords_94 ?_
      refine wm_iload_n E dM_compareWords_95 rfl (j := 3) rfl ?_
      refine wm_iadd E dM_compareWords_96 ?_
      refine wm_riald E (by decide) rfl rfl (by decide) (by decide) h dM_compareWords_97 (fun x97 h => ?_)
      refine wm_aload_n E dM_compareWords_98 rfl (j := 0) rfl ?_
      refine wm_rget (v := vR (some (b + 12))) E fd_M_43 rfl dM_compareWords_99 ?_
      refine wm_bipush (x := 10) E dM_compareWords_102 (by decide) ?_
      refine wm_iload_n E dM_compareWords_104 rfl (j := 2) rfl ?_
      refine wm_imul E dM_compareWords_105 ?_
      refine wm_iload_n E dM_compareWords_106 rfl (j := 3) rfl ?_
      refine wm_iadd E dM_compareWords_107 ?_
      refine wm_riald E (by decide) rfl rfl (by decide) (by decide) h dM_compareWords_108 (fun x108 h => ?_)
      refine wm_isub E dM_compareWords_109 ?_
      exact wm_iret (rt := .int) E hQ (rqI0 h) rfl (by decide) (by decide) dM_compareWords_110
    · have h := (if_pos c70).symm.trans h
      refine wm_pick (lv' := [(0, vR (some b)), (1, vI v1), (2, vI v2)]) [0, 1, 2] rfl ?_
      exact rw_M_compareWords_73 E hQ hR hI v1 v2 h
def RB_M_compareWords_2 (ρ : RS)  : Nat → Int32 → Int32 → Int32 → Option Int32
  | 0, _, _, _ => none
  | n + 1, v1, v2, v3 => b1 (rgI ρ 12 60 v1) (fun x8 => if x8 ≤ v3 then RB_M_compareWords_53 ρ v1 v2 v3 else b1 (rgI ρ 12 60 v2) (fun x18 => if x18 ≤ v3 then RB_M_compareWords_53 ρ v1 v2 v3 else b1 (rgI ρ 13 600 ((10 * v1) + v3)) (fun x32 => b1 (rgI ρ 13 600 ((10 * v2) + v3)) (fun x43 => if x32 = x43 then (fun v1 v2 v3 => RB_M_compareWords_2 ρ n v1 v2 v3) v1 v2 (v3 + 1) else RB_M_compareWords_53 ρ v1 v2 v3))))
set_option maxHeartbeats 4000000 in
set_option maxRecDepth 100000 in
theorem rw_M_compareWords_2 {X : CX} (E : EV X prog_13_method_47_code 4 "PlaceFinderModel" (some .int)) {μ0 μ : Mem} {b : Nat} {r : Int32} {ρ : RS} (hQ : RQ X 0 0 μ0 (some (vI r)) (ov b ρ μ)) (hR : xR X = { frames := 0, cells := 0, slots := 0, locals := 0 }) (hI : X.2.2.2.2.2.2.2.2.2.2.2.1.name = "compareWords")  (n : Nat) : ∀ (v1 : Int32) (v2 : Int32) (v3 : Int32) (h : RB_M_compareWords_2 ρ  n v1 v2 v3 = some r), WM X 4 2 [(0, vR (some b)), (1, vI v1), (2, vI v2), (3, vI v3)] [] 0 0 (ov b ρ μ) := by
  induction n with
  | zero => intro v1 v2 v3 h; cases h
  | succ n ih =>
    intro v1 v2 v3 h
    have h : (b1 (rgI ρ 12 60 v1) (fun x8 => if x8 ≤ v3 then RB_M_compareWords_53 ρ v1 v2 v3 else b1 (rgI ρ 12 60 v2) (fun x18 => if x18 ≤ v3 then RB_M_compareWords_53 ρ v1 v2 v3 else b1 (rgI ρ 13 600 ((10 * v1) + v3)) (fun x32 => b1 (rgI ρ 13 600 ((10 * v2) + v3)) (fun x43 => if x32 = x43 then (fun v1 v2 v3 => RB_M_compareWords_2 ρ n v1 v2 v3) v1 v2 (v3 + 1) else RB_M_compareWords_53 ρ v1 v2 v3))))) = some r := h
    refine wm_iload_n E dM_compareWords_2 rfl (j := 3) rfl ?_
    refine wm_aload_n E dM_compareWords_3 rfl (j := 0) rfl ?_
    refine wm_rget (v := vR (some (b + 11))) E fd_M_40 rfl dM_compareWords_4 ?_
    refine wm_iload_n E dM_compareWords_7 rfl (j := 1) rfl ?_
    refine wm_riald E (by decide) rfl rfl (by decide) (by decide) h dM_compareWords_8 (fun x8 h => ?_)
    refine wm_icmp_ge (tgt := 53) E dM_compareWords_9 (by decide) (fun c9 => ?_) (fun c9 => ?_)
    · have h := (if_pos c9).symm.trans h
      refine wm_pick (lv' := [(0, vR (some b)), (1, vI v1), (2, vI v2), (3, vI v3)]) [0, 1, 2, 3] rfl ?_
      exact rw_M_compareWords_53 E hQ hR hI v1 v2 v3 h
    · have h := (if_neg c9).symm.trans h
      refine wm_iload_n E dM_compareWords_12 rfl (j := 3) rfl ?_
      refine wm_aload_n E dM_compareWords_13 rfl (j := 0) rfl ?_
      refine wm_rget (v := vR (some (b + 11))) E fd_M_40 rfl dM_compareWords_14 ?_
      refine wm_iload_n E dM_compareWords_17 rfl (j := 2) rfl ?_
      refine wm_riald E (by decide) rfl rfl (by decide) (by decide) h dM_compareWords_18 (fun x18 h => ?_)
      refine wm_icmp_ge (tgt := 53) E dM_compareWords_19 (by decide) (fun c19 => ?_) (fun c19 => ?_)
      · have h := (if_pos c19).symm.trans h
        refine wm_pick (lv' := [(0, vR (some b)), (1, vI v1), (2, vI v2), (3, vI v3)]) [0, 1, 2, 3] rfl ?_
        exact rw_M_compareWords_53 E hQ hR hI v1 v2 v3 h
      · have h := (if_neg c19).symm.trans h
        refine wm_aload_n E dM_compareWords_22 rfl (j := 0) rfl ?_
        refine wm_rget (v := vR (some (b + 12))) E fd_M_43 rfl dM_compareWords_23 ?_
        refine wm_bipush (x := 10) E dM_compareWords_26 (by decide) ?_
        refine wm_iload_n E dM_compareWords_28 rfl (j := 1) rfl ?_
        refine wm_imul E dM_compareWords_29 ?_
        refine wm_iload_n E dM_compareWords_30 rfl (j := 3) rfl ?_
        refine wm_iadd E dM_compareWords_31 ?_
        refine wm_riald E (by decide) rfl rfl (by decide) (by decide) h dM_compareWords_32 (fun x32 h => ?_)
        refine wm_aload_n E dM_compareWords_33 rfl (j := 0) rfl ?_
        refine wm_rget (v := vR (some (b + 12))) E fd_M_43 rfl dM_compareWords_34 ?_
        refine wm_bipush (x := 10) E dM_compareWords_37 (by decide) ?_
        refine wm_iload_n E dM_compareWords_39 rfl (j := 2) rfl ?_
        refine wm_imul E dM_compareWords_40 ?_
        refine wm_iload_n E dM_compareWords_41 rfl (j := 3) rfl ?_
        refine wm_iadd E dM_compareWords_42 ?_
        refine wm_riald E (by decide) rfl rfl (by decide) (by decide) h dM_compareWords_43 (fun x43 h => ?_)
        refine wm_icmp_ne (tgt := 53) E dM_compareWords_44 (by decide) (fun c44 => ?_) (fun c44 => ?_)
        · have h := (if_neg c44).symm.trans h
          refine wm_pick (lv' := [(0, vR (some b)), (1, vI v1), (2, vI v2), (3, vI v3)]) [0, 1, 2, 3] rfl ?_
          exact rw_M_compareWords_53 E hQ hR hI v1 v2 v3 h
        · have h := (if_pos c44).symm.trans h
          refine wm_iinc (lv' := [(3, vI (v3 + 1)), (0, vR (some b)), (1, vI v1), (2, vI v2)]) (d := 1) E dM_compareWords_47 (by decide) (j := 3) rfl (by decide) rfl ?_
          refine wm_goto (tgt := 2) E dM_compareWords_50 (by decide) ?_
          refine wm_pick (lv' := [(0, vR (some b)), (1, vI v1), (2, vI v2), (3, vI (v3 + 1))]) [1, 2, 3, 0] rfl ?_
          exact ih v1 v2 (v3 + 1) h
def R_M_compareWords (v1 : Int32) (v2 : Int32) (ρ : RS) : Option Int32 := RB_M_compareWords_2 ρ fu v1 v2 0
set_option maxHeartbeats 4000000 in
set_option maxRecDepth 100000 in
theorem RC_M_compareWords (l : Launch) (G : GG) (b : Nat) (ρ : RS) (μ : Mem) (v1 : Int32) (v2 : Int32) (r : Int32) (h : R_M_compareWords v1 v2 ρ = some r) : CT l G y_M_compareWords prog_13_method_47_code 4 (some .int) 0 0 0 0 (ov b ρ μ) [vR (some b), vI v1, vI v2] (some (vI r)) (ov b ρ μ) := by
  refine wm_met (lv := [(0, vR (some b)), (1, vI v1), (2, vI v2)]) (by decide +kernel) (Nat.le_of_ble_eq_true rfl) rfl (fun X E hQ hR hI => ?_)
  have h : (RB_M_compareWords_2 ρ fu v1 v2 0) = some r := h
  refine wm_iconst (x := 0) E dM_compareWords_0 (by decide) ?_
  refine wm_istore_n (lv' := [(3, vI 0), (0, vR (some b)), (1, vI v1), (2, vI v2)]) E dM_compareWords_1 rfl (by decide) rfl ?_
  refine wm_pick (lv' := [(0, vR (some b)), (1, vI v1), (2, vI v2), (3, vI 0)]) [1, 2, 3, 0] rfl ?_
  exact rw_M_compareWords_2 E hQ hR hI fu v1 v2 0 h
def RB_M_firstCondition_38 (ρ : RS) (k12 : Int32 → Int32 → Int32 → Int32 → Option Int32) (v1 : Int32) (v2 : Int32) (v4 : Int32) (s0 : Int32) : Option Int32 := k12 v1 v2 s0 (v4 + (-1))
set_option maxHeartbeats 4000000 in
set_option maxRecDepth 100000 in
theorem rw_M_firstCondition_38 {X : CX} (E : EV X prog_13_method_48_code 5 "PlaceFinderModel" (some .int)) {μ0 μ : Mem} {b : Nat} {r : Int32} {ρ : RS} (hQ : RQ X 0 0 μ0 (some (vI r)) (ov b ρ μ)) (hR : xR X = { frames := 1, cells := 0, slots := 0, locals := 22 }) (hI : X.2.2.2.2.2.2.2.2.2.2.2.1.name = "firstCondition") (k12 : Int32 → Int32 → Int32 → Int32 → Option Int32) (hk12 : ∀ (v1 : Int32) (v2 : Int32) (v3 : Int32) (v4 : Int32), k12 v1 v2 v3 v4 = some r → WM X 5 12 [(0, vR (some b)), (1, vI v1), (2, vI v2), (3, vI v3), (4, vI v4)] [] 0 0 (ov b ρ μ)) (v1 : Int32) (v2 : Int32) (v4 : Int32) (s0 : Int32) (h : RB_M_firstCondition_38 ρ k12 v1 v2 v4 s0 = some r) : WM X 5 38 [(0, vR (some b)), (1, vI v1), (2, vI v2), (4, vI v4)] [vI s0] 0 0 (ov b ρ μ) := by
  have h : (k12 v1 v2 s0 (v4 + (-1))) = some r := h
  refine wm_istore_n (lv' := [(3, vI s0), (0, vR (some b)), (1, vI v1), (2, vI v2), (4, vI v4)]) E dM_firstCondition_38 rfl (by decide) rfl ?_
  refine wm_iinc (lv' := [(4, vI (v4 + (-1))), (3, vI s0), (0, vR (some b)), (1, vI v1), (2, vI v2)]) (d := (-1)) E dM_firstCondition_39 (by decide) (j := 4) rfl (by decide) rfl ?_
  refine wm_goto (tgt := 12) E dM_firstCondition_42 (by decide) ?_
  refine wm_pick (lv' := [(0, vR (some b)), (1, vI v1), (2, vI v2), (3, vI s0), (4, vI (v4 + (-1)))]) [2, 3, 4, 1, 0] rfl ?_
  exact hk12 v1 v2 s0 (v4 + (-1)) h
def RB_M_firstCondition_12 (ρ : RS)  : Nat → Int32 → Int32 → Int32 → Int32 → Option Int32
  | 0, _, _, _, _ => none
  | n + 1, v1, v2, v3, v4 => if v4 < 0 then some (v3) else b1 (rgI ρ 24 25 v4) (fun x23 => b1 (R_M_in x23 v1 v2) (fun x26 => if x26 = 0 then RB_M_firstCondition_38 ρ (fun v1 v2 v3 v4 => RB_M_firstCondition_12 ρ n v1 v2 v3 v4) v1 v2 v4 v3 else RB_M_firstCondition_38 ρ (fun v1 v2 v3 v4 => RB_M_firstCondition_12 ρ n v1 v2 v3 v4) v1 v2 v4 v4))
set_option maxHeartbeats 4000000 in
set_option maxRecDepth 100000 in
theorem rw_M_firstCondition_12 {X : CX} (E : EV X prog_13_method_48_code 5 "PlaceFinderModel" (some .int)) {μ0 μ : Mem} {b : Nat} {r : Int32} {ρ : RS} (hQ : RQ X 0 0 μ0 (some (vI r)) (ov b ρ μ)) (hR : xR X = { frames := 1, cells := 0, slots := 0, locals := 22 }) (hI : X.2.2.2.2.2.2.2.2.2.2.2.1.name = "firstCondition")  (n : Nat) : ∀ (v1 : Int32) (v2 : Int32) (v3 : Int32) (v4 : Int32) (h : RB_M_firstCondition_12 ρ  n v1 v2 v3 v4 = some r), WM X 5 12 [(0, vR (some b)), (1, vI v1), (2, vI v2), (3, vI v3), (4, vI v4)] [] 0 0 (ov b ρ μ) := by
  induction n with
  | zero => intro v1 v2 v3 v4 h; cases h
  | succ n ih =>
    intro v1 v2 v3 v4 h
    have h : (if v4 < 0 then some (v3) else b1 (rgI ρ 24 25 v4) (fun x23 => b1 (R_M_in x23 v1 v2) (fun x26 => if x26 = 0 then RB_M_firstCondition_38 ρ (fun v1 v2 v3 v4 => RB_M_firstCondition_12 ρ n v1 v2 v3 v4) v1 v2 v4 v3 else RB_M_firstCondition_38 ρ (fun v1 v2 v3 v4 => RB_M_firstCondition_12 ρ n v1 v2 v3 v4) v1 v2 v4 v4))) = some r := h
    refine wm_iload E dM_firstCondition_12 (j := 4) rfl ?_
    refine wm_if_lt (tgt := 45) E dM_firstCondition_14 (by decide) (fun c14 => ?_) (fun c14 => ?_)
    · have h := (if_pos c14).symm.trans h
      refine wm_iload_n E dM_firstCondition_45 rfl (j := 3) rfl ?_
      exact wm_iret (rt := .int) E hQ (rqI0 h) rfl (by decide) (by decide) dM_firstCondition_46
    · have h := (if_neg c14).symm.trans h
      refine wm_aload_n E dM_firstCondition_17 rfl (j := 0) rfl ?_
      refine wm_rget (v := vR (some (b + 21))) E fd_M_70 rfl dM_firstCondition_18 ?_
      refine wm_iload E dM_firstCondition_21 (j := 4) rfl ?_
      refine wm_riald E (by decide) rfl rfl (by decide) (by decide) h dM_firstCondition_23 (fun x23 h => ?_)
      refine wm_iload_n E dM_firstCondition_24 rfl (j := 1) rfl ?_
      refine wm_iload_n E dM_firstCondition_25 rfl (j := 2) rfl ?_
      obtain ⟨x26, hc26, h⟩ := b1S h
      refine wm_cS (As := [vI x23, vI v1, vI v2]) (st := []) E lk_M_139 sc_M_in (RC_M_in (xl X) X.1 x23 v1 v2 _ _ hc26) rfl rfl (by rw [hR]; decide) (by rw [hR]; decide) (Nat.le_of_ble_eq_true rfl) dM_firstCondition_26 ?_
      refine wm_if_eq (tgt := 37) E dM_firstCondition_29 (by decide) (fun c29 => ?_) (fun c29 => ?_)
      · have h := (if_pos c29).symm.trans h
        refine wm_iload_n E dM_firstCondition_37 rfl (j := 3) rfl ?_
        refine wm_pick (lv' := [(0, vR (some b)), (1, vI v1), (2, vI v2), (4, vI v4)]) [0, 1, 2, 4] rfl ?_
        exact rw_M_firstCondition_38 E hQ hR hI (fun v1 v2 v3 v4 => RB_M_firstCondition_12 ρ n v1 v2 v3 v4) ih v1 v2 v4 v3 h
      · have h := (if_neg c29).symm.trans h
        refine wm_iload E dM_firstCondition_32 (j := 4) rfl ?_
        refine wm_goto (tgt := 38) E dM_firstCondition_34 (by decide) ?_
        refine wm_pick (lv' := [(0, vR (some b)), (1, vI v1), (2, vI v2), (4, vI v4)]) [0, 1, 2, 4] rfl ?_
        exact rw_M_firstCondition_38 E hQ hR hI (fun v1 v2 v3 v4 => RB_M_firstCondition_12 ρ n v1 v2 v3 v4) ih v1 v2 v4 v4 h
def R_M_firstCondition (v1 : Int32) (v2 : Int32) (ρ : RS) : Option Int32 := b0 ((-1)) (fun x1 => b1 (rgI ρ 23 5 0) (fun x7 => b0 (x7 - 1) (fun x10 => RB_M_firstCondition_12 ρ fu v1 v2 x1 x10)))
set_option maxHeartbeats 4000000 in
set_option maxRecDepth 100000 in
theorem RC_M_firstCondition (l : Launch) (G : GG) (b : Nat) (ρ : RS) (μ : Mem) (v1 : Int32) (v2 : Int32) (r : Int32) (h : R_M_firstCondition v1 v2 ρ = some r) : CT l G y_M_firstCondition prog_13_method_48_code 5 (some .int) 1 0 0 22 (ov b ρ μ) [vR (some b), vI v1, vI v2] (some (vI r)) (ov b ρ μ) := by
  refine wm_met (lv := [(0, vR (some b)), (1, vI v1), (2, vI v2)]) (by decide +kernel) (Nat.le_of_ble_eq_true rfl) rfl (fun X E hQ hR hI => ?_)
  have h : (b0 ((-1)) (fun x1 => b1 (rgI ρ 23 5 0) (fun x7 => b0 (x7 - 1) (fun x10 => RB_M_firstCondition_12 ρ fu v1 v2 x1 x10)))) = some r := h
  refine wm_iconst (x := -1) E dM_firstCondition_0 (by decide) ?_
  refine wm_letI h (fun x1 h => ?_)
  refine wm_istore_n (lv' := [(3, vI x1), (0, vR (some b)), (1, vI v1), (2, vI v2)]) E dM_firstCondition_1 rfl (by decide) rfl ?_
  refine wm_aload_n E dM_firstCondition_2 rfl (j := 1) rfl ?_
  refine wm_rget (v := vR (some (b + 20))) E fd_M_67 rfl dM_firstCondition_3 ?_
  refine wm_iconst (x := 0) E dM_firstCondition_6 (by decide) ?_
  refine wm_riald E (by decide) rfl rfl (by decide) (by decide) h dM_firstCondition_7 (fun x7 h => ?_)
  refine wm_iconst (x := 1) E dM_firstCondition_8 (by decide) ?_
  refine wm_isub E dM_firstCondition_9 ?_
  refine wm_letI h (fun x10 h => ?_)
  refine wm_istore (lv' := [(4, vI x10), (3, vI x1), (0, vR (some b)), (1, vI v1), (2, vI v2)]) E dM_firstCondition_10 (by decide) rfl ?_
  refine wm_pick (lv' := [(0, vR (some b)), (1, vI v1), (2, vI v2), (3, vI x1), (4, vI x10)]) [2, 3, 4, 1, 0] rfl ?_
  exact rw_M_firstCondition_12 E hQ hR hI fu v1 v2 x1 x10 h
def RB_M_makeKeys_221   (ρ : RS) : Option (Unit × RS) := some ((), ρ)
set_option maxHeartbeats 4000000 in
set_option maxRecDepth 100000 in
theorem rw_M_makeKeys_221 {X : CX} (E : EV X prog_13_method_49_code 7 "PlaceFinderModel" none) {μ0 μ : Mem} {b : Nat} {r : Unit} {ρ' : RS} (hQ : RQ X 0 0 μ0 none (ov b ρ' μ)) (hR : xR X = { frames := 3, cells := 0, slots := 0, locals := 89 }) (hI : X.2.2.2.2.2.2.2.2.2.2.2.1.name = "makeKeys") (hW : mW μ ≤ b)   (ρ : RS) (h : RB_M_makeKeys_221  ρ = some (r, ρ')) : WM X 7 221 [] [] 0 0 (ov b ρ μ) := by
  have h : (some ((), ρ)) = some (r, ρ') := h
  exact wm_vret E hQ rfl (rrM h) (by decide) (by decide) dM_makeKeys_221
def RB_M_makeKeys_169  (v1 : Int32) (v2 : Int32) (v3 : Int32) (ρ : RS) : Option (Unit × RS) := if v3 = 3 then b1 (rgI ρ 30 5 0) (fun x179 => if x179 ≤ 1 then RB_M_makeKeys_221 (ρ) else c2 (R_M_nearest v1 v2 0 (ρ)) (fun x188 ρ188 => b1 (rsI ρ188 52 30 v1 (ri ρ188 49)) (fun ρ200 => b1 (rsL ρ200 53 30 v1 (rl ρ200 47)) (fun ρ210 => b1 (rsL ρ210 54 30 v1 (rl ρ210 48)) (fun ρ220 => RB_M_makeKeys_221 (ρ220)))))) else RB_M_makeKeys_221 (ρ)
set_option maxHeartbeats 4000000 in
set_option maxRecDepth 100000 in
theorem rw_M_makeKeys_169 {X : CX} (E : EV X prog_13_method_49_code 7 "PlaceFinderModel" none) {μ0 μ : Mem} {b : Nat} {r : Unit} {ρ' : RS} (hQ : RQ X 0 0 μ0 none (ov b ρ' μ)) (hR : xR X = { frames := 3, cells := 0, slots := 0, locals := 89 }) (hI : X.2.2.2.2.2.2.2.2.2.2.2.1.name = "makeKeys") (hW : mW μ ≤ b)  (v1 : Int32) (v2 : Int32) (v3 : Int32) (ρ : RS) (h : RB_M_makeKeys_169  v1 v2 v3 ρ = some (r, ρ')) : WM X 7 169 [(0, vR (some b)), (1, vI v1), (2, vI v2), (3, vI v3)] [] 0 0 (ov b ρ μ) := by
  have h : (if v3 = 3 then b1 (rgI ρ 30 5 0) (fun x179 => if x179 ≤ 1 then RB_M_makeKeys_221 (ρ) else c2 (R_M_nearest v1 v2 0 (ρ)) (fun x188 ρ188 => b1 (rsI ρ188 52 30 v1 (ri ρ188 49)) (fun ρ200 => b1 (rsL ρ200 53 30 v1 (rl ρ200 47)) (fun ρ210 => b1 (rsL ρ210 54 30 v1 (rl ρ210 48)) (fun ρ220 => RB_M_makeKeys_221 (ρ220)))))) else RB_M_makeKeys_221 (ρ)) = some (r, ρ') := h
  refine wm_iload_n E dM_makeKeys_169 rfl (j := 3) rfl ?_
  refine wm_iconst (x := 3) E dM_makeKeys_170 (by decide) ?_
  refine wm_icmp_ne (tgt := 221) E dM_makeKeys_171 (by decide) (fun c171 => ?_) (fun c171 => ?_)
  · have h := (if_neg c171).symm.trans h
    refine wm_pick (lv' := []) [] rfl ?_
    exact rw_M_makeKeys_221 E hQ hR hI hW (ρ) h
  · have h := (if_pos c171).symm.trans h
    refine wm_aload_n E dM_makeKeys_174 rfl (j := 0) rfl ?_
    refine wm_rget (v := vR (some (b + 27))) E fd_M_88 rfl dM_makeKeys_175 ?_
    refine wm_iconst (x := 0) E dM_makeKeys_178 (by decide) ?_
    refine wm_riald E (by decide) rfl rfl (by decide) (by decide) h dM_makeKeys_179 (fun x179 h => ?_)
    refine wm_iconst (x := 1) E dM_makeKeys_180 (by decide) ?_
    refine wm_icmp_le (tgt := 221) E dM_makeKeys_181 (by decide) (fun c181 => ?_) (fun c181 => ?_)
    · have h := (if_pos c181).symm.trans h
      refine wm_pick (lv' := []) [] rfl ?_
      exact rw_M_makeKeys_221 E hQ hR hI hW (ρ) h
    · have h := (if_neg c181).symm.trans h
      refine wm_aload_n E dM_makeKeys_184 rfl (j := 0) rfl ?_
      refine wm_iload_n E dM_makeKeys_185 rfl (j := 1) rfl ?_
      refine wm_iload_n E dM_makeKeys_186 rfl (j := 2) rfl ?_
      refine wm_iconst (x := 0) E dM_makeKeys_187 (by decide) ?_
      obtain ⟨x188, ρ188, hc188, h⟩ := c2S h
      refine wm_cV (ci := 12) (As := [vI v1, vI v2, vI 0]) (st := []) E lk_M_257 rfl im_M_nearest sl_M_nearest (ov_rc _ _ _) (RC_M_nearest (xl X) X.1 b (ρ) μ hW v1 v2 0 _ _ hc188) rfl rfl (by rw [hR]; decide) (by rw [hR]; decide) (Nat.le_of_ble_eq_true rfl) dM_makeKeys_188 ?_
      refine wm_aload_n E dM_makeKeys_191 rfl (j := 0) rfl ?_
      refine wm_rget (v := vR (some (b + 38))) E fd_M_122 rfl dM_makeKeys_192 ?_
      refine wm_iload_n E dM_makeKeys_195 rfl (j := 1) rfl ?_
      refine wm_aload_n E dM_makeKeys_196 rfl (j := 0) rfl ?_
      refine wm_rget (v := vI (ri ρ188 49)) E fd_M_231 rfl dM_makeKeys_197 ?_
      refine wm_riast E (by decide) rfl rfl (by decide) (by decide) hW h dM_makeKeys_200 (fun ρ200 h => ?_)
      refine wm_aload_n E dM_makeKeys_201 rfl (j := 0) rfl ?_
      refine wm_rget (v := vR (some (b + 39))) E fd_M_125 rfl dM_makeKeys_202 ?_
      refine wm_iload_n E dM_makeKeys_205 rfl (j := 1) rfl ?_
      refine wm_aload_n E dM_makeKeys_206 rfl (j := 0) rfl ?_
      refine wm_rget (v := vL (rl ρ200 47)) E fd_M_244 rfl dM_makeKeys_207 ?_
      refine wm_rlast E (by decide) rfl rfl (by decide) hW h dM_makeKeys_210 (fun ρ210 h => ?_)
      refine wm_aload_n E dM_makeKeys_211 rfl (j := 0) rfl ?_
      refine wm_rget (v := vR (some (b + 40))) E fd_M_129 rfl dM_makeKeys_212 ?_
      refine wm_iload_n E dM_makeKeys_215 rfl (j := 1) rfl ?_
      refine wm_aload_n E dM_makeKeys_216 rfl (j := 0) rfl ?_
      refine wm_rget (v := vL (rl ρ210 48)) E fd_M_247 rfl dM_makeKeys_217 ?_
      refine wm_rlast E (by decide) rfl rfl (by decide) hW h dM_makeKeys_220 (fun ρ220 h => ?_)
      refine wm_pick (lv' := []) [] rfl ?_
      exact rw_M_makeKeys_221 E hQ hR hI hW (ρ220) h
def RB_M_makeKeys_168  (v1 : Int32) (v2 : Int32) (v3 : Int32) (s1 : Int32) (s2 : Int32) (ρ : RS) : Option (Unit × RS) := b1 (rsI ρ 51 30 s1 s2) (fun ρ168 => RB_M_makeKeys_169 v1 v2 v3 (ρ168))
set_option maxHeartbeats 4000000 in
set_option maxRecDepth 100000 in
theorem rw_M_makeKeys_168 {X : CX} (E : EV X prog_13_method_49_code 7 "PlaceFinderModel" none) {μ0 μ : Mem} {b : Nat} {r : Unit} {ρ' : RS} (hQ : RQ X 0 0 μ0 none (ov b ρ' μ)) (hR : xR X = { frames := 3, cells := 0, slots := 0, locals := 89 }) (hI : X.2.2.2.2.2.2.2.2.2.2.2.1.name = "makeKeys") (hW : mW μ ≤ b)  (v1 : Int32) (v2 : Int32) (v3 : Int32) (s1 : Int32) (s2 : Int32) (ρ : RS) (h : RB_M_makeKeys_168  v1 v2 v3 s1 s2 ρ = some (r, ρ')) : WM X 7 168 [(0, vR (some b)), (1, vI v1), (2, vI v2), (3, vI v3)] [vI s2, vI s1, vR (some (b + 37))] 0 0 (ov b ρ μ) := by
  have h : (b1 (rsI ρ 51 30 s1 s2) (fun ρ168 => RB_M_makeKeys_169 v1 v2 v3 (ρ168))) = some (r, ρ') := h
  refine wm_riast E (by decide) rfl rfl (by decide) (by decide) hW h dM_makeKeys_168 (fun ρ168 h => ?_)
  refine wm_pick (lv' := [(0, vR (some b)), (1, vI v1), (2, vI v2), (3, vI v3)]) [0, 1, 2, 3] rfl ?_
  exact rw_M_makeKeys_169 E hQ hR hI hW v1 v2 v3 (ρ168) h
def RB_M_makeKeys_111  (v1 : Int32) (v2 : Int32) (v3 : Int32) (ρ : RS) : Option (Unit × RS) := if v3 = 2 then b1 (R_M_firstCondition 7 7 (ρ)) (fun x121 => if x121 = ((-1)) then b1 (R_M_square v1 v2 0 0 (ρ)) (fun x142 => RB_M_makeKeys_168 v1 v2 v3 v1 x142 (ρ)) else b1 (rgI ρ 25 25 x121) (fun x157 => b1 (rgI ρ 26 25 x121) (fun x164 => b1 (R_M_square v1 v2 x157 x164 (ρ)) (fun x165 => RB_M_makeKeys_168 v1 v2 v3 v1 x165 (ρ))))) else RB_M_makeKeys_169 v1 v2 v3 (ρ)
set_option maxHeartbeats 4000000 in
set_option maxRecDepth 100000 in
theorem rw_M_makeKeys_111 {X : CX} (E : EV X prog_13_method_49_code 7 "PlaceFinderModel" none) {μ0 μ : Mem} {b : Nat} {r : Unit} {ρ' : RS} (hQ : RQ X 0 0 μ0 none (ov b ρ' μ)) (hR : xR X = { frames := 3, cells := 0, slots := 0, locals := 89 }) (hI : X.2.2.2.2.2.2.2.2.2.2.2.1.name = "makeKeys") (hW : mW μ ≤ b)  (v1 : Int32) (v2 : Int32) (v3 : Int32) (ρ : RS) (h : RB_M_makeKeys_111  v1 v2 v3 ρ = some (r, ρ')) : WM X 7 111 [(0, vR (some b)), (1, vI v1), (2, vI v2), (3, vI v3)] [] 0 0 (ov b ρ μ) := by
  have h : (if v3 = 2 then b1 (R_M_firstCondition 7 7 (ρ)) (fun x121 => if x121 = ((-1)) then b1 (R_M_square v1 v2 0 0 (ρ)) (fun x142 => RB_M_makeKeys_168 v1 v2 v3 v1 x142 (ρ)) else b1 (rgI ρ 25 25 x121) (fun x157 => b1 (rgI ρ 26 25 x121) (fun x164 => b1 (R_M_square v1 v2 x157 x164 (ρ)) (fun x165 => RB_M_makeKeys_168 v1 v2 v3 v1 x165 (ρ))))) else RB_M_makeKeys_169 v1 v2 v3 (ρ)) = some (r, ρ') := h
  refine wm_iload_n E dM_makeKeys_111 rfl (j := 3) rfl ?_
  refine wm_iconst (x := 2) E dM_makeKeys_112 (by decide) ?_
  refine wm_icmp_ne (tgt := 169) E dM_makeKeys_113 (by decide) (fun c113 => ?_) (fun c113 => ?_)
  · have h := (if_neg c113).symm.trans h
    refine wm_pick (lv' := [(0, vR (some b)), (1, vI v1), (2, vI v2), (3, vI v3)]) [0, 1, 2, 3] rfl ?_
    exact rw_M_makeKeys_169 E hQ hR hI hW v1 v2 v3 (ρ) h
  · have h := (if_pos c113).symm.trans h
    refine wm_aload_n E dM_makeKeys_116 rfl (j := 0) rfl ?_
    refine wm_bipush (x := 7) E dM_makeKeys_117 (by decide) ?_
    refine wm_bipush (x := 7) E dM_makeKeys_119 (by decide) ?_
    obtain ⟨x121, hc121, h⟩ := b1S h
    refine wm_cV (ci := 12) (As := [vI 7, vI 7]) (st := []) E lk_M_278 rfl im_M_firstCondition sl_M_firstCondition (ov_rc _ _ _) (RC_M_firstCondition (xl X) X.1 b (ρ) μ 7 7 _ hc121) rfl rfl (by rw [hR]; decide) (by rw [hR]; decide) (Nat.le_of_ble_eq_true rfl) dM_makeKeys_121 ?_
    refine wm_istore (lv' := [(4, vI x121), (0, vR (some b)), (1, vI v1), (2, vI v2), (3, vI v3)]) E dM_makeKeys_124 (by decide) rfl ?_
    refine wm_aload_n E dM_makeKeys_126 rfl (j := 1) rfl ?_
    refine wm_rget (v := vR (some (b + 37))) E fd_M_119 rfl dM_makeKeys_127 ?_
    refine wm_iload_n E dM_makeKeys_130 rfl (j := 2) rfl ?_
    refine wm_iload E dM_makeKeys_131 (j := 0) rfl ?_
    refine wm_iconst (x := -1) E dM_makeKeys_133 (by decide) ?_
    refine wm_icmp_ne (tgt := 148) E dM_makeKeys_134 (by decide) (fun c134 => ?_) (fun c134 => ?_)
    · have h := (if_neg c134).symm.trans h
      refine wm_aload_n E dM_makeKeys_148 rfl (j := 1) rfl ?_
      refine wm_iload_n E dM_makeKeys_149 rfl (j := 2) rfl ?_
      refine wm_iload_n E dM_makeKeys_150 rfl (j := 3) rfl ?_
      refine wm_aload_n E dM_makeKeys_151 rfl (j := 1) rfl ?_
      refine wm_rget (v := vR (some (b + 22))) E fd_M_73 rfl dM_makeKeys_152 ?_
      refine wm_iload E dM_makeKeys_155 (j := 0) rfl ?_
      refine wm_riald E (by decide) rfl rfl (by decide) (by decide) h dM_makeKeys_157 (fun x157 h => ?_)
      refine wm_aload_n E dM_makeKeys_158 rfl (j := 1) rfl ?_
      refine wm_rget (v := vR (some (b + 23))) E fd_M_76 rfl dM_makeKeys_159 ?_
      refine wm_iload E dM_makeKeys_162 (j := 0) rfl ?_
      refine wm_riald E (by decide) rfl rfl (by decide) (by decide) h dM_makeKeys_164 (fun x164 h => ?_)
      obtain ⟨x165, hc165, h⟩ := b1S h
      refine wm_cV (ci := 12) (As := [vI v1, vI v2, vI x157, vI x164]) (st := [vI v1, vR (some (b + 37))]) E lk_M_270 rfl im_M_square sl_M_square (ov_rc _ _ _) (RC_M_square (xl X) X.1 b (ρ) μ v1 v2 x157 x164 _ hc165) rfl rfl (by rw [hR]; decide) (by rw [hR]; decide) (Nat.le_of_ble_eq_true rfl) dM_makeKeys_165 ?_
      refine wm_pick (lv' := [(0, vR (some b)), (1, vI v1), (2, vI v2), (3, vI v3)]) [1, 2, 3, 4] rfl ?_
      exact rw_M_makeKeys_168 E hQ hR hI hW v1 v2 v3 v1 x165 (ρ) h
    · have h := (if_pos c134).symm.trans h
      refine wm_aload_n E dM_makeKeys_137 rfl (j := 1) rfl ?_
      refine wm_iload_n E dM_makeKeys_138 rfl (j := 2) rfl ?_
      refine wm_iload_n E dM_makeKeys_139 rfl (j := 3) rfl ?_
      refine wm_iconst (x := 0) E dM_makeKeys_140 (by decide) ?_
      refine wm_iconst (x := 0) E dM_makeKeys_141 (by decide) ?_
      obtain ⟨x142, hc142, h⟩ := b1S h
      refine wm_cV (ci := 12) (As := [vI v1, vI v2, vI 0, vI 0]) (st := [vI v1, vR (some (b + 37))]) E lk_M_270 rfl im_M_square sl_M_square (ov_rc _ _ _) (RC_M_square (xl X) X.1 b (ρ) μ v1 v2 0 0 _ hc142) rfl rfl (by rw [hR]; decide) (by rw [hR]; decide) (Nat.le_of_ble_eq_true rfl) dM_makeKeys_142 ?_
      refine wm_goto (tgt := 168) E dM_makeKeys_145 (by decide) ?_
      refine wm_pick (lv' := [(0, vR (some b)), (1, vI v1), (2, vI v2), (3, vI v3)]) [1, 2, 3, 4] rfl ?_
      exact rw_M_makeKeys_168 E hQ hR hI hW v1 v2 v3 v1 x142 (ρ) h
def RB_M_makeKeys_105 (k23 : Int32 → Int32 → Int32 → Int32 → Int32 → RS → Option (Unit × RS)) (v1 : Int32) (v2 : Int32) (v3 : Int32) (v4 : Int32) (v5 : Int32) (ρ : RS) : Option (Unit × RS) := k23 v1 v2 v3 v4 (v5 + 1) (ρ)
set_option maxHeartbeats 4000000 in
set_option maxRecDepth 100000 in
theorem rw_M_makeKeys_105 {X : CX} (E : EV X prog_13_method_49_code 7 "PlaceFinderModel" none) {μ0 μ : Mem} {b : Nat} {r : Unit} {ρ' : RS} (hQ : RQ X 0 0 μ0 none (ov b ρ' μ)) (hR : xR X = { frames := 3, cells := 0, slots := 0, locals := 89 }) (hI : X.2.2.2.2.2.2.2.2.2.2.2.1.name = "makeKeys") (hW : mW μ ≤ b) (k23 : Int32 → Int32 → Int32 → Int32 → Int32 → RS → Option (Unit × RS)) (hk23 : ∀ (v1 : Int32) (v2 : Int32) (v3 : Int32) (v4 : Int32) (v5 : Int32) (ρ : RS), k23 v1 v2 v3 v4 v5 ρ = some (r, ρ') → WM X 7 23 [(0, vR (some b)), (1, vI v1), (2, vI v2), (3, vI v3), (4, vI v4), (5, vI v5)] [] 0 0 (ov b ρ μ)) (v1 : Int32) (v2 : Int32) (v3 : Int32) (v4 : Int32) (v5 : Int32) (ρ : RS) (h : RB_M_makeKeys_105 k23 v1 v2 v3 v4 v5 ρ = some (r, ρ')) : WM X 7 105 [(0, vR (some b)), (1, vI v1), (2, vI v2), (3, vI v3), (4, vI v4), (5, vI v5)] [] 0 0 (ov b ρ μ) := by
  have h : (k23 v1 v2 v3 v4 (v5 + 1) (ρ)) = some (r, ρ') := h
  refine wm_iinc (lv' := [(5, vI (v5 + 1)), (0, vR (some b)), (1, vI v1), (2, vI v2), (3, vI v3), (4, vI v4)]) (d := 1) E dM_makeKeys_105 (by decide) (j := 5) rfl (by decide) rfl ?_
  refine wm_goto (tgt := 23) E dM_makeKeys_108 (by decide) ?_
  refine wm_pick (lv' := [(0, vR (some b)), (1, vI v1), (2, vI v2), (3, vI v3), (4, vI v4), (5, vI (v5 + 1))]) [1, 2, 3, 4, 5, 0] rfl ?_
  exact hk23 v1 v2 v3 v4 (v5 + 1) (ρ) h
def RB_M_makeKeys_97 (k23 : Int32 → Int32 → Int32 → Int32 → Int32 → RS → Option (Unit × RS)) (v1 : Int32) (v2 : Int32) (v3 : Int32) (v4 : Int32) (v5 : Int32) (v6 : Int32) (ρ : RS) : Option (Unit × RS) := b1 (rsI ρ 50 30 v1 v6) (fun ρ104 => RB_M_makeKeys_105 k23 v1 v2 v3 v4 v5 (ρ104))
set_option maxHeartbeats 4000000 in
set_option maxRecDepth 100000 in
theorem rw_M_makeKeys_97 {X : CX} (E : EV X prog_13_method_49_code 7 "PlaceFinderModel" none) {μ0 μ : Mem} {b : Nat} {r : Unit} {ρ' : RS} (hQ : RQ X 0 0 μ0 none (ov b ρ' μ)) (hR : xR X = { frames := 3, cells := 0, slots := 0, locals := 89 }) (hI : X.2.2.2.2.2.2.2.2.2.2.2.1.name = "makeKeys") (hW : mW μ ≤ b) (k23 : Int32 → Int32 → Int32 → Int32 → Int32 → RS → Option (Unit × RS)) (hk23 : ∀ (v1 : Int32) (v2 : Int32) (v3 : Int32) (v4 : Int32) (v5 : Int32) (ρ : RS), k23 v1 v2 v3 v4 v5 ρ = some (r, ρ') → WM X 7 23 [(0, vR (some b)), (1, vI v1), (2, vI v2), (3, vI v3), (4, vI v4), (5, vI v5)] [] 0 0 (ov b ρ μ)) (v1 : Int32) (v2 : Int32) (v3 : Int32) (v4 : Int32) (v5 : Int32) (v6 : Int32) (ρ : RS) (h : RB_M_makeKeys_97 k23 v1 v2 v3 v4 v5 v6 ρ = some (r, ρ')) : WM X 7 97 [(0, vR (some b)), (1, vI v1), (2, vI v2), (3, vI v3), (4, vI v4), (5, vI v5), (6, vI v6)] [] 0 0 (ov b ρ μ) := by
  have h : (b1 (rsI ρ 50 30 v1 v6) (fun ρ104 => RB_M_makeKeys_105 k23 v1 v2 v3 v4 v5 (ρ104))) = some (r, ρ') := h
  refine wm_aload_n E dM_makeKeys_97 rfl (j := 0) rfl ?_
  refine wm_rget (v := vR (some (b + 36))) E fd_M_116 rfl dM_makeKeys_98 ?_
  refine wm_iload_n E dM_makeKeys_101 rfl (j := 1) rfl ?_
  refine wm_iload E dM_makeKeys_102 (j := 6) rfl ?_
  refine wm_riast E (by decide) rfl rfl (by decide) (by decide) hW h dM_makeKeys_104 (fun ρ104 h => ?_)
  refine wm_pick (lv' := [(0, vR (some b)), (1, vI v1), (2, vI v2), (3, vI v3), (4, vI v4), (5, vI v5)]) [0, 1, 2, 3, 4, 5] rfl ?_
  exact rw_M_makeKeys_105 E hQ hR hI hW k23 hk23 v1 v2 v3 v4 v5 (ρ104) h
def RB_M_makeKeys_72 (k23 : Int32 → Int32 → Int32 → Int32 → Int32 → RS → Option (Unit × RS)) (v1 : Int32) (v2 : Int32) (v3 : Int32) (v4 : Int32) (v5 : Int32) (v6 : Int32) (ρ : RS) : Option (Unit × RS) := b1 (rgI ρ 50 30 v1) (fun x77 => if x77 = ((-1)) then RB_M_makeKeys_97 k23 v1 v2 v3 v4 v5 v6 (ρ) else b1 (rgI ρ 50 30 v1) (fun x90 => b1 (R_M_compareWords v6 x90 (ρ)) (fun x91 => if 0 ≤ x91 then RB_M_makeKeys_105 k23 v1 v2 v3 v4 v5 (ρ) else RB_M_makeKeys_97 k23 v1 v2 v3 v4 v5 v6 (ρ))))
set_option maxHeartbeats 4000000 in
set_option maxRecDepth 100000 in
theorem rw_M_makeKeys_72 {X : CX} (E : EV X prog_13_method_49_code 7 "PlaceFinderModel" none) {μ0 μ : Mem} {b : Nat} {r : Unit} {ρ' : RS} (hQ : RQ X 0 0 μ0 none (ov b ρ' μ)) (hR : xR X = { frames := 3, cells := 0, slots := 0, locals := 89 }) (hI : X.2.2.2.2.2.2.2.2.2.2.2.1.name = "makeKeys") (hW : mW μ ≤ b) (k23 : Int32 → Int32 → Int32 → Int32 → Int32 → RS → Option (Unit × RS)) (hk23 : ∀ (v1 : Int32) (v2 : Int32) (v3 : Int32) (v4 : Int32) (v5 : Int32) (ρ : RS), k23 v1 v2 v3 v4 v5 ρ = some (r, ρ') → WM X 7 23 [(0, vR (some b)), (1, vI v1), (2, vI v2), (3, vI v3), (4, vI v4), (5, vI v5)] [] 0 0 (ov b ρ μ)) (v1 : Int32) (v2 : Int32) (v3 : Int32) (v4 : Int32) (v5 : Int32) (v6 : Int32) (ρ : RS) (h : RB_M_makeKeys_72 k23 v1 v2 v3 v4 v5 v6 ρ = some (r, ρ')) : WM X 7 72 [(0, vR (some b)), (1, vI v1), (2, vI v2), (3, vI v3), (4, vI v4), (5, vI v5), (6, vI v6)] [] 0 0 (ov b ρ μ) := by
  have h : (b1 (rgI ρ 50 30 v1) (fun x77 => if x77 = ((-1)) then RB_M_makeKeys_97 k23 v1 v2 v3 v4 v5 v6 (ρ) else b1 (rgI ρ 50 30 v1) (fun x90 => b1 (R_M_compareWords v6 x90 (ρ)) (fun x91 => if 0 ≤ x91 then RB_M_makeKeys_105 k23 v1 v2 v3 v4 v5 (ρ) else RB_M_makeKeys_97 k23 v1 v2 v3 v4 v5 v6 (ρ))))) = some (r, ρ') := h
  refine wm_aload_n E dM_makeKeys_72 rfl (j := 0) rfl ?_
  refine wm_rget (v := vR (some (b + 36))) E fd_M_116 rfl dM_makeKeys_73 ?_
  refine wm_iload_n E dM_makeKeys_76 rfl (j := 1) rfl ?_
  refine wm_riald E (by decide) rfl rfl (by decide) (by decide) h dM_makeKeys_77 (fun x77 h => ?_)
  refine wm_iconst (x := -1) E dM_makeKeys_78 (by decide) ?_
  refine wm_icmp_eq (tgt := 97) E dM_makeKeys_79 (by decide) (fun c79 => ?_) (fun c79 => ?_)
  · have h := (if_pos c79).symm.trans h
    refine wm_pick (lv' := [(0, vR (some b)), (1, vI v1), (2, vI v2), (3, vI v3), (4, vI v4), (5, vI v5), (6, vI v6)]) [0, 1, 2, 3, 4, 5, 6] rfl ?_
    exact rw_M_makeKeys_97 E hQ hR hI hW k23 hk23 v1 v2 v3 v4 v5 v6 (ρ) h
  · have h := (if_neg c79).symm.trans h
    refine wm_aload_n E dM_makeKeys_82 rfl (j := 0) rfl ?_
    refine wm_iload E dM_makeKeys_83 (j := 6) rfl ?_
    refine wm_aload_n E dM_makeKeys_85 rfl (j := 0) rfl ?_
    refine wm_rget (v := vR (some (b + 36))) E fd_M_116 rfl dM_makeKeys_86 ?_
    refine wm_iload_n E dM_makeKeys_89 rfl (j := 1) rfl ?_
    refine wm_riald E (by decide) rfl rfl (by decide) (by decide) h dM_makeKeys_90 (fun x90 h => ?_)
    obtain ⟨x91, hc91, h⟩ := b1S h
    refine wm_cV (ci := 12) (As := [vI v6, vI x90]) (st := []) E lk_M_281 rfl im_M_compareWords sl_M_compareWords (ov_rc _ _ _) (RC_M_compareWords (xl X) X.1 b (ρ) μ v6 x90 _ hc91) rfl rfl (by rw [hR]; decide) (by rw [hR]; decide) (Nat.le_of_ble_eq_true rfl) dM_makeKeys_91 ?_
    refine wm_if_ge (tgt := 105) E dM_makeKeys_94 (by decide) (fun c94 => ?_) (fun c94 => ?_)
    · have h := (if_pos c94).symm.trans h
      refine wm_pick (lv' := [(0, vR (some b)), (1, vI v1), (2, vI v2), (3, vI v3), (4, vI v4), (5, vI v5)]) [0, 1, 2, 3, 4, 5] rfl ?_
      exact rw_M_makeKeys_105 E hQ hR hI hW k23 hk23 v1 v2 v3 v4 v5 (ρ) h
    · have h := (if_neg c94).symm.trans h
      refine wm_pick (lv' := [(0, vR (some b)), (1, vI v1), (2, vI v2), (3, vI v3), (4, vI v4), (5, vI v5), (6, vI v6)]) [0, 1, 2, 3, 4, 5, 6] rfl ?_
      exact rw_M_makeKeys_97 E hQ hR hI hW k23 hk23 v1 v2 v3 v4 v5 v6 (ρ) h
def RB_M_makeKeys_23  : Nat → Int32 → Int32 → Int32 → Int32 → Int32 → RS → Option (Unit × RS)
  | 0, _, _, _, _, _, _ => none
  | n + 1, v1, v2, v3, v4, v5, ρ => b1 (rgI ρ 9 30 v1) (fun x30 => if x30 ≤ v5 then RB_M_makeKeys_111 v1 v2 v3 (ρ) else b0 ((2 * v1) + v5) (fun x40 => b1 (R_M_isOf x40 v2 (ρ)) (fun x46 => if x46 = 0 then RB_M_makeKeys_105 (fun v1 v2 v3 v4 v5 ρ => RB_M_makeKeys_23 n v1 v2 v3 v4 v5 ρ) v1 v2 v3 v4 v5 (ρ) else if v4 = ((-1)) then RB_M_makeKeys_72 (fun v1 v2 v3 v4 v5 ρ => RB_M_makeKeys_23 n v1 v2 v3 v4 v5 ρ) v1 v2 v3 v4 v5 x40 (ρ) else c2 (R_M_isNamed x40 v4 (ρ)) (fun x63 ρ63 => if x63 = 0 then RB_M_makeKeys_105 (fun v1 v2 v3 v4 v5 ρ => RB_M_makeKeys_23 n v1 v2 v3 v4 v5 ρ) v1 v2 v3 v4 v5 (ρ63) else RB_M_makeKeys_72 (fun v1 v2 v3 v4 v5 ρ => RB_M_makeKeys_23 n v1 v2 v3 v4 v5 ρ) v1 v2 v3 v4 v5 x40 (ρ63)))))
set_option maxHeartbeats 4000000 in
set_option maxRecDepth 100000 in
theorem rw_M_makeKeys_23 {X : CX} (E : EV X prog_13_method_49_code 7 "PlaceFinderModel" none) {μ0 μ : Mem} {b : Nat} {r : Unit} {ρ' : RS} (hQ : RQ X 0 0 μ0 none (ov b ρ' μ)) (hR : xR X = { frames := 3, cells := 0, slots := 0, locals := 89 }) (hI : X.2.2.2.2.2.2.2.2.2.2.2.1.name = "makeKeys") (hW : mW μ ≤ b)  (n : Nat) : ∀ (v1 : Int32) (v2 : Int32) (v3 : Int32) (v4 : Int32) (v5 : Int32) (ρ : RS) (h : RB_M_makeKeys_23  n v1 v2 v3 v4 v5 ρ = some (r, ρ')), WM X 7 23 [(0, vR (some b)), (1, vI v1), (2, vI v2), (3, vI v3), (4, vI v4), (5, vI v5)] [] 0 0 (ov b ρ μ) := by
  induction n with
  | zero => intro v1 v2 v3 v4 v5 ρ h; cases h
  | succ n ih =>
    intro v1 v2 v3 v4 v5 ρ h
    have h : (b1 (rgI ρ 9 30 v1) (fun x30 => if x30 ≤ v5 then RB_M_makeKeys_111 v1 v2 v3 (ρ) else b0 ((2 * v1) + v5) (fun x40 => b1 (R_M_isOf x40 v2 (ρ)) (fun x46 => if x46 = 0 then RB_M_makeKeys_105 (fun v1 v2 v3 v4 v5 ρ => RB_M_makeKeys_23 n v1 v2 v3 v4 v5 ρ) v1 v2 v3 v4 v5 (ρ) else if v4 = ((-1)) then RB_M_makeKeys_72 (fun v1 v2 v3 v4 v5 ρ => RB_M_makeKeys_23 n v1 v2 v3 v4 v5 ρ) v1 v2 v3 v4 v5 x40 (ρ) else c2 (R_M_isNamed x40 v4 (ρ)) (fun x63 ρ63 => if x63 = 0 then RB_M_makeKeys_105 (fun v1 v2 v3 v4 v5 ρ => RB_M_makeKeys_23 n v1 v2 v3 v4 v5 ρ) v1 v2 v3 v4 v5 (ρ63) else RB_M_makeKeys_72 (fun v1 v2 v3 v4 v5 ρ => RB_M_makeKeys_23 n v1 v2 v3 v4 v5 ρ) v1 v2 v3 v4 v5 x40 (ρ63)))))) = some (r, ρ') := h
    refine wm_iload E dM_makeKeys_23 (j := 5) rfl ?_
    refine wm_aload_n E dM_makeKeys_25 rfl (j := 0) rfl ?_
    refine wm_rget (v := vR (some (b + 8))) E fd_M_31 rfl dM_makeKeys_26 ?_
    refine wm_iload_n E dM_makeKeys_29 rfl (j := 1) rfl ?_
    refine wm_riald E (by decide) rfl rfl (by decide) (by decide) h dM_makeKeys_30 (fun x30 h => ?_)
    refine wm_icmp_ge (tgt := 111) E dM_makeKeys_31 (by decide) (fun c31 => ?_) (fun c31 => ?_)
    · have h := (if_pos c31).symm.trans h
      refine wm_pick (lv' := [(0, vR (some b)), (1, vI v1), (2, vI v2), (3, vI v3)]) [0, 1, 2, 3] rfl ?_
      exact rw_M_makeKeys_111 E hQ hR hI hW v1 v2 v3 (ρ) h
    · have h := (if_neg c31).symm.trans h
      refine wm_iconst (x := 2) E dM_makeKeys_34 (by decide) ?_
      refine wm_iload_n E dM_makeKeys_35 rfl (j := 1) rfl ?_
      refine wm_imul E dM_makeKeys_36 ?_
      refine wm_iload E dM_makeKeys_37 (j := 5) rfl ?_
      refine wm_iadd E dM_makeKeys_39 ?_
      refine wm_letI h (fun x40 h => ?_)
      refine wm_istore (lv' := [(6, vI x40), (0, vR (some b)), (1, vI v1), (2, vI v2), (3, vI v3), (4, vI v4), (5, vI v5)]) E dM_makeKeys_40 (by decide) rfl ?_
      refine wm_aload_n E dM_makeKeys_42 rfl (j := 1) rfl ?_
      refine wm_iload E dM_makeKeys_43 (j := 0) rfl ?_
      refine wm_iload_n E dM_makeKeys_45 rfl (j := 3) rfl ?_
      obtain ⟨x46, hc46, h⟩ := b1S h
      refine wm_cV (ci := 12) (As := [vI x40, vI v2]) (st := []) E lk_M_212 rfl im_M_isOf sl_M_isOf (ov_rc _ _ _) (RC_M_isOf (xl X) X.1 b (ρ) μ x40 v2 _ hc46) rfl rfl (by rw [hR]; decide) (by rw [hR]; decide) (Nat.le_of_ble_eq_true rfl) dM_makeKeys_46 ?_
      refine wm_if_eq (tgt := 105) E dM_makeKeys_49 (by decide) (fun c49 => ?_) (fun c49 => ?_)
      · have h := (if_pos c49).symm.trans h
        refine wm_pick (lv' := [(0, vR (some b)), (1, vI v1), (2, vI v2), (3, vI v3), (4, vI v4), (5, vI v5)]) [1, 2, 3, 4, 5, 6] rfl ?_
        exact rw_M_makeKeys_105 E hQ hR hI hW (fun v1 v2 v3 v4 v5 ρ => RB_M_makeKeys_23 n v1 v2 v3 v4 v5 ρ) ih v1 v2 v3 v4 v5 (ρ) h
      · have h := (if_neg c49).symm.trans h
        refine wm_iload E dM_makeKeys_52 (j := 5) rfl ?_
        refine wm_iconst (x := -1) E dM_makeKeys_54 (by decide) ?_
        refine wm_icmp_eq (tgt := 72) E dM_makeKeys_55 (by decide) (fun c55 => ?_) (fun c55 => ?_)
        · have h := (if_pos c55).symm.trans h
          refine wm_pick (lv' := [(0, vR (some b)), (1, vI v1), (2, vI v2), (3, vI v3), (4, vI v4), (5, vI v5), (6, vI x40)]) [1, 2, 3, 4, 5, 6, 0] rfl ?_
          exact rw_M_makeKeys_72 E hQ hR hI hW (fun v1 v2 v3 v4 v5 ρ => RB_M_makeKeys_23 n v1 v2 v3 v4 v5 ρ) ih v1 v2 v3 v4 v5 x40 (ρ) h
        · have h := (if_neg c55).symm.trans h
          refine wm_aload_n E dM_makeKeys_58 rfl (j := 1) rfl ?_
          refine wm_iload E dM_makeKeys_59 (j := 0) rfl ?_
          refine wm_iload E dM_makeKeys_61 (j := 5) rfl ?_
          obtain ⟨x63, ρ63, hc63, h⟩ := c2S h
          refine wm_cV (ci := 12) (As := [vI x40, vI v4]) (st := []) E lk_M_215 rfl im_M_isNamed sl_M_isNamed (ov_rc _ _ _) (RC_M_isNamed (xl X) X.1 b (ρ) μ hW x40 v4 _ _ hc63) rfl rfl (by rw [hR]; decide) (by rw [hR]; decide) (Nat.le_of_ble_eq_true rfl) dM_makeKeys_63 ?_
          refine wm_if_ne (tgt := 72) E dM_makeKeys_66 (by decide) (fun c66 => ?_) (fun c66 => ?_)
          · have h := (if_neg c66).symm.trans h
            refine wm_pick (lv' := [(0, vR (some b)), (1, vI v1), (2, vI v2), (3, vI v3), (4, vI v4), (5, vI v5), (6, vI x40)]) [1, 2, 3, 4, 5, 6, 0] rfl ?_
            exact rw_M_makeKeys_72 E hQ hR hI hW (fun v1 v2 v3 v4 v5 ρ => RB_M_makeKeys_23 n v1 v2 v3 v4 v5 ρ) ih v1 v2 v3 v4 v5 x40 (ρ63) h
          · have h := (if_pos c66).symm.trans h
            refine wm_goto (tgt := 105) E dM_makeKeys_69 (by decide) ?_
            refine wm_pick (lv' := [(0, vR (some b)), (1, vI v1), (2, vI v2), (3, vI v3), (4, vI v4), (5, vI v5)]) [1, 2, 3, 4, 5, 6] rfl ?_
            exact rw_M_makeKeys_105 E hQ hR hI hW (fun v1 v2 v3 v4 v5 ρ => RB_M_makeKeys_23 n v1 v2 v3 v4 v5 ρ) ih v1 v2 v3 v4 v5 (ρ63) h
def R_M_makeKeys (v1 : Int32) (v2 : Int32) (v3 : Int32) (ρ : RS) : Option (Unit × RS) := if v3 = 1 then b1 (R_M_firstCondition 0 3 (ρ)) (fun x8 => b1 (rsI ρ 50 30 v1 ((-1))) (fun ρ19 => RB_M_makeKeys_23 fu v1 v2 v3 x8 0 (ρ19))) else RB_M_makeKeys_111 v1 v2 v3 (ρ)
set_option maxHeartbeats 4000000 in
set_option maxRecDepth 100000 in
theorem RC_M_makeKeys (l : Launch) (G : GG) (b : Nat) (ρ : RS) (μ : Mem) (hW : mW μ ≤ b) (v1 : Int32) (v2 : Int32) (v3 : Int32) (r : Unit) (ρ' : RS) (h : R_M_makeKeys v1 v2 v3 ρ = some (r, ρ')) : CT l G y_M_makeKeys prog_13_method_49_code 7 none 3 0 0 89 (ov b ρ μ) [vR (some b), vI v1, vI v2, vI v3] none (ov b ρ' μ) := by
  refine wm_met (lv := [(0, vR (some b)), (1, vI v1), (2, vI v2), (3, vI v3)]) (by decide +kernel) (Nat.le_of_ble_eq_true rfl) rfl (fun X E hQ hR hI => ?_)
  have h : (if v3 = 1 then b1 (R_M_firstCondition 0 3 (ρ)) (fun x8 => b1 (rsI ρ 50 30 v1 ((-1))) (fun ρ19 => RB_M_makeKeys_23 fu v1 v2 v3 x8 0 (ρ19))) else RB_M_makeKeys_111 v1 v2 v3 (ρ)) = some (r, ρ') := h
  refine wm_iload_n E dM_makeKeys_0 rfl (j := 3) rfl ?_
  refine wm_iconst (x := 1) E dM_makeKeys_1 (by decide) ?_
  refine wm_icmp_ne (tgt := 111) E dM_makeKeys_2 (by decide) (fun c2 => ?_) (fun c2 => ?_)
  · have h := (if_neg c2).symm.trans h
    refine wm_pick (lv' := [(0, vR (some b)), (1, vI v1), (2, vI v2), (3, vI v3)]) [0, 1, 2, 3] rfl ?_
    exact rw_M_makeKeys_111 E hQ hR hI hW v1 v2 v3 (ρ) h
  · have h := (if_pos c2).symm.trans h
    refine wm_aload_n E dM_makeKeys_5 rfl (j := 0) rfl ?_
    refine wm_iconst (x := 0) E dM_makeKeys_6 (by decide) ?_
    refine wm_iconst (x := 3) E dM_makeKeys_7 (by decide) ?_
    obtain ⟨x8, hc8, h⟩ := b1S h
    refine wm_cV (ci := 12) (As := [vI 0, vI 3]) (st := []) E lk_M_278 rfl im_M_firstCondition sl_M_firstCondition (ov_rc _ _ _) (RC_M_firstCondition (xl X) X.1 b (ρ) μ 0 3 _ hc8) rfl rfl (by rw [hR]; decide) (by rw [hR]; decide) (Nat.le_of_ble_eq_true rfl) dM_makeKeys_8 ?_
    refine wm_istore (lv' := [(4, vI x8), (0, vR (some b)), (1, vI v1), (2, vI v2), (3, vI v3)]) E dM_makeKeys_11 (by decide) rfl ?_
    refine wm_aload_n E dM_makeKeys_13 rfl (j := 1) rfl ?_
    refine wm_rget (v := vR (some (b + 36))) E fd_M_116 rfl dM_makeKeys_14 ?_
    refine wm_iload_n E dM_makeKeys_17 rfl (j := 2) rfl ?_
    refine wm_iconst (x := -1) E dM_makeKeys_18 (by decide) ?_
    refine wm_riast E (by decide) rfl rfl (by decide) (by decide) hW h dM_makeKeys_19 (fun ρ19 h => ?_)
    refine wm_iconst (x := 0) E dM_makeKeys_20 (by decide) ?_
    refine wm_istore (lv' := [(5, vI 0), (4, vI x8), (0, vR (some b)), (1, vI v1), (2, vI v2), (3, vI v3)]) E dM_makeKeys_21 (by decide) rfl ?_
    refine wm_pick (lv' := [(0, vR (some b)), (1, vI v1), (2, vI v2), (3, vI v3), (4, vI x8), (5, vI 0)]) [2, 3, 4, 5, 1, 0] rfl ?_
    exact rw_M_makeKeys_23 E hQ hR hI hW fu v1 v2 v3 x8 0 (ρ19) h
