def RB_M_soundOf_88 (ρ : RS)  (v1 : Int32) : Option Int32 := some (v1)
set_option maxHeartbeats 4000000 in
set_option maxRecDepth 100000 in
theorem rw_M_soundOf_88 {X : CX} (E : EV X prog_13_method_24_code 5 "PlaceFinderModel" (some .int)) {μ0 μ : Mem} {b : Nat} {r : Int32} {ρ : RS} (hQ : RQ X 0 0 μ0 (some (vI r)) (ov b ρ μ)) (hR : xR X = { frames := 1, cells := 0, slots := 0, locals := 20 }) (hI : X.2.2.2.2.2.2.2.2.2.2.2.1.name = "soundOf")  (v1 : Int32) (h : RB_M_soundOf_88 ρ  v1 = some r) : WM X 5 88 [(1, vI v1)] [] 0 0 (ov b ρ μ) := by
  have h : (some (v1)) = some r := h
  refine wm_iload_n E dM_soundOf_88 rfl (j := 0) rfl ?_
  exact wm_iret (rt := .int) E hQ (rqI0 h) rfl (by decide) (by decide) dM_soundOf_89
def RB_M_soundOf_82 (ρ : RS) (k23 : Int32 → Int32 → Int32 → Option Int32) (v1 : Int32) (v2 : Int32) (v3 : Int32) : Option Int32 := k23 v1 v2 (v3 + 1)
set_option maxHeartbeats 4000000 in
set_option maxRecDepth 100000 in
theorem rw_M_soundOf_82 {X : CX} (E : EV X prog_13_method_24_code 5 "PlaceFinderModel" (some .int)) {μ0 μ : Mem} {b : Nat} {r : Int32} {ρ : RS} (hQ : RQ X 0 0 μ0 (some (vI r)) (ov b ρ μ)) (hR : xR X = { frames := 1, cells := 0, slots := 0, locals := 20 }) (hI : X.2.2.2.2.2.2.2.2.2.2.2.1.name = "soundOf") (k23 : Int32 → Int32 → Int32 → Option Int32) (hk23 : ∀ (v1 : Int32) (v2 : Int32) (v3 : Int32), k23 v1 v2 v3 = some r → WM X 5 23 [(0, vR (some b)), (1, vI v1), (2, vI v2), (3, vI v3)] [] 0 0 (ov b ρ μ)) (v1 : Int32) (v2 : Int32) (v3 : Int32) (h : RB_M_soundOf_82 ρ k23 v1 v2 v3 = some r) : WM X 5 82 [(0, vR (some b)), (1, vI v1), (2, vI v2), (3, vI v3)] [] 0 0 (ov b ρ μ) := by
  have h : (k23 v1 v2 (v3 + 1)) = some r := h
  refine wm_iinc (lv' := [(3, vI (v3 + 1)), (0, vR (some b)), (1, vI v1), (2, vI v2)]) (d := 1) E dM_soundOf_82 (by decide) (j := 3) rfl (by decide) rfl ?_
  refine wm_goto (tgt := 23) E dM_soundOf_85 (by decide) ?_
  refine wm_pick (lv' := [(0, vR (some b)), (1, vI v1), (2, vI v2), (3, vI (v3 + 1))]) [1, 2, 3, 0] rfl ?_
  exact hk23 v1 v2 (v3 + 1) h
def RB_M_soundOf_23 (ρ : RS)  : Nat → Int32 → Int32 → Int32 → Option Int32
  | 0, _, _, _ => none
  | n + 1, v1, v2, v3 => if (ri ρ 38) ≤ v3 then RB_M_soundOf_88 ρ v1 else if 4 ≤ v2 then RB_M_soundOf_88 ρ v1 else b1 (rgI ρ 39 10 v3) (fun x41 => b1 (R_M_classOf x41) (fun x42 => if x42 = 0 then RB_M_soundOf_82 ρ (fun v1 v2 v3 => RB_M_soundOf_23 ρ n v1 v2 v3) v1 v2 v3 else b1 (rgI ρ 39 10 (v3 - 1)) (fun x61 => b1 (R_M_classOf x61) (fun x62 => if x42 = x62 then RB_M_soundOf_82 ρ (fun v1 v2 v3 => RB_M_soundOf_23 ρ n v1 v2 v3) v1 v2 v3 else b0 ((v1 * 32) + x42) (fun x78 => RB_M_soundOf_82 ρ (fun v1 v2 v3 => RB_M_soundOf_23 ρ n v1 v2 v3) x78 (v2 + 1) v3)))))
set_option maxHeartbeats 4000000 in
set_option maxRecDepth 100000 in
theorem rw_M_soundOf_23 {X : CX} (E : EV X prog_13_method_24_code 5 "PlaceFinderModel" (some .int)) {μ0 μ : Mem} {b : Nat} {r : Int32} {ρ : RS} (hQ : RQ X 0 0 μ0 (some (vI r)) (ov b ρ μ)) (hR : xR X = { frames := 1, cells := 0, slots := 0, locals := 20 }) (hI : X.2.2.2.2.2.2.2.2.2.2.2.1.name = "soundOf")  (n : Nat) : ∀ (v1 : Int32) (v2 : Int32) (v3 : Int32) (h : RB_M_soundOf_23 ρ  n v1 v2 v3 = some r), WM X 5 23 [(0, vR (some b)), (1, vI v1), (2, vI v2), (3, vI v3)] [] 0 0 (ov b ρ μ) := by
  induction n with
  | zero => intro v1 v2 v3 h; cases h
  | succ n ih =>
    intro v1 v2 v3 h
    have h : (if (ri ρ 38) ≤ v3 then RB_M_soundOf_88 ρ v1 else if 4 ≤ v2 then RB_M_soundOf_88 ρ v1 else b1 (rgI ρ 39 10 v3) (fun x41 => b1 (R_M_classOf x41) (fun x42 => if x42 = 0 then RB_M_soundOf_82 ρ (fun v1 v2 v3 => RB_M_soundOf_23 ρ n v1 v2 v3) v1 v2 v3 else b1 (rgI ρ 39 10 (v3 - 1)) (fun x61 => b1 (R_M_classOf x61) (fun x62 => if x42 = x62 then RB_M_soundOf_82 ρ (fun v1 v2 v3 => RB_M_soundOf_23 ρ n v1 v2 v3) v1 v2 v3 else b0 ((v1 * 32) + x42) (fun x78 => RB_M_soundOf_82 ρ (fun v1 v2 v3 => RB_M_soundOf_23 ρ n v1 v2 v3) x78 (v2 + 1) v3)))))) = some r := h
    refine wm_iload_n E dM_soundOf_23 rfl (j := 3) rfl ?_
    refine wm_aload_n E dM_soundOf_24 rfl (j := 0) rfl ?_
    refine wm_rget (v := vI (ri ρ 38)) E fd_M_179 rfl dM_soundOf_25 ?_
    refine wm_icmp_ge (tgt := 88) E dM_soundOf_28 (by decide) (fun c28 => ?_) (fun c28 => ?_)
    · have h := (if_pos c28).symm.trans h
      refine wm_pick (lv' := [(1, vI v1)]) [1] rfl ?_
      exact rw_M_soundOf_88 E hQ hR hI v1 h
    · have h := (if_neg c28).symm.trans h
      refine wm_iload_n E dM_soundOf_31 rfl (j := 2) rfl ?_
      refine wm_iconst (x := 4) E dM_soundOf_32 (by decide) ?_
      refine wm_icmp_ge (tgt := 88) E dM_soundOf_33 (by decide) (fun c33 => ?_) (fun c33 => ?_)
      · have h := (if_pos c33).symm.trans h
        refine wm_pick (lv' := [(1, vI v1)]) [1] rfl ?_
        exact rw_M_soundOf_88 E hQ hR hI v1 h
      · have h := (if_neg c33).symm.trans h
        refine wm_aload_n E dM_soundOf_36 rfl (j := 0) rfl ?_
        refine wm_rget (v := vR (some (b + 34))) E fd_M_110 rfl dM_soundOf_37 ?_
        refine wm_iload_n E dM_soundOf_40 rfl (j := 3) rfl ?_
        refine wm_riald E (by decide) rfl rfl (by decide) (by decide) h dM_soundOf_41 (fun x41 h => ?_)
        obtain ⟨x42, hc42, h⟩ := b1S h
        refine wm_cS (As := [vI x41]) (st := []) E lk_M_185 sc_M_classOf (RC_M_classOf (xl X) X.1 x41 _ _ hc42) rfl rfl (by rw [hR]; decide) (by rw [hR]; decide) (Nat.le_of_ble_eq_true rfl) dM_soundOf_42 ?_
        refine wm_istore (lv' := [(4, vI x42), (0, vR (some b)), (1, vI v1), (2, vI v2), (3, vI v3)]) E dM_soundOf_45 (by decide) rfl ?_
        refine wm_iload E dM_soundOf_47 (j := 0) rfl ?_
        refine wm_if_eq (tgt := 82) E dM_soundOf_49 (by decide) (fun c49 => ?_) (fun c49 => ?_)
        · have h := (if_pos c49).symm.trans h
          refine wm_pick (lv' := [(0, vR (some b)), (1, vI v1), (2, vI v2), (3, vI v3)]) [1, 2, 3, 4] rfl ?_
          exact rw_M_soundOf_82 E hQ hR hI (fun v1 v2 v3 => RB_M_soundOf_23 ρ n v1 v2 v3) ih v1 v2 v3 h
        · have h := (if_neg c49).symm.trans h
          refine wm_iload E dM_soundOf_52 (j := 0) rfl ?_
          refine wm_aload_n E dM_soundOf_54 rfl (j := 1) rfl ?_
          refine wm_rget (v := vR (some (b + 34))) E fd_M_110 rfl dM_soundOf_55 ?_
          refine wm_iload_n E dM_soundOf_58 rfl (j := 4) rfl ?_
          refine wm_iconst (x := 1) E dM_soundOf_59 (by decide) ?_
          refine wm_isub E dM_soundOf_60 ?_
          refine wm_riald E (by decide) rfl rfl (by decide) (by decide) h dM_soundOf_61 (fun x61 h => ?_)
          obtain ⟨x62, hc62, h⟩ := b1S h
          refine wm_cS (As := [vI x61]) (st := [vI x42]) E lk_M_185 sc_M_classOf (RC_M_classOf (xl X) X.1 x61 _ _ hc62) rfl rfl (by rw [hR]; decide) (by rw [hR]; decide) (Nat.le_of_ble_eq_true rfl) dM_soundOf_62 ?_
          refine wm_icmp_ne (tgt := 71) E dM_soundOf_65 (by decide) (fun c65 => ?_) (fun c65 => ?_)
          · have h := (if_neg c65).symm.trans h
            refine wm_iload_n E dM_soundOf_71 rfl (j := 2) rfl ?_
            refine wm_bipush (x := 32) E dM_soundOf_72 (by decide) ?_
            refine wm_imul E dM_soundOf_74 ?_
            refine wm_iload E dM_soundOf_75 (j := 0) rfl ?_
            refine wm_iadd E dM_soundOf_77 ?_
            refine wm_letI h (fun x78 h => ?_)
            refine wm_istore_n (lv' := [(1, vI x78), (4, vI x42), (0, vR (some b)), (2, vI v2), (3, vI v3)]) E dM_soundOf_78 rfl (by decide) rfl ?_
            refine wm_iinc (lv' := [(2, vI (v2 + 1)), (1, vI x78), (4, vI x42), (0, vR (some b)), (3, vI v3)]) (d := 1) E dM_soundOf_79 (by decide) (j := 3) rfl (by decide) rfl ?_
            refine wm_pick (lv' := [(0, vR (some b)), (1, vI x78), (2, vI (v2 + 1)), (3, vI v3)]) [3, 1, 0, 4] rfl ?_
            exact rw_M_soundOf_82 E hQ hR hI (fun v1 v2 v3 => RB_M_soundOf_23 ρ n v1 v2 v3) ih x78 (v2 + 1) v3 h
          · have h := (if_pos c65).symm.trans h
            refine wm_goto (tgt := 82) E dM_soundOf_68 (by decide) ?_
            refine wm_pick (lv' := [(0, vR (some b)), (1, vI v1), (2, vI v2), (3, vI v3)]) [1, 2, 3, 4] rfl ?_
            exact rw_M_soundOf_82 E hQ hR hI (fun v1 v2 v3 => RB_M_soundOf_23 ρ n v1 v2 v3) ih v1 v2 v3 h
def R_M_soundOf  (ρ : RS) : Option Int32 := if (ri ρ 38) = 0 then some (0) else b1 (rgI ρ 39 10 0) (fun x14 => b0 (x14 - 96) (fun x18 => RB_M_soundOf_23 ρ fu x18 1 1))
set_option maxHeartbeats 4000000 in
set_option maxRecDepth 100000 in
theorem RC_M_soundOf (l : Launch) (G : GG) (b : Nat) (ρ : RS) (μ : Mem)  (r : Int32) (h : R_M_soundOf  ρ = some r) : CT l G y_M_soundOf prog_13_method_24_code 5 (some .int) 1 0 0 20 (ov b ρ μ) [vR (some b)] (some (vI r)) (ov b ρ μ) := by
  refine wm_met (lv := [(0, vR (some b))]) (by decide +kernel) (Nat.le_of_ble_eq_true rfl) rfl (fun X E hQ hR hI => ?_)
  have h : (if (ri ρ 38) = 0 then some (0) else b1 (rgI ρ 39 10 0) (fun x14 => b0 (x14 - 96) (fun x18 => RB_M_soundOf_23 ρ fu x18 1 1))) = some r := h
  refine wm_aload_n E dM_soundOf_0 rfl (j := 0) rfl ?_
  refine wm_rget (v := vI (ri ρ 38)) E fd_M_179 rfl dM_soundOf_1 ?_
  refine wm_if_ne (tgt := 9) E dM_soundOf_4 (by decide) (fun c4 => ?_) (fun c4 => ?_)
  · have h := (if_neg c4).symm.trans h
    refine wm_aload_n E dM_soundOf_9 rfl (j := 0) rfl ?_
    refine wm_rget (v := vR (some (b + 34))) E fd_M_110 rfl dM_soundOf_10 ?_
    refine wm_iconst (x := 0) E dM_soundOf_13 (by decide) ?_
    refine wm_riald E (by decide) rfl rfl (by decide) (by decide) h dM_soundOf_14 (fun x14 h => ?_)
    refine wm_bipush (x := 96) E dM_soundOf_15 (by decide) ?_
    refine wm_isub E dM_soundOf_17 ?_
    refine wm_letI h (fun x18 h => ?_)
    refine wm_istore_n (lv' := [(1, vI x18), (0, vR (some b))]) E dM_soundOf_18 rfl (by decide) rfl ?_
    refine wm_iconst (x := 1) E dM_soundOf_19 (by decide) ?_
    refine wm_istore_n (lv' := [(2, vI 1), (1, vI x18), (0, vR (some b))]) E dM_soundOf_20 rfl (by decide) rfl ?_
    refine wm_iconst (x := 1) E dM_soundOf_21 (by decide) ?_
    refine wm_istore_n (lv' := [(3, vI 1), (2, vI 1), (1, vI x18), (0, vR (some b))]) E dM_soundOf_22 rfl (by decide) rfl ?_
    refine wm_pick (lv' := [(0, vR (some b)), (1, vI x18), (2, vI 1), (3, vI 1)]) [3, 2, 1, 0] rfl ?_
    exact rw_M_soundOf_23 E hQ hR hI fu x18 1 1 h
  · have h := (if_pos c4).symm.trans h
    refine wm_iconst (x := 0) E dM_soundOf_7 (by decide) ?_
    exact wm_iret (rt := .int) E hQ (rqI0 h) rfl (by decide) (by decide) dM_soundOf_8
def R_M_sound  (ρ : RS) : Option (Int32 × RS) := b0 (rpI ρ 0 0) (fun ρ2 => c2 (R_M_foldTyped  (ρ2)) (fun x6 ρ6 => b1 (R_M_soundOf  (ρ6)) (fun x10 => some (x10, ρ6))))
set_option maxHeartbeats 4000000 in
set_option maxRecDepth 100000 in
theorem RC_M_sound (l : Launch) (G : GG) (b : Nat) (ρ : RS) (μ : Mem) (hW : mW μ ≤ b)  (r : Int32) (ρ' : RS) (h : R_M_sound  ρ = some (r, ρ')) : CT l G y_M_sound prog_13_method_25_code 1 (some .int) 3 0 0 67 (ov b ρ μ) [vR (some b)] (some (vI r)) (ov b ρ' μ) := by
  refine wm_met (lv := [(0, vR (some b))]) (by decide +kernel) (Nat.le_of_ble_eq_true rfl) rfl (fun X E hQ hR hI => ?_)
  have h : (b0 (rpI ρ 0 0) (fun ρ2 => c2 (R_M_foldTyped  (ρ2)) (fun x6 ρ6 => b1 (R_M_soundOf  (ρ6)) (fun x10 => some (x10, ρ6))))) = some (r, ρ') := h
  refine wm_aload_n E dM_sound_0 rfl (j := 0) rfl ?_
  refine wm_iconst (x := 0) E dM_sound_1 (by decide) ?_
  refine wm_rpI E fp_M_132 (fun q => by cases q) rfl (by decide) hW dM_sound_2 ?_
  refine wm_rlet h (fun ρ2 h => ?_)
  refine wm_aload_n E dM_sound_5 rfl (j := 0) rfl ?_
  obtain ⟨x6, ρ6, hc6, h⟩ := c2S h
  refine wm_cV (ci := 12) (As := []) (st := []) E lk_M_188 rfl im_M_foldTyped sl_M_foldTyped (ov_rc _ _ _) (RC_M_foldTyped (xl X) X.1 b (ρ2) μ hW  _ _ hc6) rfl rfl (by rw [hR]; decide) (by rw [hR]; decide) (Nat.le_of_ble_eq_true rfl) dM_sound_6 ?_
  refine wm_aload_n E dM_sound_9 rfl (j := 0) rfl ?_
  obtain ⟨x10, hc10, h⟩ := b1S h
  refine wm_cV (ci := 12) (As := []) (st := []) E lk_M_191 rfl im_M_soundOf sl_M_soundOf (ov_rc _ _ _) (RC_M_soundOf (xl X) X.1 b (ρ6) μ  _ hc10) rfl rfl (by rw [hR]; decide) (by rw [hR]; decide) (Nat.le_of_ble_eq_true rfl) dM_sound_10 ?_
  exact wm_iret (rt := .int) E hQ (rrI h) (rrM h) (by decide) (by decide) dM_sound_13
def RB_M_name_110  : Nat → Int32 → Int32 → RS → Option (Unit × RS)
  | 0, _, _, _ => none
  | n + 1, v4, v5, ρ => if (ri ρ 38) ≤ v5 then b0 (rpI ρ 21 0) (fun ρ147 => some ((), ρ147)) else b1 (rgI ρ 39 10 v5) (fun x137 => b1 (rsI ρ 13 600 ((10 * v4) + v5) x137) (fun ρ138 => (fun v4 v5 ρ => RB_M_name_110 n v4 v5 ρ) v4 (v5 + 1) (ρ138)))
set_option maxHeartbeats 4000000 in
set_option maxRecDepth 100000 in
theorem rw_M_name_110 {X : CX} (E : EV X prog_13_method_26_code 6 "PlaceFinderModel" none) {μ0 μ : Mem} {b : Nat} {r : Unit} {ρ' : RS} (hQ : RQ X 0 0 μ0 none (ov b ρ' μ)) (hR : xR X = { frames := 3, cells := 0, slots := 0, locals := 67 }) (hI : X.2.2.2.2.2.2.2.2.2.2.2.1.name = "name") (hW : mW μ ≤ b)  (n : Nat) : ∀ (v4 : Int32) (v5 : Int32) (ρ : RS) (h : RB_M_name_110  n v4 v5 ρ = some (r, ρ')), WM X 6 110 [(0, vR (some b)), (4, vI v4), (5, vI v5)] [] 0 0 (ov b ρ μ) := by
  induction n with
  | zero => intro v4 v5 ρ h; cases h
  | succ n ih =>
    intro v4 v5 ρ h
    have h : (if (ri ρ 38) ≤ v5 then b0 (rpI ρ 21 0) (fun ρ147 => some ((), ρ147)) else b1 (rgI ρ 39 10 v5) (fun x137 => b1 (rsI ρ 13 600 ((10 * v4) + v5) x137) (fun ρ138 => (fun v4 v5 ρ => RB_M_name_110 n v4 v5 ρ) v4 (v5 + 1) (ρ138)))) = some (r, ρ') := h
    refine wm_iload E dM_name_110 (j := 2) rfl ?_
    refine wm_aload_n E dM_name_112 rfl (j := 0) rfl ?_
    refine wm_rget (v := vI (ri ρ 38)) E fd_M_179 rfl dM_name_113 ?_
    refine wm_icmp_ge (tgt := 145) E dM_name_116 (by decide) (fun c116 => ?_) (fun c116 => ?_)
    · have h := (if_pos c116).symm.trans h
      refine wm_aload_n E dM_name_145 rfl (j := 0) rfl ?_
      refine wm_iconst (x := 0) E dM_name_146 (by decide) ?_
      refine wm_rpI E fp_M_172 (fun q => by cases q) rfl (by decide) hW dM_name_147 ?_
      refine wm_rlet h (fun ρ147 h => ?_)
      exact wm_vret E hQ rfl (rrM h) (by decide) (by decide) dM_name_150
    · have h := (if_neg c116).symm.trans h
      refine wm_aload_n E dM_name_119 rfl (j := 0) rfl ?_
      refine wm_rget (v := vR (some (b + 12))) E fd_M_43 rfl dM_name_120 ?_
      refine wm_bipush (x := 10) E dM_name_123 (by decide) ?_
      refine wm_iload E dM_name_125 (j := 1) rfl ?_
      refine wm_imul E dM_name_127 ?_
      refine wm_iload E dM_name_128 (j := 2) rfl ?_
      refine wm_iadd E dM_name_130 ?_
      refine wm_aload_n E dM_name_131 rfl (j := 0) rfl ?_
      refine wm_rget (v := vR (some (b + 34))) E fd_M_110 rfl dM_name_132 ?_
      refine wm_iload E dM_name_135 (j := 2) rfl ?_
      refine wm_riald E (by decide) rfl rfl (by decide) (by decide) h dM_name_137 (fun x137 h => ?_)
      refine wm_riast E (by decide) rfl rfl (by decide) (by decide) hW h dM_name_138 (fun ρ138 h => ?_)
      refine wm_iinc (lv' := [(5, vI (v5 + 1)), (0, vR (some b)), (4, vI v4)]) (d := 1) E dM_name_139 (by decide) (j := 2) rfl (by decide) rfl ?_
      refine wm_goto (tgt := 110) E dM_name_142 (by decide) ?_
      refine wm_pick (lv' := [(0, vR (some b)), (4, vI v4), (5, vI (v5 + 1))]) [1, 2, 0] rfl ?_
      exact ih v4 (v5 + 1) (ρ138) h
def RB_M_name_43  (v1 : Int32) (v2 : Int32) (v3 : Int32) (s1 : Int32) (ρ : RS) : Option (Unit × RS) := b0 (rpI ρ 0 s1) (fun ρ43 => if (ri ρ43 0) ≤ 0 then b1 (rgI ρ43 9 30 v1) (fun x62 => b0 ((2 * v1) + x62) (fun x64 => b1 (rgI ρ43 9 30 v1) (fun x72 => b1 (rsI ρ43 9 30 v1 (x72 + 1)) (fun ρ75 => c2 (R_M_foldTyped  (ρ75)) (fun x77 ρ77 => b1 (rsI ρ77 10 60 x64 v2) (fun ρ87 => b1 (rsI ρ87 11 60 x64 v3) (fun ρ95 => b1 (rsI ρ95 12 60 x64 (ri ρ95 38)) (fun ρ106 => RB_M_name_110 fu x64 0 (ρ106))))))))) else some ((), ρ43))
set_option maxHeartbeats 4000000 in
set_option maxRecDepth 100000 in
theorem rw_M_name_43 {X : CX} (E : EV X prog_13_method_26_code 6 "PlaceFinderModel" none) {μ0 μ : Mem} {b : Nat} {r : Unit} {ρ' : RS} (hQ : RQ X 0 0 μ0 none (ov b ρ' μ)) (hR : xR X = { frames := 3, cells := 0, slots := 0, locals := 67 }) (hI : X.2.2.2.2.2.2.2.2.2.2.2.1.name = "name") (hW : mW μ ≤ b)  (v1 : Int32) (v2 : Int32) (v3 : Int32) (s1 : Int32) (ρ : RS) (h : RB_M_name_43  v1 v2 v3 s1 ρ = some (r, ρ')) : WM X 6 43 [(0, vR (some b)), (1, vI v1), (2, vI v2), (3, vI v3)] [vI s1, vR (some b)] 0 0 (ov b ρ μ) := by
  have h : (b0 (rpI ρ 0 s1) (fun ρ43 => if (ri ρ43 0) ≤ 0 then b1 (rgI ρ43 9 30 v1) (fun x62 => b0 ((2 * v1) + x62) (fun x64 => b1 (rgI ρ43 9 30 v1) (fun x72 => b1 (rsI ρ43 9 30 v1 (x72 + 1)) (fun ρ75 => c2 (R_M_foldTyped  (ρ75)) (fun x77 ρ77 => b1 (rsI ρ77 10 60 x64 v2) (fun ρ87 => b1 (rsI ρ87 11 60 x64 v3) (fun ρ95 => b1 (rsI ρ95 12 60 x64 (ri ρ95 38)) (fun ρ106 => RB_M_name_110 fu x64 0 (ρ106))))))))) else some ((), ρ43))) = some (r, ρ') := h
  refine wm_rpI E fp_M_132 (fun q => by cases q) rfl (by decide) hW dM_name_43 ?_
  refine wm_rlet h (fun ρ43 h => ?_)
  refine wm_aload_n E dM_name_46 rfl (j := 0) rfl ?_
  refine wm_rget (v := vI (ri ρ43 0)) E fd_M_132 rfl dM_name_47 ?_
  refine wm_if_le (tgt := 54) E dM_name_50 (by decide) (fun c50 => ?_) (fun c50 => ?_)
  · have h := (if_pos c50).symm.trans h
    refine wm_iconst (x := 2) E dM_name_54 (by decide) ?_
    refine wm_iload_n E dM_name_55 rfl (j := 1) rfl ?_
    refine wm_imul E dM_name_56 ?_
    refine wm_aload_n E dM_name_57 rfl (j := 0) rfl ?_
    refine wm_rget (v := vR (some (b + 8))) E fd_M_31 rfl dM_name_58 ?_
    refine wm_iload_n E dM_name_61 rfl (j := 1) rfl ?_
    refine wm_riald E (by decide) rfl rfl (by decide) (by decide) h dM_name_62 (fun x62 h => ?_)
    refine wm_iadd E dM_name_63 ?_
    refine wm_letI h (fun x64 h => ?_)
    refine wm_istore (lv' := [(4, vI x64), (0, vR (some b)), (1, vI v1), (2, vI v2), (3, vI v3)]) E dM_name_64 (by decide) rfl ?_
    refine wm_aload_n E dM_name_66 rfl (j := 1) rfl ?_
    refine wm_rget (v := vR (some (b + 8))) E fd_M_31 rfl dM_name_67 ?_
    refine wm_iload_n E dM_name_70 rfl (j := 2) rfl ?_
    refine wm_dup2_11 E dM_name_71 rfl rfl ?_
    refine wm_riald E (by decide) rfl rfl (by decide) (by decide) h dM_name_72 (fun x72 h => ?_)
    refine wm_iconst (x := 1) E dM_name_73 (by decide) ?_
    refine wm_iadd E dM_name_74 ?_
    refine wm_riast E (by decide) rfl rfl (by decide) (by decide) hW h dM_name_75 (fun ρ75 h => ?_)
    refine wm_aload_n E dM_name_76 rfl (j := 1) rfl ?_
    obtain ⟨x77, ρ77, hc77, h⟩ := c2S h
    refine wm_cV (ci := 12) (As := []) (st := []) E lk_M_188 rfl im_M_foldTyped sl_M_foldTyped (ov_rc _ _ _) (RC_M_foldTyped (xl X) X.1 b (ρ75) μ hW  _ _ hc77) rfl rfl (by rw [hR]; decide) (by rw [hR]; decide) (Nat.le_of_ble_eq_true rfl) dM_name_77 ?_
    refine wm_aload_n E dM_name_80 rfl (j := 1) rfl ?_
    refine wm_rget (v := vR (some (b + 9))) E fd_M_34 rfl dM_name_81 ?_
    refine wm_iload E dM_name_84 (j := 0) rfl ?_
    refine wm_iload_n E dM_name_86 rfl (j := 3) rfl ?_
    refine wm_riast E (by decide) rfl rfl (by decide) (by decide) hW h dM_name_87 (fun ρ87 h => ?_)
    refine wm_aload_n E dM_name_88 rfl (j := 1) rfl ?_
    refine wm_rget (v := vR (some (b + 10))) E fd_M_37 rfl dM_name_89 ?_
    refine wm_iload E dM_name_92 (j := 0) rfl ?_
    refine wm_iload_n E dM_name_94 rfl (j := 4) rfl ?_
    refine wm_riast E (by decide) rfl rfl (by decide) (by decide) hW h dM_name_95 (fun ρ95 h => ?_)
    refine wm_aload_n E dM_name_96 rfl (j := 1) rfl ?_
    refine wm_rget (v := vR (some (b + 11))) E fd_M_40 rfl dM_name_97 ?_
    refine wm_iload E dM_name_100 (j := 0) rfl ?_
    refine wm_aload_n E dM_name_102 rfl (j := 1) rfl ?_
    refine wm_rget (v := vI (ri ρ95 38)) E fd_M_179 rfl dM_name_103 ?_
    refine wm_riast E (by decide) rfl rfl (by decide) (by decide) hW h dM_name_106 (fun ρ106 h => ?_)
    refine wm_iconst (x := 0) E dM_name_107 (by decide) ?_
    refine wm_istore (lv' := [(5, vI 0), (4, vI x64), (0, vR (some b)), (1, vI v1), (2, vI v2), (3, vI v3)]) E dM_name_108 (by decide) rfl ?_
    refine wm_pick (lv' := [(0, vR (some b)), (4, vI x64), (5, vI 0)]) [2, 1, 0] rfl ?_
    exact rw_M_name_110 E hQ hR hI hW fu x64 0 (ρ106) h
  · have h := (if_neg c50).symm.trans h
    exact wm_vret E hQ rfl (rrM h) (by decide) (by decide) dM_name_53
def RB_M_name_24  (v1 : Int32) (v2 : Int32) (v3 : Int32) (ρ : RS) : Option (Unit × RS) := RB_M_name_43 v1 v2 v3 1 (ρ)
set_option maxHeartbeats 4000000 in
set_option maxRecDepth 100000 in
theorem rw_M_name_24 {X : CX} (E : EV X prog_13_method_26_code 6 "PlaceFinderModel" none) {μ0 μ : Mem} {b : Nat} {r : Unit} {ρ' : RS} (hQ : RQ X 0 0 μ0 none (ov b ρ' μ)) (hR : xR X = { frames := 3, cells := 0, slots := 0, locals := 67 }) (hI : X.2.2.2.2.2.2.2.2.2.2.2.1.name = "name") (hW : mW μ ≤ b)  (v1 : Int32) (v2 : Int32) (v3 : Int32) (ρ : RS) (h : RB_M_name_24  v1 v2 v3 ρ = some (r, ρ')) : WM X 6 24 [(0, vR (some b)), (1, vI v1), (2, vI v2), (3, vI v3)] [vR (some b)] 0 0 (ov b ρ μ) := by
  have h : (RB_M_name_43 v1 v2 v3 1 (ρ)) = some (r, ρ') := h
  refine wm_iconst (x := 1) E dM_name_24 (by decide) ?_
  refine wm_goto (tgt := 43) E dM_name_25 (by decide) ?_
  refine wm_pick (lv' := [(0, vR (some b)), (1, vI v1), (2, vI v2), (3, vI v3)]) [0, 1, 2, 3] rfl ?_
  exact rw_M_name_43 E hQ hR hI hW v1 v2 v3 1 (ρ) h
def R_M_name (v1 : Int32) (v2 : Int32) (v3 : Int32) (ρ : RS) : Option (Unit × RS) := b1 (R_M_isPlace v1 (ρ)) (fun x3 => if x3 = 0 then RB_M_name_24 v1 v2 v3 (ρ) else b1 (R_M_isSpan v2 v3) (fun x11 => if x11 = 0 then RB_M_name_24 v1 v2 v3 (ρ) else if (ri ρ 21) = 0 then RB_M_name_24 v1 v2 v3 (ρ) else b1 (rgI ρ 9 30 v1) (fun x33 => if x33 = 2 then RB_M_name_43 v1 v2 v3 2 (ρ) else RB_M_name_43 v1 v2 v3 0 (ρ))))
set_option maxHeartbeats 4000000 in
set_option maxRecDepth 100000 in
theorem RC_M_name (l : Launch) (G : GG) (b : Nat) (ρ : RS) (μ : Mem) (hW : mW μ ≤ b) (v1 : Int32) (v2 : Int32) (v3 : Int32) (r : Unit) (ρ' : RS) (h : R_M_name v1 v2 v3 ρ = some (r, ρ')) : CT l G y_M_name prog_13_method_26_code 6 none 3 0 0 67 (ov b ρ μ) [vR (some b), vI v1, vI v2, vI v3] none (ov b ρ' μ) := by
  refine wm_met (lv := [(0, vR (some b)), (1, vI v1), (2, vI v2), (3, vI v3)]) (by decide +kernel) (Nat.le_of_ble_eq_true rfl) rfl (fun X E hQ hR hI => ?_)
  have h : (b1 (R_M_isPlace v1 (ρ)) (fun x3 => if x3 = 0 then RB_M_name_24 v1 v2 v3 (ρ) else b1 (R_M_isSpan v2 v3) (fun x11 => if x11 = 0 then RB_M_name_24 v1 v2 v3 (ρ) else if (ri ρ 21) = 0 then RB_M_name_24 v1 v2 v3 (ρ) else b1 (rgI ρ 9 30 v1) (fun x33 => if x33 = 2 then RB_M_name_43 v1 v2 v3 2 (ρ) else RB_M_name_43 v1 v2 v3 0 (ρ))))) = some (r, ρ') := h
  refine wm_aload_n E dM_name_0 rfl (j := 0) rfl ?_
  refine wm_aload_n E dM_name_1 rfl (j := 0) rfl ?_
  refine wm_iload_n E dM_name_2 rfl (j := 1) rfl ?_
  obtain ⟨x3, hc3, h⟩ := b1S h
  refine wm_cV (ci := 12) (As := [vI v1]) (st := [vR (some b)]) E lk_M_154 rfl im_M_isPlace sl_M_isPlace (ov_rc _ _ _) (RC_M_isPlace (xl X) X.1 b (ρ) μ v1 _ hc3) rfl rfl (by rw [hR]; decide) (by rw [hR]; decide) (Nat.le_of_ble_eq_true rfl) dM_name_3 ?_
  refine wm_if_eq (tgt := 24) E dM_name_6 (by decide) (fun c6 => ?_) (fun c6 => ?_)
  · have h := (if_pos c6).symm.trans h
    refine wm_pick (lv' := [(0, vR (some b)), (1, vI v1), (2, vI v2), (3, vI v3)]) [0, 1, 2, 3] rfl ?_
    exact rw_M_name_24 E hQ hR hI hW v1 v2 v3 (ρ) h
  · have h := (if_neg c6).symm.trans h
    refine wm_iload_n E dM_name_9 rfl (j := 2) rfl ?_
    refine wm_iload_n E dM_name_10 rfl (j := 3) rfl ?_
    obtain ⟨x11, hc11, h⟩ := b1S h
    refine wm_cS (As := [vI v2, vI v3]) (st := [vR (some b)]) E lk_M_195 sc_M_isSpan (RC_M_isSpan (xl X) X.1 v2 v3 _ _ hc11) rfl rfl (by rw [hR]; decide) (by rw [hR]; decide) (Nat.le_of_ble_eq_true rfl) dM_name_11 ?_
    refine wm_if_eq (tgt := 24) E dM_name_14 (by decide) (fun c14 => ?_) (fun c14 => ?_)
    · have h := (if_pos c14).symm.trans h
      refine wm_pick (lv' := [(0, vR (some b)), (1, vI v1), (2, vI v2), (3, vI v3)]) [0, 1, 2, 3] rfl ?_
      exact rw_M_name_24 E hQ hR hI hW v1 v2 v3 (ρ) h
    · have h := (if_neg c14).symm.trans h
      refine wm_aload_n E dM_name_17 rfl (j := 0) rfl ?_
      refine wm_rget (v := vI (ri ρ 21)) E fd_M_172 rfl dM_name_18 ?_
      refine wm_if_ne (tgt := 28) E dM_name_21 (by decide) (fun c21 => ?_) (fun c21 => ?_)
      · have h := (if_neg c21).symm.trans h
        refine wm_aload_n E dM_name_28 rfl (j := 0) rfl ?_
        refine wm_rget (v := vR (some (b + 8))) E fd_M_31 rfl dM_name_29 ?_
        refine wm_iload_n E dM_name_32 rfl (j := 1) rfl ?_
        refine wm_riald E (by decide) rfl rfl (by decide) (by decide) h dM_name_33 (fun x33 h => ?_)
        refine wm_iconst (x := 2) E dM_name_34 (by decide) ?_
        refine wm_icmp_ne (tgt := 42) E dM_name_35 (by decide) (fun c35 => ?_) (fun c35 => ?_)
        · have h := (if_neg c35).symm.trans h
          refine wm_iconst (x := 0) E dM_name_42 (by decide) ?_
          refine wm_pick (lv' := [(0, vR (some b)), (1, vI v1), (2, vI v2), (3, vI v3)]) [0, 1, 2, 3] rfl ?_
          exact rw_M_name_43 E hQ hR hI hW v1 v2 v3 0 (ρ) h
        · have h := (if_pos c35).symm.trans h
          refine wm_iconst (x := 2) E dM_name_38 (by decide) ?_
          refine wm_goto (tgt := 43) E dM_name_39 (by decide) ?_
          refine wm_pick (lv' := [(0, vR (some b)), (1, vI v1), (2, vI v2), (3, vI v3)]) [0, 1, 2, 3] rfl ?_
          exact rw_M_name_43 E hQ hR hI hW v1 v2 v3 2 (ρ) h
      · have h := (if_pos c21).symm.trans h
        refine wm_pick (lv' := [(0, vR (some b)), (1, vI v1), (2, vI v2), (3, vI v3)]) [0, 1, 2, 3] rfl ?_
        exact rw_M_name_24 E hQ hR hI hW v1 v2 v3 (ρ) h
def RB_M_errorsTo_275 (v1 : Nat) (k3 : Int32 → Int32 → Int32 → RS → Option (Int32 × RS)) (k15 : Int32 → Int32 → Int32 → Int32 → RS → Option (Int32 × RS)) (v2 : Int32) (v3 : Int32) (v4 : Int32) (v5 : Int32) (v6 : Int32) (ρ : RS) : Option (Int32 × RS) := b1 (rsI ρ 40 121 ((11 * v4) + v5) v6) (fun ρ289 => k15 v2 v3 v4 (v5 + 1) (ρ289))
set_option maxHeartbeats 4000000 in
set_option maxRecDepth 100000 in
theorem rw_M_errorsTo_275 {X : CX} {v1 : Nat} (E : EV X prog_13_method_27_code 9 "PlaceFinderModel" (some .int)) {μ0 μ : Mem} {b : Nat} {r : Int32} {ρ' : RS} (hQ : RQ X 0 0 μ0 (some (vI r)) (ov b ρ' μ)) (hR : xR X = { frames := 0, cells := 0, slots := 0, locals := 0 }) (hI : X.2.2.2.2.2.2.2.2.2.2.2.1.name = "errorsTo") (hW : mW μ ≤ b) (ha : v1 = 13 ∨ v1 = 29) (k3 : Int32 → Int32 → Int32 → RS → Option (Int32 × RS)) (hk3 : ∀ (v2 : Int32) (v3 : Int32) (v4 : Int32) (ρ : RS), k3 v2 v3 v4 ρ = some (r, ρ') → WM X 9 3 [(0, vR (some b)), (1, vR (some (b + roff v1))), (2, vI v2), (3, vI v3), (4, vI v4)] [] 0 0 (ov b ρ μ)) (k15 : Int32 → Int32 → Int32 → Int32 → RS → Option (Int32 × RS)) (hk15 : ∀ (v2 : Int32) (v3 : Int32) (v4 : Int32) (v5 : Int32) (ρ : RS), k15 v2 v3 v4 v5 ρ = some (r, ρ') → WM X 9 15 [(0, vR (some b)), (1, vR (some (b + roff v1))), (2, vI v2), (3, vI v3), (4, vI v4), (5, vI v5)] [] 0 0 (ov b ρ μ)) (v2 : Int32) (v3 : Int32) (v4 : Int32) (v5 : Int32) (v6 : Int32) (ρ : RS) (h : RB_M_errorsTo_275 v1 k3 k15 v2 v3 v4 v5 v6 ρ = some (r, ρ')) : WM X 9 275 [(0, vR (some b)), (1, vR (some (b + roff v1))), (2, vI v2), (3, vI v3), (4, vI v4), (5, vI v5), (6, vI v6)] [] 0 0 (ov b ρ μ) := by
  have h : (b1 (rsI ρ 40 121 ((11 * v4) + v5) v6) (fun ρ289 => k15 v2 v3 v4 (v5 + 1) (ρ289))) = some (r, ρ') := h
  refine wm_aload_n E dM_errorsTo_275 rfl (j := 0) rfl ?_
  refine wm_rget (v := vR (some (b + 35))) E fd_M_113 rfl dM_errorsTo_276 ?_
  refine wm_bipush (x := 11) E dM_errorsTo_279 (by decide) ?_
  refine wm_iload E dM_errorsTo_281 (j := 4) rfl ?_
  refine wm_imul E dM_errorsTo_283 ?_
  refine wm_iload E dM_errorsTo_284 (j := 5) rfl ?_
  refine wm_iadd E dM_errorsTo_286 ?_
  refine wm_iload E dM_errorsTo_287 (j := 6) rfl ?_
  refine wm_riast E (by decide) rfl rfl (by decide) (by decide) hW h dM_errorsTo_289 (fun ρ289 h => ?_)
  refine wm_iinc (lv' := [(5, vI (v5 + 1)), (0, vR (some b)), (1, vR (some (b + roff v1))), (2, vI v2), (3, vI v3), (4, vI v4), (6, vI v6)]) (d := 1) E dM_errorsTo_290 (by decide) (j := 5) rfl (by decide) rfl ?_
  refine wm_goto (tgt := 15) E dM_errorsTo_293 (by decide) ?_
  refine wm_pick (lv' := [(0, vR (some b)), (1, vR (some (b + roff v1))), (2, vI v2), (3, vI v3), (4, vI v4), (5, vI (v5 + 1))]) [1, 2, 3, 4, 5, 0] rfl ?_
  exact hk15 v2 v3 v4 (v5 + 1) (ρ289) h
def RB_M_errorsTo_223 (v1 : Nat) (k3 : Int32 → Int32 → Int32 → RS → Option (Int32 × RS)) (k15 : Int32 → Int32 → Int32 → Int32 → RS → Option (Int32 × RS)) (v2 : Int32) (v3 : Int32) (v4 : Int32) (v5 : Int32) (v6 : Int32) (s0 : Int32) (ρ : RS) : Option (Int32 × RS) := if s0 = 0 then RB_M_errorsTo_275 v1 k3 k15 v2 v3 v4 v5 v6 (ρ) else b1 (rgI ρ 40 121 (((11 * (v4 - 2)) + v5) - 2)) (fun x246 => if v6 ≤ (x246 + 1) then RB_M_errorsTo_275 v1 k3 k15 v2 v3 v4 v5 v6 (ρ) else b1 (rgI ρ 40 121 (((11 * (v4 - 2)) + v5) - 2)) (fun x270 => b0 (x270 + 1) (fun x273 => RB_M_errorsTo_275 v1 k3 k15 v2 v3 v4 v5 x273 (ρ))))
set_option maxHeartbeats 4000000 in
set_option maxRecDepth 100000 in
theorem rw_M_errorsTo_223 {X : CX} {v1 : Nat} (E : EV X prog_13_method_27_code 9 "PlaceFinderModel" (some .int)) {μ0 μ : Mem} {b : Nat} {r : Int32} {ρ' : RS} (hQ : RQ X 0 0 μ0 (some (vI r)) (ov b ρ' μ)) (hR : xR X = { frames := 0, cells := 0, slots := 0, locals := 0 }) (hI : X.2.2.2.2.2.2.2.2.2.2.2.1.name = "errorsTo") (hW : mW μ ≤ b) (ha : v1 = 13 ∨ v1 = 29) (k3 : Int32 → Int32 → Int32 → RS → Option (Int32 × RS)) (hk3 : ∀ (v2 : Int32) (v3 : Int32) (v4 : Int32) (ρ : RS), k3 v2 v3 v4 ρ = some (r, ρ') → WM X 9 3 [(0, vR (some b)), (1, vR (some (b + roff v1))), (2, vI v2), (3, vI v3), (4, vI v4)] [] 0 0 (ov b ρ μ)) (k15 : Int32 → Int32 → Int32 → Int32 → RS → Option (Int32 × RS)) (hk15 : ∀ (v2 : Int32) (v3 : Int32) (v4 : Int32) (v5 : Int32) (ρ : RS), k15 v2 v3 v4 v5 ρ = some (r, ρ') → WM X 9 15 [(0, vR (some b)), (1, vR (some (b + roff v1))), (2, vI v2), (3, vI v3), (4, vI v4), (5, vI v5)] [] 0 0 (ov b ρ μ)) (v2 : Int32) (v3 : Int32) (v4 : Int32) (v5 : Int32) (v6 : Int32) (s0 : Int32) (ρ : RS) (h : RB_M_errorsTo_223 v1 k3 k15 v2 v3 v4 v5 v6 s0 ρ = some (r, ρ')) : WM X 9 223 [(0, vR (some b)), (1, vR (some (b + roff v1))), (2, vI v2), (3, vI v3), (4, vI v4), (5, vI v5), (6, vI v6)] [vI s0] 0 0 (ov b ρ μ) := by
  have h : (if s0 = 0 then RB_M_errorsTo_275 v1 k3 k15 v2 v3 v4 v5 v6 (ρ) else b1 (rgI ρ 40 121 (((11 * (v4 - 2)) + v5) - 2)) (fun x246 => if v6 ≤ (x246 + 1) then RB_M_errorsTo_275 v1 k3 k15 v2 v3 v4 v5 v6 (ρ) else b1 (rgI ρ 40 121 (((11 * (v4 - 2)) + v5) - 2)) (fun x270 => b0 (x270 + 1) (fun x273 => RB_M_errorsTo_275 v1 k3 k15 v2 v3 v4 v5 x273 (ρ))))) = some (r, ρ') := h
  refine wm_istore (lv' := [(7, vI s0), (0, vR (some b)), (1, vR (some (b + roff v1))), (2, vI v2), (3, vI v3), (4, vI v4), (5, vI v5), (6, vI v6)]) E dM_errorsTo_223 (by decide) rfl ?_
  refine wm_iload E dM_errorsTo_225 (j := 0) rfl ?_
  refine wm_if_eq (tgt := 275) E dM_errorsTo_227 (by decide) (fun c227 => ?_) (fun c227 => ?_)
  · have h := (if_pos c227).symm.trans h
    refine wm_pick (lv' := [(0, vR (some b)), (1, vR (some (b + roff v1))), (2, vI v2), (3, vI v3), (4, vI v4), (5, vI v5), (6, vI v6)]) [1, 2, 3, 4, 5, 6, 7] rfl ?_
    exact rw_M_errorsTo_275 E hQ hR hI hW ha k3 hk3 k15 hk15 v2 v3 v4 v5 v6 (ρ) h
  · have h := (if_neg c227).symm.trans h
    refine wm_aload_n E dM_errorsTo_230 rfl (j := 1) rfl ?_
    refine wm_rget (v := vR (some (b + 35))) E fd_M_113 rfl dM_errorsTo_231 ?_
    refine wm_bipush (x := 11) E dM_errorsTo_234 (by decide) ?_
    refine wm_iload E dM_errorsTo_236 (j := 5) rfl ?_
    refine wm_iconst (x := 2) E dM_errorsTo_238 (by decide) ?_
    refine wm_isub E dM_errorsTo_239 ?_
    refine wm_imul E dM_errorsTo_240 ?_
    refine wm_iload E dM_errorsTo_241 (j := 6) rfl ?_
    refine wm_iadd E dM_errorsTo_243 ?_
    refine wm_iconst (x := 2) E dM_errorsTo_244 (by decide) ?_
    refine wm_isub E dM_errorsTo_245 ?_
    refine wm_riald E (by decide) rfl rfl (by decide) (by decide) h dM_errorsTo_246 (fun x246 h => ?_)
    refine wm_iconst (x := 1) E dM_errorsTo_247 (by decide) ?_
    refine wm_iadd E dM_errorsTo_248 ?_
    refine wm_iload E dM_errorsTo_249 (j := 7) rfl ?_
    refine wm_icmp_ge (tgt := 275) E dM_errorsTo_251 (by decide) (fun c251 => ?_) (fun c251 => ?_)
    · have h := (if_pos c251).symm.trans h
      refine wm_pick (lv' := [(0, vR (some b)), (1, vR (some (b + roff v1))), (2, vI v2), (3, vI v3), (4, vI v4), (5, vI v5), (6, vI v6)]) [1, 2, 3, 4, 5, 6, 7] rfl ?_
      exact rw_M_errorsTo_275 E hQ hR hI hW ha k3 hk3 k15 hk15 v2 v3 v4 v5 v6 (ρ) h
    · have h := (if_neg c251).symm.trans h
      refine wm_aload_n E dM_errorsTo_254 rfl (j := 1) rfl ?_
      refine wm_rget (v := vR (some (b + 35))) E fd_M_113 rfl dM_errorsTo_255 ?_
      refine wm_bipush (x := 11) E dM_errorsTo_258 (by decide) ?_
      refine wm_iload E dM_errorsTo_260 (j := 5) rfl ?_
      refine wm_iconst (x := 2) E dM_errorsTo_262 (by decide) ?_
      refine wm_isub E dM_errorsTo_263 ?_
      refine wm_imul E dM_errorsTo_264 ?_
      refine wm_iload E dM_errorsTo_265 (j := 6) rfl ?_
      refine wm_iadd E dM_errorsTo_267 ?_
      refine wm_iconst (x := 2) E dM_errorsTo_268 (by decide) ?_
      refine wm_isub E dM_errorsTo_269 ?_
      refine wm_riald E (by decide) rfl rfl (by decide) (by decide) h dM_errorsTo_270 (fun x270 h => ?_)
      refine wm_iconst (x := 1) E dM_errorsTo_271 (by decide) ?_
      refine wm_iadd E dM_errorsTo_272 ?_
      refine wm_letI h (fun x273 h => ?_)
      refine wm_istore (lv' := [(6, vI x273), (7, vI s0), (0, vR (some b)), (1, vR (some (b + roff v1))), (2, vI v2), (3, vI v3), (4, vI v4), (5, vI v5)]) E dM_errorsTo_273 (by decide) rfl ?_
      refine wm_pick (lv' := [(0, vR (some b)), (1, vR (some (b + roff v1))), (2, vI v2), (3, vI v3), (4, vI v4), (5, vI v5), (6, vI x273)]) [2, 3, 4, 5, 6, 7, 0] rfl ?_
      exact rw_M_errorsTo_275 E hQ hR hI hW ha k3 hk3 k15 hk15 v2 v3 v4 v5 x273 (ρ) h
def RB_M_errorsTo_222 (v1 : Nat) (k3 : Int32 → Int32 → Int32 → RS → Option (Int32 × RS)) (k15 : Int32 → Int32 → Int32 → Int32 → RS → Option (Int32 × RS)) (v2 : Int32) (v3 : Int32) (v4 : Int32) (v5 : Int32) (v6 : Int32) (ρ : RS) : Option (Int32 × RS) := RB_M_errorsTo_223 v1 k3 k15 v2 v3 v4 v5 v6 0 (ρ)
set_option maxHeartbeats 4000000 in
set_option maxRecDepth 100000 in
theorem rw_M_errorsTo_222 {X : CX} {v1 : Nat} (E : EV X prog_13_method_27_code 9 "PlaceFinderModel" (some .int)) {μ0 μ : Mem} {b : Nat} {r : Int32} {ρ' : RS} (hQ : RQ X 0 0 μ0 (some (vI r)) (ov b ρ' μ)) (hR : xR X = { frames := 0, cells := 0, slots := 0, locals := 0 }) (hI : X.2.2.2.2.2.2.2.2.2.2.2.1.name = "errorsTo") (hW : mW μ ≤ b) (ha : v1 = 13 ∨ v1 = 29) (k3 : Int32 → Int32 → Int32 → RS → Option (Int32 × RS)) (hk3 : ∀ (v2 : Int32) (v3 : Int32) (v4 : Int32) (ρ : RS), k3 v2 v3 v4 ρ = some (r, ρ') → WM X 9 3 [(0, vR (some b)), (1, vR (some (b + roff v1))), (2, vI v2), (3, vI v3), (4, vI v4)] [] 0 0 (ov b ρ μ)) (k15 : Int32 → Int32 → Int32 → Int32 → RS → Option (Int32 × RS)) (hk15 : ∀ (v2 : Int32) (v3 : Int32) (v4 : Int32) (v5 : Int32) (ρ : RS), k15 v2 v3 v4 v5 ρ = some (r, ρ') → WM X 9 15 [(0, vR (some b)), (1, vR (some (b + roff v1))), (2, vI v2), (3, vI v3), (4, vI v4), (5, vI v5)] [] 0 0 (ov b ρ μ)) (v2 : Int32) (v3 : Int32) (v4 : Int32) (v5 : Int32) (v6 : Int32) (ρ : RS) (h : RB_M_errorsTo_222 v1 k3 k15 v2 v3 v4 v5 v6 ρ = some (r, ρ')) : WM X 9 222 [(0, vR (some b)), (1, vR (some (b + roff v1))), (2, vI v2), (3, vI v3), (4, vI v4), (5, vI v5), (6, vI v6)] [] 0 0 (ov b ρ μ) := by
  have h : (RB_M_errorsTo_223 v1 k3 k15 v2 v3 v4 v5 v6 0 (ρ)) = some (r, ρ') := h
  refine wm_iconst (x := 0) E dM_errorsTo_222 (by decide) ?_
  refine wm_pick (lv' := [(0, vR (some b)), (1, vR (some (b + roff v1))), (2, vI v2), (3, vI v3), (4, vI v4), (5, vI v5), (6, vI v6)]) [0, 1, 2, 3, 4, 5, 6] rfl ?_
  exact rw_M_errorsTo_223 E hQ hR hI hW ha k3 hk3 k15 hk15 v2 v3 v4 v5 v6 0 (ρ) h
def RB_M_errorsTo_166 (v1 : Nat) (k3 : Int32 → Int32 → Int32 → RS → Option (Int32 × RS)) (k15 : Int32 → Int32 → Int32 → Int32 → RS → Option (Int32 × RS)) (v2 : Int32) (v3 : Int32) (v4 : Int32) (v5 : Int32) (v6 : Int32) (ρ : RS) : Option (Int32 × RS) := if v4 ≤ 1 then RB_M_errorsTo_222 v1 k3 k15 v2 v3 v4 v5 v6 (ρ) else if v5 ≤ 1 then RB_M_errorsTo_222 v1 k3 k15 v2 v3 v4 v5 v6 (ρ) else b1 (rgI ρ 39 10 (v4 - 1)) (fun x186 => b1 (rgI ρ v1 (rlen v1) ((v2 + v5) - 2)) (fun x194 => if x186 = x194 then b1 (rgI ρ 39 10 (v4 - 2)) (fun x206 => b1 (rgI ρ v1 (rlen v1) ((v2 + v5) - 1)) (fun x214 => if x206 = x214 then RB_M_errorsTo_223 v1 k3 k15 v2 v3 v4 v5 v6 1 (ρ) else RB_M_errorsTo_222 v1 k3 k15 v2 v3 v4 v5 v6 (ρ))) else RB_M_errorsTo_222 v1 k3 k15 v2 v3 v4 v5 v6 (ρ)))
set_option maxHeartbeats 4000000 in
set_option maxRecDepth 100000 in
theorem rw_M_errorsTo_166 {X : CX} {v1 : Nat} (E : EV X prog_13_method_27_code 9 "PlaceFinderModel" (some .int)) {μ0 μ : Mem} {b : Nat} {r : Int32} {ρ' : RS} (hQ : RQ X 0 0 μ0 (some (vI r)) (ov b ρ' μ)) (hR : xR X = { frames := 0, cells := 0, slots := 0, locals := 0 }) (hI : X.2.2.2.2.2.2.2.2.2.2.2.1.name = "errorsTo") (hW : mW μ ≤ b) (ha : v1 = 13 ∨ v1 = 29) (k3 : Int32 → Int32 → Int32 → RS → Option (Int32 × RS)) (hk3 : ∀ (v2 : Int32) (v3 : Int32) (v4 : Int32) (ρ : RS), k3 v2 v3 v4 ρ = some (r, ρ') → WM X 9 3 [(0, vR (some b)), (1, vR (some (b + roff v1))), (2, vI v2), (3, vI v3), (4, vI v4)] [] 0 0 (ov b ρ μ)) (k15 : Int32 → Int32 → Int32 → Int32 → RS → Option (Int32 × RS)) (hk15 : ∀ (v2 : Int32) (v3 : Int32) (v4 : Int32) (v5 : Int32) (ρ : RS), k15 v2 v3 v4 v5 ρ = some (r, ρ') → WM X 9 15 [(0, vR (some b)), (1, vR (some (b + roff v1))), (2, vI v2), (3, vI v3), (4, vI v4), (5, vI v5)] [] 0 0 (ov b ρ μ)) (v2 : Int32) (v3 : Int32) (v4 : Int32) (v5 : Int32) (v6 : Int32) (ρ : RS) (h : RB_M_errorsTo_166 v1 k3 k15 v2 v3 v4 v5 v6 ρ = some (r, ρ')) : WM X 9 166 [(0, vR (some b)), (1, vR (some (b + roff v1))), (2, vI v2), (3, vI v3), (4, vI v4), (5, vI v5), (6, vI v6)] [] 0 0 (ov b ρ μ) := by
  have h : (if v4 ≤ 1 then RB_M_errorsTo_222 v1 k3 k15 v2 v3 v4 v5 v6 (ρ) else if v5 ≤ 1 then RB_M_errorsTo_222 v1 k3 k15 v2 v3 v4 v5 v6 (ρ) else b1 (rgI ρ 39 10 (v4 - 1)) (fun x186 => b1 (rgI ρ v1 (rlen v1) ((v2 + v5) - 2)) (fun x194 => if x186 = x194 then b1 (rgI ρ 39 10 (v4 - 2)) (fun x206 => b1 (rgI ρ v1 (rlen v1) ((v2 + v5) - 1)) (fun x214 => if x206 = x214 then RB_M_errorsTo_223 v1 k3 k15 v2 v3 v4 v5 v6 1 (ρ) else RB_M_errorsTo_222 v1 k3 k15 v2 v3 v4 v5 v6 (ρ))) else RB_M_errorsTo_222 v1 k3 k15 v2 v3 v4 v5 v6 (ρ)))) = some (r, ρ') := h
  refine wm_iload E dM_errorsTo_166 (j := 4) rfl ?_
  refine wm_iconst (x := 1) E dM_errorsTo_168 (by decide) ?_
  refine wm_icmp_le (tgt := 222) E dM_errorsTo_169 (by decide) (fun c169 => ?_) (fun c169 => ?_)
  · have h := (if_pos c169).symm.trans h
    refine wm_pick (lv' := [(0, vR (some b)), (1, vR (some (b + roff v1))), (2, vI v2), (3, vI v3), (4, vI v4), (5, vI v5), (6, vI v6)]) [0, 1, 2, 3, 4, 5, 6] rfl ?_
    exact rw_M_errorsTo_222 E hQ hR hI hW ha k3 hk3 k15 hk15 v2 v3 v4 v5 v6 (ρ) h
  · have h := (if_neg c169).symm.trans h
    refine wm_iload E dM_errorsTo_172 (j := 5) rfl ?_
    refine wm_iconst (x := 1) E dM_errorsTo_174 (by decide) ?_
    refine wm_icmp_le (tgt := 222) E dM_errorsTo_175 (by decide) (fun c175 => ?_) (fun c175 => ?_)
    · have h := (if_pos c175).symm.trans h
      refine wm_pick (lv' := [(0, vR (some b)), (1, vR (some (b + roff v1))), (2, vI v2), (3, vI v3), (4, vI v4), (5, vI v5), (6, vI v6)]) [0, 1, 2, 3, 4, 5, 6] rfl ?_
      exact rw_M_errorsTo_222 E hQ hR hI hW ha k3 hk3 k15 hk15 v2 v3 v4 v5 v6 (ρ) h
    · have h := (if_neg c175).symm.trans h
      refine wm_aload_n E dM_errorsTo_178 rfl (j := 0) rfl ?_
      refine wm_rget (v := vR (some (b + 34))) E fd_M_110 rfl dM_errorsTo_179 ?_
      refine wm_iload E dM_errorsTo_182 (j := 4) rfl ?_
      refine wm_iconst (x := 1) E dM_errorsTo_184 (by decide) ?_
      refine wm_isub E dM_errorsTo_185 ?_
      refine wm_riald E (by decide) rfl rfl (by decide) (by decide) h dM_errorsTo_186 (fun x186 h => ?_)
      refine wm_aload_n E dM_errorsTo_187 rfl (j := 1) rfl ?_
      refine wm_iload_n E dM_errorsTo_188 rfl (j := 2) rfl ?_
      refine wm_iload E dM_errorsTo_189 (j := 5) rfl ?_
      refine wm_iadd E dM_errorsTo_191 ?_
      refine wm_iconst (x := 2) E dM_errorsTo_192 (by decide) ?_
      refine wm_isub E dM_errorsTo_193 ?_
      refine wm_riald E (by rcases ha with rfl | rfl <;> decide) (by rcases ha with rfl | rfl <;> rfl) rfl (by rcases ha with rfl | rfl <;> decide) (by rcases ha with rfl | rfl <;> decide) h dM_errorsTo_194 (fun x194 h => ?_)
      refine wm_icmp_ne (tgt := 222) E dM_errorsTo_195 (by decide) (fun c195 => ?_) (fun c195 => ?_)
      · have h := (if_neg c195).symm.trans h
        refine wm_pick (lv' := [(0, vR (some b)), (1, vR (some (b + roff v1))), (2, vI v2), (3, vI v3), (4, vI v4), (5, vI v5), (6, vI v6)]) [0, 1, 2, 3, 4, 5, 6] rfl ?_
        exact rw_M_errorsTo_222 E hQ hR hI hW ha k3 hk3 k15 hk15 v2 v3 v4 v5 v6 (ρ) h
      · have h := (if_pos c195).symm.trans h
        refine wm_aload_n E dM_errorsTo_198 rfl (j := 0) rfl ?_
        refine wm_rget (v := vR (some (b + 34))) E fd_M_110 rfl dM_errorsTo_199 ?_
        refine wm_iload E dM_errorsTo_202 (j := 4) rfl ?_
        refine wm_iconst (x := 2) E dM_errorsTo_204 (by decide) ?_
        refine wm_isub E dM_errorsTo_205 ?_
        refine wm_riald E (by decide) rfl rfl (by decide) (by decide) h dM_errorsTo_206 (fun x206 h => ?_)
        refine wm_aload_n E dM_errorsTo_207 rfl (j := 1) rfl ?_
        refine wm_iload_n E dM_errorsTo_208 rfl (j := 2) rfl ?_
        refine wm_iload E dM_errorsTo_209 (j := 5) rfl ?_
        refine wm_iadd E dM_errorsTo_211 ?_
        refine wm_iconst (x := 1) E dM_errorsTo_212 (by decide) ?_
        refine wm_isub E dM_errorsTo_213 ?_
        refine wm_riald E (by rcases ha with rfl | rfl <;> decide) (by rcases ha with rfl | rfl <;> rfl) rfl (by rcases ha with rfl | rfl <;> decide) (by rcases ha with rfl | rfl <;> decide) h dM_errorsTo_214 (fun x214 h => ?_)
        refine wm_icmp_ne (tgt := 222) E dM_errorsTo_215 (by decide) (fun c215 => ?_) (fun c215 => ?_)
        · have h := (if_neg c215).symm.trans h
          refine wm_pick (lv' := [(0, vR (some b)), (1, vR (some (b + roff v1))), (2, vI v2), (3, vI v3), (4, vI v4), (5, vI v5), (6, vI v6)]) [0, 1, 2, 3, 4, 5, 6] rfl ?_
          exact rw_M_errorsTo_222 E hQ hR hI hW ha k3 hk3 k15 hk15 v2 v3 v4 v5 v6 (ρ) h
        · have h := (if_pos c215).symm.trans h
          refine wm_iconst (x := 1) E dM_errorsTo_218 (by decide) ?_
          refine wm_goto (tgt := 223) E dM_errorsTo_219 (by decide) ?_
          refine wm_pick (lv' := [(0, vR (some b)), (1, vR (some (b + roff v1))), (2, vI v2), (3, vI v3), (4, vI v4), (5, vI v5), (6, vI v6)]) [0, 1, 2, 3, 4, 5, 6] rfl ?_
          exact rw_M_errorsTo_223 E hQ hR hI hW ha k3 hk3 k15 hk15 v2 v3 v4 v5 v6 1 (ρ) h
def RB_M_errorsTo_164 (v1 : Nat) (k3 : Int32 → Int32 → Int32 → RS → Option (Int32 × RS)) (k15 : Int32 → Int32 → Int32 → Int32 → RS → Option (Int32 × RS)) (v2 : Int32) (v3 : Int32) (v4 : Int32) (v5 : Int32) (s0 : Int32) (ρ : RS) : Option (Int32 × RS) := RB_M_errorsTo_166 v1 k3 k15 v2 v3 v4 v5 s0 (ρ)
set_option maxHeartbeats 4000000 in
set_option maxRecDepth 100000 in
theorem rw_M_errorsTo_164 {X : CX} {v1 : Nat} (E : EV X prog_13_method_27_code 9 "PlaceFinderModel" (some .int)) {μ0 μ : Mem} {b : Nat} {r : Int32} {ρ' : RS} (hQ : RQ X 0 0 μ0 (some (vI r)) (ov b ρ' μ)) (hR : xR X = { frames := 0, cells := 0, slots := 0, locals := 0 }) (hI : X.2.2.2.2.2.2.2.2.2.2.2.1.name = "errorsTo") (hW : mW μ ≤ b) (ha : v1 = 13 ∨ v1 = 29) (k3 : Int32 → Int32 → Int32 → RS → Option (Int32 × RS)) (hk3 : ∀ (v2 : Int32) (v3 : Int32) (v4 : Int32) (ρ : RS), k3 v2 v3 v4 ρ = some (r, ρ') → WM X 9 3 [(0, vR (some b)), (1, vR (some (b + roff v1))), (2, vI v2), (3, vI v3), (4, vI v4)] [] 0 0 (ov b ρ μ)) (k15 : Int32 → Int32 → Int32 → Int32 → RS → Option (Int32 × RS)) (hk15 : ∀ (v2 : Int32) (v3 : Int32) (v4 : Int32) (v5 : Int32) (ρ : RS), k15 v2 v3 v4 v5 ρ = some (r, ρ') → WM X 9 15 [(0, vR (some b)), (1, vR (some (b + roff v1))), (2, vI v2), (3, vI v3), (4, vI v4), (5, vI v5)] [] 0 0 (ov b ρ μ)) (v2 : Int32) (v3 : Int32) (v4 : Int32) (v5 : Int32) (s0 : Int32) (ρ : RS) (h : RB_M_errorsTo_164 v1 k3 k15 v2 v3 v4 v5 s0 ρ = some (r, ρ')) : WM X 9 164 [(0, vR (some b)), (1, vR (some (b + roff v1))), (2, vI v2), (3, vI v3), (4, vI v4), (5, vI v5)] [vI s0] 0 0 (ov b ρ μ) := by
  have h : (RB_M_errorsTo_166 v1 k3 k15 v2 v3 v4 v5 s0 (ρ)) = some (r, ρ') := h
  refine wm_istore (lv' := [(6, vI s0), (0, vR (some b)), (1, vR (some (b + roff v1))), (2, vI v2), (3, vI v3), (4, vI v4), (5, vI v5)]) E dM_errorsTo_164 (by decide) rfl ?_
  refine wm_pick (lv' := [(0, vR (some b)), (1, vR (some (b + roff v1))), (2, vI v2), (3, vI v3), (4, vI v4), (5, vI v5), (6, vI s0)]) [1, 2, 3, 4, 5, 6, 0] rfl ?_
  exact rw_M_errorsTo_166 E hQ hR hI hW ha k3 hk3 k15 hk15 v2 v3 v4 v5 s0 (ρ) h
def RB_M_errorsTo_148 (v1 : Nat) (k3 : Int32 → Int32 → Int32 → RS → Option (Int32 × RS)) (k15 : Int32 → Int32 → Int32 → Int32 → RS → Option (Int32 × RS)) (v2 : Int32) (v3 : Int32) (v4 : Int32) (v5 : Int32) (v8 : Int32) (s0 : Int32) (ρ : RS) : Option (Int32 × RS) := if s0 ≤ v8 then RB_M_errorsTo_164 v1 k3 k15 v2 v3 v4 v5 s0 (ρ) else RB_M_errorsTo_164 v1 k3 k15 v2 v3 v4 v5 v8 (ρ)
set_option maxHeartbeats 4000000 in
set_option maxRecDepth 100000 in
theorem rw_M_errorsTo_148 {X : CX} {v1 : Nat} (E : EV X prog_13_method_27_code 9 "PlaceFinderModel" (some .int)) {μ0 μ : Mem} {b : Nat} {r : Int32} {ρ' : RS} (hQ : RQ X 0 0 μ0 (some (vI r)) (ov b ρ' μ)) (hR : xR X = { frames := 0, cells := 0, slots := 0, locals := 0 }) (hI : X.2.2.2.2.2.2.2.2.2.2.2.1.name = "errorsTo") (hW : mW μ ≤ b) (ha : v1 = 13 ∨ v1 = 29) (k3 : Int32 → Int32 → Int32 → RS → Option (Int32 × RS)) (hk3 : ∀ (v2 : Int32) (v3 : Int32) (v4 : Int32) (ρ : RS), k3 v2 v3 v4 ρ = some (r, ρ') → WM X 9 3 [(0, vR (some b)), (1, vR (some (b + roff v1))), (2, vI v2), (3, vI v3), (4, vI v4)] [] 0 0 (ov b ρ μ)) (k15 : Int32 → Int32 → Int32 → Int32 → RS → Option (Int32 × RS)) (hk15 : ∀ (v2 : Int32) (v3 : Int32) (v4 : Int32) (v5 : Int32) (ρ : RS), k15 v2 v3 v4 v5 ρ = some (r, ρ') → WM X 9 15 [(0, vR (some b)), (1, vR (some (b + roff v1))), (2, vI v2), (3, vI v3), (4, vI v4), (5, vI v5)] [] 0 0 (ov b ρ μ)) (v2 : Int32) (v3 : Int32) (v4 : Int32) (v5 : Int32) (v8 : Int32) (s0 : Int32) (ρ : RS) (h : RB_M_errorsTo_148 v1 k3 k15 v2 v3 v4 v5 v8 s0 ρ = some (r, ρ')) : WM X 9 148 [(0, vR (some b)), (1, vR (some (b + roff v1))), (2, vI v2), (3, vI v3), (4, vI v4), (5, vI v5), (8, vI v8)] [vI s0] 0 0 (ov b ρ μ) := by
  have h : (if s0 ≤ v8 then RB_M_errorsTo_164 v1 k3 k15 v2 v3 v4 v5 s0 (ρ) else RB_M_errorsTo_164 v1 k3 k15 v2 v3 v4 v5 v8 (ρ)) = some (r, ρ') := h
  refine wm_istore (lv' := [(6, vI s0), (0, vR (some b)), (1, vR (some (b + roff v1))), (2, vI v2), (3, vI v3), (4, vI v4), (5, vI v5), (8, vI v8)]) E dM_errorsTo_148 (by decide) rfl ?_
  refine wm_iload E dM_errorsTo_150 (j := 7) rfl ?_
  refine wm_iload E dM_errorsTo_152 (j := 0) rfl ?_
  refine wm_icmp_ge (tgt := 162) E dM_errorsTo_154 (by decide) (fun c154 => ?_) (fun c154 => ?_)
  · have h := (if_pos c154).symm.trans h
    refine wm_iload E dM_errorsTo_162 (j := 0) rfl ?_
    refine wm_pick (lv' := [(0, vR (some b)), (1, vR (some (b + roff v1))), (2, vI v2), (3, vI v3), (4, vI v4), (5, vI v5)]) [1, 2, 3, 4, 5, 6] rfl ?_
    exact rw_M_errorsTo_164 E hQ hR hI hW ha k3 hk3 k15 hk15 v2 v3 v4 v5 s0 (ρ) h
  · have h := (if_neg c154).symm.trans h
    refine wm_iload E dM_errorsTo_157 (j := 7) rfl ?_
    refine wm_goto (tgt := 164) E dM_errorsTo_159 (by decide) ?_
    refine wm_pick (lv' := [(0, vR (some b)), (1, vR (some (b + roff v1))), (2, vI v2), (3, vI v3), (4, vI v4), (5, vI v5)]) [1, 2, 3, 4, 5, 6] rfl ?_
    exact rw_M_errorsTo_164 E hQ hR hI hW ha k3 hk3 k15 hk15 v2 v3 v4 v5 v8 (ρ) h
def RB_M_errorsTo_84 (v1 : Nat) (k3 : Int32 → Int32 → Int32 → RS → Option (Int32 × RS)) (k15 : Int32 → Int32 → Int32 → Int32 → RS → Option (Int32 × RS)) (v2 : Int32) (v3 : Int32) (v4 : Int32) (v5 : Int32) (s0 : Int32) (ρ : RS) : Option (Int32 × RS) := if v4 ≤ 0 then RB_M_errorsTo_166 v1 k3 k15 v2 v3 v4 v5 s0 (ρ) else if v5 ≤ 0 then RB_M_errorsTo_166 v1 k3 k15 v2 v3 v4 v5 s0 (ρ) else b1 (rgI ρ 40 121 ((11 * (v4 - 1)) + v5)) (fun x110 => b0 (x110 + 1) (fun x113 => b1 (rgI ρ 40 121 (((11 * v4) + v5) - 1)) (fun x129 => b0 (x129 + 1) (fun x132 => if s0 ≤ x113 then RB_M_errorsTo_148 v1 k3 k15 v2 v3 v4 v5 x132 s0 (ρ) else RB_M_errorsTo_148 v1 k3 k15 v2 v3 v4 v5 x132 x113 (ρ)))))
set_option maxHeartbeats 4000000 in
set_option maxRecDepth 100000 in
theorem rw_M_errorsTo_84 {X : CX} {v1 : Nat} (E : EV X prog_13_method_27_code 9 "PlaceFinderModel" (some .int)) {μ0 μ : Mem} {b : Nat} {r : Int32} {ρ' : RS} (hQ : RQ X 0 0 μ0 (some (vI r)) (ov b ρ' μ)) (hR : xR X = { frames := 0, cells := 0, slots := 0, locals := 0 }) (hI : X.2.2.2.2.2.2.2.2.2.2.2.1.name = "errorsTo") (hW : mW μ ≤ b) (ha : v1 = 13 ∨ v1 = 29) (k3 : Int32 → Int32 → Int32 → RS → Option (Int32 × RS)) (hk3 : ∀ (v2 : Int32) (v3 : Int32) (v4 : Int32) (ρ : RS), k3 v2 v3 v4 ρ = some (r, ρ') → WM X 9 3 [(0, vR (some b)), (1, vR (some (b + roff v1))), (2, vI v2), (3, vI v3), (4, vI v4)] [] 0 0 (ov b ρ μ)) (k15 : Int32 → Int32 → Int32 → Int32 → RS → Option (Int32 × RS)) (hk15 : ∀ (v2 : Int32) (v3 : Int32) (v4 : Int32) (v5 : Int32) (ρ : RS), k15 v2 v3 v4 v5 ρ = some (r, ρ') → WM X 9 15 [(0, vR (some b)), (1, vR (some (b + roff v1))), (2, vI v2), (3, vI v3), (4, vI v4), (5, vI v5)] [] 0 0 (ov b ρ μ)) (v2 : Int32) (v3 : Int32) (v4 : Int32) (v5 : Int32) (s0 : Int32) (ρ : RS) (h : RB_M_errorsTo_84 v1 k3 k15 v2 v3 v4 v5 s0 ρ = some (r, ρ')) : WM X 9 84 [(0, vR (some b)), (1, vR (some (b + roff v1))), (2, vI v2), (3, vI v3), (4, vI v4), (5, vI v5)] [vI s0] 0 0 (ov b ρ μ) := by
  have h : (if v4 ≤ 0 then RB_M_errorsTo_166 v1 k3 k15 v2 v3 v4 v5 s0 (ρ) else if v5 ≤ 0 then RB_M_errorsTo_166 v1 k3 k15 v2 v3 v4 v5 s0 (ρ) else b1 (rgI ρ 40 121 ((11 * (v4 - 1)) + v5)) (fun x110 => b0 (x110 + 1) (fun x113 => b1 (rgI ρ 40 121 (((11 * v4) + v5) - 1)) (fun x129 => b0 (x129 + 1) (fun x132 => if s0 ≤ x113 then RB_M_errorsTo_148 v1 k3 k15 v2 v3 v4 v5 x132 s0 (ρ) else RB_M_errorsTo_148 v1 k3 k15 v2 v3 v4 v5 x132 x113 (ρ)))))) = some (r, ρ') := h
  refine wm_istore (lv' := [(6, vI s0), (0, vR (some b)), (1, vR (some (b + roff v1))), (2, vI v2), (3, vI v3), (4, vI v4), (5, vI v5)]) E dM_errorsTo_84 (by decide) rfl ?_
  refine wm_iload E dM_errorsTo_86 (j := 5) rfl ?_
  refine wm_if_le (tgt := 166) E dM_errorsTo_88 (by decide) (fun c88 => ?_) (fun c88 => ?_)
  · have h := (if_pos c88).symm.trans h
    refine wm_pick (lv' := [(0, vR (some b)), (1, vR (some (b + roff v1))), (2, vI v2), (3, vI v3), (4, vI v4), (5, vI v5), (6, vI s0)]) [1, 2, 3, 4, 5, 6, 0] rfl ?_
    exact rw_M_errorsTo_166 E hQ hR hI hW ha k3 hk3 k15 hk15 v2 v3 v4 v5 s0 (ρ) h
  · have h := (if_neg c88).symm.trans h
    refine wm_iload E dM_errorsTo_91 (j := 6) rfl ?_
    refine wm_if_le (tgt := 166) E dM_errorsTo_93 (by decide) (fun c93 => ?_) (fun c93 => ?_)
    · have h := (if_pos c93).symm.trans h
      refine wm_pick (lv' := [(0, vR (some b)), (1, vR (some (b + roff v1))), (2, vI v2), (3, vI v3), (4, vI v4), (5, vI v5), (6, vI s0)]) [1, 2, 3, 4, 5, 6, 0] rfl ?_
      exact rw_M_errorsTo_166 E hQ hR hI hW ha k3 hk3 k15 hk15 v2 v3 v4 v5 s0 (ρ) h
    · have h := (if_neg c93).symm.trans h
      refine wm_aload_n E dM_errorsTo_96 rfl (j := 1) rfl ?_
      refine wm_rget (v := vR (some (b + 35))) E fd_M_113 rfl dM_errorsTo_97 ?_
      refine wm_bipush (x := 11) E dM_errorsTo_100 (by decide) ?_
      refine wm_iload E dM_errorsTo_102 (j := 5) rfl ?_
      refine wm_iconst (x := 1) E dM_errorsTo_104 (by decide) ?_
      refine wm_isub E dM_errorsTo_105 ?_
      refine wm_imul E dM_errorsTo_106 ?_
      refine wm_iload E dM_errorsTo_107 (j := 6) rfl ?_
      refine wm_iadd E dM_errorsTo_109 ?_
      refine wm_riald E (by decide) rfl rfl (by decide) (by decide) h dM_errorsTo_110 (fun x110 h => ?_)
      refine wm_iconst (x := 1) E dM_errorsTo_111 (by decide) ?_
      refine wm_iadd E dM_errorsTo_112 ?_
      refine wm_letI h (fun x113 h => ?_)
      refine wm_istore (lv' := [(7, vI x113), (6, vI s0), (0, vR (some b)), (1, vR (some (b + roff v1))), (2, vI v2), (3, vI v3), (4, vI v4), (5, vI v5)]) E dM_errorsTo_113 (by decide) rfl ?_
      refine wm_aload_n E dM_errorsTo_115 rfl (j := 2) rfl ?_
      refine wm_rget (v := vR (some (b + 35))) E fd_M_113 rfl dM_errorsTo_116 ?_
      refine wm_bipush (x := 11) E dM_errorsTo_119 (by decide) ?_
      refine wm_iload E dM_errorsTo_121 (j := 6) rfl ?_
      refine wm_imul E dM_errorsTo_123 ?_
      refine wm_iload E dM_errorsTo_124 (j := 7) rfl ?_
      refine wm_iadd E dM_errorsTo_126 ?_
      refine wm_iconst (x := 1) E dM_errorsTo_127 (by decide) ?_
      refine wm_isub E dM_errorsTo_128 ?_
      refine wm_riald E (by decide) rfl rfl (by decide) (by decide) h dM_errorsTo_129 (fun x129 h => ?_)
      refine wm_iconst (x := 1) E dM_errorsTo_130 (by decide) ?_
      refine wm_iadd E dM_errorsTo_131 ?_
      refine wm_letI h (fun x132 h => ?_)
      refine wm_istore (lv' := [(8, vI x132), (7, vI x113), (6, vI s0), (0, vR (some b)), (1, vR (some (b + roff v1))), (2, vI v2), (3, vI v3), (4, vI v4), (5, vI v5)]) E dM_errorsTo_132 (by decide) rfl ?_
      refine wm_iload E dM_errorsTo_134 (j := 1) rfl ?_
      refine wm_iload E dM_errorsTo_136 (j := 2) rfl ?_
      refine wm_icmp_ge (tgt := 146) E dM_errorsTo_138 (by decide) (fun c138 => ?_) (fun c138 => ?_)
      · have h := (if_pos c138).symm.trans h
        refine wm_iload E dM_errorsTo_146 (j := 2) rfl ?_
        refine wm_pick (lv' := [(0, vR (some b)), (1, vR (some (b + roff v1))), (2, vI v2), (3, vI v3), (4, vI v4), (5, vI v5), (8, vI x132)]) [3, 4, 5, 6, 7, 8, 0] rfl ?_
        exact rw_M_errorsTo_148 E hQ hR hI hW ha k3 hk3 k15 hk15 v2 v3 v4 v5 x132 s0 (ρ) h
      · have h := (if_neg c138).symm.trans h
        refine wm_iload E dM_errorsTo_141 (j := 1) rfl ?_
        refine wm_goto (tgt := 148) E dM_errorsTo_143 (by decide) ?_
        refine wm_pick (lv' := [(0, vR (some b)), (1, vR (some (b + roff v1))), (2, vI v2), (3, vI v3), (4, vI v4), (5, vI v5), (8, vI x132)]) [3, 4, 5, 6, 7, 8, 0] rfl ?_
        exact rw_M_errorsTo_148 E hQ hR hI hW ha k3 hk3 k15 hk15 v2 v3 v4 v5 x132 x113 (ρ) h
def RB_M_errorsTo_83 (v1 : Nat) (k3 : Int32 → Int32 → Int32 → RS → Option (Int32 × RS)) (k15 : Int32 → Int32 → Int32 → Int32 → RS → Option (Int32 × RS)) (v2 : Int32) (v3 : Int32) (v4 : Int32) (v5 : Int32) (s0 : Int32) (s1 : Int32) (ρ : RS) : Option (Int32 × RS) := RB_M_errorsTo_84 v1 k3 k15 v2 v3 v4 v5 (s0 + s1) (ρ)
set_option maxHeartbeats 4000000 in
set_option maxRecDepth 100000 in
theorem rw_M_errorsTo_83 {X : CX} {v1 : Nat} (E : EV X prog_13_method_27_code 9 "PlaceFinderModel" (some .int)) {μ0 μ : Mem} {b : Nat} {r : Int32} {ρ' : RS} (hQ : RQ X 0 0 μ0 (some (vI r)) (ov b ρ' μ)) (hR : xR X = { frames := 0, cells := 0, slots := 0, locals := 0 }) (hI : X.2.2.2.2.2.2.2.2.2.2.2.1.name = "errorsTo") (hW : mW μ ≤ b) (ha : v1 = 13 ∨ v1 = 29) (k3 : Int32 → Int32 → Int32 → RS → Option (Int32 × RS)) (hk3 : ∀ (v2 : Int32) (v3 : Int32) (v4 : Int32) (ρ : RS), k3 v2 v3 v4 ρ = some (r, ρ') → WM X 9 3 [(0, vR (some b)), (1, vR (some (b + roff v1))), (2, vI v2), (3, vI v3), (4, vI v4)] [] 0 0 (ov b ρ μ)) (k15 : Int32 → Int32 → Int32 → Int32 → RS → Option (Int32 × RS)) (hk15 : ∀ (v2 : Int32) (v3 : Int32) (v4 : Int32) (v5 : Int32) (ρ : RS), k15 v2 v3 v4 v5 ρ = some (r, ρ') → WM X 9 15 [(0, vR (some b)), (1, vR (some (b + roff v1))), (2, vI v2), (3, vI v3), (4, vI v4), (5, vI v5)] [] 0 0 (ov b ρ μ)) (v2 : Int32) (v3 : Int32) (v4 : Int32) (v5 : Int32) (s0 : Int32) (s1 : Int32) (ρ : RS) (h : RB_M_errorsTo_83 v1 k3 k15 v2 v3 v4 v5 s0 s1 ρ = some (r, ρ')) : WM X 9 83 [(0, vR (some b)), (1, vR (some (b + roff v1))), (2, vI v2), (3, vI v3), (4, vI v4), (5, vI v5)] [vI s1, vI s0] 0 0 (ov b ρ μ) := by
  have h : (RB_M_errorsTo_84 v1 k3 k15 v2 v3 v4 v5 (s0 + s1) (ρ)) = some (r, ρ') := h
  refine wm_iadd E dM_errorsTo_83 ?_
  refine wm_pick (lv' := [(0, vR (some b)), (1, vR (some (b + roff v1))), (2, vI v2), (3, vI v3), (4, vI v4), (5, vI v5)]) [0, 1, 2, 3, 4, 5] rfl ?_
  exact rw_M_errorsTo_84 E hQ hR hI hW ha k3 hk3 k15 hk15 v2 v3 v4 v5 (s0 + s1) (ρ) h
def RB_M_errorsTo_15 (v1 : Nat) (k3 : Int32 → Int32 → Int32 → RS → Option (Int32 × RS)) : Nat → Int32 → Int32 → Int32 → Int32 → RS → Option (Int32 × RS)
  | 0, _, _, _, _, _ => none
  | n + 1, v2, v3, v4, v5, ρ => if v3 < v5 then k3 v2 v3 (v4 + 1) (ρ) else if v4 = 0 then RB_M_errorsTo_84 v1 k3 (fun v2 v3 v4 v5 ρ => RB_M_errorsTo_15 v1 k3 n v2 v3 v4 v5 ρ) v2 v3 v4 v5 v5 (ρ) else if v5 = 0 then RB_M_errorsTo_84 v1 k3 (fun v2 v3 v4 v5 ρ => RB_M_errorsTo_15 v1 k3 n v2 v3 v4 v5 ρ) v2 v3 v4 v5 v4 (ρ) else b1 (rgI ρ 40 121 (((11 * (v4 - 1)) + v5) - 1)) (fun x57 => b1 (rgI ρ 39 10 (v4 - 1)) (fun x66 => b1 (rgI ρ v1 (rlen v1) ((v2 + v5) - 1)) (fun x74 => if x66 = x74 then RB_M_errorsTo_83 v1 k3 (fun v2 v3 v4 v5 ρ => RB_M_errorsTo_15 v1 k3 n v2 v3 v4 v5 ρ) v2 v3 v4 v5 x57 0 (ρ) else RB_M_errorsTo_83 v1 k3 (fun v2 v3 v4 v5 ρ => RB_M_errorsTo_15 v1 k3 n v2 v3 v4 v5 ρ) v2 v3 v4 v5 x57 1 (ρ))))
set_option maxHeartbeats 4000000 in
set_option maxRecDepth 100000 in
theorem rw_M_errorsTo_15 {X : CX} {v1 : Nat} (E : EV X prog_13_method_27_code 9 "PlaceFinderModel" (some .int)) {μ0 μ : Mem} {b : Nat} {r : Int32} {ρ' : RS} (hQ : RQ X 0 0 μ0 (some (vI r)) (ov b ρ' μ)) (hR : xR X = { frames := 0, cells := 0, slots := 0, locals := 0 }) (hI : X.2.2.2.2.2.2.2.2.2.2.2.1.name = "errorsTo") (hW : mW μ ≤ b) (ha : v1 = 13 ∨ v1 = 29) (k3 : Int32 → Int32 → Int32 → RS → Option (Int32 × RS)) (hk3 : ∀ (v2 : Int32) (v3 : Int32) (v4 : Int32) (ρ : RS), k3 v2 v3 v4 ρ = some (r, ρ') → WM X 9 3 [(0, vR (some b)), (1, vR (some (b + roff v1))), (2, vI v2), (3, vI v3), (4, vI v4)] [] 0 0 (ov b ρ μ)) (n : Nat) : ∀ (v2 : Int32) (v3 : Int32) (v4 : Int32) (v5 : Int32) (ρ : RS) (h : RB_M_errorsTo_15 v1 k3 n v2 v3 v4 v5 ρ = some (r, ρ')), WM X 9 15 [(0, vR (some b)), (1, vR (some (b + roff v1))), (2, vI v2), (3, vI v3), (4, vI v4), (5, vI v5)] [] 0 0 (ov b ρ μ) := by
  induction n with
  | zero => intro v2 v3 v4 v5 ρ h; cases h
  | succ n ih =>
    intro v2 v3 v4 v5 ρ h
    have h : (if v3 < v5 then k3 v2 v3 (v4 + 1) (ρ) else if v4 = 0 then RB_M_errorsTo_84 v1 k3 (fun v2 v3 v4 v5 ρ => RB_M_errorsTo_15 v1 k3 n v2 v3 v4 v5 ρ) v2 v3 v4 v5 v5 (ρ) else if v5 = 0 then RB_M_errorsTo_84 v1 k3 (fun v2 v3 v4 v5 ρ => RB_M_errorsTo_15 v1 k3 n v2 v3 v4 v5 ρ) v2 v3 v4 v5 v4 (ρ) else b1 (rgI ρ 40 121 (((11 * (v4 - 1)) + v5) - 1)) (fun x57 => b1 (rgI ρ 39 10 (v4 - 1)) (fun x66 => b1 (rgI ρ v1 (rlen v1) ((v2 + v5) - 1)) (fun x74 => if x66 = x74 then RB_M_errorsTo_83 v1 k3 (fun v2 v3 v4 v5 ρ => RB_M_errorsTo_15 v1 k3 n v2 v3 v4 v5 ρ) v2 v3 v4 v5 x57 0 (ρ) else RB_M_errorsTo_83 v1 k3 (fun v2 v3 v4 v5 ρ => RB_M_errorsTo_15 v1 k3 n v2 v3 v4 v5 ρ) v2 v3 v4 v5 x57 1 (ρ))))) = some (r, ρ') := h
    refine wm_iload E dM_errorsTo_15 (j := 5) rfl ?_
    refine wm_iload_n E dM_errorsTo_17 rfl (j := 3) rfl ?_
    refine wm_icmp_gt (tgt := 296) E dM_errorsTo_18 (by decide) (fun c18 => ?_) (fun c18 => ?_)
    · have h := (if_pos c18).symm.trans h
      refine wm_iinc (lv' := [(4, vI (v4 + 1)), (0, vR (some b)), (1, vR (some (b + roff v1))), (2, vI v2), (3, vI v3), (5, vI v5)]) (d := 1) E dM_errorsTo_296 (by decide) (j := 4) rfl (by decide) rfl ?_
      refine wm_goto (tgt := 3) E dM_errorsTo_299 (by decide) ?_
      refine wm_pick (lv' := [(0, vR (some b)), (1, vR (some (b + roff v1))), (2, vI v2), (3, vI v3), (4, vI (v4 + 1))]) [1, 2, 3, 4, 0] rfl ?_
      exact hk3 v2 v3 (v4 + 1) (ρ) h
    · have h := (if_neg c18).symm.trans h
      refine wm_iload E dM_errorsTo_21 (j := 4) rfl ?_
      refine wm_if_ne (tgt := 31) E dM_errorsTo_23 (by decide) (fun c23 => ?_) (fun c23 => ?_)
      · have h := (if_neg c23).symm.trans h
        refine wm_iload E dM_errorsTo_31 (j := 5) rfl ?_
        refine wm_if_ne (tgt := 41) E dM_errorsTo_33 (by decide) (fun c33 => ?_) (fun c33 => ?_)
        · have h := (if_neg c33).symm.trans h
          refine wm_aload_n E dM_errorsTo_41 rfl (j := 0) rfl ?_
          refine wm_rget (v := vR (some (b + 35))) E fd_M_113 rfl dM_errorsTo_42 ?_
          refine wm_bipush (x := 11) E dM_errorsTo_45 (by decide) ?_
          refine wm_iload E dM_errorsTo_47 (j := 4) rfl ?_
          refine wm_iconst (x := 1) E dM_errorsTo_49 (by decide) ?_
          refine wm_isub E dM_errorsTo_50 ?_
          refine wm_imul E dM_errorsTo_51 ?_
          refine wm_iload E dM_errorsTo_52 (j := 5) rfl ?_
          refine wm_iadd E dM_errorsTo_54 ?_
          refine wm_iconst (x := 1) E dM_errorsTo_55 (by decide) ?_
          refine wm_isub E dM_errorsTo_56 ?_
          refine wm_riald E (by decide) rfl rfl (by decide) (by decide) h dM_errorsTo_57 (fun x57 h => ?_)
          refine wm_aload_n E dM_errorsTo_58 rfl (j := 0) rfl ?_
          refine wm_rget (v := vR (some (b + 34))) E fd_M_110 rfl dM_errorsTo_59 ?_
          refine wm_iload E dM_errorsTo_62 (j := 4) rfl ?_
          refine wm_iconst (x := 1) E dM_errorsTo_64 (by decide) ?_
          refine wm_isub E dM_errorsTo_65 ?_
          refine wm_riald E (by decide) rfl rfl (by decide) (by decide) h dM_errorsTo_66 (fun x66 h => ?_)
          refine wm_aload_n E dM_errorsTo_67 rfl (j := 1) rfl ?_
          refine wm_iload_n E dM_errorsTo_68 rfl (j := 2) rfl ?_
          refine wm_iload E dM_errorsTo_69 (j := 5) rfl ?_
          refine wm_iadd E dM_errorsTo_71 ?_
          refine wm_iconst (x := 1) E dM_errorsTo_72 (by decide) ?_
          refine wm_isub E dM_errorsTo_73 ?_
          refine wm_riald E (by rcases ha with rfl | rfl <;> decide) (by rcases ha with rfl | rfl <;> rfl) rfl (by rcases ha with rfl | rfl <;> decide) (by rcases ha with rfl | rfl <;> decide) h dM_errorsTo_74 (fun x74 h => ?_)
          refine wm_icmp_ne (tgt := 82) E dM_errorsTo_75 (by decide) (fun c75 => ?_) (fun c75 => ?_)
          · have h := (if_neg c75).symm.trans h
            refine wm_iconst (x := 1) E dM_errorsTo_82 (by decide) ?_
            refine wm_pick (lv' := [(0, vR (some b)), (1, vR (some (b + roff v1))), (2, vI v2), (3, vI v3), (4, vI v4), (5, vI v5)]) [0, 1, 2, 3, 4, 5] rfl ?_
            exact rw_M_errorsTo_83 E hQ hR hI hW ha k3 hk3 (fun v2 v3 v4 v5 ρ => RB_M_errorsTo_15 v1 k3 n v2 v3 v4 v5 ρ) ih v2 v3 v4 v5 x57 1 (ρ) h
          · have h := (if_pos c75).symm.trans h
            refine wm_iconst (x := 0) E dM_errorsTo_78 (by decide) ?_
            refine wm_goto (tgt := 83) E dM_errorsTo_79 (by decide) ?_
            refine wm_pick (lv' := [(0, vR (some b)), (1, vR (some (b + roff v1))), (2, vI v2), (3, vI v3), (4, vI v4), (5, vI v5)]) [0, 1, 2, 3, 4, 5] rfl ?_
            exact rw_M_errorsTo_83 E hQ hR hI hW ha k3 hk3 (fun v2 v3 v4 v5 ρ => RB_M_errorsTo_15 v1 k3 n v2 v3 v4 v5 ρ) ih v2 v3 v4 v5 x57 0 (ρ) h
        · have h := (if_pos c33).symm.trans h
          refine wm_iload E dM_errorsTo_36 (j := 4) rfl ?_
          refine wm_goto (tgt := 84) E dM_errorsTo_38 (by decide) ?_
          refine wm_pick (lv' := [(0, vR (some b)), (1, vR (some (b + roff v1))), (2, vI v2), (3, vI v3), (4, vI v4), (5, vI v5)]) [0, 1, 2, 3, 4, 5] rfl ?_
          exact rw_M_errorsTo_84 E hQ hR hI hW ha k3 hk3 (fun v2 v3 v4 v5 ρ => RB_M_errorsTo_15 v1 k3 n v2 v3 v4 v5 ρ) ih v2 v3 v4 v5 v4 (ρ) h
      · have h := (if_pos c23).symm.trans h
        refine wm_iload E dM_errorsTo_26 (j := 5) rfl ?_
        refine wm_goto (tgt := 84) E dM_errorsTo_28 (by decide) ?_
        refine wm_pick (lv' := [(0, vR (some b)), (1, vR (some (b + roff v1))), (2, vI v2), (3, vI v3), (4, vI v4), (5, vI v5)]) [0, 1, 2, 3, 4, 5] rfl ?_
        exact rw_M_errorsTo_84 E hQ hR hI hW ha k3 hk3 (fun v2 v3 v4 v5 ρ => RB_M_errorsTo_15 v1 k3 n v2 v3 v4 v5 ρ) ih v2 v3 v4 v5 v5 (ρ) h
def RB_M_errorsTo_3 (v1 : Nat)  : Nat → Int32 → Int32 → Int32 → RS → Option (Int32 × RS)
  | 0, _, _, _, _ => none
  | n + 1, v2, v3, v4, ρ => if (ri ρ 38) < v4 then b1 (rgI ρ 40 121 ((11 * (ri ρ 38)) + v3)) (fun x315 => some (x315, ρ)) else RB_M_errorsTo_15 v1 (fun v2 v3 v4 ρ => RB_M_errorsTo_3 v1 n v2 v3 v4 ρ) fu v2 v3 v4 0 (ρ)
set_option maxHeartbeats 4000000 in
set_option maxRecDepth 100000 in
theorem rw_M_errorsTo_3 {X : CX} {v1 : Nat} (E : EV X prog_13_method_27_code 9 "PlaceFinderModel" (some .int)) {μ0 μ : Mem} {b : Nat} {r : Int32} {ρ' : RS} (hQ : RQ X 0 0 μ0 (some (vI r)) (ov b ρ' μ)) (hR : xR X = { frames := 0, cells := 0, slots := 0, locals := 0 }) (hI : X.2.2.2.2.2.2.2.2.2.2.2.1.name = "errorsTo") (hW : mW μ ≤ b) (ha : v1 = 13 ∨ v1 = 29)  (n : Nat) : ∀ (v2 : Int32) (v3 : Int32) (v4 : Int32) (ρ : RS) (h : RB_M_errorsTo_3 v1  n v2 v3 v4 ρ = some (r, ρ')), WM X 9 3 [(0, vR (some b)), (1, vR (some (b + roff v1))), (2, vI v2), (3, vI v3), (4, vI v4)] [] 0 0 (ov b ρ μ) := by
  induction n with
  | zero => intro v2 v3 v4 ρ h; cases h
  | succ n ih =>
    intro v2 v3 v4 ρ h
    have h : (if (ri ρ 38) < v4 then b1 (rgI ρ 40 121 ((11 * (ri ρ 38)) + v3)) (fun x315 => some (x315, ρ)) else RB_M_errorsTo_15 v1 (fun v2 v3 v4 ρ => RB_M_errorsTo_3 v1 n v2 v3 v4 ρ) fu v2 v3 v4 0 (ρ)) = some (r, ρ') := h
    refine wm_iload E dM_errorsTo_3 (j := 4) rfl ?_
    refine wm_aload_n E dM_errorsTo_5 rfl (j := 0) rfl ?_
    refine wm_rget (v := vI (ri ρ 38)) E fd_M_179 rfl dM_errorsTo_6 ?_
    refine wm_icmp_gt (tgt := 302) E dM_errorsTo_9 (by decide) (fun c9 => ?_) (fun c9 => ?_)
    · have h := (if_pos c9).symm.trans h
      refine wm_aload_n E dM_errorsTo_302 rfl (j := 0) rfl ?_
      refine wm_rget (v := vR (some (b + 35))) E fd_M_113 rfl dM_errorsTo_303 ?_
      refine wm_bipush (x := 11) E dM_errorsTo_306 (by decide) ?_
      refine wm_aload_n E dM_errorsTo_308 rfl (j := 0) rfl ?_
      refine wm_rget (v := vI (ri ρ 38)) E fd_M_179 rfl dM_errorsTo_309 ?_
      refine wm_imul E dM_errorsTo_312 ?_
      refine wm_iload_n E dM_errorsTo_313 rfl (j := 3) rfl ?_
      refine wm_iadd E dM_errorsTo_314 ?_
      refine wm_riald E (by decide) rfl rfl (by decide) (by decide) h dM_errorsTo_315 (fun x315 h => ?_)
      exact wm_iret (rt := .int) E hQ (rrI h) (rrM h) (by decide) (by decide) dM_errorsTo_316
    · have h := (if_neg c9).symm.trans h
      refine wm_iconst (x := 0) E dM_errorsTo_12 (by decide) ?_
      refine wm_istore (lv' := [(5, vI 0), (0, vR (some b)), (1, vR (some (b + roff v1))), (2, vI v2), (3, vI v3), (4, vI v4)]) E dM_errorsTo_13 (by decide) rfl ?_
      refine wm_pick (lv' := [(0, vR (some b)), (1, vR (some (b + roff v1))), (2, vI v2), (3, vI v3), (4, vI v4), (5, vI 0)]) [1, 2, 3, 4, 5, 0] rfl ?_
      exact rw_M_errorsTo_15 E hQ hR hI hW ha (fun v2 v3 v4 ρ => RB_M_errorsTo_3 v1 n v2 v3 v4 ρ) ih fu v2 v3 v4 0 (ρ) h
def R_M_errorsTo (v1 : Nat) (v2 : Int32) (v3 : Int32) (ρ : RS) : Option (Int32 × RS) := RB_M_errorsTo_3 v1 fu v2 v3 0 (ρ)
set_option maxHeartbeats 4000000 in
set_option maxRecDepth 100000 in
theorem RC_M_errorsTo (l : Launch) (G : GG) (b : Nat) (ρ : RS) (μ : Mem) (hW : mW μ ≤ b) (v1 : Nat) (v2 : Int32) (v3 : Int32) (ha : v1 = 13 ∨ v1 = 29) (r : Int32) (ρ' : RS) (h : R_M_errorsTo v1 v2 v3 ρ = some (r, ρ')) : CT l G y_M_errorsTo prog_13_method_27_code 9 (some .int) 0 0 0 0 (ov b ρ μ) [vR (some b), vR (some (b + roff v1)), vI v2, vI v3] (some (vI r)) (ov b ρ' μ) := by
  refine wm_met (lv := [(0, vR (some b)), (1, vR (some (b + roff v1))), (2, vI v2), (3, vI v3)]) (by decide +kernel) (Nat.le_of_ble_eq_true rfl) rfl (fun X E hQ hR hI => ?_)
  have h : (RB_M_errorsTo_3 v1 fu v2 v3 0 (ρ)) = some (r, ρ') := h
  refine wm_iconst (x := 0) E dM_errorsTo_0 (by decide) ?_
  refine wm_istore (lv' := [(4, vI 0), (0, vR (some b)), (1, vR (some (b + roff v1))), (2, vI v2), (3, vI v3)]) E dM_errorsTo_1 (by decide) rfl ?_
  refine wm_pick (lv' := [(0, vR (some b)), (1, vR (some (b + roff v1))), (2, vI v2), (3, vI v3), (4, vI 0)]) [1, 2, 3, 4, 0] rfl ?_
  exact rw_M_errorsTo_3 E hQ hR hI hW ha fu v2 v3 0 (ρ) h
def RB_M_errors_49  (v1 : Int32) (v2 : Int32) (s1 : Int32) (ρ : RS) : Option (Int32 × RS) := b0 (rpI ρ 0 s1) (fun ρ49 => if (ri ρ49 0) ≤ 0 then c2 (R_M_foldTyped  (ρ49)) (fun x62 ρ62 => b0 ((2 * v1) + v2) (fun x70 => b1 (rgI ρ62 12 60 x70) (fun x85 => c2 (R_M_errorsTo 13 (10 * x70) x85 (ρ62)) (fun x86 ρ86 => some (x86, ρ86))))) else some (0, ρ49))
set_option maxHeartbeats 4000000 in
set_option maxRecDepth 100000 in
theorem rw_M_errors_49 {X : CX} (E : EV X prog_13_method_28_code 4 "PlaceFinderModel" (some .int)) {μ0 μ : Mem} {b : Nat} {r : Int32} {ρ' : RS} (hQ : RQ X 0 0 μ0 (some (vI r)) (ov b ρ' μ)) (hR : xR X = { frames := 3, cells := 0, slots := 0, locals := 67 }) (hI : X.2.2.2.2.2.2.2.2.2.2.2.1.name = "errors") (hW : mW μ ≤ b)  (v1 : Int32) (v2 : Int32) (s1 : Int32) (ρ : RS) (h : RB_M_errors_49  v1 v2 s1 ρ = some (r, ρ')) : WM X 4 49 [(0, vR (some b)), (1, vI v1), (2, vI v2)] [vI s1, vR (some b)] 0 0 (ov b ρ μ) := by
  have h : (b0 (rpI ρ 0 s1) (fun ρ49 => if (ri ρ49 0) ≤ 0 then c2 (R_M_foldTyped  (ρ49)) (fun x62 ρ62 => b0 ((2 * v1) + v2) (fun x70 => b1 (rgI ρ62 12 60 x70) (fun x85 => c2 (R_M_errorsTo 13 (10 * x70) x85 (ρ62)) (fun x86 ρ86 => some (x86, ρ86))))) else some (0, ρ49))) = some (r, ρ') := h
  refine wm_rpI E fp_M_132 (fun q => by cases q) rfl (by decide) hW dM_errors_49 ?_
  refine wm_rlet h (fun ρ49 h => ?_)
  refine wm_aload_n E dM_errors_52 rfl (j := 0) rfl ?_
  refine wm_rget (v := vI (ri ρ49 0)) E fd_M_132 rfl dM_errors_53 ?_
  refine wm_if_le (tgt := 61) E dM_errors_56 (by decide) (fun c56 => ?_) (fun c56 => ?_)
  · have h := (if_pos c56).symm.trans h
    refine wm_aload_n E dM_errors_61 rfl (j := 0) rfl ?_
    obtain ⟨x62, ρ62, hc62, h⟩ := c2S h
    refine wm_cV (ci := 12) (As := []) (st := []) E lk_M_188 rfl im_M_foldTyped sl_M_foldTyped (ov_rc _ _ _) (RC_M_foldTyped (xl X) X.1 b (ρ49) μ hW  _ _ hc62) rfl rfl (by rw [hR]; decide) (by rw [hR]; decide) (Nat.le_of_ble_eq_true rfl) dM_errors_62 ?_
    refine wm_iconst (x := 2) E dM_errors_65 (by decide) ?_
    refine wm_iload_n E dM_errors_66 rfl (j := 1) rfl ?_
    refine wm_imul E dM_errors_67 ?_
    refine wm_iload_n E dM_errors_68 rfl (j := 2) rfl ?_
    refine wm_iadd E dM_errors_69 ?_
    refine wm_letI h (fun x70 h => ?_)
    refine wm_istore_n (lv' := [(3, vI x70), (0, vR (some b)), (1, vI v1), (2, vI v2)]) E dM_errors_70 rfl (by decide) rfl ?_
    refine wm_aload_n E dM_errors_71 rfl (j := 1) rfl ?_
    refine wm_aload_n E dM_errors_72 rfl (j := 1) rfl ?_
    refine wm_rget (v := vR (some (b + 12))) E fd_M_43 rfl dM_errors_73 ?_
    refine wm_bipush (x := 10) E dM_errors_76 (by decide) ?_
    refine wm_iload_n E dM_errors_78 rfl (j := 0) rfl ?_
    refine wm_imul E dM_errors_79 ?_
    refine wm_aload_n E dM_errors_80 rfl (j := 1) rfl ?_
    refine wm_rget (v := vR (some (b + 11))) E fd_M_40 rfl dM_errors_81 ?_
    refine wm_iload_n E dM_errors_84 rfl (j := 0) rfl ?_
    refine wm_riald E (by decide) rfl rfl (by decide) (by decide) h dM_errors_85 (fun x85 h => ?_)
    obtain ⟨x86, ρ86, hc86, h⟩ := c2S h
    refine wm_cV (ci := 12) (As := [vR (some (b + 12)), vI (10 * x70), vI x85]) (st := []) E lk_M_198 rfl im_M_errorsTo sl_M_errorsTo (ov_rc _ _ _) (RC_M_errorsTo (xl X) X.1 b (ρ62) μ hW 13 (10 * x70) x85 (by decide) _ _ hc86) rfl rfl (by rw [hR]; decide) (by rw [hR]; decide) (Nat.le_of_ble_eq_true rfl) dM_errors_86 ?_
    exact wm_iret (rt := .int) E hQ (rrI h) (rrM h) (by decide) (by decide) dM_errors_89
  · have h := (if_neg c56).symm.trans h
    refine wm_iconst (x := 0) E dM_errors_59 (by decide) ?_
    exact wm_iret (rt := .int) E hQ (rrI h) (rrM h) (by decide) (by decide) dM_errors_60
def RB_M_errors_44  (v1 : Int32) (v2 : Int32) (ρ : RS) : Option (Int32 × RS) := RB_M_errors_49 v1 v2 1 (ρ)
set_option maxHeartbeats 4000000 in
set_option maxRecDepth 100000 in
theorem rw_M_errors_44 {X : CX} (E : EV X prog_13_method_28_code 4 "PlaceFinderModel" (some .int)) {μ0 μ : Mem} {b : Nat} {r : Int32} {ρ' : RS} (hQ : RQ X 0 0 μ0 (some (vI r)) (ov b ρ' μ)) (hR : xR X = { frames := 3, cells := 0, slots := 0, locals := 67 }) (hI : X.2.2.2.2.2.2.2.2.2.2.2.1.name = "errors") (hW : mW μ ≤ b)  (v1 : Int32) (v2 : Int32) (ρ : RS) (h : RB_M_errors_44  v1 v2 ρ = some (r, ρ')) : WM X 4 44 [(0, vR (some b)), (1, vI v1), (2, vI v2)] [vR (some b)] 0 0 (ov b ρ μ) := by
  have h : (RB_M_errors_49 v1 v2 1 (ρ)) = some (r, ρ') := h
  refine wm_iconst (x := 1) E dM_errors_44 (by decide) ?_
  refine wm_goto (tgt := 49) E dM_errors_45 (by decide) ?_
  refine wm_pick (lv' := [(0, vR (some b)), (1, vI v1), (2, vI v2)]) [0, 1, 2] rfl ?_
  exact rw_M_errors_49 E hQ hR hI hW v1 v2 1 (ρ) h
def RB_M_errors_28  (v1 : Int32) (v2 : Int32) (s1 : Int32) (s2 : Int32) (s4 : Int32) (ρ : RS) : Option (Int32 × RS) := b1 (rgI ρ 9 30 s4) (fun x28 => b1 (R_M_in s1 s2 (x28 - 1)) (fun x31 => if x31 = 0 then RB_M_errors_44 v1 v2 (ρ) else if (ri ρ 21) = 0 then RB_M_errors_44 v1 v2 (ρ) else RB_M_errors_49 v1 v2 0 (ρ)))
set_option maxHeartbeats 4000000 in
set_option maxRecDepth 100000 in
theorem rw_M_errors_28 {X : CX} (E : EV X prog_13_method_28_code 4 "PlaceFinderModel" (some .int)) {μ0 μ : Mem} {b : Nat} {r : Int32} {ρ' : RS} (hQ : RQ X 0 0 μ0 (some (vI r)) (ov b ρ' μ)) (hR : xR X = { frames := 3, cells := 0, slots := 0, locals := 67 }) (hI : X.2.2.2.2.2.2.2.2.2.2.2.1.name = "errors") (hW : mW μ ≤ b)  (v1 : Int32) (v2 : Int32) (s1 : Int32) (s2 : Int32) (s4 : Int32) (ρ : RS) (h : RB_M_errors_28  v1 v2 s1 s2 s4 ρ = some (r, ρ')) : WM X 4 28 [(0, vR (some b)), (1, vI v1), (2, vI v2)] [vI s4, vR (some (b + 8)), vI s2, vI s1, vR (some b)] 0 0 (ov b ρ μ) := by
  have h : (b1 (rgI ρ 9 30 s4) (fun x28 => b1 (R_M_in s1 s2 (x28 - 1)) (fun x31 => if x31 = 0 then RB_M_errors_44 v1 v2 (ρ) else if (ri ρ 21) = 0 then RB_M_errors_44 v1 v2 (ρ) else RB_M_errors_49 v1 v2 0 (ρ)))) = some (r, ρ') := h
  refine wm_riald E (by decide) rfl rfl (by decide) (by decide) h dM_errors_28 (fun x28 h => ?_)
  refine wm_iconst (x := 1) E dM_errors_29 (by decide) ?_
  refine wm_isub E dM_errors_30 ?_
  obtain ⟨x31, hc31, h⟩ := b1S h
  refine wm_cS (As := [vI s1, vI s2, vI (x28 - 1)]) (st := [vR (some b)]) E lk_M_139 sc_M_in (RC_M_in (xl X) X.1 s1 s2 (x28 - 1) _ _ hc31) rfl rfl (by rw [hR]; decide) (by rw [hR]; decide) (Nat.le_of_ble_eq_true rfl) dM_errors_31 ?_
  refine wm_if_eq (tgt := 44) E dM_errors_34 (by decide) (fun c34 => ?_) (fun c34 => ?_)
  · have h := (if_pos c34).symm.trans h
    refine wm_pick (lv' := [(0, vR (some b)), (1, vI v1), (2, vI v2)]) [0, 1, 2] rfl ?_
    exact rw_M_errors_44 E hQ hR hI hW v1 v2 (ρ) h
  · have h := (if_neg c34).symm.trans h
    refine wm_aload_n E dM_errors_37 rfl (j := 0) rfl ?_
    refine wm_rget (v := vI (ri ρ 21)) E fd_M_172 rfl dM_errors_38 ?_
    refine wm_if_ne (tgt := 48) E dM_errors_41 (by decide) (fun c41 => ?_) (fun c41 => ?_)
    · have h := (if_neg c41).symm.trans h
      refine wm_iconst (x := 0) E dM_errors_48 (by decide) ?_
      refine wm_pick (lv' := [(0, vR (some b)), (1, vI v1), (2, vI v2)]) [0, 1, 2] rfl ?_
      exact rw_M_errors_49 E hQ hR hI hW v1 v2 0 (ρ) h
    · have h := (if_pos c41).symm.trans h
      refine wm_pick (lv' := [(0, vR (some b)), (1, vI v1), (2, vI v2)]) [0, 1, 2] rfl ?_
      exact rw_M_errors_44 E hQ hR hI hW v1 v2 (ρ) h
def R_M_errors (v1 : Int32) (v2 : Int32) (ρ : RS) : Option (Int32 × RS) := b1 (R_M_isPlace v1 (ρ)) (fun x3 => if x3 = 0 then RB_M_errors_44 v1 v2 (ρ) else b1 (R_M_isPlace v1 (ρ)) (fun x17 => if x17 = 0 then RB_M_errors_28 v1 v2 v2 0 0 (ρ) else RB_M_errors_28 v1 v2 v2 0 v1 (ρ)))
set_option maxHeartbeats 4000000 in
set_option maxRecDepth 100000 in
theorem RC_M_errors (l : Launch) (G : GG) (b : Nat) (ρ : RS) (μ : Mem) (hW : mW μ ≤ b) (v1 : Int32) (v2 : Int32) (r : Int32) (ρ' : RS) (h : R_M_errors v1 v2 ρ = some (r, ρ')) : CT l G y_M_errors prog_13_method_28_code 4 (some .int) 3 0 0 67 (ov b ρ μ) [vR (some b), vI v1, vI v2] (some (vI r)) (ov b ρ' μ) := by
  refine wm_met (lv := [(0, vR (some b)), (1, vI v1), (2, vI v2)]) (by decide +kernel) (Nat.le_of_ble_eq_true rfl) rfl (fun X E hQ hR hI => ?_)
  have h : (b1 (R_M_isPlace v1 (ρ)) (fun x3 => if x3 = 0 then RB_M_errors_44 v1 v2 (ρ) else b1 (R_M_isPlace v1 (ρ)) (fun x17 => if x17 = 0 then RB_M_errors_28 v1 v2 v2 0 0 (ρ) else RB_M_errors_28 v1 v2 v2 0 v1 (ρ)))) = some (r, ρ') := h
  refine wm_aload_n E dM_errors_0 rfl (j := 0) rfl ?_
  refine wm_aload_n E dM_errors_1 rfl (j := 0) rfl ?_
  refine wm_iload_n E dM_errors_2 rfl (j := 1) rfl ?_
  obtain ⟨x3, hc3, h⟩ := b1S h
  refine wm_cV (ci := 12) (As := [vI v1]) (st := [vR (some b)]) E lk_M_154 rfl im_M_isPlace sl_M_isPlace (ov_rc _ _ _) (RC_M_isPlace (xl X) X.1 b (ρ) μ v1 _ hc3) rfl rfl (by rw [hR]; decide) (by rw [hR]; decide) (Nat.le_of_ble_eq_true rfl) dM_errors_3 ?_
  refine wm_if_eq (tgt := 44) E dM_errors_6 (by decide) (fun c6 => ?_) (fun c6 => ?_)
  · have h := (if_pos c6).symm.trans h
    refine wm_pick (lv' := [(0, vR (some b)), (1, vI v1), (2, vI v2)]) [0, 1, 2] rfl ?_
    exact rw_M_errors_44 E hQ hR hI hW v1 v2 (ρ) h
  · have h := (if_neg c6).symm.trans h
    refine wm_iload_n E dM_errors_9 rfl (j := 2) rfl ?_
    refine wm_iconst (x := 0) E dM_errors_10 (by decide) ?_
    refine wm_aload_n E dM_errors_11 rfl (j := 0) rfl ?_
    refine wm_rget (v := vR (some (b + 8))) E fd_M_31 rfl dM_errors_12 ?_
    refine wm_aload_n E dM_errors_15 rfl (j := 0) rfl ?_
    refine wm_iload_n E dM_errors_16 rfl (j := 1) rfl ?_
    obtain ⟨x17, hc17, h⟩ := b1S h
    refine wm_cV (ci := 12) (As := [vI v1]) (st := [vR (some (b + 8)), vI 0, vI v2, vR (some b)]) E lk_M_154 rfl im_M_isPlace sl_M_isPlace (ov_rc _ _ _) (RC_M_isPlace (xl X) X.1 b (ρ) μ v1 _ hc17) rfl rfl (by rw [hR]; decide) (by rw [hR]; decide) (Nat.le_of_ble_eq_true rfl) dM_errors_17 ?_
    refine wm_if_eq (tgt := 27) E dM_errors_20 (by decide) (fun c20 => ?_) (fun c20 => ?_)
    · have h := (if_pos c20).symm.trans h
      refine wm_iconst (x := 0) E dM_errors_27 (by decide) ?_
      refine wm_pick (lv' := [(0, vR (some b)), (1, vI v1), (2, vI v2)]) [0, 1, 2] rfl ?_
      exact rw_M_errors_28 E hQ hR hI hW v1 v2 v2 0 0 (ρ) h
    · have h := (if_neg c20).symm.trans h
      refine wm_iload_n E dM_errors_23 rfl (j := 1) rfl ?_
      refine wm_goto (tgt := 28) E dM_errors_24 (by decide) ?_
      refine wm_pick (lv' := [(0, vR (some b)), (1, vI v1), (2, vI v2)]) [0, 1, 2] rfl ?_
      exact rw_M_errors_28 E hQ hR hI hW v1 v2 v2 0 v1 (ρ) h
def RB_M_parentOf_57 (ρ : RS) (k5 : Int32 → Int32 → Int32 → Int32 → Option Int32) (v1 : Int32) (v2 : Int32) (v3 : Int32) (v4 : Int32) : Option Int32 := k5 v1 v2 v3 (v4 + 1)
set_option maxHeartbeats 4000000 in
set_option maxRecDepth 100000 in
theorem rw_M_parentOf_57 {X : CX} (E : EV X prog_13_method_29_code 5 "PlaceFinderModel" (some .int)) {μ0 μ : Mem} {b : Nat} {r : Int32} {ρ : RS} (hQ : RQ X 0 0 μ0 (some (vI r)) (ov b ρ μ)) (hR : xR X = { frames := 1, cells := 0, slots := 0, locals := 22 }) (hI : X.2.2.2.2.2.2.2.2.2.2.2.1.name = "parentOf") (k5 : Int32 → Int32 → Int32 → Int32 → Option Int32) (hk5 : ∀ (v1 : Int32) (v2 : Int32) (v3 : Int32) (v4 : Int32), k5 v1 v2 v3 v4 = some r → WM X 5 5 [(0, vR (some b)), (1, vI v1), (2, vI v2), (3, vI v3), (4, vI v4)] [] 0 0 (ov b ρ μ)) (v1 : Int32) (v2 : Int32) (v3 : Int32) (v4 : Int32) (h : RB_M_parentOf_57 ρ k5 v1 v2 v3 v4 = some r) : WM X 5 57 [(0, vR (some b)), (1, vI v1), (2, vI v2), (3, vI v3), (4, vI v4)] [] 0 0 (ov b ρ μ) := by
  have h : (k5 v1 v2 v3 (v4 + 1)) = some r := h
  refine wm_iinc (lv' := [(4, vI (v4 + 1)), (0, vR (some b)), (1, vI v1), (2, vI v2), (3, vI v3)]) (d := 1) E dM_parentOf_57 (by decide) (j := 4) rfl (by decide) rfl ?_
  refine wm_goto (tgt := 5) E dM_parentOf_60 (by decide) ?_
  refine wm_pick (lv' := [(0, vR (some b)), (1, vI v1), (2, vI v2), (3, vI v3), (4, vI (v4 + 1))]) [1, 2, 3, 4, 0] rfl ?_
  exact hk5 v1 v2 v3 (v4 + 1) h
def RB_M_parentOf_5 (ρ : RS)  : Nat → Int32 → Int32 → Int32 → Int32 → Option Int32
  | 0, _, _, _, _ => none
  | n + 1, v1, v2, v3, v4 => b1 (rgI ρ 14 30 v1) (fun x12 => if x12 ≤ v4 then some (v3) else b1 (rgI ρ 16 120 ((4 * v1) + v4)) (fun x27 => b1 (rgI ρ 17 120 ((4 * v1) + v4)) (fun x38 => b1 (R_M_in v2 x27 x38) (fun x39 => if x39 = 0 then RB_M_parentOf_57 ρ (fun v1 v2 v3 v4 => RB_M_parentOf_5 ρ n v1 v2 v3 v4) v1 v2 v3 v4 else b1 (rgI ρ 15 120 ((4 * v1) + v4)) (fun x55 => RB_M_parentOf_57 ρ (fun v1 v2 v3 v4 => RB_M_parentOf_5 ρ n v1 v2 v3 v4) v1 v2 x55 v4)))))
set_option maxHeartbeats 4000000 in
set_option maxRecDepth 100000 in
theorem rw_M_parentOf_5 {X : CX} (E : EV X prog_13_method_29_code 5 "PlaceFinderModel" (some .int)) {μ0 μ : Mem} {b : Nat} {r : Int32} {ρ : RS} (hQ : RQ X 0 0 μ0 (some (vI r)) (ov b ρ μ)) (hR : xR X = { frames := 1, cells := 0, slots := 0, locals := 22 }) (hI : X.2.2.2.2.2.2.2.2.2.2.2.1.name = "parentOf")  (n : Nat) : ∀ (v1 : Int32) (v2 : Int32) (v3 : Int32) (v4 : Int32) (h : RB_M_parentOf_5 ρ  n v1 v2 v3 v4 = some r), WM X 5 5 [(0, vR (some b)), (1, vI v1), (2, vI v2), (3, vI v3), (4, vI v4)] [] 0 0 (ov b ρ μ) := by
  induction n with
  | zero => intro v1 v2 v3 v4 h; cases h
  | succ n ih =>
    intro v1 v2 v3 v4 h
    have h : (b1 (rgI ρ 14 30 v1) (fun x12 => if x12 ≤ v4 then some (v3) else b1 (rgI ρ 16 120 ((4 * v1) + v4)) (fun x27 => b1 (rgI ρ 17 120 ((4 * v1) + v4)) (fun x38 => b1 (R_M_in v2 x27 x38) (fun x39 => if x39 = 0 then RB_M_parentOf_57 ρ (fun v1 v2 v3 v4 => RB_M_parentOf_5 ρ n v1 v2 v3 v4) v1 v2 v3 v4 else b1 (rgI ρ 15 120 ((4 * v1) + v4)) (fun x55 => RB_M_parentOf_57 ρ (fun v1 v2 v3 v4 => RB_M_parentOf_5 ρ n v1 v2 v3 v4) v1 v2 x55 v4)))))) = some r := h
    refine wm_iload E dM_parentOf_5 (j := 4) rfl ?_
    refine wm_aload_n E dM_parentOf_7 rfl (j := 0) rfl ?_
    refine wm_rget (v := vR (some (b + 13))) E fd_M_46 rfl dM_parentOf_8 ?_
    refine wm_iload_n E dM_parentOf_11 rfl (j := 1) rfl ?_
    refine wm_riald E (by decide) rfl rfl (by decide) (by decide) h dM_parentOf_12 (fun x12 h => ?_)
    refine wm_icmp_ge (tgt := 63) E dM_parentOf_13 (by decide) (fun c13 => ?_) (fun c13 => ?_)
    · have h := (if_pos c13).symm.trans h
      refine wm_iload_n E dM_parentOf_63 rfl (j := 3) rfl ?_
      exact wm_iret (rt := .int) E hQ (rqI0 h) rfl (by decide) (by decide) dM_parentOf_64
    · have h := (if_neg c13).symm.trans h
      refine wm_iload_n E dM_parentOf_16 rfl (j := 2) rfl ?_
      refine wm_aload_n E dM_parentOf_17 rfl (j := 0) rfl ?_
      refine wm_rget (v := vR (some (b + 15))) E fd_M_52 rfl dM_parentOf_18 ?_
      refine wm_iconst (x := 4) E dM_parentOf_21 (by decide) ?_
      refine wm_iload_n E dM_parentOf_22 rfl (j := 1) rfl ?_
      refine wm_imul E dM_parentOf_23 ?_
      refine wm_iload E dM_parentOf_24 (j := 4) rfl ?_
      refine wm_iadd E dM_parentOf_26 ?_
      refine wm_riald E (by decide) rfl rfl (by decide) (by decide) h dM_parentOf_27 (fun x27 h => ?_)
      refine wm_aload_n E dM_parentOf_28 rfl (j := 0) rfl ?_
      refine wm_rget (v := vR (some (b + 16))) E fd_M_55 rfl dM_parentOf_29 ?_
      refine wm_iconst (x := 4) E dM_parentOf_32 (by decide) ?_
      refine wm_iload_n E dM_parentOf_33 rfl (j := 1) rfl ?_
      refine wm_imul E dM_parentOf_34 ?_
      refine wm_iload E dM_parentOf_35 (j := 4) rfl ?_
      refine wm_iadd E dM_parentOf_37 ?_
      refine wm_riald E (by decide) rfl rfl (by decide) (by decide) h dM_parentOf_38 (fun x38 h => ?_)
      obtain ⟨x39, hc39, h⟩ := b1S h
      refine wm_cS (As := [vI v2, vI x27, vI x38]) (st := []) E lk_M_139 sc_M_in (RC_M_in (xl X) X.1 v2 x27 x38 _ _ hc39) rfl rfl (by rw [hR]; decide) (by rw [hR]; decide) (Nat.le_of_ble_eq_true rfl) dM_parentOf_39 ?_
      refine wm_if_eq (tgt := 57) E dM_parentOf_42 (by decide) (fun c42 => ?_) (fun c42 => ?_)
      · have h := (if_pos c42).symm.trans h
        refine wm_pick (lv' := [(0, vR (some b)), (1, vI v1), (2, vI v2), (3, vI v3), (4, vI v4)]) [0, 1, 2, 3, 4] rfl ?_
        exact rw_M_parentOf_57 E hQ hR hI (fun v1 v2 v3 v4 => RB_M_parentOf_5 ρ n v1 v2 v3 v4) ih v1 v2 v3 v4 h
      · have h := (if_neg c42).symm.trans h
        refine wm_aload_n E dM_parentOf_45 rfl (j := 0) rfl ?_
        refine wm_rget (v := vR (some (b + 14))) E fd_M_49 rfl dM_parentOf_46 ?_
        refine wm_iconst (x := 4) E dM_parentOf_49 (by decide) ?_
        refine wm_iload_n E dM_parentOf_50 rfl (j := 1) rfl ?_
        refine wm_imul E dM_parentOf_51 ?_
        refine wm_iload E dM_parentOf_52 (j := 4) rfl ?_
        refine wm_iadd E dM_parentOf_54 ?_
        refine wm_riald E (by decide) rfl rfl (by decide) (by decide) h dM_parentOf_55 (fun x55 h => ?_)
        refine wm_istore_n (lv' := [(3, vI x55), (0, vR (some b)), (1, vI v1), (2, vI v2), (4, vI v4)]) E dM_parentOf_56 rfl (by decide) rfl ?_
        refine wm_pick (lv' := [(0, vR (some b)), (1, vI v1), (2, vI v2), (3, vI x55), (4, vI v4)]) [1, 2, 3, 0, 4] rfl ?_
        exact rw_M_parentOf_57 E hQ hR hI (fun v1 v2 v3 v4 => RB_M_parentOf_5 ρ n v1 v2 v3 v4) ih v1 v2 x55 v4 h
def R_M_parentOf (v1 : Int32) (v2 : Int32) (ρ : RS) : Option Int32 := b0 ((-1)) (fun x1 => RB_M_parentOf_5 ρ fu v1 v2 x1 0)
set_option maxHeartbeats 4000000 in
set_option maxRecDepth 100000 in
theorem RC_M_parentOf (l : Launch) (G : GG) (b : Nat) (ρ : RS) (μ : Mem) (v1 : Int32) (v2 : Int32) (r : Int32) (h : R_M_parentOf v1 v2 ρ = some r) : CT l G y_M_parentOf prog_13_method_29_code 5 (some .int) 1 0 0 22 (ov b ρ μ) [vR (some b), vI v1, vI v2] (some (vI r)) (ov b ρ μ) := by
  refine wm_met (lv := [(0, vR (some b)), (1, vI v1), (2, vI v2)]) (by decide +kernel) (Nat.le_of_ble_eq_true rfl) rfl (fun X E hQ hR hI => ?_)
  have h : (b0 ((-1)) (fun x1 => RB_M_parentOf_5 ρ fu v1 v2 x1 0)) = some r := h
  refine wm_iconst (x := -1) E dM_parentOf_0 (by decide) ?_
  refine wm_letI h (fun x1 h => ?_)
  refine wm_istore_n (lv' := [(3, vI x1), (0, vR (some b)), (1, vI v1), (2, vI v2)]) E dM_parentOf_1 rfl (by decide) rfl ?_
  refine wm_iconst (x := 0) E dM_parentOf_2 (by decide) ?_
  refine wm_istore (lv' := [(4, vI 0), (3, vI x1), (0, vR (some b)), (1, vI v1), (2, vI v2)]) E dM_parentOf_3 (by decide) rfl ?_
  refine wm_pick (lv' := [(0, vR (some b)), (1, vI v1), (2, vI v2), (3, vI x1), (4, vI 0)]) [2, 3, 4, 1, 0] rfl ?_
  exact rw_M_parentOf_5 E hQ hR hI fu v1 v2 x1 0 h
def RB_M_isAbove_42 (ρ : RS)   : Option Int32 := gd (¬ okZ 0 = true) (some (0))
set_option maxHeartbeats 4000000 in
set_option maxRecDepth 100000 in
theorem rw_M_isAbove_42 {X : CX} (E : EV X prog_13_method_30_code 6 "PlaceFinderModel" (some .boolean)) {μ0 μ : Mem} {b : Nat} {r : Int32} {ρ : RS} (hQ : RQ X 0 0 μ0 (some (vI r)) (ov b ρ μ)) (hR : xR X = { frames := 2, cells := 0, slots := 0, locals := 46 }) (hI : X.2.2.2.2.2.2.2.2.2.2.2.1.name = "isAbove")   (h : RB_M_isAbove_42 ρ   = some r) : WM X 6 42 [] [] 0 0 (ov b ρ μ) := by
  have h : (gd (¬ okZ 0 = true) (some (0))) = some r := h
  refine wm_iconst (x := 0) E dM_isAbove_42 (by decide) ?_
  obtain ⟨hz43, h⟩ := gdS h
  exact wm_zret (rt := .boolean) E hQ (rqI0 h) rfl (okZN hz43) (by decide) (by decide) dM_isAbove_43
def RB_M_isAbove_6 (ρ : RS)  : Nat → Int32 → Int32 → Int32 → Int32 → Option Int32
  | 0, _, _, _, _ => none
  | n + 1, v1, v3, v4, v5 => if 30 < v5 then RB_M_isAbove_42 ρ  else if v4 = ((-1)) then RB_M_isAbove_42 ρ  else if v4 = v1 then gd (¬ okZ 1 = true) (some (1)) else b1 (R_M_parentOf v4 v3 (ρ)) (fun x31 => (fun v1 v3 v4 v5 => RB_M_isAbove_6 ρ n v1 v3 v4 v5) v1 v3 x31 (v5 + 1))
set_option maxHeartbeats 4000000 in
set_option maxRecDepth 100000 in
theorem rw_M_isAbove_6 {X : CX} (E : EV X prog_13_method_30_code 6 "PlaceFinderModel" (some .boolean)) {μ0 μ : Mem} {b : Nat} {r : Int32} {ρ : RS} (hQ : RQ X 0 0 μ0 (some (vI r)) (ov b ρ μ)) (hR : xR X = { frames := 2, cells := 0, slots := 0, locals := 46 }) (hI : X.2.2.2.2.2.2.2.2.2.2.2.1.name = "isAbove")  (n : Nat) : ∀ (v1 : Int32) (v3 : Int32) (v4 : Int32) (v5 : Int32) (h : RB_M_isAbove_6 ρ  n v1 v3 v4 v5 = some r), WM X 6 6 [(0, vR (some b)), (1, vI v1), (3, vI v3), (4, vI v4), (5, vI v5)] [] 0 0 (ov b ρ μ) := by
  induction n with
  | zero => intro v1 v3 v4 v5 h; cases h
  | succ n ih =>
    intro v1 v3 v4 v5 h
    have h : (if 30 < v5 then RB_M_isAbove_42 ρ  else if v4 = ((-1)) then RB_M_isAbove_42 ρ  else if v4 = v1 then gd (¬ okZ 1 = true) (some (1)) else b1 (R_M_parentOf v4 v3 (ρ)) (fun x31 => (fun v1 v3 v4 v5 => RB_M_isAbove_6 ρ n v1 v3 v4 v5) v1 v3 x31 (v5 + 1))) = some r := h
    refine wm_iload E dM_isAbove_6 (j := 4) rfl ?_
    refine wm_bipush (x := 30) E dM_isAbove_8 (by decide) ?_
    refine wm_icmp_gt (tgt := 42) E dM_isAbove_10 (by decide) (fun c10 => ?_) (fun c10 => ?_)
    · have h := (if_pos c10).symm.trans h
      refine wm_pick (lv' := []) [] rfl ?_
      exact rw_M_isAbove_42 E hQ hR hI  h
    · have h := (if_neg c10).symm.trans h
      refine wm_iload E dM_isAbove_13 (j := 3) rfl ?_
      refine wm_iconst (x := -1) E dM_isAbove_15 (by decide) ?_
      refine wm_icmp_eq (tgt := 42) E dM_isAbove_16 (by decide) (fun c16 => ?_) (fun c16 => ?_)
      · have h := (if_pos c16).symm.trans h
        refine wm_pick (lv' := []) [] rfl ?_
        exact rw_M_isAbove_42 E hQ hR hI  h
      · have h := (if_neg c16).symm.trans h
        refine wm_iload E dM_isAbove_19 (j := 3) rfl ?_
        refine wm_iload_n E dM_isAbove_21 rfl (j := 1) rfl ?_
        refine wm_icmp_ne (tgt := 27) E dM_isAbove_22 (by decide) (fun c22 => ?_) (fun c22 => ?_)
        · have h := (if_neg c22).symm.trans h
          refine wm_aload_n E dM_isAbove_27 rfl (j := 0) rfl ?_
          refine wm_iload E dM_isAbove_28 (j := 3) rfl ?_
          refine wm_iload_n E dM_isAbove_30 rfl (j := 2) rfl ?_
          obtain ⟨x31, hc31, h⟩ := b1S h
          refine wm_cV (ci := 12) (As := [vI v4, vI v3]) (st := []) E lk_M_202 rfl im_M_parentOf sl_M_parentOf (ov_rc _ _ _) (RC_M_parentOf (xl X) X.1 b (ρ) μ v4 v3 _ hc31) rfl rfl (by rw [hR]; decide) (by rw [hR]; decide) (Nat.le_of_ble_eq_true rfl) dM_isAbove_31 ?_
          refine wm_istore (lv' := [(4, vI x31), (0, vR (some b)), (1, vI v1), (3, vI v3), (5, vI v5)]) E dM_isAbove_34 (by decide) rfl ?_
          refine wm_iinc (lv' := [(5, vI (v5 + 1)), (4, vI x31), (0, vR (some b)), (1, vI v1), (3, vI v3)]) (d := 1) E dM_isAbove_36 (by decide) (j := 4) rfl (by decide) rfl ?_
          refine wm_goto (tgt := 6) E dM_isAbove_39 (by decide) ?_
          refine wm_pick (lv' := [(0, vR (some b)), (1, vI v1), (3, vI v3), (4, vI x31), (5, vI (v5 + 1))]) [2, 3, 4, 1, 0] rfl ?_
          exact ih v1 v3 x31 (v5 + 1) h
        · have h := (if_pos c22).symm.trans h
          refine wm_iconst (x := 1) E dM_isAbove_25 (by decide) ?_
          obtain ⟨hz26, h⟩ := gdS h
          exact wm_zret (rt := .boolean) E hQ (rqI0 h) rfl (okZN hz26) (by decide) (by decide) dM_isAbove_26
def R_M_isAbove (v1 : Int32) (v2 : Int32) (v3 : Int32) (ρ : RS) : Option Int32 := RB_M_isAbove_6 ρ fu v1 v3 v2 0
set_option maxHeartbeats 4000000 in
set_option maxRecDepth 100000 in
theorem RC_M_isAbove (l : Launch) (G : GG) (b : Nat) (ρ : RS) (μ : Mem) (v1 : Int32) (v2 : Int32) (v3 : Int32) (r : Int32) (h : R_M_isAbove v1 v2 v3 ρ = some r) : CT l G y_M_isAbove prog_13_method_30_code 6 (some .boolean) 2 0 0 46 (ov b ρ μ) [vR (some b), vI v1, vI v2, vI v3] (some (vI r)) (ov b ρ μ) := by
  refine wm_met (lv := [(0, vR (some b)), (1, vI v1), (2, vI v2), (3, vI v3)]) (by decide +kernel) (Nat.le_of_ble_eq_true rfl) rfl (fun X E hQ hR hI => ?_)
  have h : (RB_M_isAbove_6 ρ fu v1 v3 v2 0) = some r := h
  refine wm_iload_n E dM_isAbove_0 rfl (j := 2) rfl ?_
  refine wm_istore (lv' := [(4, vI v2), (0, vR (some b)), (1, vI v1), (2, vI v2), (3, vI v3)]) E dM_isAbove_1 (by decide) rfl ?_
  refine wm_iconst (x := 0) E dM_isAbove_3 (by decide) ?_
  refine wm_istore (lv' := [(5, vI 0), (4, vI v2), (0, vR (some b)), (1, vI v1), (2, vI v2), (3, vI v3)]) E dM_isAbove_4 (by decide) rfl ?_
  refine wm_pick (lv' := [(0, vR (some b)), (1, vI v1), (3, vI v3), (4, vI v2), (5, vI 0)]) [2, 3, 5, 1, 0] rfl ?_
  exact rw_M_isAbove_6 E hQ hR hI fu v1 v3 v2 0 h
